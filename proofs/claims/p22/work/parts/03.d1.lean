theorem dX0_init_0 : decode cX0_init 0 = .ok (.aload_n 0, 1) := by decide +kernel
theorem dX0_init_1 : decode cX0_init 1 = .ok (.invokespecial 1, 3) := by decide +kernel
theorem dX0_init_4 : decode cX0_init 4 = .ok (.aload_n 0, 1) := by decide +kernel
theorem dX0_init_5 : decode cX0_init 5 = .ok (.iconst 2, 1) := by decide +kernel
theorem dX0_init_6 : decode cX0_init 6 = .ok (.putfield 7, 3) := by decide +kernel
theorem dX0_init_9 : decode cX0_init 9 = .ok (.aload_n 0, 1) := by decide +kernel
theorem dX0_init_10 : decode cX0_init 10 = .ok (.iconst 5, 1) := by decide +kernel
theorem dX0_init_11 : decode cX0_init 11 = .ok (.putfield 13, 3) := by decide +kernel
theorem dX0_init_14 : decode cX0_init 14 = .ok (.aload_n 0, 1) := by decide +kernel
theorem dX0_init_15 : decode cX0_init 15 = .ok (.iconst 1, 1) := by decide +kernel
theorem dX0_init_16 : decode cX0_init 16 = .ok (.putfield 16, 3) := by decide +kernel
theorem dX0_init_19 : decode cX0_init 19 = .ok (.aload_n 0, 1) := by decide +kernel
theorem dX0_init_20 : decode cX0_init 20 = .ok (.bipush 10, 2) := by decide +kernel
theorem dX0_init_22 : decode cX0_init 22 = .ok (.putfield 20, 3) := by decide +kernel
theorem dX0_init_25 : decode cX0_init 25 = .ok (.aload_n 0, 1) := by decide +kernel
theorem dX0_init_26 : decode cX0_init 26 = .ok (.iconst 0, 1) := by decide +kernel
theorem dX0_init_27 : decode cX0_init 27 = .ok (.putfield 23, 3) := by decide +kernel
theorem dX0_init_30 : decode cX0_init 30 = .ok (.aload_n 0, 1) := by decide +kernel
theorem dX0_init_31 : decode cX0_init 31 = .ok (.iload_n 1, 1) := by decide +kernel
theorem dX0_init_32 : decode cX0_init 32 = .ok (.putfield 26, 3) := by decide +kernel
theorem dX0_init_35 : decode cX0_init 35 = .ok (.return_, 1) := by decide +kernel
set_option maxRecDepth 20000 in
theorem ggX1_init_Jx4a65c_init_da8c8 : GoodIn wsX1_init wsJx4a65c_init_da8c8 := goodIn_r _ [20, 21, 22, 23, 24, 25, 26, 27, 28, 29, 30, 31, 32, 2, 3, 33, 34, 35] (by decide +kernel) (by decide +kernel)
set_option maxRecDepth 20000 in
theorem gX1_init_Jx4a65c_init_da8c8 : GoodIn wsX1_init (wsJx4a65c_init_da8c8) := ggX1_init_Jx4a65c_init_da8c8
theorem dX1_init_0 : decode cX1_init 0 = .ok (.aload_n 0, 1) := by decide +kernel
theorem dX1_init_1 : decode cX1_init 1 = .ok (.invokespecial 3, 3) := by decide +kernel
theorem dX1_init_4 : decode cX1_init 4 = .ok (.aload_n 0, 1) := by decide +kernel
theorem dX1_init_5 : decode cX1_init 5 = .ok (.new 9, 3) := by decide +kernel
theorem dX1_init_8 : decode cX1_init 8 = .ok (.dup, 1) := by decide +kernel
theorem dX1_init_9 : decode cX1_init 9 = .ok (.invokespecial 11, 3) := by decide +kernel
theorem dX1_init_12 : decode cX1_init 12 = .ok (.putfield 12, 3) := by decide +kernel
theorem dX1_init_15 : decode cX1_init 15 = .ok (.aload_n 0, 1) := by decide +kernel
theorem dX1_init_16 : decode cX1_init 16 = .ok (.bipush 6, 2) := by decide +kernel
theorem dX1_init_18 : decode cX1_init 18 = .ok (.newarray .int, 2) := by decide +kernel
theorem dX1_init_20 : decode cX1_init 20 = .ok (.putfield 18, 3) := by decide +kernel
theorem dX1_init_23 : decode cX1_init 23 = .ok (.aload_n 0, 1) := by decide +kernel
theorem dX1_init_24 : decode cX1_init 24 = .ok (.iconst 0, 1) := by decide +kernel
theorem dX1_init_25 : decode cX1_init 25 = .ok (.putfield 22, 3) := by decide +kernel
theorem dX1_init_28 : decode cX1_init 28 = .ok (.aload_n 0, 1) := by decide +kernel
theorem dX1_init_29 : decode cX1_init 29 = .ok (.iconst (-1), 1) := by decide +kernel
theorem dX1_init_30 : decode cX1_init 30 = .ok (.putfield 26, 3) := by decide +kernel
theorem dX1_init_33 : decode cX1_init 33 = .ok (.aload_n 0, 1) := by decide +kernel
theorem dX1_init_34 : decode cX1_init 34 = .ok (.iconst (-1), 1) := by decide +kernel
theorem dX1_init_35 : decode cX1_init 35 = .ok (.putfield 29, 3) := by decide +kernel
theorem dX1_init_38 : decode cX1_init 38 = .ok (.aload_n 0, 1) := by decide +kernel
theorem dX1_init_39 : decode cX1_init 39 = .ok (.iconst (-1), 1) := by decide +kernel
theorem dX1_init_40 : decode cX1_init 40 = .ok (.putfield 32, 3) := by decide +kernel
theorem dX1_init_43 : decode cX1_init 43 = .ok (.aload_n 0, 1) := by decide +kernel
theorem dX1_init_44 : decode cX1_init 44 = .ok (.iconst 0, 1) := by decide +kernel
theorem dX1_init_45 : decode cX1_init 45 = .ok (.putfield 35, 3) := by decide +kernel
theorem dX1_init_48 : decode cX1_init 48 = .ok (.aload_n 0, 1) := by decide +kernel
theorem dX1_init_49 : decode cX1_init 49 = .ok (.iconst (-1), 1) := by decide +kernel
theorem dX1_init_50 : decode cX1_init 50 = .ok (.putfield 38, 3) := by decide +kernel
theorem dX1_init_53 : decode cX1_init 53 = .ok (.aload_n 0, 1) := by decide +kernel
theorem dX1_init_54 : decode cX1_init 54 = .ok (.aconst_null, 1) := by decide +kernel
theorem dX1_init_55 : decode cX1_init 55 = .ok (.putfield 41, 3) := by decide +kernel
theorem dX1_init_58 : decode cX1_init 58 = .ok (.aload_n 0, 1) := by decide +kernel
theorem dX1_init_59 : decode cX1_init 59 = .ok (.iconst 0, 1) := by decide +kernel
theorem dX1_init_60 : decode cX1_init 60 = .ok (.putfield 45, 3) := by decide +kernel
theorem dX1_init_63 : decode cX1_init 63 = .ok (.return_, 1) := by decide +kernel
set_option maxRecDepth 20000 in
theorem ggX2_init_X0_init : GoodIn wsX2_init wsX0_init := goodIn_r _ [14, 15, 2, 3, 16, 17, 18, 19, 20, 21, 57, 58, 59, 60, 61, 62] (by decide +kernel) (by decide +kernel)
set_option maxRecDepth 20000 in
theorem gX2_init_X0_init_n25 : GoodIn wsX2_init (wsX0_init) := ggX2_init_X0_init
set_option maxRecDepth 20000 in
theorem ggX2_init_X1_init : GoodIn wsX2_init wsX1_init := goodIn_r _ [23, 24, 2, 3, 25, 26, 27, 28, 29, 30, 31, 32, 33, 34, 35, 36, 37, 38, 39, 40, 41, 42, 43, 44, 45, 46, 47, 48, 49, 50, 51, 52, 53, 73, 74, 75, 63, 64, 65, 66, 67, 68, 69, 70, 71, 72] (by decide +kernel) (by decide +kernel)
set_option maxRecDepth 20000 in
theorem gX2_init_X1_init_n28 : GoodIn wsX2_init (wsX1_init) := ggX2_init_X1_init
theorem dX2_init_0 : decode cX2_init 0 = .ok (.aload_n 0, 1) := by decide +kernel
theorem dX2_init_1 : decode cX2_init 1 = .ok (.invokespecial 1, 3) := by decide +kernel
theorem dX2_init_4 : decode cX2_init 4 = .ok (.aload_n 0, 1) := by decide +kernel
theorem dX2_init_5 : decode cX2_init 5 = .ok (.bipush 6, 2) := by decide +kernel
theorem dX2_init_7 : decode cX2_init 7 = .ok (.anewarray 9, 3) := by decide +kernel
theorem dX2_init_10 : decode cX2_init 10 = .ok (.putfield 11, 3) := by decide +kernel
theorem dX2_init_13 : decode cX2_init 13 = .ok (.aload_n 0, 1) := by decide +kernel
theorem dX2_init_14 : decode cX2_init 14 = .ok (.bipush 8, 2) := by decide +kernel
theorem dX2_init_16 : decode cX2_init 16 = .ok (.anewarray 15, 3) := by decide +kernel
theorem dX2_init_19 : decode cX2_init 19 = .ok (.putfield 17, 3) := by decide +kernel
theorem dX2_init_22 : decode cX2_init 22 = .ok (.aload_n 0, 1) := by decide +kernel
theorem dX2_init_23 : decode cX2_init 23 = .ok (.iconst 0, 1) := by decide +kernel
theorem dX2_init_24 : decode cX2_init 24 = .ok (.putfield 21, 3) := by decide +kernel
theorem dX2_init_27 : decode cX2_init 27 = .ok (.iconst 0, 1) := by decide +kernel
theorem dX2_init_28 : decode cX2_init 28 = .ok (.istore_n 1, 1) := by decide +kernel
theorem dX2_init_29 : decode cX2_init 29 = .ok (.iload_n 1, 1) := by decide +kernel
theorem dX2_init_30 : decode cX2_init 30 = .ok (.bipush 6, 2) := by decide +kernel
theorem dX2_init_32 : decode cX2_init 32 = .ok (.if_icmp .ge 23, 3) := by decide +kernel
theorem dX2_init_35 : decode cX2_init 35 = .ok (.aload_n 0, 1) := by decide +kernel
theorem dX2_init_36 : decode cX2_init 36 = .ok (.getfield 11, 3) := by decide +kernel
theorem dX2_init_39 : decode cX2_init 39 = .ok (.iload_n 1, 1) := by decide +kernel
theorem dX2_init_40 : decode cX2_init 40 = .ok (.new 9, 3) := by decide +kernel
theorem dX2_init_43 : decode cX2_init 43 = .ok (.dup, 1) := by decide +kernel
theorem dX2_init_44 : decode cX2_init 44 = .ok (.iload_n 1, 1) := by decide +kernel
theorem dX2_init_45 : decode cX2_init 45 = .ok (.invokespecial 25, 3) := by decide +kernel
theorem dX2_init_48 : decode cX2_init 48 = .ok (.aastore, 1) := by decide +kernel
theorem dX2_init_49 : decode cX2_init 49 = .ok (.iinc 1 1, 3) := by decide +kernel
theorem dX2_init_52 : decode cX2_init 52 = .ok (.goto (-23), 3) := by decide +kernel
theorem dX2_init_55 : decode cX2_init 55 = .ok (.iconst 0, 1) := by decide +kernel
theorem dX2_init_56 : decode cX2_init 56 = .ok (.istore_n 1, 1) := by decide +kernel
theorem dX2_init_57 : decode cX2_init 57 = .ok (.iload_n 1, 1) := by decide +kernel
theorem dX2_init_58 : decode cX2_init 58 = .ok (.bipush 8, 2) := by decide +kernel
theorem dX2_init_60 : decode cX2_init 60 = .ok (.if_icmp .ge 22, 3) := by decide +kernel
theorem dX2_init_63 : decode cX2_init 63 = .ok (.aload_n 0, 1) := by decide +kernel
theorem dX2_init_64 : decode cX2_init 64 = .ok (.getfield 17, 3) := by decide +kernel
theorem dX2_init_67 : decode cX2_init 67 = .ok (.iload_n 1, 1) := by decide +kernel
theorem dX2_init_68 : decode cX2_init 68 = .ok (.new 15, 3) := by decide +kernel
theorem dX2_init_71 : decode cX2_init 71 = .ok (.dup, 1) := by decide +kernel
theorem dX2_init_72 : decode cX2_init 72 = .ok (.invokespecial 28, 3) := by decide +kernel
theorem dX2_init_75 : decode cX2_init 75 = .ok (.aastore, 1) := by decide +kernel
theorem dX2_init_76 : decode cX2_init 76 = .ok (.iinc 1 1, 3) := by decide +kernel
theorem dX2_init_79 : decode cX2_init 79 = .ok (.goto (-22), 3) := by decide +kernel
theorem dX2_init_82 : decode cX2_init 82 = .ok (.return_, 1) := by decide +kernel
set_option maxRecDepth 20000 in
theorem ggX2_setPavilion_X2_pavilionAt : GoodIn wsX2_setPavilion wsX2_pavilionAt := goodIn_ca (goodIn_r _ [7, 8, 9, 10, 17, 18, 19] (by decide +kernel) (by decide +kernel)) (goodIn_sub (fun _ h => List.mem_cons_of_mem _ (List.mem_append_right _ h)) (by decide +kernel))
set_option maxRecDepth 20000 in
theorem gX2_setPavilion_X2_pavilionAt : GoodIn wsX2_setPavilion (wsV RX2 29 RX2 yX2_pavilionAt wsX2_pavilionAt) := goodIn_app (goodIn_of _ (by decide +kernel)) ggX2_setPavilion_X2_pavilionAt
theorem dX2_setPavilion_0 : decode cX2_setPavilion 0 = .ok (.aload_n 0, 1) := by decide +kernel
theorem dX2_setPavilion_1 : decode cX2_setPavilion 1 = .ok (.iload_n 1, 1) := by decide +kernel
theorem dX2_setPavilion_2 : decode cX2_setPavilion 2 = .ok (.invokevirtual 29, 3) := by decide +kernel
theorem dX2_setPavilion_5 : decode cX2_setPavilion 5 = .ok (.astore 4, 2) := by decide +kernel
theorem dX2_setPavilion_7 : decode cX2_setPavilion 7 = .ok (.iload_n 2, 1) := by decide +kernel
theorem dX2_setPavilion_8 : decode cX2_setPavilion 8 = .ok (.iconst 1, 1) := by decide +kernel
theorem dX2_setPavilion_9 : decode cX2_setPavilion 9 = .ok (.if_icmp .lt 20, 3) := by decide +kernel
theorem dX2_setPavilion_12 : decode cX2_setPavilion 12 = .ok (.iload_n 2, 1) := by decide +kernel
theorem dX2_setPavilion_13 : decode cX2_setPavilion 13 = .ok (.bipush 8, 2) := by decide +kernel
theorem dX2_setPavilion_15 : decode cX2_setPavilion 15 = .ok (.if_icmp .gt 14, 3) := by decide +kernel
theorem dX2_setPavilion_18 : decode cX2_setPavilion 18 = .ok (.iload_n 3, 1) := by decide +kernel
theorem dX2_setPavilion_19 : decode cX2_setPavilion 19 = .ok (.iconst 1, 1) := by decide +kernel
theorem dX2_setPavilion_20 : decode cX2_setPavilion 20 = .ok (.if_icmp .lt 9, 3) := by decide +kernel
theorem dX2_setPavilion_23 : decode cX2_setPavilion 23 = .ok (.iload_n 3, 1) := by decide +kernel
theorem dX2_setPavilion_24 : decode cX2_setPavilion 24 = .ok (.bipush 60, 2) := by decide +kernel
theorem dX2_setPavilion_26 : decode cX2_setPavilion 26 = .ok (.if_icmp .le 13, 3) := by decide +kernel
theorem dX2_setPavilion_29 : decode cX2_setPavilion 29 = .ok (.new 33, 3) := by decide +kernel
theorem dX2_setPavilion_32 : decode cX2_setPavilion 32 = .ok (.dup, 1) := by decide +kernel
theorem dX2_setPavilion_33 : decode cX2_setPavilion 33 = .ok (.ldc 35, 2) := by decide +kernel
theorem dX2_setPavilion_35 : decode cX2_setPavilion 35 = .ok (.invokespecial 37, 3) := by decide +kernel
theorem dX2_setPavilion_38 : decode cX2_setPavilion 38 = .ok (.athrow, 1) := by decide +kernel
theorem dX2_setPavilion_39 : decode cX2_setPavilion 39 = .ok (.aload 4, 2) := by decide +kernel
theorem dX2_setPavilion_41 : decode cX2_setPavilion 41 = .ok (.iload_n 2, 1) := by decide +kernel
theorem dX2_setPavilion_42 : decode cX2_setPavilion 42 = .ok (.putfield 40, 3) := by decide +kernel
theorem dX2_setPavilion_45 : decode cX2_setPavilion 45 = .ok (.aload 4, 2) := by decide +kernel
theorem dX2_setPavilion_47 : decode cX2_setPavilion 47 = .ok (.iload_n 3, 1) := by decide +kernel
theorem dX2_setPavilion_48 : decode cX2_setPavilion 48 = .ok (.putfield 43, 3) := by decide +kernel
theorem dX2_setPavilion_51 : decode cX2_setPavilion 51 = .ok (.return_, 1) := by decide +kernel
set_option maxRecDepth 20000 in
theorem ggX2_open_X2_pavilionAt : GoodIn wsX2_open wsX2_pavilionAt := goodIn_ca (goodIn_r _ [5, 6, 7, 8, 36, 37, 38] (by decide +kernel) (by decide +kernel)) (goodIn_sub (fun _ h => List.mem_cons_of_mem _ (List.mem_append_right _ h)) (by decide +kernel))
set_option maxRecDepth 20000 in
theorem gX2_open_X2_pavilionAt : GoodIn wsX2_open (wsV RX2 29 RX2 yX2_pavilionAt wsX2_pavilionAt) := goodIn_app (goodIn_of _ (by decide +kernel)) ggX2_open_X2_pavilionAt
set_option maxRecDepth 20000 in
theorem ggX2_open_X2_emptyQueue : GoodIn wsX2_open wsX2_emptyQueue := goodIn_r _ [12, 13, 14, 15, 16, 4, 17, 18, 19, 20, 21, 22, 23, 24, 25, 26, 27, 28, 29, 36, 37, 38, 39, 40, 41, 42, 43, 44, 45, 46, 47, 48, 30, 31, 32, 33, 34, 35] (by decide +kernel) (by decide +kernel)
set_option maxRecDepth 20000 in
theorem gX2_open_X2_emptyQueue : GoodIn wsX2_open (wsV RX2 50 RX2 yX2_emptyQueue wsX2_emptyQueue) := goodIn_app (goodIn_of _ (by decide +kernel)) ggX2_open_X2_emptyQueue
theorem dX2_open_0 : decode cX2_open 0 = .ok (.aload_n 0, 1) := by decide +kernel
theorem dX2_open_1 : decode cX2_open 1 = .ok (.iload_n 1, 1) := by decide +kernel
theorem dX2_open_2 : decode cX2_open 2 = .ok (.invokevirtual 29, 3) := by decide +kernel
theorem dX2_open_5 : decode cX2_open 5 = .ok (.astore_n 3, 1) := by decide +kernel
theorem dX2_open_6 : decode cX2_open 6 = .ok (.aload_n 3, 1) := by decide +kernel
theorem dX2_open_7 : decode cX2_open 7 = .ok (.iload_n 2, 1) := by decide +kernel
theorem dX2_open_8 : decode cX2_open 8 = .ok (.putfield 46, 3) := by decide +kernel
theorem dX2_open_11 : decode cX2_open 11 = .ok (.iload_n 2, 1) := by decide +kernel
theorem dX2_open_12 : decode cX2_open 12 = .ok (.ifCond .eq 7, 3) := by decide +kernel
theorem dX2_open_15 : decode cX2_open 15 = .ok (.iconst 0, 1) := by decide +kernel
theorem dX2_open_16 : decode cX2_open 16 = .ok (.goto 8, 3) := by decide +kernel
theorem dX2_open_19 : decode cX2_open 19 = .ok (.aload_n 0, 1) := by decide +kernel
theorem dX2_open_20 : decode cX2_open 20 = .ok (.aload_n 3, 1) := by decide +kernel
theorem dX2_open_21 : decode cX2_open 21 = .ok (.invokevirtual 50, 3) := by decide +kernel
theorem dX2_open_24 : decode cX2_open 24 = .ok (.ireturn, 1) := by decide +kernel
set_option maxRecDepth 20000 in
theorem ggX2_plan_X2_visitorAt : GoodIn wsX2_plan wsX2_visitorAt := goodIn_ca (goodIn_r _ [7, 8, 9, 10, 106, 107, 108] (by decide +kernel) (by decide +kernel)) (goodIn_sub (fun _ h => List.mem_cons_of_mem _ (List.mem_append_right _ h)) (by decide +kernel))
set_option maxRecDepth 20000 in
theorem gX2_plan_X2_visitorAt : GoodIn wsX2_plan (wsV RX2 54 RX2 yX2_visitorAt wsX2_visitorAt) := goodIn_app (goodIn_of _ (by decide +kernel)) ggX2_plan_X2_visitorAt
set_option maxRecDepth 20000 in
theorem ggX2_plan_X2_pavilionAt : GoodIn wsX2_plan wsX2_pavilionAt := goodIn_ca (goodIn_r _ [14, 8, 9, 15, 106, 107, 108] (by decide +kernel) (by decide +kernel)) (goodIn_sub (fun _ h => List.mem_cons_of_mem _ (List.mem_append_right _ h)) (by decide +kernel))
set_option maxRecDepth 20000 in
theorem gX2_plan_X2_pavilionAt : GoodIn wsX2_plan (wsV RX2 29 RX2 yX2_pavilionAt wsX2_pavilionAt) := goodIn_app (goodIn_of _ (by decide +kernel)) ggX2_plan_X2_pavilionAt
set_option maxRecDepth 20000 in
theorem ggX2_plan_X2_indexInPlan : GoodIn wsX2_plan wsX2_indexInPlan := goodIn_r _ [19, 20, 21, 22, 23, 24, 25, 26, 27, 28, 29, 30, 31, 32, 33, 34, 35, 36, 37, 38, 39, 40, 41, 42, 96, 97, 98, 99, 100, 101, 102, 103, 104, 105, 109, 110, 111] (by decide +kernel) (by decide +kernel)
set_option maxRecDepth 20000 in
theorem gX2_plan_X2_indexInPlan : GoodIn wsX2_plan (wsV RX2 58 RX2 yX2_indexInPlan wsX2_indexInPlan) := goodIn_app (goodIn_of _ (by decide +kernel)) ggX2_plan_X2_indexInPlan
set_option maxRecDepth 20000 in
theorem ggX2_plan_Jx4a65c_add_9ea2d : GoodIn wsX2_plan wsJx4a65c_add_9ea2d := goodIn_r _ [46, 47, 48, 42, 25, 49, 50, 51, 23, 52, 53, 54, 55, 56, 57, 58, 59, 60, 61, 62, 63, 64, 65, 66, 67, 68, 69, 70, 71, 72, 73, 74, 75, 76, 77, 78, 79, 80, 81, 82, 83, 84, 85, 86, 87, 88, 89, 90, 91, 92, 93, 94, 95, 109, 110, 111] (by decide +kernel) (by decide +kernel)
set_option maxRecDepth 20000 in
theorem gX2_plan_Jx4a65c_add_9ea2d : GoodIn wsX2_plan (wsV RX2 71 RJx4a65c yJx4a65c_add_9ea2d wsJx4a65c_add_9ea2d) := goodIn_app (goodIn_of _ (by decide +kernel)) ggX2_plan_Jx4a65c_add_9ea2d
set_option maxRecDepth 20000 in
theorem ggX2_plan_Jx4a65c_size_8abf5 : GoodIn wsX2_plan wsJx4a65c_size_8abf5 := goodIn_r _ [24, 25, 109, 110, 111] (by decide +kernel) (by decide +kernel)
set_option maxRecDepth 20000 in
theorem gX2_plan_Jx4a65c_size_8abf5 : GoodIn wsX2_plan (wsV RX2 77 RJx4a65c yJx4a65c_size_8abf5 wsJx4a65c_size_8abf5) := goodIn_app (goodIn_of _ (by decide +kernel)) ggX2_plan_Jx4a65c_size_8abf5
theorem dX2_plan_0 : decode cX2_plan 0 = .ok (.aload_n 0, 1) := by decide +kernel
theorem dX2_plan_1 : decode cX2_plan 1 = .ok (.iload_n 1, 1) := by decide +kernel
theorem dX2_plan_2 : decode cX2_plan 2 = .ok (.invokevirtual 54, 3) := by decide +kernel
theorem dX2_plan_5 : decode cX2_plan 5 = .ok (.astore_n 3, 1) := by decide +kernel
theorem dX2_plan_6 : decode cX2_plan 6 = .ok (.aload_n 0, 1) := by decide +kernel
theorem dX2_plan_7 : decode cX2_plan 7 = .ok (.iload_n 2, 1) := by decide +kernel
theorem dX2_plan_8 : decode cX2_plan 8 = .ok (.invokevirtual 29, 3) := by decide +kernel
theorem dX2_plan_11 : decode cX2_plan 11 = .ok (.astore 4, 2) := by decide +kernel
theorem dX2_plan_13 : decode cX2_plan 13 = .ok (.aload_n 0, 1) := by decide +kernel
theorem dX2_plan_14 : decode cX2_plan 14 = .ok (.aload_n 3, 1) := by decide +kernel
theorem dX2_plan_15 : decode cX2_plan 15 = .ok (.aload 4, 2) := by decide +kernel
theorem dX2_plan_17 : decode cX2_plan 17 = .ok (.invokevirtual 58, 3) := by decide +kernel
theorem dX2_plan_20 : decode cX2_plan 20 = .ok (.iconst (-1), 1) := by decide +kernel
theorem dX2_plan_21 : decode cX2_plan 21 = .ok (.if_icmp .eq 13, 3) := by decide +kernel
theorem dX2_plan_24 : decode cX2_plan 24 = .ok (.new 62, 3) := by decide +kernel
theorem dX2_plan_27 : decode cX2_plan 27 = .ok (.dup, 1) := by decide +kernel
theorem dX2_plan_28 : decode cX2_plan 28 = .ok (.ldc 64, 2) := by decide +kernel
theorem dX2_plan_30 : decode cX2_plan 30 = .ok (.invokespecial 66, 3) := by decide +kernel
theorem dX2_plan_33 : decode cX2_plan 33 = .ok (.athrow, 1) := by decide +kernel
theorem dX2_plan_34 : decode cX2_plan 34 = .ok (.aload_n 3, 1) := by decide +kernel
theorem dX2_plan_35 : decode cX2_plan 35 = .ok (.getfield 67, 3) := by decide +kernel
theorem dX2_plan_38 : decode cX2_plan 38 = .ok (.aload 4, 2) := by decide +kernel
theorem dX2_plan_40 : decode cX2_plan 40 = .ok (.invokevirtual 71, 3) := by decide +kernel
theorem dX2_plan_43 : decode cX2_plan 43 = .ok (.pop, 1) := by decide +kernel
theorem dX2_plan_44 : decode cX2_plan 44 = .ok (.aload_n 3, 1) := by decide +kernel
theorem dX2_plan_45 : decode cX2_plan 45 = .ok (.getfield 67, 3) := by decide +kernel
theorem dX2_plan_48 : decode cX2_plan 48 = .ok (.invokevirtual 77, 3) := by decide +kernel
theorem dX2_plan_51 : decode cX2_plan 51 = .ok (.ireturn, 1) := by decide +kernel
set_option maxRecDepth 20000 in
theorem ggX2_drop_X2_visitorAt : GoodIn wsX2_drop wsX2_visitorAt := goodIn_ca (goodIn_r _ [7, 8, 9, 10, 83, 84, 85] (by decide +kernel) (by decide +kernel)) (goodIn_sub (fun _ h => List.mem_cons_of_mem _ (List.mem_append_right _ h)) (by decide +kernel))
set_option maxRecDepth 20000 in
theorem gX2_drop_X2_visitorAt : GoodIn wsX2_drop (wsV RX2 54 RX2 yX2_visitorAt wsX2_visitorAt) := goodIn_app (goodIn_of _ (by decide +kernel)) ggX2_drop_X2_visitorAt
set_option maxRecDepth 20000 in
theorem ggX2_drop_X2_pavilionAt : GoodIn wsX2_drop wsX2_pavilionAt := goodIn_ca (goodIn_r _ [14, 8, 9, 15, 83, 84, 85] (by decide +kernel) (by decide +kernel)) (goodIn_sub (fun _ h => List.mem_cons_of_mem _ (List.mem_append_right _ h)) (by decide +kernel))
set_option maxRecDepth 20000 in
theorem gX2_drop_X2_pavilionAt : GoodIn wsX2_drop (wsV RX2 29 RX2 yX2_pavilionAt wsX2_pavilionAt) := goodIn_app (goodIn_of _ (by decide +kernel)) ggX2_drop_X2_pavilionAt
set_option maxRecDepth 20000 in
theorem ggX2_drop_X2_indexInPlan : GoodIn wsX2_drop wsX2_indexInPlan := goodIn_r _ [19, 20, 21, 22, 23, 24, 25, 26, 27, 28, 29, 30, 31, 32, 33, 34, 35, 36, 37, 38, 39, 40, 41, 42, 73, 74, 75, 76, 77, 78, 79, 80, 81, 82, 86, 87, 88] (by decide +kernel) (by decide +kernel)
set_option maxRecDepth 20000 in
theorem gX2_drop_X2_indexInPlan : GoodIn wsX2_drop (wsV RX2 58 RX2 yX2_indexInPlan wsX2_indexInPlan) := goodIn_app (goodIn_of _ (by decide +kernel)) ggX2_drop_X2_indexInPlan
set_option maxRecDepth 20000 in
theorem ggX2_drop_Jx4a65c_remove_915e3 : GoodIn wsX2_drop wsJx4a65c_remove_915e3 := goodIn_r _ [46, 25, 42, 30, 31, 32, 33, 34, 35, 36, 37, 47, 48, 49, 23, 50, 51, 52, 53, 54, 55, 56, 86, 87, 88] (by decide +kernel) (by decide +kernel)
set_option maxRecDepth 20000 in
theorem gX2_drop_Jx4a65c_remove_915e3 : GoodIn wsX2_drop (wsV RX2 83 RJx4a65c yJx4a65c_remove_915e3 wsJx4a65c_remove_915e3) := goodIn_app (goodIn_of _ (by decide +kernel)) ggX2_drop_Jx4a65c_remove_915e3
set_option maxRecDepth 20000 in
theorem ggX2_drop_X2_isAt : GoodIn wsX2_drop wsX2_isAt := goodIn_r _ [60, 73, 74, 75, 76, 77, 78, 79, 80, 81, 82, 89, 90, 91, 92, 93, 94] (by decide +kernel) (by decide +kernel)
set_option maxRecDepth 20000 in
theorem gX2_drop_X2_isAt : GoodIn wsX2_drop (wsV RX2 87 RX2 yX2_isAt wsX2_isAt) := goodIn_app (goodIn_of _ (by decide +kernel)) ggX2_drop_X2_isAt
set_option maxRecDepth 20000 in
theorem ggX2_drop_X2_leaveQueue : GoodIn wsX2_drop wsX2_leaveQueue := goodIn_r _ [64, 10, 65, 66, 67, 6, 68, 69, 70, 71, 72, 83, 84, 85, 73, 74, 75, 76, 77, 78, 79, 80, 81, 82] (by decide +kernel) (by decide +kernel)
set_option maxRecDepth 20000 in
theorem gX2_drop_X2_leaveQueue : GoodIn wsX2_drop (wsV RX2 94 RX2 yX2_leaveQueue wsX2_leaveQueue) := goodIn_app (goodIn_of _ (by decide +kernel)) ggX2_drop_X2_leaveQueue
set_option maxRecDepth 20000 in
theorem ggX2_drop_Jx4a65c_size_8abf5 : GoodIn wsX2_drop wsJx4a65c_size_8abf5 := goodIn_r _ [24, 25, 86, 87, 88] (by decide +kernel) (by decide +kernel)
set_option maxRecDepth 20000 in
theorem gX2_drop_Jx4a65c_size_8abf5 : GoodIn wsX2_drop (wsV RX2 77 RJx4a65c yJx4a65c_size_8abf5 wsJx4a65c_size_8abf5) := goodIn_app (goodIn_of _ (by decide +kernel)) ggX2_drop_Jx4a65c_size_8abf5
theorem dX2_drop_0 : decode cX2_drop 0 = .ok (.aload_n 0, 1) := by decide +kernel
theorem dX2_drop_1 : decode cX2_drop 1 = .ok (.iload_n 1, 1) := by decide +kernel
theorem dX2_drop_2 : decode cX2_drop 2 = .ok (.invokevirtual 54, 3) := by decide +kernel
theorem dX2_drop_5 : decode cX2_drop 5 = .ok (.astore_n 3, 1) := by decide +kernel
theorem dX2_drop_6 : decode cX2_drop 6 = .ok (.aload_n 0, 1) := by decide +kernel
theorem dX2_drop_7 : decode cX2_drop 7 = .ok (.iload_n 2, 1) := by decide +kernel
theorem dX2_drop_8 : decode cX2_drop 8 = .ok (.invokevirtual 29, 3) := by decide +kernel
theorem dX2_drop_11 : decode cX2_drop 11 = .ok (.astore 4, 2) := by decide +kernel
theorem dX2_drop_13 : decode cX2_drop 13 = .ok (.aload_n 0, 1) := by decide +kernel
theorem dX2_drop_14 : decode cX2_drop 14 = .ok (.aload_n 3, 1) := by decide +kernel
theorem dX2_drop_15 : decode cX2_drop 15 = .ok (.aload 4, 2) := by decide +kernel
theorem dX2_drop_17 : decode cX2_drop 17 = .ok (.invokevirtual 58, 3) := by decide +kernel
theorem dX2_drop_20 : decode cX2_drop 20 = .ok (.istore 5, 2) := by decide +kernel
theorem dX2_drop_22 : decode cX2_drop 22 = .ok (.iload 5, 2) := by decide +kernel
theorem dX2_drop_24 : decode cX2_drop 24 = .ok (.iconst (-1), 1) := by decide +kernel
theorem dX2_drop_25 : decode cX2_drop 25 = .ok (.if_icmp .ne 13, 3) := by decide +kernel
theorem dX2_drop_28 : decode cX2_drop 28 = .ok (.new 62, 3) := by decide +kernel
theorem dX2_drop_31 : decode cX2_drop 31 = .ok (.dup, 1) := by decide +kernel
theorem dX2_drop_32 : decode cX2_drop 32 = .ok (.ldc 81, 2) := by decide +kernel
theorem dX2_drop_34 : decode cX2_drop 34 = .ok (.invokespecial 66, 3) := by decide +kernel
theorem dX2_drop_37 : decode cX2_drop 37 = .ok (.athrow, 1) := by decide +kernel
theorem dX2_drop_38 : decode cX2_drop 38 = .ok (.aload_n 3, 1) := by decide +kernel
theorem dX2_drop_39 : decode cX2_drop 39 = .ok (.getfield 67, 3) := by decide +kernel
theorem dX2_drop_42 : decode cX2_drop 42 = .ok (.iload 5, 2) := by decide +kernel
theorem dX2_drop_44 : decode cX2_drop 44 = .ok (.invokevirtual 83, 3) := by decide +kernel
theorem dX2_drop_47 : decode cX2_drop 47 = .ok (.pop, 1) := by decide +kernel
theorem dX2_drop_48 : decode cX2_drop 48 = .ok (.aload_n 0, 1) := by decide +kernel
theorem dX2_drop_49 : decode cX2_drop 49 = .ok (.aload_n 3, 1) := by decide +kernel
theorem dX2_drop_50 : decode cX2_drop 50 = .ok (.iconst 1, 1) := by decide +kernel
theorem dX2_drop_51 : decode cX2_drop 51 = .ok (.aload 4, 2) := by decide +kernel
theorem dX2_drop_53 : decode cX2_drop 53 = .ok (.invokevirtual 87, 3) := by decide +kernel
theorem dX2_drop_56 : decode cX2_drop 56 = .ok (.ifCond .eq 15, 3) := by decide +kernel
theorem dX2_drop_59 : decode cX2_drop 59 = .ok (.aload_n 3, 1) := by decide +kernel
theorem dX2_drop_60 : decode cX2_drop 60 = .ok (.getfield 91, 3) := by decide +kernel
theorem dX2_drop_63 : decode cX2_drop 63 = .ok (.ifCond .ne 8, 3) := by decide +kernel
theorem dX2_drop_66 : decode cX2_drop 66 = .ok (.aload_n 0, 1) := by decide +kernel
theorem dX2_drop_67 : decode cX2_drop 67 = .ok (.aload_n 3, 1) := by decide +kernel
theorem dX2_drop_68 : decode cX2_drop 68 = .ok (.invokevirtual 94, 3) := by decide +kernel
theorem dX2_drop_71 : decode cX2_drop 71 = .ok (.aload_n 3, 1) := by decide +kernel
theorem dX2_drop_72 : decode cX2_drop 72 = .ok (.getfield 67, 3) := by decide +kernel
theorem dX2_drop_75 : decode cX2_drop 75 = .ok (.invokevirtual 77, 3) := by decide +kernel
theorem dX2_drop_78 : decode cX2_drop 78 = .ok (.ireturn, 1) := by decide +kernel
set_option maxRecDepth 20000 in
theorem ggX2_ask_X2_visitorAt : GoodIn wsX2_ask wsX2_visitorAt := goodIn_ca (goodIn_r _ [7, 8, 9, 10, 41, 42, 43] (by decide +kernel) (by decide +kernel)) (goodIn_sub (fun _ h => List.mem_cons_of_mem _ (List.mem_append_right _ h)) (by decide +kernel))
set_option maxRecDepth 20000 in
theorem gX2_ask_X2_visitorAt : GoodIn wsX2_ask (wsV RX2 54 RX2 yX2_visitorAt wsX2_visitorAt) := goodIn_app (goodIn_of _ (by decide +kernel)) ggX2_ask_X2_visitorAt
set_option maxRecDepth 20000 in
theorem ggX2_ask_X2_pavilionAt : GoodIn wsX2_ask wsX2_pavilionAt := goodIn_ca (goodIn_r _ [14, 8, 9, 15, 41, 42, 43] (by decide +kernel) (by decide +kernel)) (goodIn_sub (fun _ h => List.mem_cons_of_mem _ (List.mem_append_right _ h)) (by decide +kernel))
set_option maxRecDepth 20000 in
theorem gX2_ask_X2_pavilionAt : GoodIn wsX2_ask (wsV RX2 29 RX2 yX2_pavilionAt wsX2_pavilionAt) := goodIn_app (goodIn_of _ (by decide +kernel)) ggX2_ask_X2_pavilionAt
set_option maxRecDepth 20000 in
theorem ggX2_ask_X2_firstFreeTurn : GoodIn wsX2_ask wsX2_firstFreeTurn := goodIn_r _ [19, 20, 21, 22, 23, 6, 24, 10, 41, 42, 43, 25, 26, 27, 28, 29, 30, 31, 32, 33, 34] (by decide +kernel) (by decide +kernel)
set_option maxRecDepth 20000 in
theorem gX2_ask_X2_firstFreeTurn : GoodIn wsX2_ask (wsV RX2 103 RX2 yX2_firstFreeTurn wsX2_firstFreeTurn) := goodIn_app (goodIn_of _ (by decide +kernel)) ggX2_ask_X2_firstFreeTurn
theorem dX2_ask_0 : decode cX2_ask 0 = .ok (.aload_n 0, 1) := by decide +kernel
theorem dX2_ask_1 : decode cX2_ask 1 = .ok (.iload_n 1, 1) := by decide +kernel
theorem dX2_ask_2 : decode cX2_ask 2 = .ok (.invokevirtual 54, 3) := by decide +kernel
theorem dX2_ask_5 : decode cX2_ask 5 = .ok (.astore_n 3, 1) := by decide +kernel
theorem dX2_ask_6 : decode cX2_ask 6 = .ok (.aload_n 0, 1) := by decide +kernel
theorem dX2_ask_7 : decode cX2_ask 7 = .ok (.iload_n 2, 1) := by decide +kernel
theorem dX2_ask_8 : decode cX2_ask 8 = .ok (.invokevirtual 29, 3) := by decide +kernel
theorem dX2_ask_11 : decode cX2_ask 11 = .ok (.astore 4, 2) := by decide +kernel
theorem dX2_ask_13 : decode cX2_ask 13 = .ok (.aload_n 3, 1) := by decide +kernel
theorem dX2_ask_14 : decode cX2_ask 14 = .ok (.getfield 98, 3) := by decide +kernel
theorem dX2_ask_17 : decode cX2_ask 17 = .ok (.iconst (-1), 1) := by decide +kernel
theorem dX2_ask_18 : decode cX2_ask 18 = .ok (.if_icmp .ne 11, 3) := by decide +kernel
theorem dX2_ask_21 : decode cX2_ask 21 = .ok (.aload 4, 2) := by decide +kernel
theorem dX2_ask_23 : decode cX2_ask 23 = .ok (.getfield 46, 3) := by decide +kernel
theorem dX2_ask_26 : decode cX2_ask 26 = .ok (.ifCond .ne 13, 3) := by decide +kernel
theorem dX2_ask_29 : decode cX2_ask 29 = .ok (.new 62, 3) := by decide +kernel
theorem dX2_ask_32 : decode cX2_ask 32 = .ok (.dup, 1) := by decide +kernel
theorem dX2_ask_33 : decode cX2_ask 33 = .ok (.ldc 101, 2) := by decide +kernel
theorem dX2_ask_35 : decode cX2_ask 35 = .ok (.invokespecial 66, 3) := by decide +kernel
theorem dX2_ask_38 : decode cX2_ask 38 = .ok (.athrow, 1) := by decide +kernel
theorem dX2_ask_39 : decode cX2_ask 39 = .ok (.aload_n 3, 1) := by decide +kernel
theorem dX2_ask_40 : decode cX2_ask 40 = .ok (.aload_n 0, 1) := by decide +kernel
theorem dX2_ask_41 : decode cX2_ask 41 = .ok (.aload 4, 2) := by decide +kernel
theorem dX2_ask_43 : decode cX2_ask 43 = .ok (.invokevirtual 103, 3) := by decide +kernel
theorem dX2_ask_46 : decode cX2_ask 46 = .ok (.putfield 98, 3) := by decide +kernel
theorem dX2_ask_49 : decode cX2_ask 49 = .ok (.aload_n 3, 1) := by decide +kernel
theorem dX2_ask_50 : decode cX2_ask 50 = .ok (.aload 4, 2) := by decide +kernel
theorem dX2_ask_52 : decode cX2_ask 52 = .ok (.putfield 106, 3) := by decide +kernel
theorem dX2_ask_55 : decode cX2_ask 55 = .ok (.aload_n 3, 1) := by decide +kernel
theorem dX2_ask_56 : decode cX2_ask 56 = .ok (.getfield 98, 3) := by decide +kernel
theorem dX2_ask_59 : decode cX2_ask 59 = .ok (.ireturn, 1) := by decide +kernel
set_option maxRecDepth 20000 in
theorem ggX2_advance_X2_passMinute : GoodIn wsX2_advance wsX2_passMinute := goodIn_r _ [10, 5, 11, 12, 13, 9, 14, 15, 16, 17, 18, 19, 20, 21, 22, 23, 24, 25, 26, 27, 28, 29, 30, 31, 32, 33, 34, 35, 36, 37, 38, 39, 40, 41, 42, 43, 44, 45, 46, 47, 48, 49, 50, 51, 52, 53, 54, 55, 56, 57, 58, 59, 60, 61, 62, 63, 64, 65, 66, 67, 68, 69, 70, 71, 72, 73, 74, 75, 76, 77, 78, 79, 80, 81, 82, 83, 84, 85, 86, 87, 88, 89, 90, 91, 92, 93, 94, 95, 96, 97, 98, 99, 100, 101, 102, 103, 104, 105, 106, 107, 108, 109, 110, 111, 112, 113, 114, 115, 116, 117, 118, 119, 120, 121, 122, 123, 124, 125, 126] (by decide +kernel) (by decide +kernel)
set_option maxRecDepth 20000 in
theorem gX2_advance_X2_passMinute : GoodIn wsX2_advance (wsV RX2 114 RX2 yX2_passMinute wsX2_passMinute) := goodIn_app (goodIn_of _ (by decide +kernel)) ggX2_advance_X2_passMinute
theorem dX2_advance_0 : decode cX2_advance 0 = .ok (.iload_n 1, 1) := by decide +kernel
theorem dX2_advance_1 : decode cX2_advance 1 = .ok (.iconst 1, 1) := by decide +kernel
theorem dX2_advance_2 : decode cX2_advance 2 = .ok (.if_icmp .lt 9, 3) := by decide +kernel
theorem dX2_advance_5 : decode cX2_advance 5 = .ok (.iload_n 1, 1) := by decide +kernel
theorem dX2_advance_6 : decode cX2_advance 6 = .ok (.bipush 60, 2) := by decide +kernel
theorem dX2_advance_8 : decode cX2_advance 8 = .ok (.if_icmp .le 13, 3) := by decide +kernel
theorem dX2_advance_11 : decode cX2_advance 11 = .ok (.new 33, 3) := by decide +kernel
theorem dX2_advance_14 : decode cX2_advance 14 = .ok (.dup, 1) := by decide +kernel
theorem dX2_advance_15 : decode cX2_advance 15 = .ok (.ldc 110, 2) := by decide +kernel
theorem dX2_advance_17 : decode cX2_advance 17 = .ok (.invokespecial 37, 3) := by decide +kernel
theorem dX2_advance_20 : decode cX2_advance 20 = .ok (.athrow, 1) := by decide +kernel
theorem dX2_advance_21 : decode cX2_advance 21 = .ok (.aload_n 0, 1) := by decide +kernel
theorem dX2_advance_22 : decode cX2_advance 22 = .ok (.getfield 21, 3) := by decide +kernel
theorem dX2_advance_25 : decode cX2_advance 25 = .ok (.iload_n 1, 1) := by decide +kernel
theorem dX2_advance_26 : decode cX2_advance 26 = .ok (.iadd, 1) := by decide +kernel
theorem dX2_advance_27 : decode cX2_advance 27 = .ok (.sipush 1200, 3) := by decide +kernel
theorem dX2_advance_30 : decode cX2_advance 30 = .ok (.if_icmp .le 13, 3) := by decide +kernel
theorem dX2_advance_33 : decode cX2_advance 33 = .ok (.new 62, 3) := by decide +kernel
theorem dX2_advance_36 : decode cX2_advance 36 = .ok (.dup, 1) := by decide +kernel
theorem dX2_advance_37 : decode cX2_advance 37 = .ok (.ldc 112, 2) := by decide +kernel
theorem dX2_advance_39 : decode cX2_advance 39 = .ok (.invokespecial 66, 3) := by decide +kernel
theorem dX2_advance_42 : decode cX2_advance 42 = .ok (.athrow, 1) := by decide +kernel
theorem dX2_advance_43 : decode cX2_advance 43 = .ok (.iconst 0, 1) := by decide +kernel
theorem dX2_advance_44 : decode cX2_advance 44 = .ok (.istore_n 2, 1) := by decide +kernel
theorem dX2_advance_45 : decode cX2_advance 45 = .ok (.iload_n 2, 1) := by decide +kernel
theorem dX2_advance_46 : decode cX2_advance 46 = .ok (.iload_n 1, 1) := by decide +kernel
theorem dX2_advance_47 : decode cX2_advance 47 = .ok (.if_icmp .ge 13, 3) := by decide +kernel
theorem dX2_advance_50 : decode cX2_advance 50 = .ok (.aload_n 0, 1) := by decide +kernel
theorem dX2_advance_51 : decode cX2_advance 51 = .ok (.invokevirtual 114, 3) := by decide +kernel
theorem dX2_advance_54 : decode cX2_advance 54 = .ok (.iinc 2 1, 3) := by decide +kernel
theorem dX2_advance_57 : decode cX2_advance 57 = .ok (.goto (-12), 3) := by decide +kernel
theorem dX2_advance_60 : decode cX2_advance 60 = .ok (.aload_n 0, 1) := by decide +kernel
theorem dX2_advance_61 : decode cX2_advance 61 = .ok (.getfield 21, 3) := by decide +kernel
theorem dX2_advance_64 : decode cX2_advance 64 = .ok (.ireturn, 1) := by decide +kernel
set_option maxRecDepth 20000 in
theorem ggX2_send_X2_visitorAt : GoodIn wsX2_send wsX2_visitorAt := goodIn_ca (goodIn_r _ [7, 8, 9, 10, 36, 37, 38] (by decide +kernel) (by decide +kernel)) (goodIn_sub (fun _ h => List.mem_cons_of_mem _ (List.mem_append_right _ h)) (by decide +kernel))
set_option maxRecDepth 20000 in
theorem gX2_send_X2_visitorAt : GoodIn wsX2_send (wsV RX2 54 RX2 yX2_visitorAt wsX2_visitorAt) := goodIn_app (goodIn_of _ (by decide +kernel)) ggX2_send_X2_visitorAt
set_option maxRecDepth 20000 in
theorem ggX2_send_X2_pavilionAt : GoodIn wsX2_send wsX2_pavilionAt := goodIn_ca (goodIn_r _ [14, 8, 9, 15, 36, 37, 38] (by decide +kernel) (by decide +kernel)) (goodIn_sub (fun _ h => List.mem_cons_of_mem _ (List.mem_append_right _ h)) (by decide +kernel))
set_option maxRecDepth 20000 in
theorem gX2_send_X2_pavilionAt : GoodIn wsX2_send (wsV RX2 29 RX2 yX2_pavilionAt wsX2_pavilionAt) := goodIn_app (goodIn_of _ (by decide +kernel)) ggX2_send_X2_pavilionAt
set_option maxRecDepth 20000 in
theorem ggX2_send_X2_hasStamp : GoodIn wsX2_send wsX2_hasStamp := goodIn_r _ [19, 26, 27, 28, 29, 30, 31, 32, 33, 34, 35, 20, 21, 22, 23, 24, 25] (by decide +kernel) (by decide +kernel)
set_option maxRecDepth 20000 in
theorem gX2_send_X2_hasStamp : GoodIn wsX2_send (wsV RX2 117 RX2 yX2_hasStamp wsX2_hasStamp) := goodIn_app (goodIn_of _ (by decide +kernel)) ggX2_send_X2_hasStamp
theorem dX2_send_0 : decode cX2_send 0 = .ok (.aload_n 0, 1) := by decide +kernel
theorem dX2_send_1 : decode cX2_send 1 = .ok (.iload_n 1, 1) := by decide +kernel
theorem dX2_send_2 : decode cX2_send 2 = .ok (.invokevirtual 54, 3) := by decide +kernel
theorem dX2_send_5 : decode cX2_send 5 = .ok (.astore_n 3, 1) := by decide +kernel
theorem dX2_send_6 : decode cX2_send 6 = .ok (.aload_n 0, 1) := by decide +kernel
theorem dX2_send_7 : decode cX2_send 7 = .ok (.iload_n 2, 1) := by decide +kernel
theorem dX2_send_8 : decode cX2_send 8 = .ok (.invokevirtual 29, 3) := by decide +kernel
theorem dX2_send_11 : decode cX2_send 11 = .ok (.astore 4, 2) := by decide +kernel
theorem dX2_send_13 : decode cX2_send 13 = .ok (.aload_n 0, 1) := by decide +kernel
theorem dX2_send_14 : decode cX2_send 14 = .ok (.aload_n 3, 1) := by decide +kernel
theorem dX2_send_15 : decode cX2_send 15 = .ok (.aload 4, 2) := by decide +kernel
theorem dX2_send_17 : decode cX2_send 17 = .ok (.invokevirtual 117, 3) := by decide +kernel
theorem dX2_send_20 : decode cX2_send 20 = .ok (.ifCond .ne 13, 3) := by decide +kernel
theorem dX2_send_23 : decode cX2_send 23 = .ok (.new 62, 3) := by decide +kernel
theorem dX2_send_26 : decode cX2_send 26 = .ok (.dup, 1) := by decide +kernel
theorem dX2_send_27 : decode cX2_send 27 = .ok (.ldc 121, 2) := by decide +kernel
theorem dX2_send_29 : decode cX2_send 29 = .ok (.invokespecial 66, 3) := by decide +kernel
theorem dX2_send_32 : decode cX2_send 32 = .ok (.athrow, 1) := by decide +kernel
theorem dX2_send_33 : decode cX2_send 33 = .ok (.aload 4, 2) := by decide +kernel
theorem dX2_send_35 : decode cX2_send 35 = .ok (.getfield 123, 3) := by decide +kernel
theorem dX2_send_38 : decode cX2_send 38 = .ok (.ifCond .ne 16, 3) := by decide +kernel
theorem dX2_send_41 : decode cX2_send 41 = .ok (.aload 4, 2) := by decide +kernel
theorem dX2_send_43 : decode cX2_send 43 = .ok (.dup, 1) := by decide +kernel
theorem dX2_send_44 : decode cX2_send 44 = .ok (.getfield 126, 3) := by decide +kernel
theorem dX2_send_47 : decode cX2_send 47 = .ok (.iconst 1, 1) := by decide +kernel
theorem dX2_send_48 : decode cX2_send 48 = .ok (.iadd, 1) := by decide +kernel
theorem dX2_send_49 : decode cX2_send 49 = .ok (.putfield 126, 3) := by decide +kernel
theorem dX2_send_52 : decode cX2_send 52 = .ok (.iconst 0, 1) := by decide +kernel
theorem dX2_send_53 : decode cX2_send 53 = .ok (.ireturn, 1) := by decide +kernel
theorem dX2_send_54 : decode cX2_send 54 = .ok (.aload 4, 2) := by decide +kernel
theorem dX2_send_56 : decode cX2_send 56 = .ok (.dup, 1) := by decide +kernel
theorem dX2_send_57 : decode cX2_send 57 = .ok (.getfield 123, 3) := by decide +kernel
theorem dX2_send_60 : decode cX2_send 60 = .ok (.iconst 1, 1) := by decide +kernel
theorem dX2_send_61 : decode cX2_send 61 = .ok (.isub, 1) := by decide +kernel
theorem dX2_send_62 : decode cX2_send 62 = .ok (.putfield 123, 3) := by decide +kernel
theorem dX2_send_65 : decode cX2_send 65 = .ok (.aload_n 3, 1) := by decide +kernel
theorem dX2_send_66 : decode cX2_send 66 = .ok (.getfield 129, 3) := by decide +kernel
theorem dX2_send_69 : decode cX2_send 69 = .ok (.aload 4, 2) := by decide +kernel
theorem dX2_send_71 : decode cX2_send 71 = .ok (.getfield 133, 3) := by decide +kernel
theorem dX2_send_74 : decode cX2_send 74 = .ok (.dup2, 1) := by decide +kernel
theorem dX2_send_75 : decode cX2_send 75 = .ok (.iaload, 1) := by decide +kernel
theorem dX2_send_76 : decode cX2_send 76 = .ok (.iconst 1, 1) := by decide +kernel
theorem dX2_send_77 : decode cX2_send 77 = .ok (.iadd, 1) := by decide +kernel
theorem dX2_send_78 : decode cX2_send 78 = .ok (.iastore, 1) := by decide +kernel
theorem dX2_send_79 : decode cX2_send 79 = .ok (.iconst 1, 1) := by decide +kernel
theorem dX2_send_80 : decode cX2_send 80 = .ok (.ireturn, 1) := by decide +kernel
theorem dX2_reprint_0 : decode cX2_reprint 0 = .ok (.iload_n 1, 1) := by decide +kernel
theorem dX2_reprint_1 : decode cX2_reprint 1 = .ok (.iconst 1, 1) := by decide +kernel
theorem dX2_reprint_2 : decode cX2_reprint 2 = .ok (.if_icmp .lt 10, 3) := by decide +kernel
theorem dX2_reprint_5 : decode cX2_reprint 5 = .ok (.iload_n 1, 1) := by decide +kernel
theorem dX2_reprint_6 : decode cX2_reprint 6 = .ok (.sipush 1000, 3) := by decide +kernel
theorem dX2_reprint_9 : decode cX2_reprint 9 = .ok (.if_icmp .le 13, 3) := by decide +kernel
theorem dX2_reprint_12 : decode cX2_reprint 12 = .ok (.new 33, 3) := by decide +kernel
theorem dX2_reprint_15 : decode cX2_reprint 15 = .ok (.dup, 1) := by decide +kernel
theorem dX2_reprint_16 : decode cX2_reprint 16 = .ok (.ldc 136, 2) := by decide +kernel
theorem dX2_reprint_18 : decode cX2_reprint 18 = .ok (.invokespecial 37, 3) := by decide +kernel
theorem dX2_reprint_21 : decode cX2_reprint 21 = .ok (.athrow, 1) := by decide +kernel
theorem dX2_reprint_22 : decode cX2_reprint 22 = .ok (.iconst 0, 1) := by decide +kernel
theorem dX2_reprint_23 : decode cX2_reprint 23 = .ok (.istore_n 2, 1) := by decide +kernel
theorem dX2_reprint_24 : decode cX2_reprint 24 = .ok (.aload_n 0, 1) := by decide +kernel
theorem dX2_reprint_25 : decode cX2_reprint 25 = .ok (.getfield 11, 3) := by decide +kernel
theorem dX2_reprint_28 : decode cX2_reprint 28 = .ok (.astore_n 3, 1) := by decide +kernel
theorem dX2_reprint_29 : decode cX2_reprint 29 = .ok (.aload_n 3, 1) := by decide +kernel
theorem dX2_reprint_30 : decode cX2_reprint 30 = .ok (.arraylength, 1) := by decide +kernel
theorem dX2_reprint_31 : decode cX2_reprint 31 = .ok (.istore 4, 2) := by decide +kernel
theorem dX2_reprint_33 : decode cX2_reprint 33 = .ok (.iconst 0, 1) := by decide +kernel
theorem dX2_reprint_34 : decode cX2_reprint 34 = .ok (.istore 5, 2) := by decide +kernel
theorem dX2_reprint_36 : decode cX2_reprint 36 = .ok (.iload 5, 2) := by decide +kernel
theorem dX2_reprint_38 : decode cX2_reprint 38 = .ok (.iload 4, 2) := by decide +kernel
theorem dX2_reprint_40 : decode cX2_reprint 40 = .ok (.if_icmp .ge 53, 3) := by decide +kernel
theorem dX2_reprint_43 : decode cX2_reprint 43 = .ok (.aload_n 3, 1) := by decide +kernel
theorem dX2_reprint_44 : decode cX2_reprint 44 = .ok (.iload 5, 2) := by decide +kernel
theorem dX2_reprint_46 : decode cX2_reprint 46 = .ok (.aaload, 1) := by decide +kernel
theorem dX2_reprint_47 : decode cX2_reprint 47 = .ok (.astore 6, 2) := by decide +kernel
theorem dX2_reprint_49 : decode cX2_reprint 49 = .ok (.aload 6, 2) := by decide +kernel
theorem dX2_reprint_51 : decode cX2_reprint 51 = .ok (.getfield 126, 3) := by decide +kernel
theorem dX2_reprint_54 : decode cX2_reprint 54 = .ok (.iload_n 1, 1) := by decide +kernel
theorem dX2_reprint_55 : decode cX2_reprint 55 = .ok (.if_icmp .lt 32, 3) := by decide +kernel
theorem dX2_reprint_58 : decode cX2_reprint 58 = .ok (.iload_n 2, 1) := by decide +kernel
theorem dX2_reprint_59 : decode cX2_reprint 59 = .ok (.aload 6, 2) := by decide +kernel
theorem dX2_reprint_61 : decode cX2_reprint 61 = .ok (.getfield 126, 3) := by decide +kernel
theorem dX2_reprint_64 : decode cX2_reprint 64 = .ok (.iadd, 1) := by decide +kernel
theorem dX2_reprint_65 : decode cX2_reprint 65 = .ok (.istore_n 2, 1) := by decide +kernel
theorem dX2_reprint_66 : decode cX2_reprint 66 = .ok (.aload 6, 2) := by decide +kernel
theorem dX2_reprint_68 : decode cX2_reprint 68 = .ok (.dup, 1) := by decide +kernel
theorem dX2_reprint_69 : decode cX2_reprint 69 = .ok (.getfield 123, 3) := by decide +kernel
theorem dX2_reprint_72 : decode cX2_reprint 72 = .ok (.aload 6, 2) := by decide +kernel
theorem dX2_reprint_74 : decode cX2_reprint 74 = .ok (.getfield 126, 3) := by decide +kernel
theorem dX2_reprint_77 : decode cX2_reprint 77 = .ok (.iadd, 1) := by decide +kernel
theorem dX2_reprint_78 : decode cX2_reprint 78 = .ok (.putfield 123, 3) := by decide +kernel
theorem dX2_reprint_81 : decode cX2_reprint 81 = .ok (.aload 6, 2) := by decide +kernel
theorem dX2_reprint_83 : decode cX2_reprint 83 = .ok (.iconst 0, 1) := by decide +kernel
theorem dX2_reprint_84 : decode cX2_reprint 84 = .ok (.putfield 126, 3) := by decide +kernel
theorem dX2_reprint_87 : decode cX2_reprint 87 = .ok (.iinc 5 1, 3) := by decide +kernel
theorem dX2_reprint_90 : decode cX2_reprint 90 = .ok (.goto (-54), 3) := by decide +kernel
theorem dX2_reprint_93 : decode cX2_reprint 93 = .ok (.iload_n 2, 1) := by decide +kernel
theorem dX2_reprint_94 : decode cX2_reprint 94 = .ok (.ireturn, 1) := by decide +kernel
theorem dX2_minute_0 : decode cX2_minute 0 = .ok (.aload_n 0, 1) := by decide +kernel
theorem dX2_minute_1 : decode cX2_minute 1 = .ok (.getfield 21, 3) := by decide +kernel
theorem dX2_minute_4 : decode cX2_minute 4 = .ok (.ireturn, 1) := by decide +kernel
set_option maxRecDepth 20000 in
theorem ggX2_stateOf_X2_visitorAt : GoodIn wsX2_stateOf wsX2_visitorAt := goodIn_ca (goodIn_r _ [5, 6, 7, 8, 19, 20, 21] (by decide +kernel) (by decide +kernel)) (goodIn_sub (fun _ h => List.mem_cons_of_mem _ (List.mem_append_right _ h)) (by decide +kernel))
set_option maxRecDepth 20000 in
theorem gX2_stateOf_X2_visitorAt : GoodIn wsX2_stateOf (wsV RX2 54 RX2 yX2_visitorAt wsX2_visitorAt) := goodIn_app (goodIn_of _ (by decide +kernel)) ggX2_stateOf_X2_visitorAt
theorem dX2_stateOf_0 : decode cX2_stateOf 0 = .ok (.aload_n 0, 1) := by decide +kernel
theorem dX2_stateOf_1 : decode cX2_stateOf 1 = .ok (.iload_n 1, 1) := by decide +kernel
theorem dX2_stateOf_2 : decode cX2_stateOf 2 = .ok (.invokevirtual 54, 3) := by decide +kernel
theorem dX2_stateOf_5 : decode cX2_stateOf 5 = .ok (.getfield 138, 3) := by decide +kernel
theorem dX2_stateOf_8 : decode cX2_stateOf 8 = .ok (.ireturn, 1) := by decide +kernel
set_option maxRecDepth 20000 in
theorem ggX2_whereIs_X2_visitorAt : GoodIn wsX2_whereIs wsX2_visitorAt := goodIn_ca (goodIn_r _ [5, 6, 7, 8, 19, 20, 21] (by decide +kernel) (by decide +kernel)) (goodIn_sub (fun _ h => List.mem_cons_of_mem _ (List.mem_append_right _ h)) (by decide +kernel))
set_option maxRecDepth 20000 in
theorem gX2_whereIs_X2_visitorAt : GoodIn wsX2_whereIs (wsV RX2 54 RX2 yX2_visitorAt wsX2_visitorAt) := goodIn_app (goodIn_of _ (by decide +kernel)) ggX2_whereIs_X2_visitorAt
theorem dX2_whereIs_0 : decode cX2_whereIs 0 = .ok (.aload_n 0, 1) := by decide +kernel
theorem dX2_whereIs_1 : decode cX2_whereIs 1 = .ok (.iload_n 1, 1) := by decide +kernel
theorem dX2_whereIs_2 : decode cX2_whereIs 2 = .ok (.invokevirtual 54, 3) := by decide +kernel
theorem dX2_whereIs_5 : decode cX2_whereIs 5 = .ok (.getfield 141, 3) := by decide +kernel
theorem dX2_whereIs_8 : decode cX2_whereIs 8 = .ok (.ireturn, 1) := by decide +kernel
set_option maxRecDepth 20000 in
theorem ggX2_placeOf_X2_visitorAt : GoodIn wsX2_placeOf wsX2_visitorAt := goodIn_ca (goodIn_r _ [5, 6, 7, 8, 19, 20, 21] (by decide +kernel) (by decide +kernel)) (goodIn_sub (fun _ h => List.mem_cons_of_mem _ (List.mem_append_right _ h)) (by decide +kernel))
set_option maxRecDepth 20000 in
theorem gX2_placeOf_X2_visitorAt : GoodIn wsX2_placeOf (wsV RX2 54 RX2 yX2_visitorAt wsX2_visitorAt) := goodIn_app (goodIn_of _ (by decide +kernel)) ggX2_placeOf_X2_visitorAt
theorem dX2_placeOf_0 : decode cX2_placeOf 0 = .ok (.aload_n 0, 1) := by decide +kernel
theorem dX2_placeOf_1 : decode cX2_placeOf 1 = .ok (.iload_n 1, 1) := by decide +kernel
theorem dX2_placeOf_2 : decode cX2_placeOf 2 = .ok (.invokevirtual 54, 3) := by decide +kernel
theorem dX2_placeOf_5 : decode cX2_placeOf 5 = .ok (.getfield 144, 3) := by decide +kernel
theorem dX2_placeOf_8 : decode cX2_placeOf 8 = .ok (.ireturn, 1) := by decide +kernel
set_option maxRecDepth 20000 in
theorem ggX2_turnOf_X2_visitorAt : GoodIn wsX2_turnOf wsX2_visitorAt := goodIn_ca (goodIn_r _ [5, 6, 7, 8, 19, 20, 21] (by decide +kernel) (by decide +kernel)) (goodIn_sub (fun _ h => List.mem_cons_of_mem _ (List.mem_append_right _ h)) (by decide +kernel))
set_option maxRecDepth 20000 in
theorem gX2_turnOf_X2_visitorAt : GoodIn wsX2_turnOf (wsV RX2 54 RX2 yX2_visitorAt wsX2_visitorAt) := goodIn_app (goodIn_of _ (by decide +kernel)) ggX2_turnOf_X2_visitorAt
theorem dX2_turnOf_0 : decode cX2_turnOf 0 = .ok (.aload_n 0, 1) := by decide +kernel
theorem dX2_turnOf_1 : decode cX2_turnOf 1 = .ok (.iload_n 1, 1) := by decide +kernel
theorem dX2_turnOf_2 : decode cX2_turnOf 2 = .ok (.invokevirtual 54, 3) := by decide +kernel
theorem dX2_turnOf_5 : decode cX2_turnOf 5 = .ok (.getfield 98, 3) := by decide +kernel
theorem dX2_turnOf_8 : decode cX2_turnOf 8 = .ok (.ireturn, 1) := by decide +kernel
set_option maxRecDepth 20000 in
theorem ggX2_stamps_X2_visitorAt : GoodIn wsX2_stamps wsX2_visitorAt := goodIn_ca (goodIn_r _ [5, 6, 7, 8, 19, 20, 21] (by decide +kernel) (by decide +kernel)) (goodIn_sub (fun _ h => List.mem_cons_of_mem _ (List.mem_append_right _ h)) (by decide +kernel))
set_option maxRecDepth 20000 in
theorem gX2_stamps_X2_visitorAt : GoodIn wsX2_stamps (wsV RX2 54 RX2 yX2_visitorAt wsX2_visitorAt) := goodIn_app (goodIn_of _ (by decide +kernel)) ggX2_stamps_X2_visitorAt
theorem dX2_stamps_0 : decode cX2_stamps 0 = .ok (.aload_n 0, 1) := by decide +kernel
theorem dX2_stamps_1 : decode cX2_stamps 1 = .ok (.iload_n 1, 1) := by decide +kernel
theorem dX2_stamps_2 : decode cX2_stamps 2 = .ok (.invokevirtual 54, 3) := by decide +kernel
theorem dX2_stamps_5 : decode cX2_stamps 5 = .ok (.getfield 147, 3) := by decide +kernel
theorem dX2_stamps_8 : decode cX2_stamps 8 = .ok (.ireturn, 1) := by decide +kernel
set_option maxRecDepth 20000 in
theorem ggX2_queue_X2_pavilionAt : GoodIn wsX2_queue wsX2_pavilionAt := goodIn_ca (goodIn_r _ [5, 6, 7, 8, 18, 19, 20] (by decide +kernel) (by decide +kernel)) (goodIn_sub (fun _ h => List.mem_cons_of_mem _ (List.mem_append_right _ h)) (by decide +kernel))
set_option maxRecDepth 20000 in
theorem gX2_queue_X2_pavilionAt : GoodIn wsX2_queue (wsV RX2 29 RX2 yX2_pavilionAt wsX2_pavilionAt) := goodIn_app (goodIn_of _ (by decide +kernel)) ggX2_queue_X2_pavilionAt
set_option maxRecDepth 20000 in
theorem ggX2_queue_X2_countAt : GoodIn wsX2_queue wsX2_countAt := goodIn_r _ [12, 13, 14, 15, 16, 4, 17, 18, 19, 20, 21, 22, 23, 24, 25, 26, 27, 28, 29, 30, 31, 32, 33, 34, 35, 36] (by decide +kernel) (by decide +kernel)
set_option maxRecDepth 20000 in
theorem gX2_queue_X2_countAt : GoodIn wsX2_queue (wsV RX2 150 RX2 yX2_countAt wsX2_countAt) := goodIn_app (goodIn_of _ (by decide +kernel)) ggX2_queue_X2_countAt
theorem dX2_queue_0 : decode cX2_queue 0 = .ok (.aload_n 0, 1) := by decide +kernel
theorem dX2_queue_1 : decode cX2_queue 1 = .ok (.iconst 1, 1) := by decide +kernel
theorem dX2_queue_2 : decode cX2_queue 2 = .ok (.aload_n 0, 1) := by decide +kernel
theorem dX2_queue_3 : decode cX2_queue 3 = .ok (.iload_n 1, 1) := by decide +kernel
theorem dX2_queue_4 : decode cX2_queue 4 = .ok (.invokevirtual 29, 3) := by decide +kernel
theorem dX2_queue_7 : decode cX2_queue 7 = .ok (.invokevirtual 150, 3) := by decide +kernel
theorem dX2_queue_10 : decode cX2_queue 10 = .ok (.ireturn, 1) := by decide +kernel
set_option maxRecDepth 20000 in
theorem ggX2_inside_X2_pavilionAt : GoodIn wsX2_inside wsX2_pavilionAt := goodIn_ca (goodIn_r _ [5, 6, 7, 8, 18, 19, 20] (by decide +kernel) (by decide +kernel)) (goodIn_sub (fun _ h => List.mem_cons_of_mem _ (List.mem_append_right _ h)) (by decide +kernel))
set_option maxRecDepth 20000 in
theorem gX2_inside_X2_pavilionAt : GoodIn wsX2_inside (wsV RX2 29 RX2 yX2_pavilionAt wsX2_pavilionAt) := goodIn_app (goodIn_of _ (by decide +kernel)) ggX2_inside_X2_pavilionAt
set_option maxRecDepth 20000 in
theorem ggX2_inside_X2_countAt : GoodIn wsX2_inside wsX2_countAt := goodIn_r _ [12, 13, 14, 15, 16, 4, 17, 18, 19, 20, 21, 22, 23, 24, 25, 26, 27, 28, 29, 30, 31, 32, 33, 34, 35, 36] (by decide +kernel) (by decide +kernel)
set_option maxRecDepth 20000 in
theorem gX2_inside_X2_countAt : GoodIn wsX2_inside (wsV RX2 150 RX2 yX2_countAt wsX2_countAt) := goodIn_app (goodIn_of _ (by decide +kernel)) ggX2_inside_X2_countAt
theorem dX2_inside_0 : decode cX2_inside 0 = .ok (.aload_n 0, 1) := by decide +kernel
theorem dX2_inside_1 : decode cX2_inside 1 = .ok (.iconst 2, 1) := by decide +kernel
theorem dX2_inside_2 : decode cX2_inside 2 = .ok (.aload_n 0, 1) := by decide +kernel
theorem dX2_inside_3 : decode cX2_inside 3 = .ok (.iload_n 1, 1) := by decide +kernel
theorem dX2_inside_4 : decode cX2_inside 4 = .ok (.invokevirtual 29, 3) := by decide +kernel
theorem dX2_inside_7 : decode cX2_inside 7 = .ok (.invokevirtual 150, 3) := by decide +kernel
theorem dX2_inside_10 : decode cX2_inside 10 = .ok (.ireturn, 1) := by decide +kernel
set_option maxRecDepth 20000 in
theorem ggX2_stock_X2_pavilionAt : GoodIn wsX2_stock wsX2_pavilionAt := goodIn_ca (goodIn_r _ [5, 6, 7, 8, 15, 16, 17] (by decide +kernel) (by decide +kernel)) (goodIn_sub (fun _ h => List.mem_cons_of_mem _ (List.mem_append_right _ h)) (by decide +kernel))
set_option maxRecDepth 20000 in
theorem gX2_stock_X2_pavilionAt : GoodIn wsX2_stock (wsV RX2 29 RX2 yX2_pavilionAt wsX2_pavilionAt) := goodIn_app (goodIn_of _ (by decide +kernel)) ggX2_stock_X2_pavilionAt
theorem dX2_stock_0 : decode cX2_stock 0 = .ok (.aload_n 0, 1) := by decide +kernel
theorem dX2_stock_1 : decode cX2_stock 1 = .ok (.iload_n 1, 1) := by decide +kernel
theorem dX2_stock_2 : decode cX2_stock 2 = .ok (.invokevirtual 29, 3) := by decide +kernel
theorem dX2_stock_5 : decode cX2_stock 5 = .ok (.getfield 123, 3) := by decide +kernel
theorem dX2_stock_8 : decode cX2_stock 8 = .ok (.ireturn, 1) := by decide +kernel
set_option maxRecDepth 20000 in
theorem ggX2_demand_X2_pavilionAt : GoodIn wsX2_demand wsX2_pavilionAt := goodIn_ca (goodIn_r _ [5, 6, 7, 8, 15, 16, 17] (by decide +kernel) (by decide +kernel)) (goodIn_sub (fun _ h => List.mem_cons_of_mem _ (List.mem_append_right _ h)) (by decide +kernel))
set_option maxRecDepth 20000 in
theorem gX2_demand_X2_pavilionAt : GoodIn wsX2_demand (wsV RX2 29 RX2 yX2_pavilionAt wsX2_pavilionAt) := goodIn_app (goodIn_of _ (by decide +kernel)) ggX2_demand_X2_pavilionAt
theorem dX2_demand_0 : decode cX2_demand 0 = .ok (.aload_n 0, 1) := by decide +kernel
theorem dX2_demand_1 : decode cX2_demand 1 = .ok (.iload_n 1, 1) := by decide +kernel
theorem dX2_demand_2 : decode cX2_demand 2 = .ok (.invokevirtual 29, 3) := by decide +kernel
theorem dX2_demand_5 : decode cX2_demand 5 = .ok (.getfield 126, 3) := by decide +kernel
theorem dX2_demand_8 : decode cX2_demand 8 = .ok (.ireturn, 1) := by decide +kernel
set_option maxRecDepth 20000 in
theorem ggX2_sent_X2_visitorAt : GoodIn wsX2_sent wsX2_visitorAt := goodIn_ca (goodIn_r _ [5, 6, 7, 8, 30, 31, 32] (by decide +kernel) (by decide +kernel)) (goodIn_sub (fun _ h => List.mem_cons_of_mem _ (List.mem_append_right _ h)) (by decide +kernel))
set_option maxRecDepth 20000 in
theorem gX2_sent_X2_visitorAt : GoodIn wsX2_sent (wsV RX2 54 RX2 yX2_visitorAt wsX2_visitorAt) := goodIn_app (goodIn_of _ (by decide +kernel)) ggX2_sent_X2_visitorAt
set_option maxRecDepth 20000 in
theorem ggX2_sent_X2_pavilionAt : GoodIn wsX2_sent wsX2_pavilionAt := goodIn_ca (goodIn_r _ [12, 6, 7, 13, 30, 31, 32] (by decide +kernel) (by decide +kernel)) (goodIn_sub (fun _ h => List.mem_cons_of_mem _ (List.mem_append_right _ h)) (by decide +kernel))
set_option maxRecDepth 20000 in
theorem gX2_sent_X2_pavilionAt : GoodIn wsX2_sent (wsV RX2 29 RX2 yX2_pavilionAt wsX2_pavilionAt) := goodIn_app (goodIn_of _ (by decide +kernel)) ggX2_sent_X2_pavilionAt
theorem dX2_sent_0 : decode cX2_sent 0 = .ok (.aload_n 0, 1) := by decide +kernel
theorem dX2_sent_1 : decode cX2_sent 1 = .ok (.iload_n 1, 1) := by decide +kernel
theorem dX2_sent_2 : decode cX2_sent 2 = .ok (.invokevirtual 54, 3) := by decide +kernel
theorem dX2_sent_5 : decode cX2_sent 5 = .ok (.astore_n 3, 1) := by decide +kernel
theorem dX2_sent_6 : decode cX2_sent 6 = .ok (.aload_n 0, 1) := by decide +kernel
theorem dX2_sent_7 : decode cX2_sent 7 = .ok (.iload_n 2, 1) := by decide +kernel
theorem dX2_sent_8 : decode cX2_sent 8 = .ok (.invokevirtual 29, 3) := by decide +kernel
theorem dX2_sent_11 : decode cX2_sent 11 = .ok (.astore 4, 2) := by decide +kernel
theorem dX2_sent_13 : decode cX2_sent 13 = .ok (.aload_n 3, 1) := by decide +kernel
theorem dX2_sent_14 : decode cX2_sent 14 = .ok (.getfield 129, 3) := by decide +kernel
theorem dX2_sent_17 : decode cX2_sent 17 = .ok (.aload 4, 2) := by decide +kernel
theorem dX2_sent_19 : decode cX2_sent 19 = .ok (.getfield 133, 3) := by decide +kernel
theorem dX2_sent_22 : decode cX2_sent 22 = .ok (.iaload, 1) := by decide +kernel
theorem dX2_sent_23 : decode cX2_sent 23 = .ok (.ireturn, 1) := by decide +kernel
theorem dX2_pavilionAt_0 : decode cX2_pavilionAt 0 = .ok (.iload_n 1, 1) := by decide +kernel
theorem dX2_pavilionAt_1 : decode cX2_pavilionAt 1 = .ok (.ifCond .lt 9, 3) := by decide +kernel
theorem dX2_pavilionAt_4 : decode cX2_pavilionAt 4 = .ok (.iload_n 1, 1) := by decide +kernel
theorem dX2_pavilionAt_5 : decode cX2_pavilionAt 5 = .ok (.bipush 6, 2) := by decide +kernel
theorem dX2_pavilionAt_7 : decode cX2_pavilionAt 7 = .ok (.if_icmp .lt 13, 3) := by decide +kernel
theorem dX2_pavilionAt_10 : decode cX2_pavilionAt 10 = .ok (.new 154, 3) := by decide +kernel
theorem dX2_pavilionAt_13 : decode cX2_pavilionAt 13 = .ok (.dup, 1) := by decide +kernel
theorem dX2_pavilionAt_14 : decode cX2_pavilionAt 14 = .ok (.ldc 156, 2) := by decide +kernel
theorem dX2_pavilionAt_16 : decode cX2_pavilionAt 16 = .ok (.invokespecial 158, 3) := by decide +kernel
theorem dX2_pavilionAt_19 : decode cX2_pavilionAt 19 = .ok (.athrow, 1) := by decide +kernel
theorem dX2_pavilionAt_20 : decode cX2_pavilionAt 20 = .ok (.aload_n 0, 1) := by decide +kernel
theorem dX2_pavilionAt_21 : decode cX2_pavilionAt 21 = .ok (.getfield 11, 3) := by decide +kernel
theorem dX2_pavilionAt_24 : decode cX2_pavilionAt 24 = .ok (.iload_n 1, 1) := by decide +kernel
theorem dX2_pavilionAt_25 : decode cX2_pavilionAt 25 = .ok (.aaload, 1) := by decide +kernel
theorem dX2_pavilionAt_26 : decode cX2_pavilionAt 26 = .ok (.areturn, 1) := by decide +kernel
theorem dX2_visitorAt_0 : decode cX2_visitorAt 0 = .ok (.iload_n 1, 1) := by decide +kernel
theorem dX2_visitorAt_1 : decode cX2_visitorAt 1 = .ok (.ifCond .lt 9, 3) := by decide +kernel
theorem dX2_visitorAt_4 : decode cX2_visitorAt 4 = .ok (.iload_n 1, 1) := by decide +kernel
theorem dX2_visitorAt_5 : decode cX2_visitorAt 5 = .ok (.bipush 8, 2) := by decide +kernel
theorem dX2_visitorAt_7 : decode cX2_visitorAt 7 = .ok (.if_icmp .lt 13, 3) := by decide +kernel
theorem dX2_visitorAt_10 : decode cX2_visitorAt 10 = .ok (.new 154, 3) := by decide +kernel
theorem dX2_visitorAt_13 : decode cX2_visitorAt 13 = .ok (.dup, 1) := by decide +kernel
theorem dX2_visitorAt_14 : decode cX2_visitorAt 14 = .ok (.ldc 159, 2) := by decide +kernel
theorem dX2_visitorAt_16 : decode cX2_visitorAt 16 = .ok (.invokespecial 158, 3) := by decide +kernel
theorem dX2_visitorAt_19 : decode cX2_visitorAt 19 = .ok (.athrow, 1) := by decide +kernel
theorem dX2_visitorAt_20 : decode cX2_visitorAt 20 = .ok (.aload_n 0, 1) := by decide +kernel
theorem dX2_visitorAt_21 : decode cX2_visitorAt 21 = .ok (.getfield 17, 3) := by decide +kernel
theorem dX2_visitorAt_24 : decode cX2_visitorAt 24 = .ok (.iload_n 1, 1) := by decide +kernel
theorem dX2_visitorAt_25 : decode cX2_visitorAt 25 = .ok (.aaload, 1) := by decide +kernel
theorem dX2_visitorAt_26 : decode cX2_visitorAt 26 = .ok (.areturn, 1) := by decide +kernel
set_option maxRecDepth 20000 in
theorem ggX2_indexInPlan_Jx4a65c_size_8abf5 : GoodIn wsX2_indexInPlan wsJx4a65c_size_8abf5 := goodIn_r _ [5, 6, 34, 35, 36] (by decide +kernel) (by decide +kernel)
set_option maxRecDepth 20000 in
theorem gX2_indexInPlan_Jx4a65c_size_8abf5 : GoodIn wsX2_indexInPlan (wsV RX2 77 RJx4a65c yJx4a65c_size_8abf5 wsJx4a65c_size_8abf5) := goodIn_app (goodIn_of _ (by decide +kernel)) ggX2_indexInPlan_Jx4a65c_size_8abf5
set_option maxRecDepth 20000 in
theorem ggX2_indexInPlan_Jx4a65c_get_915e3 : GoodIn wsX2_indexInPlan wsJx4a65c_get_915e3 := goodIn_r _ [10, 6, 11, 12, 13, 14, 15, 16, 17, 18, 19, 20, 21, 4, 22, 23, 34, 35, 36] (by decide +kernel) (by decide +kernel)
set_option maxRecDepth 20000 in
theorem gX2_indexInPlan_Jx4a65c_get_915e3 : GoodIn wsX2_indexInPlan (wsV RX2 161 RJx4a65c yJx4a65c_get_915e3 wsJx4a65c_get_915e3) := goodIn_app (goodIn_of _ (by decide +kernel)) ggX2_indexInPlan_Jx4a65c_get_915e3
theorem dX2_indexInPlan_0 : decode cX2_indexInPlan 0 = .ok (.iconst 0, 1) := by decide +kernel
theorem dX2_indexInPlan_1 : decode cX2_indexInPlan 1 = .ok (.istore_n 3, 1) := by decide +kernel
theorem dX2_indexInPlan_2 : decode cX2_indexInPlan 2 = .ok (.iload_n 3, 1) := by decide +kernel
theorem dX2_indexInPlan_3 : decode cX2_indexInPlan 3 = .ok (.aload_n 1, 1) := by decide +kernel
theorem dX2_indexInPlan_4 : decode cX2_indexInPlan 4 = .ok (.getfield 67, 3) := by decide +kernel
theorem dX2_indexInPlan_7 : decode cX2_indexInPlan 7 = .ok (.invokevirtual 77, 3) := by decide +kernel
theorem dX2_indexInPlan_10 : decode cX2_indexInPlan 10 = .ok (.if_icmp .ge 23, 3) := by decide +kernel
theorem dX2_indexInPlan_13 : decode cX2_indexInPlan 13 = .ok (.aload_n 1, 1) := by decide +kernel
theorem dX2_indexInPlan_14 : decode cX2_indexInPlan 14 = .ok (.getfield 67, 3) := by decide +kernel
theorem dX2_indexInPlan_17 : decode cX2_indexInPlan 17 = .ok (.iload_n 3, 1) := by decide +kernel
theorem dX2_indexInPlan_18 : decode cX2_indexInPlan 18 = .ok (.invokevirtual 161, 3) := by decide +kernel
theorem dX2_indexInPlan_21 : decode cX2_indexInPlan 21 = .ok (.aload_n 2, 1) := by decide +kernel
theorem dX2_indexInPlan_22 : decode cX2_indexInPlan 22 = .ok (.if_acmp .ne 5, 3) := by decide +kernel
theorem dX2_indexInPlan_25 : decode cX2_indexInPlan 25 = .ok (.iload_n 3, 1) := by decide +kernel
theorem dX2_indexInPlan_26 : decode cX2_indexInPlan 26 = .ok (.ireturn, 1) := by decide +kernel
theorem dX2_indexInPlan_27 : decode cX2_indexInPlan 27 = .ok (.iinc 3 1, 3) := by decide +kernel
theorem dX2_indexInPlan_30 : decode cX2_indexInPlan 30 = .ok (.goto (-28), 3) := by decide +kernel
theorem dX2_indexInPlan_33 : decode cX2_indexInPlan 33 = .ok (.iconst (-1), 1) := by decide +kernel
theorem dX2_indexInPlan_34 : decode cX2_indexInPlan 34 = .ok (.ireturn, 1) := by decide +kernel
theorem dX2_hasStamp_0 : decode cX2_hasStamp 0 = .ok (.aload_n 1, 1) := by decide +kernel
theorem dX2_hasStamp_1 : decode cX2_hasStamp 1 = .ok (.getfield 147, 3) := by decide +kernel
theorem dX2_hasStamp_4 : decode cX2_hasStamp 4 = .ok (.iconst 1, 1) := by decide +kernel
theorem dX2_hasStamp_5 : decode cX2_hasStamp 5 = .ok (.aload_n 2, 1) := by decide +kernel
theorem dX2_hasStamp_6 : decode cX2_hasStamp 6 = .ok (.getfield 133, 3) := by decide +kernel
theorem dX2_hasStamp_9 : decode cX2_hasStamp 9 = .ok (.ishl, 1) := by decide +kernel
theorem dX2_hasStamp_10 : decode cX2_hasStamp 10 = .ok (.iand, 1) := by decide +kernel
theorem dX2_hasStamp_11 : decode cX2_hasStamp 11 = .ok (.ifCond .eq 7, 3) := by decide +kernel
theorem dX2_hasStamp_14 : decode cX2_hasStamp 14 = .ok (.iconst 1, 1) := by decide +kernel
theorem dX2_hasStamp_15 : decode cX2_hasStamp 15 = .ok (.goto 4, 3) := by decide +kernel
theorem dX2_hasStamp_18 : decode cX2_hasStamp 18 = .ok (.iconst 0, 1) := by decide +kernel
theorem dX2_hasStamp_19 : decode cX2_hasStamp 19 = .ok (.ireturn, 1) := by decide +kernel
theorem dX2_isAt_0 : decode cX2_isAt 0 = .ok (.aload_n 1, 1) := by decide +kernel
theorem dX2_isAt_1 : decode cX2_isAt 1 = .ok (.getfield 138, 3) := by decide +kernel
theorem dX2_isAt_4 : decode cX2_isAt 4 = .ok (.iload_n 2, 1) := by decide +kernel
theorem dX2_isAt_5 : decode cX2_isAt 5 = .ok (.if_icmp .ne 18, 3) := by decide +kernel
theorem dX2_isAt_8 : decode cX2_isAt 8 = .ok (.aload_n 1, 1) := by decide +kernel
theorem dX2_isAt_9 : decode cX2_isAt 9 = .ok (.getfield 141, 3) := by decide +kernel
theorem dX2_isAt_12 : decode cX2_isAt 12 = .ok (.aload_n 3, 1) := by decide +kernel
theorem dX2_isAt_13 : decode cX2_isAt 13 = .ok (.getfield 133, 3) := by decide +kernel
theorem dX2_isAt_16 : decode cX2_isAt 16 = .ok (.if_icmp .ne 7, 3) := by decide +kernel
theorem dX2_isAt_19 : decode cX2_isAt 19 = .ok (.iconst 1, 1) := by decide +kernel
theorem dX2_isAt_20 : decode cX2_isAt 20 = .ok (.goto 4, 3) := by decide +kernel
theorem dX2_isAt_23 : decode cX2_isAt 23 = .ok (.iconst 0, 1) := by decide +kernel
theorem dX2_isAt_24 : decode cX2_isAt 24 = .ok (.ireturn, 1) := by decide +kernel
set_option maxRecDepth 20000 in
theorem ggX2_countAt_X2_isAt : GoodIn wsX2_countAt wsX2_isAt := goodIn_r _ [6, 10, 11, 12, 13, 14, 15, 16, 17, 18, 19, 20, 21, 22, 23, 24, 25] (by decide +kernel) (by decide +kernel)
set_option maxRecDepth 20000 in
theorem gX2_countAt_X2_isAt : GoodIn wsX2_countAt (wsV RX2 87 RX2 yX2_isAt wsX2_isAt) := goodIn_app (goodIn_of _ (by decide +kernel)) ggX2_countAt_X2_isAt
theorem dX2_countAt_0 : decode cX2_countAt 0 = .ok (.iconst 0, 1) := by decide +kernel
theorem dX2_countAt_1 : decode cX2_countAt 1 = .ok (.istore_n 3, 1) := by decide +kernel
theorem dX2_countAt_2 : decode cX2_countAt 2 = .ok (.aload_n 0, 1) := by decide +kernel
theorem dX2_countAt_3 : decode cX2_countAt 3 = .ok (.getfield 17, 3) := by decide +kernel
theorem dX2_countAt_6 : decode cX2_countAt 6 = .ok (.astore 4, 2) := by decide +kernel
theorem dX2_countAt_8 : decode cX2_countAt 8 = .ok (.aload 4, 2) := by decide +kernel
theorem dX2_countAt_10 : decode cX2_countAt 10 = .ok (.arraylength, 1) := by decide +kernel
theorem dX2_countAt_11 : decode cX2_countAt 11 = .ok (.istore 5, 2) := by decide +kernel
theorem dX2_countAt_13 : decode cX2_countAt 13 = .ok (.iconst 0, 1) := by decide +kernel
theorem dX2_countAt_14 : decode cX2_countAt 14 = .ok (.istore 6, 2) := by decide +kernel
theorem dX2_countAt_16 : decode cX2_countAt 16 = .ok (.iload 6, 2) := by decide +kernel
theorem dX2_countAt_18 : decode cX2_countAt 18 = .ok (.iload 5, 2) := by decide +kernel
theorem dX2_countAt_20 : decode cX2_countAt 20 = .ok (.if_icmp .ge 30, 3) := by decide +kernel
theorem dX2_countAt_23 : decode cX2_countAt 23 = .ok (.aload 4, 2) := by decide +kernel
theorem dX2_countAt_25 : decode cX2_countAt 25 = .ok (.iload 6, 2) := by decide +kernel
theorem dX2_countAt_27 : decode cX2_countAt 27 = .ok (.aaload, 1) := by decide +kernel
theorem dX2_countAt_28 : decode cX2_countAt 28 = .ok (.astore 7, 2) := by decide +kernel
theorem dX2_countAt_30 : decode cX2_countAt 30 = .ok (.aload_n 0, 1) := by decide +kernel
theorem dX2_countAt_31 : decode cX2_countAt 31 = .ok (.aload 7, 2) := by decide +kernel
theorem dX2_countAt_33 : decode cX2_countAt 33 = .ok (.iload_n 1, 1) := by decide +kernel
theorem dX2_countAt_34 : decode cX2_countAt 34 = .ok (.aload_n 2, 1) := by decide +kernel
theorem dX2_countAt_35 : decode cX2_countAt 35 = .ok (.invokevirtual 87, 3) := by decide +kernel
theorem dX2_countAt_38 : decode cX2_countAt 38 = .ok (.ifCond .eq 6, 3) := by decide +kernel
theorem dX2_countAt_41 : decode cX2_countAt 41 = .ok (.iinc 3 1, 3) := by decide +kernel
theorem dX2_countAt_44 : decode cX2_countAt 44 = .ok (.iinc 6 1, 3) := by decide +kernel
theorem dX2_countAt_47 : decode cX2_countAt 47 = .ok (.goto (-31), 3) := by decide +kernel
theorem dX2_countAt_50 : decode cX2_countAt 50 = .ok (.iload_n 3, 1) := by decide +kernel
theorem dX2_countAt_51 : decode cX2_countAt 51 = .ok (.ireturn, 1) := by decide +kernel
set_option maxRecDepth 20000 in
theorem ggX2_firstFreeTurn_X2_isTurnTaken : GoodIn wsX2_firstFreeTurn wsX2_isTurnTaken := goodIn_r _ [6, 7, 8, 9, 10, 11, 12, 13, 14, 15, 16, 17, 18, 19, 20] (by decide +kernel) (by decide +kernel)
set_option maxRecDepth 20000 in
theorem gX2_firstFreeTurn_X2_isTurnTaken : GoodIn wsX2_firstFreeTurn (wsV RX2 164 RX2 yX2_isTurnTaken wsX2_isTurnTaken) := goodIn_app (goodIn_of _ (by decide +kernel)) ggX2_firstFreeTurn_X2_isTurnTaken
theorem dX2_firstFreeTurn_0 : decode cX2_firstFreeTurn 0 = .ok (.aload_n 0, 1) := by decide +kernel
theorem dX2_firstFreeTurn_1 : decode cX2_firstFreeTurn 1 = .ok (.getfield 21, 3) := by decide +kernel
theorem dX2_firstFreeTurn_4 : decode cX2_firstFreeTurn 4 = .ok (.iconst 5, 1) := by decide +kernel
theorem dX2_firstFreeTurn_5 : decode cX2_firstFreeTurn 5 = .ok (.idiv, 1) := by decide +kernel
theorem dX2_firstFreeTurn_6 : decode cX2_firstFreeTurn 6 = .ok (.iconst 1, 1) := by decide +kernel
theorem dX2_firstFreeTurn_7 : decode cX2_firstFreeTurn 7 = .ok (.iadd, 1) := by decide +kernel
theorem dX2_firstFreeTurn_8 : decode cX2_firstFreeTurn 8 = .ok (.iconst 5, 1) := by decide +kernel
theorem dX2_firstFreeTurn_9 : decode cX2_firstFreeTurn 9 = .ok (.imul, 1) := by decide +kernel
theorem dX2_firstFreeTurn_10 : decode cX2_firstFreeTurn 10 = .ok (.istore_n 2, 1) := by decide +kernel
theorem dX2_firstFreeTurn_11 : decode cX2_firstFreeTurn 11 = .ok (.iconst 0, 1) := by decide +kernel
theorem dX2_firstFreeTurn_12 : decode cX2_firstFreeTurn 12 = .ok (.istore_n 3, 1) := by decide +kernel
theorem dX2_firstFreeTurn_13 : decode cX2_firstFreeTurn 13 = .ok (.iload_n 3, 1) := by decide +kernel
theorem dX2_firstFreeTurn_14 : decode cX2_firstFreeTurn 14 = .ok (.bipush 8, 2) := by decide +kernel
theorem dX2_firstFreeTurn_16 : decode cX2_firstFreeTurn 16 = .ok (.if_icmp .ge 21, 3) := by decide +kernel
theorem dX2_firstFreeTurn_19 : decode cX2_firstFreeTurn 19 = .ok (.aload_n 0, 1) := by decide +kernel
theorem dX2_firstFreeTurn_20 : decode cX2_firstFreeTurn 20 = .ok (.aload_n 1, 1) := by decide +kernel
theorem dX2_firstFreeTurn_21 : decode cX2_firstFreeTurn 21 = .ok (.iload_n 2, 1) := by decide +kernel
theorem dX2_firstFreeTurn_22 : decode cX2_firstFreeTurn 22 = .ok (.invokevirtual 164, 3) := by decide +kernel
theorem dX2_firstFreeTurn_25 : decode cX2_firstFreeTurn 25 = .ok (.ifCond .eq 12, 3) := by decide +kernel
theorem dX2_firstFreeTurn_28 : decode cX2_firstFreeTurn 28 = .ok (.iinc 2 5, 3) := by decide +kernel
theorem dX2_firstFreeTurn_31 : decode cX2_firstFreeTurn 31 = .ok (.iinc 3 1, 3) := by decide +kernel
theorem dX2_firstFreeTurn_34 : decode cX2_firstFreeTurn 34 = .ok (.goto (-21), 3) := by decide +kernel
theorem dX2_firstFreeTurn_37 : decode cX2_firstFreeTurn 37 = .ok (.iload_n 2, 1) := by decide +kernel
theorem dX2_firstFreeTurn_38 : decode cX2_firstFreeTurn 38 = .ok (.ireturn, 1) := by decide +kernel
theorem dX2_isTurnTaken_0 : decode cX2_isTurnTaken 0 = .ok (.aload_n 0, 1) := by decide +kernel
theorem dX2_isTurnTaken_1 : decode cX2_isTurnTaken 1 = .ok (.getfield 17, 3) := by decide +kernel
theorem dX2_isTurnTaken_4 : decode cX2_isTurnTaken 4 = .ok (.astore_n 3, 1) := by decide +kernel
theorem dX2_isTurnTaken_5 : decode cX2_isTurnTaken 5 = .ok (.aload_n 3, 1) := by decide +kernel
theorem dX2_isTurnTaken_6 : decode cX2_isTurnTaken 6 = .ok (.arraylength, 1) := by decide +kernel
theorem dX2_isTurnTaken_7 : decode cX2_isTurnTaken 7 = .ok (.istore 4, 2) := by decide +kernel
theorem dX2_isTurnTaken_9 : decode cX2_isTurnTaken 9 = .ok (.iconst 0, 1) := by decide +kernel
theorem dX2_isTurnTaken_10 : decode cX2_isTurnTaken 10 = .ok (.istore 5, 2) := by decide +kernel
theorem dX2_isTurnTaken_12 : decode cX2_isTurnTaken 12 = .ok (.iload 5, 2) := by decide +kernel
theorem dX2_isTurnTaken_14 : decode cX2_isTurnTaken 14 = .ok (.iload 4, 2) := by decide +kernel
theorem dX2_isTurnTaken_16 : decode cX2_isTurnTaken 16 = .ok (.if_icmp .ge 35, 3) := by decide +kernel
theorem dX2_isTurnTaken_19 : decode cX2_isTurnTaken 19 = .ok (.aload_n 3, 1) := by decide +kernel
theorem dX2_isTurnTaken_20 : decode cX2_isTurnTaken 20 = .ok (.iload 5, 2) := by decide +kernel
theorem dX2_isTurnTaken_22 : decode cX2_isTurnTaken 22 = .ok (.aaload, 1) := by decide +kernel
theorem dX2_isTurnTaken_23 : decode cX2_isTurnTaken 23 = .ok (.astore 6, 2) := by decide +kernel
theorem dX2_isTurnTaken_25 : decode cX2_isTurnTaken 25 = .ok (.aload 6, 2) := by decide +kernel
theorem dX2_isTurnTaken_27 : decode cX2_isTurnTaken 27 = .ok (.getfield 106, 3) := by decide +kernel
theorem dX2_isTurnTaken_30 : decode cX2_isTurnTaken 30 = .ok (.aload_n 1, 1) := by decide +kernel
theorem dX2_isTurnTaken_31 : decode cX2_isTurnTaken 31 = .ok (.if_acmp .ne 14, 3) := by decide +kernel
theorem dX2_isTurnTaken_34 : decode cX2_isTurnTaken 34 = .ok (.aload 6, 2) := by decide +kernel
theorem dX2_isTurnTaken_36 : decode cX2_isTurnTaken 36 = .ok (.getfield 98, 3) := by decide +kernel
theorem dX2_isTurnTaken_39 : decode cX2_isTurnTaken 39 = .ok (.iload_n 2, 1) := by decide +kernel
theorem dX2_isTurnTaken_40 : decode cX2_isTurnTaken 40 = .ok (.if_icmp .ne 5, 3) := by decide +kernel
theorem dX2_isTurnTaken_43 : decode cX2_isTurnTaken 43 = .ok (.iconst 1, 1) := by decide +kernel
theorem dX2_isTurnTaken_44 : decode cX2_isTurnTaken 44 = .ok (.ireturn, 1) := by decide +kernel
theorem dX2_isTurnTaken_45 : decode cX2_isTurnTaken 45 = .ok (.iinc 5 1, 3) := by decide +kernel
theorem dX2_isTurnTaken_48 : decode cX2_isTurnTaken 48 = .ok (.goto (-36), 3) := by decide +kernel
theorem dX2_isTurnTaken_51 : decode cX2_isTurnTaken 51 = .ok (.iconst 0, 1) := by decide +kernel
theorem dX2_isTurnTaken_52 : decode cX2_isTurnTaken 52 = .ok (.ireturn, 1) := by decide +kernel
set_option maxRecDepth 20000 in
theorem ggX2_passMinute_X2_endVisits : GoodIn wsX2_passMinute wsX2_endVisits := goodIn_r _ [6, 7, 1, 8, 9, 10, 5, 11, 97, 98, 99, 100, 101, 102, 103, 104, 105, 106, 107, 108, 109] (by decide +kernel) (by decide +kernel)
set_option maxRecDepth 20000 in
theorem gX2_passMinute_X2_endVisits : GoodIn wsX2_passMinute (wsV RX2 168 RX2 yX2_endVisits wsX2_endVisits) := goodIn_app (goodIn_of _ (by decide +kernel)) ggX2_passMinute_X2_endVisits
set_option maxRecDepth 20000 in
theorem ggX2_passMinute_X2_takeTurns : GoodIn wsX2_passMinute wsX2_takeTurns := goodIn_r _ [15, 7, 1, 16, 17, 18, 5, 19, 20, 21, 22, 23, 24, 25, 26, 27, 8, 9, 10, 11, 28, 29, 30, 31, 32, 33, 34, 35, 36, 37, 38, 39, 97, 98, 99, 100, 101, 102, 103, 104, 105, 106, 107, 108, 109, 110, 111, 112, 113, 114, 115] (by decide +kernel) (by decide +kernel)
set_option maxRecDepth 20000 in
theorem gX2_passMinute_X2_takeTurns : GoodIn wsX2_passMinute (wsV RX2 171 RX2 yX2_takeTurns wsX2_takeTurns) := goodIn_app (goodIn_of _ (by decide +kernel)) ggX2_passMinute_X2_takeTurns
set_option maxRecDepth 20000 in
theorem ggX2_passMinute_X2_followPlans : GoodIn wsX2_passMinute wsX2_followPlans := goodIn_r _ [43, 7, 44, 45, 46, 5, 47, 48, 49, 50, 51, 52, 53, 54, 55, 56, 57, 58, 59, 60, 61, 62, 63, 64, 65, 66, 67, 68, 69, 70, 71, 72, 73, 74, 75, 76, 77, 78, 79, 32, 33, 34, 35, 36, 37, 38, 39, 97, 98, 99, 100, 101, 102, 103, 104, 105, 106, 107, 108, 109, 110, 111, 112, 113, 114, 115, 116, 117, 118] (by decide +kernel) (by decide +kernel)
set_option maxRecDepth 20000 in
theorem gX2_passMinute_X2_followPlans : GoodIn wsX2_passMinute (wsV RX2 174 RX2 yX2_followPlans wsX2_followPlans) := goodIn_app (goodIn_of _ (by decide +kernel)) ggX2_passMinute_X2_followPlans
set_option maxRecDepth 20000 in
theorem ggX2_passMinute_X2_letIn : GoodIn wsX2_passMinute wsX2_letIn := goodIn_r _ [83, 84, 85, 86, 87, 5, 88, 76, 77, 78, 79, 7, 32, 33, 34, 35, 89, 90, 91, 92, 93, 94, 95, 96, 1, 24, 25, 26, 27, 20, 21, 22, 23, 8, 9, 10, 11, 97, 98, 99, 110, 111, 112, 113, 114, 115, 100, 101, 102, 103, 104, 105, 106, 107, 108, 109] (by decide +kernel) (by decide +kernel)
set_option maxRecDepth 20000 in
theorem gX2_passMinute_X2_letIn : GoodIn wsX2_passMinute (wsV RX2 177 RX2 yX2_letIn wsX2_letIn) := goodIn_app (goodIn_of _ (by decide +kernel)) ggX2_passMinute_X2_letIn
theorem dX2_passMinute_0 : decode cX2_passMinute 0 = .ok (.aload_n 0, 1) := by decide +kernel
theorem dX2_passMinute_1 : decode cX2_passMinute 1 = .ok (.dup, 1) := by decide +kernel
theorem dX2_passMinute_2 : decode cX2_passMinute 2 = .ok (.getfield 21, 3) := by decide +kernel
theorem dX2_passMinute_5 : decode cX2_passMinute 5 = .ok (.iconst 1, 1) := by decide +kernel
theorem dX2_passMinute_6 : decode cX2_passMinute 6 = .ok (.iadd, 1) := by decide +kernel
theorem dX2_passMinute_7 : decode cX2_passMinute 7 = .ok (.putfield 21, 3) := by decide +kernel
theorem dX2_passMinute_10 : decode cX2_passMinute 10 = .ok (.aload_n 0, 1) := by decide +kernel
theorem dX2_passMinute_11 : decode cX2_passMinute 11 = .ok (.invokevirtual 168, 3) := by decide +kernel
theorem dX2_passMinute_14 : decode cX2_passMinute 14 = .ok (.aload_n 0, 1) := by decide +kernel
theorem dX2_passMinute_15 : decode cX2_passMinute 15 = .ok (.invokevirtual 171, 3) := by decide +kernel
theorem dX2_passMinute_18 : decode cX2_passMinute 18 = .ok (.aload_n 0, 1) := by decide +kernel
theorem dX2_passMinute_19 : decode cX2_passMinute 19 = .ok (.invokevirtual 174, 3) := by decide +kernel
theorem dX2_passMinute_22 : decode cX2_passMinute 22 = .ok (.aload_n 0, 1) := by decide +kernel
theorem dX2_passMinute_23 : decode cX2_passMinute 23 = .ok (.invokevirtual 177, 3) := by decide +kernel
theorem dX2_passMinute_26 : decode cX2_passMinute 26 = .ok (.return_, 1) := by decide +kernel
set_option maxRecDepth 20000 in
theorem ggX2_endVisits_X2_becomeIdle : GoodIn wsX2_endVisits wsX2_becomeIdle := goodIn_r _ [7, 11, 12, 13, 14, 15, 16, 17, 18, 19, 20] (by decide +kernel) (by decide +kernel)
set_option maxRecDepth 20000 in
theorem gX2_endVisits_X2_becomeIdle : GoodIn wsX2_endVisits (wsV RX2 183 RX2 yX2_becomeIdle wsX2_becomeIdle) := goodIn_app (goodIn_of _ (by decide +kernel)) ggX2_endVisits_X2_becomeIdle
theorem dX2_endVisits_0 : decode cX2_endVisits 0 = .ok (.aload_n 0, 1) := by decide +kernel
theorem dX2_endVisits_1 : decode cX2_endVisits 1 = .ok (.getfield 17, 3) := by decide +kernel
theorem dX2_endVisits_4 : decode cX2_endVisits 4 = .ok (.astore_n 1, 1) := by decide +kernel
theorem dX2_endVisits_5 : decode cX2_endVisits 5 = .ok (.aload_n 1, 1) := by decide +kernel
theorem dX2_endVisits_6 : decode cX2_endVisits 6 = .ok (.arraylength, 1) := by decide +kernel
theorem dX2_endVisits_7 : decode cX2_endVisits 7 = .ok (.istore_n 2, 1) := by decide +kernel
theorem dX2_endVisits_8 : decode cX2_endVisits 8 = .ok (.iconst 0, 1) := by decide +kernel
theorem dX2_endVisits_9 : decode cX2_endVisits 9 = .ok (.istore_n 3, 1) := by decide +kernel
theorem dX2_endVisits_10 : decode cX2_endVisits 10 = .ok (.iload_n 3, 1) := by decide +kernel
theorem dX2_endVisits_11 : decode cX2_endVisits 11 = .ok (.iload_n 2, 1) := by decide +kernel
theorem dX2_endVisits_12 : decode cX2_endVisits 12 = .ok (.if_icmp .ge 58, 3) := by decide +kernel
theorem dX2_endVisits_15 : decode cX2_endVisits 15 = .ok (.aload_n 1, 1) := by decide +kernel
theorem dX2_endVisits_16 : decode cX2_endVisits 16 = .ok (.iload_n 3, 1) := by decide +kernel
theorem dX2_endVisits_17 : decode cX2_endVisits 17 = .ok (.aaload, 1) := by decide +kernel
theorem dX2_endVisits_18 : decode cX2_endVisits 18 = .ok (.astore 4, 2) := by decide +kernel
theorem dX2_endVisits_20 : decode cX2_endVisits 20 = .ok (.aload 4, 2) := by decide +kernel
theorem dX2_endVisits_22 : decode cX2_endVisits 22 = .ok (.getfield 138, 3) := by decide +kernel
theorem dX2_endVisits_25 : decode cX2_endVisits 25 = .ok (.iconst 2, 1) := by decide +kernel
theorem dX2_endVisits_26 : decode cX2_endVisits 26 = .ok (.if_icmp .ne 38, 3) := by decide +kernel
theorem dX2_endVisits_29 : decode cX2_endVisits 29 = .ok (.aload 4, 2) := by decide +kernel
theorem dX2_endVisits_31 : decode cX2_endVisits 31 = .ok (.getfield 180, 3) := by decide +kernel
theorem dX2_endVisits_34 : decode cX2_endVisits 34 = .ok (.aload_n 0, 1) := by decide +kernel
theorem dX2_endVisits_35 : decode cX2_endVisits 35 = .ok (.getfield 21, 3) := by decide +kernel
theorem dX2_endVisits_38 : decode cX2_endVisits 38 = .ok (.if_icmp .gt 26, 3) := by decide +kernel
theorem dX2_endVisits_41 : decode cX2_endVisits 41 = .ok (.aload 4, 2) := by decide +kernel
theorem dX2_endVisits_43 : decode cX2_endVisits 43 = .ok (.dup, 1) := by decide +kernel
theorem dX2_endVisits_44 : decode cX2_endVisits 44 = .ok (.getfield 147, 3) := by decide +kernel
theorem dX2_endVisits_47 : decode cX2_endVisits 47 = .ok (.iconst 1, 1) := by decide +kernel
theorem dX2_endVisits_48 : decode cX2_endVisits 48 = .ok (.aload 4, 2) := by decide +kernel
theorem dX2_endVisits_50 : decode cX2_endVisits 50 = .ok (.getfield 141, 3) := by decide +kernel
theorem dX2_endVisits_53 : decode cX2_endVisits 53 = .ok (.ishl, 1) := by decide +kernel
theorem dX2_endVisits_54 : decode cX2_endVisits 54 = .ok (.ior, 1) := by decide +kernel
theorem dX2_endVisits_55 : decode cX2_endVisits 55 = .ok (.putfield 147, 3) := by decide +kernel
theorem dX2_endVisits_58 : decode cX2_endVisits 58 = .ok (.aload_n 0, 1) := by decide +kernel
theorem dX2_endVisits_59 : decode cX2_endVisits 59 = .ok (.aload 4, 2) := by decide +kernel
theorem dX2_endVisits_61 : decode cX2_endVisits 61 = .ok (.invokevirtual 183, 3) := by decide +kernel
theorem dX2_endVisits_64 : decode cX2_endVisits 64 = .ok (.iinc 3 1, 3) := by decide +kernel
theorem dX2_endVisits_67 : decode cX2_endVisits 67 = .ok (.goto (-57), 3) := by decide +kernel
theorem dX2_endVisits_70 : decode cX2_endVisits 70 = .ok (.return_, 1) := by decide +kernel
set_option maxRecDepth 20000 in
theorem ggX2_takeTurns_X2_takeTurn : GoodIn wsX2_takeTurns wsX2_takeTurn := goodIn_r _ [7, 8, 9, 10, 6, 11, 12, 13, 14, 15, 1, 16, 17, 18, 19, 20, 21, 22, 23, 24, 25, 26, 27, 28, 29, 30, 31, 35, 36, 37, 38, 39, 40, 41, 42, 43, 44, 45, 46, 47, 48, 49, 50, 32, 33, 34] (by decide +kernel) (by decide +kernel)
set_option maxRecDepth 20000 in
theorem gX2_takeTurns_X2_takeTurn : GoodIn wsX2_takeTurns (wsV RX2 186 RX2 yX2_takeTurn wsX2_takeTurn) := goodIn_app (goodIn_of _ (by decide +kernel)) ggX2_takeTurns_X2_takeTurn
theorem dX2_takeTurns_0 : decode cX2_takeTurns 0 = .ok (.aload_n 0, 1) := by decide +kernel
theorem dX2_takeTurns_1 : decode cX2_takeTurns 1 = .ok (.getfield 17, 3) := by decide +kernel
theorem dX2_takeTurns_4 : decode cX2_takeTurns 4 = .ok (.astore_n 1, 1) := by decide +kernel
theorem dX2_takeTurns_5 : decode cX2_takeTurns 5 = .ok (.aload_n 1, 1) := by decide +kernel
theorem dX2_takeTurns_6 : decode cX2_takeTurns 6 = .ok (.arraylength, 1) := by decide +kernel
theorem dX2_takeTurns_7 : decode cX2_takeTurns 7 = .ok (.istore_n 2, 1) := by decide +kernel
theorem dX2_takeTurns_8 : decode cX2_takeTurns 8 = .ok (.iconst 0, 1) := by decide +kernel
theorem dX2_takeTurns_9 : decode cX2_takeTurns 9 = .ok (.istore_n 3, 1) := by decide +kernel
theorem dX2_takeTurns_10 : decode cX2_takeTurns 10 = .ok (.iload_n 3, 1) := by decide +kernel
theorem dX2_takeTurns_11 : decode cX2_takeTurns 11 = .ok (.iload_n 2, 1) := by decide +kernel
theorem dX2_takeTurns_12 : decode cX2_takeTurns 12 = .ok (.if_icmp .ge 32, 3) := by decide +kernel
theorem dX2_takeTurns_15 : decode cX2_takeTurns 15 = .ok (.aload_n 1, 1) := by decide +kernel
theorem dX2_takeTurns_16 : decode cX2_takeTurns 16 = .ok (.iload_n 3, 1) := by decide +kernel
theorem dX2_takeTurns_17 : decode cX2_takeTurns 17 = .ok (.aaload, 1) := by decide +kernel
theorem dX2_takeTurns_18 : decode cX2_takeTurns 18 = .ok (.astore 4, 2) := by decide +kernel
theorem dX2_takeTurns_20 : decode cX2_takeTurns 20 = .ok (.aload 4, 2) := by decide +kernel
theorem dX2_takeTurns_22 : decode cX2_takeTurns 22 = .ok (.getfield 98, 3) := by decide +kernel
theorem dX2_takeTurns_25 : decode cX2_takeTurns 25 = .ok (.aload_n 0, 1) := by decide +kernel
theorem dX2_takeTurns_26 : decode cX2_takeTurns 26 = .ok (.getfield 21, 3) := by decide +kernel
theorem dX2_takeTurns_29 : decode cX2_takeTurns 29 = .ok (.if_icmp .ne 9, 3) := by decide +kernel
theorem dX2_takeTurns_32 : decode cX2_takeTurns 32 = .ok (.aload_n 0, 1) := by decide +kernel
theorem dX2_takeTurns_33 : decode cX2_takeTurns 33 = .ok (.aload 4, 2) := by decide +kernel
theorem dX2_takeTurns_35 : decode cX2_takeTurns 35 = .ok (.invokevirtual 186, 3) := by decide +kernel
theorem dX2_takeTurns_38 : decode cX2_takeTurns 38 = .ok (.iinc 3 1, 3) := by decide +kernel
theorem dX2_takeTurns_41 : decode cX2_takeTurns 41 = .ok (.goto (-31), 3) := by decide +kernel
theorem dX2_takeTurns_44 : decode cX2_takeTurns 44 = .ok (.return_, 1) := by decide +kernel
set_option maxRecDepth 20000 in
theorem ggX2_takeTurn_X2_loseTurn : GoodIn wsX2_takeTurn wsX2_loseTurn := goodIn_r _ [5, 27, 28, 29, 30, 31, 32, 33, 34, 35, 36] (by decide +kernel) (by decide +kernel)
set_option maxRecDepth 20000 in
theorem gX2_takeTurn_X2_loseTurn : GoodIn wsX2_takeTurn (wsV RX2 189 RX2 yX2_loseTurn wsX2_loseTurn) := goodIn_app (goodIn_of _ (by decide +kernel)) ggX2_takeTurn_X2_loseTurn
set_option maxRecDepth 20000 in
theorem ggX2_takeTurn_X2_leaveQueue : GoodIn wsX2_takeTurn wsX2_leaveQueue := goodIn_r _ [9, 10, 1, 2, 3, 4, 5, 11, 12, 13, 14, 43, 44, 45, 27, 28, 29, 30, 31, 32, 33, 34, 35, 36] (by decide +kernel) (by decide +kernel)
set_option maxRecDepth 20000 in
theorem gX2_takeTurn_X2_leaveQueue : GoodIn wsX2_takeTurn (wsV RX2 94 RX2 yX2_leaveQueue wsX2_leaveQueue) := goodIn_app (goodIn_of _ (by decide +kernel)) ggX2_takeTurn_X2_leaveQueue
set_option maxRecDepth 20000 in
theorem ggX2_takeTurn_X2_countByTurn : GoodIn wsX2_takeTurn wsX2_countByTurn := goodIn_r _ [18, 10, 19, 20, 21, 4, 22, 43, 44, 45, 27, 28, 29, 30, 31, 32, 33, 34, 35, 36, 37, 38, 39, 40, 41, 42] (by decide +kernel) (by decide +kernel)
set_option maxRecDepth 20000 in
theorem gX2_takeTurn_X2_countByTurn : GoodIn wsX2_takeTurn (wsV RX2 192 RX2 yX2_countByTurn wsX2_countByTurn) := goodIn_app (goodIn_of _ (by decide +kernel)) ggX2_takeTurn_X2_countByTurn
set_option maxRecDepth 20000 in
theorem ggX2_takeTurn_X2_joinQueue : GoodIn wsX2_takeTurn wsX2_joinQueue := goodIn_r _ [26, 10, 19, 20, 21, 4, 22, 43, 44, 45, 27, 28, 29, 30, 31, 32, 33, 34, 35, 36, 37, 38, 39, 40, 41, 42] (by decide +kernel) (by decide +kernel)
set_option maxRecDepth 20000 in
theorem gX2_takeTurn_X2_joinQueue : GoodIn wsX2_takeTurn (wsV RX2 195 RX2 yX2_joinQueue wsX2_joinQueue) := goodIn_app (goodIn_of _ (by decide +kernel)) ggX2_takeTurn_X2_joinQueue
theorem dX2_takeTurn_0 : decode cX2_takeTurn 0 = .ok (.aload_n 1, 1) := by decide +kernel
theorem dX2_takeTurn_1 : decode cX2_takeTurn 1 = .ok (.getfield 106, 3) := by decide +kernel
theorem dX2_takeTurn_4 : decode cX2_takeTurn 4 = .ok (.astore_n 2, 1) := by decide +kernel
theorem dX2_takeTurn_5 : decode cX2_takeTurn 5 = .ok (.aload_n 1, 1) := by decide +kernel
theorem dX2_takeTurn_6 : decode cX2_takeTurn 6 = .ok (.getfield 138, 3) := by decide +kernel
theorem dX2_takeTurn_9 : decode cX2_takeTurn 9 = .ok (.iconst 2, 1) := by decide +kernel
theorem dX2_takeTurn_10 : decode cX2_takeTurn 10 = .ok (.if_icmp .eq 14, 3) := by decide +kernel
theorem dX2_takeTurn_13 : decode cX2_takeTurn 13 = .ok (.aload_n 2, 1) := by decide +kernel
theorem dX2_takeTurn_14 : decode cX2_takeTurn 14 = .ok (.ifnull 10, 3) := by decide +kernel
theorem dX2_takeTurn_17 : decode cX2_takeTurn 17 = .ok (.aload_n 2, 1) := by decide +kernel
theorem dX2_takeTurn_18 : decode cX2_takeTurn 18 = .ok (.getfield 46, 3) := by decide +kernel
theorem dX2_takeTurn_21 : decode cX2_takeTurn 21 = .ok (.ifCond .ne 9, 3) := by decide +kernel
theorem dX2_takeTurn_24 : decode cX2_takeTurn 24 = .ok (.aload_n 0, 1) := by decide +kernel
theorem dX2_takeTurn_25 : decode cX2_takeTurn 25 = .ok (.aload_n 1, 1) := by decide +kernel
theorem dX2_takeTurn_26 : decode cX2_takeTurn 26 = .ok (.invokevirtual 189, 3) := by decide +kernel
theorem dX2_takeTurn_29 : decode cX2_takeTurn 29 = .ok (.return_, 1) := by decide +kernel
theorem dX2_takeTurn_30 : decode cX2_takeTurn 30 = .ok (.aload_n 1, 1) := by decide +kernel
theorem dX2_takeTurn_31 : decode cX2_takeTurn 31 = .ok (.getfield 138, 3) := by decide +kernel
theorem dX2_takeTurn_34 : decode cX2_takeTurn 34 = .ok (.iconst 1, 1) := by decide +kernel
theorem dX2_takeTurn_35 : decode cX2_takeTurn 35 = .ok (.if_icmp .ne 8, 3) := by decide +kernel
theorem dX2_takeTurn_38 : decode cX2_takeTurn 38 = .ok (.aload_n 0, 1) := by decide +kernel
theorem dX2_takeTurn_39 : decode cX2_takeTurn 39 = .ok (.aload_n 1, 1) := by decide +kernel
theorem dX2_takeTurn_40 : decode cX2_takeTurn 40 = .ok (.invokevirtual 94, 3) := by decide +kernel
theorem dX2_takeTurn_43 : decode cX2_takeTurn 43 = .ok (.aload_n 0, 1) := by decide +kernel
theorem dX2_takeTurn_44 : decode cX2_takeTurn 44 = .ok (.aload_n 1, 1) := by decide +kernel
theorem dX2_takeTurn_45 : decode cX2_takeTurn 45 = .ok (.aload_n 2, 1) := by decide +kernel
theorem dX2_takeTurn_46 : decode cX2_takeTurn 46 = .ok (.aload_n 0, 1) := by decide +kernel
theorem dX2_takeTurn_47 : decode cX2_takeTurn 47 = .ok (.aload_n 2, 1) := by decide +kernel
theorem dX2_takeTurn_48 : decode cX2_takeTurn 48 = .ok (.invokevirtual 192, 3) := by decide +kernel
theorem dX2_takeTurn_51 : decode cX2_takeTurn 51 = .ok (.invokevirtual 195, 3) := by decide +kernel
theorem dX2_takeTurn_54 : decode cX2_takeTurn 54 = .ok (.aload_n 1, 1) := by decide +kernel
theorem dX2_takeTurn_55 : decode cX2_takeTurn 55 = .ok (.iconst 1, 1) := by decide +kernel
theorem dX2_takeTurn_56 : decode cX2_takeTurn 56 = .ok (.putfield 91, 3) := by decide +kernel
theorem dX2_takeTurn_59 : decode cX2_takeTurn 59 = .ok (.return_, 1) := by decide +kernel
set_option maxRecDepth 20000 in
theorem ggX2_followPlans_X2_followPlan : GoodIn wsX2_followPlans wsX2_followPlan := goodIn_r _ [6, 7, 8, 9, 10, 11, 12, 13, 14, 15, 16, 17, 18, 19, 20, 21, 22, 23, 24, 25, 26, 27, 28, 29, 30, 31, 32, 33, 5, 34, 35, 36, 37, 38, 1, 39, 40, 41, 42, 43, 44, 45, 46, 50, 51, 52, 53, 54, 55, 56, 57, 58, 59, 60, 61, 62, 63, 64, 65, 66, 67, 68, 47, 48, 49] (by decide +kernel) (by decide +kernel)
set_option maxRecDepth 20000 in
theorem gX2_followPlans_X2_followPlan : GoodIn wsX2_followPlans (wsV RX2 199 RX2 yX2_followPlan wsX2_followPlan) := goodIn_app (goodIn_of _ (by decide +kernel)) ggX2_followPlans_X2_followPlan
theorem dX2_followPlans_0 : decode cX2_followPlans 0 = .ok (.aload_n 0, 1) := by decide +kernel
theorem dX2_followPlans_1 : decode cX2_followPlans 1 = .ok (.getfield 17, 3) := by decide +kernel
theorem dX2_followPlans_4 : decode cX2_followPlans 4 = .ok (.astore_n 1, 1) := by decide +kernel
theorem dX2_followPlans_5 : decode cX2_followPlans 5 = .ok (.aload_n 1, 1) := by decide +kernel
theorem dX2_followPlans_6 : decode cX2_followPlans 6 = .ok (.arraylength, 1) := by decide +kernel
theorem dX2_followPlans_7 : decode cX2_followPlans 7 = .ok (.istore_n 2, 1) := by decide +kernel
theorem dX2_followPlans_8 : decode cX2_followPlans 8 = .ok (.iconst 0, 1) := by decide +kernel
theorem dX2_followPlans_9 : decode cX2_followPlans 9 = .ok (.istore_n 3, 1) := by decide +kernel
theorem dX2_followPlans_10 : decode cX2_followPlans 10 = .ok (.iload_n 3, 1) := by decide +kernel
theorem dX2_followPlans_11 : decode cX2_followPlans 11 = .ok (.iload_n 2, 1) := by decide +kernel
theorem dX2_followPlans_12 : decode cX2_followPlans 12 = .ok (.if_icmp .ge 28, 3) := by decide +kernel
theorem dX2_followPlans_15 : decode cX2_followPlans 15 = .ok (.aload_n 1, 1) := by decide +kernel
theorem dX2_followPlans_16 : decode cX2_followPlans 16 = .ok (.iload_n 3, 1) := by decide +kernel
theorem dX2_followPlans_17 : decode cX2_followPlans 17 = .ok (.aaload, 1) := by decide +kernel
theorem dX2_followPlans_18 : decode cX2_followPlans 18 = .ok (.astore 4, 2) := by decide +kernel
theorem dX2_followPlans_20 : decode cX2_followPlans 20 = .ok (.aload 4, 2) := by decide +kernel
theorem dX2_followPlans_22 : decode cX2_followPlans 22 = .ok (.getfield 138, 3) := by decide +kernel
theorem dX2_followPlans_25 : decode cX2_followPlans 25 = .ok (.ifCond .ne 9, 3) := by decide +kernel
theorem dX2_followPlans_28 : decode cX2_followPlans 28 = .ok (.aload_n 0, 1) := by decide +kernel
theorem dX2_followPlans_29 : decode cX2_followPlans 29 = .ok (.aload 4, 2) := by decide +kernel
theorem dX2_followPlans_31 : decode cX2_followPlans 31 = .ok (.invokevirtual 199, 3) := by decide +kernel
theorem dX2_followPlans_34 : decode cX2_followPlans 34 = .ok (.iinc 3 1, 3) := by decide +kernel
theorem dX2_followPlans_37 : decode cX2_followPlans 37 = .ok (.goto (-27), 3) := by decide +kernel
theorem dX2_followPlans_40 : decode cX2_followPlans 40 = .ok (.return_, 1) := by decide +kernel
set_option maxRecDepth 20000 in
theorem ggX2_followPlan_Jx4a65c_size_8abf5 : GoodIn wsX2_followPlan wsJx4a65c_size_8abf5 := goodIn_r _ [6, 7, 59, 60, 61] (by decide +kernel) (by decide +kernel)
set_option maxRecDepth 20000 in
theorem gX2_followPlan_Jx4a65c_size_8abf5 : GoodIn wsX2_followPlan (wsV RX2 77 RJx4a65c yJx4a65c_size_8abf5 wsJx4a65c_size_8abf5) := goodIn_app (goodIn_of _ (by decide +kernel)) ggX2_followPlan_Jx4a65c_size_8abf5
set_option maxRecDepth 20000 in
theorem ggX2_followPlan_Jx4a65c_get_915e3 : GoodIn wsX2_followPlan wsJx4a65c_get_915e3 := goodIn_r _ [11, 7, 12, 13, 14, 15, 16, 17, 18, 19, 20, 21, 22, 5, 23, 24, 59, 60, 61] (by decide +kernel) (by decide +kernel)
set_option maxRecDepth 20000 in
theorem gX2_followPlan_Jx4a65c_get_915e3 : GoodIn wsX2_followPlan (wsV RX2 161 RJx4a65c yJx4a65c_get_915e3 wsJx4a65c_get_915e3) := goodIn_app (goodIn_of _ (by decide +kernel)) ggX2_followPlan_Jx4a65c_get_915e3
set_option maxRecDepth 20000 in
theorem ggX2_followPlan_X2_hasStamp : GoodIn wsX2_followPlan wsX2_hasStamp := goodIn_r _ [29, 43, 44, 45, 46, 47, 48, 49, 50, 51, 52, 53, 54, 55, 56, 57, 58] (by decide +kernel) (by decide +kernel)
set_option maxRecDepth 20000 in
theorem gX2_followPlan_X2_hasStamp : GoodIn wsX2_followPlan (wsV RX2 117 RX2 yX2_hasStamp wsX2_hasStamp) := goodIn_app (goodIn_of _ (by decide +kernel)) ggX2_followPlan_X2_hasStamp
set_option maxRecDepth 20000 in
theorem ggX2_followPlan_X2_countAt : GoodIn wsX2_followPlan wsX2_countAt := goodIn_r _ [33, 34, 35, 36, 37, 28, 38, 62, 63, 64, 43, 44, 45, 46, 47, 48, 49, 50, 51, 52, 53, 54, 55, 56, 57, 58] (by decide +kernel) (by decide +kernel)
set_option maxRecDepth 20000 in
theorem gX2_followPlan_X2_countAt : GoodIn wsX2_followPlan (wsV RX2 150 RX2 yX2_countAt wsX2_countAt) := goodIn_app (goodIn_of _ (by decide +kernel)) ggX2_followPlan_X2_countAt
set_option maxRecDepth 20000 in
theorem ggX2_followPlan_X2_joinQueue : GoodIn wsX2_followPlan wsX2_joinQueue := goodIn_r _ [42, 34, 35, 36, 37, 28, 38, 62, 63, 64, 43, 44, 45, 46, 47, 48, 49, 50, 51, 52, 53, 54, 55, 56, 57, 58] (by decide +kernel) (by decide +kernel)
set_option maxRecDepth 20000 in
theorem gX2_followPlan_X2_joinQueue : GoodIn wsX2_followPlan (wsV RX2 195 RX2 yX2_joinQueue wsX2_joinQueue) := goodIn_app (goodIn_of _ (by decide +kernel)) ggX2_followPlan_X2_joinQueue
theorem dX2_followPlan_0 : decode cX2_followPlan 0 = .ok (.iconst 0, 1) := by decide +kernel
theorem dX2_followPlan_1 : decode cX2_followPlan 1 = .ok (.istore_n 2, 1) := by decide +kernel
theorem dX2_followPlan_2 : decode cX2_followPlan 2 = .ok (.iload_n 2, 1) := by decide +kernel
theorem dX2_followPlan_3 : decode cX2_followPlan 3 = .ok (.aload_n 1, 1) := by decide +kernel
theorem dX2_followPlan_4 : decode cX2_followPlan 4 = .ok (.getfield 67, 3) := by decide +kernel
theorem dX2_followPlan_7 : decode cX2_followPlan 7 = .ok (.invokevirtual 77, 3) := by decide +kernel
theorem dX2_followPlan_10 : decode cX2_followPlan 10 = .ok (.if_icmp .ge 50, 3) := by decide +kernel
theorem dX2_followPlan_13 : decode cX2_followPlan 13 = .ok (.aload_n 1, 1) := by decide +kernel
theorem dX2_followPlan_14 : decode cX2_followPlan 14 = .ok (.getfield 67, 3) := by decide +kernel
theorem dX2_followPlan_17 : decode cX2_followPlan 17 = .ok (.iload_n 2, 1) := by decide +kernel
theorem dX2_followPlan_18 : decode cX2_followPlan 18 = .ok (.invokevirtual 161, 3) := by decide +kernel
theorem dX2_followPlan_21 : decode cX2_followPlan 21 = .ok (.checkcast 9, 3) := by decide +kernel
theorem dX2_followPlan_24 : decode cX2_followPlan 24 = .ok (.astore_n 3, 1) := by decide +kernel
theorem dX2_followPlan_25 : decode cX2_followPlan 25 = .ok (.aload_n 3, 1) := by decide +kernel
theorem dX2_followPlan_26 : decode cX2_followPlan 26 = .ok (.getfield 46, 3) := by decide +kernel
theorem dX2_followPlan_29 : decode cX2_followPlan 29 = .ok (.ifCond .eq 25, 3) := by decide +kernel
theorem dX2_followPlan_32 : decode cX2_followPlan 32 = .ok (.aload_n 0, 1) := by decide +kernel
theorem dX2_followPlan_33 : decode cX2_followPlan 33 = .ok (.aload_n 1, 1) := by decide +kernel
theorem dX2_followPlan_34 : decode cX2_followPlan 34 = .ok (.aload_n 3, 1) := by decide +kernel
theorem dX2_followPlan_35 : decode cX2_followPlan 35 = .ok (.invokevirtual 117, 3) := by decide +kernel
theorem dX2_followPlan_38 : decode cX2_followPlan 38 = .ok (.ifCond .ne 16, 3) := by decide +kernel
theorem dX2_followPlan_41 : decode cX2_followPlan 41 = .ok (.aload_n 0, 1) := by decide +kernel
theorem dX2_followPlan_42 : decode cX2_followPlan 42 = .ok (.aload_n 1, 1) := by decide +kernel
theorem dX2_followPlan_43 : decode cX2_followPlan 43 = .ok (.aload_n 3, 1) := by decide +kernel
theorem dX2_followPlan_44 : decode cX2_followPlan 44 = .ok (.aload_n 0, 1) := by decide +kernel
theorem dX2_followPlan_45 : decode cX2_followPlan 45 = .ok (.iconst 1, 1) := by decide +kernel
theorem dX2_followPlan_46 : decode cX2_followPlan 46 = .ok (.aload_n 3, 1) := by decide +kernel
theorem dX2_followPlan_47 : decode cX2_followPlan 47 = .ok (.invokevirtual 150, 3) := by decide +kernel
theorem dX2_followPlan_50 : decode cX2_followPlan 50 = .ok (.invokevirtual 195, 3) := by decide +kernel
theorem dX2_followPlan_53 : decode cX2_followPlan 53 = .ok (.return_, 1) := by decide +kernel
theorem dX2_followPlan_54 : decode cX2_followPlan 54 = .ok (.iinc 2 1, 3) := by decide +kernel
theorem dX2_followPlan_57 : decode cX2_followPlan 57 = .ok (.goto (-55), 3) := by decide +kernel
theorem dX2_followPlan_60 : decode cX2_followPlan 60 = .ok (.return_, 1) := by decide +kernel
set_option maxRecDepth 20000 in
theorem ggX2_letIn_X2_fillRoom : GoodIn wsX2_letIn wsX2_fillRoom := goodIn_r _ [6, 7, 8, 9, 5, 10, 11, 12, 13, 14, 15, 16, 17, 18, 19, 20, 21, 22, 23, 24, 25, 26, 27, 28, 29, 30, 31, 32, 33, 34, 35, 36, 40, 41, 42, 43, 44, 45, 37, 38, 39, 46, 47, 48, 49, 50, 51, 52, 53, 54, 55] (by decide +kernel) (by decide +kernel)
set_option maxRecDepth 20000 in
theorem gX2_letIn_X2_fillRoom : GoodIn wsX2_letIn (wsV RX2 202 RX2 yX2_fillRoom wsX2_fillRoom) := goodIn_app (goodIn_of _ (by decide +kernel)) ggX2_letIn_X2_fillRoom
theorem dX2_letIn_0 : decode cX2_letIn 0 = .ok (.aload_n 0, 1) := by decide +kernel
theorem dX2_letIn_1 : decode cX2_letIn 1 = .ok (.getfield 11, 3) := by decide +kernel
theorem dX2_letIn_4 : decode cX2_letIn 4 = .ok (.astore_n 1, 1) := by decide +kernel
theorem dX2_letIn_5 : decode cX2_letIn 5 = .ok (.aload_n 1, 1) := by decide +kernel
theorem dX2_letIn_6 : decode cX2_letIn 6 = .ok (.arraylength, 1) := by decide +kernel
theorem dX2_letIn_7 : decode cX2_letIn 7 = .ok (.istore_n 2, 1) := by decide +kernel
theorem dX2_letIn_8 : decode cX2_letIn 8 = .ok (.iconst 0, 1) := by decide +kernel
theorem dX2_letIn_9 : decode cX2_letIn 9 = .ok (.istore_n 3, 1) := by decide +kernel
theorem dX2_letIn_10 : decode cX2_letIn 10 = .ok (.iload_n 3, 1) := by decide +kernel
theorem dX2_letIn_11 : decode cX2_letIn 11 = .ok (.iload_n 2, 1) := by decide +kernel
theorem dX2_letIn_12 : decode cX2_letIn 12 = .ok (.if_icmp .ge 28, 3) := by decide +kernel
theorem dX2_letIn_15 : decode cX2_letIn 15 = .ok (.aload_n 1, 1) := by decide +kernel
theorem dX2_letIn_16 : decode cX2_letIn 16 = .ok (.iload_n 3, 1) := by decide +kernel
theorem dX2_letIn_17 : decode cX2_letIn 17 = .ok (.aaload, 1) := by decide +kernel
theorem dX2_letIn_18 : decode cX2_letIn 18 = .ok (.astore 4, 2) := by decide +kernel
theorem dX2_letIn_20 : decode cX2_letIn 20 = .ok (.aload 4, 2) := by decide +kernel
theorem dX2_letIn_22 : decode cX2_letIn 22 = .ok (.getfield 46, 3) := by decide +kernel
theorem dX2_letIn_25 : decode cX2_letIn 25 = .ok (.ifCond .eq 9, 3) := by decide +kernel
theorem dX2_letIn_28 : decode cX2_letIn 28 = .ok (.aload_n 0, 1) := by decide +kernel
theorem dX2_letIn_29 : decode cX2_letIn 29 = .ok (.aload 4, 2) := by decide +kernel
theorem dX2_letIn_31 : decode cX2_letIn 31 = .ok (.invokevirtual 202, 3) := by decide +kernel
theorem dX2_letIn_34 : decode cX2_letIn 34 = .ok (.iinc 3 1, 3) := by decide +kernel
theorem dX2_letIn_37 : decode cX2_letIn 37 = .ok (.goto (-27), 3) := by decide +kernel
theorem dX2_letIn_40 : decode cX2_letIn 40 = .ok (.return_, 1) := by decide +kernel
set_option maxRecDepth 20000 in
theorem ggX2_fillRoom_X2_countAt : GoodIn wsX2_fillRoom wsX2_countAt := goodIn_r _ [5, 6, 7, 8, 9, 4, 10, 38, 39, 40, 41, 42, 43, 44, 45, 46, 47, 48, 49, 50, 32, 33, 34, 35, 36, 37] (by decide +kernel) (by decide +kernel)
set_option maxRecDepth 20000 in
theorem gX2_fillRoom_X2_countAt : GoodIn wsX2_fillRoom (wsV RX2 150 RX2 yX2_countAt wsX2_countAt) := goodIn_app (goodIn_of _ (by decide +kernel)) ggX2_fillRoom_X2_countAt
set_option maxRecDepth 20000 in
theorem ggX2_fillRoom_X2_firstInQueue : GoodIn wsX2_fillRoom wsX2_firstInQueue := goodIn_r _ [14, 6, 7, 8, 9, 4, 10, 38, 39, 40, 41, 42, 43, 44, 45, 46, 47, 48, 49, 50, 32, 33, 34, 35, 36, 37] (by decide +kernel) (by decide +kernel)
set_option maxRecDepth 20000 in
theorem gX2_fillRoom_X2_firstInQueue : GoodIn wsX2_fillRoom (wsV RX2 206 RX2 yX2_firstInQueue wsX2_firstInQueue) := goodIn_app (goodIn_of _ (by decide +kernel)) ggX2_fillRoom_X2_firstInQueue
set_option maxRecDepth 20000 in
theorem ggX2_fillRoom_X2_goInside : GoodIn wsX2_fillRoom wsX2_goInside := goodIn_r _ [18, 19, 20, 21, 22, 4, 23, 6, 24, 25, 26, 27, 28, 29, 30, 31, 41, 42, 43, 44, 45, 46, 47, 48, 49, 50, 32, 33, 34, 35, 36, 37, 38, 39, 40] (by decide +kernel) (by decide +kernel)
set_option maxRecDepth 20000 in
theorem gX2_fillRoom_X2_goInside : GoodIn wsX2_fillRoom (wsV RX2 210 RX2 yX2_goInside wsX2_goInside) := goodIn_app (goodIn_of _ (by decide +kernel)) ggX2_fillRoom_X2_goInside
theorem dX2_fillRoom_0 : decode cX2_fillRoom 0 = .ok (.aload_n 1, 1) := by decide +kernel
theorem dX2_fillRoom_1 : decode cX2_fillRoom 1 = .ok (.getfield 40, 3) := by decide +kernel
theorem dX2_fillRoom_4 : decode cX2_fillRoom 4 = .ok (.aload_n 0, 1) := by decide +kernel
theorem dX2_fillRoom_5 : decode cX2_fillRoom 5 = .ok (.iconst 2, 1) := by decide +kernel
theorem dX2_fillRoom_6 : decode cX2_fillRoom 6 = .ok (.aload_n 1, 1) := by decide +kernel
theorem dX2_fillRoom_7 : decode cX2_fillRoom 7 = .ok (.invokevirtual 150, 3) := by decide +kernel
theorem dX2_fillRoom_10 : decode cX2_fillRoom 10 = .ok (.isub, 1) := by decide +kernel
theorem dX2_fillRoom_11 : decode cX2_fillRoom 11 = .ok (.istore_n 2, 1) := by decide +kernel
theorem dX2_fillRoom_12 : decode cX2_fillRoom 12 = .ok (.iload_n 2, 1) := by decide +kernel
theorem dX2_fillRoom_13 : decode cX2_fillRoom 13 = .ok (.ifCond .le 26, 3) := by decide +kernel
theorem dX2_fillRoom_16 : decode cX2_fillRoom 16 = .ok (.aload_n 0, 1) := by decide +kernel
theorem dX2_fillRoom_17 : decode cX2_fillRoom 17 = .ok (.aload_n 1, 1) := by decide +kernel
theorem dX2_fillRoom_18 : decode cX2_fillRoom 18 = .ok (.invokevirtual 206, 3) := by decide +kernel
theorem dX2_fillRoom_21 : decode cX2_fillRoom 21 = .ok (.astore_n 3, 1) := by decide +kernel
theorem dX2_fillRoom_22 : decode cX2_fillRoom 22 = .ok (.aload_n 3, 1) := by decide +kernel
theorem dX2_fillRoom_23 : decode cX2_fillRoom 23 = .ok (.ifnonnull 4, 3) := by decide +kernel
theorem dX2_fillRoom_26 : decode cX2_fillRoom 26 = .ok (.return_, 1) := by decide +kernel
theorem dX2_fillRoom_27 : decode cX2_fillRoom 27 = .ok (.aload_n 0, 1) := by decide +kernel
theorem dX2_fillRoom_28 : decode cX2_fillRoom 28 = .ok (.aload_n 3, 1) := by decide +kernel
theorem dX2_fillRoom_29 : decode cX2_fillRoom 29 = .ok (.aload_n 1, 1) := by decide +kernel
theorem dX2_fillRoom_30 : decode cX2_fillRoom 30 = .ok (.invokevirtual 210, 3) := by decide +kernel
theorem dX2_fillRoom_33 : decode cX2_fillRoom 33 = .ok (.iinc 2 (-1), 3) := by decide +kernel
theorem dX2_fillRoom_36 : decode cX2_fillRoom 36 = .ok (.goto (-24), 3) := by decide +kernel
theorem dX2_fillRoom_39 : decode cX2_fillRoom 39 = .ok (.return_, 1) := by decide +kernel
set_option maxRecDepth 20000 in
theorem ggX2_goInside_X2_leaveQueue : GoodIn wsX2_goInside wsX2_leaveQueue := goodIn_r _ [6, 7, 8, 9, 10, 5, 11, 12, 13, 14, 15, 32, 33, 34, 16, 17, 18, 19, 20, 21, 22, 23, 24, 25] (by decide +kernel) (by decide +kernel)
set_option maxRecDepth 20000 in
theorem gX2_goInside_X2_leaveQueue : GoodIn wsX2_goInside (wsV RX2 94 RX2 yX2_leaveQueue wsX2_leaveQueue) := goodIn_app (goodIn_of _ (by decide +kernel)) ggX2_goInside_X2_leaveQueue
theorem dX2_goInside_0 : decode cX2_goInside 0 = .ok (.aload_n 0, 1) := by decide +kernel
theorem dX2_goInside_1 : decode cX2_goInside 1 = .ok (.aload_n 1, 1) := by decide +kernel
theorem dX2_goInside_2 : decode cX2_goInside 2 = .ok (.invokevirtual 94, 3) := by decide +kernel
theorem dX2_goInside_5 : decode cX2_goInside 5 = .ok (.aload_n 1, 1) := by decide +kernel
theorem dX2_goInside_6 : decode cX2_goInside 6 = .ok (.iconst 2, 1) := by decide +kernel
theorem dX2_goInside_7 : decode cX2_goInside 7 = .ok (.putfield 138, 3) := by decide +kernel
theorem dX2_goInside_10 : decode cX2_goInside 10 = .ok (.aload_n 1, 1) := by decide +kernel
theorem dX2_goInside_11 : decode cX2_goInside 11 = .ok (.aload_n 2, 1) := by decide +kernel
theorem dX2_goInside_12 : decode cX2_goInside 12 = .ok (.getfield 133, 3) := by decide +kernel

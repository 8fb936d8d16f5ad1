theorem dX4_doLine_229 : decode cX4_doLine 229 = .ok (.invokevirtual 163, 3) := by decide +kernel
theorem dX4_doLine_232 : decode cX4_doLine 232 = .ok (.ireturn, 1) := by decide +kernel
theorem dX4_doLine_233 : decode cX4_doLine 233 = .ok (.aload_n 0, 1) := by decide +kernel
theorem dX4_doLine_234 : decode cX4_doLine 234 = .ok (.aload_n 1, 1) := by decide +kernel
theorem dX4_doLine_235 : decode cX4_doLine 235 = .ok (.iload_n 3, 1) := by decide +kernel
theorem dX4_doLine_236 : decode cX4_doLine 236 = .ok (.invokevirtual 166, 3) := by decide +kernel
theorem dX4_doLine_239 : decode cX4_doLine 239 = .ok (.ireturn, 1) := by decide +kernel
theorem dX4_doLine_240 : decode cX4_doLine 240 = .ok (.aload_n 0, 1) := by decide +kernel
theorem dX4_doLine_241 : decode cX4_doLine 241 = .ok (.aload_n 1, 1) := by decide +kernel
theorem dX4_doLine_242 : decode cX4_doLine 242 = .ok (.invokevirtual 169, 3) := by decide +kernel
theorem dX4_doLine_245 : decode cX4_doLine 245 = .ok (.ireturn, 1) := by decide +kernel
theorem dX4_doLine_246 : decode cX4_doLine 246 = .ok (.bipush (-2), 2) := by decide +kernel
theorem dX4_doLine_248 : decode cX4_doLine 248 = .ok (.ireturn, 1) := by decide +kernel
set_option maxRecDepth 20000 in
theorem ggX4_add_X4_next : GoodIn wsX4_add wsX4_next := goodIn_r _ [13, 14, 15, 16, 17, 18, 19, 20, 21, 22, 23, 24, 25, 26, 27, 28, 29, 30, 31] (by decide +kernel) (by decide +kernel)
set_option maxRecDepth 20000 in
theorem gX4_add_X4_next : GoodIn wsX4_add (wsV RX4 79 RX4 yX4_next wsX4_next) := goodIn_app (goodIn_of _ (by decide +kernel)) ggX4_add_X4_next
theorem dX4_add_0 : decode cX4_add 0 = .ok (.aload_n 1, 1) := by decide +kernel
theorem dX4_add_1 : decode cX4_add 1 = .ok (.sipush (-9999), 3) := by decide +kernel
theorem dX4_add_4 : decode cX4_add 4 = .ok (.sipush 9999, 3) := by decide +kernel
theorem dX4_add_7 : decode cX4_add 7 = .ok (.aload_n 1, 1) := by decide +kernel
theorem dX4_add_8 : decode cX4_add 8 = .ok (.getfield 65, 3) := by decide +kernel
theorem dX4_add_11 : decode cX4_add 11 = .ok (.iload_n 2, 1) := by decide +kernel
theorem dX4_add_12 : decode cX4_add 12 = .ok (.iadd, 1) := by decide +kernel
theorem dX4_add_13 : decode cX4_add 13 = .ok (.invokestatic 172, 3) := by decide +kernel
theorem dX4_add_16 : decode cX4_add 16 = .ok (.invokestatic 177, 3) := by decide +kernel
theorem dX4_add_19 : decode cX4_add 19 = .ok (.putfield 65, 3) := by decide +kernel
theorem dX4_add_22 : decode cX4_add 22 = .ok (.aload_n 0, 1) := by decide +kernel
theorem dX4_add_23 : decode cX4_add 23 = .ok (.aload_n 1, 1) := by decide +kernel
theorem dX4_add_24 : decode cX4_add 24 = .ok (.invokevirtual 79, 3) := by decide +kernel
theorem dX4_add_27 : decode cX4_add 27 = .ok (.ireturn, 1) := by decide +kernel
set_option maxRecDepth 20000 in
theorem ggX4_get_X7_localAt : GoodIn wsX4_get wsX7_localAt := goodIn_r _ [6, 7, 14, 15, 16, 17, 18, 19, 20, 21, 22, 23, 24, 25, 26, 27, 28, 29, 30] (by decide +kernel) (by decide +kernel)
set_option maxRecDepth 20000 in
theorem gX4_get_X7_localAt : GoodIn wsX4_get (wsV RX4 180 RX7 yX7_localAt wsX7_localAt) := goodIn_app (goodIn_of _ (by decide +kernel)) ggX4_get_X7_localAt
set_option maxRecDepth 20000 in
theorem ggX4_get_X4_next : GoodIn wsX4_get wsX4_next := goodIn_r _ [12, 13, 14, 15, 16, 17, 18, 19, 20, 21, 22, 23, 24, 25, 26, 27, 28, 29, 30] (by decide +kernel) (by decide +kernel)
set_option maxRecDepth 20000 in
theorem gX4_get_X4_next : GoodIn wsX4_get (wsV RX4 79 RX4 yX4_next wsX4_next) := goodIn_app (goodIn_of _ (by decide +kernel)) ggX4_get_X4_next
theorem dX4_get_0 : decode cX4_get 0 = .ok (.aload_n 1, 1) := by decide +kernel
theorem dX4_get_1 : decode cX4_get 1 = .ok (.aload_n 1, 1) := by decide +kernel
theorem dX4_get_2 : decode cX4_get 2 = .ok (.iload_n 2, 1) := by decide +kernel
theorem dX4_get_3 : decode cX4_get 3 = .ok (.invokevirtual 180, 3) := by decide +kernel
theorem dX4_get_6 : decode cX4_get 6 = .ok (.putfield 65, 3) := by decide +kernel
theorem dX4_get_9 : decode cX4_get 9 = .ok (.aload_n 0, 1) := by decide +kernel
theorem dX4_get_10 : decode cX4_get 10 = .ok (.aload_n 1, 1) := by decide +kernel
theorem dX4_get_11 : decode cX4_get 11 = .ok (.invokevirtual 79, 3) := by decide +kernel
theorem dX4_get_14 : decode cX4_get 14 = .ok (.ireturn, 1) := by decide +kernel
set_option maxRecDepth 20000 in
theorem ggX4_put_X7_putLocal : GoodIn wsX4_put wsX7_putLocal := goodIn_r _ [6, 7, 14, 15, 16, 17, 18, 19, 20, 21, 22, 23, 24, 25, 26, 27, 28, 29, 30] (by decide +kernel) (by decide +kernel)
set_option maxRecDepth 20000 in
theorem gX4_put_X7_putLocal : GoodIn wsX4_put (wsV RX4 75 RX7 yX7_putLocal wsX7_putLocal) := goodIn_app (goodIn_of _ (by decide +kernel)) ggX4_put_X7_putLocal
set_option maxRecDepth 20000 in
theorem ggX4_put_X4_next : GoodIn wsX4_put wsX4_next := goodIn_r _ [12, 13, 14, 15, 16, 17, 18, 19, 20, 21, 22, 23, 24, 25, 26, 27, 28, 29, 30] (by decide +kernel) (by decide +kernel)
set_option maxRecDepth 20000 in
theorem gX4_put_X4_next : GoodIn wsX4_put (wsV RX4 79 RX4 yX4_next wsX4_next) := goodIn_app (goodIn_of _ (by decide +kernel)) ggX4_put_X4_next
theorem dX4_put_0 : decode cX4_put 0 = .ok (.aload_n 1, 1) := by decide +kernel
theorem dX4_put_1 : decode cX4_put 1 = .ok (.iload_n 2, 1) := by decide +kernel
theorem dX4_put_2 : decode cX4_put 2 = .ok (.aload_n 1, 1) := by decide +kernel
theorem dX4_put_3 : decode cX4_put 3 = .ok (.getfield 65, 3) := by decide +kernel
theorem dX4_put_6 : decode cX4_put 6 = .ok (.invokevirtual 75, 3) := by decide +kernel
theorem dX4_put_9 : decode cX4_put 9 = .ok (.aload_n 0, 1) := by decide +kernel
theorem dX4_put_10 : decode cX4_put 10 = .ok (.aload_n 1, 1) := by decide +kernel
theorem dX4_put_11 : decode cX4_put 11 = .ok (.invokevirtual 79, 3) := by decide +kernel
theorem dX4_put_14 : decode cX4_put 14 = .ok (.ireturn, 1) := by decide +kernel
set_option maxRecDepth 20000 in
theorem ggX4_loop_X7_localAt : GoodIn wsX4_loop wsX7_localAt := goodIn_r _ [6, 7, 17, 18, 19, 20, 21, 22, 23, 24, 25, 26, 27, 28, 29, 30, 31, 32, 33] (by decide +kernel) (by decide +kernel)
set_option maxRecDepth 20000 in
theorem gX4_loop_X7_localAt : GoodIn wsX4_loop (wsV RX4 180 RX7 yX7_localAt wsX7_localAt) := goodIn_app (goodIn_of _ (by decide +kernel)) ggX4_loop_X7_localAt
set_option maxRecDepth 20000 in
theorem ggX4_loop_X4_next : GoodIn wsX4_loop wsX4_next := goodIn_r _ [12, 1, 17, 18, 19, 20, 21, 22, 23, 24, 25, 26, 27, 28, 29, 30, 31, 32, 33] (by decide +kernel) (by decide +kernel)
set_option maxRecDepth 20000 in
theorem gX4_loop_X4_next : GoodIn wsX4_loop (wsV RX4 79 RX4 yX4_next wsX4_next) := goodIn_app (goodIn_of _ (by decide +kernel)) ggX4_loop_X4_next
set_option maxRecDepth 20000 in
theorem ggX4_loop_X7_putLocal : GoodIn wsX4_loop wsX7_putLocal := goodIn_r _ [16, 7, 17, 18, 19, 20, 21, 22, 23, 24, 25, 26, 27, 28, 29, 30, 31, 32, 33] (by decide +kernel) (by decide +kernel)
set_option maxRecDepth 20000 in
theorem gX4_loop_X7_putLocal : GoodIn wsX4_loop (wsV RX4 75 RX7 yX7_putLocal wsX7_putLocal) := goodIn_app (goodIn_of _ (by decide +kernel)) ggX4_loop_X7_putLocal
theorem dX4_loop_0 : decode cX4_loop 0 = .ok (.aload_n 1, 1) := by decide +kernel
theorem dX4_loop_1 : decode cX4_loop 1 = .ok (.iload_n 2, 1) := by decide +kernel
theorem dX4_loop_2 : decode cX4_loop 2 = .ok (.invokevirtual 180, 3) := by decide +kernel
theorem dX4_loop_5 : decode cX4_loop 5 = .ok (.istore 4, 2) := by decide +kernel
theorem dX4_loop_7 : decode cX4_loop 7 = .ok (.iload 4, 2) := by decide +kernel
theorem dX4_loop_9 : decode cX4_loop 9 = .ok (.ifCond .gt 9, 3) := by decide +kernel
theorem dX4_loop_12 : decode cX4_loop 12 = .ok (.aload_n 0, 1) := by decide +kernel
theorem dX4_loop_13 : decode cX4_loop 13 = .ok (.aload_n 1, 1) := by decide +kernel
theorem dX4_loop_14 : decode cX4_loop 14 = .ok (.invokevirtual 79, 3) := by decide +kernel
theorem dX4_loop_17 : decode cX4_loop 17 = .ok (.ireturn, 1) := by decide +kernel
theorem dX4_loop_18 : decode cX4_loop 18 = .ok (.aload_n 1, 1) := by decide +kernel
theorem dX4_loop_19 : decode cX4_loop 19 = .ok (.iload_n 2, 1) := by decide +kernel
theorem dX4_loop_20 : decode cX4_loop 20 = .ok (.iload 4, 2) := by decide +kernel
theorem dX4_loop_22 : decode cX4_loop 22 = .ok (.iconst 1, 1) := by decide +kernel
theorem dX4_loop_23 : decode cX4_loop 23 = .ok (.isub, 1) := by decide +kernel
theorem dX4_loop_24 : decode cX4_loop 24 = .ok (.invokevirtual 75, 3) := by decide +kernel
theorem dX4_loop_27 : decode cX4_loop 27 = .ok (.aload_n 1, 1) := by decide +kernel
theorem dX4_loop_28 : decode cX4_loop 28 = .ok (.iload_n 3, 1) := by decide +kernel
theorem dX4_loop_29 : decode cX4_loop 29 = .ok (.putfield 82, 3) := by decide +kernel
theorem dX4_loop_32 : decode cX4_loop 32 = .ok (.iconst 0, 1) := by decide +kernel
theorem dX4_loop_33 : decode cX4_loop 33 = .ok (.ireturn, 1) := by decide +kernel
set_option maxRecDepth 20000 in
theorem ggX4_skip_X4_next : GoodIn wsX4_skip wsX4_next := goodIn_r _ [7, 2, 8, 9, 10, 11, 12, 13, 14, 15, 16, 17, 18, 19, 20, 21, 22, 23, 24] (by decide +kernel) (by decide +kernel)
set_option maxRecDepth 20000 in
theorem gX4_skip_X4_next : GoodIn wsX4_skip (wsV RX4 79 RX4 yX4_next wsX4_next) := goodIn_app (goodIn_of _ (by decide +kernel)) ggX4_skip_X4_next
theorem dX4_skip_0 : decode cX4_skip 0 = .ok (.aload_n 1, 1) := by decide +kernel
theorem dX4_skip_1 : decode cX4_skip 1 = .ok (.getfield 65, 3) := by decide +kernel
theorem dX4_skip_4 : decode cX4_skip 4 = .ok (.ifCond .le 9, 3) := by decide +kernel
theorem dX4_skip_7 : decode cX4_skip 7 = .ok (.aload_n 0, 1) := by decide +kernel
theorem dX4_skip_8 : decode cX4_skip 8 = .ok (.aload_n 1, 1) := by decide +kernel
theorem dX4_skip_9 : decode cX4_skip 9 = .ok (.invokevirtual 79, 3) := by decide +kernel
theorem dX4_skip_12 : decode cX4_skip 12 = .ok (.ireturn, 1) := by decide +kernel
theorem dX4_skip_13 : decode cX4_skip 13 = .ok (.aload_n 1, 1) := by decide +kernel
theorem dX4_skip_14 : decode cX4_skip 14 = .ok (.iload_n 2, 1) := by decide +kernel
theorem dX4_skip_15 : decode cX4_skip 15 = .ok (.putfield 82, 3) := by decide +kernel
theorem dX4_skip_18 : decode cX4_skip 18 = .ok (.iconst 0, 1) := by decide +kernel
theorem dX4_skip_19 : decode cX4_skip 19 = .ok (.ireturn, 1) := by decide +kernel
set_option maxRecDepth 20000 in
theorem ggX4_open_X6_scopeAt : GoodIn wsX4_open wsX6_scopeAt := goodIn_r _ [10, 11, 36, 37, 38, 39, 40, 41, 42, 43, 44, 45, 46, 47] (by decide +kernel) (by decide +kernel)
set_option maxRecDepth 20000 in
theorem gX4_open_X6_scopeAt : GoodIn wsX4_open (wsV RX4 186 RX6 yX6_scopeAt wsX6_scopeAt) := goodIn_app (goodIn_of _ (by decide +kernel)) ggX4_open_X6_scopeAt
set_option maxRecDepth 20000 in
theorem ggX4_open_X5_begin : GoodIn wsX4_open wsX5_begin := goodIn_r _ [16, 17, 18, 19, 20, 21, 22, 23, 24, 25, 26, 48, 49, 50, 51, 52, 53, 54, 55, 56, 57, 58, 59, 60, 61, 62, 63, 64, 65, 66, 67, 68, 69, 70, 71, 72, 73, 74, 75, 76, 77, 78] (by decide +kernel) (by decide +kernel)
set_option maxRecDepth 20000 in
theorem gX4_open_X5_begin : GoodIn wsX4_open (wsV RX4 190 RX5 yX5_begin wsX5_begin) := goodIn_app (goodIn_of _ (by decide +kernel)) ggX4_open_X5_begin
set_option maxRecDepth 20000 in
theorem ggX4_open_X4_next : GoodIn wsX4_open wsX4_next := goodIn_r _ [31, 32, 62, 63, 64, 65, 66, 67, 68, 69, 70, 71, 72, 73, 74, 75, 76, 77, 78] (by decide +kernel) (by decide +kernel)
set_option maxRecDepth 20000 in
theorem gX4_open_X4_next : GoodIn wsX4_open (wsV RX4 79 RX4 yX4_next wsX4_next) := goodIn_app (goodIn_of _ (by decide +kernel)) ggX4_open_X4_next
theorem dX4_open_0 : decode cX4_open 0 = .ok (.aload_n 0, 1) := by decide +kernel
theorem dX4_open_1 : decode cX4_open 1 = .ok (.getfield 15, 3) := by decide +kernel
theorem dX4_open_4 : decode cX4_open 4 = .ok (.aload_n 0, 1) := by decide +kernel
theorem dX4_open_5 : decode cX4_open 5 = .ok (.getfield 15, 3) := by decide +kernel
theorem dX4_open_8 : decode cX4_open 8 = .ok (.getfield 183, 3) := by decide +kernel
theorem dX4_open_11 : decode cX4_open 11 = .ok (.invokevirtual 186, 3) := by decide +kernel
theorem dX4_open_14 : decode cX4_open 14 = .ok (.astore 5, 2) := by decide +kernel
theorem dX4_open_16 : decode cX4_open 16 = .ok (.aload 5, 2) := by decide +kernel
theorem dX4_open_18 : decode cX4_open 18 = .ok (.ifnonnull 5, 3) := by decide +kernel
theorem dX4_open_21 : decode cX4_open 21 = .ok (.iconst 3, 1) := by decide +kernel
theorem dX4_open_22 : decode cX4_open 22 = .ok (.ireturn, 1) := by decide +kernel
theorem dX4_open_23 : decode cX4_open 23 = .ok (.aload 5, 2) := by decide +kernel
theorem dX4_open_25 : decode cX4_open 25 = .ok (.aload_n 1, 1) := by decide +kernel
theorem dX4_open_26 : decode cX4_open 26 = .ok (.iload_n 2, 1) := by decide +kernel
theorem dX4_open_27 : decode cX4_open 27 = .ok (.iload_n 3, 1) := by decide +kernel
theorem dX4_open_28 : decode cX4_open 28 = .ok (.iload 4, 2) := by decide +kernel
theorem dX4_open_30 : decode cX4_open 30 = .ok (.invokevirtual 190, 3) := by decide +kernel
theorem dX4_open_33 : decode cX4_open 33 = .ok (.aload_n 0, 1) := by decide +kernel
theorem dX4_open_34 : decode cX4_open 34 = .ok (.getfield 15, 3) := by decide +kernel
theorem dX4_open_37 : decode cX4_open 37 = .ok (.dup, 1) := by decide +kernel
theorem dX4_open_38 : decode cX4_open 38 = .ok (.getfield 183, 3) := by decide +kernel
theorem dX4_open_41 : decode cX4_open 41 = .ok (.iconst 1, 1) := by decide +kernel
theorem dX4_open_42 : decode cX4_open 42 = .ok (.iadd, 1) := by decide +kernel
theorem dX4_open_43 : decode cX4_open 43 = .ok (.putfield 183, 3) := by decide +kernel
theorem dX4_open_46 : decode cX4_open 46 = .ok (.aload_n 1, 1) := by decide +kernel
theorem dX4_open_47 : decode cX4_open 47 = .ok (.aload 5, 2) := by decide +kernel
theorem dX4_open_49 : decode cX4_open 49 = .ok (.getfield 196, 3) := by decide +kernel
theorem dX4_open_52 : decode cX4_open 52 = .ok (.putfield 142, 3) := by decide +kernel
theorem dX4_open_55 : decode cX4_open 55 = .ok (.aload_n 1, 1) := by decide +kernel
theorem dX4_open_56 : decode cX4_open 56 = .ok (.dup, 1) := by decide +kernel
theorem dX4_open_57 : decode cX4_open 57 = .ok (.getfield 199, 3) := by decide +kernel
theorem dX4_open_60 : decode cX4_open 60 = .ok (.iconst 1, 1) := by decide +kernel
theorem dX4_open_61 : decode cX4_open 61 = .ok (.iadd, 1) := by decide +kernel
theorem dX4_open_62 : decode cX4_open 62 = .ok (.putfield 199, 3) := by decide +kernel
theorem dX4_open_65 : decode cX4_open 65 = .ok (.aload_n 0, 1) := by decide +kernel
theorem dX4_open_66 : decode cX4_open 66 = .ok (.aload_n 1, 1) := by decide +kernel
theorem dX4_open_67 : decode cX4_open 67 = .ok (.invokevirtual 79, 3) := by decide +kernel
theorem dX4_open_70 : decode cX4_open 70 = .ok (.ireturn, 1) := by decide +kernel
set_option maxRecDepth 20000 in
theorem ggX4_spawn_X6_scopeAt : GoodIn wsX4_spawn wsX6_scopeAt := goodIn_r _ [12, 13, 79, 80, 81, 82, 83, 84, 85, 86, 87, 88, 89, 90] (by decide +kernel) (by decide +kernel)
set_option maxRecDepth 20000 in
theorem gX4_spawn_X6_scopeAt : GoodIn wsX4_spawn (wsV RX4 186 RX6 yX6_scopeAt wsX6_scopeAt) := goodIn_app (goodIn_of _ (by decide +kernel)) ggX4_spawn_X6_scopeAt
set_option maxRecDepth 20000 in
theorem ggX4_spawn_X6_makeTask : GoodIn wsX4_spawn wsX6_makeTask := goodIn_r _ [17, 18, 19, 20, 21, 22, 23, 24, 11, 25, 26, 27, 28, 29, 30, 31, 32, 33, 79, 80, 81, 82, 83, 84, 85, 86, 87, 88, 89, 90, 43, 44, 45, 46, 47, 48, 49, 50, 51, 52, 53, 54, 55, 56, 57, 58, 59] (by decide +kernel) (by decide +kernel)
set_option maxRecDepth 20000 in
theorem gX4_spawn_X6_makeTask : GoodIn wsX4_spawn (wsV RX4 205 RX6 yX6_makeTask wsX6_makeTask) := goodIn_app (goodIn_of _ (by decide +kernel)) ggX4_spawn_X6_makeTask
set_option maxRecDepth 20000 in
theorem ggX4_spawn_X4_next : GoodIn wsX4_spawn wsX4_next := goodIn_r _ [38, 39, 43, 44, 45, 46, 47, 48, 49, 50, 51, 52, 53, 54, 55, 56, 57, 58, 59] (by decide +kernel) (by decide +kernel)
set_option maxRecDepth 20000 in
theorem gX4_spawn_X4_next : GoodIn wsX4_spawn (wsV RX4 79 RX4 yX4_next wsX4_next) := goodIn_app (goodIn_of _ (by decide +kernel)) ggX4_spawn_X4_next
theorem dX4_spawn_0 : decode cX4_spawn 0 = .ok (.aload_n 0, 1) := by decide +kernel
theorem dX4_spawn_1 : decode cX4_spawn 1 = .ok (.getfield 15, 3) := by decide +kernel
theorem dX4_spawn_4 : decode cX4_spawn 4 = .ok (.aload_n 1, 1) := by decide +kernel
theorem dX4_spawn_5 : decode cX4_spawn 5 = .ok (.getfield 142, 3) := by decide +kernel
theorem dX4_spawn_8 : decode cX4_spawn 8 = .ok (.invokevirtual 186, 3) := by decide +kernel
theorem dX4_spawn_11 : decode cX4_spawn 11 = .ok (.astore_n 3, 1) := by decide +kernel
theorem dX4_spawn_12 : decode cX4_spawn 12 = .ok (.aload_n 3, 1) := by decide +kernel
theorem dX4_spawn_13 : decode cX4_spawn 13 = .ok (.ifnonnull 5, 3) := by decide +kernel
theorem dX4_spawn_16 : decode cX4_spawn 16 = .ok (.iconst 1, 1) := by decide +kernel
theorem dX4_spawn_17 : decode cX4_spawn 17 = .ok (.ireturn, 1) := by decide +kernel
theorem dX4_spawn_18 : decode cX4_spawn 18 = .ok (.iload_n 2, 1) := by decide +kernel
theorem dX4_spawn_19 : decode cX4_spawn 19 = .ok (.aload_n 0, 1) := by decide +kernel
theorem dX4_spawn_20 : decode cX4_spawn 20 = .ok (.getfield 9, 3) := by decide +kernel
theorem dX4_spawn_23 : decode cX4_spawn 23 = .ok (.getfield 202, 3) := by decide +kernel
theorem dX4_spawn_26 : decode cX4_spawn 26 = .ok (.if_icmp .ge 18, 3) := by decide +kernel
theorem dX4_spawn_29 : decode cX4_spawn 29 = .ok (.aload_n 0, 1) := by decide +kernel
theorem dX4_spawn_30 : decode cX4_spawn 30 = .ok (.getfield 15, 3) := by decide +kernel
theorem dX4_spawn_33 : decode cX4_spawn 33 = .ok (.iload_n 2, 1) := by decide +kernel
theorem dX4_spawn_34 : decode cX4_spawn 34 = .ok (.aload_n 3, 1) := by decide +kernel
theorem dX4_spawn_35 : decode cX4_spawn 35 = .ok (.getfield 196, 3) := by decide +kernel
theorem dX4_spawn_38 : decode cX4_spawn 38 = .ok (.invokevirtual 205, 3) := by decide +kernel
theorem dX4_spawn_41 : decode cX4_spawn 41 = .ok (.goto 4, 3) := by decide +kernel
theorem dX4_spawn_44 : decode cX4_spawn 44 = .ok (.iconst (-1), 1) := by decide +kernel
theorem dX4_spawn_45 : decode cX4_spawn 45 = .ok (.istore 4, 2) := by decide +kernel
theorem dX4_spawn_47 : decode cX4_spawn 47 = .ok (.iload 4, 2) := by decide +kernel
theorem dX4_spawn_49 : decode cX4_spawn 49 = .ok (.iconst (-1), 1) := by decide +kernel
theorem dX4_spawn_50 : decode cX4_spawn 50 = .ok (.if_icmp .ne 5, 3) := by decide +kernel
theorem dX4_spawn_53 : decode cX4_spawn 53 = .ok (.iconst 2, 1) := by decide +kernel
theorem dX4_spawn_54 : decode cX4_spawn 54 = .ok (.ireturn, 1) := by decide +kernel
theorem dX4_spawn_55 : decode cX4_spawn 55 = .ok (.aload_n 3, 1) := by decide +kernel
theorem dX4_spawn_56 : decode cX4_spawn 56 = .ok (.dup, 1) := by decide +kernel
theorem dX4_spawn_57 : decode cX4_spawn 57 = .ok (.getfield 208, 3) := by decide +kernel
theorem dX4_spawn_60 : decode cX4_spawn 60 = .ok (.iconst 1, 1) := by decide +kernel
theorem dX4_spawn_61 : decode cX4_spawn 61 = .ok (.iadd, 1) := by decide +kernel
theorem dX4_spawn_62 : decode cX4_spawn 62 = .ok (.putfield 208, 3) := by decide +kernel
theorem dX4_spawn_65 : decode cX4_spawn 65 = .ok (.aload_n 1, 1) := by decide +kernel
theorem dX4_spawn_66 : decode cX4_spawn 66 = .ok (.iload 4, 2) := by decide +kernel
theorem dX4_spawn_68 : decode cX4_spawn 68 = .ok (.putfield 65, 3) := by decide +kernel
theorem dX4_spawn_71 : decode cX4_spawn 71 = .ok (.aload_n 0, 1) := by decide +kernel
theorem dX4_spawn_72 : decode cX4_spawn 72 = .ok (.aload_n 1, 1) := by decide +kernel
theorem dX4_spawn_73 : decode cX4_spawn 73 = .ok (.invokevirtual 79, 3) := by decide +kernel
theorem dX4_spawn_76 : decode cX4_spawn 76 = .ok (.ireturn, 1) := by decide +kernel
set_option maxRecDepth 20000 in
theorem ggX4_stop_X6_scopeAt : GoodIn wsX4_stop wsX6_scopeAt := goodIn_r _ [7, 8, 65, 66, 67, 68, 69, 70, 71, 72, 73, 74, 75, 76] (by decide +kernel) (by decide +kernel)
set_option maxRecDepth 20000 in
theorem gX4_stop_X6_scopeAt : GoodIn wsX4_stop (wsV RX4 186 RX6 yX6_scopeAt wsX6_scopeAt) := goodIn_app (goodIn_of _ (by decide +kernel)) ggX4_stop_X6_scopeAt
set_option maxRecDepth 20000 in
theorem ggX4_stop_X6_cancelScope : GoodIn wsX4_stop wsX6_cancelScope := goodIn_r _ [12, 13, 14, 15, 16, 17, 18, 19, 20, 21, 22, 23, 24, 25, 6, 26, 27, 28, 8, 29, 30, 31, 32, 33, 34, 35, 36, 37, 38, 77, 78, 79, 80, 81, 82, 83, 84, 85, 86, 87, 88, 89, 90, 65, 66, 67, 68, 69, 70, 71, 72, 73, 74, 75, 76, 48, 49, 50, 51, 52, 53, 54, 55, 56, 57, 58, 59, 60, 61, 62, 63, 64] (by decide +kernel) (by decide +kernel)
set_option maxRecDepth 20000 in
theorem gX4_stop_X6_cancelScope : GoodIn wsX4_stop (wsV RX4 211 RX6 yX6_cancelScope wsX6_cancelScope) := goodIn_app (goodIn_of _ (by decide +kernel)) ggX4_stop_X6_cancelScope
set_option maxRecDepth 20000 in
theorem ggX4_stop_X4_next : GoodIn wsX4_stop wsX4_next := goodIn_r _ [43, 44, 48, 49, 50, 51, 52, 53, 54, 55, 56, 57, 58, 59, 60, 61, 62, 63, 64] (by decide +kernel) (by decide +kernel)
set_option maxRecDepth 20000 in
theorem gX4_stop_X4_next : GoodIn wsX4_stop (wsV RX4 79 RX4 yX4_next wsX4_next) := goodIn_app (goodIn_of _ (by decide +kernel)) ggX4_stop_X4_next
theorem dX4_stop_0 : decode cX4_stop 0 = .ok (.aload_n 0, 1) := by decide +kernel
theorem dX4_stop_1 : decode cX4_stop 1 = .ok (.getfield 15, 3) := by decide +kernel
theorem dX4_stop_4 : decode cX4_stop 4 = .ok (.aload_n 1, 1) := by decide +kernel
theorem dX4_stop_5 : decode cX4_stop 5 = .ok (.getfield 142, 3) := by decide +kernel
theorem dX4_stop_8 : decode cX4_stop 8 = .ok (.invokevirtual 186, 3) := by decide +kernel
theorem dX4_stop_11 : decode cX4_stop 11 = .ok (.astore_n 2, 1) := by decide +kernel
theorem dX4_stop_12 : decode cX4_stop 12 = .ok (.aload_n 2, 1) := by decide +kernel
theorem dX4_stop_13 : decode cX4_stop 13 = .ok (.ifnonnull 5, 3) := by decide +kernel
theorem dX4_stop_16 : decode cX4_stop 16 = .ok (.iconst 1, 1) := by decide +kernel
theorem dX4_stop_17 : decode cX4_stop 17 = .ok (.ireturn, 1) := by decide +kernel
theorem dX4_stop_18 : decode cX4_stop 18 = .ok (.aload_n 0, 1) := by decide +kernel
theorem dX4_stop_19 : decode cX4_stop 19 = .ok (.getfield 15, 3) := by decide +kernel
theorem dX4_stop_22 : decode cX4_stop 22 = .ok (.aload_n 2, 1) := by decide +kernel
theorem dX4_stop_23 : decode cX4_stop 23 = .ok (.invokevirtual 211, 3) := by decide +kernel
theorem dX4_stop_26 : decode cX4_stop 26 = .ok (.pop, 1) := by decide +kernel
theorem dX4_stop_27 : decode cX4_stop 27 = .ok (.aload_n 0, 1) := by decide +kernel
theorem dX4_stop_28 : decode cX4_stop 28 = .ok (.aload_n 1, 1) := by decide +kernel
theorem dX4_stop_29 : decode cX4_stop 29 = .ok (.invokevirtual 79, 3) := by decide +kernel
theorem dX4_stop_32 : decode cX4_stop 32 = .ok (.ireturn, 1) := by decide +kernel
set_option maxRecDepth 20000 in
theorem ggX4_sleep_X6_beginWait : GoodIn wsX4_sleep wsX6_beginWait := goodIn_r _ [8, 9, 10, 11, 12, 13, 14, 15, 16, 32, 33, 34, 35, 36, 37, 38, 39, 40, 41, 42, 43, 44, 45, 46, 47, 48, 20, 21, 22, 23, 24, 25, 26, 27, 28, 29, 30, 31] (by decide +kernel) (by decide +kernel)
set_option maxRecDepth 20000 in
theorem gX4_sleep_X6_beginWait : GoodIn wsX4_sleep (wsV RX4 215 RX6 yX6_beginWait wsX6_beginWait) := goodIn_app (goodIn_of _ (by decide +kernel)) ggX4_sleep_X6_beginWait
theorem dX4_sleep_0 : decode cX4_sleep 0 = .ok (.aload_n 0, 1) := by decide +kernel
theorem dX4_sleep_1 : decode cX4_sleep 1 = .ok (.getfield 15, 3) := by decide +kernel
theorem dX4_sleep_4 : decode cX4_sleep 4 = .ok (.aload_n 1, 1) := by decide +kernel
theorem dX4_sleep_5 : decode cX4_sleep 5 = .ok (.iconst 1, 1) := by decide +kernel
theorem dX4_sleep_6 : decode cX4_sleep 6 = .ok (.iconst (-1), 1) := by decide +kernel
theorem dX4_sleep_7 : decode cX4_sleep 7 = .ok (.invokevirtual 215, 3) := by decide +kernel
theorem dX4_sleep_10 : decode cX4_sleep 10 = .ok (.aload_n 1, 1) := by decide +kernel
theorem dX4_sleep_11 : decode cX4_sleep 11 = .ok (.aload_n 0, 1) := by decide +kernel
theorem dX4_sleep_12 : decode cX4_sleep 12 = .ok (.getfield 15, 3) := by decide +kernel
theorem dX4_sleep_15 : decode cX4_sleep 15 = .ok (.getfield 135, 3) := by decide +kernel
theorem dX4_sleep_18 : decode cX4_sleep 18 = .ok (.iload_n 2, 1) := by decide +kernel
theorem dX4_sleep_19 : decode cX4_sleep 19 = .ok (.iadd, 1) := by decide +kernel
theorem dX4_sleep_20 : decode cX4_sleep 20 = .ok (.putfield 219, 3) := by decide +kernel
theorem dX4_sleep_23 : decode cX4_sleep 23 = .ok (.bipush (-4), 2) := by decide +kernel
theorem dX4_sleep_25 : decode cX4_sleep 25 = .ok (.ireturn, 1) := by decide +kernel
set_option maxRecDepth 20000 in
theorem ggX4_lock_X6_lockAt : GoodIn wsX4_lock wsX6_lockAt := goodIn_r _ [8, 9, 59, 60, 61, 62, 63, 64, 65, 66, 67, 68, 69, 70] (by decide +kernel) (by decide +kernel)
set_option maxRecDepth 20000 in
theorem gX4_lock_X6_lockAt : GoodIn wsX4_lock (wsV RX4 222 RX6 yX6_lockAt wsX6_lockAt) := goodIn_app (goodIn_of _ (by decide +kernel)) ggX4_lock_X6_lockAt
set_option maxRecDepth 20000 in
theorem ggX4_lock_X2_giveTo : GoodIn wsX4_lock wsX2_giveTo := goodIn_r _ [14, 15, 16, 17, 42, 43, 44, 45, 46, 47, 48, 49, 50, 51, 52, 53, 54, 55, 56, 57, 58, 39, 40, 41] (by decide +kernel) (by decide +kernel)
set_option maxRecDepth 20000 in
theorem gX4_lock_X2_giveTo : GoodIn wsX4_lock (wsV RX4 232 RX2 yX2_giveTo wsX2_giveTo) := goodIn_app (goodIn_of _ (by decide +kernel)) ggX4_lock_X2_giveTo
set_option maxRecDepth 20000 in
theorem ggX4_lock_X4_next : GoodIn wsX4_lock wsX4_next := goodIn_r _ [22, 23, 42, 43, 44, 45, 46, 47, 48, 49, 50, 51, 52, 53, 54, 55, 56, 57, 58] (by decide +kernel) (by decide +kernel)
set_option maxRecDepth 20000 in
theorem gX4_lock_X4_next : GoodIn wsX4_lock (wsV RX4 79 RX4 yX4_next wsX4_next) := goodIn_app (goodIn_of _ (by decide +kernel)) ggX4_lock_X4_next
set_option maxRecDepth 20000 in
theorem ggX4_lock_X6_beginWait : GoodIn wsX4_lock wsX6_beginWait := goodIn_r _ [27, 28, 29, 30, 31, 32, 33, 34, 35, 42, 43, 44, 45, 46, 47, 48, 49, 50, 51, 52, 53, 54, 55, 56, 57, 58, 59, 60, 61, 62, 63, 64, 65, 66, 67, 68, 69, 70] (by decide +kernel) (by decide +kernel)
set_option maxRecDepth 20000 in
theorem gX4_lock_X6_beginWait : GoodIn wsX4_lock (wsV RX4 215 RX6 yX6_beginWait wsX6_beginWait) := goodIn_app (goodIn_of _ (by decide +kernel)) ggX4_lock_X6_beginWait
theorem dX4_lock_0 : decode cX4_lock 0 = .ok (.aload_n 0, 1) := by decide +kernel
theorem dX4_lock_1 : decode cX4_lock 1 = .ok (.getfield 15, 3) := by decide +kernel
theorem dX4_lock_4 : decode cX4_lock 4 = .ok (.iload_n 2, 1) := by decide +kernel
theorem dX4_lock_5 : decode cX4_lock 5 = .ok (.invokevirtual 222, 3) := by decide +kernel
theorem dX4_lock_8 : decode cX4_lock 8 = .ok (.astore_n 3, 1) := by decide +kernel
theorem dX4_lock_9 : decode cX4_lock 9 = .ok (.aload_n 3, 1) := by decide +kernel
theorem dX4_lock_10 : decode cX4_lock 10 = .ok (.ifnull 14, 3) := by decide +kernel
theorem dX4_lock_13 : decode cX4_lock 13 = .ok (.aload_n 3, 1) := by decide +kernel
theorem dX4_lock_14 : decode cX4_lock 14 = .ok (.getfield 226, 3) := by decide +kernel
theorem dX4_lock_17 : decode cX4_lock 17 = .ok (.aload_n 1, 1) := by decide +kernel
theorem dX4_lock_18 : decode cX4_lock 18 = .ok (.getfield 231, 3) := by decide +kernel
theorem dX4_lock_21 : decode cX4_lock 21 = .ok (.if_icmp .ne 5, 3) := by decide +kernel
theorem dX4_lock_24 : decode cX4_lock 24 = .ok (.iconst 4, 1) := by decide +kernel
theorem dX4_lock_25 : decode cX4_lock 25 = .ok (.ireturn, 1) := by decide +kernel
theorem dX4_lock_26 : decode cX4_lock 26 = .ok (.aload_n 3, 1) := by decide +kernel
theorem dX4_lock_27 : decode cX4_lock 27 = .ok (.getfield 226, 3) := by decide +kernel
theorem dX4_lock_30 : decode cX4_lock 30 = .ok (.iconst (-1), 1) := by decide +kernel
theorem dX4_lock_31 : decode cX4_lock 31 = .ok (.if_icmp .ne 14, 3) := by decide +kernel
theorem dX4_lock_34 : decode cX4_lock 34 = .ok (.aload_n 3, 1) := by decide +kernel
theorem dX4_lock_35 : decode cX4_lock 35 = .ok (.aload_n 1, 1) := by decide +kernel
theorem dX4_lock_36 : decode cX4_lock 36 = .ok (.invokevirtual 232, 3) := by decide +kernel
theorem dX4_lock_39 : decode cX4_lock 39 = .ok (.aload_n 0, 1) := by decide +kernel
theorem dX4_lock_40 : decode cX4_lock 40 = .ok (.aload_n 1, 1) := by decide +kernel
theorem dX4_lock_41 : decode cX4_lock 41 = .ok (.invokevirtual 79, 3) := by decide +kernel
theorem dX4_lock_44 : decode cX4_lock 44 = .ok (.ireturn, 1) := by decide +kernel
theorem dX4_lock_45 : decode cX4_lock 45 = .ok (.aload_n 0, 1) := by decide +kernel
theorem dX4_lock_46 : decode cX4_lock 46 = .ok (.getfield 15, 3) := by decide +kernel
theorem dX4_lock_49 : decode cX4_lock 49 = .ok (.aload_n 1, 1) := by decide +kernel
theorem dX4_lock_50 : decode cX4_lock 50 = .ok (.iconst 2, 1) := by decide +kernel
theorem dX4_lock_51 : decode cX4_lock 51 = .ok (.iload_n 2, 1) := by decide +kernel
theorem dX4_lock_52 : decode cX4_lock 52 = .ok (.invokevirtual 215, 3) := by decide +kernel
theorem dX4_lock_55 : decode cX4_lock 55 = .ok (.bipush (-4), 2) := by decide +kernel
theorem dX4_lock_57 : decode cX4_lock 57 = .ok (.ireturn, 1) := by decide +kernel
set_option maxRecDepth 20000 in
theorem ggX4_free_X6_lockAt : GoodIn wsX4_free wsX6_lockAt := goodIn_r _ [8, 9, 71, 72, 73, 74, 75, 76, 77, 78, 79, 80, 81, 82] (by decide +kernel) (by decide +kernel)
set_option maxRecDepth 20000 in
theorem gX4_free_X6_lockAt : GoodIn wsX4_free (wsV RX4 222 RX6 yX6_lockAt wsX6_lockAt) := goodIn_app (goodIn_of _ (by decide +kernel)) ggX4_free_X6_lockAt
set_option maxRecDepth 20000 in
theorem ggX4_free_X6_freeLock : GoodIn wsX4_free wsX6_freeLock := goodIn_r _ [13, 14, 15, 16, 17, 18, 19, 7, 20, 21, 22, 23, 24, 25, 26, 27, 28, 29, 30, 31, 32, 33, 34, 35, 36, 37, 38, 39, 40, 41, 51, 52, 53, 54, 55, 56, 57, 58, 59, 60, 61, 62, 63, 64, 65, 66, 67, 68, 69, 70, 71, 72, 73, 74, 75, 76, 77, 78, 79, 80, 81, 82] (by decide +kernel) (by decide +kernel)
set_option maxRecDepth 20000 in
theorem gX4_free_X6_freeLock : GoodIn wsX4_free (wsV RX4 236 RX6 yX6_freeLock wsX6_freeLock) := goodIn_app (goodIn_of _ (by decide +kernel)) ggX4_free_X6_freeLock
set_option maxRecDepth 20000 in
theorem ggX4_free_X4_next : GoodIn wsX4_free wsX4_next := goodIn_r _ [46, 47, 54, 55, 56, 57, 58, 59, 60, 61, 62, 63, 64, 65, 66, 67, 68, 69, 70] (by decide +kernel) (by decide +kernel)
set_option maxRecDepth 20000 in
theorem gX4_free_X4_next : GoodIn wsX4_free (wsV RX4 79 RX4 yX4_next wsX4_next) := goodIn_app (goodIn_of _ (by decide +kernel)) ggX4_free_X4_next
theorem dX4_free_0 : decode cX4_free 0 = .ok (.aload_n 0, 1) := by decide +kernel
theorem dX4_free_1 : decode cX4_free 1 = .ok (.getfield 15, 3) := by decide +kernel
theorem dX4_free_4 : decode cX4_free 4 = .ok (.iload_n 2, 1) := by decide +kernel
theorem dX4_free_5 : decode cX4_free 5 = .ok (.invokevirtual 222, 3) := by decide +kernel
theorem dX4_free_8 : decode cX4_free 8 = .ok (.astore_n 3, 1) := by decide +kernel
theorem dX4_free_9 : decode cX4_free 9 = .ok (.aload_n 3, 1) := by decide +kernel
theorem dX4_free_10 : decode cX4_free 10 = .ok (.ifnull 14, 3) := by decide +kernel
theorem dX4_free_13 : decode cX4_free 13 = .ok (.aload_n 3, 1) := by decide +kernel
theorem dX4_free_14 : decode cX4_free 14 = .ok (.getfield 226, 3) := by decide +kernel
theorem dX4_free_17 : decode cX4_free 17 = .ok (.aload_n 1, 1) := by decide +kernel
theorem dX4_free_18 : decode cX4_free 18 = .ok (.getfield 231, 3) := by decide +kernel
theorem dX4_free_21 : decode cX4_free 21 = .ok (.if_icmp .eq 5, 3) := by decide +kernel
theorem dX4_free_24 : decode cX4_free 24 = .ok (.iconst 4, 1) := by decide +kernel
theorem dX4_free_25 : decode cX4_free 25 = .ok (.ireturn, 1) := by decide +kernel
theorem dX4_free_26 : decode cX4_free 26 = .ok (.aload_n 0, 1) := by decide +kernel
theorem dX4_free_27 : decode cX4_free 27 = .ok (.getfield 15, 3) := by decide +kernel
theorem dX4_free_30 : decode cX4_free 30 = .ok (.aload_n 3, 1) := by decide +kernel
theorem dX4_free_31 : decode cX4_free 31 = .ok (.invokevirtual 236, 3) := by decide +kernel
theorem dX4_free_34 : decode cX4_free 34 = .ok (.aload_n 0, 1) := by decide +kernel
theorem dX4_free_35 : decode cX4_free 35 = .ok (.aload_n 1, 1) := by decide +kernel
theorem dX4_free_36 : decode cX4_free 36 = .ok (.invokevirtual 79, 3) := by decide +kernel
theorem dX4_free_39 : decode cX4_free 39 = .ok (.ireturn, 1) := by decide +kernel
set_option maxRecDepth 20000 in
theorem ggX4_send_X6_channelAt : GoodIn wsX4_send wsX6_channelAt := goodIn_r _ [11, 12, 82, 83, 84, 85, 86, 87, 88, 89, 90, 91, 92, 93] (by decide +kernel) (by decide +kernel)
set_option maxRecDepth 20000 in
theorem gX4_send_X6_channelAt : GoodIn wsX4_send (wsV RX4 240 RX6 yX6_channelAt wsX6_channelAt) := goodIn_app (goodIn_of _ (by decide +kernel)) ggX4_send_X6_channelAt
set_option maxRecDepth 20000 in
theorem ggX4_send_X6_firstWaiting : GoodIn wsX4_send wsX6_firstWaiting := goodIn_r _ [16, 17, 18, 19, 20, 21, 22, 82, 83, 84, 85, 86, 87, 88, 89, 90, 91, 92, 93, 65, 66, 67, 68, 69, 70, 71, 72, 73, 74, 75, 76, 77, 78, 79, 80, 81] (by decide +kernel) (by decide +kernel)
set_option maxRecDepth 20000 in
theorem gX4_send_X6_firstWaiting : GoodIn wsX4_send (wsV RX4 249 RX6 yX6_firstWaiting wsX6_firstWaiting) := goodIn_app (goodIn_of _ (by decide +kernel)) ggX4_send_X6_firstWaiting
set_option maxRecDepth 20000 in
theorem ggX4_send_X6_giveValue : GoodIn wsX4_send wsX6_giveValue := goodIn_r _ [26, 27, 20, 28, 29, 30, 8, 9, 10, 11, 12, 31, 32, 33, 34, 18, 35, 36, 37, 65, 66, 67, 68, 69, 70, 71, 72, 73, 74, 75, 76, 77, 78, 79, 80, 81, 60, 61, 62, 63, 64, 82, 83, 84, 85, 86, 87, 88, 89, 90, 91, 92, 93] (by decide +kernel) (by decide +kernel)
set_option maxRecDepth 20000 in
theorem gX4_send_X6_giveValue : GoodIn wsX4_send (wsV RX4 253 RX6 yX6_giveValue wsX6_giveValue) := goodIn_app (goodIn_of _ (by decide +kernel)) ggX4_send_X6_giveValue
set_option maxRecDepth 20000 in
theorem ggX4_send_X4_next : GoodIn wsX4_send wsX4_next := goodIn_r _ [42, 43, 65, 66, 67, 68, 69, 70, 71, 72, 73, 74, 75, 76, 77, 78, 79, 80, 81] (by decide +kernel) (by decide +kernel)
set_option maxRecDepth 20000 in
theorem gX4_send_X4_next : GoodIn wsX4_send (wsV RX4 79 RX4 yX4_next wsX4_next) := goodIn_app (goodIn_of _ (by decide +kernel)) ggX4_send_X4_next
set_option maxRecDepth 20000 in
theorem ggX4_send_X1_addLast : GoodIn wsX4_send wsX1_addLast := goodIn_r _ [48, 49, 50, 60, 61, 62, 63, 64] (by decide +kernel) (by decide +kernel)
set_option maxRecDepth 20000 in
theorem gX4_send_X1_addLast : GoodIn wsX4_send (wsV RX4 262 RX1 yX1_addLast wsX1_addLast) := goodIn_app (goodIn_of _ (by decide +kernel)) ggX4_send_X1_addLast
set_option maxRecDepth 20000 in
theorem ggX4_send_X6_beginWait : GoodIn wsX4_send wsX6_beginWait := goodIn_r _ [54, 18, 19, 20, 21, 28, 55, 56, 22, 65, 66, 67, 68, 69, 70, 71, 72, 73, 74, 75, 76, 77, 78, 79, 80, 81, 82, 83, 84, 85, 86, 87, 88, 89, 90, 91, 92, 93] (by decide +kernel) (by decide +kernel)
set_option maxRecDepth 20000 in
theorem gX4_send_X6_beginWait : GoodIn wsX4_send (wsV RX4 215 RX6 yX6_beginWait wsX6_beginWait) := goodIn_app (goodIn_of _ (by decide +kernel)) ggX4_send_X6_beginWait
theorem dX4_send_0 : decode cX4_send 0 = .ok (.aload_n 0, 1) := by decide +kernel
theorem dX4_send_1 : decode cX4_send 1 = .ok (.getfield 15, 3) := by decide +kernel
theorem dX4_send_4 : decode cX4_send 4 = .ok (.iload_n 2, 1) := by decide +kernel
theorem dX4_send_5 : decode cX4_send 5 = .ok (.invokevirtual 240, 3) := by decide +kernel
theorem dX4_send_8 : decode cX4_send 8 = .ok (.astore_n 3, 1) := by decide +kernel
theorem dX4_send_9 : decode cX4_send 9 = .ok (.aload_n 3, 1) := by decide +kernel
theorem dX4_send_10 : decode cX4_send 10 = .ok (.ifnull 10, 3) := by decide +kernel
theorem dX4_send_13 : decode cX4_send 13 = .ok (.aload_n 3, 1) := by decide +kernel
theorem dX4_send_14 : decode cX4_send 14 = .ok (.getfield 244, 3) := by decide +kernel
theorem dX4_send_17 : decode cX4_send 17 = .ok (.ifCond .eq 5, 3) := by decide +kernel
theorem dX4_send_20 : decode cX4_send 20 = .ok (.iconst 5, 1) := by decide +kernel
theorem dX4_send_21 : decode cX4_send 21 = .ok (.ireturn, 1) := by decide +kernel
theorem dX4_send_22 : decode cX4_send 22 = .ok (.aload_n 0, 1) := by decide +kernel
theorem dX4_send_23 : decode cX4_send 23 = .ok (.getfield 15, 3) := by decide +kernel
theorem dX4_send_26 : decode cX4_send 26 = .ok (.iconst 4, 1) := by decide +kernel
theorem dX4_send_27 : decode cX4_send 27 = .ok (.iload_n 2, 1) := by decide +kernel
theorem dX4_send_28 : decode cX4_send 28 = .ok (.invokevirtual 249, 3) := by decide +kernel
theorem dX4_send_31 : decode cX4_send 31 = .ok (.astore 4, 2) := by decide +kernel
theorem dX4_send_33 : decode cX4_send 33 = .ok (.aload 4, 2) := by decide +kernel
theorem dX4_send_35 : decode cX4_send 35 = .ok (.ifnull 23, 3) := by decide +kernel
theorem dX4_send_38 : decode cX4_send 38 = .ok (.aload_n 0, 1) := by decide +kernel
theorem dX4_send_39 : decode cX4_send 39 = .ok (.getfield 15, 3) := by decide +kernel
theorem dX4_send_42 : decode cX4_send 42 = .ok (.aload 4, 2) := by decide +kernel
theorem dX4_send_44 : decode cX4_send 44 = .ok (.iload_n 2, 1) := by decide +kernel
theorem dX4_send_45 : decode cX4_send 45 = .ok (.aload_n 1, 1) := by decide +kernel
theorem dX4_send_46 : decode cX4_send 46 = .ok (.getfield 65, 3) := by decide +kernel
theorem dX4_send_49 : decode cX4_send 49 = .ok (.invokevirtual 253, 3) := by decide +kernel
theorem dX4_send_52 : decode cX4_send 52 = .ok (.aload_n 0, 1) := by decide +kernel
theorem dX4_send_53 : decode cX4_send 53 = .ok (.aload_n 1, 1) := by decide +kernel
theorem dX4_send_54 : decode cX4_send 54 = .ok (.invokevirtual 79, 3) := by decide +kernel
theorem dX4_send_57 : decode cX4_send 57 = .ok (.ireturn, 1) := by decide +kernel
theorem dX4_send_58 : decode cX4_send 58 = .ok (.aload_n 3, 1) := by decide +kernel
theorem dX4_send_59 : decode cX4_send 59 = .ok (.getfield 256, 3) := by decide +kernel
theorem dX4_send_62 : decode cX4_send 62 = .ok (.aload_n 3, 1) := by decide +kernel
theorem dX4_send_63 : decode cX4_send 63 = .ok (.getfield 259, 3) := by decide +kernel
theorem dX4_send_66 : decode cX4_send 66 = .ok (.if_icmp .ge 17, 3) := by decide +kernel
theorem dX4_send_69 : decode cX4_send 69 = .ok (.aload_n 3, 1) := by decide +kernel
theorem dX4_send_70 : decode cX4_send 70 = .ok (.aload_n 1, 1) := by decide +kernel
theorem dX4_send_71 : decode cX4_send 71 = .ok (.getfield 65, 3) := by decide +kernel
theorem dX4_send_74 : decode cX4_send 74 = .ok (.invokevirtual 262, 3) := by decide +kernel
theorem dX4_send_77 : decode cX4_send 77 = .ok (.aload_n 0, 1) := by decide +kernel
theorem dX4_send_78 : decode cX4_send 78 = .ok (.aload_n 1, 1) := by decide +kernel
theorem dX4_send_79 : decode cX4_send 79 = .ok (.invokevirtual 79, 3) := by decide +kernel
theorem dX4_send_82 : decode cX4_send 82 = .ok (.ireturn, 1) := by decide +kernel
theorem dX4_send_83 : decode cX4_send 83 = .ok (.aload_n 0, 1) := by decide +kernel
theorem dX4_send_84 : decode cX4_send 84 = .ok (.getfield 15, 3) := by decide +kernel
theorem dX4_send_87 : decode cX4_send 87 = .ok (.aload_n 1, 1) := by decide +kernel
theorem dX4_send_88 : decode cX4_send 88 = .ok (.iconst 3, 1) := by decide +kernel
theorem dX4_send_89 : decode cX4_send 89 = .ok (.iload_n 2, 1) := by decide +kernel
theorem dX4_send_90 : decode cX4_send 90 = .ok (.invokevirtual 215, 3) := by decide +kernel
theorem dX4_send_93 : decode cX4_send 93 = .ok (.aload_n 1, 1) := by decide +kernel
theorem dX4_send_94 : decode cX4_send 94 = .ok (.aload_n 1, 1) := by decide +kernel
theorem dX4_send_95 : decode cX4_send 95 = .ok (.getfield 65, 3) := by decide +kernel
theorem dX4_send_98 : decode cX4_send 98 = .ok (.putfield 62, 3) := by decide +kernel
theorem dX4_send_101 : decode cX4_send 101 = .ok (.bipush (-4), 2) := by decide +kernel
theorem dX4_send_103 : decode cX4_send 103 = .ok (.ireturn, 1) := by decide +kernel
set_option maxRecDepth 20000 in
theorem ggX4_take_X6_hasValue : GoodIn wsX4_take wsX6_hasValue := goodIn_r _ [8, 9, 10, 11, 12, 7, 13, 14, 15, 16, 17, 18, 19, 20, 21, 22, 23, 24, 87, 88, 89, 90, 91, 92, 93, 94, 95, 96, 97, 98, 99, 100, 101, 102, 103, 70, 71, 72, 73, 74, 75, 76, 77, 78, 79, 80, 81, 82, 83, 84, 85, 86] (by decide +kernel) (by decide +kernel)
set_option maxRecDepth 20000 in
theorem gX4_take_X6_hasValue : GoodIn wsX4_take (wsV RX4 266 RX6 yX6_hasValue wsX6_hasValue) := goodIn_app (goodIn_of _ (by decide +kernel)) ggX4_take_X6_hasValue
set_option maxRecDepth 20000 in
theorem ggX4_take_X6_takeValue : GoodIn wsX4_take wsX6_takeValue := goodIn_r _ [28, 9, 29, 30, 10, 11, 12, 7, 13, 14, 15, 16, 17, 18, 19, 20, 21, 22, 23, 24, 31, 32, 33, 34, 35, 36, 37, 38, 39, 40, 41, 42, 43, 44, 45, 46, 47, 48, 49, 50, 51, 52, 87, 88, 89, 90, 91, 70, 71, 72, 73, 74, 75, 76, 77, 78, 79, 80, 81, 82, 83, 84, 85, 86, 92, 93, 94, 95, 96, 97, 98, 99, 100, 101, 102, 103] (by decide +kernel) (by decide +kernel)
set_option maxRecDepth 20000 in
theorem gX4_take_X6_takeValue : GoodIn wsX4_take (wsV RX4 269 RX6 yX6_takeValue wsX6_takeValue) := goodIn_app (goodIn_of _ (by decide +kernel)) ggX4_take_X6_takeValue
set_option maxRecDepth 20000 in
theorem ggX4_take_X4_next : GoodIn wsX4_take wsX4_next := goodIn_r _ [57, 58, 70, 71, 72, 73, 74, 75, 76, 77, 78, 79, 80, 81, 82, 83, 84, 85, 86] (by decide +kernel) (by decide +kernel)
set_option maxRecDepth 20000 in
theorem gX4_take_X4_next : GoodIn wsX4_take (wsV RX4 79 RX4 yX4_next wsX4_next) := goodIn_app (goodIn_of _ (by decide +kernel)) ggX4_take_X4_next
set_option maxRecDepth 20000 in
theorem ggX4_take_X6_channelAt : GoodIn wsX4_take wsX6_channelAt := goodIn_r _ [13, 14, 92, 93, 94, 95, 96, 97, 98, 99, 100, 101, 102, 103] (by decide +kernel) (by decide +kernel)
set_option maxRecDepth 20000 in
theorem gX4_take_X6_channelAt : GoodIn wsX4_take (wsV RX4 240 RX6 yX6_channelAt wsX6_channelAt) := goodIn_app (goodIn_of _ (by decide +kernel)) ggX4_take_X6_channelAt
set_option maxRecDepth 20000 in
theorem ggX4_take_X6_beginWait : GoodIn wsX4_take wsX6_beginWait := goodIn_r _ [63, 20, 21, 22, 23, 64, 65, 66, 24, 70, 71, 72, 73, 74, 75, 76, 77, 78, 79, 80, 81, 82, 83, 84, 85, 86, 92, 93, 94, 95, 96, 97, 98, 99, 100, 101, 102, 103] (by decide +kernel) (by decide +kernel)
set_option maxRecDepth 20000 in
theorem gX4_take_X6_beginWait : GoodIn wsX4_take (wsV RX4 215 RX6 yX6_beginWait wsX6_beginWait) := goodIn_app (goodIn_of _ (by decide +kernel)) ggX4_take_X6_beginWait
theorem dX4_take_0 : decode cX4_take 0 = .ok (.aload_n 0, 1) := by decide +kernel
theorem dX4_take_1 : decode cX4_take 1 = .ok (.getfield 15, 3) := by decide +kernel
theorem dX4_take_4 : decode cX4_take 4 = .ok (.iload_n 2, 1) := by decide +kernel
theorem dX4_take_5 : decode cX4_take 5 = .ok (.invokevirtual 266, 3) := by decide +kernel
theorem dX4_take_8 : decode cX4_take 8 = .ok (.ifCond .eq 21, 3) := by decide +kernel
theorem dX4_take_11 : decode cX4_take 11 = .ok (.aload_n 1, 1) := by decide +kernel
theorem dX4_take_12 : decode cX4_take 12 = .ok (.aload_n 0, 1) := by decide +kernel
theorem dX4_take_13 : decode cX4_take 13 = .ok (.getfield 15, 3) := by decide +kernel
theorem dX4_take_16 : decode cX4_take 16 = .ok (.iload_n 2, 1) := by decide +kernel
theorem dX4_take_17 : decode cX4_take 17 = .ok (.invokevirtual 269, 3) := by decide +kernel
theorem dX4_take_20 : decode cX4_take 20 = .ok (.putfield 65, 3) := by decide +kernel
theorem dX4_take_23 : decode cX4_take 23 = .ok (.aload_n 0, 1) := by decide +kernel
theorem dX4_take_24 : decode cX4_take 24 = .ok (.aload_n 1, 1) := by decide +kernel
theorem dX4_take_25 : decode cX4_take 25 = .ok (.invokevirtual 79, 3) := by decide +kernel
theorem dX4_take_28 : decode cX4_take 28 = .ok (.ireturn, 1) := by decide +kernel
theorem dX4_take_29 : decode cX4_take 29 = .ok (.aload_n 0, 1) := by decide +kernel
theorem dX4_take_30 : decode cX4_take 30 = .ok (.getfield 15, 3) := by decide +kernel
theorem dX4_take_33 : decode cX4_take 33 = .ok (.iload_n 2, 1) := by decide +kernel
theorem dX4_take_34 : decode cX4_take 34 = .ok (.invokevirtual 240, 3) := by decide +kernel
theorem dX4_take_37 : decode cX4_take 37 = .ok (.astore_n 3, 1) := by decide +kernel
theorem dX4_take_38 : decode cX4_take 38 = .ok (.aload_n 3, 1) := by decide +kernel
theorem dX4_take_39 : decode cX4_take 39 = .ok (.ifnull 10, 3) := by decide +kernel
theorem dX4_take_42 : decode cX4_take 42 = .ok (.aload_n 3, 1) := by decide +kernel
theorem dX4_take_43 : decode cX4_take 43 = .ok (.getfield 244, 3) := by decide +kernel
theorem dX4_take_46 : decode cX4_take 46 = .ok (.ifCond .eq 6, 3) := by decide +kernel
theorem dX4_take_49 : decode cX4_take 49 = .ok (.bipush 6, 2) := by decide +kernel
theorem dX4_take_51 : decode cX4_take 51 = .ok (.ireturn, 1) := by decide +kernel
theorem dX4_take_52 : decode cX4_take 52 = .ok (.aload_n 0, 1) := by decide +kernel
theorem dX4_take_53 : decode cX4_take 53 = .ok (.getfield 15, 3) := by decide +kernel
theorem dX4_take_56 : decode cX4_take 56 = .ok (.aload_n 1, 1) := by decide +kernel
theorem dX4_take_57 : decode cX4_take 57 = .ok (.iconst 4, 1) := by decide +kernel
theorem dX4_take_58 : decode cX4_take 58 = .ok (.iload_n 2, 1) := by decide +kernel
theorem dX4_take_59 : decode cX4_take 59 = .ok (.invokevirtual 215, 3) := by decide +kernel
theorem dX4_take_62 : decode cX4_take 62 = .ok (.bipush (-4), 2) := by decide +kernel
theorem dX4_take_64 : decode cX4_take 64 = .ok (.ireturn, 1) := by decide +kernel
set_option maxRecDepth 20000 in
theorem ggX4_pick_X6_hasValue : GoodIn wsX4_pick wsX6_hasValue := goodIn_r _ [8, 9, 10, 11, 12, 7, 13, 14, 15, 16, 17, 18, 19, 20, 21, 22, 23, 24, 97, 98, 99, 100, 101, 102, 103, 104, 105, 106, 107, 108, 109, 110, 111, 112, 113, 80, 81, 82, 83, 84, 85, 86, 87, 88, 89, 90, 91, 92, 93, 94, 95, 96] (by decide +kernel) (by decide +kernel)
set_option maxRecDepth 20000 in
theorem gX4_pick_X6_hasValue : GoodIn wsX4_pick (wsV RX4 266 RX6 yX6_hasValue wsX6_hasValue) := goodIn_app (goodIn_of _ (by decide +kernel)) ggX4_pick_X6_hasValue
set_option maxRecDepth 20000 in
theorem ggX4_pick_X6_takeValue : GoodIn wsX4_pick wsX6_takeValue := goodIn_r _ [28, 9, 29, 30, 10, 11, 12, 7, 13, 14, 15, 16, 17, 18, 19, 20, 21, 22, 23, 24, 31, 32, 33, 34, 35, 36, 37, 38, 39, 40, 41, 42, 43, 44, 45, 46, 47, 48, 49, 50, 51, 52, 97, 98, 99, 100, 101, 80, 81, 82, 83, 84, 85, 86, 87, 88, 89, 90, 91, 92, 93, 94, 95, 96, 102, 103, 104, 105, 106, 107, 108, 109, 110, 111, 112, 113] (by decide +kernel) (by decide +kernel)
set_option maxRecDepth 20000 in
theorem gX4_pick_X6_takeValue : GoodIn wsX4_pick (wsV RX4 269 RX6 yX6_takeValue wsX6_takeValue) := goodIn_app (goodIn_of _ (by decide +kernel)) ggX4_pick_X6_takeValue
set_option maxRecDepth 20000 in
theorem ggX4_pick_X7_putLocal : GoodIn wsX4_pick wsX7_putLocal := goodIn_r _ [57, 58, 80, 81, 82, 83, 84, 85, 86, 87, 88, 89, 90, 91, 92, 93, 94, 95, 96] (by decide +kernel) (by decide +kernel)
set_option maxRecDepth 20000 in
theorem gX4_pick_X7_putLocal : GoodIn wsX4_pick (wsV RX4 75 RX7 yX7_putLocal wsX7_putLocal) := goodIn_app (goodIn_of _ (by decide +kernel)) ggX4_pick_X7_putLocal
set_option maxRecDepth 20000 in
theorem ggX4_pick_X4_next : GoodIn wsX4_pick wsX4_next := goodIn_r _ [63, 64, 80, 81, 82, 83, 84, 85, 86, 87, 88, 89, 90, 91, 92, 93, 94, 95, 96] (by decide +kernel) (by decide +kernel)
set_option maxRecDepth 20000 in
theorem gX4_pick_X4_next : GoodIn wsX4_pick (wsV RX4 79 RX4 yX4_next wsX4_next) := goodIn_app (goodIn_of _ (by decide +kernel)) ggX4_pick_X4_next
set_option maxRecDepth 20000 in
theorem ggX4_pick_X6_allEnded : GoodIn wsX4_pick wsX6_allEnded := goodIn_r _ [68, 14, 69, 102, 103, 104, 105, 106, 107, 108, 109, 110, 111, 112, 113, 97, 98, 99, 100, 101] (by decide +kernel) (by decide +kernel)
set_option maxRecDepth 20000 in
theorem gX4_pick_X6_allEnded : GoodIn wsX4_pick (wsV RX4 272 RX6 yX6_allEnded wsX6_allEnded) := goodIn_app (goodIn_of _ (by decide +kernel)) ggX4_pick_X6_allEnded
set_option maxRecDepth 20000 in
theorem ggX4_pick_X6_beginWait : GoodIn wsX4_pick wsX6_beginWait := goodIn_r _ [73, 20, 21, 22, 23, 74, 75, 76, 24, 80, 81, 82, 83, 84, 85, 86, 87, 88, 89, 90, 91, 92, 93, 94, 95, 96, 102, 103, 104, 105, 106, 107, 108, 109, 110, 111, 112, 113] (by decide +kernel) (by decide +kernel)
set_option maxRecDepth 20000 in
theorem gX4_pick_X6_beginWait : GoodIn wsX4_pick (wsV RX4 215 RX6 yX6_beginWait wsX6_beginWait) := goodIn_app (goodIn_of _ (by decide +kernel)) ggX4_pick_X6_beginWait
theorem dX4_pick_0 : decode cX4_pick 0 = .ok (.iconst 0, 1) := by decide +kernel
theorem dX4_pick_1 : decode cX4_pick 1 = .ok (.istore_n 2, 1) := by decide +kernel
theorem dX4_pick_2 : decode cX4_pick 2 = .ok (.iload_n 2, 1) := by decide +kernel
theorem dX4_pick_3 : decode cX4_pick 3 = .ok (.iconst 2, 1) := by decide +kernel
theorem dX4_pick_4 : decode cX4_pick 4 = .ok (.if_icmp .ge 44, 3) := by decide +kernel
theorem dX4_pick_7 : decode cX4_pick 7 = .ok (.aload_n 0, 1) := by decide +kernel
theorem dX4_pick_8 : decode cX4_pick 8 = .ok (.getfield 15, 3) := by decide +kernel
theorem dX4_pick_11 : decode cX4_pick 11 = .ok (.iload_n 2, 1) := by decide +kernel
theorem dX4_pick_12 : decode cX4_pick 12 = .ok (.invokevirtual 266, 3) := by decide +kernel
theorem dX4_pick_15 : decode cX4_pick 15 = .ok (.ifCond .eq 27, 3) := by decide +kernel
theorem dX4_pick_18 : decode cX4_pick 18 = .ok (.aload_n 1, 1) := by decide +kernel
theorem dX4_pick_19 : decode cX4_pick 19 = .ok (.aload_n 0, 1) := by decide +kernel
theorem dX4_pick_20 : decode cX4_pick 20 = .ok (.getfield 15, 3) := by decide +kernel
theorem dX4_pick_23 : decode cX4_pick 23 = .ok (.iload_n 2, 1) := by decide +kernel
theorem dX4_pick_24 : decode cX4_pick 24 = .ok (.invokevirtual 269, 3) := by decide +kernel
theorem dX4_pick_27 : decode cX4_pick 27 = .ok (.putfield 65, 3) := by decide +kernel
theorem dX4_pick_30 : decode cX4_pick 30 = .ok (.aload_n 1, 1) := by decide +kernel
theorem dX4_pick_31 : decode cX4_pick 31 = .ok (.iconst 3, 1) := by decide +kernel
theorem dX4_pick_32 : decode cX4_pick 32 = .ok (.iload_n 2, 1) := by decide +kernel
theorem dX4_pick_33 : decode cX4_pick 33 = .ok (.invokevirtual 75, 3) := by decide +kernel
theorem dX4_pick_36 : decode cX4_pick 36 = .ok (.aload_n 0, 1) := by decide +kernel
theorem dX4_pick_37 : decode cX4_pick 37 = .ok (.aload_n 1, 1) := by decide +kernel
theorem dX4_pick_38 : decode cX4_pick 38 = .ok (.invokevirtual 79, 3) := by decide +kernel
theorem dX4_pick_41 : decode cX4_pick 41 = .ok (.ireturn, 1) := by decide +kernel
theorem dX4_pick_42 : decode cX4_pick 42 = .ok (.iinc 2 1, 3) := by decide +kernel
theorem dX4_pick_45 : decode cX4_pick 45 = .ok (.goto (-43), 3) := by decide +kernel
theorem dX4_pick_48 : decode cX4_pick 48 = .ok (.aload_n 0, 1) := by decide +kernel
theorem dX4_pick_49 : decode cX4_pick 49 = .ok (.getfield 15, 3) := by decide +kernel
theorem dX4_pick_52 : decode cX4_pick 52 = .ok (.invokevirtual 272, 3) := by decide +kernel
theorem dX4_pick_55 : decode cX4_pick 55 = .ok (.ifCond .eq 6, 3) := by decide +kernel
theorem dX4_pick_58 : decode cX4_pick 58 = .ok (.bipush 6, 2) := by decide +kernel
theorem dX4_pick_60 : decode cX4_pick 60 = .ok (.ireturn, 1) := by decide +kernel
theorem dX4_pick_61 : decode cX4_pick 61 = .ok (.aload_n 0, 1) := by decide +kernel
theorem dX4_pick_62 : decode cX4_pick 62 = .ok (.getfield 15, 3) := by decide +kernel
theorem dX4_pick_65 : decode cX4_pick 65 = .ok (.aload_n 1, 1) := by decide +kernel
theorem dX4_pick_66 : decode cX4_pick 66 = .ok (.iconst 4, 1) := by decide +kernel
theorem dX4_pick_67 : decode cX4_pick 67 = .ok (.iconst (-1), 1) := by decide +kernel
theorem dX4_pick_68 : decode cX4_pick 68 = .ok (.invokevirtual 215, 3) := by decide +kernel
theorem dX4_pick_71 : decode cX4_pick 71 = .ok (.aload_n 1, 1) := by decide +kernel
theorem dX4_pick_72 : decode cX4_pick 72 = .ok (.iconst 1, 1) := by decide +kernel
theorem dX4_pick_73 : decode cX4_pick 73 = .ok (.putfield 68, 3) := by decide +kernel
theorem dX4_pick_76 : decode cX4_pick 76 = .ok (.bipush (-4), 2) := by decide +kernel
theorem dX4_pick_78 : decode cX4_pick 78 = .ok (.ireturn, 1) := by decide +kernel
set_option maxRecDepth 20000 in
theorem ggX4_end_X6_channelAt : GoodIn wsX4_end wsX6_channelAt := goodIn_r _ [7, 8, 51, 52, 53, 54, 55, 56, 57, 58, 59, 60, 61, 62] (by decide +kernel) (by decide +kernel)
set_option maxRecDepth 20000 in
theorem gX4_end_X6_channelAt : GoodIn wsX4_end (wsV RX4 240 RX6 yX6_channelAt wsX6_channelAt) := goodIn_app (goodIn_of _ (by decide +kernel)) ggX4_end_X6_channelAt
set_option maxRecDepth 20000 in
theorem ggX4_end_X6_putEnd : GoodIn wsX4_end wsX6_putEnd := goodIn_r _ [12, 13, 14, 15, 16, 4, 5, 6, 7, 8, 17, 18, 19, 20, 21, 22, 23, 24, 25, 26, 27, 28, 29, 30, 31, 32, 33, 34, 35, 36, 46, 47, 48, 49, 50, 63, 64, 65, 66, 67, 68, 69, 70, 71, 72, 73, 74, 75, 76, 77, 78, 79, 51, 52, 53, 54, 55, 56, 57, 58, 59, 60, 61, 62] (by decide +kernel) (by decide +kernel)
set_option maxRecDepth 20000 in
theorem gX4_end_X6_putEnd : GoodIn wsX4_end (wsV RX4 276 RX6 yX6_putEnd wsX6_putEnd) := goodIn_app (goodIn_of _ (by decide +kernel)) ggX4_end_X6_putEnd
set_option maxRecDepth 20000 in
theorem ggX4_end_X4_next : GoodIn wsX4_end wsX4_next := goodIn_r _ [41, 42, 63, 64, 65, 66, 67, 68, 69, 70, 71, 72, 73, 74, 75, 76, 77, 78, 79] (by decide +kernel) (by decide +kernel)
set_option maxRecDepth 20000 in
theorem gX4_end_X4_next : GoodIn wsX4_end (wsV RX4 79 RX4 yX4_next wsX4_next) := goodIn_app (goodIn_of _ (by decide +kernel)) ggX4_end_X4_next
theorem dX4_end_0 : decode cX4_end 0 = .ok (.aload_n 0, 1) := by decide +kernel
theorem dX4_end_1 : decode cX4_end 1 = .ok (.getfield 15, 3) := by decide +kernel
theorem dX4_end_4 : decode cX4_end 4 = .ok (.iload_n 2, 1) := by decide +kernel
theorem dX4_end_5 : decode cX4_end 5 = .ok (.invokevirtual 240, 3) := by decide +kernel
theorem dX4_end_8 : decode cX4_end 8 = .ok (.astore_n 3, 1) := by decide +kernel
theorem dX4_end_9 : decode cX4_end 9 = .ok (.aload_n 3, 1) := by decide +kernel
theorem dX4_end_10 : decode cX4_end 10 = .ok (.ifnull 10, 3) := by decide +kernel
theorem dX4_end_13 : decode cX4_end 13 = .ok (.aload_n 3, 1) := by decide +kernel
theorem dX4_end_14 : decode cX4_end 14 = .ok (.getfield 244, 3) := by decide +kernel
theorem dX4_end_17 : decode cX4_end 17 = .ok (.ifCond .eq 5, 3) := by decide +kernel
theorem dX4_end_20 : decode cX4_end 20 = .ok (.iconst 5, 1) := by decide +kernel
theorem dX4_end_21 : decode cX4_end 21 = .ok (.ireturn, 1) := by decide +kernel
theorem dX4_end_22 : decode cX4_end 22 = .ok (.aload_n 0, 1) := by decide +kernel
theorem dX4_end_23 : decode cX4_end 23 = .ok (.getfield 15, 3) := by decide +kernel
theorem dX4_end_26 : decode cX4_end 26 = .ok (.iload_n 2, 1) := by decide +kernel
theorem dX4_end_27 : decode cX4_end 27 = .ok (.invokevirtual 276, 3) := by decide +kernel
theorem dX4_end_30 : decode cX4_end 30 = .ok (.aload_n 0, 1) := by decide +kernel
theorem dX4_end_31 : decode cX4_end 31 = .ok (.aload_n 1, 1) := by decide +kernel
theorem dX4_end_32 : decode cX4_end 32 = .ok (.invokevirtual 79, 3) := by decide +kernel
theorem dX4_end_35 : decode cX4_end 35 = .ok (.ireturn, 1) := by decide +kernel
set_option maxRecDepth 20000 in
theorem ggX4_leave_X6_scopeAt : GoodIn wsX4_leave wsX6_scopeAt := goodIn_r _ [12, 13, 145, 146, 147, 148, 149, 150, 151, 152, 153, 154, 155, 156] (by decide +kernel) (by decide +kernel)
set_option maxRecDepth 20000 in
theorem gX4_leave_X6_scopeAt : GoodIn wsX4_leave (wsV RX4 186 RX6 yX6_scopeAt wsX6_scopeAt) := goodIn_app (goodIn_of _ (by decide +kernel)) ggX4_leave_X6_scopeAt
set_option maxRecDepth 20000 in
theorem ggX4_leave_X4_endTask : GoodIn wsX4_leave wsX4_endTask := goodIn_r _ [18, 19, 20, 1, 21, 22, 23, 24, 25, 26, 27, 11, 28, 29, 30, 31, 32, 33, 34, 35, 36, 37, 38, 39, 40, 41, 42, 43, 44, 45, 46, 47, 48, 49, 50, 51, 52, 53, 54, 55, 56, 8, 9, 10, 12, 13, 57, 58, 59, 17, 60, 5, 61, 62, 3, 6, 63, 64, 65, 66, 67, 68, 69, 70, 71, 72, 73, 74, 75, 76, 77, 78, 79, 80, 81, 82, 83, 84, 85, 86, 87, 88, 89, 90, 91, 92, 93, 94, 95, 114, 115, 116, 117, 118, 119, 120, 121, 122, 123, 124, 125, 126, 127, 128, 129, 130, 111, 112, 113, 145, 146, 147, 148, 149, 150, 151, 152, 153, 154, 155, 156, 157, 158, 159, 131, 132, 133, 134, 135, 136, 137, 138, 139, 140, 141, 142, 143, 144] (by decide +kernel) (by decide +kernel)
set_option maxRecDepth 20000 in
theorem gX4_leave_X4_endTask : GoodIn wsX4_leave (wsV RX4 279 RX4 yX4_endTask wsX4_endTask) := goodIn_app (goodIn_of _ (by decide +kernel)) ggX4_leave_X4_endTask
set_option maxRecDepth 20000 in
theorem ggX4_leave_X6_cancelScope : GoodIn wsX4_leave wsX6_cancelScope := goodIn_r _ [67, 68, 36, 37, 38, 69, 70, 71, 72, 73, 74, 75, 76, 77, 11, 78, 79, 80, 13, 81, 82, 83, 50, 51, 52, 53, 54, 55, 56, 131, 132, 133, 134, 135, 136, 137, 138, 139, 140, 141, 142, 143, 144, 145, 146, 147, 148, 149, 150, 151, 152, 153, 154, 155, 156, 114, 115, 116, 117, 118, 119, 120, 121, 122, 123, 124, 125, 126, 127, 128, 129, 130] (by decide +kernel) (by decide +kernel)
set_option maxRecDepth 20000 in
theorem gX4_leave_X6_cancelScope : GoodIn wsX4_leave (wsV RX4 211 RX6 yX6_cancelScope wsX6_cancelScope) := goodIn_app (goodIn_of _ (by decide +kernel)) ggX4_leave_X6_cancelScope
set_option maxRecDepth 20000 in
theorem ggX4_leave_X6_beginWait : GoodIn wsX4_leave wsX6_beginWait := goodIn_r _ [99, 37, 38, 39, 40, 31, 100, 101, 41, 114, 115, 116, 117, 118, 119, 120, 121, 122, 123, 124, 125, 126, 127, 128, 129, 130, 145, 146, 147, 148, 149, 150, 151, 152, 153, 154, 155, 156] (by decide +kernel) (by decide +kernel)
set_option maxRecDepth 20000 in
theorem gX4_leave_X6_beginWait : GoodIn wsX4_leave (wsV RX4 215 RX6 yX6_beginWait wsX6_beginWait) := goodIn_app (goodIn_of _ (by decide +kernel)) ggX4_leave_X6_beginWait
set_option maxRecDepth 20000 in
theorem ggX4_leave_X4_takeOffScope : GoodIn wsX4_leave wsX4_takeOffScope := goodIn_r _ [105, 1, 2, 106, 107, 4, 62, 20, 108, 109, 110, 8, 9, 10, 11, 12, 13, 84, 85, 86, 87, 36, 111, 112, 113, 114, 115, 116, 117, 118, 119, 120, 121, 122, 123, 124, 125, 126, 127, 128, 129, 130, 131, 132, 133, 134, 135, 136, 137, 138, 139, 140, 141, 142, 143, 144, 145, 146, 147, 148, 149, 150, 151, 152, 153, 154, 155, 156] (by decide +kernel) (by decide +kernel)
set_option maxRecDepth 20000 in
theorem gX4_leave_X4_takeOffScope : GoodIn wsX4_leave (wsV RX4 48 RX4 yX4_takeOffScope wsX4_takeOffScope) := goodIn_app (goodIn_of _ (by decide +kernel)) ggX4_leave_X4_takeOffScope
theorem dX4_leave_0 : decode cX4_leave 0 = .ok (.aload_n 0, 1) := by decide +kernel
theorem dX4_leave_1 : decode cX4_leave 1 = .ok (.getfield 15, 3) := by decide +kernel
theorem dX4_leave_4 : decode cX4_leave 4 = .ok (.aload_n 1, 1) := by decide +kernel
theorem dX4_leave_5 : decode cX4_leave 5 = .ok (.getfield 142, 3) := by decide +kernel
theorem dX4_leave_8 : decode cX4_leave 8 = .ok (.invokevirtual 186, 3) := by decide +kernel
theorem dX4_leave_11 : decode cX4_leave 11 = .ok (.astore_n 3, 1) := by decide +kernel
theorem dX4_leave_12 : decode cX4_leave 12 = .ok (.aload_n 3, 1) := by decide +kernel
theorem dX4_leave_13 : decode cX4_leave 13 = .ok (.ifnonnull 12, 3) := by decide +kernel
theorem dX4_leave_16 : decode cX4_leave 16 = .ok (.aload_n 0, 1) := by decide +kernel
theorem dX4_leave_17 : decode cX4_leave 17 = .ok (.aload_n 1, 1) := by decide +kernel
theorem dX4_leave_18 : decode cX4_leave 18 = .ok (.iload_n 2, 1) := by decide +kernel
theorem dX4_leave_19 : decode cX4_leave 19 = .ok (.invokevirtual 279, 3) := by decide +kernel
theorem dX4_leave_22 : decode cX4_leave 22 = .ok (.bipush (-4), 2) := by decide +kernel
theorem dX4_leave_24 : decode cX4_leave 24 = .ok (.ireturn, 1) := by decide +kernel
theorem dX4_leave_25 : decode cX4_leave 25 = .ok (.iload_n 2, 1) := by decide +kernel
theorem dX4_leave_26 : decode cX4_leave 26 = .ok (.ifCond .le 12, 3) := by decide +kernel
theorem dX4_leave_29 : decode cX4_leave 29 = .ok (.aload_n 0, 1) := by decide +kernel
theorem dX4_leave_30 : decode cX4_leave 30 = .ok (.getfield 15, 3) := by decide +kernel
theorem dX4_leave_33 : decode cX4_leave 33 = .ok (.aload_n 3, 1) := by decide +kernel
theorem dX4_leave_34 : decode cX4_leave 34 = .ok (.invokevirtual 211, 3) := by decide +kernel
theorem dX4_leave_37 : decode cX4_leave 37 = .ok (.pop, 1) := by decide +kernel
theorem dX4_leave_38 : decode cX4_leave 38 = .ok (.aload_n 3, 1) := by decide +kernel
theorem dX4_leave_39 : decode cX4_leave 39 = .ok (.iconst 1, 1) := by decide +kernel
theorem dX4_leave_40 : decode cX4_leave 40 = .ok (.putfield 282, 3) := by decide +kernel
theorem dX4_leave_43 : decode cX4_leave 43 = .ok (.aload_n 3, 1) := by decide +kernel
theorem dX4_leave_44 : decode cX4_leave 44 = .ok (.iload_n 2, 1) := by decide +kernel
theorem dX4_leave_45 : decode cX4_leave 45 = .ok (.putfield 284, 3) := by decide +kernel
theorem dX4_leave_48 : decode cX4_leave 48 = .ok (.aload_n 3, 1) := by decide +kernel
theorem dX4_leave_49 : decode cX4_leave 49 = .ok (.getfield 287, 3) := by decide +kernel
theorem dX4_leave_52 : decode cX4_leave 52 = .ok (.aload_n 3, 1) := by decide +kernel
theorem dX4_leave_53 : decode cX4_leave 53 = .ok (.getfield 208, 3) := by decide +kernel
theorem dX4_leave_56 : decode cX4_leave 56 = .ok (.if_icmp .ge 19, 3) := by decide +kernel
theorem dX4_leave_59 : decode cX4_leave 59 = .ok (.aload_n 0, 1) := by decide +kernel
theorem dX4_leave_60 : decode cX4_leave 60 = .ok (.getfield 15, 3) := by decide +kernel
theorem dX4_leave_63 : decode cX4_leave 63 = .ok (.aload_n 1, 1) := by decide +kernel
theorem dX4_leave_64 : decode cX4_leave 64 = .ok (.iconst 5, 1) := by decide +kernel
theorem dX4_leave_65 : decode cX4_leave 65 = .ok (.aload_n 3, 1) := by decide +kernel
theorem dX4_leave_66 : decode cX4_leave 66 = .ok (.getfield 196, 3) := by decide +kernel
theorem dX4_leave_69 : decode cX4_leave 69 = .ok (.invokevirtual 215, 3) := by decide +kernel
theorem dX4_leave_72 : decode cX4_leave 72 = .ok (.bipush (-4), 2) := by decide +kernel
theorem dX4_leave_74 : decode cX4_leave 74 = .ok (.ireturn, 1) := by decide +kernel
theorem dX4_leave_75 : decode cX4_leave 75 = .ok (.aload_n 3, 1) := by decide +kernel
theorem dX4_leave_76 : decode cX4_leave 76 = .ok (.iconst 2, 1) := by decide +kernel
theorem dX4_leave_77 : decode cX4_leave 77 = .ok (.putfield 282, 3) := by decide +kernel
theorem dX4_leave_80 : decode cX4_leave 80 = .ok (.aload_n 0, 1) := by decide +kernel
theorem dX4_leave_81 : decode cX4_leave 81 = .ok (.aload_n 1, 1) := by decide +kernel
theorem dX4_leave_82 : decode cX4_leave 82 = .ok (.invokevirtual 48, 3) := by decide +kernel
theorem dX4_leave_85 : decode cX4_leave 85 = .ok (.ireturn, 1) := by decide +kernel
set_option maxRecDepth 20000 in
theorem ggX4_takeOffScope_X6_scopeAt : GoodIn wsX4_takeOffScope wsX6_scopeAt := goodIn_r _ [15, 16, 56, 57, 58, 59, 60, 61, 62, 63, 64, 65, 66, 67] (by decide +kernel) (by decide +kernel)
set_option maxRecDepth 20000 in
theorem gX4_takeOffScope_X6_scopeAt : GoodIn wsX4_takeOffScope (wsV RX4 186 RX6 yX6_scopeAt wsX6_scopeAt) := goodIn_app (goodIn_of _ (by decide +kernel)) ggX4_takeOffScope_X6_scopeAt
set_option maxRecDepth 20000 in
theorem ggX4_takeOffScope_X6_taskAt : GoodIn wsX4_takeOffScope wsX6_taskAt := goodIn_r _ [20, 21, 56, 57, 58, 59, 60, 61, 62, 63, 64, 65, 66, 67] (by decide +kernel) (by decide +kernel)
set_option maxRecDepth 20000 in
theorem gX4_takeOffScope_X6_taskAt : GoodIn wsX4_takeOffScope (wsV RX4 296 RX6 yX6_taskAt wsX6_taskAt) := goodIn_app (goodIn_of _ (by decide +kernel)) ggX4_takeOffScope_X6_taskAt
theorem dX4_takeOffScope_0 : decode cX4_takeOffScope 0 = .ok (.aload_n 0, 1) := by decide +kernel
theorem dX4_takeOffScope_1 : decode cX4_takeOffScope 1 = .ok (.getfield 15, 3) := by decide +kernel
theorem dX4_takeOffScope_4 : decode cX4_takeOffScope 4 = .ok (.aload_n 1, 1) := by decide +kernel
theorem dX4_takeOffScope_5 : decode cX4_takeOffScope 5 = .ok (.getfield 142, 3) := by decide +kernel
theorem dX4_takeOffScope_8 : decode cX4_takeOffScope 8 = .ok (.invokevirtual 186, 3) := by decide +kernel
theorem dX4_takeOffScope_11 : decode cX4_takeOffScope 11 = .ok (.astore_n 2, 1) := by decide +kernel
theorem dX4_takeOffScope_12 : decode cX4_takeOffScope 12 = .ok (.aload_n 2, 1) := by decide +kernel
theorem dX4_takeOffScope_13 : decode cX4_takeOffScope 13 = .ok (.ifnonnull 6, 3) := by decide +kernel
theorem dX4_takeOffScope_16 : decode cX4_takeOffScope 16 = .ok (.bipush (-2), 2) := by decide +kernel
theorem dX4_takeOffScope_18 : decode cX4_takeOffScope 18 = .ok (.ireturn, 1) := by decide +kernel
theorem dX4_takeOffScope_19 : decode cX4_takeOffScope 19 = .ok (.aload_n 1, 1) := by decide +kernel
theorem dX4_takeOffScope_20 : decode cX4_takeOffScope 20 = .ok (.aload_n 2, 1) := by decide +kernel
theorem dX4_takeOffScope_21 : decode cX4_takeOffScope 21 = .ok (.getfield 290, 3) := by decide +kernel
theorem dX4_takeOffScope_24 : decode cX4_takeOffScope 24 = .ok (.putfield 142, 3) := by decide +kernel
theorem dX4_takeOffScope_27 : decode cX4_takeOffScope 27 = .ok (.aload_n 1, 1) := by decide +kernel
theorem dX4_takeOffScope_28 : decode cX4_takeOffScope 28 = .ok (.dup, 1) := by decide +kernel
theorem dX4_takeOffScope_29 : decode cX4_takeOffScope 29 = .ok (.getfield 199, 3) := by decide +kernel
theorem dX4_takeOffScope_32 : decode cX4_takeOffScope 32 = .ok (.iconst 1, 1) := by decide +kernel
theorem dX4_takeOffScope_33 : decode cX4_takeOffScope 33 = .ok (.isub, 1) := by decide +kernel
theorem dX4_takeOffScope_34 : decode cX4_takeOffScope 34 = .ok (.putfield 199, 3) := by decide +kernel
theorem dX4_takeOffScope_37 : decode cX4_takeOffScope 37 = .ok (.aload_n 2, 1) := by decide +kernel
theorem dX4_takeOffScope_38 : decode cX4_takeOffScope 38 = .ok (.getfield 284, 3) := by decide +kernel
theorem dX4_takeOffScope_41 : decode cX4_takeOffScope 41 = .ok (.istore_n 3, 1) := by decide +kernel
theorem dX4_takeOffScope_42 : decode cX4_takeOffScope 42 = .ok (.aload_n 0, 1) := by decide +kernel
theorem dX4_takeOffScope_43 : decode cX4_takeOffScope 43 = .ok (.getfield 15, 3) := by decide +kernel
theorem dX4_takeOffScope_46 : decode cX4_takeOffScope 46 = .ok (.aload_n 2, 1) := by decide +kernel
theorem dX4_takeOffScope_47 : decode cX4_takeOffScope 47 = .ok (.getfield 293, 3) := by decide +kernel
theorem dX4_takeOffScope_50 : decode cX4_takeOffScope 50 = .ok (.invokevirtual 296, 3) := by decide +kernel
theorem dX4_takeOffScope_53 : decode cX4_takeOffScope 53 = .ok (.astore 4, 2) := by decide +kernel
theorem dX4_takeOffScope_55 : decode cX4_takeOffScope 55 = .ok (.iload_n 3, 1) := by decide +kernel
theorem dX4_takeOffScope_56 : decode cX4_takeOffScope 56 = .ok (.ifCond .gt 14, 3) := by decide +kernel
theorem dX4_takeOffScope_59 : decode cX4_takeOffScope 59 = .ok (.aload 4, 2) := by decide +kernel
theorem dX4_takeOffScope_61 : decode cX4_takeOffScope 61 = .ok (.ifnull 9, 3) := by decide +kernel
theorem dX4_takeOffScope_64 : decode cX4_takeOffScope 64 = .ok (.aload 4, 2) := by decide +kernel
theorem dX4_takeOffScope_66 : decode cX4_takeOffScope 66 = .ok (.getfield 65, 3) := by decide +kernel
theorem dX4_takeOffScope_69 : decode cX4_takeOffScope 69 = .ok (.ireturn, 1) := by decide +kernel
theorem dX4_takeOffScope_70 : decode cX4_takeOffScope 70 = .ok (.iload_n 3, 1) := by decide +kernel
theorem dX4_takeOffScope_71 : decode cX4_takeOffScope 71 = .ok (.iconst (-1), 1) := by decide +kernel
theorem dX4_takeOffScope_72 : decode cX4_takeOffScope 72 = .ok (.if_icmp .eq 16, 3) := by decide +kernel
theorem dX4_takeOffScope_75 : decode cX4_takeOffScope 75 = .ok (.iload_n 3, 1) := by decide +kernel
theorem dX4_takeOffScope_76 : decode cX4_takeOffScope 76 = .ok (.bipush (-3), 2) := by decide +kernel
theorem dX4_takeOffScope_78 : decode cX4_takeOffScope 78 = .ok (.if_icmp .ne 36, 3) := by decide +kernel
theorem dX4_takeOffScope_81 : decode cX4_takeOffScope 81 = .ok (.aload_n 2, 1) := by decide +kernel
theorem dX4_takeOffScope_82 : decode cX4_takeOffScope 82 = .ok (.getfield 300, 3) := by decide +kernel
theorem dX4_takeOffScope_85 : decode cX4_takeOffScope 85 = .ok (.ifCond .eq 29, 3) := by decide +kernel
theorem dX4_takeOffScope_88 : decode cX4_takeOffScope 88 = .ok (.aload_n 1, 1) := by decide +kernel
theorem dX4_takeOffScope_89 : decode cX4_takeOffScope 89 = .ok (.aload_n 2, 1) := by decide +kernel
theorem dX4_takeOffScope_90 : decode cX4_takeOffScope 90 = .ok (.getfield 300, 3) := by decide +kernel
theorem dX4_takeOffScope_93 : decode cX4_takeOffScope 93 = .ok (.ifCond .eq 7, 3) := by decide +kernel
theorem dX4_takeOffScope_96 : decode cX4_takeOffScope 96 = .ok (.iconst 1, 1) := by decide +kernel
theorem dX4_takeOffScope_97 : decode cX4_takeOffScope 97 = .ok (.goto 4, 3) := by decide +kernel
theorem dX4_takeOffScope_100 : decode cX4_takeOffScope 100 = .ok (.iconst 0, 1) := by decide +kernel
theorem dX4_takeOffScope_101 : decode cX4_takeOffScope 101 = .ok (.putfield 65, 3) := by decide +kernel
theorem dX4_takeOffScope_104 : decode cX4_takeOffScope 104 = .ok (.aload_n 1, 1) := by decide +kernel
theorem dX4_takeOffScope_105 : decode cX4_takeOffScope 105 = .ok (.aload_n 2, 1) := by decide +kernel
theorem dX4_takeOffScope_106 : decode cX4_takeOffScope 106 = .ok (.getfield 303, 3) := by decide +kernel
theorem dX4_takeOffScope_109 : decode cX4_takeOffScope 109 = .ok (.putfield 82, 3) := by decide +kernel
theorem dX4_takeOffScope_112 : decode cX4_takeOffScope 112 = .ok (.iconst 0, 1) := by decide +kernel
theorem dX4_takeOffScope_113 : decode cX4_takeOffScope 113 = .ok (.ireturn, 1) := by decide +kernel
theorem dX4_takeOffScope_114 : decode cX4_takeOffScope 114 = .ok (.iload_n 3, 1) := by decide +kernel
theorem dX4_takeOffScope_115 : decode cX4_takeOffScope 115 = .ok (.ireturn, 1) := by decide +kernel
set_option maxRecDepth 20000 in
theorem ggX4_endTask_X6_freeLock : GoodIn wsX4_endTask wsX6_freeLock := goodIn_r _ [12, 13, 14, 15, 16, 17, 18, 11, 19, 20, 21, 22, 23, 24, 25, 26, 27, 28, 29, 30, 31, 32, 33, 34, 35, 36, 37, 38, 39, 40, 121, 122, 123, 89, 90, 91, 92, 93, 94, 95, 96, 97, 98, 99, 100, 101, 102, 103, 104, 105, 109, 110, 111, 112, 113, 114, 115, 116, 117, 118, 119, 120] (by decide +kernel) (by decide +kernel)
set_option maxRecDepth 20000 in
theorem gX4_endTask_X6_freeLock : GoodIn wsX4_endTask (wsV RX4 236 RX6 yX6_freeLock wsX6_freeLock) := goodIn_app (goodIn_of _ (by decide +kernel)) ggX4_endTask_X6_freeLock
set_option maxRecDepth 20000 in
theorem ggX4_endTask_X6_scopeAt : GoodIn wsX4_endTask wsX6_scopeAt := goodIn_r _ [44, 45, 109, 110, 111, 112, 113, 114, 115, 116, 117, 118, 119, 120] (by decide +kernel) (by decide +kernel)
set_option maxRecDepth 20000 in
theorem gX4_endTask_X6_scopeAt : GoodIn wsX4_endTask (wsV RX4 186 RX6 yX6_scopeAt wsX6_scopeAt) := goodIn_app (goodIn_of _ (by decide +kernel)) ggX4_endTask_X6_scopeAt
set_option maxRecDepth 20000 in
theorem ggX4_endTask_X4_tellOver : GoodIn wsX4_endTask wsX4_tellOver := goodIn_r _ [50, 51, 1, 52, 53, 6, 3, 54, 55, 56, 57, 58, 59, 11, 60, 61, 20, 21, 22, 62, 63, 64, 65, 66, 67, 68, 69, 70, 71, 72, 73, 45, 74, 75, 76, 34, 35, 36, 37, 38, 39, 40, 77, 78, 79, 80, 81, 82, 83, 84, 85, 86, 87, 88, 124, 125, 126, 127, 128, 129, 130, 131, 132, 133, 134, 135, 136, 137, 89, 90, 91, 92, 93, 94, 95, 96, 97, 98, 99, 100, 101, 102, 103, 104, 105, 106, 107, 108, 109, 110, 111, 112, 113, 114, 115, 116, 117, 118, 119, 120] (by decide +kernel) (by decide +kernel)
set_option maxRecDepth 20000 in
theorem gX4_endTask_X4_tellOver : GoodIn wsX4_endTask (wsV RX4 314 RX4 yX4_tellOver wsX4_tellOver) := goodIn_app (goodIn_of _ (by decide +kernel)) ggX4_endTask_X4_tellOver
theorem dX4_endTask_0 : decode cX4_endTask 0 = .ok (.aload_n 1, 1) := by decide +kernel
theorem dX4_endTask_1 : decode cX4_endTask 1 = .ok (.iload_n 2, 1) := by decide +kernel
theorem dX4_endTask_2 : decode cX4_endTask 2 = .ok (.ifCond .le 7, 3) := by decide +kernel
theorem dX4_endTask_5 : decode cX4_endTask 5 = .ok (.iconst 3, 1) := by decide +kernel
theorem dX4_endTask_6 : decode cX4_endTask 6 = .ok (.goto 14, 3) := by decide +kernel
theorem dX4_endTask_9 : decode cX4_endTask 9 = .ok (.iload_n 2, 1) := by decide +kernel
theorem dX4_endTask_10 : decode cX4_endTask 10 = .ok (.bipush (-3), 2) := by decide +kernel
theorem dX4_endTask_12 : decode cX4_endTask 12 = .ok (.if_icmp .ne 7, 3) := by decide +kernel
theorem dX4_endTask_15 : decode cX4_endTask 15 = .ok (.iconst 4, 1) := by decide +kernel
theorem dX4_endTask_16 : decode cX4_endTask 16 = .ok (.goto 4, 3) := by decide +kernel
theorem dX4_endTask_19 : decode cX4_endTask 19 = .ok (.iconst 2, 1) := by decide +kernel
theorem dX4_endTask_20 : decode cX4_endTask 20 = .ok (.putfield 306, 3) := by decide +kernel
theorem dX4_endTask_23 : decode cX4_endTask 23 = .ok (.iload_n 2, 1) := by decide +kernel
theorem dX4_endTask_24 : decode cX4_endTask 24 = .ok (.ifCond .le 8, 3) := by decide +kernel
theorem dX4_endTask_27 : decode cX4_endTask 27 = .ok (.aload_n 1, 1) := by decide +kernel
theorem dX4_endTask_28 : decode cX4_endTask 28 = .ok (.iload_n 2, 1) := by decide +kernel
theorem dX4_endTask_29 : decode cX4_endTask 29 = .ok (.putfield 65, 3) := by decide +kernel
theorem dX4_endTask_32 : decode cX4_endTask 32 = .ok (.aload_n 0, 1) := by decide +kernel
theorem dX4_endTask_33 : decode cX4_endTask 33 = .ok (.getfield 15, 3) := by decide +kernel
theorem dX4_endTask_36 : decode cX4_endTask 36 = .ok (.getfield 307, 3) := by decide +kernel
theorem dX4_endTask_39 : decode cX4_endTask 39 = .ok (.astore_n 3, 1) := by decide +kernel
theorem dX4_endTask_40 : decode cX4_endTask 40 = .ok (.aload_n 3, 1) := by decide +kernel
theorem dX4_endTask_41 : decode cX4_endTask 41 = .ok (.arraylength, 1) := by decide +kernel
theorem dX4_endTask_42 : decode cX4_endTask 42 = .ok (.istore 4, 2) := by decide +kernel
theorem dX4_endTask_44 : decode cX4_endTask 44 = .ok (.iconst 0, 1) := by decide +kernel
theorem dX4_endTask_45 : decode cX4_endTask 45 = .ok (.istore 5, 2) := by decide +kernel
theorem dX4_endTask_47 : decode cX4_endTask 47 = .ok (.iload 5, 2) := by decide +kernel
theorem dX4_endTask_49 : decode cX4_endTask 49 = .ok (.iload 4, 2) := by decide +kernel
theorem dX4_endTask_51 : decode cX4_endTask 51 = .ok (.if_icmp .ge 36, 3) := by decide +kernel
theorem dX4_endTask_54 : decode cX4_endTask 54 = .ok (.aload_n 3, 1) := by decide +kernel
theorem dX4_endTask_55 : decode cX4_endTask 55 = .ok (.iload 5, 2) := by decide +kernel
theorem dX4_endTask_57 : decode cX4_endTask 57 = .ok (.aaload, 1) := by decide +kernel
theorem dX4_endTask_58 : decode cX4_endTask 58 = .ok (.astore 6, 2) := by decide +kernel
theorem dX4_endTask_60 : decode cX4_endTask 60 = .ok (.aload 6, 2) := by decide +kernel
theorem dX4_endTask_62 : decode cX4_endTask 62 = .ok (.getfield 226, 3) := by decide +kernel
theorem dX4_endTask_65 : decode cX4_endTask 65 = .ok (.aload_n 1, 1) := by decide +kernel
theorem dX4_endTask_66 : decode cX4_endTask 66 = .ok (.getfield 231, 3) := by decide +kernel
theorem dX4_endTask_69 : decode cX4_endTask 69 = .ok (.if_icmp .ne 12, 3) := by decide +kernel
theorem dX4_endTask_72 : decode cX4_endTask 72 = .ok (.aload_n 0, 1) := by decide +kernel
theorem dX4_endTask_73 : decode cX4_endTask 73 = .ok (.getfield 15, 3) := by decide +kernel
theorem dX4_endTask_76 : decode cX4_endTask 76 = .ok (.aload 6, 2) := by decide +kernel
theorem dX4_endTask_78 : decode cX4_endTask 78 = .ok (.invokevirtual 236, 3) := by decide +kernel
theorem dX4_endTask_81 : decode cX4_endTask 81 = .ok (.iinc 5 1, 3) := by decide +kernel
theorem dX4_endTask_84 : decode cX4_endTask 84 = .ok (.goto (-37), 3) := by decide +kernel
theorem dX4_endTask_87 : decode cX4_endTask 87 = .ok (.aload_n 0, 1) := by decide +kernel
theorem dX4_endTask_88 : decode cX4_endTask 88 = .ok (.getfield 15, 3) := by decide +kernel
theorem dX4_endTask_91 : decode cX4_endTask 91 = .ok (.aload_n 1, 1) := by decide +kernel
theorem dX4_endTask_92 : decode cX4_endTask 92 = .ok (.getfield 311, 3) := by decide +kernel
theorem dX4_endTask_95 : decode cX4_endTask 95 = .ok (.invokevirtual 186, 3) := by decide +kernel
theorem dX4_endTask_98 : decode cX4_endTask 98 = .ok (.astore_n 3, 1) := by decide +kernel
theorem dX4_endTask_99 : decode cX4_endTask 99 = .ok (.aload_n 3, 1) := by decide +kernel
theorem dX4_endTask_100 : decode cX4_endTask 100 = .ok (.ifnull 9, 3) := by decide +kernel
theorem dX4_endTask_103 : decode cX4_endTask 103 = .ok (.aload_n 0, 1) := by decide +kernel
theorem dX4_endTask_104 : decode cX4_endTask 104 = .ok (.aload_n 1, 1) := by decide +kernel
theorem dX4_endTask_105 : decode cX4_endTask 105 = .ok (.aload_n 3, 1) := by decide +kernel
theorem dX4_endTask_106 : decode cX4_endTask 106 = .ok (.invokevirtual 314, 3) := by decide +kernel
theorem dX4_endTask_109 : decode cX4_endTask 109 = .ok (.return_, 1) := by decide +kernel
set_option maxRecDepth 20000 in
theorem ggX4_tellOver_X6_cancelScope : GoodIn wsX4_tellOver wsX6_cancelScope := goodIn_r _ [14, 15, 16, 17, 18, 19, 20, 21, 22, 23, 24, 25, 26, 27, 13, 28, 29, 30, 31, 32, 33, 34, 35, 36, 37, 38, 39, 40, 41, 54, 55, 56, 57, 58, 59, 60, 61, 62, 63, 64, 65, 66, 67, 88, 89, 90, 91, 92, 93, 94, 95, 96, 97, 98, 99, 68, 69, 70, 71, 72, 73, 74, 75, 76, 77, 78, 79, 80, 81, 82, 83, 84] (by decide +kernel) (by decide +kernel)
set_option maxRecDepth 20000 in
theorem gX4_tellOver_X6_cancelScope : GoodIn wsX4_tellOver (wsV RX4 211 RX6 yX6_cancelScope wsX6_cancelScope) := goodIn_app (goodIn_of _ (by decide +kernel)) ggX4_tellOver_X6_cancelScope
set_option maxRecDepth 20000 in
theorem ggX4_tellOver_X6_taskAt : GoodIn wsX4_tellOver wsX6_taskAt := goodIn_r _ [45, 16, 88, 89, 90, 91, 92, 93, 94, 95, 96, 97, 98, 99] (by decide +kernel) (by decide +kernel)
set_option maxRecDepth 20000 in
theorem gX4_tellOver_X6_taskAt : GoodIn wsX4_tellOver (wsV RX4 296 RX6 yX6_taskAt wsX6_taskAt) := goodIn_app (goodIn_of _ (by decide +kernel)) ggX4_tellOver_X6_taskAt
set_option maxRecDepth 20000 in
theorem ggX4_tellOver_X7_waitsAt : GoodIn wsX4_tellOver wsX7_waitsAt := goodIn_r _ [50, 51, 52, 68, 69, 70, 71, 72, 73, 74, 75, 76, 77, 78, 79, 80, 81, 82, 83, 84] (by decide +kernel) (by decide +kernel)
set_option maxRecDepth 20000 in
theorem gX4_tellOver_X7_waitsAt : GoodIn wsX4_tellOver (wsV RX4 324 RX7 yX7_waitsAt wsX7_waitsAt) := goodIn_app (goodIn_of _ (by decide +kernel)) ggX4_tellOver_X7_waitsAt
set_option maxRecDepth 20000 in
theorem ggX4_tellOver_X6_makeReady : GoodIn wsX4_tellOver wsX6_makeReady := goodIn_r _ [38, 17, 39, 40, 41, 68, 69, 70, 71, 72, 73, 74, 75, 76, 77, 78, 79, 80, 81, 82, 83, 84, 88, 89, 90, 91, 92, 93, 94, 95, 96, 97, 98, 99] (by decide +kernel) (by decide +kernel)
set_option maxRecDepth 20000 in
theorem gX4_tellOver_X6_makeReady : GoodIn wsX4_tellOver (wsV RX4 327 RX6 yX6_makeReady wsX6_makeReady) := goodIn_app (goodIn_of _ (by decide +kernel)) ggX4_tellOver_X6_makeReady
theorem dX4_tellOver_0 : decode cX4_tellOver 0 = .ok (.aload_n 2, 1) := by decide +kernel
theorem dX4_tellOver_1 : decode cX4_tellOver 1 = .ok (.dup, 1) := by decide +kernel
theorem dX4_tellOver_2 : decode cX4_tellOver 2 = .ok (.getfield 287, 3) := by decide +kernel
theorem dX4_tellOver_5 : decode cX4_tellOver 5 = .ok (.iconst 1, 1) := by decide +kernel
theorem dX4_tellOver_6 : decode cX4_tellOver 6 = .ok (.iadd, 1) := by decide +kernel
theorem dX4_tellOver_7 : decode cX4_tellOver 7 = .ok (.putfield 287, 3) := by decide +kernel
theorem dX4_tellOver_10 : decode cX4_tellOver 10 = .ok (.aload_n 1, 1) := by decide +kernel
theorem dX4_tellOver_11 : decode cX4_tellOver 11 = .ok (.getfield 306, 3) := by decide +kernel
theorem dX4_tellOver_14 : decode cX4_tellOver 14 = .ok (.iconst 3, 1) := by decide +kernel
theorem dX4_tellOver_15 : decode cX4_tellOver 15 = .ok (.if_icmp .ne 38, 3) := by decide +kernel
theorem dX4_tellOver_18 : decode cX4_tellOver 18 = .ok (.aload_n 2, 1) := by decide +kernel
theorem dX4_tellOver_19 : decode cX4_tellOver 19 = .ok (.dup, 1) := by decide +kernel
theorem dX4_tellOver_20 : decode cX4_tellOver 20 = .ok (.getfield 318, 3) := by decide +kernel
theorem dX4_tellOver_23 : decode cX4_tellOver 23 = .ok (.iconst 1, 1) := by decide +kernel
theorem dX4_tellOver_24 : decode cX4_tellOver 24 = .ok (.iadd, 1) := by decide +kernel
theorem dX4_tellOver_25 : decode cX4_tellOver 25 = .ok (.putfield 318, 3) := by decide +kernel
theorem dX4_tellOver_28 : decode cX4_tellOver 28 = .ok (.aload_n 2, 1) := by decide +kernel
theorem dX4_tellOver_29 : decode cX4_tellOver 29 = .ok (.getfield 293, 3) := by decide +kernel
theorem dX4_tellOver_32 : decode cX4_tellOver 32 = .ok (.iconst (-1), 1) := by decide +kernel
theorem dX4_tellOver_33 : decode cX4_tellOver 33 = .ok (.if_icmp .ne 11, 3) := by decide +kernel
theorem dX4_tellOver_36 : decode cX4_tellOver 36 = .ok (.aload_n 2, 1) := by decide +kernel
theorem dX4_tellOver_37 : decode cX4_tellOver 37 = .ok (.aload_n 1, 1) := by decide +kernel
theorem dX4_tellOver_38 : decode cX4_tellOver 38 = .ok (.getfield 231, 3) := by decide +kernel
theorem dX4_tellOver_41 : decode cX4_tellOver 41 = .ok (.putfield 293, 3) := by decide +kernel
theorem dX4_tellOver_44 : decode cX4_tellOver 44 = .ok (.aload_n 0, 1) := by decide +kernel
theorem dX4_tellOver_45 : decode cX4_tellOver 45 = .ok (.getfield 15, 3) := by decide +kernel
theorem dX4_tellOver_48 : decode cX4_tellOver 48 = .ok (.aload_n 2, 1) := by decide +kernel
theorem dX4_tellOver_49 : decode cX4_tellOver 49 = .ok (.invokevirtual 211, 3) := by decide +kernel
theorem dX4_tellOver_52 : decode cX4_tellOver 52 = .ok (.pop, 1) := by decide +kernel
theorem dX4_tellOver_53 : decode cX4_tellOver 53 = .ok (.aload_n 2, 1) := by decide +kernel
theorem dX4_tellOver_54 : decode cX4_tellOver 54 = .ok (.getfield 282, 3) := by decide +kernel
theorem dX4_tellOver_57 : decode cX4_tellOver 57 = .ok (.iconst 1, 1) := by decide +kernel
theorem dX4_tellOver_58 : decode cX4_tellOver 58 = .ok (.if_icmp .ne 51, 3) := by decide +kernel
theorem dX4_tellOver_61 : decode cX4_tellOver 61 = .ok (.aload_n 2, 1) := by decide +kernel
theorem dX4_tellOver_62 : decode cX4_tellOver 62 = .ok (.getfield 287, 3) := by decide +kernel
theorem dX4_tellOver_65 : decode cX4_tellOver 65 = .ok (.aload_n 2, 1) := by decide +kernel
theorem dX4_tellOver_66 : decode cX4_tellOver 66 = .ok (.getfield 208, 3) := by decide +kernel
theorem dX4_tellOver_69 : decode cX4_tellOver 69 = .ok (.if_icmp .lt 40, 3) := by decide +kernel
theorem dX4_tellOver_72 : decode cX4_tellOver 72 = .ok (.aload_n 2, 1) := by decide +kernel
theorem dX4_tellOver_73 : decode cX4_tellOver 73 = .ok (.iconst 2, 1) := by decide +kernel
theorem dX4_tellOver_74 : decode cX4_tellOver 74 = .ok (.putfield 282, 3) := by decide +kernel
theorem dX4_tellOver_77 : decode cX4_tellOver 77 = .ok (.aload_n 0, 1) := by decide +kernel
theorem dX4_tellOver_78 : decode cX4_tellOver 78 = .ok (.getfield 15, 3) := by decide +kernel
theorem dX4_tellOver_81 : decode cX4_tellOver 81 = .ok (.aload_n 2, 1) := by decide +kernel
theorem dX4_tellOver_82 : decode cX4_tellOver 82 = .ok (.getfield 321, 3) := by decide +kernel
theorem dX4_tellOver_85 : decode cX4_tellOver 85 = .ok (.invokevirtual 296, 3) := by decide +kernel
theorem dX4_tellOver_88 : decode cX4_tellOver 88 = .ok (.astore_n 3, 1) := by decide +kernel
theorem dX4_tellOver_89 : decode cX4_tellOver 89 = .ok (.aload_n 3, 1) := by decide +kernel
theorem dX4_tellOver_90 : decode cX4_tellOver 90 = .ok (.ifnull 19, 3) := by decide +kernel
theorem dX4_tellOver_93 : decode cX4_tellOver 93 = .ok (.aload_n 3, 1) := by decide +kernel
theorem dX4_tellOver_94 : decode cX4_tellOver 94 = .ok (.iconst 5, 1) := by decide +kernel
theorem dX4_tellOver_95 : decode cX4_tellOver 95 = .ok (.invokevirtual 324, 3) := by decide +kernel
theorem dX4_tellOver_98 : decode cX4_tellOver 98 = .ok (.ifCond .eq 11, 3) := by decide +kernel
theorem dX4_tellOver_101 : decode cX4_tellOver 101 = .ok (.aload_n 0, 1) := by decide +kernel
theorem dX4_tellOver_102 : decode cX4_tellOver 102 = .ok (.getfield 15, 3) := by decide +kernel
theorem dX4_tellOver_105 : decode cX4_tellOver 105 = .ok (.aload_n 3, 1) := by decide +kernel
theorem dX4_tellOver_106 : decode cX4_tellOver 106 = .ok (.invokevirtual 327, 3) := by decide +kernel
theorem dX4_tellOver_109 : decode cX4_tellOver 109 = .ok (.return_, 1) := by decide +kernel
theorem dX5_init_0 : decode cX5_init 0 = .ok (.aload_n 0, 1) := by decide +kernel
theorem dX5_init_1 : decode cX5_init 1 = .ok (.invokespecial 3, 3) := by decide +kernel
theorem dX5_init_4 : decode cX5_init 4 = .ok (.aload_n 0, 1) := by decide +kernel
theorem dX5_init_5 : decode cX5_init 5 = .ok (.iconst (-1), 1) := by decide +kernel
theorem dX5_init_6 : decode cX5_init 6 = .ok (.putfield 9, 3) := by decide +kernel
theorem dX5_init_9 : decode cX5_init 9 = .ok (.aload_n 0, 1) := by decide +kernel
theorem dX5_init_10 : decode cX5_init 10 = .ok (.iconst (-1), 1) := by decide +kernel
theorem dX5_init_11 : decode cX5_init 11 = .ok (.putfield 15, 3) := by decide +kernel
theorem dX5_init_14 : decode cX5_init 14 = .ok (.aload_n 0, 1) := by decide +kernel
theorem dX5_init_15 : decode cX5_init 15 = .ok (.iload_n 1, 1) := by decide +kernel
theorem dX5_init_16 : decode cX5_init 16 = .ok (.putfield 18, 3) := by decide +kernel
theorem dX5_init_19 : decode cX5_init 19 = .ok (.return_, 1) := by decide +kernel
theorem dX5_begin_0 : decode cX5_begin 0 = .ok (.aload_n 0, 1) := by decide +kernel
theorem dX5_begin_1 : decode cX5_begin 1 = .ok (.iconst 0, 1) := by decide +kernel
theorem dX5_begin_2 : decode cX5_begin 2 = .ok (.putfield 9, 3) := by decide +kernel
theorem dX5_begin_5 : decode cX5_begin 5 = .ok (.aload_n 0, 1) := by decide +kernel
theorem dX5_begin_6 : decode cX5_begin 6 = .ok (.aload_n 1, 1) := by decide +kernel
theorem dX5_begin_7 : decode cX5_begin 7 = .ok (.getfield 21, 3) := by decide +kernel
theorem dX5_begin_10 : decode cX5_begin 10 = .ok (.putfield 24, 3) := by decide +kernel
theorem dX5_begin_13 : decode cX5_begin 13 = .ok (.aload_n 0, 1) := by decide +kernel
theorem dX5_begin_14 : decode cX5_begin 14 = .ok (.aload_n 1, 1) := by decide +kernel
theorem dX5_begin_15 : decode cX5_begin 15 = .ok (.getfield 27, 3) := by decide +kernel
theorem dX5_begin_18 : decode cX5_begin 18 = .ok (.putfield 30, 3) := by decide +kernel
theorem dX5_begin_21 : decode cX5_begin 21 = .ok (.aload_n 0, 1) := by decide +kernel
theorem dX5_begin_22 : decode cX5_begin 22 = .ok (.aload_n 1, 1) := by decide +kernel
theorem dX5_begin_23 : decode cX5_begin 23 = .ok (.getfield 27, 3) := by decide +kernel
theorem dX5_begin_26 : decode cX5_begin 26 = .ok (.iconst (-1), 1) := by decide +kernel
theorem dX5_begin_27 : decode cX5_begin 27 = .ok (.if_icmp .eq 10, 3) := by decide +kernel
theorem dX5_begin_30 : decode cX5_begin 30 = .ok (.aload_n 1, 1) := by decide +kernel
theorem dX5_begin_31 : decode cX5_begin 31 = .ok (.getfield 27, 3) := by decide +kernel
theorem dX5_begin_34 : decode cX5_begin 34 = .ok (.goto 7, 3) := by decide +kernel
theorem dX5_begin_37 : decode cX5_begin 37 = .ok (.aload_n 1, 1) := by decide +kernel
theorem dX5_begin_38 : decode cX5_begin 38 = .ok (.getfield 33, 3) := by decide +kernel
theorem dX5_begin_41 : decode cX5_begin 41 = .ok (.putfield 36, 3) := by decide +kernel
theorem dX5_begin_44 : decode cX5_begin 44 = .ok (.aload_n 0, 1) := by decide +kernel
theorem dX5_begin_45 : decode cX5_begin 45 = .ok (.iload_n 2, 1) := by decide +kernel
theorem dX5_begin_46 : decode cX5_begin 46 = .ok (.putfield 39, 3) := by decide +kernel
theorem dX5_begin_49 : decode cX5_begin 49 = .ok (.aload_n 0, 1) := by decide +kernel
theorem dX5_begin_50 : decode cX5_begin 50 = .ok (.iload_n 3, 1) := by decide +kernel
theorem dX5_begin_51 : decode cX5_begin 51 = .ok (.putfield 43, 3) := by decide +kernel
theorem dX5_begin_54 : decode cX5_begin 54 = .ok (.aload_n 0, 1) := by decide +kernel
theorem dX5_begin_55 : decode cX5_begin 55 = .ok (.iload 4, 2) := by decide +kernel
theorem dX5_begin_57 : decode cX5_begin 57 = .ok (.putfield 46, 3) := by decide +kernel
theorem dX5_begin_60 : decode cX5_begin 60 = .ok (.return_, 1) := by decide +kernel
theorem dX5_isLive_0 : decode cX5_isLive 0 = .ok (.aload_n 0, 1) := by decide +kernel
theorem dX5_isLive_1 : decode cX5_isLive 1 = .ok (.getfield 9, 3) := by decide +kernel
theorem dX5_isLive_4 : decode cX5_isLive 4 = .ok (.ifCond .eq 11, 3) := by decide +kernel
theorem dX5_isLive_7 : decode cX5_isLive 7 = .ok (.aload_n 0, 1) := by decide +kernel
theorem dX5_isLive_8 : decode cX5_isLive 8 = .ok (.getfield 9, 3) := by decide +kernel
theorem dX5_isLive_11 : decode cX5_isLive 11 = .ok (.iconst 1, 1) := by decide +kernel
theorem dX5_isLive_12 : decode cX5_isLive 12 = .ok (.if_icmp .ne 7, 3) := by decide +kernel
theorem dX5_isLive_15 : decode cX5_isLive 15 = .ok (.iconst 1, 1) := by decide +kernel
theorem dX5_isLive_16 : decode cX5_isLive 16 = .ok (.goto 4, 3) := by decide +kernel
theorem dX5_isLive_19 : decode cX5_isLive 19 = .ok (.iconst 0, 1) := by decide +kernel
theorem dX5_isLive_20 : decode cX5_isLive 20 = .ok (.ireturn, 1) := by decide +kernel
theorem dX5_copyFrom_0 : decode cX5_copyFrom 0 = .ok (.aload_n 0, 1) := by decide +kernel
theorem dX5_copyFrom_1 : decode cX5_copyFrom 1 = .ok (.aload_n 1, 1) := by decide +kernel
theorem dX5_copyFrom_2 : decode cX5_copyFrom 2 = .ok (.getfield 9, 3) := by decide +kernel
theorem dX5_copyFrom_5 : decode cX5_copyFrom 5 = .ok (.putfield 9, 3) := by decide +kernel
theorem dX5_copyFrom_8 : decode cX5_copyFrom 8 = .ok (.aload_n 0, 1) := by decide +kernel
theorem dX5_copyFrom_9 : decode cX5_copyFrom 9 = .ok (.aload_n 1, 1) := by decide +kernel
theorem dX5_copyFrom_10 : decode cX5_copyFrom 10 = .ok (.getfield 24, 3) := by decide +kernel
theorem dX5_copyFrom_13 : decode cX5_copyFrom 13 = .ok (.putfield 24, 3) := by decide +kernel
theorem dX5_copyFrom_16 : decode cX5_copyFrom 16 = .ok (.aload_n 0, 1) := by decide +kernel
theorem dX5_copyFrom_17 : decode cX5_copyFrom 17 = .ok (.aload_n 1, 1) := by decide +kernel
theorem dX5_copyFrom_18 : decode cX5_copyFrom 18 = .ok (.getfield 30, 3) := by decide +kernel
theorem dX5_copyFrom_21 : decode cX5_copyFrom 21 = .ok (.putfield 30, 3) := by decide +kernel
theorem dX5_copyFrom_24 : decode cX5_copyFrom 24 = .ok (.aload_n 0, 1) := by decide +kernel
theorem dX5_copyFrom_25 : decode cX5_copyFrom 25 = .ok (.aload_n 1, 1) := by decide +kernel
theorem dX5_copyFrom_26 : decode cX5_copyFrom 26 = .ok (.getfield 36, 3) := by decide +kernel
theorem dX5_copyFrom_29 : decode cX5_copyFrom 29 = .ok (.putfield 36, 3) := by decide +kernel
theorem dX5_copyFrom_32 : decode cX5_copyFrom 32 = .ok (.aload_n 0, 1) := by decide +kernel
theorem dX5_copyFrom_33 : decode cX5_copyFrom 33 = .ok (.aload_n 1, 1) := by decide +kernel
theorem dX5_copyFrom_34 : decode cX5_copyFrom 34 = .ok (.getfield 49, 3) := by decide +kernel
theorem dX5_copyFrom_37 : decode cX5_copyFrom 37 = .ok (.putfield 49, 3) := by decide +kernel
theorem dX5_copyFrom_40 : decode cX5_copyFrom 40 = .ok (.aload_n 0, 1) := by decide +kernel
theorem dX5_copyFrom_41 : decode cX5_copyFrom 41 = .ok (.aload_n 1, 1) := by decide +kernel
theorem dX5_copyFrom_42 : decode cX5_copyFrom 42 = .ok (.getfield 39, 3) := by decide +kernel
theorem dX5_copyFrom_45 : decode cX5_copyFrom 45 = .ok (.putfield 39, 3) := by decide +kernel
theorem dX5_copyFrom_48 : decode cX5_copyFrom 48 = .ok (.aload_n 0, 1) := by decide +kernel
theorem dX5_copyFrom_49 : decode cX5_copyFrom 49 = .ok (.aload_n 1, 1) := by decide +kernel
theorem dX5_copyFrom_50 : decode cX5_copyFrom 50 = .ok (.getfield 43, 3) := by decide +kernel
theorem dX5_copyFrom_53 : decode cX5_copyFrom 53 = .ok (.putfield 43, 3) := by decide +kernel
theorem dX5_copyFrom_56 : decode cX5_copyFrom 56 = .ok (.aload_n 0, 1) := by decide +kernel
theorem dX5_copyFrom_57 : decode cX5_copyFrom 57 = .ok (.aload_n 1, 1) := by decide +kernel
theorem dX5_copyFrom_58 : decode cX5_copyFrom 58 = .ok (.getfield 46, 3) := by decide +kernel
theorem dX5_copyFrom_61 : decode cX5_copyFrom 61 = .ok (.putfield 46, 3) := by decide +kernel
theorem dX5_copyFrom_64 : decode cX5_copyFrom 64 = .ok (.aload_n 0, 1) := by decide +kernel
theorem dX5_copyFrom_65 : decode cX5_copyFrom 65 = .ok (.aload_n 1, 1) := by decide +kernel
theorem dX5_copyFrom_66 : decode cX5_copyFrom 66 = .ok (.getfield 52, 3) := by decide +kernel
theorem dX5_copyFrom_69 : decode cX5_copyFrom 69 = .ok (.putfield 52, 3) := by decide +kernel
theorem dX5_copyFrom_72 : decode cX5_copyFrom 72 = .ok (.aload_n 0, 1) := by decide +kernel
theorem dX5_copyFrom_73 : decode cX5_copyFrom 73 = .ok (.aload_n 1, 1) := by decide +kernel
theorem dX5_copyFrom_74 : decode cX5_copyFrom 74 = .ok (.getfield 55, 3) := by decide +kernel
theorem dX5_copyFrom_77 : decode cX5_copyFrom 77 = .ok (.putfield 55, 3) := by decide +kernel
theorem dX5_copyFrom_80 : decode cX5_copyFrom 80 = .ok (.aload_n 0, 1) := by decide +kernel
theorem dX5_copyFrom_81 : decode cX5_copyFrom 81 = .ok (.aload_n 1, 1) := by decide +kernel
theorem dX5_copyFrom_82 : decode cX5_copyFrom 82 = .ok (.getfield 58, 3) := by decide +kernel
theorem dX5_copyFrom_85 : decode cX5_copyFrom 85 = .ok (.putfield 58, 3) := by decide +kernel
theorem dX5_copyFrom_88 : decode cX5_copyFrom 88 = .ok (.aload_n 0, 1) := by decide +kernel
theorem dX5_copyFrom_89 : decode cX5_copyFrom 89 = .ok (.aload_n 1, 1) := by decide +kernel
theorem dX5_copyFrom_90 : decode cX5_copyFrom 90 = .ok (.getfield 61, 3) := by decide +kernel
theorem dX5_copyFrom_93 : decode cX5_copyFrom 93 = .ok (.putfield 61, 3) := by decide +kernel
theorem dX5_copyFrom_96 : decode cX5_copyFrom 96 = .ok (.aload_n 0, 1) := by decide +kernel
theorem dX5_copyFrom_97 : decode cX5_copyFrom 97 = .ok (.aload_n 1, 1) := by decide +kernel
theorem dX5_copyFrom_98 : decode cX5_copyFrom 98 = .ok (.getfield 15, 3) := by decide +kernel
theorem dX5_copyFrom_101 : decode cX5_copyFrom 101 = .ok (.putfield 15, 3) := by decide +kernel
theorem dX5_copyFrom_104 : decode cX5_copyFrom 104 = .ok (.return_, 1) := by decide +kernel
set_option maxRecDepth 20000 in
theorem ggX6_init_X7_init : GoodIn wsX6_init wsX7_init := goodIn_r _ [24, 25, 2, 3, 12, 26, 27, 28, 29, 30, 61, 62, 63, 64, 65, 66, 67, 68, 69, 70, 71, 72, 73, 74, 75, 76, 77] (by decide +kernel) (by decide +kernel)
set_option maxRecDepth 20000 in
theorem gX6_init_X7_init : GoodIn wsX6_init (wsX7_init) := ggX6_init_X7_init
set_option maxRecDepth 20000 in
theorem ggX6_init_X5_init : GoodIn wsX6_init wsX5_init := goodIn_r _ [33, 34, 2, 3, 35, 36, 37, 78, 79, 80, 81, 82, 83, 84, 85, 86, 87, 88, 89, 90, 91] (by decide +kernel) (by decide +kernel)
set_option maxRecDepth 20000 in
theorem gX6_init_X5_init : GoodIn wsX6_init (wsX5_init) := ggX6_init_X5_init
set_option maxRecDepth 20000 in
theorem ggX6_init_X2_init : GoodIn wsX6_init wsX2_init := goodIn_r _ [40, 41, 2, 3, 42, 43, 92, 93, 94] (by decide +kernel) (by decide +kernel)
set_option maxRecDepth 20000 in
theorem gX6_init_X2_init : GoodIn wsX6_init (wsX2_init) := ggX6_init_X2_init
set_option maxRecDepth 20000 in
theorem ggX6_init_X1_init : GoodIn wsX6_init wsX1_init := goodIn_r _ [45, 46, 2, 3, 47, 12, 48, 95, 96, 97, 98, 99] (by decide +kernel) (by decide +kernel)
set_option maxRecDepth 20000 in
theorem gX6_init_X1_init_n44 : GoodIn wsX6_init (wsX1_init) := ggX6_init_X1_init
theorem dX6_init_0 : decode cX6_init 0 = .ok (.aload_n 0, 1) := by decide +kernel
theorem dX6_init_1 : decode cX6_init 1 = .ok (.invokespecial 3, 3) := by decide +kernel
theorem dX6_init_4 : decode cX6_init 4 = .ok (.aload_n 0, 1) := by decide +kernel
theorem dX6_init_5 : decode cX6_init 5 = .ok (.bipush 24, 2) := by decide +kernel
theorem dX6_init_7 : decode cX6_init 7 = .ok (.anewarray 9, 3) := by decide +kernel
theorem dX6_init_10 : decode cX6_init 10 = .ok (.putfield 11, 3) := by decide +kernel
theorem dX6_init_13 : decode cX6_init 13 = .ok (.aload_n 0, 1) := by decide +kernel
theorem dX6_init_14 : decode cX6_init 14 = .ok (.bipush 40, 2) := by decide +kernel
theorem dX6_init_16 : decode cX6_init 16 = .ok (.anewarray 17, 3) := by decide +kernel
theorem dX6_init_19 : decode cX6_init 19 = .ok (.putfield 19, 3) := by decide +kernel
theorem dX6_init_22 : decode cX6_init 22 = .ok (.aload_n 0, 1) := by decide +kernel
theorem dX6_init_23 : decode cX6_init 23 = .ok (.iconst 2, 1) := by decide +kernel
theorem dX6_init_24 : decode cX6_init 24 = .ok (.anewarray 23, 3) := by decide +kernel
theorem dX6_init_27 : decode cX6_init 27 = .ok (.putfield 25, 3) := by decide +kernel
theorem dX6_init_30 : decode cX6_init 30 = .ok (.aload_n 0, 1) := by decide +kernel
theorem dX6_init_31 : decode cX6_init 31 = .ok (.iconst 2, 1) := by decide +kernel
theorem dX6_init_32 : decode cX6_init 32 = .ok (.anewarray 29, 3) := by decide +kernel
theorem dX6_init_35 : decode cX6_init 35 = .ok (.putfield 31, 3) := by decide +kernel
theorem dX6_init_38 : decode cX6_init 38 = .ok (.aload_n 0, 1) := by decide +kernel
theorem dX6_init_39 : decode cX6_init 39 = .ok (.bipush 24, 2) := by decide +kernel
theorem dX6_init_41 : decode cX6_init 41 = .ok (.newarray .int, 2) := by decide +kernel
theorem dX6_init_43 : decode cX6_init 43 = .ok (.putfield 35, 3) := by decide +kernel
theorem dX6_init_46 : decode cX6_init 46 = .ok (.iconst 0, 1) := by decide +kernel
theorem dX6_init_47 : decode cX6_init 47 = .ok (.istore_n 1, 1) := by decide +kernel
theorem dX6_init_48 : decode cX6_init 48 = .ok (.iload_n 1, 1) := by decide +kernel
theorem dX6_init_49 : decode cX6_init 49 = .ok (.aload_n 0, 1) := by decide +kernel
theorem dX6_init_50 : decode cX6_init 50 = .ok (.getfield 11, 3) := by decide +kernel
theorem dX6_init_53 : decode cX6_init 53 = .ok (.arraylength, 1) := by decide +kernel
theorem dX6_init_54 : decode cX6_init 54 = .ok (.if_icmp .ge 23, 3) := by decide +kernel
theorem dX6_init_57 : decode cX6_init 57 = .ok (.aload_n 0, 1) := by decide +kernel
theorem dX6_init_58 : decode cX6_init 58 = .ok (.getfield 11, 3) := by decide +kernel
theorem dX6_init_61 : decode cX6_init 61 = .ok (.iload_n 1, 1) := by decide +kernel
theorem dX6_init_62 : decode cX6_init 62 = .ok (.new 9, 3) := by decide +kernel
theorem dX6_init_65 : decode cX6_init 65 = .ok (.dup, 1) := by decide +kernel
theorem dX6_init_66 : decode cX6_init 66 = .ok (.iload_n 1, 1) := by decide +kernel
theorem dX6_init_67 : decode cX6_init 67 = .ok (.invokespecial 39, 3) := by decide +kernel
theorem dX6_init_70 : decode cX6_init 70 = .ok (.aastore, 1) := by decide +kernel
theorem dX6_init_71 : decode cX6_init 71 = .ok (.iinc 1 1, 3) := by decide +kernel
theorem dX6_init_74 : decode cX6_init 74 = .ok (.goto (-26), 3) := by decide +kernel
theorem dX6_init_77 : decode cX6_init 77 = .ok (.iconst 0, 1) := by decide +kernel
theorem dX6_init_78 : decode cX6_init 78 = .ok (.istore_n 1, 1) := by decide +kernel
theorem dX6_init_79 : decode cX6_init 79 = .ok (.iload_n 1, 1) := by decide +kernel
theorem dX6_init_80 : decode cX6_init 80 = .ok (.aload_n 0, 1) := by decide +kernel
theorem dX6_init_81 : decode cX6_init 81 = .ok (.getfield 19, 3) := by decide +kernel
theorem dX6_init_84 : decode cX6_init 84 = .ok (.arraylength, 1) := by decide +kernel
theorem dX6_init_85 : decode cX6_init 85 = .ok (.if_icmp .ge 23, 3) := by decide +kernel
theorem dX6_init_88 : decode cX6_init 88 = .ok (.aload_n 0, 1) := by decide +kernel
theorem dX6_init_89 : decode cX6_init 89 = .ok (.getfield 19, 3) := by decide +kernel
theorem dX6_init_92 : decode cX6_init 92 = .ok (.iload_n 1, 1) := by decide +kernel
theorem dX6_init_93 : decode cX6_init 93 = .ok (.new 17, 3) := by decide +kernel
theorem dX6_init_96 : decode cX6_init 96 = .ok (.dup, 1) := by decide +kernel
theorem dX6_init_97 : decode cX6_init 97 = .ok (.iload_n 1, 1) := by decide +kernel
theorem dX6_init_98 : decode cX6_init 98 = .ok (.invokespecial 42, 3) := by decide +kernel
theorem dX6_init_101 : decode cX6_init 101 = .ok (.aastore, 1) := by decide +kernel
theorem dX6_init_102 : decode cX6_init 102 = .ok (.iinc 1 1, 3) := by decide +kernel
theorem dX6_init_105 : decode cX6_init 105 = .ok (.goto (-26), 3) := by decide +kernel
theorem dX6_init_108 : decode cX6_init 108 = .ok (.iconst 0, 1) := by decide +kernel
theorem dX6_init_109 : decode cX6_init 109 = .ok (.istore_n 1, 1) := by decide +kernel
theorem dX6_init_110 : decode cX6_init 110 = .ok (.iload_n 1, 1) := by decide +kernel
theorem dX6_init_111 : decode cX6_init 111 = .ok (.aload_n 0, 1) := by decide +kernel
theorem dX6_init_112 : decode cX6_init 112 = .ok (.getfield 25, 3) := by decide +kernel
theorem dX6_init_115 : decode cX6_init 115 = .ok (.arraylength, 1) := by decide +kernel
theorem dX6_init_116 : decode cX6_init 116 = .ok (.if_icmp .ge 23, 3) := by decide +kernel
theorem dX6_init_119 : decode cX6_init 119 = .ok (.aload_n 0, 1) := by decide +kernel
theorem dX6_init_120 : decode cX6_init 120 = .ok (.getfield 25, 3) := by decide +kernel
theorem dX6_init_123 : decode cX6_init 123 = .ok (.iload_n 1, 1) := by decide +kernel
theorem dX6_init_124 : decode cX6_init 124 = .ok (.new 23, 3) := by decide +kernel
theorem dX6_init_127 : decode cX6_init 127 = .ok (.dup, 1) := by decide +kernel
theorem dX6_init_128 : decode cX6_init 128 = .ok (.iload_n 1, 1) := by decide +kernel
theorem dX6_init_129 : decode cX6_init 129 = .ok (.invokespecial 43, 3) := by decide +kernel
theorem dX6_init_132 : decode cX6_init 132 = .ok (.aastore, 1) := by decide +kernel
theorem dX6_init_133 : decode cX6_init 133 = .ok (.iinc 1 1, 3) := by decide +kernel
theorem dX6_init_136 : decode cX6_init 136 = .ok (.goto (-26), 3) := by decide +kernel
theorem dX6_init_139 : decode cX6_init 139 = .ok (.iconst 0, 1) := by decide +kernel
theorem dX6_init_140 : decode cX6_init 140 = .ok (.istore_n 1, 1) := by decide +kernel
theorem dX6_init_141 : decode cX6_init 141 = .ok (.iload_n 1, 1) := by decide +kernel
theorem dX6_init_142 : decode cX6_init 142 = .ok (.aload_n 0, 1) := by decide +kernel
theorem dX6_init_143 : decode cX6_init 143 = .ok (.getfield 31, 3) := by decide +kernel
theorem dX6_init_146 : decode cX6_init 146 = .ok (.arraylength, 1) := by decide +kernel
theorem dX6_init_147 : decode cX6_init 147 = .ok (.if_icmp .ge 22, 3) := by decide +kernel
theorem dX6_init_150 : decode cX6_init 150 = .ok (.aload_n 0, 1) := by decide +kernel
theorem dX6_init_151 : decode cX6_init 151 = .ok (.getfield 31, 3) := by decide +kernel
theorem dX6_init_154 : decode cX6_init 154 = .ok (.iload_n 1, 1) := by decide +kernel
theorem dX6_init_155 : decode cX6_init 155 = .ok (.new 29, 3) := by decide +kernel
theorem dX6_init_158 : decode cX6_init 158 = .ok (.dup, 1) := by decide +kernel
theorem dX6_init_159 : decode cX6_init 159 = .ok (.invokespecial 44, 3) := by decide +kernel
theorem dX6_init_162 : decode cX6_init 162 = .ok (.aastore, 1) := by decide +kernel
theorem dX6_init_163 : decode cX6_init 163 = .ok (.iinc 1 1, 3) := by decide +kernel
theorem dX6_init_166 : decode cX6_init 166 = .ok (.goto (-25), 3) := by decide +kernel
theorem dX6_init_169 : decode cX6_init 169 = .ok (.return_, 1) := by decide +kernel
set_option maxRecDepth 20000 in
theorem ggX6_copyFrom_X7_copyFrom : GoodIn wsX6_copyFrom wsX7_copyFrom := goodIn_r _ [17, 18, 19, 20, 21, 22, 23, 24, 25, 26, 27, 28, 29, 30, 31, 32, 33, 34, 35, 16, 36, 37, 38, 39, 40, 41, 93, 94, 95, 96, 97, 98, 99, 100, 101, 102, 103, 104, 105, 106, 107, 108, 109] (by decide +kernel) (by decide +kernel)
set_option maxRecDepth 20000 in
theorem gX6_copyFrom_X7_copyFrom : GoodIn wsX6_copyFrom (wsV RX6 45 RX7 yX7_copyFrom wsX7_copyFrom) := goodIn_app (goodIn_of _ (by decide +kernel)) ggX6_copyFrom_X7_copyFrom
set_option maxRecDepth 20000 in
theorem ggX6_copyFrom_X5_copyFrom : GoodIn wsX6_copyFrom wsX5_copyFrom := goodIn_r _ [46, 47, 48, 49, 50, 51, 52, 53, 54, 55, 56, 57, 58, 59, 110, 111, 112, 113, 114, 115, 116, 117, 118, 119, 120, 121, 122, 123] (by decide +kernel) (by decide +kernel)
set_option maxRecDepth 20000 in
theorem gX6_copyFrom_X5_copyFrom : GoodIn wsX6_copyFrom (wsV RX6 49 RX5 yX5_copyFrom wsX5_copyFrom) := goodIn_app (goodIn_of _ (by decide +kernel)) ggX6_copyFrom_X5_copyFrom
set_option maxRecDepth 20000 in
theorem ggX6_copyFrom_X2_copyFrom : GoodIn wsX6_copyFrom wsX2_copyFrom := goodIn_r _ [64, 65, 66, 124, 125, 126] (by decide +kernel) (by decide +kernel)
set_option maxRecDepth 20000 in
theorem gX6_copyFrom_X2_copyFrom : GoodIn wsX6_copyFrom (wsV RX6 52 RX2 yX2_copyFrom wsX2_copyFrom) := goodIn_app (goodIn_of _ (by decide +kernel)) ggX6_copyFrom_X2_copyFrom
set_option maxRecDepth 20000 in
theorem ggX6_copyFrom_X1_copyFrom : GoodIn wsX6_copyFrom wsX1_copyFrom := goodIn_r _ [71, 72, 73, 74, 75, 76, 77, 78, 79, 80, 127, 128, 129, 130, 131] (by decide +kernel) (by decide +kernel)
set_option maxRecDepth 20000 in
theorem gX6_copyFrom_X1_copyFrom : GoodIn wsX6_copyFrom (wsV RX6 55 RX1 yX1_copyFrom wsX1_copyFrom) := goodIn_app (goodIn_of _ (by decide +kernel)) ggX6_copyFrom_X1_copyFrom
theorem dX6_copyFrom_0 : decode cX6_copyFrom 0 = .ok (.iconst 0, 1) := by decide +kernel
theorem dX6_copyFrom_1 : decode cX6_copyFrom 1 = .ok (.istore_n 2, 1) := by decide +kernel
theorem dX6_copyFrom_2 : decode cX6_copyFrom 2 = .ok (.iload_n 2, 1) := by decide +kernel
theorem dX6_copyFrom_3 : decode cX6_copyFrom 3 = .ok (.bipush 24, 2) := by decide +kernel
theorem dX6_copyFrom_5 : decode cX6_copyFrom 5 = .ok (.if_icmp .ge 36, 3) := by decide +kernel
theorem dX6_copyFrom_8 : decode cX6_copyFrom 8 = .ok (.aload_n 0, 1) := by decide +kernel
theorem dX6_copyFrom_9 : decode cX6_copyFrom 9 = .ok (.getfield 11, 3) := by decide +kernel
theorem dX6_copyFrom_12 : decode cX6_copyFrom 12 = .ok (.iload_n 2, 1) := by decide +kernel
theorem dX6_copyFrom_13 : decode cX6_copyFrom 13 = .ok (.aaload, 1) := by decide +kernel
theorem dX6_copyFrom_14 : decode cX6_copyFrom 14 = .ok (.aload_n 1, 1) := by decide +kernel
theorem dX6_copyFrom_15 : decode cX6_copyFrom 15 = .ok (.getfield 11, 3) := by decide +kernel
theorem dX6_copyFrom_18 : decode cX6_copyFrom 18 = .ok (.iload_n 2, 1) := by decide +kernel
theorem dX6_copyFrom_19 : decode cX6_copyFrom 19 = .ok (.aaload, 1) := by decide +kernel
theorem dX6_copyFrom_20 : decode cX6_copyFrom 20 = .ok (.invokevirtual 45, 3) := by decide +kernel
theorem dX6_copyFrom_23 : decode cX6_copyFrom 23 = .ok (.aload_n 0, 1) := by decide +kernel
theorem dX6_copyFrom_24 : decode cX6_copyFrom 24 = .ok (.getfield 35, 3) := by decide +kernel
theorem dX6_copyFrom_27 : decode cX6_copyFrom 27 = .ok (.iload_n 2, 1) := by decide +kernel
theorem dX6_copyFrom_28 : decode cX6_copyFrom 28 = .ok (.aload_n 1, 1) := by decide +kernel
theorem dX6_copyFrom_29 : decode cX6_copyFrom 29 = .ok (.getfield 35, 3) := by decide +kernel
theorem dX6_copyFrom_32 : decode cX6_copyFrom 32 = .ok (.iload_n 2, 1) := by decide +kernel
theorem dX6_copyFrom_33 : decode cX6_copyFrom 33 = .ok (.iaload, 1) := by decide +kernel
theorem dX6_copyFrom_34 : decode cX6_copyFrom 34 = .ok (.iastore, 1) := by decide +kernel
theorem dX6_copyFrom_35 : decode cX6_copyFrom 35 = .ok (.iinc 2 1, 3) := by decide +kernel
theorem dX6_copyFrom_38 : decode cX6_copyFrom 38 = .ok (.goto (-36), 3) := by decide +kernel
theorem dX6_copyFrom_41 : decode cX6_copyFrom 41 = .ok (.iconst 0, 1) := by decide +kernel
theorem dX6_copyFrom_42 : decode cX6_copyFrom 42 = .ok (.istore_n 2, 1) := by decide +kernel
theorem dX6_copyFrom_43 : decode cX6_copyFrom 43 = .ok (.iload_n 2, 1) := by decide +kernel
theorem dX6_copyFrom_44 : decode cX6_copyFrom 44 = .ok (.bipush 40, 2) := by decide +kernel
theorem dX6_copyFrom_46 : decode cX6_copyFrom 46 = .ok (.if_icmp .ge 24, 3) := by decide +kernel
theorem dX6_copyFrom_49 : decode cX6_copyFrom 49 = .ok (.aload_n 0, 1) := by decide +kernel
theorem dX6_copyFrom_50 : decode cX6_copyFrom 50 = .ok (.getfield 19, 3) := by decide +kernel
theorem dX6_copyFrom_53 : decode cX6_copyFrom 53 = .ok (.iload_n 2, 1) := by decide +kernel
theorem dX6_copyFrom_54 : decode cX6_copyFrom 54 = .ok (.aaload, 1) := by decide +kernel
theorem dX6_copyFrom_55 : decode cX6_copyFrom 55 = .ok (.aload_n 1, 1) := by decide +kernel
theorem dX6_copyFrom_56 : decode cX6_copyFrom 56 = .ok (.getfield 19, 3) := by decide +kernel
theorem dX6_copyFrom_59 : decode cX6_copyFrom 59 = .ok (.iload_n 2, 1) := by decide +kernel
theorem dX6_copyFrom_60 : decode cX6_copyFrom 60 = .ok (.aaload, 1) := by decide +kernel
theorem dX6_copyFrom_61 : decode cX6_copyFrom 61 = .ok (.invokevirtual 49, 3) := by decide +kernel
theorem dX6_copyFrom_64 : decode cX6_copyFrom 64 = .ok (.iinc 2 1, 3) := by decide +kernel
theorem dX6_copyFrom_67 : decode cX6_copyFrom 67 = .ok (.goto (-24), 3) := by decide +kernel
theorem dX6_copyFrom_70 : decode cX6_copyFrom 70 = .ok (.iconst 0, 1) := by decide +kernel
theorem dX6_copyFrom_71 : decode cX6_copyFrom 71 = .ok (.istore_n 2, 1) := by decide +kernel
theorem dX6_copyFrom_72 : decode cX6_copyFrom 72 = .ok (.iload_n 2, 1) := by decide +kernel
theorem dX6_copyFrom_73 : decode cX6_copyFrom 73 = .ok (.iconst 2, 1) := by decide +kernel
theorem dX6_copyFrom_74 : decode cX6_copyFrom 74 = .ok (.if_icmp .ge 24, 3) := by decide +kernel
theorem dX6_copyFrom_77 : decode cX6_copyFrom 77 = .ok (.aload_n 0, 1) := by decide +kernel
theorem dX6_copyFrom_78 : decode cX6_copyFrom 78 = .ok (.getfield 25, 3) := by decide +kernel
theorem dX6_copyFrom_81 : decode cX6_copyFrom 81 = .ok (.iload_n 2, 1) := by decide +kernel
theorem dX6_copyFrom_82 : decode cX6_copyFrom 82 = .ok (.aaload, 1) := by decide +kernel
theorem dX6_copyFrom_83 : decode cX6_copyFrom 83 = .ok (.aload_n 1, 1) := by decide +kernel
theorem dX6_copyFrom_84 : decode cX6_copyFrom 84 = .ok (.getfield 25, 3) := by decide +kernel
theorem dX6_copyFrom_87 : decode cX6_copyFrom 87 = .ok (.iload_n 2, 1) := by decide +kernel
theorem dX6_copyFrom_88 : decode cX6_copyFrom 88 = .ok (.aaload, 1) := by decide +kernel
theorem dX6_copyFrom_89 : decode cX6_copyFrom 89 = .ok (.invokevirtual 52, 3) := by decide +kernel
theorem dX6_copyFrom_92 : decode cX6_copyFrom 92 = .ok (.iinc 2 1, 3) := by decide +kernel
theorem dX6_copyFrom_95 : decode cX6_copyFrom 95 = .ok (.goto (-23), 3) := by decide +kernel
theorem dX6_copyFrom_98 : decode cX6_copyFrom 98 = .ok (.iconst 0, 1) := by decide +kernel
theorem dX6_copyFrom_99 : decode cX6_copyFrom 99 = .ok (.istore_n 2, 1) := by decide +kernel
theorem dX6_copyFrom_100 : decode cX6_copyFrom 100 = .ok (.iload_n 2, 1) := by decide +kernel
theorem dX6_copyFrom_101 : decode cX6_copyFrom 101 = .ok (.iconst 2, 1) := by decide +kernel
theorem dX6_copyFrom_102 : decode cX6_copyFrom 102 = .ok (.if_icmp .ge 24, 3) := by decide +kernel
theorem dX6_copyFrom_105 : decode cX6_copyFrom 105 = .ok (.aload_n 0, 1) := by decide +kernel
theorem dX6_copyFrom_106 : decode cX6_copyFrom 106 = .ok (.getfield 31, 3) := by decide +kernel
theorem dX6_copyFrom_109 : decode cX6_copyFrom 109 = .ok (.iload_n 2, 1) := by decide +kernel
theorem dX6_copyFrom_110 : decode cX6_copyFrom 110 = .ok (.aaload, 1) := by decide +kernel
theorem dX6_copyFrom_111 : decode cX6_copyFrom 111 = .ok (.aload_n 1, 1) := by decide +kernel
theorem dX6_copyFrom_112 : decode cX6_copyFrom 112 = .ok (.getfield 31, 3) := by decide +kernel
theorem dX6_copyFrom_115 : decode cX6_copyFrom 115 = .ok (.iload_n 2, 1) := by decide +kernel
theorem dX6_copyFrom_116 : decode cX6_copyFrom 116 = .ok (.aaload, 1) := by decide +kernel
theorem dX6_copyFrom_117 : decode cX6_copyFrom 117 = .ok (.invokevirtual 55, 3) := by decide +kernel
theorem dX6_copyFrom_120 : decode cX6_copyFrom 120 = .ok (.iinc 2 1, 3) := by decide +kernel
theorem dX6_copyFrom_123 : decode cX6_copyFrom 123 = .ok (.goto (-23), 3) := by decide +kernel
theorem dX6_copyFrom_126 : decode cX6_copyFrom 126 = .ok (.aload_n 0, 1) := by decide +kernel
theorem dX6_copyFrom_127 : decode cX6_copyFrom 127 = .ok (.aload_n 1, 1) := by decide +kernel
theorem dX6_copyFrom_128 : decode cX6_copyFrom 128 = .ok (.getfield 58, 3) := by decide +kernel
theorem dX6_copyFrom_131 : decode cX6_copyFrom 131 = .ok (.putfield 58, 3) := by decide +kernel
theorem dX6_copyFrom_134 : decode cX6_copyFrom 134 = .ok (.aload_n 0, 1) := by decide +kernel
theorem dX6_copyFrom_135 : decode cX6_copyFrom 135 = .ok (.aload_n 1, 1) := by decide +kernel
theorem dX6_copyFrom_136 : decode cX6_copyFrom 136 = .ok (.getfield 62, 3) := by decide +kernel
theorem dX6_copyFrom_139 : decode cX6_copyFrom 139 = .ok (.putfield 62, 3) := by decide +kernel
theorem dX6_copyFrom_142 : decode cX6_copyFrom 142 = .ok (.aload_n 0, 1) := by decide +kernel
theorem dX6_copyFrom_143 : decode cX6_copyFrom 143 = .ok (.aload_n 1, 1) := by decide +kernel
theorem dX6_copyFrom_144 : decode cX6_copyFrom 144 = .ok (.getfield 65, 3) := by decide +kernel
theorem dX6_copyFrom_147 : decode cX6_copyFrom 147 = .ok (.putfield 65, 3) := by decide +kernel
theorem dX6_copyFrom_150 : decode cX6_copyFrom 150 = .ok (.aload_n 0, 1) := by decide +kernel
theorem dX6_copyFrom_151 : decode cX6_copyFrom 151 = .ok (.aload_n 1, 1) := by decide +kernel
theorem dX6_copyFrom_152 : decode cX6_copyFrom 152 = .ok (.getfield 68, 3) := by decide +kernel
theorem dX6_copyFrom_155 : decode cX6_copyFrom 155 = .ok (.putfield 68, 3) := by decide +kernel
theorem dX6_copyFrom_158 : decode cX6_copyFrom 158 = .ok (.aload_n 0, 1) := by decide +kernel
theorem dX6_copyFrom_159 : decode cX6_copyFrom 159 = .ok (.aload_n 1, 1) := by decide +kernel
theorem dX6_copyFrom_160 : decode cX6_copyFrom 160 = .ok (.getfield 71, 3) := by decide +kernel
theorem dX6_copyFrom_163 : decode cX6_copyFrom 163 = .ok (.putfield 71, 3) := by decide +kernel
theorem dX6_copyFrom_166 : decode cX6_copyFrom 166 = .ok (.aload_n 0, 1) := by decide +kernel
theorem dX6_copyFrom_167 : decode cX6_copyFrom 167 = .ok (.aload_n 1, 1) := by decide +kernel
theorem dX6_copyFrom_168 : decode cX6_copyFrom 168 = .ok (.getfield 74, 3) := by decide +kernel
theorem dX6_copyFrom_171 : decode cX6_copyFrom 171 = .ok (.putfield 74, 3) := by decide +kernel
theorem dX6_copyFrom_174 : decode cX6_copyFrom 174 = .ok (.aload_n 0, 1) := by decide +kernel
theorem dX6_copyFrom_175 : decode cX6_copyFrom 175 = .ok (.aload_n 1, 1) := by decide +kernel
theorem dX6_copyFrom_176 : decode cX6_copyFrom 176 = .ok (.getfield 77, 3) := by decide +kernel
theorem dX6_copyFrom_179 : decode cX6_copyFrom 179 = .ok (.putfield 77, 3) := by decide +kernel
theorem dX6_copyFrom_182 : decode cX6_copyFrom 182 = .ok (.return_, 1) := by decide +kernel
theorem dX6_taskAt_0 : decode cX6_taskAt 0 = .ok (.iload_n 1, 1) := by decide +kernel
theorem dX6_taskAt_1 : decode cX6_taskAt 1 = .ok (.ifCond .lt 21, 3) := by decide +kernel
theorem dX6_taskAt_4 : decode cX6_taskAt 4 = .ok (.iload_n 1, 1) := by decide +kernel
theorem dX6_taskAt_5 : decode cX6_taskAt 5 = .ok (.aload_n 0, 1) := by decide +kernel
theorem dX6_taskAt_6 : decode cX6_taskAt 6 = .ok (.getfield 11, 3) := by decide +kernel
theorem dX6_taskAt_9 : decode cX6_taskAt 9 = .ok (.arraylength, 1) := by decide +kernel
theorem dX6_taskAt_10 : decode cX6_taskAt 10 = .ok (.if_icmp .ge 12, 3) := by decide +kernel
theorem dX6_taskAt_13 : decode cX6_taskAt 13 = .ok (.aload_n 0, 1) := by decide +kernel
theorem dX6_taskAt_14 : decode cX6_taskAt 14 = .ok (.getfield 11, 3) := by decide +kernel
theorem dX6_taskAt_17 : decode cX6_taskAt 17 = .ok (.iload_n 1, 1) := by decide +kernel
theorem dX6_taskAt_18 : decode cX6_taskAt 18 = .ok (.aaload, 1) := by decide +kernel
theorem dX6_taskAt_19 : decode cX6_taskAt 19 = .ok (.goto 4, 3) := by decide +kernel
theorem dX6_taskAt_22 : decode cX6_taskAt 22 = .ok (.aconst_null, 1) := by decide +kernel
theorem dX6_taskAt_23 : decode cX6_taskAt 23 = .ok (.areturn, 1) := by decide +kernel
theorem dX6_scopeAt_0 : decode cX6_scopeAt 0 = .ok (.iload_n 1, 1) := by decide +kernel
theorem dX6_scopeAt_1 : decode cX6_scopeAt 1 = .ok (.ifCond .lt 21, 3) := by decide +kernel
theorem dX6_scopeAt_4 : decode cX6_scopeAt 4 = .ok (.iload_n 1, 1) := by decide +kernel
theorem dX6_scopeAt_5 : decode cX6_scopeAt 5 = .ok (.aload_n 0, 1) := by decide +kernel
theorem dX6_scopeAt_6 : decode cX6_scopeAt 6 = .ok (.getfield 19, 3) := by decide +kernel
theorem dX6_scopeAt_9 : decode cX6_scopeAt 9 = .ok (.arraylength, 1) := by decide +kernel
theorem dX6_scopeAt_10 : decode cX6_scopeAt 10 = .ok (.if_icmp .ge 12, 3) := by decide +kernel
theorem dX6_scopeAt_13 : decode cX6_scopeAt 13 = .ok (.aload_n 0, 1) := by decide +kernel
theorem dX6_scopeAt_14 : decode cX6_scopeAt 14 = .ok (.getfield 19, 3) := by decide +kernel
theorem dX6_scopeAt_17 : decode cX6_scopeAt 17 = .ok (.iload_n 1, 1) := by decide +kernel
theorem dX6_scopeAt_18 : decode cX6_scopeAt 18 = .ok (.aaload, 1) := by decide +kernel
theorem dX6_scopeAt_19 : decode cX6_scopeAt 19 = .ok (.goto 4, 3) := by decide +kernel
theorem dX6_scopeAt_22 : decode cX6_scopeAt 22 = .ok (.aconst_null, 1) := by decide +kernel
theorem dX6_scopeAt_23 : decode cX6_scopeAt 23 = .ok (.areturn, 1) := by decide +kernel
theorem dX6_lockAt_0 : decode cX6_lockAt 0 = .ok (.iload_n 1, 1) := by decide +kernel
theorem dX6_lockAt_1 : decode cX6_lockAt 1 = .ok (.ifCond .lt 21, 3) := by decide +kernel
theorem dX6_lockAt_4 : decode cX6_lockAt 4 = .ok (.iload_n 1, 1) := by decide +kernel
theorem dX6_lockAt_5 : decode cX6_lockAt 5 = .ok (.aload_n 0, 1) := by decide +kernel
theorem dX6_lockAt_6 : decode cX6_lockAt 6 = .ok (.getfield 25, 3) := by decide +kernel
theorem dX6_lockAt_9 : decode cX6_lockAt 9 = .ok (.arraylength, 1) := by decide +kernel
theorem dX6_lockAt_10 : decode cX6_lockAt 10 = .ok (.if_icmp .ge 12, 3) := by decide +kernel
theorem dX6_lockAt_13 : decode cX6_lockAt 13 = .ok (.aload_n 0, 1) := by decide +kernel
theorem dX6_lockAt_14 : decode cX6_lockAt 14 = .ok (.getfield 25, 3) := by decide +kernel
theorem dX6_lockAt_17 : decode cX6_lockAt 17 = .ok (.iload_n 1, 1) := by decide +kernel
theorem dX6_lockAt_18 : decode cX6_lockAt 18 = .ok (.aaload, 1) := by decide +kernel
theorem dX6_lockAt_19 : decode cX6_lockAt 19 = .ok (.goto 4, 3) := by decide +kernel
theorem dX6_lockAt_22 : decode cX6_lockAt 22 = .ok (.aconst_null, 1) := by decide +kernel
theorem dX6_lockAt_23 : decode cX6_lockAt 23 = .ok (.areturn, 1) := by decide +kernel
theorem dX6_channelAt_0 : decode cX6_channelAt 0 = .ok (.iload_n 1, 1) := by decide +kernel
theorem dX6_channelAt_1 : decode cX6_channelAt 1 = .ok (.ifCond .lt 21, 3) := by decide +kernel
theorem dX6_channelAt_4 : decode cX6_channelAt 4 = .ok (.iload_n 1, 1) := by decide +kernel
theorem dX6_channelAt_5 : decode cX6_channelAt 5 = .ok (.aload_n 0, 1) := by decide +kernel
theorem dX6_channelAt_6 : decode cX6_channelAt 6 = .ok (.getfield 31, 3) := by decide +kernel
theorem dX6_channelAt_9 : decode cX6_channelAt 9 = .ok (.arraylength, 1) := by decide +kernel
theorem dX6_channelAt_10 : decode cX6_channelAt 10 = .ok (.if_icmp .ge 12, 3) := by decide +kernel
theorem dX6_channelAt_13 : decode cX6_channelAt 13 = .ok (.aload_n 0, 1) := by decide +kernel
theorem dX6_channelAt_14 : decode cX6_channelAt 14 = .ok (.getfield 31, 3) := by decide +kernel
theorem dX6_channelAt_17 : decode cX6_channelAt 17 = .ok (.iload_n 1, 1) := by decide +kernel
theorem dX6_channelAt_18 : decode cX6_channelAt 18 = .ok (.aaload, 1) := by decide +kernel
theorem dX6_channelAt_19 : decode cX6_channelAt 19 = .ok (.goto 4, 3) := by decide +kernel
theorem dX6_channelAt_22 : decode cX6_channelAt 22 = .ok (.aconst_null, 1) := by decide +kernel
theorem dX6_channelAt_23 : decode cX6_channelAt 23 = .ok (.areturn, 1) := by decide +kernel
theorem dX6_isUsed_0 : decode cX6_isUsed 0 = .ok (.aload_n 0, 1) := by decide +kernel
theorem dX6_isUsed_1 : decode cX6_isUsed 1 = .ok (.getfield 11, 3) := by decide +kernel
theorem dX6_isUsed_4 : decode cX6_isUsed 4 = .ok (.astore_n 2, 1) := by decide +kernel
theorem dX6_isUsed_5 : decode cX6_isUsed 5 = .ok (.aload_n 2, 1) := by decide +kernel
theorem dX6_isUsed_6 : decode cX6_isUsed 6 = .ok (.arraylength, 1) := by decide +kernel
theorem dX6_isUsed_7 : decode cX6_isUsed 7 = .ok (.istore_n 3, 1) := by decide +kernel
theorem dX6_isUsed_8 : decode cX6_isUsed 8 = .ok (.iconst 0, 1) := by decide +kernel
theorem dX6_isUsed_9 : decode cX6_isUsed 9 = .ok (.istore 4, 2) := by decide +kernel
theorem dX6_isUsed_11 : decode cX6_isUsed 11 = .ok (.iload 4, 2) := by decide +kernel
theorem dX6_isUsed_13 : decode cX6_isUsed 13 = .ok (.iload_n 3, 1) := by decide +kernel
theorem dX6_isUsed_14 : decode cX6_isUsed 14 = .ok (.if_icmp .ge 35, 3) := by decide +kernel
theorem dX6_isUsed_17 : decode cX6_isUsed 17 = .ok (.aload_n 2, 1) := by decide +kernel
theorem dX6_isUsed_18 : decode cX6_isUsed 18 = .ok (.iload 4, 2) := by decide +kernel
theorem dX6_isUsed_20 : decode cX6_isUsed 20 = .ok (.aaload, 1) := by decide +kernel
theorem dX6_isUsed_21 : decode cX6_isUsed 21 = .ok (.astore 5, 2) := by decide +kernel
theorem dX6_isUsed_23 : decode cX6_isUsed 23 = .ok (.aload 5, 2) := by decide +kernel
theorem dX6_isUsed_25 : decode cX6_isUsed 25 = .ok (.getfield 80, 3) := by decide +kernel
theorem dX6_isUsed_28 : decode cX6_isUsed 28 = .ok (.iconst (-1), 1) := by decide +kernel
theorem dX6_isUsed_29 : decode cX6_isUsed 29 = .ok (.if_icmp .eq 14, 3) := by decide +kernel
theorem dX6_isUsed_32 : decode cX6_isUsed 32 = .ok (.aload 5, 2) := by decide +kernel
theorem dX6_isUsed_34 : decode cX6_isUsed 34 = .ok (.getfield 83, 3) := by decide +kernel
theorem dX6_isUsed_37 : decode cX6_isUsed 37 = .ok (.iload_n 1, 1) := by decide +kernel
theorem dX6_isUsed_38 : decode cX6_isUsed 38 = .ok (.if_icmp .ne 5, 3) := by decide +kernel
theorem dX6_isUsed_41 : decode cX6_isUsed 41 = .ok (.iconst 1, 1) := by decide +kernel
theorem dX6_isUsed_42 : decode cX6_isUsed 42 = .ok (.ireturn, 1) := by decide +kernel
theorem dX6_isUsed_43 : decode cX6_isUsed 43 = .ok (.iinc 4 1, 3) := by decide +kernel
theorem dX6_isUsed_46 : decode cX6_isUsed 46 = .ok (.goto (-35), 3) := by decide +kernel
theorem dX6_isUsed_49 : decode cX6_isUsed 49 = .ok (.iconst 0, 1) := by decide +kernel
theorem dX6_isUsed_50 : decode cX6_isUsed 50 = .ok (.ireturn, 1) := by decide +kernel
set_option maxRecDepth 20000 in
theorem ggX6_makeTask_X6_taskAt : GoodIn wsX6_makeTask wsX6_taskAt := goodIn_r _ [9, 10, 18, 19, 20, 21, 22, 23, 24, 25, 26, 27, 28, 29] (by decide +kernel) (by decide +kernel)
set_option maxRecDepth 20000 in
theorem gX6_makeTask_X6_taskAt : GoodIn wsX6_makeTask (wsV RX6 93 RX6 yX6_taskAt wsX6_taskAt) := goodIn_app (goodIn_of _ (by decide +kernel)) ggX6_makeTask_X6_taskAt
set_option maxRecDepth 20000 in
theorem ggX6_makeTask_X6_makeReady : GoodIn wsX6_makeTask wsX6_makeReady := goodIn_r _ [14, 15, 16, 17, 4, 30, 31, 32, 33, 34, 35, 36, 37, 38, 39, 40, 41, 42, 43, 44, 45, 46, 18, 19, 20, 21, 22, 23, 24, 25, 26, 27, 28, 29] (by decide +kernel) (by decide +kernel)
set_option maxRecDepth 20000 in
theorem gX6_makeTask_X6_makeReady : GoodIn wsX6_makeTask (wsV RX6 100 RX6 yX6_makeReady wsX6_makeReady) := goodIn_app (goodIn_of _ (by decide +kernel)) ggX6_makeTask_X6_makeReady
theorem dX6_makeTask_0 : decode cX6_makeTask 0 = .ok (.aload_n 0, 1) := by decide +kernel
theorem dX6_makeTask_1 : decode cX6_makeTask 1 = .ok (.aload_n 0, 1) := by decide +kernel
theorem dX6_makeTask_2 : decode cX6_makeTask 2 = .ok (.getfield 58, 3) := by decide +kernel
theorem dX6_makeTask_5 : decode cX6_makeTask 5 = .ok (.invokevirtual 93, 3) := by decide +kernel
theorem dX6_makeTask_8 : decode cX6_makeTask 8 = .ok (.astore_n 3, 1) := by decide +kernel
theorem dX6_makeTask_9 : decode cX6_makeTask 9 = .ok (.aload_n 3, 1) := by decide +kernel
theorem dX6_makeTask_10 : decode cX6_makeTask 10 = .ok (.ifnonnull 5, 3) := by decide +kernel
theorem dX6_makeTask_13 : decode cX6_makeTask 13 = .ok (.iconst (-1), 1) := by decide +kernel
theorem dX6_makeTask_14 : decode cX6_makeTask 14 = .ok (.ireturn, 1) := by decide +kernel
theorem dX6_makeTask_15 : decode cX6_makeTask 15 = .ok (.aload_n 3, 1) := by decide +kernel
theorem dX6_makeTask_16 : decode cX6_makeTask 16 = .ok (.iload_n 1, 1) := by decide +kernel

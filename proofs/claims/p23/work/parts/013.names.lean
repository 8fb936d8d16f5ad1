theorem dX4_free_30 : decode cX4_free 30 = .ok (.aload_n 3, 1) := by decide +kernel
theorem dX4_free_31 : decode cX4_free 31 = .ok (.invokevirtual 236, 3) := by decide +kernel
theorem dX4_free_34 : decode cX4_free 34 = .ok (.aload_n 0, 1) := by decide +kernel
theorem dX4_free_35 : decode cX4_free 35 = .ok (.aload_n 1, 1) := by decide +kernel
theorem dX4_free_36 : decode cX4_free 36 = .ok (.invokevirtual 79, 3) := by decide +kernel
theorem dX4_free_39 : decode cX4_free 39 = .ok (.ireturn, 1) := by decide +kernel
set_option maxRecDepth 20000 in
theorem ggX4_send_X6_channelAt : GoodIn wsX4_send wsX6_channelAt := goodIn_r _ [11, 12, 82, 83, 84, 85, 86, 87, 88, 89, 90, 91, 92, 93] (by decide +kernel) (by decide +kernel)
set_option maxRecDepth 20000 in
theorem gX4_send_X6_channelAt : GoodIn wsX4_send (wsV RX4 240 RX6 yX6_channelAt wsX6_channelAt) := goodIn_app (goodIn_of _ (by decide +kernel)) ggX4_send_X6_channelAt
set_option maxRecDepth 20000 in
theorem ggX4_send_X6_firstWaiting : GoodIn wsX4_send wsX6_firstWaiting := goodIn_r _ [16, 17, 18, 19, 20, 21, 22, 82, 83, 84, 85, 86, 87, 88, 89, 90, 91, 92, 93, 65, 66, 67, 68, 69, 70, 71, 72, 73, 74, 75, 76, 77, 78, 79, 80, 81] (by decide +kernel) (by decide +kernel)
set_option maxRecDepth 20000 in
theorem gX4_send_X6_firstWaiting : GoodIn wsX4_send (wsV RX4 249 RX6 yX6_firstWaiting wsX6_firstWaiting) := goodIn_app (goodIn_of _ (by decide +kernel)) ggX4_send_X6_firstWaiting
set_option maxRecDepth 20000 in
theorem ggX4_send_X6_giveValue : GoodIn wsX4_send wsX6_giveValue := goodIn_r _ [26, 27, 20, 28, 29, 30, 8, 9, 10, 11, 12, 31, 32, 33, 34, 18, 35, 36, 37, 65, 66, 67, 68, 69, 70, 71, 72, 73, 74, 75, 76, 77, 78, 79, 80, 81, 60, 61, 62, 63, 64, 82, 83, 84, 85, 86, 87, 88, 89, 90, 91, 92, 93] (by decide +kernel) (by decide +kernel)
set_option maxRecDepth 20000 in
theorem gX4_send_X6_giveValue : GoodIn wsX4_send (wsV RX4 253 RX6 yX6_giveValue wsX6_giveValue) := goodIn_app (goodIn_of _ (by decide +kernel)) ggX4_send_X6_giveValue
set_option maxRecDepth 20000 in
theorem ggX4_send_X4_next : GoodIn wsX4_send wsX4_next := goodIn_r _ [42, 43, 65, 66, 67, 68, 69, 70, 71, 72, 73, 74, 75, 76, 77, 78, 79, 80, 81] (by decide +kernel) (by decide +kernel)
set_option maxRecDepth 20000 in
theorem gX4_send_X4_next : GoodIn wsX4_send (wsV RX4 79 RX4 yX4_next wsX4_next) := goodIn_app (goodIn_of _ (by decide +kernel)) ggX4_send_X4_next
set_option maxRecDepth 20000 in
theorem ggX4_send_X1_addLast : GoodIn wsX4_send wsX1_addLast := goodIn_r _ [48, 49, 50, 60, 61, 62, 63, 64] (by decide +kernel) (by decide +kernel)
set_option maxRecDepth 20000 in
theorem gX4_send_X1_addLast : GoodIn wsX4_send (wsV RX4 262 RX1 yX1_addLast wsX1_addLast) := goodIn_app (goodIn_of _ (by decide +kernel)) ggX4_send_X1_addLast
set_option maxRecDepth 20000 in
theorem ggX4_send_X6_beginWait : GoodIn wsX4_send wsX6_beginWait := goodIn_r _ [54, 18, 19, 20, 21, 28, 55, 56, 22, 65, 66, 67, 68, 69, 70, 71, 72, 73, 74, 75, 76, 77, 78, 79, 80, 81, 82, 83, 84, 85, 86, 87, 88, 89, 90, 91, 92, 93] (by decide +kernel) (by decide +kernel)
set_option maxRecDepth 20000 in
theorem gX4_send_X6_beginWait : GoodIn wsX4_send (wsV RX4 215 RX6 yX6_beginWait wsX6_beginWait) := goodIn_app (goodIn_of _ (by decide +kernel)) ggX4_send_X6_beginWait
theorem dX4_send_0 : decode cX4_send 0 = .ok (.aload_n 0, 1) := by decide +kernel
theorem dX4_send_1 : decode cX4_send 1 = .ok (.getfield 15, 3) := by decide +kernel
theorem dX4_send_4 : decode cX4_send 4 = .ok (.iload_n 2, 1) := by decide +kernel
theorem dX4_send_5 : decode cX4_send 5 = .ok (.invokevirtual 240, 3) := by decide +kernel
theorem dX4_send_8 : decode cX4_send 8 = .ok (.astore_n 3, 1) := by decide +kernel
theorem dX4_send_9 : decode cX4_send 9 = .ok (.aload_n 3, 1) := by decide +kernel
theorem dX4_send_10 : decode cX4_send 10 = .ok (.ifnull 10, 3) := by decide +kernel
theorem dX4_send_13 : decode cX4_send 13 = .ok (.aload_n 3, 1) := by decide +kernel
theorem dX4_send_14 : decode cX4_send 14 = .ok (.getfield 244, 3) := by decide +kernel
theorem dX4_send_17 : decode cX4_send 17 = .ok (.ifCond .eq 5, 3) := by decide +kernel
theorem dX4_send_20 : decode cX4_send 20 = .ok (.iconst 5, 1) := by decide +kernel
theorem dX4_send_21 : decode cX4_send 21 = .ok (.ireturn, 1) := by decide +kernel
theorem dX4_send_22 : decode cX4_send 22 = .ok (.aload_n 0, 1) := by decide +kernel
theorem dX4_send_23 : decode cX4_send 23 = .ok (.getfield 15, 3) := by decide +kernel
theorem dX4_send_26 : decode cX4_send 26 = .ok (.iconst 4, 1) := by decide +kernel
theorem dX4_send_27 : decode cX4_send 27 = .ok (.iload_n 2, 1) := by decide +kernel
theorem dX4_send_28 : decode cX4_send 28 = .ok (.invokevirtual 249, 3) := by decide +kernel
theorem dX4_send_31 : decode cX4_send 31 = .ok (.astore 4, 2) := by decide +kernel
theorem dX4_send_33 : decode cX4_send 33 = .ok (.aload 4, 2) := by decide +kernel
theorem dX4_send_35 : decode cX4_send 35 = .ok (.ifnull 23, 3) := by decide +kernel
theorem dX4_send_38 : decode cX4_send 38 = .ok (.aload_n 0, 1) := by decide +kernel
theorem dX4_send_39 : decode cX4_send 39 = .ok (.getfield 15, 3) := by decide +kernel
theorem dX4_send_42 : decode cX4_send 42 = .ok (.aload 4, 2) := by decide +kernel
theorem dX4_send_44 : decode cX4_send 44 = .ok (.iload_n 2, 1) := by decide +kernel
theorem dX4_send_45 : decode cX4_send 45 = .ok (.aload_n 1, 1) := by decide +kernel
theorem dX4_send_46 : decode cX4_send 46 = .ok (.getfield 65, 3) := by decide +kernel
theorem dX4_send_49 : decode cX4_send 49 = .ok (.invokevirtual 253, 3) := by decide +kernel
theorem dX4_send_52 : decode cX4_send 52 = .ok (.aload_n 0, 1) := by decide +kernel
theorem dX4_send_53 : decode cX4_send 53 = .ok (.aload_n 1, 1) := by decide +kernel
theorem dX4_send_54 : decode cX4_send 54 = .ok (.invokevirtual 79, 3) := by decide +kernel
theorem dX4_send_57 : decode cX4_send 57 = .ok (.ireturn, 1) := by decide +kernel
theorem dX4_send_58 : decode cX4_send 58 = .ok (.aload_n 3, 1) := by decide +kernel
theorem dX4_send_59 : decode cX4_send 59 = .ok (.getfield 256, 3) := by decide +kernel
theorem dX4_send_62 : decode cX4_send 62 = .ok (.aload_n 3, 1) := by decide +kernel
theorem dX4_send_63 : decode cX4_send 63 = .ok (.getfield 259, 3) := by decide +kernel
theorem dX4_send_66 : decode cX4_send 66 = .ok (.if_icmp .ge 17, 3) := by decide +kernel
theorem dX4_send_69 : decode cX4_send 69 = .ok (.aload_n 3, 1) := by decide +kernel
theorem dX4_send_70 : decode cX4_send 70 = .ok (.aload_n 1, 1) := by decide +kernel
theorem dX4_send_71 : decode cX4_send 71 = .ok (.getfield 65, 3) := by decide +kernel
theorem dX4_send_74 : decode cX4_send 74 = .ok (.invokevirtual 262, 3) := by decide +kernel
theorem dX4_send_77 : decode cX4_send 77 = .ok (.aload_n 0, 1) := by decide +kernel
theorem dX4_send_78 : decode cX4_send 78 = .ok (.aload_n 1, 1) := by decide +kernel
theorem dX4_send_79 : decode cX4_send 79 = .ok (.invokevirtual 79, 3) := by decide +kernel
theorem dX4_send_82 : decode cX4_send 82 = .ok (.ireturn, 1) := by decide +kernel
theorem dX4_send_83 : decode cX4_send 83 = .ok (.aload_n 0, 1) := by decide +kernel
theorem dX4_send_84 : decode cX4_send 84 = .ok (.getfield 15, 3) := by decide +kernel
theorem dX4_send_87 : decode cX4_send 87 = .ok (.aload_n 1, 1) := by decide +kernel
theorem dX4_send_88 : decode cX4_send 88 = .ok (.iconst 3, 1) := by decide +kernel
theorem dX4_send_89 : decode cX4_send 89 = .ok (.iload_n 2, 1) := by decide +kernel
theorem dX4_send_90 : decode cX4_send 90 = .ok (.invokevirtual 215, 3) := by decide +kernel
theorem dX4_send_93 : decode cX4_send 93 = .ok (.aload_n 1, 1) := by decide +kernel
theorem dX4_send_94 : decode cX4_send 94 = .ok (.aload_n 1, 1) := by decide +kernel
theorem dX4_send_95 : decode cX4_send 95 = .ok (.getfield 65, 3) := by decide +kernel
theorem dX4_send_98 : decode cX4_send 98 = .ok (.putfield 62, 3) := by decide +kernel
theorem dX4_send_101 : decode cX4_send 101 = .ok (.bipush (-4), 2) := by decide +kernel
theorem dX4_send_103 : decode cX4_send 103 = .ok (.ireturn, 1) := by decide +kernel
set_option maxRecDepth 20000 in
theorem ggX4_take_X6_hasValue : GoodIn wsX4_take wsX6_hasValue := goodIn_r _ [8, 9, 10, 11, 12, 7, 13, 14, 15, 16, 17, 18, 19, 20, 21, 22, 23, 24, 87, 88, 89, 90, 91, 92, 93, 94, 95, 96, 97, 98, 99, 100, 101, 102, 103, 70, 71, 72, 73, 74, 75, 76, 77, 78, 79, 80, 81, 82, 83, 84, 85, 86] (by decide +kernel) (by decide +kernel)
set_option maxRecDepth 20000 in
theorem gX4_take_X6_hasValue : GoodIn wsX4_take (wsV RX4 266 RX6 yX6_hasValue wsX6_hasValue) := goodIn_app (goodIn_of _ (by decide +kernel)) ggX4_take_X6_hasValue
set_option maxRecDepth 20000 in
theorem ggX4_take_X6_takeValue : GoodIn wsX4_take wsX6_takeValue := goodIn_r _ [28, 9, 29, 30, 10, 11, 12, 7, 13, 14, 15, 16, 17, 18, 19, 20, 21, 22, 23, 24, 31, 32, 33, 34, 35, 36, 37, 38, 39, 40, 41, 42, 43, 44, 45, 46, 47, 48, 49, 50, 51, 52, 87, 88, 89, 90, 91, 70, 71, 72, 73, 74, 75, 76, 77, 78, 79, 80, 81, 82, 83, 84, 85, 86, 92, 93, 94, 95, 96, 97, 98, 99, 100, 101, 102, 103] (by decide +kernel) (by decide +kernel)
set_option maxRecDepth 20000 in
theorem gX4_take_X6_takeValue : GoodIn wsX4_take (wsV RX4 269 RX6 yX6_takeValue wsX6_takeValue) := goodIn_app (goodIn_of _ (by decide +kernel)) ggX4_take_X6_takeValue
set_option maxRecDepth 20000 in
theorem ggX4_take_X4_next : GoodIn wsX4_take wsX4_next := goodIn_r _ [57, 58, 70, 71, 72, 73, 74, 75, 76, 77, 78, 79, 80, 81, 82, 83, 84, 85, 86] (by decide +kernel) (by decide +kernel)
set_option maxRecDepth 20000 in
theorem gX4_take_X4_next : GoodIn wsX4_take (wsV RX4 79 RX4 yX4_next wsX4_next) := goodIn_app (goodIn_of _ (by decide +kernel)) ggX4_take_X4_next
set_option maxRecDepth 20000 in
theorem ggX4_take_X6_channelAt : GoodIn wsX4_take wsX6_channelAt := goodIn_r _ [13, 14, 92, 93, 94, 95, 96, 97, 98, 99, 100, 101, 102, 103] (by decide +kernel) (by decide +kernel)
set_option maxRecDepth 20000 in
theorem gX4_take_X6_channelAt : GoodIn wsX4_take (wsV RX4 240 RX6 yX6_channelAt wsX6_channelAt) := goodIn_app (goodIn_of _ (by decide +kernel)) ggX4_take_X6_channelAt
set_option maxRecDepth 20000 in
theorem ggX4_take_X6_beginWait : GoodIn wsX4_take wsX6_beginWait := goodIn_r _ [63, 20, 21, 22, 23, 64, 65, 66, 24, 70, 71, 72, 73, 74, 75, 76, 77, 78, 79, 80, 81, 82, 83, 84, 85, 86, 92, 93, 94, 95, 96, 97, 98, 99, 100, 101, 102, 103] (by decide +kernel) (by decide +kernel)
set_option maxRecDepth 20000 in
theorem gX4_take_X6_beginWait : GoodIn wsX4_take (wsV RX4 215 RX6 yX6_beginWait wsX6_beginWait) := goodIn_app (goodIn_of _ (by decide +kernel)) ggX4_take_X6_beginWait
theorem dX4_take_0 : decode cX4_take 0 = .ok (.aload_n 0, 1) := by decide +kernel
theorem dX4_take_1 : decode cX4_take 1 = .ok (.getfield 15, 3) := by decide +kernel
theorem dX4_take_4 : decode cX4_take 4 = .ok (.iload_n 2, 1) := by decide +kernel
theorem dX4_take_5 : decode cX4_take 5 = .ok (.invokevirtual 266, 3) := by decide +kernel
theorem dX4_take_8 : decode cX4_take 8 = .ok (.ifCond .eq 21, 3) := by decide +kernel
theorem dX4_take_11 : decode cX4_take 11 = .ok (.aload_n 1, 1) := by decide +kernel
theorem dX4_take_12 : decode cX4_take 12 = .ok (.aload_n 0, 1) := by decide +kernel
theorem dX4_take_13 : decode cX4_take 13 = .ok (.getfield 15, 3) := by decide +kernel
theorem dX4_take_16 : decode cX4_take 16 = .ok (.iload_n 2, 1) := by decide +kernel
theorem dX4_take_17 : decode cX4_take 17 = .ok (.invokevirtual 269, 3) := by decide +kernel
theorem dX4_take_20 : decode cX4_take 20 = .ok (.putfield 65, 3) := by decide +kernel
theorem dX4_take_23 : decode cX4_take 23 = .ok (.aload_n 0, 1) := by decide +kernel
theorem dX4_take_24 : decode cX4_take 24 = .ok (.aload_n 1, 1) := by decide +kernel
theorem dX4_take_25 : decode cX4_take 25 = .ok (.invokevirtual 79, 3) := by decide +kernel
theorem dX4_take_28 : decode cX4_take 28 = .ok (.ireturn, 1) := by decide +kernel
theorem dX4_take_29 : decode cX4_take 29 = .ok (.aload_n 0, 1) := by decide +kernel
theorem dX4_take_30 : decode cX4_take 30 = .ok (.getfield 15, 3) := by decide +kernel
theorem dX4_take_33 : decode cX4_take 33 = .ok (.iload_n 2, 1) := by decide +kernel
theorem dX4_take_34 : decode cX4_take 34 = .ok (.invokevirtual 240, 3) := by decide +kernel
theorem dX4_take_37 : decode cX4_take 37 = .ok (.astore_n 3, 1) := by decide +kernel
theorem dX4_take_38 : decode cX4_take 38 = .ok (.aload_n 3, 1) := by decide +kernel
theorem dX4_take_39 : decode cX4_take 39 = .ok (.ifnull 10, 3) := by decide +kernel
theorem dX4_take_42 : decode cX4_take 42 = .ok (.aload_n 3, 1) := by decide +kernel
theorem dX4_take_43 : decode cX4_take 43 = .ok (.getfield 244, 3) := by decide +kernel
theorem dX4_take_46 : decode cX4_take 46 = .ok (.ifCond .eq 6, 3) := by decide +kernel
theorem dX4_take_49 : decode cX4_take 49 = .ok (.bipush 6, 2) := by decide +kernel
theorem dX4_take_51 : decode cX4_take 51 = .ok (.ireturn, 1) := by decide +kernel
theorem dX4_take_52 : decode cX4_take 52 = .ok (.aload_n 0, 1) := by decide +kernel
theorem dX4_take_53 : decode cX4_take 53 = .ok (.getfield 15, 3) := by decide +kernel
theorem dX4_take_56 : decode cX4_take 56 = .ok (.aload_n 1, 1) := by decide +kernel
theorem dX4_take_57 : decode cX4_take 57 = .ok (.iconst 4, 1) := by decide +kernel
theorem dX4_take_58 : decode cX4_take 58 = .ok (.iload_n 2, 1) := by decide +kernel
theorem dX4_take_59 : decode cX4_take 59 = .ok (.invokevirtual 215, 3) := by decide +kernel
theorem dX4_take_62 : decode cX4_take 62 = .ok (.bipush (-4), 2) := by decide +kernel
theorem dX4_take_64 : decode cX4_take 64 = .ok (.ireturn, 1) := by decide +kernel
set_option maxRecDepth 20000 in
theorem ggX4_pick_X6_hasValue : GoodIn wsX4_pick wsX6_hasValue := goodIn_r _ [8, 9, 10, 11, 12, 7, 13, 14, 15, 16, 17, 18, 19, 20, 21, 22, 23, 24, 97, 98, 99, 100, 101, 102, 103, 104, 105, 106, 107, 108, 109, 110, 111, 112, 113, 80, 81, 82, 83, 84, 85, 86, 87, 88, 89, 90, 91, 92, 93, 94, 95, 96] (by decide +kernel) (by decide +kernel)
set_option maxRecDepth 20000 in
theorem gX4_pick_X6_hasValue : GoodIn wsX4_pick (wsV RX4 266 RX6 yX6_hasValue wsX6_hasValue) := goodIn_app (goodIn_of _ (by decide +kernel)) ggX4_pick_X6_hasValue
set_option maxRecDepth 20000 in
theorem ggX4_pick_X6_takeValue : GoodIn wsX4_pick wsX6_takeValue := goodIn_r _ [28, 9, 29, 30, 10, 11, 12, 7, 13, 14, 15, 16, 17, 18, 19, 20, 21, 22, 23, 24, 31, 32, 33, 34, 35, 36, 37, 38, 39, 40, 41, 42, 43, 44, 45, 46, 47, 48, 49, 50, 51, 52, 97, 98, 99, 100, 101, 80, 81, 82, 83, 84, 85, 86, 87, 88, 89, 90, 91, 92, 93, 94, 95, 96, 102, 103, 104, 105, 106, 107, 108, 109, 110, 111, 112, 113] (by decide +kernel) (by decide +kernel)
set_option maxRecDepth 20000 in
theorem gX4_pick_X6_takeValue : GoodIn wsX4_pick (wsV RX4 269 RX6 yX6_takeValue wsX6_takeValue) := goodIn_app (goodIn_of _ (by decide +kernel)) ggX4_pick_X6_takeValue
set_option maxRecDepth 20000 in
theorem ggX4_pick_X7_putLocal : GoodIn wsX4_pick wsX7_putLocal := goodIn_r _ [57, 58, 80, 81, 82, 83, 84, 85, 86, 87, 88, 89, 90, 91, 92, 93, 94, 95, 96] (by decide +kernel) (by decide +kernel)
set_option maxRecDepth 20000 in
theorem gX4_pick_X7_putLocal : GoodIn wsX4_pick (wsV RX4 75 RX7 yX7_putLocal wsX7_putLocal) := goodIn_app (goodIn_of _ (by decide +kernel)) ggX4_pick_X7_putLocal
set_option maxRecDepth 20000 in
theorem ggX4_pick_X4_next : GoodIn wsX4_pick wsX4_next := goodIn_r _ [63, 64, 80, 81, 82, 83, 84, 85, 86, 87, 88, 89, 90, 91, 92, 93, 94, 95, 96] (by decide +kernel) (by decide +kernel)
set_option maxRecDepth 20000 in
theorem gX4_pick_X4_next : GoodIn wsX4_pick (wsV RX4 79 RX4 yX4_next wsX4_next) := goodIn_app (goodIn_of _ (by decide +kernel)) ggX4_pick_X4_next
set_option maxRecDepth 20000 in
theorem ggX4_pick_X6_allEnded : GoodIn wsX4_pick wsX6_allEnded := goodIn_r _ [68, 14, 69, 102, 103, 104, 105, 106, 107, 108, 109, 110, 111, 112, 113, 97, 98, 99, 100, 101] (by decide +kernel) (by decide +kernel)
set_option maxRecDepth 20000 in
theorem gX4_pick_X6_allEnded : GoodIn wsX4_pick (wsV RX4 272 RX6 yX6_allEnded wsX6_allEnded) := goodIn_app (goodIn_of _ (by decide +kernel)) ggX4_pick_X6_allEnded
set_option maxRecDepth 20000 in
theorem ggX4_pick_X6_beginWait : GoodIn wsX4_pick wsX6_beginWait := goodIn_r _ [73, 20, 21, 22, 23, 74, 75, 76, 24, 80, 81, 82, 83, 84, 85, 86, 87, 88, 89, 90, 91, 92, 93, 94, 95, 96, 102, 103, 104, 105, 106, 107, 108, 109, 110, 111, 112, 113] (by decide +kernel) (by decide +kernel)
set_option maxRecDepth 20000 in
theorem gX4_pick_X6_beginWait : GoodIn wsX4_pick (wsV RX4 215 RX6 yX6_beginWait wsX6_beginWait) := goodIn_app (goodIn_of _ (by decide +kernel)) ggX4_pick_X6_beginWait
theorem dX4_pick_0 : decode cX4_pick 0 = .ok (.iconst 0, 1) := by decide +kernel
theorem dX4_pick_1 : decode cX4_pick 1 = .ok (.istore_n 2, 1) := by decide +kernel
theorem dX4_pick_2 : decode cX4_pick 2 = .ok (.iload_n 2, 1) := by decide +kernel
theorem dX4_pick_3 : decode cX4_pick 3 = .ok (.iconst 2, 1) := by decide +kernel
theorem dX4_pick_4 : decode cX4_pick 4 = .ok (.if_icmp .ge 44, 3) := by decide +kernel
theorem dX4_pick_7 : decode cX4_pick 7 = .ok (.aload_n 0, 1) := by decide +kernel
theorem dX4_pick_8 : decode cX4_pick 8 = .ok (.getfield 15, 3) := by decide +kernel
theorem dX4_pick_11 : decode cX4_pick 11 = .ok (.iload_n 2, 1) := by decide +kernel
theorem dX4_pick_12 : decode cX4_pick 12 = .ok (.invokevirtual 266, 3) := by decide +kernel
theorem dX4_pick_15 : decode cX4_pick 15 = .ok (.ifCond .eq 27, 3) := by decide +kernel
theorem dX4_pick_18 : decode cX4_pick 18 = .ok (.aload_n 1, 1) := by decide +kernel
theorem dX4_pick_19 : decode cX4_pick 19 = .ok (.aload_n 0, 1) := by decide +kernel
theorem dX4_pick_20 : decode cX4_pick 20 = .ok (.getfield 15, 3) := by decide +kernel
theorem dX4_pick_23 : decode cX4_pick 23 = .ok (.iload_n 2, 1) := by decide +kernel
theorem dX4_pick_24 : decode cX4_pick 24 = .ok (.invokevirtual 269, 3) := by decide +kernel
theorem dX4_pick_27 : decode cX4_pick 27 = .ok (.putfield 65, 3) := by decide +kernel
theorem dX4_pick_30 : decode cX4_pick 30 = .ok (.aload_n 1, 1) := by decide +kernel
theorem dX4_pick_31 : decode cX4_pick 31 = .ok (.iconst 3, 1) := by decide +kernel
theorem dX4_pick_32 : decode cX4_pick 32 = .ok (.iload_n 2, 1) := by decide +kernel
theorem dX4_pick_33 : decode cX4_pick 33 = .ok (.invokevirtual 75, 3) := by decide +kernel
theorem dX4_pick_36 : decode cX4_pick 36 = .ok (.aload_n 0, 1) := by decide +kernel
theorem dX4_pick_37 : decode cX4_pick 37 = .ok (.aload_n 1, 1) := by decide +kernel
theorem dX4_pick_38 : decode cX4_pick 38 = .ok (.invokevirtual 79, 3) := by decide +kernel
theorem dX4_pick_41 : decode cX4_pick 41 = .ok (.ireturn, 1) := by decide +kernel
theorem dX4_pick_42 : decode cX4_pick 42 = .ok (.iinc 2 1, 3) := by decide +kernel
theorem dX4_pick_45 : decode cX4_pick 45 = .ok (.goto (-43), 3) := by decide +kernel
theorem dX4_pick_48 : decode cX4_pick 48 = .ok (.aload_n 0, 1) := by decide +kernel
theorem dX4_pick_49 : decode cX4_pick 49 = .ok (.getfield 15, 3) := by decide +kernel
theorem dX4_pick_52 : decode cX4_pick 52 = .ok (.invokevirtual 272, 3) := by decide +kernel
theorem dX4_pick_55 : decode cX4_pick 55 = .ok (.ifCond .eq 6, 3) := by decide +kernel
theorem dX4_pick_58 : decode cX4_pick 58 = .ok (.bipush 6, 2) := by decide +kernel
theorem dX4_pick_60 : decode cX4_pick 60 = .ok (.ireturn, 1) := by decide +kernel
theorem dX4_pick_61 : decode cX4_pick 61 = .ok (.aload_n 0, 1) := by decide +kernel
theorem dX4_pick_62 : decode cX4_pick 62 = .ok (.getfield 15, 3) := by decide +kernel
theorem dX4_pick_65 : decode cX4_pick 65 = .ok (.aload_n 1, 1) := by decide +kernel
theorem dX4_pick_66 : decode cX4_pick 66 = .ok (.iconst 4, 1) := by decide +kernel
theorem dX4_pick_67 : decode cX4_pick 67 = .ok (.iconst (-1), 1) := by decide +kernel
theorem dX4_pick_68 : decode cX4_pick 68 = .ok (.invokevirtual 215, 3) := by decide +kernel
theorem dX4_pick_71 : decode cX4_pick 71 = .ok (.aload_n 1, 1) := by decide +kernel
theorem dX4_pick_72 : decode cX4_pick 72 = .ok (.iconst 1, 1) := by decide +kernel
theorem dX4_pick_73 : decode cX4_pick 73 = .ok (.putfield 68, 3) := by decide +kernel
theorem dX4_pick_76 : decode cX4_pick 76 = .ok (.bipush (-4), 2) := by decide +kernel
theorem dX4_pick_78 : decode cX4_pick 78 = .ok (.ireturn, 1) := by decide +kernel
set_option maxRecDepth 20000 in
theorem ggX4_end_X6_channelAt : GoodIn wsX4_end wsX6_channelAt := goodIn_r _ [7, 8, 51, 52, 53, 54, 55, 56, 57, 58, 59, 60, 61, 62] (by decide +kernel) (by decide +kernel)
set_option maxRecDepth 20000 in
theorem gX4_end_X6_channelAt : GoodIn wsX4_end (wsV RX4 240 RX6 yX6_channelAt wsX6_channelAt) := goodIn_app (goodIn_of _ (by decide +kernel)) ggX4_end_X6_channelAt
set_option maxRecDepth 20000 in
theorem ggX4_end_X6_putEnd : GoodIn wsX4_end wsX6_putEnd := goodIn_r _ [12, 13, 14, 15, 16, 4, 5, 6, 7, 8, 17, 18, 19, 20, 21, 22, 23, 24, 25, 26, 27, 28, 29, 30, 31, 32, 33, 34, 35, 36, 46, 47, 48, 49, 50, 63, 64, 65, 66, 67, 68, 69, 70, 71, 72, 73, 74, 75, 76, 77, 78, 79, 51, 52, 53, 54, 55, 56, 57, 58, 59, 60, 61, 62] (by decide +kernel) (by decide +kernel)
set_option maxRecDepth 20000 in
theorem gX4_end_X6_putEnd : GoodIn wsX4_end (wsV RX4 276 RX6 yX6_putEnd wsX6_putEnd) := goodIn_app (goodIn_of _ (by decide +kernel)) ggX4_end_X6_putEnd
set_option maxRecDepth 20000 in
theorem ggX4_end_X4_next : GoodIn wsX4_end wsX4_next := goodIn_r _ [41, 42, 63, 64, 65, 66, 67, 68, 69, 70, 71, 72, 73, 74, 75, 76, 77, 78, 79] (by decide +kernel) (by decide +kernel)
set_option maxRecDepth 20000 in
theorem gX4_end_X4_next : GoodIn wsX4_end (wsV RX4 79 RX4 yX4_next wsX4_next) := goodIn_app (goodIn_of _ (by decide +kernel)) ggX4_end_X4_next
theorem dX4_end_0 : decode cX4_end 0 = .ok (.aload_n 0, 1) := by decide +kernel
theorem dX4_end_1 : decode cX4_end 1 = .ok (.getfield 15, 3) := by decide +kernel
theorem dX4_end_4 : decode cX4_end 4 = .ok (.iload_n 2, 1) := by decide +kernel
theorem dX4_end_5 : decode cX4_end 5 = .ok (.invokevirtual 240, 3) := by decide +kernel
theorem dX4_end_8 : decode cX4_end 8 = .ok (.astore_n 3, 1) := by decide +kernel
theorem dX4_end_9 : decode cX4_end 9 = .ok (.aload_n 3, 1) := by decide +kernel
theorem dX4_end_10 : decode cX4_end 10 = .ok (.ifnull 10, 3) := by decide +kernel
theorem dX4_end_13 : decode cX4_end 13 = .ok (.aload_n 3, 1) := by decide +kernel
theorem dX4_end_14 : decode cX4_end 14 = .ok (.getfield 244, 3) := by decide +kernel
theorem dX4_end_17 : decode cX4_end 17 = .ok (.ifCond .eq 5, 3) := by decide +kernel
theorem dX4_end_20 : decode cX4_end 20 = .ok (.iconst 5, 1) := by decide +kernel
theorem dX4_end_21 : decode cX4_end 21 = .ok (.ireturn, 1) := by decide +kernel
theorem dX4_end_22 : decode cX4_end 22 = .ok (.aload_n 0, 1) := by decide +kernel
theorem dX4_end_23 : decode cX4_end 23 = .ok (.getfield 15, 3) := by decide +kernel
theorem dX4_end_26 : decode cX4_end 26 = .ok (.iload_n 2, 1) := by decide +kernel
theorem dX4_end_27 : decode cX4_end 27 = .ok (.invokevirtual 276, 3) := by decide +kernel
theorem dX4_end_30 : decode cX4_end 30 = .ok (.aload_n 0, 1) := by decide +kernel
theorem dX4_end_31 : decode cX4_end 31 = .ok (.aload_n 1, 1) := by decide +kernel
theorem dX4_end_32 : decode cX4_end 32 = .ok (.invokevirtual 79, 3) := by decide +kernel
theorem dX4_end_35 : decode cX4_end 35 = .ok (.ireturn, 1) := by decide +kernel
set_option maxRecDepth 20000 in
theorem ggX4_leave_X6_scopeAt : GoodIn wsX4_leave wsX6_scopeAt := goodIn_r _ [12, 13, 145, 146, 147, 148, 149, 150, 151, 152, 153, 154, 155, 156] (by decide +kernel) (by decide +kernel)
set_option maxRecDepth 20000 in
theorem gX4_leave_X6_scopeAt : GoodIn wsX4_leave (wsV RX4 186 RX6 yX6_scopeAt wsX6_scopeAt) := goodIn_app (goodIn_of _ (by decide +kernel)) ggX4_leave_X6_scopeAt
set_option maxRecDepth 20000 in
theorem ggX4_leave_X4_endTask : GoodIn wsX4_leave wsX4_endTask := goodIn_r _ [18, 19, 20, 1, 21, 22, 23, 24, 25, 26, 27, 11, 28, 29, 30, 31, 32, 33, 34, 35, 36, 37, 38, 39, 40, 41, 42, 43, 44, 45, 46, 47, 48, 49, 50, 51, 52, 53, 54, 55, 56, 8, 9, 10, 12, 13, 57, 58, 59, 17, 60, 5, 61, 62, 3, 6, 63, 64, 65, 66, 67, 68, 69, 70, 71, 72, 73, 74, 75, 76, 77, 78, 79, 80, 81, 82, 83, 84, 85, 86, 87, 88, 89, 90, 91, 92, 93, 94, 95, 114, 115, 116, 117, 118, 119, 120, 121, 122, 123, 124, 125, 126, 127, 128, 129, 130, 111, 112, 113, 145, 146, 147, 148, 149, 150, 151, 152, 153, 154, 155, 156, 157, 158, 159, 131, 132, 133, 134, 135, 136, 137, 138, 139, 140, 141, 142, 143, 144] (by decide +kernel) (by decide +kernel)
set_option maxRecDepth 20000 in
theorem gX4_leave_X4_endTask : GoodIn wsX4_leave (wsV RX4 279 RX4 yX4_endTask wsX4_endTask) := goodIn_app (goodIn_of _ (by decide +kernel)) ggX4_leave_X4_endTask
set_option maxRecDepth 20000 in
theorem ggX4_leave_X6_cancelScope : GoodIn wsX4_leave wsX6_cancelScope := goodIn_r _ [67, 68, 36, 37, 38, 69, 70, 71, 72, 73, 74, 75, 76, 77, 11, 78, 79, 80, 13, 81, 82, 83, 50, 51, 52, 53, 54, 55, 56, 131, 132, 133, 134, 135, 136, 137, 138, 139, 140, 141, 142, 143, 144, 145, 146, 147, 148, 149, 150, 151, 152, 153, 154, 155, 156, 114, 115, 116, 117, 118, 119, 120, 121, 122, 123, 124, 125, 126, 127, 128, 129, 130] (by decide +kernel) (by decide +kernel)
set_option maxRecDepth 20000 in
theorem gX4_leave_X6_cancelScope : GoodIn wsX4_leave (wsV RX4 211 RX6 yX6_cancelScope wsX6_cancelScope) := goodIn_app (goodIn_of _ (by decide +kernel)) ggX4_leave_X6_cancelScope
set_option maxRecDepth 20000 in
theorem ggX4_leave_X6_beginWait : GoodIn wsX4_leave wsX6_beginWait := goodIn_r _ [99, 37, 38, 39, 40, 31, 100, 101, 41, 114, 115, 116, 117, 118, 119, 120, 121, 122, 123, 124, 125, 126, 127, 128, 129, 130, 145, 146, 147, 148, 149, 150, 151, 152, 153, 154, 155, 156] (by decide +kernel) (by decide +kernel)
set_option maxRecDepth 20000 in
theorem gX4_leave_X6_beginWait : GoodIn wsX4_leave (wsV RX4 215 RX6 yX6_beginWait wsX6_beginWait) := goodIn_app (goodIn_of _ (by decide +kernel)) ggX4_leave_X6_beginWait
set_option maxRecDepth 20000 in
theorem ggX4_leave_X4_takeOffScope : GoodIn wsX4_leave wsX4_takeOffScope := goodIn_r _ [105, 1, 2, 106, 107, 4, 62, 20, 108, 109, 110, 8, 9, 10, 11, 12, 13, 84, 85, 86, 87, 36, 111, 112, 113, 114, 115, 116, 117, 118, 119, 120, 121, 122, 123, 124, 125, 126, 127, 128, 129, 130, 131, 132, 133, 134, 135, 136, 137, 138, 139, 140, 141, 142, 143, 144, 145, 146, 147, 148, 149, 150, 151, 152, 153, 154, 155, 156] (by decide +kernel) (by decide +kernel)
set_option maxRecDepth 20000 in
theorem gX4_leave_X4_takeOffScope : GoodIn wsX4_leave (wsV RX4 48 RX4 yX4_takeOffScope wsX4_takeOffScope) := goodIn_app (goodIn_of _ (by decide +kernel)) ggX4_leave_X4_takeOffScope
theorem dX4_leave_0 : decode cX4_leave 0 = .ok (.aload_n 0, 1) := by decide +kernel
theorem dX4_leave_1 : decode cX4_leave 1 = .ok (.getfield 15, 3) := by decide +kernel
theorem dX4_leave_4 : decode cX4_leave 4 = .ok (.aload_n 1, 1) := by decide +kernel
theorem dX4_leave_5 : decode cX4_leave 5 = .ok (.getfield 142, 3) := by decide +kernel
theorem dX4_leave_8 : decode cX4_leave 8 = .ok (.invokevirtual 186, 3) := by decide +kernel
theorem dX4_leave_11 : decode cX4_leave 11 = .ok (.astore_n 3, 1) := by decide +kernel
theorem dX4_leave_12 : decode cX4_leave 12 = .ok (.aload_n 3, 1) := by decide +kernel
theorem dX4_leave_13 : decode cX4_leave 13 = .ok (.ifnonnull 12, 3) := by decide +kernel
theorem dX4_leave_16 : decode cX4_leave 16 = .ok (.aload_n 0, 1) := by decide +kernel
theorem dX4_leave_17 : decode cX4_leave 17 = .ok (.aload_n 1, 1) := by decide +kernel
theorem dX4_leave_18 : decode cX4_leave 18 = .ok (.iload_n 2, 1) := by decide +kernel
theorem dX4_leave_19 : decode cX4_leave 19 = .ok (.invokevirtual 279, 3) := by decide +kernel
theorem dX4_leave_22 : decode cX4_leave 22 = .ok (.bipush (-4), 2) := by decide +kernel
theorem dX4_leave_24 : decode cX4_leave 24 = .ok (.ireturn, 1) := by decide +kernel
theorem dX4_leave_25 : decode cX4_leave 25 = .ok (.iload_n 2, 1) := by decide +kernel
theorem dX4_leave_26 : decode cX4_leave 26 = .ok (.ifCond .le 12, 3) := by decide +kernel
theorem dX4_leave_29 : decode cX4_leave 29 = .ok (.aload_n 0, 1) := by decide +kernel
theorem dX4_leave_30 : decode cX4_leave 30 = .ok (.getfield 15, 3) := by decide +kernel
theorem dX4_leave_33 : decode cX4_leave 33 = .ok (.aload_n 3, 1) := by decide +kernel
theorem dX4_leave_34 : decode cX4_leave 34 = .ok (.invokevirtual 211, 3) := by decide +kernel
theorem dX4_leave_37 : decode cX4_leave 37 = .ok (.pop, 1) := by decide +kernel
theorem dX4_leave_38 : decode cX4_leave 38 = .ok (.aload_n 3, 1) := by decide +kernel
theorem dX4_leave_39 : decode cX4_leave 39 = .ok (.iconst 1, 1) := by decide +kernel
theorem dX4_leave_40 : decode cX4_leave 40 = .ok (.putfield 282, 3) := by decide +kernel
theorem dX4_leave_43 : decode cX4_leave 43 = .ok (.aload_n 3, 1) := by decide +kernel
theorem dX4_leave_44 : decode cX4_leave 44 = .ok (.iload_n 2, 1) := by decide +kernel
theorem dX4_leave_45 : decode cX4_leave 45 = .ok (.putfield 284, 3) := by decide +kernel
theorem dX4_leave_48 : decode cX4_leave 48 = .ok (.aload_n 3, 1) := by decide +kernel
theorem dX4_leave_49 : decode cX4_leave 49 = .ok (.getfield 287, 3) := by decide +kernel
theorem dX4_leave_52 : decode cX4_leave 52 = .ok (.aload_n 3, 1) := by decide +kernel
theorem dX4_leave_53 : decode cX4_leave 53 = .ok (.getfield 208, 3) := by decide +kernel
theorem dX4_leave_56 : decode cX4_leave 56 = .ok (.if_icmp .ge 19, 3) := by decide +kernel
theorem dX4_leave_59 : decode cX4_leave 59 = .ok (.aload_n 0, 1) := by decide +kernel
theorem dX4_leave_60 : decode cX4_leave 60 = .ok (.getfield 15, 3) := by decide +kernel
theorem dX4_leave_63 : decode cX4_leave 63 = .ok (.aload_n 1, 1) := by decide +kernel
theorem dX4_leave_64 : decode cX4_leave 64 = .ok (.iconst 5, 1) := by decide +kernel
theorem dX4_leave_65 : decode cX4_leave 65 = .ok (.aload_n 3, 1) := by decide +kernel
theorem dX4_leave_66 : decode cX4_leave 66 = .ok (.getfield 196, 3) := by decide +kernel
theorem dX4_leave_69 : decode cX4_leave 69 = .ok (.invokevirtual 215, 3) := by decide +kernel
theorem dX4_leave_72 : decode cX4_leave 72 = .ok (.bipush (-4), 2) := by decide +kernel
theorem dX4_leave_74 : decode cX4_leave 74 = .ok (.ireturn, 1) := by decide +kernel
theorem dX4_leave_75 : decode cX4_leave 75 = .ok (.aload_n 3, 1) := by decide +kernel
theorem dX4_leave_76 : decode cX4_leave 76 = .ok (.iconst 2, 1) := by decide +kernel
theorem dX4_leave_77 : decode cX4_leave 77 = .ok (.putfield 282, 3) := by decide +kernel
theorem dX4_leave_80 : decode cX4_leave 80 = .ok (.aload_n 0, 1) := by decide +kernel
theorem dX4_leave_81 : decode cX4_leave 81 = .ok (.aload_n 1, 1) := by decide +kernel
theorem dX4_leave_82 : decode cX4_leave 82 = .ok (.invokevirtual 48, 3) := by decide +kernel
theorem dX4_leave_85 : decode cX4_leave 85 = .ok (.ireturn, 1) := by decide +kernel
set_option maxRecDepth 20000 in
theorem ggX4_takeOffScope_X6_scopeAt : GoodIn wsX4_takeOffScope wsX6_scopeAt := goodIn_r _ [15, 16, 56, 57, 58, 59, 60, 61, 62, 63, 64, 65, 66, 67] (by decide +kernel) (by decide +kernel)
set_option maxRecDepth 20000 in
theorem gX4_takeOffScope_X6_scopeAt : GoodIn wsX4_takeOffScope (wsV RX4 186 RX6 yX6_scopeAt wsX6_scopeAt) := goodIn_app (goodIn_of _ (by decide +kernel)) ggX4_takeOffScope_X6_scopeAt
set_option maxRecDepth 20000 in
theorem ggX4_takeOffScope_X6_taskAt : GoodIn wsX4_takeOffScope wsX6_taskAt := goodIn_r _ [20, 21, 56, 57, 58, 59, 60, 61, 62, 63, 64, 65, 66, 67] (by decide +kernel) (by decide +kernel)
set_option maxRecDepth 20000 in
theorem gX4_takeOffScope_X6_taskAt : GoodIn wsX4_takeOffScope (wsV RX4 296 RX6 yX6_taskAt wsX6_taskAt) := goodIn_app (goodIn_of _ (by decide +kernel)) ggX4_takeOffScope_X6_taskAt
theorem dX4_takeOffScope_0 : decode cX4_takeOffScope 0 = .ok (.aload_n 0, 1) := by decide +kernel
theorem dX4_takeOffScope_1 : decode cX4_takeOffScope 1 = .ok (.getfield 15, 3) := by decide +kernel
theorem dX4_takeOffScope_4 : decode cX4_takeOffScope 4 = .ok (.aload_n 1, 1) := by decide +kernel
theorem dX4_takeOffScope_5 : decode cX4_takeOffScope 5 = .ok (.getfield 142, 3) := by decide +kernel
theorem dX4_takeOffScope_8 : decode cX4_takeOffScope 8 = .ok (.invokevirtual 186, 3) := by decide +kernel
theorem dX4_takeOffScope_11 : decode cX4_takeOffScope 11 = .ok (.astore_n 2, 1) := by decide +kernel
theorem dX4_takeOffScope_12 : decode cX4_takeOffScope 12 = .ok (.aload_n 2, 1) := by decide +kernel
theorem dX4_takeOffScope_13 : decode cX4_takeOffScope 13 = .ok (.ifnonnull 6, 3) := by decide +kernel
theorem dX4_takeOffScope_16 : decode cX4_takeOffScope 16 = .ok (.bipush (-2), 2) := by decide +kernel
theorem dX4_takeOffScope_18 : decode cX4_takeOffScope 18 = .ok (.ireturn, 1) := by decide +kernel
theorem dX4_takeOffScope_19 : decode cX4_takeOffScope 19 = .ok (.aload_n 1, 1) := by decide +kernel
theorem dX4_takeOffScope_20 : decode cX4_takeOffScope 20 = .ok (.aload_n 2, 1) := by decide +kernel
theorem dX4_takeOffScope_21 : decode cX4_takeOffScope 21 = .ok (.getfield 290, 3) := by decide +kernel
theorem dX4_takeOffScope_24 : decode cX4_takeOffScope 24 = .ok (.putfield 142, 3) := by decide +kernel
theorem dX4_takeOffScope_27 : decode cX4_takeOffScope 27 = .ok (.aload_n 1, 1) := by decide +kernel
theorem dX4_takeOffScope_28 : decode cX4_takeOffScope 28 = .ok (.dup, 1) := by decide +kernel
theorem dX4_takeOffScope_29 : decode cX4_takeOffScope 29 = .ok (.getfield 199, 3) := by decide +kernel
theorem dX4_takeOffScope_32 : decode cX4_takeOffScope 32 = .ok (.iconst 1, 1) := by decide +kernel
theorem dX4_takeOffScope_33 : decode cX4_takeOffScope 33 = .ok (.isub, 1) := by decide +kernel
theorem dX4_takeOffScope_34 : decode cX4_takeOffScope 34 = .ok (.putfield 199, 3) := by decide +kernel
theorem dX4_takeOffScope_37 : decode cX4_takeOffScope 37 = .ok (.aload_n 2, 1) := by decide +kernel
theorem dX4_takeOffScope_38 : decode cX4_takeOffScope 38 = .ok (.getfield 284, 3) := by decide +kernel
theorem dX4_takeOffScope_41 : decode cX4_takeOffScope 41 = .ok (.istore_n 3, 1) := by decide +kernel
theorem dX4_takeOffScope_42 : decode cX4_takeOffScope 42 = .ok (.aload_n 0, 1) := by decide +kernel
theorem dX4_takeOffScope_43 : decode cX4_takeOffScope 43 = .ok (.getfield 15, 3) := by decide +kernel
theorem dX4_takeOffScope_46 : decode cX4_takeOffScope 46 = .ok (.aload_n 2, 1) := by decide +kernel
theorem dX4_takeOffScope_47 : decode cX4_takeOffScope 47 = .ok (.getfield 293, 3) := by decide +kernel
theorem dX4_takeOffScope_50 : decode cX4_takeOffScope 50 = .ok (.invokevirtual 296, 3) := by decide +kernel
theorem dX4_takeOffScope_53 : decode cX4_takeOffScope 53 = .ok (.astore 4, 2) := by decide +kernel
theorem dX4_takeOffScope_55 : decode cX4_takeOffScope 55 = .ok (.iload_n 3, 1) := by decide +kernel
theorem dX4_takeOffScope_56 : decode cX4_takeOffScope 56 = .ok (.ifCond .gt 14, 3) := by decide +kernel
theorem dX4_takeOffScope_59 : decode cX4_takeOffScope 59 = .ok (.aload 4, 2) := by decide +kernel
theorem dX4_takeOffScope_61 : decode cX4_takeOffScope 61 = .ok (.ifnull 9, 3) := by decide +kernel
theorem dX4_takeOffScope_64 : decode cX4_takeOffScope 64 = .ok (.aload 4, 2) := by decide +kernel
theorem dX4_takeOffScope_66 : decode cX4_takeOffScope 66 = .ok (.getfield 65, 3) := by decide +kernel
theorem dX4_takeOffScope_69 : decode cX4_takeOffScope 69 = .ok (.ireturn, 1) := by decide +kernel
theorem dX4_takeOffScope_70 : decode cX4_takeOffScope 70 = .ok (.iload_n 3, 1) := by decide +kernel
theorem dX4_takeOffScope_71 : decode cX4_takeOffScope 71 = .ok (.iconst (-1), 1) := by decide +kernel
theorem dX4_takeOffScope_72 : decode cX4_takeOffScope 72 = .ok (.if_icmp .eq 16, 3) := by decide +kernel
theorem dX4_takeOffScope_75 : decode cX4_takeOffScope 75 = .ok (.iload_n 3, 1) := by decide +kernel
theorem dX4_takeOffScope_76 : decode cX4_takeOffScope 76 = .ok (.bipush (-3), 2) := by decide +kernel
theorem dX4_takeOffScope_78 : decode cX4_takeOffScope 78 = .ok (.if_icmp .ne 36, 3) := by decide +kernel
theorem dX4_takeOffScope_81 : decode cX4_takeOffScope 81 = .ok (.aload_n 2, 1) := by decide +kernel
theorem dX4_takeOffScope_82 : decode cX4_takeOffScope 82 = .ok (.getfield 300, 3) := by decide +kernel
theorem dX4_takeOffScope_85 : decode cX4_takeOffScope 85 = .ok (.ifCond .eq 29, 3) := by decide +kernel
theorem dX4_takeOffScope_88 : decode cX4_takeOffScope 88 = .ok (.aload_n 1, 1) := by decide +kernel
theorem dX4_takeOffScope_89 : decode cX4_takeOffScope 89 = .ok (.aload_n 2, 1) := by decide +kernel
theorem dX4_takeOffScope_90 : decode cX4_takeOffScope 90 = .ok (.getfield 300, 3) := by decide +kernel
theorem dX4_takeOffScope_93 : decode cX4_takeOffScope 93 = .ok (.ifCond .eq 7, 3) := by decide +kernel
theorem dX4_takeOffScope_96 : decode cX4_takeOffScope 96 = .ok (.iconst 1, 1) := by decide +kernel
theorem dX4_takeOffScope_97 : decode cX4_takeOffScope 97 = .ok (.goto 4, 3) := by decide +kernel
theorem dX4_takeOffScope_100 : decode cX4_takeOffScope 100 = .ok (.iconst 0, 1) := by decide +kernel
theorem dX4_takeOffScope_101 : decode cX4_takeOffScope 101 = .ok (.putfield 65, 3) := by decide +kernel
theorem dX4_takeOffScope_104 : decode cX4_takeOffScope 104 = .ok (.aload_n 1, 1) := by decide +kernel
theorem dX4_takeOffScope_105 : decode cX4_takeOffScope 105 = .ok (.aload_n 2, 1) := by decide +kernel
theorem dX4_takeOffScope_106 : decode cX4_takeOffScope 106 = .ok (.getfield 303, 3) := by decide +kernel
theorem dX4_takeOffScope_109 : decode cX4_takeOffScope 109 = .ok (.putfield 82, 3) := by decide +kernel
theorem dX4_takeOffScope_112 : decode cX4_takeOffScope 112 = .ok (.iconst 0, 1) := by decide +kernel
theorem dX4_takeOffScope_113 : decode cX4_takeOffScope 113 = .ok (.ireturn, 1) := by decide +kernel
theorem dX4_takeOffScope_114 : decode cX4_takeOffScope 114 = .ok (.iload_n 3, 1) := by decide +kernel
theorem dX4_takeOffScope_115 : decode cX4_takeOffScope 115 = .ok (.ireturn, 1) := by decide +kernel
set_option maxRecDepth 20000 in
theorem ggX4_endTask_X6_freeLock : GoodIn wsX4_endTask wsX6_freeLock := goodIn_r _ [12, 13, 14, 15, 16, 17, 18, 11, 19, 20, 21, 22, 23, 24, 25, 26, 27, 28, 29, 30, 31, 32, 33, 34, 35, 36, 37, 38, 39, 40, 121, 122, 123, 89, 90, 91, 92, 93, 94, 95, 96, 97, 98, 99, 100, 101, 102, 103, 104, 105, 109, 110, 111, 112, 113, 114, 115, 116, 117, 118, 119, 120] (by decide +kernel) (by decide +kernel)
set_option maxRecDepth 20000 in
theorem gX4_endTask_X6_freeLock : GoodIn wsX4_endTask (wsV RX4 236 RX6 yX6_freeLock wsX6_freeLock) := goodIn_app (goodIn_of _ (by decide +kernel)) ggX4_endTask_X6_freeLock
set_option maxRecDepth 20000 in
theorem ggX4_endTask_X6_scopeAt : GoodIn wsX4_endTask wsX6_scopeAt := goodIn_r _ [44, 45, 109, 110, 111, 112, 113, 114, 115, 116, 117, 118, 119, 120] (by decide +kernel) (by decide +kernel)
set_option maxRecDepth 20000 in
theorem gX4_endTask_X6_scopeAt : GoodIn wsX4_endTask (wsV RX4 186 RX6 yX6_scopeAt wsX6_scopeAt) := goodIn_app (goodIn_of _ (by decide +kernel)) ggX4_endTask_X6_scopeAt
set_option maxRecDepth 20000 in
theorem ggX4_endTask_X4_tellOver : GoodIn wsX4_endTask wsX4_tellOver := goodIn_r _ [50, 51, 1, 52, 53, 6, 3, 54, 55, 56, 57, 58, 59, 11, 60, 61, 20, 21, 22, 62, 63, 64, 65, 66, 67, 68, 69, 70, 71, 72, 73, 45, 74, 75, 76, 34, 35, 36, 37, 38, 39, 40, 77, 78, 79, 80, 81, 82, 83, 84, 85, 86, 87, 88, 124, 125, 126, 127, 128, 129, 130, 131, 132, 133, 134, 135, 136, 137, 89, 90, 91, 92, 93, 94, 95, 96, 97, 98, 99, 100, 101, 102, 103, 104, 105, 106, 107, 108, 109, 110, 111, 112, 113, 114, 115, 116, 117, 118, 119, 120] (by decide +kernel) (by decide +kernel)
set_option maxRecDepth 20000 in
theorem gX4_endTask_X4_tellOver : GoodIn wsX4_endTask (wsV RX4 314 RX4 yX4_tellOver wsX4_tellOver) := goodIn_app (goodIn_of _ (by decide +kernel)) ggX4_endTask_X4_tellOver
theorem dX4_endTask_0 : decode cX4_endTask 0 = .ok (.aload_n 1, 1) := by decide +kernel
theorem dX4_endTask_1 : decode cX4_endTask 1 = .ok (.iload_n 2, 1) := by decide +kernel
theorem dX4_endTask_2 : decode cX4_endTask 2 = .ok (.ifCond .le 7, 3) := by decide +kernel
theorem dX4_endTask_5 : decode cX4_endTask 5 = .ok (.iconst 3, 1) := by decide +kernel
theorem dX4_endTask_6 : decode cX4_endTask 6 = .ok (.goto 14, 3) := by decide +kernel
theorem dX4_endTask_9 : decode cX4_endTask 9 = .ok (.iload_n 2, 1) := by decide +kernel
theorem dX4_endTask_10 : decode cX4_endTask 10 = .ok (.bipush (-3), 2) := by decide +kernel
theorem dX4_endTask_12 : decode cX4_endTask 12 = .ok (.if_icmp .ne 7, 3) := by decide +kernel
theorem dX4_endTask_15 : decode cX4_endTask 15 = .ok (.iconst 4, 1) := by decide +kernel
theorem dX4_endTask_16 : decode cX4_endTask 16 = .ok (.goto 4, 3) := by decide +kernel
theorem dX4_endTask_19 : decode cX4_endTask 19 = .ok (.iconst 2, 1) := by decide +kernel
theorem dX4_endTask_20 : decode cX4_endTask 20 = .ok (.putfield 306, 3) := by decide +kernel
theorem dX4_endTask_23 : decode cX4_endTask 23 = .ok (.iload_n 2, 1) := by decide +kernel
theorem dX4_endTask_24 : decode cX4_endTask 24 = .ok (.ifCond .le 8, 3) := by decide +kernel
theorem dX4_endTask_27 : decode cX4_endTask 27 = .ok (.aload_n 1, 1) := by decide +kernel
theorem dX4_endTask_28 : decode cX4_endTask 28 = .ok (.iload_n 2, 1) := by decide +kernel
theorem dX4_endTask_29 : decode cX4_endTask 29 = .ok (.putfield 65, 3) := by decide +kernel
theorem dX4_endTask_32 : decode cX4_endTask 32 = .ok (.aload_n 0, 1) := by decide +kernel
theorem dX4_endTask_33 : decode cX4_endTask 33 = .ok (.getfield 15, 3) := by decide +kernel
theorem dX4_endTask_36 : decode cX4_endTask 36 = .ok (.getfield 307, 3) := by decide +kernel
theorem dX4_endTask_39 : decode cX4_endTask 39 = .ok (.astore_n 3, 1) := by decide +kernel
theorem dX4_endTask_40 : decode cX4_endTask 40 = .ok (.aload_n 3, 1) := by decide +kernel
theorem dX4_endTask_41 : decode cX4_endTask 41 = .ok (.arraylength, 1) := by decide +kernel
theorem dX4_endTask_42 : decode cX4_endTask 42 = .ok (.istore 4, 2) := by decide +kernel
theorem dX4_endTask_44 : decode cX4_endTask 44 = .ok (.iconst 0, 1) := by decide +kernel
theorem dX4_endTask_45 : decode cX4_endTask 45 = .ok (.istore 5, 2) := by decide +kernel
theorem dX4_endTask_47 : decode cX4_endTask 47 = .ok (.iload 5, 2) := by decide +kernel
theorem dX4_endTask_49 : decode cX4_endTask 49 = .ok (.iload 4, 2) := by decide +kernel
theorem dX4_endTask_51 : decode cX4_endTask 51 = .ok (.if_icmp .ge 36, 3) := by decide +kernel
theorem dX4_endTask_54 : decode cX4_endTask 54 = .ok (.aload_n 3, 1) := by decide +kernel
theorem dX4_endTask_55 : decode cX4_endTask 55 = .ok (.iload 5, 2) := by decide +kernel
theorem dX4_endTask_57 : decode cX4_endTask 57 = .ok (.aaload, 1) := by decide +kernel
theorem dX4_endTask_58 : decode cX4_endTask 58 = .ok (.astore 6, 2) := by decide +kernel
theorem dX4_endTask_60 : decode cX4_endTask 60 = .ok (.aload 6, 2) := by decide +kernel
theorem dX4_endTask_62 : decode cX4_endTask 62 = .ok (.getfield 226, 3) := by decide +kernel
theorem dX4_endTask_65 : decode cX4_endTask 65 = .ok (.aload_n 1, 1) := by decide +kernel
theorem dX4_endTask_66 : decode cX4_endTask 66 = .ok (.getfield 231, 3) := by decide +kernel
theorem dX4_endTask_69 : decode cX4_endTask 69 = .ok (.if_icmp .ne 12, 3) := by decide +kernel
theorem dX4_endTask_72 : decode cX4_endTask 72 = .ok (.aload_n 0, 1) := by decide +kernel
theorem dX4_endTask_73 : decode cX4_endTask 73 = .ok (.getfield 15, 3) := by decide +kernel
theorem dX4_endTask_76 : decode cX4_endTask 76 = .ok (.aload 6, 2) := by decide +kernel
theorem dX4_endTask_78 : decode cX4_endTask 78 = .ok (.invokevirtual 236, 3) := by decide +kernel
theorem dX4_endTask_81 : decode cX4_endTask 81 = .ok (.iinc 5 1, 3) := by decide +kernel
theorem dX4_endTask_84 : decode cX4_endTask 84 = .ok (.goto (-37), 3) := by decide +kernel
theorem dX4_endTask_87 : decode cX4_endTask 87 = .ok (.aload_n 0, 1) := by decide +kernel
theorem dX4_endTask_88 : decode cX4_endTask 88 = .ok (.getfield 15, 3) := by decide +kernel
theorem dX4_endTask_91 : decode cX4_endTask 91 = .ok (.aload_n 1, 1) := by decide +kernel
theorem dX4_endTask_92 : decode cX4_endTask 92 = .ok (.getfield 311, 3) := by decide +kernel
theorem dX4_endTask_95 : decode cX4_endTask 95 = .ok (.invokevirtual 186, 3) := by decide +kernel
theorem dX4_endTask_98 : decode cX4_endTask 98 = .ok (.astore_n 3, 1) := by decide +kernel
theorem dX4_endTask_99 : decode cX4_endTask 99 = .ok (.aload_n 3, 1) := by decide +kernel
theorem dX4_endTask_100 : decode cX4_endTask 100 = .ok (.ifnull 9, 3) := by decide +kernel
theorem dX4_endTask_103 : decode cX4_endTask 103 = .ok (.aload_n 0, 1) := by decide +kernel
theorem dX4_endTask_104 : decode cX4_endTask 104 = .ok (.aload_n 1, 1) := by decide +kernel
theorem dX4_endTask_105 : decode cX4_endTask 105 = .ok (.aload_n 3, 1) := by decide +kernel
theorem dX4_endTask_106 : decode cX4_endTask 106 = .ok (.invokevirtual 314, 3) := by decide +kernel
theorem dX4_endTask_109 : decode cX4_endTask 109 = .ok (.return_, 1) := by decide +kernel
set_option maxRecDepth 20000 in
theorem ggX4_tellOver_X6_cancelScope : GoodIn wsX4_tellOver wsX6_cancelScope := goodIn_r _ [14, 15, 16, 17, 18, 19, 20, 21, 22, 23, 24, 25, 26, 27, 13, 28, 29, 30, 31, 32, 33, 34, 35, 36, 37, 38, 39, 40, 41, 54, 55, 56, 57, 58, 59, 60, 61, 62, 63, 64, 65, 66, 67, 88, 89, 90, 91, 92, 93, 94, 95, 96, 97, 98, 99, 68, 69, 70, 71, 72, 73, 74, 75, 76, 77, 78, 79, 80, 81, 82, 83, 84] (by decide +kernel) (by decide +kernel)
set_option maxRecDepth 20000 in
theorem gX4_tellOver_X6_cancelScope : GoodIn wsX4_tellOver (wsV RX4 211 RX6 yX6_cancelScope wsX6_cancelScope) := goodIn_app (goodIn_of _ (by decide +kernel)) ggX4_tellOver_X6_cancelScope
set_option maxRecDepth 20000 in
theorem ggX4_tellOver_X6_taskAt : GoodIn wsX4_tellOver wsX6_taskAt := goodIn_r _ [45, 16, 88, 89, 90, 91, 92, 93, 94, 95, 96, 97, 98, 99] (by decide +kernel) (by decide +kernel)
set_option maxRecDepth 20000 in
theorem gX4_tellOver_X6_taskAt : GoodIn wsX4_tellOver (wsV RX4 296 RX6 yX6_taskAt wsX6_taskAt) := goodIn_app (goodIn_of _ (by decide +kernel)) ggX4_tellOver_X6_taskAt
set_option maxRecDepth 20000 in
theorem ggX4_tellOver_X7_waitsAt : GoodIn wsX4_tellOver wsX7_waitsAt := goodIn_r _ [50, 51, 52, 68, 69, 70, 71, 72, 73, 74, 75, 76, 77, 78, 79, 80, 81, 82, 83, 84] (by decide +kernel) (by decide +kernel)
set_option maxRecDepth 20000 in
theorem gX4_tellOver_X7_waitsAt : GoodIn wsX4_tellOver (wsV RX4 324 RX7 yX7_waitsAt wsX7_waitsAt) := goodIn_app (goodIn_of _ (by decide +kernel)) ggX4_tellOver_X7_waitsAt
set_option maxRecDepth 20000 in
theorem ggX4_tellOver_X6_makeReady : GoodIn wsX4_tellOver wsX6_makeReady := goodIn_r _ [38, 17, 39, 40, 41, 68, 69, 70, 71, 72, 73, 74, 75, 76, 77, 78, 79, 80, 81, 82, 83, 84, 88, 89, 90, 91, 92, 93, 94, 95, 96, 97, 98, 99] (by decide +kernel) (by decide +kernel)
set_option maxRecDepth 20000 in
theorem gX4_tellOver_X6_makeReady : GoodIn wsX4_tellOver (wsV RX4 327 RX6 yX6_makeReady wsX6_makeReady) := goodIn_app (goodIn_of _ (by decide +kernel)) ggX4_tellOver_X6_makeReady
theorem dX4_tellOver_0 : decode cX4_tellOver 0 = .ok (.aload_n 2, 1) := by decide +kernel
theorem dX4_tellOver_1 : decode cX4_tellOver 1 = .ok (.dup, 1) := by decide +kernel
theorem dX4_tellOver_2 : decode cX4_tellOver 2 = .ok (.getfield 287, 3) := by decide +kernel
theorem dX4_tellOver_5 : decode cX4_tellOver 5 = .ok (.iconst 1, 1) := by decide +kernel
theorem dX4_tellOver_6 : decode cX4_tellOver 6 = .ok (.iadd, 1) := by decide +kernel
theorem dX4_tellOver_7 : decode cX4_tellOver 7 = .ok (.putfield 287, 3) := by decide +kernel
theorem dX4_tellOver_10 : decode cX4_tellOver 10 = .ok (.aload_n 1, 1) := by decide +kernel
theorem dX4_tellOver_11 : decode cX4_tellOver 11 = .ok (.getfield 306, 3) := by decide +kernel
theorem dX4_tellOver_14 : decode cX4_tellOver 14 = .ok (.iconst 3, 1) := by decide +kernel
theorem dX4_tellOver_15 : decode cX4_tellOver 15 = .ok (.if_icmp .ne 38, 3) := by decide +kernel
theorem dX4_tellOver_18 : decode cX4_tellOver 18 = .ok (.aload_n 2, 1) := by decide +kernel
theorem dX4_tellOver_19 : decode cX4_tellOver 19 = .ok (.dup, 1) := by decide +kernel
theorem dX4_tellOver_20 : decode cX4_tellOver 20 = .ok (.getfield 318, 3) := by decide +kernel
theorem dX4_tellOver_23 : decode cX4_tellOver 23 = .ok (.iconst 1, 1) := by decide +kernel
theorem dX4_tellOver_24 : decode cX4_tellOver 24 = .ok (.iadd, 1) := by decide +kernel
theorem dX4_tellOver_25 : decode cX4_tellOver 25 = .ok (.putfield 318, 3) := by decide +kernel
theorem dX4_tellOver_28 : decode cX4_tellOver 28 = .ok (.aload_n 2, 1) := by decide +kernel
theorem dX4_tellOver_29 : decode cX4_tellOver 29 = .ok (.getfield 293, 3) := by decide +kernel
theorem dX4_tellOver_32 : decode cX4_tellOver 32 = .ok (.iconst (-1), 1) := by decide +kernel
theorem dX4_tellOver_33 : decode cX4_tellOver 33 = .ok (.if_icmp .ne 11, 3) := by decide +kernel
theorem dX4_tellOver_36 : decode cX4_tellOver 36 = .ok (.aload_n 2, 1) := by decide +kernel
theorem dX4_tellOver_37 : decode cX4_tellOver 37 = .ok (.aload_n 1, 1) := by decide +kernel
theorem dX4_tellOver_38 : decode cX4_tellOver 38 = .ok (.getfield 231, 3) := by decide +kernel
theorem dX4_tellOver_41 : decode cX4_tellOver 41 = .ok (.putfield 293, 3) := by decide +kernel
theorem dX4_tellOver_44 : decode cX4_tellOver 44 = .ok (.aload_n 0, 1) := by decide +kernel
theorem dX4_tellOver_45 : decode cX4_tellOver 45 = .ok (.getfield 15, 3) := by decide +kernel
theorem dX4_tellOver_48 : decode cX4_tellOver 48 = .ok (.aload_n 2, 1) := by decide +kernel
theorem dX4_tellOver_49 : decode cX4_tellOver 49 = .ok (.invokevirtual 211, 3) := by decide +kernel
theorem dX4_tellOver_52 : decode cX4_tellOver 52 = .ok (.pop, 1) := by decide +kernel
theorem dX4_tellOver_53 : decode cX4_tellOver 53 = .ok (.aload_n 2, 1) := by decide +kernel
theorem dX4_tellOver_54 : decode cX4_tellOver 54 = .ok (.getfield 282, 3) := by decide +kernel
theorem dX4_tellOver_57 : decode cX4_tellOver 57 = .ok (.iconst 1, 1) := by decide +kernel
theorem dX4_tellOver_58 : decode cX4_tellOver 58 = .ok (.if_icmp .ne 51, 3) := by decide +kernel
theorem dX4_tellOver_61 : decode cX4_tellOver 61 = .ok (.aload_n 2, 1) := by decide +kernel
theorem dX4_tellOver_62 : decode cX4_tellOver 62 = .ok (.getfield 287, 3) := by decide +kernel
theorem dX4_tellOver_65 : decode cX4_tellOver 65 = .ok (.aload_n 2, 1) := by decide +kernel
theorem dX4_tellOver_66 : decode cX4_tellOver 66 = .ok (.getfield 208, 3) := by decide +kernel
theorem dX4_tellOver_69 : decode cX4_tellOver 69 = .ok (.if_icmp .lt 40, 3) := by decide +kernel
theorem dX4_tellOver_72 : decode cX4_tellOver 72 = .ok (.aload_n 2, 1) := by decide +kernel
theorem dX4_tellOver_73 : decode cX4_tellOver 73 = .ok (.iconst 2, 1) := by decide +kernel
theorem dX4_tellOver_74 : decode cX4_tellOver 74 = .ok (.putfield 282, 3) := by decide +kernel
theorem dX4_tellOver_77 : decode cX4_tellOver 77 = .ok (.aload_n 0, 1) := by decide +kernel
theorem dX4_tellOver_78 : decode cX4_tellOver 78 = .ok (.getfield 15, 3) := by decide +kernel
theorem dX4_tellOver_81 : decode cX4_tellOver 81 = .ok (.aload_n 2, 1) := by decide +kernel
theorem dX4_tellOver_82 : decode cX4_tellOver 82 = .ok (.getfield 321, 3) := by decide +kernel
theorem dX4_tellOver_85 : decode cX4_tellOver 85 = .ok (.invokevirtual 296, 3) := by decide +kernel
theorem dX4_tellOver_88 : decode cX4_tellOver 88 = .ok (.astore_n 3, 1) := by decide +kernel
theorem dX4_tellOver_89 : decode cX4_tellOver 89 = .ok (.aload_n 3, 1) := by decide +kernel
theorem dX4_tellOver_90 : decode cX4_tellOver 90 = .ok (.ifnull 19, 3) := by decide +kernel
theorem dX4_tellOver_93 : decode cX4_tellOver 93 = .ok (.aload_n 3, 1) := by decide +kernel
theorem dX4_tellOver_94 : decode cX4_tellOver 94 = .ok (.iconst 5, 1) := by decide +kernel
theorem dX4_tellOver_95 : decode cX4_tellOver 95 = .ok (.invokevirtual 324, 3) := by decide +kernel
theorem dX4_tellOver_98 : decode cX4_tellOver 98 = .ok (.ifCond .eq 11, 3) := by decide +kernel
theorem dX4_tellOver_101 : decode cX4_tellOver 101 = .ok (.aload_n 0, 1) := by decide +kernel
theorem dX4_tellOver_102 : decode cX4_tellOver 102 = .ok (.getfield 15, 3) := by decide +kernel
theorem dX4_tellOver_105 : decode cX4_tellOver 105 = .ok (.aload_n 3, 1) := by decide +kernel
theorem dX4_tellOver_106 : decode cX4_tellOver 106 = .ok (.invokevirtual 327, 3) := by decide +kernel
theorem dX4_tellOver_109 : decode cX4_tellOver 109 = .ok (.return_, 1) := by decide +kernel
theorem dX5_init_0 : decode cX5_init 0 = .ok (.aload_n 0, 1) := by decide +kernel
theorem dX5_init_1 : decode cX5_init 1 = .ok (.invokespecial 3, 3) := by decide +kernel
theorem dX5_init_4 : decode cX5_init 4 = .ok (.aload_n 0, 1) := by decide +kernel
theorem dX5_init_5 : decode cX5_init 5 = .ok (.iconst (-1), 1) := by decide +kernel
theorem dX5_init_6 : decode cX5_init 6 = .ok (.putfield 9, 3) := by decide +kernel
theorem dX5_init_9 : decode cX5_init 9 = .ok (.aload_n 0, 1) := by decide +kernel
theorem dX5_init_10 : decode cX5_init 10 = .ok (.iconst (-1), 1) := by decide +kernel
theorem dX5_init_11 : decode cX5_init 11 = .ok (.putfield 15, 3) := by decide +kernel
theorem dX5_init_14 : decode cX5_init 14 = .ok (.aload_n 0, 1) := by decide +kernel
theorem dX5_init_15 : decode cX5_init 15 = .ok (.iload_n 1, 1) := by decide +kernel
theorem dX5_init_16 : decode cX5_init 16 = .ok (.putfield 18, 3) := by decide +kernel
theorem dX5_init_19 : decode cX5_init 19 = .ok (.return_, 1) := by decide +kernel
theorem dX5_begin_0 : decode cX5_begin 0 = .ok (.aload_n 0, 1) := by decide +kernel
theorem dX5_begin_1 : decode cX5_begin 1 = .ok (.iconst 0, 1) := by decide +kernel
theorem dX5_begin_2 : decode cX5_begin 2 = .ok (.putfield 9, 3) := by decide +kernel
theorem dX5_begin_5 : decode cX5_begin 5 = .ok (.aload_n 0, 1) := by decide +kernel
theorem dX5_begin_6 : decode cX5_begin 6 = .ok (.aload_n 1, 1) := by decide +kernel
theorem dX5_begin_7 : decode cX5_begin 7 = .ok (.getfield 21, 3) := by decide +kernel
theorem dX5_begin_10 : decode cX5_begin 10 = .ok (.putfield 24, 3) := by decide +kernel
theorem dX5_begin_13 : decode cX5_begin 13 = .ok (.aload_n 0, 1) := by decide +kernel
theorem dX5_begin_14 : decode cX5_begin 14 = .ok (.aload_n 1, 1) := by decide +kernel
theorem dX5_begin_15 : decode cX5_begin 15 = .ok (.getfield 27, 3) := by decide +kernel
theorem dX5_begin_18 : decode cX5_begin 18 = .ok (.putfield 30, 3) := by decide +kernel
theorem dX5_begin_21 : decode cX5_begin 21 = .ok (.aload_n 0, 1) := by decide +kernel
theorem dX5_begin_22 : decode cX5_begin 22 = .ok (.aload_n 1, 1) := by decide +kernel
theorem dX5_begin_23 : decode cX5_begin 23 = .ok (.getfield 27, 3) := by decide +kernel
theorem dX5_begin_26 : decode cX5_begin 26 = .ok (.iconst (-1), 1) := by decide +kernel
theorem dX5_begin_27 : decode cX5_begin 27 = .ok (.if_icmp .eq 10, 3) := by decide +kernel
theorem dX5_begin_30 : decode cX5_begin 30 = .ok (.aload_n 1, 1) := by decide +kernel
theorem dX5_begin_31 : decode cX5_begin 31 = .ok (.getfield 27, 3) := by decide +kernel
theorem dX5_begin_34 : decode cX5_begin 34 = .ok (.goto 7, 3) := by decide +kernel
theorem dX5_begin_37 : decode cX5_begin 37 = .ok (.aload_n 1, 1) := by decide +kernel
theorem dX5_begin_38 : decode cX5_begin 38 = .ok (.getfield 33, 3) := by decide +kernel
theorem dX5_begin_41 : decode cX5_begin 41 = .ok (.putfield 36, 3) := by decide +kernel
theorem dX5_begin_44 : decode cX5_begin 44 = .ok (.aload_n 0, 1) := by decide +kernel
theorem dX5_begin_45 : decode cX5_begin 45 = .ok (.iload_n 2, 1) := by decide +kernel
theorem dX5_begin_46 : decode cX5_begin 46 = .ok (.putfield 39, 3) := by decide +kernel
theorem dX5_begin_49 : decode cX5_begin 49 = .ok (.aload_n 0, 1) := by decide +kernel
theorem dX5_begin_50 : decode cX5_begin 50 = .ok (.iload_n 3, 1) := by decide +kernel
theorem dX5_begin_51 : decode cX5_begin 51 = .ok (.putfield 43, 3) := by decide +kernel
theorem dX5_begin_54 : decode cX5_begin 54 = .ok (.aload_n 0, 1) := by decide +kernel
theorem dX5_begin_55 : decode cX5_begin 55 = .ok (.iload 4, 2) := by decide +kernel
theorem dX5_begin_57 : decode cX5_begin 57 = .ok (.putfield 46, 3) := by decide +kernel
theorem dX5_begin_60 : decode cX5_begin 60 = .ok (.return_, 1) := by decide +kernel
theorem dX5_isLive_0 : decode cX5_isLive 0 = .ok (.aload_n 0, 1) := by decide +kernel
theorem dX5_isLive_1 : decode cX5_isLive 1 = .ok (.getfield 9, 3) := by decide +kernel
theorem dX5_isLive_4 : decode cX5_isLive 4 = .ok (.ifCond .eq 11, 3) := by decide +kernel
theorem dX5_isLive_7 : decode cX5_isLive 7 = .ok (.aload_n 0, 1) := by decide +kernel
theorem dX5_isLive_8 : decode cX5_isLive 8 = .ok (.getfield 9, 3) := by decide +kernel
theorem dX5_isLive_11 : decode cX5_isLive 11 = .ok (.iconst 1, 1) := by decide +kernel
theorem dX5_isLive_12 : decode cX5_isLive 12 = .ok (.if_icmp .ne 7, 3) := by decide +kernel
theorem dX5_isLive_15 : decode cX5_isLive 15 = .ok (.iconst 1, 1) := by decide +kernel
theorem dX5_isLive_16 : decode cX5_isLive 16 = .ok (.goto 4, 3) := by decide +kernel
theorem dX5_isLive_19 : decode cX5_isLive 19 = .ok (.iconst 0, 1) := by decide +kernel
theorem dX5_isLive_20 : decode cX5_isLive 20 = .ok (.ireturn, 1) := by decide +kernel
theorem dX5_copyFrom_0 : decode cX5_copyFrom 0 = .ok (.aload_n 0, 1) := by decide +kernel
theorem dX5_copyFrom_1 : decode cX5_copyFrom 1 = .ok (.aload_n 1, 1) := by decide +kernel
theorem dX5_copyFrom_2 : decode cX5_copyFrom 2 = .ok (.getfield 9, 3) := by decide +kernel
theorem dX5_copyFrom_5 : decode cX5_copyFrom 5 = .ok (.putfield 9, 3) := by decide +kernel
theorem dX5_copyFrom_8 : decode cX5_copyFrom 8 = .ok (.aload_n 0, 1) := by decide +kernel
theorem dX5_copyFrom_9 : decode cX5_copyFrom 9 = .ok (.aload_n 1, 1) := by decide +kernel
theorem dX5_copyFrom_10 : decode cX5_copyFrom 10 = .ok (.getfield 24, 3) := by decide +kernel
theorem dX5_copyFrom_13 : decode cX5_copyFrom 13 = .ok (.putfield 24, 3) := by decide +kernel
theorem dX5_copyFrom_16 : decode cX5_copyFrom 16 = .ok (.aload_n 0, 1) := by decide +kernel
theorem dX5_copyFrom_17 : decode cX5_copyFrom 17 = .ok (.aload_n 1, 1) := by decide +kernel
theorem dX5_copyFrom_18 : decode cX5_copyFrom 18 = .ok (.getfield 30, 3) := by decide +kernel
theorem dX5_copyFrom_21 : decode cX5_copyFrom 21 = .ok (.putfield 30, 3) := by decide +kernel
theorem dX5_copyFrom_24 : decode cX5_copyFrom 24 = .ok (.aload_n 0, 1) := by decide +kernel
theorem dX5_copyFrom_25 : decode cX5_copyFrom 25 = .ok (.aload_n 1, 1) := by decide +kernel
theorem dX5_copyFrom_26 : decode cX5_copyFrom 26 = .ok (.getfield 36, 3) := by decide +kernel
theorem dX5_copyFrom_29 : decode cX5_copyFrom 29 = .ok (.putfield 36, 3) := by decide +kernel
theorem dX5_copyFrom_32 : decode cX5_copyFrom 32 = .ok (.aload_n 0, 1) := by decide +kernel
theorem dX5_copyFrom_33 : decode cX5_copyFrom 33 = .ok (.aload_n 1, 1) := by decide +kernel
theorem dX5_copyFrom_34 : decode cX5_copyFrom 34 = .ok (.getfield 49, 3) := by decide +kernel
theorem dX5_copyFrom_37 : decode cX5_copyFrom 37 = .ok (.putfield 49, 3) := by decide +kernel
theorem dX5_copyFrom_40 : decode cX5_copyFrom 40 = .ok (.aload_n 0, 1) := by decide +kernel
theorem dX5_copyFrom_41 : decode cX5_copyFrom 41 = .ok (.aload_n 1, 1) := by decide +kernel
theorem dX5_copyFrom_42 : decode cX5_copyFrom 42 = .ok (.getfield 39, 3) := by decide +kernel
theorem dX5_copyFrom_45 : decode cX5_copyFrom 45 = .ok (.putfield 39, 3) := by decide +kernel
theorem dX5_copyFrom_48 : decode cX5_copyFrom 48 = .ok (.aload_n 0, 1) := by decide +kernel
theorem dX5_copyFrom_49 : decode cX5_copyFrom 49 = .ok (.aload_n 1, 1) := by decide +kernel
theorem dX5_copyFrom_50 : decode cX5_copyFrom 50 = .ok (.getfield 43, 3) := by decide +kernel
theorem dX5_copyFrom_53 : decode cX5_copyFrom 53 = .ok (.putfield 43, 3) := by decide +kernel
theorem dX5_copyFrom_56 : decode cX5_copyFrom 56 = .ok (.aload_n 0, 1) := by decide +kernel
theorem dX5_copyFrom_57 : decode cX5_copyFrom 57 = .ok (.aload_n 1, 1) := by decide +kernel
theorem dX5_copyFrom_58 : decode cX5_copyFrom 58 = .ok (.getfield 46, 3) := by decide +kernel
theorem dX5_copyFrom_61 : decode cX5_copyFrom 61 = .ok (.putfield 46, 3) := by decide +kernel
theorem dX5_copyFrom_64 : decode cX5_copyFrom 64 = .ok (.aload_n 0, 1) := by decide +kernel
theorem dX5_copyFrom_65 : decode cX5_copyFrom 65 = .ok (.aload_n 1, 1) := by decide +kernel
theorem dX5_copyFrom_66 : decode cX5_copyFrom 66 = .ok (.getfield 52, 3) := by decide +kernel
theorem dX5_copyFrom_69 : decode cX5_copyFrom 69 = .ok (.putfield 52, 3) := by decide +kernel
theorem dX5_copyFrom_72 : decode cX5_copyFrom 72 = .ok (.aload_n 0, 1) := by decide +kernel
theorem dX5_copyFrom_73 : decode cX5_copyFrom 73 = .ok (.aload_n 1, 1) := by decide +kernel
theorem dX5_copyFrom_74 : decode cX5_copyFrom 74 = .ok (.getfield 55, 3) := by decide +kernel
theorem dX5_copyFrom_77 : decode cX5_copyFrom 77 = .ok (.putfield 55, 3) := by decide +kernel
theorem dX5_copyFrom_80 : decode cX5_copyFrom 80 = .ok (.aload_n 0, 1) := by decide +kernel
theorem dX5_copyFrom_81 : decode cX5_copyFrom 81 = .ok (.aload_n 1, 1) := by decide +kernel
theorem dX5_copyFrom_82 : decode cX5_copyFrom 82 = .ok (.getfield 58, 3) := by decide +kernel
theorem dX5_copyFrom_85 : decode cX5_copyFrom 85 = .ok (.putfield 58, 3) := by decide +kernel
theorem dX5_copyFrom_88 : decode cX5_copyFrom 88 = .ok (.aload_n 0, 1) := by decide +kernel
theorem dX5_copyFrom_89 : decode cX5_copyFrom 89 = .ok (.aload_n 1, 1) := by decide +kernel
theorem dX5_copyFrom_90 : decode cX5_copyFrom 90 = .ok (.getfield 61, 3) := by decide +kernel
theorem dX5_copyFrom_93 : decode cX5_copyFrom 93 = .ok (.putfield 61, 3) := by decide +kernel
theorem dX5_copyFrom_96 : decode cX5_copyFrom 96 = .ok (.aload_n 0, 1) := by decide +kernel
theorem dX5_copyFrom_97 : decode cX5_copyFrom 97 = .ok (.aload_n 1, 1) := by decide +kernel
theorem dX5_copyFrom_98 : decode cX5_copyFrom 98 = .ok (.getfield 15, 3) := by decide +kernel
theorem dX5_copyFrom_101 : decode cX5_copyFrom 101 = .ok (.putfield 15, 3) := by decide +kernel
theorem dX5_copyFrom_104 : decode cX5_copyFrom 104 = .ok (.return_, 1) := by decide +kernel
set_option maxRecDepth 20000 in
theorem ggX6_init_X7_init : GoodIn wsX6_init wsX7_init := goodIn_r _ [24, 25, 2, 3, 12, 26, 27, 28, 29, 30, 61, 62, 63, 64, 65, 66, 67, 68, 69, 70, 71, 72, 73, 74, 75, 76, 77] (by decide +kernel) (by decide +kernel)
set_option maxRecDepth 20000 in
theorem gX6_init_X7_init : GoodIn wsX6_init (wsX7_init) := ggX6_init_X7_init
set_option maxRecDepth 20000 in
theorem ggX6_init_X5_init : GoodIn wsX6_init wsX5_init := goodIn_r _ [33, 34, 2, 3, 35, 36, 37, 78, 79, 80, 81, 82, 83, 84, 85, 86, 87, 88, 89, 90, 91] (by decide +kernel) (by decide +kernel)
set_option maxRecDepth 20000 in
theorem gX6_init_X5_init : GoodIn wsX6_init (wsX5_init) := ggX6_init_X5_init
set_option maxRecDepth 20000 in
theorem ggX6_init_X2_init : GoodIn wsX6_init wsX2_init := goodIn_r _ [40, 41, 2, 3, 42, 43, 92, 93, 94] (by decide +kernel) (by decide +kernel)
set_option maxRecDepth 20000 in
theorem gX6_init_X2_init : GoodIn wsX6_init (wsX2_init) := ggX6_init_X2_init
set_option maxRecDepth 20000 in
theorem ggX6_init_X1_init : GoodIn wsX6_init wsX1_init := goodIn_r _ [45, 46, 2, 3, 47, 12, 48, 95, 96, 97, 98, 99] (by decide +kernel) (by decide +kernel)
set_option maxRecDepth 20000 in
theorem gX6_init_X1_init_n44 : GoodIn wsX6_init (wsX1_init) := ggX6_init_X1_init
theorem dX6_init_0 : decode cX6_init 0 = .ok (.aload_n 0, 1) := by decide +kernel
theorem dX6_init_1 : decode cX6_init 1 = .ok (.invokespecial 3, 3) := by decide +kernel
theorem dX6_init_4 : decode cX6_init 4 = .ok (.aload_n 0, 1) := by decide +kernel
theorem dX6_init_5 : decode cX6_init 5 = .ok (.bipush 24, 2) := by decide +kernel
theorem dX6_init_7 : decode cX6_init 7 = .ok (.anewarray 9, 3) := by decide +kernel
theorem dX6_init_10 : decode cX6_init 10 = .ok (.putfield 11, 3) := by decide +kernel
theorem dX6_init_13 : decode cX6_init 13 = .ok (.aload_n 0, 1) := by decide +kernel
theorem dX6_init_14 : decode cX6_init 14 = .ok (.bipush 40, 2) := by decide +kernel
theorem dX6_init_16 : decode cX6_init 16 = .ok (.anewarray 17, 3) := by decide +kernel
theorem dX6_init_19 : decode cX6_init 19 = .ok (.putfield 19, 3) := by decide +kernel
theorem dX6_init_22 : decode cX6_init 22 = .ok (.aload_n 0, 1) := by decide +kernel
theorem dX6_init_23 : decode cX6_init 23 = .ok (.iconst 2, 1) := by decide +kernel
theorem dX6_init_24 : decode cX6_init 24 = .ok (.anewarray 23, 3) := by decide +kernel
theorem dX6_init_27 : decode cX6_init 27 = .ok (.putfield 25, 3) := by decide +kernel
theorem dX6_init_30 : decode cX6_init 30 = .ok (.aload_n 0, 1) := by decide +kernel
theorem dX6_init_31 : decode cX6_init 31 = .ok (.iconst 2, 1) := by decide +kernel
theorem dX6_init_32 : decode cX6_init 32 = .ok (.anewarray 29, 3) := by decide +kernel
theorem dX6_init_35 : decode cX6_init 35 = .ok (.putfield 31, 3) := by decide +kernel
theorem dX6_init_38 : decode cX6_init 38 = .ok (.aload_n 0, 1) := by decide +kernel
theorem dX6_init_39 : decode cX6_init 39 = .ok (.bipush 24, 2) := by decide +kernel
theorem dX6_init_41 : decode cX6_init 41 = .ok (.newarray .int, 2) := by decide +kernel
theorem dX6_init_43 : decode cX6_init 43 = .ok (.putfield 35, 3) := by decide +kernel
theorem dX6_init_46 : decode cX6_init 46 = .ok (.iconst 0, 1) := by decide +kernel
theorem dX6_init_47 : decode cX6_init 47 = .ok (.istore_n 1, 1) := by decide +kernel
theorem dX6_init_48 : decode cX6_init 48 = .ok (.iload_n 1, 1) := by decide +kernel
theorem dX6_init_49 : decode cX6_init 49 = .ok (.aload_n 0, 1) := by decide +kernel
theorem dX6_init_50 : decode cX6_init 50 = .ok (.getfield 11, 3) := by decide +kernel
theorem dX6_init_53 : decode cX6_init 53 = .ok (.arraylength, 1) := by decide +kernel
theorem dX6_init_54 : decode cX6_init 54 = .ok (.if_icmp .ge 23, 3) := by decide +kernel
theorem dX6_init_57 : decode cX6_init 57 = .ok (.aload_n 0, 1) := by decide +kernel
theorem dX6_init_58 : decode cX6_init 58 = .ok (.getfield 11, 3) := by decide +kernel
theorem dX6_init_61 : decode cX6_init 61 = .ok (.iload_n 1, 1) := by decide +kernel
theorem dX6_init_62 : decode cX6_init 62 = .ok (.new 9, 3) := by decide +kernel
theorem dX6_init_65 : decode cX6_init 65 = .ok (.dup, 1) := by decide +kernel
theorem dX6_init_66 : decode cX6_init 66 = .ok (.iload_n 1, 1) := by decide +kernel
theorem dX6_init_67 : decode cX6_init 67 = .ok (.invokespecial 39, 3) := by decide +kernel
theorem dX6_init_70 : decode cX6_init 70 = .ok (.aastore, 1) := by decide +kernel
theorem dX6_init_71 : decode cX6_init 71 = .ok (.iinc 1 1, 3) := by decide +kernel
theorem dX6_init_74 : decode cX6_init 74 = .ok (.goto (-26), 3) := by decide +kernel
theorem dX6_init_77 : decode cX6_init 77 = .ok (.iconst 0, 1) := by decide +kernel
theorem dX6_init_78 : decode cX6_init 78 = .ok (.istore_n 1, 1) := by decide +kernel
theorem dX6_init_79 : decode cX6_init 79 = .ok (.iload_n 1, 1) := by decide +kernel
theorem dX6_init_80 : decode cX6_init 80 = .ok (.aload_n 0, 1) := by decide +kernel
theorem dX6_init_81 : decode cX6_init 81 = .ok (.getfield 19, 3) := by decide +kernel
theorem dX6_init_84 : decode cX6_init 84 = .ok (.arraylength, 1) := by decide +kernel
theorem dX6_init_85 : decode cX6_init 85 = .ok (.if_icmp .ge 23, 3) := by decide +kernel
theorem dX6_init_88 : decode cX6_init 88 = .ok (.aload_n 0, 1) := by decide +kernel
theorem dX6_init_89 : decode cX6_init 89 = .ok (.getfield 19, 3) := by decide +kernel
theorem dX6_init_92 : decode cX6_init 92 = .ok (.iload_n 1, 1) := by decide +kernel
theorem dX6_init_93 : decode cX6_init 93 = .ok (.new 17, 3) := by decide +kernel
theorem dX6_init_96 : decode cX6_init 96 = .ok (.dup, 1) := by decide +kernel
theorem dX6_init_97 : decode cX6_init 97 = .ok (.iload_n 1, 1) := by decide +kernel
theorem dX6_init_98 : decode cX6_init 98 = .ok (.invokespecial 42, 3) := by decide +kernel
theorem dX6_init_101 : decode cX6_init 101 = .ok (.aastore, 1) := by decide +kernel
theorem dX6_init_102 : decode cX6_init 102 = .ok (.iinc 1 1, 3) := by decide +kernel
theorem dX6_init_105 : decode cX6_init 105 = .ok (.goto (-26), 3) := by decide +kernel
theorem dX6_init_108 : decode cX6_init 108 = .ok (.iconst 0, 1) := by decide +kernel
theorem dX6_init_109 : decode cX6_init 109 = .ok (.istore_n 1, 1) := by decide +kernel
theorem dX6_init_110 : decode cX6_init 110 = .ok (.iload_n 1, 1) := by decide +kernel
theorem dX6_init_111 : decode cX6_init 111 = .ok (.aload_n 0, 1) := by decide +kernel
theorem dX6_init_112 : decode cX6_init 112 = .ok (.getfield 25, 3) := by decide +kernel
theorem dX6_init_115 : decode cX6_init 115 = .ok (.arraylength, 1) := by decide +kernel
theorem dX6_init_116 : decode cX6_init 116 = .ok (.if_icmp .ge 23, 3) := by decide +kernel
theorem dX6_init_119 : decode cX6_init 119 = .ok (.aload_n 0, 1) := by decide +kernel
theorem dX6_init_120 : decode cX6_init 120 = .ok (.getfield 25, 3) := by decide +kernel
theorem dX6_init_123 : decode cX6_init 123 = .ok (.iload_n 1, 1) := by decide +kernel
theorem dX6_init_124 : decode cX6_init 124 = .ok (.new 23, 3) := by decide +kernel
theorem dX6_init_127 : decode cX6_init 127 = .ok (.dup, 1) := by decide +kernel
theorem dX6_init_128 : decode cX6_init 128 = .ok (.iload_n 1, 1) := by decide +kernel
theorem dX6_init_129 : decode cX6_init 129 = .ok (.invokespecial 43, 3) := by decide +kernel
theorem dX6_init_132 : decode cX6_init 132 = .ok (.aastore, 1) := by decide +kernel
theorem dX6_init_133 : decode cX6_init 133 = .ok (.iinc 1 1, 3) := by decide +kernel
theorem dX6_init_136 : decode cX6_init 136 = .ok (.goto (-26), 3) := by decide +kernel
theorem dX6_init_139 : decode cX6_init 139 = .ok (.iconst 0, 1) := by decide +kernel
theorem dX6_init_140 : decode cX6_init 140 = .ok (.istore_n 1, 1) := by decide +kernel
theorem dX6_init_141 : decode cX6_init 141 = .ok (.iload_n 1, 1) := by decide +kernel
theorem dX6_init_142 : decode cX6_init 142 = .ok (.aload_n 0, 1) := by decide +kernel
theorem dX6_init_143 : decode cX6_init 143 = .ok (.getfield 31, 3) := by decide +kernel
theorem dX6_init_146 : decode cX6_init 146 = .ok (.arraylength, 1) := by decide +kernel
theorem dX6_init_147 : decode cX6_init 147 = .ok (.if_icmp .ge 22, 3) := by decide +kernel
theorem dX6_init_150 : decode cX6_init 150 = .ok (.aload_n 0, 1) := by decide +kernel
theorem dX6_init_151 : decode cX6_init 151 = .ok (.getfield 31, 3) := by decide +kernel
theorem dX6_init_154 : decode cX6_init 154 = .ok (.iload_n 1, 1) := by decide +kernel
theorem dX6_init_155 : decode cX6_init 155 = .ok (.new 29, 3) := by decide +kernel
theorem dX6_init_158 : decode cX6_init 158 = .ok (.dup, 1) := by decide +kernel
theorem dX6_init_159 : decode cX6_init 159 = .ok (.invokespecial 44, 3) := by decide +kernel
theorem dX6_init_162 : decode cX6_init 162 = .ok (.aastore, 1) := by decide +kernel
theorem dX6_init_163 : decode cX6_init 163 = .ok (.iinc 1 1, 3) := by decide +kernel
theorem dX6_init_166 : decode cX6_init 166 = .ok (.goto (-25), 3) := by decide +kernel
theorem dX6_init_169 : decode cX6_init 169 = .ok (.return_, 1) := by decide +kernel
set_option maxRecDepth 20000 in
theorem ggX6_copyFrom_X7_copyFrom : GoodIn wsX6_copyFrom wsX7_copyFrom := goodIn_r _ [17, 18, 19, 20, 21, 22, 23, 24, 25, 26, 27, 28, 29, 30, 31, 32, 33, 34, 35, 16, 36, 37, 38, 39, 40, 41, 93, 94, 95, 96, 97, 98, 99, 100, 101, 102, 103, 104, 105, 106, 107, 108, 109] (by decide +kernel) (by decide +kernel)
set_option maxRecDepth 20000 in
theorem gX6_copyFrom_X7_copyFrom : GoodIn wsX6_copyFrom (wsV RX6 45 RX7 yX7_copyFrom wsX7_copyFrom) := goodIn_app (goodIn_of _ (by decide +kernel)) ggX6_copyFrom_X7_copyFrom
set_option maxRecDepth 20000 in
theorem ggX6_copyFrom_X5_copyFrom : GoodIn wsX6_copyFrom wsX5_copyFrom := goodIn_r _ [46, 47, 48, 49, 50, 51, 52, 53, 54, 55, 56, 57, 58, 59, 110, 111, 112, 113, 114, 115, 116, 117, 118, 119, 120, 121, 122, 123] (by decide +kernel) (by decide +kernel)
set_option maxRecDepth 20000 in
theorem gX6_copyFrom_X5_copyFrom : GoodIn wsX6_copyFrom (wsV RX6 49 RX5 yX5_copyFrom wsX5_copyFrom) := goodIn_app (goodIn_of _ (by decide +kernel)) ggX6_copyFrom_X5_copyFrom
set_option maxRecDepth 20000 in
theorem ggX6_copyFrom_X2_copyFrom : GoodIn wsX6_copyFrom wsX2_copyFrom := goodIn_r _ [64, 65, 66, 124, 125, 126] (by decide +kernel) (by decide +kernel)
set_option maxRecDepth 20000 in
theorem gX6_copyFrom_X2_copyFrom : GoodIn wsX6_copyFrom (wsV RX6 52 RX2 yX2_copyFrom wsX2_copyFrom) := goodIn_app (goodIn_of _ (by decide +kernel)) ggX6_copyFrom_X2_copyFrom
set_option maxRecDepth 20000 in
theorem ggX6_copyFrom_X1_copyFrom : GoodIn wsX6_copyFrom wsX1_copyFrom := goodIn_r _ [71, 72, 73, 74, 75, 76, 77, 78, 79, 80, 127, 128, 129, 130, 131] (by decide +kernel) (by decide +kernel)
set_option maxRecDepth 20000 in
theorem gX6_copyFrom_X1_copyFrom : GoodIn wsX6_copyFrom (wsV RX6 55 RX1 yX1_copyFrom wsX1_copyFrom) := goodIn_app (goodIn_of _ (by decide +kernel)) ggX6_copyFrom_X1_copyFrom
theorem dX6_copyFrom_0 : decode cX6_copyFrom 0 = .ok (.iconst 0, 1) := by decide +kernel
theorem dX6_copyFrom_1 : decode cX6_copyFrom 1 = .ok (.istore_n 2, 1) := by decide +kernel
theorem dX6_copyFrom_2 : decode cX6_copyFrom 2 = .ok (.iload_n 2, 1) := by decide +kernel
theorem dX6_copyFrom_3 : decode cX6_copyFrom 3 = .ok (.bipush 24, 2) := by decide +kernel
theorem dX6_copyFrom_5 : decode cX6_copyFrom 5 = .ok (.if_icmp .ge 36, 3) := by decide +kernel
theorem dX6_copyFrom_8 : decode cX6_copyFrom 8 = .ok (.aload_n 0, 1) := by decide +kernel
theorem dX6_copyFrom_9 : decode cX6_copyFrom 9 = .ok (.getfield 11, 3) := by decide +kernel
theorem dX6_copyFrom_12 : decode cX6_copyFrom 12 = .ok (.iload_n 2, 1) := by decide +kernel
theorem dX6_copyFrom_13 : decode cX6_copyFrom 13 = .ok (.aaload, 1) := by decide +kernel
theorem dX6_copyFrom_14 : decode cX6_copyFrom 14 = .ok (.aload_n 1, 1) := by decide +kernel
theorem dX6_copyFrom_15 : decode cX6_copyFrom 15 = .ok (.getfield 11, 3) := by decide +kernel
theorem dX6_copyFrom_18 : decode cX6_copyFrom 18 = .ok (.iload_n 2, 1) := by decide +kernel
theorem dX6_copyFrom_19 : decode cX6_copyFrom 19 = .ok (.aaload, 1) := by decide +kernel
theorem dX6_copyFrom_20 : decode cX6_copyFrom 20 = .ok (.invokevirtual 45, 3) := by decide +kernel
theorem dX6_copyFrom_23 : decode cX6_copyFrom 23 = .ok (.aload_n 0, 1) := by decide +kernel
theorem dX6_copyFrom_24 : decode cX6_copyFrom 24 = .ok (.getfield 35, 3) := by decide +kernel
theorem dX6_copyFrom_27 : decode cX6_copyFrom 27 = .ok (.iload_n 2, 1) := by decide +kernel
theorem dX6_copyFrom_28 : decode cX6_copyFrom 28 = .ok (.aload_n 1, 1) := by decide +kernel
theorem dX6_copyFrom_29 : decode cX6_copyFrom 29 = .ok (.getfield 35, 3) := by decide +kernel
theorem dX6_copyFrom_32 : decode cX6_copyFrom 32 = .ok (.iload_n 2, 1) := by decide +kernel
theorem dX6_copyFrom_33 : decode cX6_copyFrom 33 = .ok (.iaload, 1) := by decide +kernel
theorem dX6_copyFrom_34 : decode cX6_copyFrom 34 = .ok (.iastore, 1) := by decide +kernel
theorem dX6_copyFrom_35 : decode cX6_copyFrom 35 = .ok (.iinc 2 1, 3) := by decide +kernel
theorem dX6_copyFrom_38 : decode cX6_copyFrom 38 = .ok (.goto (-36), 3) := by decide +kernel
theorem dX6_copyFrom_41 : decode cX6_copyFrom 41 = .ok (.iconst 0, 1) := by decide +kernel
theorem dX6_copyFrom_42 : decode cX6_copyFrom 42 = .ok (.istore_n 2, 1) := by decide +kernel
theorem dX6_copyFrom_43 : decode cX6_copyFrom 43 = .ok (.iload_n 2, 1) := by decide +kernel
theorem dX6_copyFrom_44 : decode cX6_copyFrom 44 = .ok (.bipush 40, 2) := by decide +kernel
theorem dX6_copyFrom_46 : decode cX6_copyFrom 46 = .ok (.if_icmp .ge 24, 3) := by decide +kernel
theorem dX6_copyFrom_49 : decode cX6_copyFrom 49 = .ok (.aload_n 0, 1) := by decide +kernel
theorem dX6_copyFrom_50 : decode cX6_copyFrom 50 = .ok (.getfield 19, 3) := by decide +kernel
theorem dX6_copyFrom_53 : decode cX6_copyFrom 53 = .ok (.iload_n 2, 1) := by decide +kernel
theorem dX6_copyFrom_54 : decode cX6_copyFrom 54 = .ok (.aaload, 1) := by decide +kernel
theorem dX6_copyFrom_55 : decode cX6_copyFrom 55 = .ok (.aload_n 1, 1) := by decide +kernel
theorem dX6_copyFrom_56 : decode cX6_copyFrom 56 = .ok (.getfield 19, 3) := by decide +kernel
theorem dX6_copyFrom_59 : decode cX6_copyFrom 59 = .ok (.iload_n 2, 1) := by decide +kernel
theorem dX6_copyFrom_60 : decode cX6_copyFrom 60 = .ok (.aaload, 1) := by decide +kernel
theorem dX6_copyFrom_61 : decode cX6_copyFrom 61 = .ok (.invokevirtual 49, 3) := by decide +kernel
theorem dX6_copyFrom_64 : decode cX6_copyFrom 64 = .ok (.iinc 2 1, 3) := by decide +kernel
theorem dX6_copyFrom_67 : decode cX6_copyFrom 67 = .ok (.goto (-24), 3) := by decide +kernel
theorem dX6_copyFrom_70 : decode cX6_copyFrom 70 = .ok (.iconst 0, 1) := by decide +kernel
theorem dX6_copyFrom_71 : decode cX6_copyFrom 71 = .ok (.istore_n 2, 1) := by decide +kernel
theorem dX6_copyFrom_72 : decode cX6_copyFrom 72 = .ok (.iload_n 2, 1) := by decide +kernel
theorem dX6_copyFrom_73 : decode cX6_copyFrom 73 = .ok (.iconst 2, 1) := by decide +kernel
theorem dX6_copyFrom_74 : decode cX6_copyFrom 74 = .ok (.if_icmp .ge 24, 3) := by decide +kernel
theorem dX6_copyFrom_77 : decode cX6_copyFrom 77 = .ok (.aload_n 0, 1) := by decide +kernel
theorem dX6_copyFrom_78 : decode cX6_copyFrom 78 = .ok (.getfield 25, 3) := by decide +kernel
theorem dX6_copyFrom_81 : decode cX6_copyFrom 81 = .ok (.iload_n 2, 1) := by decide +kernel
theorem dX6_copyFrom_82 : decode cX6_copyFrom 82 = .ok (.aaload, 1) := by decide +kernel
theorem dX6_copyFrom_83 : decode cX6_copyFrom 83 = .ok (.aload_n 1, 1) := by decide +kernel
theorem dX6_copyFrom_84 : decode cX6_copyFrom 84 = .ok (.getfield 25, 3) := by decide +kernel
theorem dX6_copyFrom_87 : decode cX6_copyFrom 87 = .ok (.iload_n 2, 1) := by decide +kernel
theorem dX6_copyFrom_88 : decode cX6_copyFrom 88 = .ok (.aaload, 1) := by decide +kernel
theorem dX6_copyFrom_89 : decode cX6_copyFrom 89 = .ok (.invokevirtual 52, 3) := by decide +kernel
theorem dX6_copyFrom_92 : decode cX6_copyFrom 92 = .ok (.iinc 2 1, 3) := by decide +kernel
theorem dX6_copyFrom_95 : decode cX6_copyFrom 95 = .ok (.goto (-23), 3) := by decide +kernel
theorem dX6_copyFrom_98 : decode cX6_copyFrom 98 = .ok (.iconst 0, 1) := by decide +kernel
theorem dX6_copyFrom_99 : decode cX6_copyFrom 99 = .ok (.istore_n 2, 1) := by decide +kernel
theorem dX6_copyFrom_100 : decode cX6_copyFrom 100 = .ok (.iload_n 2, 1) := by decide +kernel
theorem dX6_copyFrom_101 : decode cX6_copyFrom 101 = .ok (.iconst 2, 1) := by decide +kernel
theorem dX6_copyFrom_102 : decode cX6_copyFrom 102 = .ok (.if_icmp .ge 24, 3) := by decide +kernel
theorem dX6_copyFrom_105 : decode cX6_copyFrom 105 = .ok (.aload_n 0, 1) := by decide +kernel
theorem dX6_copyFrom_106 : decode cX6_copyFrom 106 = .ok (.getfield 31, 3) := by decide +kernel
theorem dX6_copyFrom_109 : decode cX6_copyFrom 109 = .ok (.iload_n 2, 1) := by decide +kernel
theorem dX6_copyFrom_110 : decode cX6_copyFrom 110 = .ok (.aaload, 1) := by decide +kernel
theorem dX6_copyFrom_111 : decode cX6_copyFrom 111 = .ok (.aload_n 1, 1) := by decide +kernel
theorem dX6_copyFrom_112 : decode cX6_copyFrom 112 = .ok (.getfield 31, 3) := by decide +kernel
theorem dX6_copyFrom_115 : decode cX6_copyFrom 115 = .ok (.iload_n 2, 1) := by decide +kernel
theorem dX6_copyFrom_116 : decode cX6_copyFrom 116 = .ok (.aaload, 1) := by decide +kernel
theorem dX6_copyFrom_117 : decode cX6_copyFrom 117 = .ok (.invokevirtual 55, 3) := by decide +kernel
theorem dX6_copyFrom_120 : decode cX6_copyFrom 120 = .ok (.iinc 2 1, 3) := by decide +kernel
theorem dX6_copyFrom_123 : decode cX6_copyFrom 123 = .ok (.goto (-23), 3) := by decide +kernel
theorem dX6_copyFrom_126 : decode cX6_copyFrom 126 = .ok (.aload_n 0, 1) := by decide +kernel
theorem dX6_copyFrom_127 : decode cX6_copyFrom 127 = .ok (.aload_n 1, 1) := by decide +kernel
theorem dX6_copyFrom_128 : decode cX6_copyFrom 128 = .ok (.getfield 58, 3) := by decide +kernel
theorem dX6_copyFrom_131 : decode cX6_copyFrom 131 = .ok (.putfield 58, 3) := by decide +kernel
theorem dX6_copyFrom_134 : decode cX6_copyFrom 134 = .ok (.aload_n 0, 1) := by decide +kernel
theorem dX6_copyFrom_135 : decode cX6_copyFrom 135 = .ok (.aload_n 1, 1) := by decide +kernel
theorem dX6_copyFrom_136 : decode cX6_copyFrom 136 = .ok (.getfield 62, 3) := by decide +kernel
theorem dX6_copyFrom_139 : decode cX6_copyFrom 139 = .ok (.putfield 62, 3) := by decide +kernel
theorem dX6_copyFrom_142 : decode cX6_copyFrom 142 = .ok (.aload_n 0, 1) := by decide +kernel
theorem dX6_copyFrom_143 : decode cX6_copyFrom 143 = .ok (.aload_n 1, 1) := by decide +kernel
theorem dX6_copyFrom_144 : decode cX6_copyFrom 144 = .ok (.getfield 65, 3) := by decide +kernel
theorem dX6_copyFrom_147 : decode cX6_copyFrom 147 = .ok (.putfield 65, 3) := by decide +kernel
theorem dX6_copyFrom_150 : decode cX6_copyFrom 150 = .ok (.aload_n 0, 1) := by decide +kernel
theorem dX6_copyFrom_151 : decode cX6_copyFrom 151 = .ok (.aload_n 1, 1) := by decide +kernel
theorem dX6_copyFrom_152 : decode cX6_copyFrom 152 = .ok (.getfield 68, 3) := by decide +kernel
theorem dX6_copyFrom_155 : decode cX6_copyFrom 155 = .ok (.putfield 68, 3) := by decide +kernel
theorem dX6_copyFrom_158 : decode cX6_copyFrom 158 = .ok (.aload_n 0, 1) := by decide +kernel
theorem dX6_copyFrom_159 : decode cX6_copyFrom 159 = .ok (.aload_n 1, 1) := by decide +kernel
theorem dX6_copyFrom_160 : decode cX6_copyFrom 160 = .ok (.getfield 71, 3) := by decide +kernel
theorem dX6_copyFrom_163 : decode cX6_copyFrom 163 = .ok (.putfield 71, 3) := by decide +kernel
theorem dX6_copyFrom_166 : decode cX6_copyFrom 166 = .ok (.aload_n 0, 1) := by decide +kernel
theorem dX6_copyFrom_167 : decode cX6_copyFrom 167 = .ok (.aload_n 1, 1) := by decide +kernel
theorem dX6_copyFrom_168 : decode cX6_copyFrom 168 = .ok (.getfield 74, 3) := by decide +kernel
theorem dX6_copyFrom_171 : decode cX6_copyFrom 171 = .ok (.putfield 74, 3) := by decide +kernel
theorem dX6_copyFrom_174 : decode cX6_copyFrom 174 = .ok (.aload_n 0, 1) := by decide +kernel
theorem dX6_copyFrom_175 : decode cX6_copyFrom 175 = .ok (.aload_n 1, 1) := by decide +kernel
theorem dX6_copyFrom_176 : decode cX6_copyFrom 176 = .ok (.getfield 77, 3) := by decide +kernel
theorem dX6_copyFrom_179 : decode cX6_copyFrom 179 = .ok (.putfield 77, 3) := by decide +kernel
theorem dX6_copyFrom_182 : decode cX6_copyFrom 182 = .ok (.return_, 1) := by decide +kernel
theorem dX6_taskAt_0 : decode cX6_taskAt 0 = .ok (.iload_n 1, 1) := by decide +kernel
theorem dX6_taskAt_1 : decode cX6_taskAt 1 = .ok (.ifCond .lt 21, 3) := by decide +kernel
theorem dX6_taskAt_4 : decode cX6_taskAt 4 = .ok (.iload_n 1, 1) := by decide +kernel
theorem dX6_taskAt_5 : decode cX6_taskAt 5 = .ok (.aload_n 0, 1) := by decide +kernel
theorem dX6_taskAt_6 : decode cX6_taskAt 6 = .ok (.getfield 11, 3) := by decide +kernel
theorem dX6_taskAt_9 : decode cX6_taskAt 9 = .ok (.arraylength, 1) := by decide +kernel
theorem dX6_taskAt_10 : decode cX6_taskAt 10 = .ok (.if_icmp .ge 12, 3) := by decide +kernel
theorem dX6_taskAt_13 : decode cX6_taskAt 13 = .ok (.aload_n 0, 1) := by decide +kernel
theorem dX6_taskAt_14 : decode cX6_taskAt 14 = .ok (.getfield 11, 3) := by decide +kernel
theorem dX6_taskAt_17 : decode cX6_taskAt 17 = .ok (.iload_n 1, 1) := by decide +kernel
theorem dX6_taskAt_18 : decode cX6_taskAt 18 = .ok (.aaload, 1) := by decide +kernel
theorem dX6_taskAt_19 : decode cX6_taskAt 19 = .ok (.goto 4, 3) := by decide +kernel
theorem dX6_taskAt_22 : decode cX6_taskAt 22 = .ok (.aconst_null, 1) := by decide +kernel
theorem dX6_taskAt_23 : decode cX6_taskAt 23 = .ok (.areturn, 1) := by decide +kernel
theorem dX6_scopeAt_0 : decode cX6_scopeAt 0 = .ok (.iload_n 1, 1) := by decide +kernel
theorem dX6_scopeAt_1 : decode cX6_scopeAt 1 = .ok (.ifCond .lt 21, 3) := by decide +kernel
theorem dX6_scopeAt_4 : decode cX6_scopeAt 4 = .ok (.iload_n 1, 1) := by decide +kernel
theorem dX6_scopeAt_5 : decode cX6_scopeAt 5 = .ok (.aload_n 0, 1) := by decide +kernel
theorem dX6_scopeAt_6 : decode cX6_scopeAt 6 = .ok (.getfield 19, 3) := by decide +kernel
theorem dX6_scopeAt_9 : decode cX6_scopeAt 9 = .ok (.arraylength, 1) := by decide +kernel
theorem dX6_scopeAt_10 : decode cX6_scopeAt 10 = .ok (.if_icmp .ge 12, 3) := by decide +kernel
theorem dX6_scopeAt_13 : decode cX6_scopeAt 13 = .ok (.aload_n 0, 1) := by decide +kernel
theorem dX6_scopeAt_14 : decode cX6_scopeAt 14 = .ok (.getfield 19, 3) := by decide +kernel
theorem dX6_scopeAt_17 : decode cX6_scopeAt 17 = .ok (.iload_n 1, 1) := by decide +kernel
theorem dX6_scopeAt_18 : decode cX6_scopeAt 18 = .ok (.aaload, 1) := by decide +kernel
theorem dX6_scopeAt_19 : decode cX6_scopeAt 19 = .ok (.goto 4, 3) := by decide +kernel
theorem dX6_scopeAt_22 : decode cX6_scopeAt 22 = .ok (.aconst_null, 1) := by decide +kernel
theorem dX6_scopeAt_23 : decode cX6_scopeAt 23 = .ok (.areturn, 1) := by decide +kernel
theorem dX6_lockAt_0 : decode cX6_lockAt 0 = .ok (.iload_n 1, 1) := by decide +kernel
theorem dX6_lockAt_1 : decode cX6_lockAt 1 = .ok (.ifCond .lt 21, 3) := by decide +kernel
theorem dX6_lockAt_4 : decode cX6_lockAt 4 = .ok (.iload_n 1, 1) := by decide +kernel
theorem dX6_lockAt_5 : decode cX6_lockAt 5 = .ok (.aload_n 0, 1) := by decide +kernel
theorem dX6_lockAt_6 : decode cX6_lockAt 6 = .ok (.getfield 25, 3) := by decide +kernel
theorem dX6_lockAt_9 : decode cX6_lockAt 9 = .ok (.arraylength, 1) := by decide +kernel
theorem dX6_lockAt_10 : decode cX6_lockAt 10 = .ok (.if_icmp .ge 12, 3) := by decide +kernel
theorem dX6_lockAt_13 : decode cX6_lockAt 13 = .ok (.aload_n 0, 1) := by decide +kernel
theorem dX6_lockAt_14 : decode cX6_lockAt 14 = .ok (.getfield 25, 3) := by decide +kernel
theorem dX6_lockAt_17 : decode cX6_lockAt 17 = .ok (.iload_n 1, 1) := by decide +kernel
theorem dX6_lockAt_18 : decode cX6_lockAt 18 = .ok (.aaload, 1) := by decide +kernel
theorem dX6_lockAt_19 : decode cX6_lockAt 19 = .ok (.goto 4, 3) := by decide +kernel
theorem dX6_lockAt_22 : decode cX6_lockAt 22 = .ok (.aconst_null, 1) := by decide +kernel
theorem dX6_lockAt_23 : decode cX6_lockAt 23 = .ok (.areturn, 1) := by decide +kernel
theorem dX6_channelAt_0 : decode cX6_channelAt 0 = .ok (.iload_n 1, 1) := by decide +kernel
theorem dX6_channelAt_1 : decode cX6_channelAt 1 = .ok (.ifCond .lt 21, 3) := by decide +kernel
theorem dX6_channelAt_4 : decode cX6_channelAt 4 = .ok (.iload_n 1, 1) := by decide +kernel
theorem dX6_channelAt_5 : decode cX6_channelAt 5 = .ok (.aload_n 0, 1) := by decide +kernel
theorem dX6_channelAt_6 : decode cX6_channelAt 6 = .ok (.getfield 31, 3) := by decide +kernel
theorem dX6_channelAt_9 : decode cX6_channelAt 9 = .ok (.arraylength, 1) := by decide +kernel
theorem dX6_channelAt_10 : decode cX6_channelAt 10 = .ok (.if_icmp .ge 12, 3) := by decide +kernel
theorem dX6_channelAt_13 : decode cX6_channelAt 13 = .ok (.aload_n 0, 1) := by decide +kernel
theorem dX6_channelAt_14 : decode cX6_channelAt 14 = .ok (.getfield 31, 3) := by decide +kernel
theorem dX6_channelAt_17 : decode cX6_channelAt 17 = .ok (.iload_n 1, 1) := by decide +kernel
theorem dX6_channelAt_18 : decode cX6_channelAt 18 = .ok (.aaload, 1) := by decide +kernel
theorem dX6_channelAt_19 : decode cX6_channelAt 19 = .ok (.goto 4, 3) := by decide +kernel
theorem dX6_channelAt_22 : decode cX6_channelAt 22 = .ok (.aconst_null, 1) := by decide +kernel
theorem dX6_channelAt_23 : decode cX6_channelAt 23 = .ok (.areturn, 1) := by decide +kernel
theorem dX6_isUsed_0 : decode cX6_isUsed 0 = .ok (.aload_n 0, 1) := by decide +kernel
theorem dX6_isUsed_1 : decode cX6_isUsed 1 = .ok (.getfield 11, 3) := by decide +kernel
theorem dX6_isUsed_4 : decode cX6_isUsed 4 = .ok (.astore_n 2, 1) := by decide +kernel
theorem dX6_isUsed_5 : decode cX6_isUsed 5 = .ok (.aload_n 2, 1) := by decide +kernel
theorem dX6_isUsed_6 : decode cX6_isUsed 6 = .ok (.arraylength, 1) := by decide +kernel
theorem dX6_isUsed_7 : decode cX6_isUsed 7 = .ok (.istore_n 3, 1) := by decide +kernel
theorem dX6_isUsed_8 : decode cX6_isUsed 8 = .ok (.iconst 0, 1) := by decide +kernel
theorem dX6_isUsed_9 : decode cX6_isUsed 9 = .ok (.istore 4, 2) := by decide +kernel
theorem dX6_isUsed_11 : decode cX6_isUsed 11 = .ok (.iload 4, 2) := by decide +kernel
theorem dX6_isUsed_13 : decode cX6_isUsed 13 = .ok (.iload_n 3, 1) := by decide +kernel
theorem dX6_isUsed_14 : decode cX6_isUsed 14 = .ok (.if_icmp .ge 35, 3) := by decide +kernel
theorem dX6_isUsed_17 : decode cX6_isUsed 17 = .ok (.aload_n 2, 1) := by decide +kernel
theorem dX6_isUsed_18 : decode cX6_isUsed 18 = .ok (.iload 4, 2) := by decide +kernel
theorem dX6_isUsed_20 : decode cX6_isUsed 20 = .ok (.aaload, 1) := by decide +kernel
theorem dX6_isUsed_21 : decode cX6_isUsed 21 = .ok (.astore 5, 2) := by decide +kernel
theorem dX6_isUsed_23 : decode cX6_isUsed 23 = .ok (.aload 5, 2) := by decide +kernel
theorem dX6_isUsed_25 : decode cX6_isUsed 25 = .ok (.getfield 80, 3) := by decide +kernel
theorem dX6_isUsed_28 : decode cX6_isUsed 28 = .ok (.iconst (-1), 1) := by decide +kernel
theorem dX6_isUsed_29 : decode cX6_isUsed 29 = .ok (.if_icmp .eq 14, 3) := by decide +kernel
theorem dX6_isUsed_32 : decode cX6_isUsed 32 = .ok (.aload 5, 2) := by decide +kernel
theorem dX6_isUsed_34 : decode cX6_isUsed 34 = .ok (.getfield 83, 3) := by decide +kernel
theorem dX6_isUsed_37 : decode cX6_isUsed 37 = .ok (.iload_n 1, 1) := by decide +kernel
theorem dX6_isUsed_38 : decode cX6_isUsed 38 = .ok (.if_icmp .ne 5, 3) := by decide +kernel
theorem dX6_isUsed_41 : decode cX6_isUsed 41 = .ok (.iconst 1, 1) := by decide +kernel
theorem dX6_isUsed_42 : decode cX6_isUsed 42 = .ok (.ireturn, 1) := by decide +kernel
theorem dX6_isUsed_43 : decode cX6_isUsed 43 = .ok (.iinc 4 1, 3) := by decide +kernel
theorem dX6_isUsed_46 : decode cX6_isUsed 46 = .ok (.goto (-35), 3) := by decide +kernel
theorem dX6_isUsed_49 : decode cX6_isUsed 49 = .ok (.iconst 0, 1) := by decide +kernel
theorem dX6_isUsed_50 : decode cX6_isUsed 50 = .ok (.ireturn, 1) := by decide +kernel
set_option maxRecDepth 20000 in
theorem ggX6_makeTask_X6_taskAt : GoodIn wsX6_makeTask wsX6_taskAt := goodIn_r _ [9, 10, 18, 19, 20, 21, 22, 23, 24, 25, 26, 27, 28, 29] (by decide +kernel) (by decide +kernel)
set_option maxRecDepth 20000 in
theorem gX6_makeTask_X6_taskAt : GoodIn wsX6_makeTask (wsV RX6 93 RX6 yX6_taskAt wsX6_taskAt) := goodIn_app (goodIn_of _ (by decide +kernel)) ggX6_makeTask_X6_taskAt
set_option maxRecDepth 20000 in
theorem ggX6_makeTask_X6_makeReady : GoodIn wsX6_makeTask wsX6_makeReady := goodIn_r _ [14, 15, 16, 17, 4, 30, 31, 32, 33, 34, 35, 36, 37, 38, 39, 40, 41, 42, 43, 44, 45, 46, 18, 19, 20, 21, 22, 23, 24, 25, 26, 27, 28, 29] (by decide +kernel) (by decide +kernel)
set_option maxRecDepth 20000 in
theorem gX6_makeTask_X6_makeReady : GoodIn wsX6_makeTask (wsV RX6 100 RX6 yX6_makeReady wsX6_makeReady) := goodIn_app (goodIn_of _ (by decide +kernel)) ggX6_makeTask_X6_makeReady
theorem dX6_makeTask_0 : decode cX6_makeTask 0 = .ok (.aload_n 0, 1) := by decide +kernel
theorem dX6_makeTask_1 : decode cX6_makeTask 1 = .ok (.aload_n 0, 1) := by decide +kernel
theorem dX6_makeTask_2 : decode cX6_makeTask 2 = .ok (.getfield 58, 3) := by decide +kernel
theorem dX6_makeTask_5 : decode cX6_makeTask 5 = .ok (.invokevirtual 93, 3) := by decide +kernel
theorem dX6_makeTask_8 : decode cX6_makeTask 8 = .ok (.astore_n 3, 1) := by decide +kernel
theorem dX6_makeTask_9 : decode cX6_makeTask 9 = .ok (.aload_n 3, 1) := by decide +kernel
theorem dX6_makeTask_10 : decode cX6_makeTask 10 = .ok (.ifnonnull 5, 3) := by decide +kernel
theorem dX6_makeTask_13 : decode cX6_makeTask 13 = .ok (.iconst (-1), 1) := by decide +kernel
theorem dX6_makeTask_14 : decode cX6_makeTask 14 = .ok (.ireturn, 1) := by decide +kernel
theorem dX6_makeTask_15 : decode cX6_makeTask 15 = .ok (.aload_n 3, 1) := by decide +kernel
theorem dX6_makeTask_16 : decode cX6_makeTask 16 = .ok (.iload_n 1, 1) := by decide +kernel
theorem dX6_makeTask_17 : decode cX6_makeTask 17 = .ok (.putfield 83, 3) := by decide +kernel
theorem dX6_makeTask_20 : decode cX6_makeTask 20 = .ok (.aload_n 3, 1) := by decide +kernel
theorem dX6_makeTask_21 : decode cX6_makeTask 21 = .ok (.iload_n 2, 1) := by decide +kernel
theorem dX6_makeTask_22 : decode cX6_makeTask 22 = .ok (.putfield 97, 3) := by decide +kernel
theorem dX6_makeTask_25 : decode cX6_makeTask 25 = .ok (.aload_n 0, 1) := by decide +kernel
theorem dX6_makeTask_26 : decode cX6_makeTask 26 = .ok (.dup, 1) := by decide +kernel
theorem dX6_makeTask_27 : decode cX6_makeTask 27 = .ok (.getfield 58, 3) := by decide +kernel
theorem dX6_makeTask_30 : decode cX6_makeTask 30 = .ok (.iconst 1, 1) := by decide +kernel
theorem dX6_makeTask_31 : decode cX6_makeTask 31 = .ok (.iadd, 1) := by decide +kernel
theorem dX6_makeTask_32 : decode cX6_makeTask 32 = .ok (.putfield 58, 3) := by decide +kernel
theorem dX6_makeTask_35 : decode cX6_makeTask 35 = .ok (.aload_n 0, 1) := by decide +kernel
theorem dX6_makeTask_36 : decode cX6_makeTask 36 = .ok (.aload_n 3, 1) := by decide +kernel
theorem dX6_makeTask_37 : decode cX6_makeTask 37 = .ok (.invokevirtual 100, 3) := by decide +kernel
theorem dX6_makeTask_40 : decode cX6_makeTask 40 = .ok (.aload_n 3, 1) := by decide +kernel
theorem dX6_makeTask_41 : decode cX6_makeTask 41 = .ok (.getfield 103, 3) := by decide +kernel
theorem dX6_makeTask_44 : decode cX6_makeTask 44 = .ok (.ireturn, 1) := by decide +kernel
theorem dX6_makeReady_0 : decode cX6_makeReady 0 = .ok (.aload_n 1, 1) := by decide +kernel
theorem dX6_makeReady_1 : decode cX6_makeReady 1 = .ok (.iconst 0, 1) := by decide +kernel
theorem dX6_makeReady_2 : decode cX6_makeReady 2 = .ok (.putfield 80, 3) := by decide +kernel
theorem dX6_makeReady_5 : decode cX6_makeReady 5 = .ok (.aload_n 0, 1) := by decide +kernel
theorem dX6_makeReady_6 : decode cX6_makeReady 6 = .ok (.getfield 65, 3) := by decide +kernel
theorem dX6_makeReady_9 : decode cX6_makeReady 9 = .ok (.ifCond .lt 38, 3) := by decide +kernel
theorem dX6_makeReady_12 : decode cX6_makeReady 12 = .ok (.aload_n 0, 1) := by decide +kernel
theorem dX6_makeReady_13 : decode cX6_makeReady 13 = .ok (.getfield 65, 3) := by decide +kernel
theorem dX6_makeReady_16 : decode cX6_makeReady 16 = .ok (.aload_n 0, 1) := by decide +kernel
theorem dX6_makeReady_17 : decode cX6_makeReady 17 = .ok (.getfield 35, 3) := by decide +kernel
theorem dX6_makeReady_20 : decode cX6_makeReady 20 = .ok (.arraylength, 1) := by decide +kernel
theorem dX6_makeReady_21 : decode cX6_makeReady 21 = .ok (.if_icmp .ge 26, 3) := by decide +kernel
theorem dX6_makeReady_24 : decode cX6_makeReady 24 = .ok (.aload_n 0, 1) := by decide +kernel
theorem dX6_makeReady_25 : decode cX6_makeReady 25 = .ok (.getfield 35, 3) := by decide +kernel
theorem dX6_makeReady_28 : decode cX6_makeReady 28 = .ok (.aload_n 0, 1) := by decide +kernel
theorem dX6_makeReady_29 : decode cX6_makeReady 29 = .ok (.getfield 65, 3) := by decide +kernel
theorem dX6_makeReady_32 : decode cX6_makeReady 32 = .ok (.aload_n 1, 1) := by decide +kernel
theorem dX6_makeReady_33 : decode cX6_makeReady 33 = .ok (.getfield 103, 3) := by decide +kernel
theorem dX6_makeReady_36 : decode cX6_makeReady 36 = .ok (.iastore, 1) := by decide +kernel
theorem dX6_makeReady_37 : decode cX6_makeReady 37 = .ok (.aload_n 0, 1) := by decide +kernel
theorem dX6_makeReady_38 : decode cX6_makeReady 38 = .ok (.dup, 1) := by decide +kernel
theorem dX6_makeReady_39 : decode cX6_makeReady 39 = .ok (.getfield 65, 3) := by decide +kernel
theorem dX6_makeReady_42 : decode cX6_makeReady 42 = .ok (.iconst 1, 1) := by decide +kernel
theorem dX6_makeReady_43 : decode cX6_makeReady 43 = .ok (.iadd, 1) := by decide +kernel
theorem dX6_makeReady_44 : decode cX6_makeReady 44 = .ok (.putfield 65, 3) := by decide +kernel
theorem dX6_makeReady_47 : decode cX6_makeReady 47 = .ok (.return_, 1) := by decide +kernel
set_option maxRecDepth 20000 in
theorem ggX6_takeReady_X6_taskAt : GoodIn wsX6_takeReady wsX6_taskAt := goodIn_r _ [7, 8, 9, 10, 11, 12, 13, 14, 15, 16, 17, 18, 19, 20] (by decide +kernel) (by decide +kernel)
set_option maxRecDepth 20000 in
theorem gX6_takeReady_X6_taskAt : GoodIn wsX6_takeReady (wsV RX6 93 RX6 yX6_taskAt wsX6_taskAt) := goodIn_app (goodIn_of _ (by decide +kernel)) ggX6_takeReady_X6_taskAt
theorem dX6_takeReady_0 : decode cX6_takeReady 0 = .ok (.aload_n 0, 1) := by decide +kernel
theorem dX6_takeReady_1 : decode cX6_takeReady 1 = .ok (.getfield 65, 3) := by decide +kernel
theorem dX6_takeReady_4 : decode cX6_takeReady 4 = .ok (.ifCond .gt 5, 3) := by decide +kernel
theorem dX6_takeReady_7 : decode cX6_takeReady 7 = .ok (.aconst_null, 1) := by decide +kernel
theorem dX6_takeReady_8 : decode cX6_takeReady 8 = .ok (.areturn, 1) := by decide +kernel
theorem dX6_takeReady_9 : decode cX6_takeReady 9 = .ok (.aload_n 0, 1) := by decide +kernel
theorem dX6_takeReady_10 : decode cX6_takeReady 10 = .ok (.aload_n 0, 1) := by decide +kernel
theorem dX6_takeReady_11 : decode cX6_takeReady 11 = .ok (.getfield 35, 3) := by decide +kernel
theorem dX6_takeReady_14 : decode cX6_takeReady 14 = .ok (.iconst 0, 1) := by decide +kernel
theorem dX6_takeReady_15 : decode cX6_takeReady 15 = .ok (.iaload, 1) := by decide +kernel
theorem dX6_takeReady_16 : decode cX6_takeReady 16 = .ok (.invokevirtual 93, 3) := by decide +kernel
theorem dX6_takeReady_19 : decode cX6_takeReady 19 = .ok (.astore_n 1, 1) := by decide +kernel
theorem dX6_takeReady_20 : decode cX6_takeReady 20 = .ok (.iconst 1, 1) := by decide +kernel
theorem dX6_takeReady_21 : decode cX6_takeReady 21 = .ok (.istore_n 2, 1) := by decide +kernel
theorem dX6_takeReady_22 : decode cX6_takeReady 22 = .ok (.iload_n 2, 1) := by decide +kernel
theorem dX6_takeReady_23 : decode cX6_takeReady 23 = .ok (.aload_n 0, 1) := by decide +kernel
theorem dX6_takeReady_24 : decode cX6_takeReady 24 = .ok (.getfield 65, 3) := by decide +kernel
theorem dX6_takeReady_27 : decode cX6_takeReady 27 = .ok (.if_icmp .ge 32, 3) := by decide +kernel
theorem dX6_takeReady_30 : decode cX6_takeReady 30 = .ok (.iload_n 2, 1) := by decide +kernel
theorem dX6_takeReady_31 : decode cX6_takeReady 31 = .ok (.aload_n 0, 1) := by decide +kernel
theorem dX6_takeReady_32 : decode cX6_takeReady 32 = .ok (.getfield 35, 3) := by decide +kernel
theorem dX6_takeReady_35 : decode cX6_takeReady 35 = .ok (.arraylength, 1) := by decide +kernel
theorem dX6_takeReady_36 : decode cX6_takeReady 36 = .ok (.if_icmp .ge 23, 3) := by decide +kernel
theorem dX6_takeReady_39 : decode cX6_takeReady 39 = .ok (.aload_n 0, 1) := by decide +kernel
theorem dX6_takeReady_40 : decode cX6_takeReady 40 = .ok (.getfield 35, 3) := by decide +kernel
theorem dX6_takeReady_43 : decode cX6_takeReady 43 = .ok (.iload_n 2, 1) := by decide +kernel
theorem dX6_takeReady_44 : decode cX6_takeReady 44 = .ok (.iconst 1, 1) := by decide +kernel
theorem dX6_takeReady_45 : decode cX6_takeReady 45 = .ok (.isub, 1) := by decide +kernel
theorem dX6_takeReady_46 : decode cX6_takeReady 46 = .ok (.aload_n 0, 1) := by decide +kernel
theorem dX6_takeReady_47 : decode cX6_takeReady 47 = .ok (.getfield 35, 3) := by decide +kernel
theorem dX6_takeReady_50 : decode cX6_takeReady 50 = .ok (.iload_n 2, 1) := by decide +kernel
theorem dX6_takeReady_51 : decode cX6_takeReady 51 = .ok (.iaload, 1) := by decide +kernel
theorem dX6_takeReady_52 : decode cX6_takeReady 52 = .ok (.iastore, 1) := by decide +kernel
theorem dX6_takeReady_53 : decode cX6_takeReady 53 = .ok (.iinc 2 1, 3) := by decide +kernel
theorem dX6_takeReady_56 : decode cX6_takeReady 56 = .ok (.goto (-34), 3) := by decide +kernel
theorem dX6_takeReady_59 : decode cX6_takeReady 59 = .ok (.aload_n 0, 1) := by decide +kernel
theorem dX6_takeReady_60 : decode cX6_takeReady 60 = .ok (.dup, 1) := by decide +kernel
theorem dX6_takeReady_61 : decode cX6_takeReady 61 = .ok (.getfield 65, 3) := by decide +kernel
theorem dX6_takeReady_64 : decode cX6_takeReady 64 = .ok (.iconst 1, 1) := by decide +kernel
theorem dX6_takeReady_65 : decode cX6_takeReady 65 = .ok (.isub, 1) := by decide +kernel
theorem dX6_takeReady_66 : decode cX6_takeReady 66 = .ok (.putfield 65, 3) := by decide +kernel
theorem dX6_takeReady_69 : decode cX6_takeReady 69 = .ok (.aload_n 1, 1) := by decide +kernel
theorem dX6_takeReady_70 : decode cX6_takeReady 70 = .ok (.areturn, 1) := by decide +kernel
theorem dX6_beginWait_0 : decode cX6_beginWait 0 = .ok (.aload_n 1, 1) := by decide +kernel
theorem dX6_beginWait_1 : decode cX6_beginWait 1 = .ok (.iconst 1, 1) := by decide +kernel
theorem dX6_beginWait_2 : decode cX6_beginWait 2 = .ok (.putfield 80, 3) := by decide +kernel
theorem dX6_beginWait_5 : decode cX6_beginWait 5 = .ok (.aload_n 1, 1) := by decide +kernel
theorem dX6_beginWait_6 : decode cX6_beginWait 6 = .ok (.iload_n 2, 1) := by decide +kernel
theorem dX6_beginWait_7 : decode cX6_beginWait 7 = .ok (.putfield 106, 3) := by decide +kernel
theorem dX6_beginWait_10 : decode cX6_beginWait 10 = .ok (.aload_n 1, 1) := by decide +kernel
theorem dX6_beginWait_11 : decode cX6_beginWait 11 = .ok (.iload_n 3, 1) := by decide +kernel
theorem dX6_beginWait_12 : decode cX6_beginWait 12 = .ok (.putfield 109, 3) := by decide +kernel
theorem dX6_beginWait_15 : decode cX6_beginWait 15 = .ok (.aload_n 1, 1) := by decide +kernel
theorem dX6_beginWait_16 : decode cX6_beginWait 16 = .ok (.iconst 0, 1) := by decide +kernel
theorem dX6_beginWait_17 : decode cX6_beginWait 17 = .ok (.putfield 112, 3) := by decide +kernel
theorem dX6_beginWait_20 : decode cX6_beginWait 20 = .ok (.aload_n 1, 1) := by decide +kernel
theorem dX6_beginWait_21 : decode cX6_beginWait 21 = .ok (.iconst 0, 1) := by decide +kernel
theorem dX6_beginWait_22 : decode cX6_beginWait 22 = .ok (.putfield 116, 3) := by decide +kernel
theorem dX6_beginWait_25 : decode cX6_beginWait 25 = .ok (.aload_n 1, 1) := by decide +kernel
theorem dX6_beginWait_26 : decode cX6_beginWait 26 = .ok (.iconst 0, 1) := by decide +kernel
theorem dX6_beginWait_27 : decode cX6_beginWait 27 = .ok (.putfield 119, 3) := by decide +kernel
theorem dX6_beginWait_30 : decode cX6_beginWait 30 = .ok (.aload_n 1, 1) := by decide +kernel
theorem dX6_beginWait_31 : decode cX6_beginWait 31 = .ok (.aload_n 0, 1) := by decide +kernel
theorem dX6_beginWait_32 : decode cX6_beginWait 32 = .ok (.getfield 77, 3) := by decide +kernel
theorem dX6_beginWait_35 : decode cX6_beginWait 35 = .ok (.putfield 122, 3) := by decide +kernel
theorem dX6_beginWait_38 : decode cX6_beginWait 38 = .ok (.aload_n 0, 1) := by decide +kernel
theorem dX6_beginWait_39 : decode cX6_beginWait 39 = .ok (.dup, 1) := by decide +kernel
theorem dX6_beginWait_40 : decode cX6_beginWait 40 = .ok (.getfield 77, 3) := by decide +kernel
theorem dX6_beginWait_43 : decode cX6_beginWait 43 = .ok (.iconst 1, 1) := by decide +kernel
theorem dX6_beginWait_44 : decode cX6_beginWait 44 = .ok (.iadd, 1) := by decide +kernel
theorem dX6_beginWait_45 : decode cX6_beginWait 45 = .ok (.putfield 77, 3) := by decide +kernel
theorem dX6_beginWait_48 : decode cX6_beginWait 48 = .ok (.return_, 1) := by decide +kernel
set_option maxRecDepth 20000 in
theorem ggX6_waitsFor_X7_waitsAt : GoodIn wsX6_waitsFor wsX7_waitsAt := goodIn_r _ [7, 8, 9, 10, 11, 12, 13, 14, 15, 16, 17, 18, 19, 20, 21, 22, 23, 24, 25, 26] (by decide +kernel) (by decide +kernel)
set_option maxRecDepth 20000 in
theorem gX6_waitsFor_X7_waitsAt : GoodIn wsX6_waitsFor (wsV RX6 125 RX7 yX7_waitsAt wsX7_waitsAt) := goodIn_app (goodIn_of _ (by decide +kernel)) ggX6_waitsFor_X7_waitsAt
theorem dX6_waitsFor_0 : decode cX6_waitsFor 0 = .ok (.aload_n 1, 1) := by decide +kernel
theorem dX6_waitsFor_1 : decode cX6_waitsFor 1 = .ok (.iload_n 2, 1) := by decide +kernel
theorem dX6_waitsFor_2 : decode cX6_waitsFor 2 = .ok (.invokevirtual 125, 3) := by decide +kernel
theorem dX6_waitsFor_5 : decode cX6_waitsFor 5 = .ok (.ifCond .eq 22, 3) := by decide +kernel
theorem dX6_waitsFor_8 : decode cX6_waitsFor 8 = .ok (.aload_n 1, 1) := by decide +kernel
theorem dX6_waitsFor_9 : decode cX6_waitsFor 9 = .ok (.getfield 109, 3) := by decide +kernel
theorem dX6_waitsFor_12 : decode cX6_waitsFor 12 = .ok (.iload_n 3, 1) := by decide +kernel
theorem dX6_waitsFor_13 : decode cX6_waitsFor 13 = .ok (.if_icmp .eq 10, 3) := by decide +kernel
theorem dX6_waitsFor_16 : decode cX6_waitsFor 16 = .ok (.aload_n 1, 1) := by decide +kernel
theorem dX6_waitsFor_17 : decode cX6_waitsFor 17 = .ok (.getfield 112, 3) := by decide +kernel
theorem dX6_waitsFor_20 : decode cX6_waitsFor 20 = .ok (.ifCond .eq 7, 3) := by decide +kernel
theorem dX6_waitsFor_23 : decode cX6_waitsFor 23 = .ok (.iconst 1, 1) := by decide +kernel
theorem dX6_waitsFor_24 : decode cX6_waitsFor 24 = .ok (.goto 4, 3) := by decide +kernel
theorem dX6_waitsFor_27 : decode cX6_waitsFor 27 = .ok (.iconst 0, 1) := by decide +kernel
theorem dX6_waitsFor_28 : decode cX6_waitsFor 28 = .ok (.ireturn, 1) := by decide +kernel
theorem dX6_firstWaiting_0 : decode cX6_firstWaiting 0 = .ok (.aconst_null, 1) := by decide +kernel
theorem dX6_firstWaiting_1 : decode cX6_firstWaiting 1 = .ok (.astore_n 3, 1) := by decide +kernel
theorem dX6_firstWaiting_2 : decode cX6_firstWaiting 2 = .ok (.aload_n 0, 1) := by decide +kernel
theorem dX6_firstWaiting_3 : decode cX6_firstWaiting 3 = .ok (.getfield 11, 3) := by decide +kernel
theorem dX6_firstWaiting_6 : decode cX6_firstWaiting 6 = .ok (.astore 4, 2) := by decide +kernel
theorem dX6_firstWaiting_8 : decode cX6_firstWaiting 8 = .ok (.aload 4, 2) := by decide +kernel
theorem dX6_firstWaiting_10 : decode cX6_firstWaiting 10 = .ok (.arraylength, 1) := by decide +kernel
theorem dX6_firstWaiting_11 : decode cX6_firstWaiting 11 = .ok (.istore 5, 2) := by decide +kernel
theorem dX6_firstWaiting_13 : decode cX6_firstWaiting 13 = .ok (.iconst 0, 1) := by decide +kernel
theorem dX6_firstWaiting_14 : decode cX6_firstWaiting 14 = .ok (.istore 6, 2) := by decide +kernel
theorem dX6_firstWaiting_16 : decode cX6_firstWaiting 16 = .ok (.iload 6, 2) := by decide +kernel
theorem dX6_firstWaiting_18 : decode cX6_firstWaiting 18 = .ok (.iload 5, 2) := by decide +kernel
theorem dX6_firstWaiting_20 : decode cX6_firstWaiting 20 = .ok (.if_icmp .ge 82, 3) := by decide +kernel
theorem dX6_firstWaiting_23 : decode cX6_firstWaiting 23 = .ok (.aload 4, 2) := by decide +kernel
theorem dX6_firstWaiting_25 : decode cX6_firstWaiting 25 = .ok (.iload 6, 2) := by decide +kernel
theorem dX6_firstWaiting_27 : decode cX6_firstWaiting 27 = .ok (.aaload, 1) := by decide +kernel
theorem dX6_firstWaiting_28 : decode cX6_firstWaiting 28 = .ok (.astore 7, 2) := by decide +kernel
theorem dX6_firstWaiting_30 : decode cX6_firstWaiting 30 = .ok (.aload 7, 2) := by decide +kernel
theorem dX6_firstWaiting_32 : decode cX6_firstWaiting 32 = .ok (.getfield 80, 3) := by decide +kernel
theorem dX6_firstWaiting_35 : decode cX6_firstWaiting 35 = .ok (.iconst 1, 1) := by decide +kernel
theorem dX6_firstWaiting_36 : decode cX6_firstWaiting 36 = .ok (.if_icmp .ne 33, 3) := by decide +kernel
theorem dX6_firstWaiting_39 : decode cX6_firstWaiting 39 = .ok (.aload 7, 2) := by decide +kernel
theorem dX6_firstWaiting_41 : decode cX6_firstWaiting 41 = .ok (.getfield 106, 3) := by decide +kernel
theorem dX6_firstWaiting_44 : decode cX6_firstWaiting 44 = .ok (.iload_n 1, 1) := by decide +kernel
theorem dX6_firstWaiting_45 : decode cX6_firstWaiting 45 = .ok (.if_icmp .ne 24, 3) := by decide +kernel
theorem dX6_firstWaiting_48 : decode cX6_firstWaiting 48 = .ok (.aload 7, 2) := by decide +kernel
theorem dX6_firstWaiting_50 : decode cX6_firstWaiting 50 = .ok (.getfield 109, 3) := by decide +kernel
theorem dX6_firstWaiting_53 : decode cX6_firstWaiting 53 = .ok (.iload_n 2, 1) := by decide +kernel
theorem dX6_firstWaiting_54 : decode cX6_firstWaiting 54 = .ok (.if_icmp .eq 11, 3) := by decide +kernel
theorem dX6_firstWaiting_57 : decode cX6_firstWaiting 57 = .ok (.aload 7, 2) := by decide +kernel
theorem dX6_firstWaiting_59 : decode cX6_firstWaiting 59 = .ok (.getfield 112, 3) := by decide +kernel
theorem dX6_firstWaiting_62 : decode cX6_firstWaiting 62 = .ok (.ifCond .eq 7, 3) := by decide +kernel
theorem dX6_firstWaiting_65 : decode cX6_firstWaiting 65 = .ok (.iconst 1, 1) := by decide +kernel
theorem dX6_firstWaiting_66 : decode cX6_firstWaiting 66 = .ok (.goto 4, 3) := by decide +kernel
theorem dX6_firstWaiting_69 : decode cX6_firstWaiting 69 = .ok (.iconst 0, 1) := by decide +kernel
theorem dX6_firstWaiting_70 : decode cX6_firstWaiting 70 = .ok (.istore 8, 2) := by decide +kernel
theorem dX6_firstWaiting_72 : decode cX6_firstWaiting 72 = .ok (.iload 8, 2) := by decide +kernel
theorem dX6_firstWaiting_74 : decode cX6_firstWaiting 74 = .ok (.ifCond .eq 22, 3) := by decide +kernel
theorem dX6_firstWaiting_77 : decode cX6_firstWaiting 77 = .ok (.aload_n 3, 1) := by decide +kernel
theorem dX6_firstWaiting_78 : decode cX6_firstWaiting 78 = .ok (.ifnull 15, 3) := by decide +kernel
theorem dX6_firstWaiting_81 : decode cX6_firstWaiting 81 = .ok (.aload 7, 2) := by decide +kernel
theorem dX6_firstWaiting_83 : decode cX6_firstWaiting 83 = .ok (.getfield 122, 3) := by decide +kernel
theorem dX6_firstWaiting_86 : decode cX6_firstWaiting 86 = .ok (.aload_n 3, 1) := by decide +kernel
theorem dX6_firstWaiting_87 : decode cX6_firstWaiting 87 = .ok (.getfield 122, 3) := by decide +kernel
theorem dX6_firstWaiting_90 : decode cX6_firstWaiting 90 = .ok (.if_icmp .ge 6, 3) := by decide +kernel
theorem dX6_firstWaiting_93 : decode cX6_firstWaiting 93 = .ok (.aload 7, 2) := by decide +kernel
theorem dX6_firstWaiting_95 : decode cX6_firstWaiting 95 = .ok (.astore_n 3, 1) := by decide +kernel
theorem dX6_firstWaiting_96 : decode cX6_firstWaiting 96 = .ok (.iinc 6 1, 3) := by decide +kernel
theorem dX6_firstWaiting_99 : decode cX6_firstWaiting 99 = .ok (.goto (-83), 3) := by decide +kernel
theorem dX6_firstWaiting_102 : decode cX6_firstWaiting 102 = .ok (.aload_n 3, 1) := by decide +kernel
theorem dX6_firstWaiting_103 : decode cX6_firstWaiting 103 = .ok (.areturn, 1) := by decide +kernel
theorem dX6_isHit_0 : decode cX6_isHit 0 = .ok (.aload_n 1, 1) := by decide +kernel
theorem dX6_isHit_1 : decode cX6_isHit 1 = .ok (.getfield 129, 3) := by decide +kernel
theorem dX6_isHit_4 : decode cX6_isHit 4 = .ok (.iconst (-1), 1) := by decide +kernel
theorem dX6_isHit_5 : decode cX6_isHit 5 = .ok (.if_icmp .eq 10, 3) := by decide +kernel
theorem dX6_isHit_8 : decode cX6_isHit 8 = .ok (.aload_n 1, 1) := by decide +kernel
theorem dX6_isHit_9 : decode cX6_isHit 9 = .ok (.getfield 129, 3) := by decide +kernel
theorem dX6_isHit_12 : decode cX6_isHit 12 = .ok (.goto 7, 3) := by decide +kernel
theorem dX6_isHit_15 : decode cX6_isHit 15 = .ok (.aload_n 1, 1) := by decide +kernel
theorem dX6_isHit_16 : decode cX6_isHit 16 = .ok (.getfield 97, 3) := by decide +kernel
theorem dX6_isHit_19 : decode cX6_isHit 19 = .ok (.istore_n 3, 1) := by decide +kernel
theorem dX6_isHit_20 : decode cX6_isHit 20 = .ok (.iconst 0, 1) := by decide +kernel
theorem dX6_isHit_21 : decode cX6_isHit 21 = .ok (.istore 4, 2) := by decide +kernel
theorem dX6_isHit_23 : decode cX6_isHit 23 = .ok (.iload 4, 2) := by decide +kernel
theorem dX6_isHit_25 : decode cX6_isHit 25 = .ok (.bipush 40, 2) := by decide +kernel
theorem dX6_isHit_27 : decode cX6_isHit 27 = .ok (.if_icmp .ge 70, 3) := by decide +kernel
theorem dX6_isHit_30 : decode cX6_isHit 30 = .ok (.iload_n 3, 1) := by decide +kernel
theorem dX6_isHit_31 : decode cX6_isHit 31 = .ok (.ifCond .lt 66, 3) := by decide +kernel
theorem dX6_isHit_34 : decode cX6_isHit 34 = .ok (.iload_n 3, 1) := by decide +kernel
theorem dX6_isHit_35 : decode cX6_isHit 35 = .ok (.aload_n 0, 1) := by decide +kernel
theorem dX6_isHit_36 : decode cX6_isHit 36 = .ok (.getfield 19, 3) := by decide +kernel
theorem dX6_isHit_39 : decode cX6_isHit 39 = .ok (.arraylength, 1) := by decide +kernel
theorem dX6_isHit_40 : decode cX6_isHit 40 = .ok (.if_icmp .ge 57, 3) := by decide +kernel
theorem dX6_isHit_43 : decode cX6_isHit 43 = .ok (.aload_n 0, 1) := by decide +kernel
theorem dX6_isHit_44 : decode cX6_isHit 44 = .ok (.getfield 19, 3) := by decide +kernel
theorem dX6_isHit_47 : decode cX6_isHit 47 = .ok (.iload_n 3, 1) := by decide +kernel
theorem dX6_isHit_48 : decode cX6_isHit 48 = .ok (.aaload, 1) := by decide +kernel
theorem dX6_isHit_49 : decode cX6_isHit 49 = .ok (.astore 5, 2) := by decide +kernel
theorem dX6_isHit_51 : decode cX6_isHit 51 = .ok (.aload 5, 2) := by decide +kernel
theorem dX6_isHit_53 : decode cX6_isHit 53 = .ok (.getfield 132, 3) := by decide +kernel
theorem dX6_isHit_56 : decode cX6_isHit 56 = .ok (.iconst 2, 1) := by decide +kernel
theorem dX6_isHit_57 : decode cX6_isHit 57 = .ok (.if_icmp .eq 28, 3) := by decide +kernel
theorem dX6_isHit_60 : decode cX6_isHit 60 = .ok (.aload 5, 2) := by decide +kernel
theorem dX6_isHit_62 : decode cX6_isHit 62 = .ok (.getfield 133, 3) := by decide +kernel
theorem dX6_isHit_65 : decode cX6_isHit 65 = .ok (.ifCond .ne 8, 3) := by decide +kernel
theorem dX6_isHit_68 : decode cX6_isHit 68 = .ok (.iload_n 3, 1) := by decide +kernel
theorem dX6_isHit_69 : decode cX6_isHit 69 = .ok (.iload_n 2, 1) := by decide +kernel
theorem dX6_isHit_70 : decode cX6_isHit 70 = .ok (.if_icmp .ne 5, 3) := by decide +kernel
theorem dX6_isHit_73 : decode cX6_isHit 73 = .ok (.iconst 1, 1) := by decide +kernel
theorem dX6_isHit_74 : decode cX6_isHit 74 = .ok (.ireturn, 1) := by decide +kernel
theorem dX6_isHit_75 : decode cX6_isHit 75 = .ok (.aload 5, 2) := by decide +kernel
theorem dX6_isHit_77 : decode cX6_isHit 77 = .ok (.getfield 136, 3) := by decide +kernel
theorem dX6_isHit_80 : decode cX6_isHit 80 = .ok (.ifCond .eq 5, 3) := by decide +kernel
theorem dX6_isHit_83 : decode cX6_isHit 83 = .ok (.iconst 0, 1) := by decide +kernel
theorem dX6_isHit_84 : decode cX6_isHit 84 = .ok (.ireturn, 1) := by decide +kernel
theorem dX6_isHit_85 : decode cX6_isHit 85 = .ok (.aload 5, 2) := by decide +kernel
theorem dX6_isHit_87 : decode cX6_isHit 87 = .ok (.getfield 139, 3) := by decide +kernel
theorem dX6_isHit_90 : decode cX6_isHit 90 = .ok (.istore_n 3, 1) := by decide +kernel
theorem dX6_isHit_91 : decode cX6_isHit 91 = .ok (.iinc 4 1, 3) := by decide +kernel
theorem dX6_isHit_94 : decode cX6_isHit 94 = .ok (.goto (-71), 3) := by decide +kernel
theorem dX6_isHit_97 : decode cX6_isHit 97 = .ok (.iconst 0, 1) := by decide +kernel
theorem dX6_isHit_98 : decode cX6_isHit 98 = .ok (.ireturn, 1) := by decide +kernel
set_option maxRecDepth 20000 in
theorem ggX6_cancelScope_X5_isLive : GoodIn wsX6_cancelScope wsX5_isLive := goodIn_r _ [9, 10, 29, 30, 31, 32, 33, 34, 35, 36, 37, 38, 39, 40, 41, 42] (by decide +kernel) (by decide +kernel)
set_option maxRecDepth 20000 in
theorem gX6_cancelScope_X5_isLive : GoodIn wsX6_cancelScope (wsV RX6 142 RX5 yX5_isLive wsX5_isLive) := goodIn_app (goodIn_of _ (by decide +kernel)) ggX6_cancelScope_X5_isLive
set_option maxRecDepth 20000 in
theorem ggX6_cancelScope_X6_isHit : GoodIn wsX6_cancelScope wsX6_isHit := goodIn_r _ [15, 16, 17, 18, 19, 1, 20, 21, 55, 56, 57, 58, 59, 60, 61, 62, 63, 64, 65, 66, 67, 68, 69, 70, 71, 43, 44, 45, 46, 47, 48, 49, 50, 51, 52, 53, 54, 29, 30, 31, 32, 33, 34, 35, 36, 37, 38, 39, 40, 41, 42] (by decide +kernel) (by decide +kernel)
set_option maxRecDepth 20000 in
theorem gX6_cancelScope_X6_isHit : GoodIn wsX6_cancelScope (wsV RX6 146 RX6 yX6_isHit wsX6_isHit) := goodIn_app (goodIn_of _ (by decide +kernel)) ggX6_cancelScope_X6_isHit
set_option maxRecDepth 20000 in
theorem ggX6_cancelScope_X6_makeReady : GoodIn wsX6_cancelScope wsX6_makeReady := goodIn_r _ [25, 3, 26, 27, 28, 55, 56, 57, 58, 59, 60, 61, 62, 63, 64, 65, 66, 67, 68, 69, 70, 71, 43, 44, 45, 46, 47, 48, 49, 50, 51, 52, 53, 54] (by decide +kernel) (by decide +kernel)
set_option maxRecDepth 20000 in
theorem gX6_cancelScope_X6_makeReady : GoodIn wsX6_cancelScope (wsV RX6 100 RX6 yX6_makeReady wsX6_makeReady) := goodIn_app (goodIn_of _ (by decide +kernel)) ggX6_cancelScope_X6_makeReady
theorem dX6_cancelScope_0 : decode cX6_cancelScope 0 = .ok (.aload_n 1, 1) := by decide +kernel
theorem dX6_cancelScope_1 : decode cX6_cancelScope 1 = .ok (.ifnull 17, 3) := by decide +kernel
theorem dX6_cancelScope_4 : decode cX6_cancelScope 4 = .ok (.aload_n 1, 1) := by decide +kernel
theorem dX6_cancelScope_5 : decode cX6_cancelScope 5 = .ok (.invokevirtual 142, 3) := by decide +kernel
theorem dX6_cancelScope_8 : decode cX6_cancelScope 8 = .ok (.ifCond .eq 10, 3) := by decide +kernel
theorem dX6_cancelScope_11 : decode cX6_cancelScope 11 = .ok (.aload_n 1, 1) := by decide +kernel
theorem dX6_cancelScope_12 : decode cX6_cancelScope 12 = .ok (.getfield 133, 3) := by decide +kernel
theorem dX6_cancelScope_15 : decode cX6_cancelScope 15 = .ok (.ifCond .eq 5, 3) := by decide +kernel
theorem dX6_cancelScope_18 : decode cX6_cancelScope 18 = .ok (.iconst 0, 1) := by decide +kernel
theorem dX6_cancelScope_19 : decode cX6_cancelScope 19 = .ok (.ireturn, 1) := by decide +kernel
theorem dX6_cancelScope_20 : decode cX6_cancelScope 20 = .ok (.aload_n 1, 1) := by decide +kernel
theorem dX6_cancelScope_21 : decode cX6_cancelScope 21 = .ok (.iconst 1, 1) := by decide +kernel
theorem dX6_cancelScope_22 : decode cX6_cancelScope 22 = .ok (.putfield 133, 3) := by decide +kernel
theorem dX6_cancelScope_25 : decode cX6_cancelScope 25 = .ok (.aload_n 0, 1) := by decide +kernel
theorem dX6_cancelScope_26 : decode cX6_cancelScope 26 = .ok (.getfield 11, 3) := by decide +kernel
theorem dX6_cancelScope_29 : decode cX6_cancelScope 29 = .ok (.astore_n 2, 1) := by decide +kernel
theorem dX6_cancelScope_30 : decode cX6_cancelScope 30 = .ok (.aload_n 2, 1) := by decide +kernel
theorem dX6_cancelScope_31 : decode cX6_cancelScope 31 = .ok (.arraylength, 1) := by decide +kernel
theorem dX6_cancelScope_32 : decode cX6_cancelScope 32 = .ok (.istore_n 3, 1) := by decide +kernel
theorem dX6_cancelScope_33 : decode cX6_cancelScope 33 = .ok (.iconst 0, 1) := by decide +kernel
theorem dX6_cancelScope_34 : decode cX6_cancelScope 34 = .ok (.istore 4, 2) := by decide +kernel
theorem dX6_cancelScope_36 : decode cX6_cancelScope 36 = .ok (.iload 4, 2) := by decide +kernel
theorem dX6_cancelScope_38 : decode cX6_cancelScope 38 = .ok (.iload_n 3, 1) := by decide +kernel
theorem dX6_cancelScope_39 : decode cX6_cancelScope 39 = .ok (.if_icmp .ge 49, 3) := by decide +kernel
theorem dX6_cancelScope_42 : decode cX6_cancelScope 42 = .ok (.aload_n 2, 1) := by decide +kernel
theorem dX6_cancelScope_43 : decode cX6_cancelScope 43 = .ok (.iload 4, 2) := by decide +kernel
theorem dX6_cancelScope_45 : decode cX6_cancelScope 45 = .ok (.aaload, 1) := by decide +kernel
theorem dX6_cancelScope_46 : decode cX6_cancelScope 46 = .ok (.astore 5, 2) := by decide +kernel
theorem dX6_cancelScope_48 : decode cX6_cancelScope 48 = .ok (.aload 5, 2) := by decide +kernel
theorem dX6_cancelScope_50 : decode cX6_cancelScope 50 = .ok (.getfield 80, 3) := by decide +kernel
theorem dX6_cancelScope_53 : decode cX6_cancelScope 53 = .ok (.iconst 1, 1) := by decide +kernel
theorem dX6_cancelScope_54 : decode cX6_cancelScope 54 = .ok (.if_icmp .ne 28, 3) := by decide +kernel
theorem dX6_cancelScope_57 : decode cX6_cancelScope 57 = .ok (.aload 5, 2) := by decide +kernel
theorem dX6_cancelScope_59 : decode cX6_cancelScope 59 = .ok (.getfield 106, 3) := by decide +kernel
theorem dX6_cancelScope_62 : decode cX6_cancelScope 62 = .ok (.iconst 5, 1) := by decide +kernel
theorem dX6_cancelScope_63 : decode cX6_cancelScope 63 = .ok (.if_icmp .eq 19, 3) := by decide +kernel
theorem dX6_cancelScope_66 : decode cX6_cancelScope 66 = .ok (.aload_n 0, 1) := by decide +kernel
theorem dX6_cancelScope_67 : decode cX6_cancelScope 67 = .ok (.aload 5, 2) := by decide +kernel
theorem dX6_cancelScope_69 : decode cX6_cancelScope 69 = .ok (.iconst (-1), 1) := by decide +kernel
theorem dX6_cancelScope_70 : decode cX6_cancelScope 70 = .ok (.invokevirtual 146, 3) := by decide +kernel
theorem dX6_cancelScope_73 : decode cX6_cancelScope 73 = .ok (.ifCond .eq 9, 3) := by decide +kernel
theorem dX6_cancelScope_76 : decode cX6_cancelScope 76 = .ok (.aload_n 0, 1) := by decide +kernel
theorem dX6_cancelScope_77 : decode cX6_cancelScope 77 = .ok (.aload 5, 2) := by decide +kernel
theorem dX6_cancelScope_79 : decode cX6_cancelScope 79 = .ok (.invokevirtual 100, 3) := by decide +kernel
theorem dX6_cancelScope_82 : decode cX6_cancelScope 82 = .ok (.iinc 4 1, 3) := by decide +kernel
theorem dX6_cancelScope_85 : decode cX6_cancelScope 85 = .ok (.goto (-49), 3) := by decide +kernel
theorem dX6_cancelScope_88 : decode cX6_cancelScope 88 = .ok (.iconst 1, 1) := by decide +kernel
theorem dX6_cancelScope_89 : decode cX6_cancelScope 89 = .ok (.ireturn, 1) := by decide +kernel
set_option maxRecDepth 20000 in
theorem ggX6_tickOnce_X5_isLive : GoodIn wsX6_tickOnce wsX5_isLive := goodIn_r _ [11, 12, 55, 56, 57, 58, 59, 60, 61, 62, 63, 64, 65, 66, 67, 68] (by decide +kernel) (by decide +kernel)
set_option maxRecDepth 20000 in
theorem gX6_tickOnce_X5_isLive : GoodIn wsX6_tickOnce (wsV RX6 142 RX5 yX5_isLive wsX5_isLive) := goodIn_app (goodIn_of _ (by decide +kernel)) ggX6_tickOnce_X5_isLive
set_option maxRecDepth 20000 in
theorem ggX6_tickOnce_X6_cancelScope : GoodIn wsX6_tickOnce wsX6_cancelScope := goodIn_r _ [17, 18, 5, 19, 20, 7, 8, 9, 10, 11, 12, 21, 22, 23, 16, 24, 25, 26, 3, 27, 28, 29, 30, 31, 32, 33, 1, 34, 35, 55, 56, 57, 58, 59, 60, 61, 62, 63, 64, 65, 66, 67, 68, 43, 44, 45, 46, 47, 48, 49, 50, 51, 52, 53, 54, 69, 70, 71, 72, 73, 74, 75, 76, 77, 78, 79, 80, 81, 82, 83, 84, 85] (by decide +kernel) (by decide +kernel)
set_option maxRecDepth 20000 in
theorem gX6_tickOnce_X6_cancelScope : GoodIn wsX6_tickOnce (wsV RX6 153 RX6 yX6_cancelScope wsX6_cancelScope) := goodIn_app (goodIn_of _ (by decide +kernel)) ggX6_tickOnce_X6_cancelScope
set_option maxRecDepth 20000 in
theorem ggX6_tickOnce_X7_waitsAt : GoodIn wsX6_tickOnce wsX7_waitsAt := goodIn_r _ [40, 41, 42, 69, 70, 71, 72, 73, 74, 75, 76, 77, 78, 79, 80, 81, 82, 83, 84, 85] (by decide +kernel) (by decide +kernel)
set_option maxRecDepth 20000 in
theorem gX6_tickOnce_X7_waitsAt : GoodIn wsX6_tickOnce (wsV RX6 125 RX7 yX7_waitsAt wsX7_waitsAt) := goodIn_app (goodIn_of _ (by decide +kernel)) ggX6_tickOnce_X7_waitsAt
set_option maxRecDepth 20000 in
theorem ggX6_tickOnce_X6_makeReady : GoodIn wsX6_tickOnce wsX6_makeReady := goodIn_r _ [33, 19, 1, 34, 35, 69, 70, 71, 72, 73, 74, 75, 76, 77, 78, 79, 80, 81, 82, 83, 84, 85, 43, 44, 45, 46, 47, 48, 49, 50, 51, 52, 53, 54] (by decide +kernel) (by decide +kernel)
set_option maxRecDepth 20000 in
theorem gX6_tickOnce_X6_makeReady : GoodIn wsX6_tickOnce (wsV RX6 100 RX6 yX6_makeReady wsX6_makeReady) := goodIn_app (goodIn_of _ (by decide +kernel)) ggX6_tickOnce_X6_makeReady
theorem dX6_tickOnce_0 : decode cX6_tickOnce 0 = .ok (.aload_n 0, 1) := by decide +kernel
theorem dX6_tickOnce_1 : decode cX6_tickOnce 1 = .ok (.getfield 65, 3) := by decide +kernel
theorem dX6_tickOnce_4 : decode cX6_tickOnce 4 = .ok (.istore_n 1, 1) := by decide +kernel
theorem dX6_tickOnce_5 : decode cX6_tickOnce 5 = .ok (.aload_n 0, 1) := by decide +kernel
theorem dX6_tickOnce_6 : decode cX6_tickOnce 6 = .ok (.dup, 1) := by decide +kernel
theorem dX6_tickOnce_7 : decode cX6_tickOnce 7 = .ok (.getfield 68, 3) := by decide +kernel
theorem dX6_tickOnce_10 : decode cX6_tickOnce 10 = .ok (.iconst 1, 1) := by decide +kernel
theorem dX6_tickOnce_11 : decode cX6_tickOnce 11 = .ok (.iadd, 1) := by decide +kernel
theorem dX6_tickOnce_12 : decode cX6_tickOnce 12 = .ok (.putfield 68, 3) := by decide +kernel
theorem dX6_tickOnce_15 : decode cX6_tickOnce 15 = .ok (.aload_n 0, 1) := by decide +kernel
theorem dX6_tickOnce_16 : decode cX6_tickOnce 16 = .ok (.getfield 19, 3) := by decide +kernel
theorem dX6_tickOnce_19 : decode cX6_tickOnce 19 = .ok (.astore_n 2, 1) := by decide +kernel
theorem dX6_tickOnce_20 : decode cX6_tickOnce 20 = .ok (.aload_n 2, 1) := by decide +kernel
theorem dX6_tickOnce_21 : decode cX6_tickOnce 21 = .ok (.arraylength, 1) := by decide +kernel
theorem dX6_tickOnce_22 : decode cX6_tickOnce 22 = .ok (.istore_n 3, 1) := by decide +kernel
theorem dX6_tickOnce_23 : decode cX6_tickOnce 23 = .ok (.iconst 0, 1) := by decide +kernel
theorem dX6_tickOnce_24 : decode cX6_tickOnce 24 = .ok (.istore 4, 2) := by decide +kernel
theorem dX6_tickOnce_26 : decode cX6_tickOnce 26 = .ok (.iload 4, 2) := by decide +kernel
theorem dX6_tickOnce_28 : decode cX6_tickOnce 28 = .ok (.iload_n 3, 1) := by decide +kernel
theorem dX6_tickOnce_29 : decode cX6_tickOnce 29 = .ok (.if_icmp .ge 42, 3) := by decide +kernel
theorem dX6_tickOnce_32 : decode cX6_tickOnce 32 = .ok (.aload_n 2, 1) := by decide +kernel
theorem dX6_tickOnce_33 : decode cX6_tickOnce 33 = .ok (.iload 4, 2) := by decide +kernel
theorem dX6_tickOnce_35 : decode cX6_tickOnce 35 = .ok (.aaload, 1) := by decide +kernel
theorem dX6_tickOnce_36 : decode cX6_tickOnce 36 = .ok (.astore 5, 2) := by decide +kernel
theorem dX6_tickOnce_38 : decode cX6_tickOnce 38 = .ok (.aload 5, 2) := by decide +kernel
theorem dX6_tickOnce_40 : decode cX6_tickOnce 40 = .ok (.invokevirtual 142, 3) := by decide +kernel
theorem dX6_tickOnce_43 : decode cX6_tickOnce 43 = .ok (.ifCond .eq 22, 3) := by decide +kernel
theorem dX6_tickOnce_46 : decode cX6_tickOnce 46 = .ok (.aload 5, 2) := by decide +kernel
theorem dX6_tickOnce_48 : decode cX6_tickOnce 48 = .ok (.getfield 150, 3) := by decide +kernel
theorem dX6_tickOnce_51 : decode cX6_tickOnce 51 = .ok (.aload_n 0, 1) := by decide +kernel
theorem dX6_tickOnce_52 : decode cX6_tickOnce 52 = .ok (.getfield 68, 3) := by decide +kernel
theorem dX6_tickOnce_55 : decode cX6_tickOnce 55 = .ok (.if_icmp .ne 10, 3) := by decide +kernel
theorem dX6_tickOnce_58 : decode cX6_tickOnce 58 = .ok (.aload_n 0, 1) := by decide +kernel
theorem dX6_tickOnce_59 : decode cX6_tickOnce 59 = .ok (.aload 5, 2) := by decide +kernel
theorem dX6_tickOnce_61 : decode cX6_tickOnce 61 = .ok (.invokevirtual 153, 3) := by decide +kernel
theorem dX6_tickOnce_64 : decode cX6_tickOnce 64 = .ok (.pop, 1) := by decide +kernel
theorem dX6_tickOnce_65 : decode cX6_tickOnce 65 = .ok (.iinc 4 1, 3) := by decide +kernel
theorem dX6_tickOnce_68 : decode cX6_tickOnce 68 = .ok (.goto (-42), 3) := by decide +kernel
theorem dX6_tickOnce_71 : decode cX6_tickOnce 71 = .ok (.aload_n 0, 1) := by decide +kernel
theorem dX6_tickOnce_72 : decode cX6_tickOnce 72 = .ok (.getfield 11, 3) := by decide +kernel
theorem dX6_tickOnce_75 : decode cX6_tickOnce 75 = .ok (.astore_n 2, 1) := by decide +kernel
theorem dX6_tickOnce_76 : decode cX6_tickOnce 76 = .ok (.aload_n 2, 1) := by decide +kernel
theorem dX6_tickOnce_77 : decode cX6_tickOnce 77 = .ok (.arraylength, 1) := by decide +kernel
theorem dX6_tickOnce_78 : decode cX6_tickOnce 78 = .ok (.istore_n 3, 1) := by decide +kernel
theorem dX6_tickOnce_79 : decode cX6_tickOnce 79 = .ok (.iconst 0, 1) := by decide +kernel
theorem dX6_tickOnce_80 : decode cX6_tickOnce 80 = .ok (.istore 4, 2) := by decide +kernel
theorem dX6_tickOnce_82 : decode cX6_tickOnce 82 = .ok (.iload 4, 2) := by decide +kernel
theorem dX6_tickOnce_84 : decode cX6_tickOnce 84 = .ok (.iload_n 3, 1) := by decide +kernel
theorem dX6_tickOnce_85 : decode cX6_tickOnce 85 = .ok (.if_icmp .ge 42, 3) := by decide +kernel
theorem dX6_tickOnce_88 : decode cX6_tickOnce 88 = .ok (.aload_n 2, 1) := by decide +kernel
theorem dX6_tickOnce_89 : decode cX6_tickOnce 89 = .ok (.iload 4, 2) := by decide +kernel
theorem dX6_tickOnce_91 : decode cX6_tickOnce 91 = .ok (.aaload, 1) := by decide +kernel
theorem dX6_tickOnce_92 : decode cX6_tickOnce 92 = .ok (.astore 5, 2) := by decide +kernel
theorem dX6_tickOnce_94 : decode cX6_tickOnce 94 = .ok (.aload 5, 2) := by decide +kernel
theorem dX6_tickOnce_96 : decode cX6_tickOnce 96 = .ok (.iconst 1, 1) := by decide +kernel
theorem dX6_tickOnce_97 : decode cX6_tickOnce 97 = .ok (.invokevirtual 125, 3) := by decide +kernel
theorem dX6_tickOnce_100 : decode cX6_tickOnce 100 = .ok (.ifCond .eq 21, 3) := by decide +kernel
theorem dX6_tickOnce_103 : decode cX6_tickOnce 103 = .ok (.aload 5, 2) := by decide +kernel
theorem dX6_tickOnce_105 : decode cX6_tickOnce 105 = .ok (.getfield 157, 3) := by decide +kernel
theorem dX6_tickOnce_108 : decode cX6_tickOnce 108 = .ok (.aload_n 0, 1) := by decide +kernel
theorem dX6_tickOnce_109 : decode cX6_tickOnce 109 = .ok (.getfield 68, 3) := by decide +kernel
theorem dX6_tickOnce_112 : decode cX6_tickOnce 112 = .ok (.if_icmp .ne 9, 3) := by decide +kernel
theorem dX6_tickOnce_115 : decode cX6_tickOnce 115 = .ok (.aload_n 0, 1) := by decide +kernel
theorem dX6_tickOnce_116 : decode cX6_tickOnce 116 = .ok (.aload 5, 2) := by decide +kernel
theorem dX6_tickOnce_118 : decode cX6_tickOnce 118 = .ok (.invokevirtual 100, 3) := by decide +kernel
theorem dX6_tickOnce_121 : decode cX6_tickOnce 121 = .ok (.iinc 4 1, 3) := by decide +kernel
theorem dX6_tickOnce_124 : decode cX6_tickOnce 124 = .ok (.goto (-42), 3) := by decide +kernel
theorem dX6_tickOnce_127 : decode cX6_tickOnce 127 = .ok (.aload_n 0, 1) := by decide +kernel
theorem dX6_tickOnce_128 : decode cX6_tickOnce 128 = .ok (.getfield 65, 3) := by decide +kernel
theorem dX6_tickOnce_131 : decode cX6_tickOnce 131 = .ok (.iload_n 1, 1) := by decide +kernel
theorem dX6_tickOnce_132 : decode cX6_tickOnce 132 = .ok (.isub, 1) := by decide +kernel
theorem dX6_tickOnce_133 : decode cX6_tickOnce 133 = .ok (.ireturn, 1) := by decide +kernel
set_option maxRecDepth 20000 in
theorem ggX6_freeLock_X6_firstWaiting : GoodIn wsX6_freeLock wsX6_firstWaiting := goodIn_r _ [8, 9, 10, 11, 12, 13, 14, 50, 51, 52, 53, 54, 55, 56, 57, 58, 59, 60, 61, 33, 34, 35, 36, 37, 38, 39, 40, 41, 42, 43, 44, 45, 46, 47, 48, 49] (by decide +kernel) (by decide +kernel)
set_option maxRecDepth 20000 in
theorem gX6_freeLock_X6_firstWaiting : GoodIn wsX6_freeLock (wsV RX6 164 RX6 yX6_firstWaiting wsX6_firstWaiting) := goodIn_app (goodIn_of _ (by decide +kernel)) ggX6_freeLock_X6_firstWaiting
set_option maxRecDepth 20000 in
theorem ggX6_freeLock_X2_giveTo : GoodIn wsX6_freeLock wsX2_giveTo := goodIn_r _ [19, 20, 21, 22, 33, 34, 35, 36, 37, 38, 39, 40, 41, 42, 43, 44, 45, 46, 47, 48, 49, 30, 31, 32] (by decide +kernel) (by decide +kernel)
set_option maxRecDepth 20000 in
theorem gX6_freeLock_X2_giveTo : GoodIn wsX6_freeLock (wsV RX6 168 RX2 yX2_giveTo wsX2_giveTo) := goodIn_app (goodIn_of _ (by decide +kernel)) ggX6_freeLock_X2_giveTo
set_option maxRecDepth 20000 in
theorem ggX6_freeLock_X6_makeReady : GoodIn wsX6_freeLock wsX6_makeReady := goodIn_r _ [26, 10, 27, 28, 29, 33, 34, 35, 36, 37, 38, 39, 40, 41, 42, 43, 44, 45, 46, 47, 48, 49, 50, 51, 52, 53, 54, 55, 56, 57, 58, 59, 60, 61] (by decide +kernel) (by decide +kernel)
set_option maxRecDepth 20000 in
theorem gX6_freeLock_X6_makeReady : GoodIn wsX6_freeLock (wsV RX6 100 RX6 yX6_makeReady wsX6_makeReady) := goodIn_app (goodIn_of _ (by decide +kernel)) ggX6_freeLock_X6_makeReady
theorem dX6_freeLock_0 : decode cX6_freeLock 0 = .ok (.aload_n 1, 1) := by decide +kernel
theorem dX6_freeLock_1 : decode cX6_freeLock 1 = .ok (.iconst (-1), 1) := by decide +kernel
theorem dX6_freeLock_2 : decode cX6_freeLock 2 = .ok (.putfield 160, 3) := by decide +kernel
theorem dX6_freeLock_5 : decode cX6_freeLock 5 = .ok (.aload_n 0, 1) := by decide +kernel
theorem dX6_freeLock_6 : decode cX6_freeLock 6 = .ok (.iconst 2, 1) := by decide +kernel
theorem dX6_freeLock_7 : decode cX6_freeLock 7 = .ok (.aload_n 1, 1) := by decide +kernel
theorem dX6_freeLock_8 : decode cX6_freeLock 8 = .ok (.getfield 163, 3) := by decide +kernel
theorem dX6_freeLock_11 : decode cX6_freeLock 11 = .ok (.invokevirtual 164, 3) := by decide +kernel
theorem dX6_freeLock_14 : decode cX6_freeLock 14 = .ok (.astore_n 2, 1) := by decide +kernel
theorem dX6_freeLock_15 : decode cX6_freeLock 15 = .ok (.aload_n 2, 1) := by decide +kernel
theorem dX6_freeLock_16 : decode cX6_freeLock 16 = .ok (.ifnull 18, 3) := by decide +kernel
theorem dX6_freeLock_19 : decode cX6_freeLock 19 = .ok (.aload_n 1, 1) := by decide +kernel
theorem dX6_freeLock_20 : decode cX6_freeLock 20 = .ok (.aload_n 2, 1) := by decide +kernel
theorem dX6_freeLock_21 : decode cX6_freeLock 21 = .ok (.invokevirtual 168, 3) := by decide +kernel
theorem dX6_freeLock_24 : decode cX6_freeLock 24 = .ok (.aload_n 2, 1) := by decide +kernel
theorem dX6_freeLock_25 : decode cX6_freeLock 25 = .ok (.iconst 1, 1) := by decide +kernel
theorem dX6_freeLock_26 : decode cX6_freeLock 26 = .ok (.putfield 116, 3) := by decide +kernel
theorem dX6_freeLock_29 : decode cX6_freeLock 29 = .ok (.aload_n 0, 1) := by decide +kernel
theorem dX6_freeLock_30 : decode cX6_freeLock 30 = .ok (.aload_n 2, 1) := by decide +kernel
theorem dX6_freeLock_31 : decode cX6_freeLock 31 = .ok (.invokevirtual 100, 3) := by decide +kernel
theorem dX6_freeLock_34 : decode cX6_freeLock 34 = .ok (.return_, 1) := by decide +kernel
set_option maxRecDepth 20000 in
theorem ggX6_giveValue_X6_channelAt : GoodIn wsX6_giveValue wsX6_channelAt := goodIn_r _ [9, 10, 41, 42, 43, 44, 45, 46, 47, 48, 49, 50, 51, 52] (by decide +kernel) (by decide +kernel)
set_option maxRecDepth 20000 in
theorem gX6_giveValue_X6_channelAt : GoodIn wsX6_giveValue (wsV RX6 86 RX6 yX6_channelAt wsX6_channelAt) := goodIn_app (goodIn_of _ (by decide +kernel)) ggX6_giveValue_X6_channelAt
set_option maxRecDepth 20000 in
theorem ggX6_giveValue_X6_makeReady : GoodIn wsX6_giveValue wsX6_makeReady := goodIn_r _ [14, 15, 16, 17, 18, 19, 20, 21, 22, 23, 24, 25, 26, 27, 28, 29, 30, 31, 32, 33, 34, 35, 41, 42, 43, 44, 45, 46, 47, 48, 49, 50, 51, 52] (by decide +kernel) (by decide +kernel)
set_option maxRecDepth 20000 in
theorem gX6_giveValue_X6_makeReady : GoodIn wsX6_giveValue (wsV RX6 100 RX6 yX6_makeReady wsX6_makeReady) := goodIn_app (goodIn_of _ (by decide +kernel)) ggX6_giveValue_X6_makeReady
theorem dX6_giveValue_0 : decode cX6_giveValue 0 = .ok (.aload_n 0, 1) := by decide +kernel
theorem dX6_giveValue_1 : decode cX6_giveValue 1 = .ok (.iload_n 2, 1) := by decide +kernel
theorem dX6_giveValue_2 : decode cX6_giveValue 2 = .ok (.invokevirtual 86, 3) := by decide +kernel
theorem dX6_giveValue_5 : decode cX6_giveValue 5 = .ok (.astore 4, 2) := by decide +kernel
theorem dX6_giveValue_7 : decode cX6_giveValue 7 = .ok (.aload 4, 2) := by decide +kernel
theorem dX6_giveValue_9 : decode cX6_giveValue 9 = .ok (.ifnonnull 4, 3) := by decide +kernel
theorem dX6_giveValue_12 : decode cX6_giveValue 12 = .ok (.return_, 1) := by decide +kernel
theorem dX6_giveValue_13 : decode cX6_giveValue 13 = .ok (.aload_n 1, 1) := by decide +kernel
theorem dX6_giveValue_14 : decode cX6_giveValue 14 = .ok (.iload_n 3, 1) := by decide +kernel
theorem dX6_giveValue_15 : decode cX6_giveValue 15 = .ok (.putfield 171, 3) := by decide +kernel
theorem dX6_giveValue_18 : decode cX6_giveValue 18 = .ok (.aload_n 1, 1) := by decide +kernel
theorem dX6_giveValue_19 : decode cX6_giveValue 19 = .ok (.iload_n 2, 1) := by decide +kernel
theorem dX6_giveValue_20 : decode cX6_giveValue 20 = .ok (.putfield 109, 3) := by decide +kernel
theorem dX6_giveValue_23 : decode cX6_giveValue 23 = .ok (.aload_n 1, 1) := by decide +kernel
theorem dX6_giveValue_24 : decode cX6_giveValue 24 = .ok (.iconst 1, 1) := by decide +kernel
theorem dX6_giveValue_25 : decode cX6_giveValue 25 = .ok (.putfield 116, 3) := by decide +kernel
theorem dX6_giveValue_28 : decode cX6_giveValue 28 = .ok (.aload 4, 2) := by decide +kernel
theorem dX6_giveValue_30 : decode cX6_giveValue 30 = .ok (.dup, 1) := by decide +kernel
theorem dX6_giveValue_31 : decode cX6_giveValue 31 = .ok (.getfield 174, 3) := by decide +kernel
theorem dX6_giveValue_34 : decode cX6_giveValue 34 = .ok (.iconst 1, 1) := by decide +kernel
theorem dX6_giveValue_35 : decode cX6_giveValue 35 = .ok (.iadd, 1) := by decide +kernel
theorem dX6_giveValue_36 : decode cX6_giveValue 36 = .ok (.putfield 174, 3) := by decide +kernel
theorem dX6_giveValue_39 : decode cX6_giveValue 39 = .ok (.aload_n 0, 1) := by decide +kernel
theorem dX6_giveValue_40 : decode cX6_giveValue 40 = .ok (.aload_n 1, 1) := by decide +kernel
theorem dX6_giveValue_41 : decode cX6_giveValue 41 = .ok (.invokevirtual 100, 3) := by decide +kernel
theorem dX6_giveValue_44 : decode cX6_giveValue 44 = .ok (.return_, 1) := by decide +kernel
set_option maxRecDepth 20000 in
theorem ggX6_giveBack_X6_lockAt : GoodIn wsX6_giveBack wsX6_lockAt := goodIn_r _ [9, 10, 79, 80, 81, 82, 83, 84, 85, 86, 87, 88, 89, 90] (by decide +kernel) (by decide +kernel)
set_option maxRecDepth 20000 in
theorem gX6_giveBack_X6_lockAt : GoodIn wsX6_giveBack (wsV RX6 177 RX6 yX6_lockAt wsX6_lockAt) := goodIn_app (goodIn_of _ (by decide +kernel)) ggX6_giveBack_X6_lockAt
set_option maxRecDepth 20000 in
theorem ggX6_giveBack_X6_freeLock : GoodIn wsX6_giveBack wsX6_freeLock := goodIn_r _ [14, 15, 16, 1, 17, 18, 19, 8, 20, 21, 22, 23, 2, 24, 25, 26, 27, 28, 29, 30, 31, 32, 33, 34, 35, 36, 37, 38, 39, 40, 91, 92, 93, 57, 58, 59, 60, 61, 62, 63, 64, 65, 66, 67, 68, 69, 70, 71, 72, 73, 79, 80, 81, 82, 83, 84, 85, 86, 87, 88, 89, 90] (by decide +kernel) (by decide +kernel)
set_option maxRecDepth 20000 in
theorem gX6_giveBack_X6_freeLock : GoodIn wsX6_giveBack (wsV RX6 181 RX6 yX6_freeLock wsX6_freeLock) := goodIn_app (goodIn_of _ (by decide +kernel)) ggX6_giveBack_X6_freeLock
set_option maxRecDepth 20000 in
theorem ggX6_giveBack_X6_channelAt : GoodIn wsX6_giveBack wsX6_channelAt := goodIn_r _ [44, 45, 79, 80, 81, 82, 83, 84, 85, 86, 87, 88, 89, 90] (by decide +kernel) (by decide +kernel)
set_option maxRecDepth 20000 in
theorem gX6_giveBack_X6_channelAt : GoodIn wsX6_giveBack (wsV RX6 86 RX6 yX6_channelAt wsX6_channelAt) := goodIn_app (goodIn_of _ (by decide +kernel)) ggX6_giveBack_X6_channelAt
set_option maxRecDepth 20000 in
theorem ggX6_giveBack_X6_firstWaiting : GoodIn wsX6_giveBack wsX6_firstWaiting := goodIn_r _ [20, 21, 22, 23, 2, 24, 25, 79, 80, 81, 82, 83, 84, 85, 86, 87, 88, 89, 90, 57, 58, 59, 60, 61, 62, 63, 64, 65, 66, 67, 68, 69, 70, 71, 72, 73] (by decide +kernel) (by decide +kernel)
set_option maxRecDepth 20000 in
theorem gX6_giveBack_X6_firstWaiting : GoodIn wsX6_giveBack (wsV RX6 164 RX6 yX6_firstWaiting wsX6_firstWaiting) := goodIn_app (goodIn_of _ (by decide +kernel)) ggX6_giveBack_X6_firstWaiting
set_option maxRecDepth 20000 in
theorem ggX6_giveBack_X6_giveValue : GoodIn wsX6_giveBack wsX6_giveValue := goodIn_r _ [49, 4, 2, 1, 3, 41, 42, 43, 8, 44, 45, 34, 35, 36, 37, 22, 38, 39, 40, 57, 58, 59, 60, 61, 62, 63, 64, 65, 66, 67, 68, 69, 70, 71, 72, 73, 74, 75, 76, 77, 78, 79, 80, 81, 82, 83, 84, 85, 86, 87, 88, 89, 90] (by decide +kernel) (by decide +kernel)
set_option maxRecDepth 20000 in
theorem gX6_giveBack_X6_giveValue : GoodIn wsX6_giveBack (wsV RX6 184 RX6 yX6_giveValue wsX6_giveValue) := goodIn_app (goodIn_of _ (by decide +kernel)) ggX6_giveBack_X6_giveValue
set_option maxRecDepth 20000 in
theorem ggX6_giveBack_X1_addFirst : GoodIn wsX6_giveBack wsX1_addFirst := goodIn_r _ [54, 55, 56, 74, 75, 76, 77, 78] (by decide +kernel) (by decide +kernel)
set_option maxRecDepth 20000 in
theorem gX6_giveBack_X1_addFirst : GoodIn wsX6_giveBack (wsV RX6 188 RX1 yX1_addFirst wsX1_addFirst) := goodIn_app (goodIn_of _ (by decide +kernel)) ggX6_giveBack_X1_addFirst
theorem dX6_giveBack_0 : decode cX6_giveBack 0 = .ok (.aload_n 1, 1) := by decide +kernel
theorem dX6_giveBack_1 : decode cX6_giveBack 1 = .ok (.getfield 116, 3) := by decide +kernel
theorem dX6_giveBack_4 : decode cX6_giveBack 4 = .ok (.ifCond .ne 4, 3) := by decide +kernel
theorem dX6_giveBack_7 : decode cX6_giveBack 7 = .ok (.return_, 1) := by decide +kernel
theorem dX6_giveBack_8 : decode cX6_giveBack 8 = .ok (.aload_n 0, 1) := by decide +kernel
theorem dX6_giveBack_9 : decode cX6_giveBack 9 = .ok (.aload_n 1, 1) := by decide +kernel
theorem dX6_giveBack_10 : decode cX6_giveBack 10 = .ok (.getfield 109, 3) := by decide +kernel
theorem dX6_giveBack_13 : decode cX6_giveBack 13 = .ok (.invokevirtual 177, 3) := by decide +kernel
theorem dX6_giveBack_16 : decode cX6_giveBack 16 = .ok (.astore_n 3, 1) := by decide +kernel
theorem dX6_giveBack_17 : decode cX6_giveBack 17 = .ok (.iload_n 2, 1) := by decide +kernel
theorem dX6_giveBack_18 : decode cX6_giveBack 18 = .ok (.iconst 2, 1) := by decide +kernel
theorem dX6_giveBack_19 : decode cX6_giveBack 19 = .ok (.if_icmp .ne 12, 3) := by decide +kernel
theorem dX6_giveBack_22 : decode cX6_giveBack 22 = .ok (.aload_n 3, 1) := by decide +kernel
theorem dX6_giveBack_23 : decode cX6_giveBack 23 = .ok (.ifnull 8, 3) := by decide +kernel
theorem dX6_giveBack_26 : decode cX6_giveBack 26 = .ok (.aload_n 0, 1) := by decide +kernel
theorem dX6_giveBack_27 : decode cX6_giveBack 27 = .ok (.aload_n 3, 1) := by decide +kernel
theorem dX6_giveBack_28 : decode cX6_giveBack 28 = .ok (.invokevirtual 181, 3) := by decide +kernel
theorem dX6_giveBack_31 : decode cX6_giveBack 31 = .ok (.aload_n 0, 1) := by decide +kernel
theorem dX6_giveBack_32 : decode cX6_giveBack 32 = .ok (.aload_n 1, 1) := by decide +kernel
theorem dX6_giveBack_33 : decode cX6_giveBack 33 = .ok (.getfield 109, 3) := by decide +kernel
theorem dX6_giveBack_36 : decode cX6_giveBack 36 = .ok (.invokevirtual 86, 3) := by decide +kernel
theorem dX6_giveBack_39 : decode cX6_giveBack 39 = .ok (.astore 4, 2) := by decide +kernel
theorem dX6_giveBack_41 : decode cX6_giveBack 41 = .ok (.iload_n 2, 1) := by decide +kernel
theorem dX6_giveBack_42 : decode cX6_giveBack 42 = .ok (.iconst 4, 1) := by decide +kernel
theorem dX6_giveBack_43 : decode cX6_giveBack 43 = .ok (.if_icmp .ne 61, 3) := by decide +kernel
theorem dX6_giveBack_46 : decode cX6_giveBack 46 = .ok (.aload 4, 2) := by decide +kernel
theorem dX6_giveBack_48 : decode cX6_giveBack 48 = .ok (.ifnull 56, 3) := by decide +kernel
theorem dX6_giveBack_51 : decode cX6_giveBack 51 = .ok (.aload 4, 2) := by decide +kernel
theorem dX6_giveBack_53 : decode cX6_giveBack 53 = .ok (.dup, 1) := by decide +kernel
theorem dX6_giveBack_54 : decode cX6_giveBack 54 = .ok (.getfield 174, 3) := by decide +kernel
theorem dX6_giveBack_57 : decode cX6_giveBack 57 = .ok (.iconst 1, 1) := by decide +kernel
theorem dX6_giveBack_58 : decode cX6_giveBack 58 = .ok (.isub, 1) := by decide +kernel
theorem dX6_giveBack_59 : decode cX6_giveBack 59 = .ok (.putfield 174, 3) := by decide +kernel
theorem dX6_giveBack_62 : decode cX6_giveBack 62 = .ok (.aload_n 0, 1) := by decide +kernel
theorem dX6_giveBack_63 : decode cX6_giveBack 63 = .ok (.iconst 4, 1) := by decide +kernel
theorem dX6_giveBack_64 : decode cX6_giveBack 64 = .ok (.aload_n 1, 1) := by decide +kernel
theorem dX6_giveBack_65 : decode cX6_giveBack 65 = .ok (.getfield 109, 3) := by decide +kernel
theorem dX6_giveBack_68 : decode cX6_giveBack 68 = .ok (.invokevirtual 164, 3) := by decide +kernel
theorem dX6_giveBack_71 : decode cX6_giveBack 71 = .ok (.astore 5, 2) := by decide +kernel
theorem dX6_giveBack_73 : decode cX6_giveBack 73 = .ok (.aload 5, 2) := by decide +kernel
theorem dX6_giveBack_75 : decode cX6_giveBack 75 = .ok (.ifnull 20, 3) := by decide +kernel
theorem dX6_giveBack_78 : decode cX6_giveBack 78 = .ok (.aload_n 0, 1) := by decide +kernel
theorem dX6_giveBack_79 : decode cX6_giveBack 79 = .ok (.aload 5, 2) := by decide +kernel
theorem dX6_giveBack_81 : decode cX6_giveBack 81 = .ok (.aload_n 1, 1) := by decide +kernel
theorem dX6_giveBack_82 : decode cX6_giveBack 82 = .ok (.getfield 109, 3) := by decide +kernel
theorem dX6_giveBack_85 : decode cX6_giveBack 85 = .ok (.aload_n 1, 1) := by decide +kernel
theorem dX6_giveBack_86 : decode cX6_giveBack 86 = .ok (.getfield 171, 3) := by decide +kernel
theorem dX6_giveBack_89 : decode cX6_giveBack 89 = .ok (.invokevirtual 184, 3) := by decide +kernel
theorem dX6_giveBack_92 : decode cX6_giveBack 92 = .ok (.goto 12, 3) := by decide +kernel
theorem dX6_giveBack_95 : decode cX6_giveBack 95 = .ok (.aload 4, 2) := by decide +kernel
theorem dX6_giveBack_97 : decode cX6_giveBack 97 = .ok (.aload_n 1, 1) := by decide +kernel
theorem dX6_giveBack_98 : decode cX6_giveBack 98 = .ok (.getfield 171, 3) := by decide +kernel
theorem dX6_giveBack_101 : decode cX6_giveBack 101 = .ok (.invokevirtual 188, 3) := by decide +kernel
theorem dX6_giveBack_104 : decode cX6_giveBack 104 = .ok (.return_, 1) := by decide +kernel
set_option maxRecDepth 20000 in
theorem ggX6_hasValue_X6_channelAt : GoodIn wsX6_hasValue wsX6_channelAt := goodIn_r _ [6, 7, 23, 24, 25, 26, 27, 28, 29, 30, 31, 32, 33, 34] (by decide +kernel) (by decide +kernel)
set_option maxRecDepth 20000 in
theorem gX6_hasValue_X6_channelAt : GoodIn wsX6_hasValue (wsV RX6 86 RX6 yX6_channelAt wsX6_channelAt) := goodIn_app (goodIn_of _ (by decide +kernel)) ggX6_hasValue_X6_channelAt
set_option maxRecDepth 20000 in
theorem ggX6_hasValue_X6_firstWaiting : GoodIn wsX6_hasValue wsX6_firstWaiting := goodIn_r _ [11, 12, 13, 14, 15, 16, 17, 23, 24, 25, 26, 27, 28, 29, 30, 31, 32, 33, 34, 35, 36, 37, 38, 39, 40, 41, 42, 43, 44, 45, 46, 47, 48, 49, 50, 51] (by decide +kernel) (by decide +kernel)
set_option maxRecDepth 20000 in
theorem gX6_hasValue_X6_firstWaiting : GoodIn wsX6_hasValue (wsV RX6 164 RX6 yX6_firstWaiting wsX6_firstWaiting) := goodIn_app (goodIn_of _ (by decide +kernel)) ggX6_hasValue_X6_firstWaiting
theorem dX6_hasValue_0 : decode cX6_hasValue 0 = .ok (.aload_n 0, 1) := by decide +kernel
theorem dX6_hasValue_1 : decode cX6_hasValue 1 = .ok (.iload_n 1, 1) := by decide +kernel
theorem dX6_hasValue_2 : decode cX6_hasValue 2 = .ok (.invokevirtual 86, 3) := by decide +kernel
theorem dX6_hasValue_5 : decode cX6_hasValue 5 = .ok (.astore_n 2, 1) := by decide +kernel
theorem dX6_hasValue_6 : decode cX6_hasValue 6 = .ok (.aload_n 2, 1) := by decide +kernel
theorem dX6_hasValue_7 : decode cX6_hasValue 7 = .ok (.ifnull 23, 3) := by decide +kernel
theorem dX6_hasValue_10 : decode cX6_hasValue 10 = .ok (.aload_n 2, 1) := by decide +kernel
theorem dX6_hasValue_11 : decode cX6_hasValue 11 = .ok (.getfield 191, 3) := by decide +kernel
theorem dX6_hasValue_14 : decode cX6_hasValue 14 = .ok (.ifCond .gt 12, 3) := by decide +kernel
theorem dX6_hasValue_17 : decode cX6_hasValue 17 = .ok (.aload_n 0, 1) := by decide +kernel
theorem dX6_hasValue_18 : decode cX6_hasValue 18 = .ok (.iconst 3, 1) := by decide +kernel
theorem dX6_hasValue_19 : decode cX6_hasValue 19 = .ok (.iload_n 1, 1) := by decide +kernel
theorem dX6_hasValue_20 : decode cX6_hasValue 20 = .ok (.invokevirtual 164, 3) := by decide +kernel
theorem dX6_hasValue_23 : decode cX6_hasValue 23 = .ok (.ifnull 7, 3) := by decide +kernel
theorem dX6_hasValue_26 : decode cX6_hasValue 26 = .ok (.iconst 1, 1) := by decide +kernel
theorem dX6_hasValue_27 : decode cX6_hasValue 27 = .ok (.goto 4, 3) := by decide +kernel
theorem dX6_hasValue_30 : decode cX6_hasValue 30 = .ok (.iconst 0, 1) := by decide +kernel
theorem dX6_hasValue_31 : decode cX6_hasValue 31 = .ok (.ireturn, 1) := by decide +kernel
set_option maxRecDepth 20000 in
theorem ggX6_takeValue_X6_channelAt : GoodIn wsX6_takeValue wsX6_channelAt := goodIn_r _ [8, 9, 64, 65, 66, 67, 68, 69, 70, 71, 72, 73, 74, 75] (by decide +kernel) (by decide +kernel)
set_option maxRecDepth 20000 in
theorem gX6_takeValue_X6_channelAt : GoodIn wsX6_takeValue (wsV RX6 86 RX6 yX6_channelAt wsX6_channelAt) := goodIn_app (goodIn_of _ (by decide +kernel)) ggX6_takeValue_X6_channelAt
set_option maxRecDepth 20000 in
theorem ggX6_takeValue_X6_firstWaiting : GoodIn wsX6_takeValue wsX6_firstWaiting := goodIn_r _ [13, 14, 15, 16, 17, 18, 19, 64, 65, 66, 67, 68, 69, 70, 71, 72, 73, 74, 75, 47, 48, 49, 50, 51, 52, 53, 54, 55, 56, 57, 58, 59, 60, 61, 62, 63] (by decide +kernel) (by decide +kernel)
set_option maxRecDepth 20000 in
theorem gX6_takeValue_X6_firstWaiting : GoodIn wsX6_takeValue (wsV RX6 164 RX6 yX6_firstWaiting wsX6_firstWaiting) := goodIn_app (goodIn_of _ (by decide +kernel)) ggX6_takeValue_X6_firstWaiting
set_option maxRecDepth 20000 in
theorem ggX6_takeValue_X1_first : GoodIn wsX6_takeValue wsX1_first := goodIn_r _ [24, 25, 26, 42, 43, 44, 45, 46] (by decide +kernel) (by decide +kernel)
set_option maxRecDepth 20000 in
theorem gX6_takeValue_X1_first : GoodIn wsX6_takeValue (wsV RX6 194 RX1 yX1_first wsX1_first) := goodIn_app (goodIn_of _ (by decide +kernel)) ggX6_takeValue_X1_first
set_option maxRecDepth 20000 in
theorem ggX6_takeValue_X1_dropFirst : GoodIn wsX6_takeValue wsX1_dropFirst := goodIn_r _ [30, 25, 26, 42, 43, 44, 45, 46] (by decide +kernel) (by decide +kernel)
set_option maxRecDepth 20000 in
theorem gX6_takeValue_X1_dropFirst : GoodIn wsX6_takeValue (wsV RX6 198 RX1 yX1_dropFirst wsX1_dropFirst) := goodIn_app (goodIn_of _ (by decide +kernel)) ggX6_takeValue_X1_dropFirst
set_option maxRecDepth 20000 in
theorem ggX6_takeValue_X1_addLast : GoodIn wsX6_takeValue wsX1_addLast := goodIn_r _ [34, 25, 26, 42, 43, 44, 45, 46] (by decide +kernel) (by decide +kernel)
set_option maxRecDepth 20000 in
theorem gX6_takeValue_X1_addLast : GoodIn wsX6_takeValue (wsV RX6 201 RX1 yX1_addLast wsX1_addLast) := goodIn_app (goodIn_of _ (by decide +kernel)) ggX6_takeValue_X1_addLast
set_option maxRecDepth 20000 in
theorem ggX6_takeValue_X6_makeReady : GoodIn wsX6_takeValue wsX6_makeReady := goodIn_r _ [38, 15, 39, 40, 41, 47, 48, 49, 50, 51, 52, 53, 54, 55, 56, 57, 58, 59, 60, 61, 62, 63, 64, 65, 66, 67, 68, 69, 70, 71, 72, 73, 74, 75] (by decide +kernel) (by decide +kernel)
set_option maxRecDepth 20000 in
theorem gX6_takeValue_X6_makeReady : GoodIn wsX6_takeValue (wsV RX6 100 RX6 yX6_makeReady wsX6_makeReady) := goodIn_app (goodIn_of _ (by decide +kernel)) ggX6_takeValue_X6_makeReady
theorem dX6_takeValue_0 : decode cX6_takeValue 0 = .ok (.aload_n 0, 1) := by decide +kernel
theorem dX6_takeValue_1 : decode cX6_takeValue 1 = .ok (.iload_n 1, 1) := by decide +kernel
theorem dX6_takeValue_2 : decode cX6_takeValue 2 = .ok (.invokevirtual 86, 3) := by decide +kernel
theorem dX6_takeValue_5 : decode cX6_takeValue 5 = .ok (.astore_n 2, 1) := by decide +kernel
theorem dX6_takeValue_6 : decode cX6_takeValue 6 = .ok (.aload_n 2, 1) := by decide +kernel
theorem dX6_takeValue_7 : decode cX6_takeValue 7 = .ok (.ifnonnull 5, 3) := by decide +kernel
theorem dX6_takeValue_10 : decode cX6_takeValue 10 = .ok (.iconst 0, 1) := by decide +kernel
theorem dX6_takeValue_11 : decode cX6_takeValue 11 = .ok (.ireturn, 1) := by decide +kernel
theorem dX6_takeValue_12 : decode cX6_takeValue 12 = .ok (.aload_n 0, 1) := by decide +kernel
theorem dX6_takeValue_13 : decode cX6_takeValue 13 = .ok (.iconst 3, 1) := by decide +kernel
theorem dX6_takeValue_14 : decode cX6_takeValue 14 = .ok (.iload_n 1, 1) := by decide +kernel
theorem dX6_takeValue_15 : decode cX6_takeValue 15 = .ok (.invokevirtual 164, 3) := by decide +kernel
theorem dX6_takeValue_18 : decode cX6_takeValue 18 = .ok (.astore_n 3, 1) := by decide +kernel
theorem dX6_takeValue_19 : decode cX6_takeValue 19 = .ok (.aload_n 2, 1) := by decide +kernel
theorem dX6_takeValue_20 : decode cX6_takeValue 20 = .ok (.invokevirtual 194, 3) := by decide +kernel
theorem dX6_takeValue_23 : decode cX6_takeValue 23 = .ok (.istore 4, 2) := by decide +kernel
theorem dX6_takeValue_25 : decode cX6_takeValue 25 = .ok (.aload_n 2, 1) := by decide +kernel
theorem dX6_takeValue_26 : decode cX6_takeValue 26 = .ok (.getfield 191, 3) := by decide +kernel
theorem dX6_takeValue_29 : decode cX6_takeValue 29 = .ok (.ifCond .ne 16, 3) := by decide +kernel
theorem dX6_takeValue_32 : decode cX6_takeValue 32 = .ok (.aload_n 3, 1) := by decide +kernel
theorem dX6_takeValue_33 : decode cX6_takeValue 33 = .ok (.ifnull 12, 3) := by decide +kernel
theorem dX6_takeValue_36 : decode cX6_takeValue 36 = .ok (.aload_n 3, 1) := by decide +kernel
theorem dX6_takeValue_37 : decode cX6_takeValue 37 = .ok (.getfield 171, 3) := by decide +kernel
theorem dX6_takeValue_40 : decode cX6_takeValue 40 = .ok (.istore 4, 2) := by decide +kernel
theorem dX6_takeValue_42 : decode cX6_takeValue 42 = .ok (.goto 26, 3) := by decide +kernel
theorem dX6_takeValue_45 : decode cX6_takeValue 45 = .ok (.aload_n 3, 1) := by decide +kernel
theorem dX6_takeValue_46 : decode cX6_takeValue 46 = .ok (.ifnull 18, 3) := by decide +kernel
theorem dX6_takeValue_49 : decode cX6_takeValue 49 = .ok (.aload_n 2, 1) := by decide +kernel
theorem dX6_takeValue_50 : decode cX6_takeValue 50 = .ok (.invokevirtual 198, 3) := by decide +kernel
theorem dX6_takeValue_53 : decode cX6_takeValue 53 = .ok (.aload_n 2, 1) := by decide +kernel
theorem dX6_takeValue_54 : decode cX6_takeValue 54 = .ok (.aload_n 3, 1) := by decide +kernel
theorem dX6_takeValue_55 : decode cX6_takeValue 55 = .ok (.getfield 171, 3) := by decide +kernel
theorem dX6_takeValue_58 : decode cX6_takeValue 58 = .ok (.invokevirtual 201, 3) := by decide +kernel
theorem dX6_takeValue_61 : decode cX6_takeValue 61 = .ok (.goto 7, 3) := by decide +kernel
theorem dX6_takeValue_64 : decode cX6_takeValue 64 = .ok (.aload_n 2, 1) := by decide +kernel
theorem dX6_takeValue_65 : decode cX6_takeValue 65 = .ok (.invokevirtual 198, 3) := by decide +kernel
theorem dX6_takeValue_68 : decode cX6_takeValue 68 = .ok (.aload_n 3, 1) := by decide +kernel
theorem dX6_takeValue_69 : decode cX6_takeValue 69 = .ok (.ifnull 8, 3) := by decide +kernel
theorem dX6_takeValue_72 : decode cX6_takeValue 72 = .ok (.aload_n 0, 1) := by decide +kernel
theorem dX6_takeValue_73 : decode cX6_takeValue 73 = .ok (.aload_n 3, 1) := by decide +kernel
theorem dX6_takeValue_74 : decode cX6_takeValue 74 = .ok (.invokevirtual 100, 3) := by decide +kernel
theorem dX6_takeValue_77 : decode cX6_takeValue 77 = .ok (.aload_n 2, 1) := by decide +kernel
theorem dX6_takeValue_78 : decode cX6_takeValue 78 = .ok (.dup, 1) := by decide +kernel
theorem dX6_takeValue_79 : decode cX6_takeValue 79 = .ok (.getfield 174, 3) := by decide +kernel
theorem dX6_takeValue_82 : decode cX6_takeValue 82 = .ok (.iconst 1, 1) := by decide +kernel
theorem dX6_takeValue_83 : decode cX6_takeValue 83 = .ok (.iadd, 1) := by decide +kernel
theorem dX6_takeValue_84 : decode cX6_takeValue 84 = .ok (.putfield 174, 3) := by decide +kernel
theorem dX6_takeValue_87 : decode cX6_takeValue 87 = .ok (.iload 4, 2) := by decide +kernel
theorem dX6_takeValue_89 : decode cX6_takeValue 89 = .ok (.ireturn, 1) := by decide +kernel
theorem dX6_allEnded_0 : decode cX6_allEnded 0 = .ok (.aload_n 0, 1) := by decide +kernel
theorem dX6_allEnded_1 : decode cX6_allEnded 1 = .ok (.getfield 31, 3) := by decide +kernel
theorem dX6_allEnded_4 : decode cX6_allEnded 4 = .ok (.astore_n 1, 1) := by decide +kernel
theorem dX6_allEnded_5 : decode cX6_allEnded 5 = .ok (.aload_n 1, 1) := by decide +kernel
theorem dX6_allEnded_6 : decode cX6_allEnded 6 = .ok (.arraylength, 1) := by decide +kernel
theorem dX6_allEnded_7 : decode cX6_allEnded 7 = .ok (.istore_n 2, 1) := by decide +kernel
theorem dX6_allEnded_8 : decode cX6_allEnded 8 = .ok (.iconst 0, 1) := by decide +kernel
theorem dX6_allEnded_9 : decode cX6_allEnded 9 = .ok (.istore_n 3, 1) := by decide +kernel
theorem dX6_allEnded_10 : decode cX6_allEnded 10 = .ok (.iload_n 3, 1) := by decide +kernel
theorem dX6_allEnded_11 : decode cX6_allEnded 11 = .ok (.iload_n 2, 1) := by decide +kernel
theorem dX6_allEnded_12 : decode cX6_allEnded 12 = .ok (.if_icmp .ge 24, 3) := by decide +kernel
theorem dX6_allEnded_15 : decode cX6_allEnded 15 = .ok (.aload_n 1, 1) := by decide +kernel
theorem dX6_allEnded_16 : decode cX6_allEnded 16 = .ok (.iload_n 3, 1) := by decide +kernel
theorem dX6_allEnded_17 : decode cX6_allEnded 17 = .ok (.aaload, 1) := by decide +kernel
theorem dX6_allEnded_18 : decode cX6_allEnded 18 = .ok (.astore 4, 2) := by decide +kernel
theorem dX6_allEnded_20 : decode cX6_allEnded 20 = .ok (.aload 4, 2) := by decide +kernel
theorem dX6_allEnded_22 : decode cX6_allEnded 22 = .ok (.getfield 204, 3) := by decide +kernel
theorem dX6_allEnded_25 : decode cX6_allEnded 25 = .ok (.ifCond .ne 5, 3) := by decide +kernel
theorem dX6_allEnded_28 : decode cX6_allEnded 28 = .ok (.iconst 0, 1) := by decide +kernel
theorem dX6_allEnded_29 : decode cX6_allEnded 29 = .ok (.ireturn, 1) := by decide +kernel
theorem dX6_allEnded_30 : decode cX6_allEnded 30 = .ok (.iinc 3 1, 3) := by decide +kernel
theorem dX6_allEnded_33 : decode cX6_allEnded 33 = .ok (.goto (-23), 3) := by decide +kernel
theorem dX6_allEnded_36 : decode cX6_allEnded 36 = .ok (.iconst 1, 1) := by decide +kernel
theorem dX6_allEnded_37 : decode cX6_allEnded 37 = .ok (.ireturn, 1) := by decide +kernel
set_option maxRecDepth 20000 in
theorem ggX6_putEnd_X6_channelAt : GoodIn wsX6_putEnd wsX6_channelAt := goodIn_r _ [8, 9, 52, 53, 54, 55, 56, 57, 58, 59, 60, 61, 62, 63] (by decide +kernel) (by decide +kernel)
set_option maxRecDepth 20000 in
theorem gX6_putEnd_X6_channelAt : GoodIn wsX6_putEnd (wsV RX6 86 RX6 yX6_channelAt wsX6_channelAt) := goodIn_app (goodIn_of _ (by decide +kernel)) ggX6_putEnd_X6_channelAt
set_option maxRecDepth 20000 in
theorem ggX6_putEnd_X6_allEnded : GoodIn wsX6_putEnd wsX6_allEnded := goodIn_r _ [13, 9, 1, 52, 53, 54, 55, 56, 57, 58, 59, 60, 61, 62, 63, 30, 31, 32, 33, 34] (by decide +kernel) (by decide +kernel)
set_option maxRecDepth 20000 in
theorem gX6_putEnd_X6_allEnded : GoodIn wsX6_putEnd (wsV RX6 207 RX6 yX6_allEnded wsX6_allEnded) := goodIn_app (goodIn_of _ (by decide +kernel)) ggX6_putEnd_X6_allEnded
set_option maxRecDepth 20000 in
theorem ggX6_putEnd_X6_firstInVain : GoodIn wsX6_putEnd wsX6_firstInVain := goodIn_r _ [17, 18, 19, 2, 20, 21, 22, 52, 53, 54, 55, 56, 57, 58, 59, 60, 61, 62, 63, 35, 36, 37, 38, 39, 40, 41, 42, 43, 44, 45, 46, 47, 48, 49, 50, 51] (by decide +kernel) (by decide +kernel)
set_option maxRecDepth 20000 in
theorem gX6_putEnd_X6_firstInVain : GoodIn wsX6_putEnd (wsV RX6 210 RX6 yX6_firstInVain wsX6_firstInVain) := goodIn_app (goodIn_of _ (by decide +kernel)) ggX6_putEnd_X6_firstInVain
set_option maxRecDepth 20000 in
theorem ggX6_putEnd_X6_makeReady : GoodIn wsX6_putEnd wsX6_makeReady := goodIn_r _ [26, 19, 27, 28, 29, 35, 36, 37, 38, 39, 40, 41, 42, 43, 44, 45, 46, 47, 48, 49, 50, 51, 52, 53, 54, 55, 56, 57, 58, 59, 60, 61, 62, 63] (by decide +kernel) (by decide +kernel)
set_option maxRecDepth 20000 in
theorem gX6_putEnd_X6_makeReady : GoodIn wsX6_putEnd (wsV RX6 100 RX6 yX6_makeReady wsX6_makeReady) := goodIn_app (goodIn_of _ (by decide +kernel)) ggX6_putEnd_X6_makeReady
theorem dX6_putEnd_0 : decode cX6_putEnd 0 = .ok (.aload_n 0, 1) := by decide +kernel
theorem dX6_putEnd_1 : decode cX6_putEnd 1 = .ok (.iload_n 1, 1) := by decide +kernel
theorem dX6_putEnd_2 : decode cX6_putEnd 2 = .ok (.invokevirtual 86, 3) := by decide +kernel
theorem dX6_putEnd_5 : decode cX6_putEnd 5 = .ok (.astore_n 2, 1) := by decide +kernel
theorem dX6_putEnd_6 : decode cX6_putEnd 6 = .ok (.aload_n 2, 1) := by decide +kernel
theorem dX6_putEnd_7 : decode cX6_putEnd 7 = .ok (.ifnonnull 4, 3) := by decide +kernel
theorem dX6_putEnd_10 : decode cX6_putEnd 10 = .ok (.return_, 1) := by decide +kernel
theorem dX6_putEnd_11 : decode cX6_putEnd 11 = .ok (.aload_n 2, 1) := by decide +kernel
theorem dX6_putEnd_12 : decode cX6_putEnd 12 = .ok (.iconst 1, 1) := by decide +kernel
theorem dX6_putEnd_13 : decode cX6_putEnd 13 = .ok (.putfield 204, 3) := by decide +kernel
theorem dX6_putEnd_16 : decode cX6_putEnd 16 = .ok (.aload_n 0, 1) := by decide +kernel
theorem dX6_putEnd_17 : decode cX6_putEnd 17 = .ok (.invokevirtual 207, 3) := by decide +kernel
theorem dX6_putEnd_20 : decode cX6_putEnd 20 = .ok (.istore_n 3, 1) := by decide +kernel
theorem dX6_putEnd_21 : decode cX6_putEnd 21 = .ok (.iconst 0, 1) := by decide +kernel
theorem dX6_putEnd_22 : decode cX6_putEnd 22 = .ok (.istore 4, 2) := by decide +kernel
theorem dX6_putEnd_24 : decode cX6_putEnd 24 = .ok (.iload 4, 2) := by decide +kernel
theorem dX6_putEnd_26 : decode cX6_putEnd 26 = .ok (.bipush 24, 2) := by decide +kernel
theorem dX6_putEnd_28 : decode cX6_putEnd 28 = .ok (.if_icmp .ge 49, 3) := by decide +kernel
theorem dX6_putEnd_31 : decode cX6_putEnd 31 = .ok (.aload_n 0, 1) := by decide +kernel
theorem dX6_putEnd_32 : decode cX6_putEnd 32 = .ok (.iload_n 1, 1) := by decide +kernel
theorem dX6_putEnd_33 : decode cX6_putEnd 33 = .ok (.iload_n 3, 1) := by decide +kernel
theorem dX6_putEnd_34 : decode cX6_putEnd 34 = .ok (.invokevirtual 210, 3) := by decide +kernel
theorem dX6_putEnd_37 : decode cX6_putEnd 37 = .ok (.astore 5, 2) := by decide +kernel
theorem dX6_putEnd_39 : decode cX6_putEnd 39 = .ok (.aload 5, 2) := by decide +kernel
theorem dX6_putEnd_41 : decode cX6_putEnd 41 = .ok (.ifnonnull 4, 3) := by decide +kernel
theorem dX6_putEnd_44 : decode cX6_putEnd 44 = .ok (.return_, 1) := by decide +kernel
theorem dX6_putEnd_45 : decode cX6_putEnd 45 = .ok (.aload 5, 2) := by decide +kernel
theorem dX6_putEnd_47 : decode cX6_putEnd 47 = .ok (.aload 5, 2) := by decide +kernel
theorem dX6_putEnd_49 : decode cX6_putEnd 49 = .ok (.getfield 106, 3) := by decide +kernel
theorem dX6_putEnd_52 : decode cX6_putEnd 52 = .ok (.iconst 3, 1) := by decide +kernel
theorem dX6_putEnd_53 : decode cX6_putEnd 53 = .ok (.if_icmp .ne 7, 3) := by decide +kernel
theorem dX6_putEnd_56 : decode cX6_putEnd 56 = .ok (.iconst 5, 1) := by decide +kernel
theorem dX6_putEnd_57 : decode cX6_putEnd 57 = .ok (.goto 5, 3) := by decide +kernel
theorem dX6_putEnd_60 : decode cX6_putEnd 60 = .ok (.bipush 6, 2) := by decide +kernel
theorem dX6_putEnd_62 : decode cX6_putEnd 62 = .ok (.putfield 119, 3) := by decide +kernel
theorem dX6_putEnd_65 : decode cX6_putEnd 65 = .ok (.aload_n 0, 1) := by decide +kernel
theorem dX6_putEnd_66 : decode cX6_putEnd 66 = .ok (.aload 5, 2) := by decide +kernel
theorem dX6_putEnd_68 : decode cX6_putEnd 68 = .ok (.invokevirtual 100, 3) := by decide +kernel
theorem dX6_putEnd_71 : decode cX6_putEnd 71 = .ok (.iinc 4 1, 3) := by decide +kernel
theorem dX6_putEnd_74 : decode cX6_putEnd 74 = .ok (.goto (-50), 3) := by decide +kernel
theorem dX6_putEnd_77 : decode cX6_putEnd 77 = .ok (.return_, 1) := by decide +kernel
theorem dX6_firstInVain_0 : decode cX6_firstInVain 0 = .ok (.aconst_null, 1) := by decide +kernel
theorem dX6_firstInVain_1 : decode cX6_firstInVain 1 = .ok (.astore_n 3, 1) := by decide +kernel
theorem dX6_firstInVain_2 : decode cX6_firstInVain 2 = .ok (.aload_n 0, 1) := by decide +kernel
theorem dX6_firstInVain_3 : decode cX6_firstInVain 3 = .ok (.getfield 11, 3) := by decide +kernel
theorem dX6_firstInVain_6 : decode cX6_firstInVain 6 = .ok (.astore 4, 2) := by decide +kernel
theorem dX6_firstInVain_8 : decode cX6_firstInVain 8 = .ok (.aload 4, 2) := by decide +kernel
theorem dX6_firstInVain_10 : decode cX6_firstInVain 10 = .ok (.arraylength, 1) := by decide +kernel
theorem dX6_firstInVain_11 : decode cX6_firstInVain 11 = .ok (.istore 5, 2) := by decide +kernel
theorem dX6_firstInVain_13 : decode cX6_firstInVain 13 = .ok (.iconst 0, 1) := by decide +kernel
theorem dX6_firstInVain_14 : decode cX6_firstInVain 14 = .ok (.istore 6, 2) := by decide +kernel
theorem dX6_firstInVain_16 : decode cX6_firstInVain 16 = .ok (.iload 6, 2) := by decide +kernel
theorem dX6_firstInVain_18 : decode cX6_firstInVain 18 = .ok (.iload 5, 2) := by decide +kernel
theorem dX6_firstInVain_20 : decode cX6_firstInVain 20 = .ok (.if_icmp .ge 98, 3) := by decide +kernel
theorem dX6_firstInVain_23 : decode cX6_firstInVain 23 = .ok (.aload 4, 2) := by decide +kernel
theorem dX6_firstInVain_25 : decode cX6_firstInVain 25 = .ok (.iload 6, 2) := by decide +kernel
theorem dX6_firstInVain_27 : decode cX6_firstInVain 27 = .ok (.aaload, 1) := by decide +kernel
theorem dX6_firstInVain_28 : decode cX6_firstInVain 28 = .ok (.astore 7, 2) := by decide +kernel
theorem dX6_firstInVain_30 : decode cX6_firstInVain 30 = .ok (.aload 7, 2) := by decide +kernel
theorem dX6_firstInVain_32 : decode cX6_firstInVain 32 = .ok (.getfield 80, 3) := by decide +kernel
theorem dX6_firstInVain_35 : decode cX6_firstInVain 35 = .ok (.iconst 1, 1) := by decide +kernel
theorem dX6_firstInVain_36 : decode cX6_firstInVain 36 = .ok (.if_icmp .ne 49, 3) := by decide +kernel
theorem dX6_firstInVain_39 : decode cX6_firstInVain 39 = .ok (.aload 7, 2) := by decide +kernel
theorem dX6_firstInVain_41 : decode cX6_firstInVain 41 = .ok (.getfield 106, 3) := by decide +kernel
theorem dX6_firstInVain_44 : decode cX6_firstInVain 44 = .ok (.iconst 3, 1) := by decide +kernel
theorem dX6_firstInVain_45 : decode cX6_firstInVain 45 = .ok (.if_icmp .eq 12, 3) := by decide +kernel
theorem dX6_firstInVain_48 : decode cX6_firstInVain 48 = .ok (.aload 7, 2) := by decide +kernel
theorem dX6_firstInVain_50 : decode cX6_firstInVain 50 = .ok (.getfield 106, 3) := by decide +kernel
theorem dX6_firstInVain_53 : decode cX6_firstInVain 53 = .ok (.iconst 4, 1) := by decide +kernel
theorem dX6_firstInVain_54 : decode cX6_firstInVain 54 = .ok (.if_icmp .ne 31, 3) := by decide +kernel
theorem dX6_firstInVain_57 : decode cX6_firstInVain 57 = .ok (.aload 7, 2) := by decide +kernel
theorem dX6_firstInVain_59 : decode cX6_firstInVain 59 = .ok (.getfield 112, 3) := by decide +kernel
theorem dX6_firstInVain_62 : decode cX6_firstInVain 62 = .ok (.ifCond .eq 10, 3) := by decide +kernel
theorem dX6_firstInVain_65 : decode cX6_firstInVain 65 = .ok (.iload_n 2, 1) := by decide +kernel
theorem dX6_firstInVain_66 : decode cX6_firstInVain 66 = .ok (.ifCond .eq 19, 3) := by decide +kernel
theorem dX6_firstInVain_69 : decode cX6_firstInVain 69 = .ok (.goto 12, 3) := by decide +kernel
theorem dX6_firstInVain_72 : decode cX6_firstInVain 72 = .ok (.aload 7, 2) := by decide +kernel
theorem dX6_firstInVain_74 : decode cX6_firstInVain 74 = .ok (.getfield 109, 3) := by decide +kernel
theorem dX6_firstInVain_77 : decode cX6_firstInVain 77 = .ok (.iload_n 1, 1) := by decide +kernel
theorem dX6_firstInVain_78 : decode cX6_firstInVain 78 = .ok (.if_icmp .ne 7, 3) := by decide +kernel
theorem dX6_firstInVain_81 : decode cX6_firstInVain 81 = .ok (.iconst 1, 1) := by decide +kernel
theorem dX6_firstInVain_82 : decode cX6_firstInVain 82 = .ok (.goto 4, 3) := by decide +kernel
theorem dX6_firstInVain_85 : decode cX6_firstInVain 85 = .ok (.iconst 0, 1) := by decide +kernel
theorem dX6_firstInVain_86 : decode cX6_firstInVain 86 = .ok (.istore 8, 2) := by decide +kernel
theorem dX6_firstInVain_88 : decode cX6_firstInVain 88 = .ok (.iload 8, 2) := by decide +kernel
theorem dX6_firstInVain_90 : decode cX6_firstInVain 90 = .ok (.ifCond .eq 22, 3) := by decide +kernel
theorem dX6_firstInVain_93 : decode cX6_firstInVain 93 = .ok (.aload_n 3, 1) := by decide +kernel
theorem dX6_firstInVain_94 : decode cX6_firstInVain 94 = .ok (.ifnull 15, 3) := by decide +kernel
theorem dX6_firstInVain_97 : decode cX6_firstInVain 97 = .ok (.aload 7, 2) := by decide +kernel
theorem dX6_firstInVain_99 : decode cX6_firstInVain 99 = .ok (.getfield 122, 3) := by decide +kernel
theorem dX6_firstInVain_102 : decode cX6_firstInVain 102 = .ok (.aload_n 3, 1) := by decide +kernel
theorem dX6_firstInVain_103 : decode cX6_firstInVain 103 = .ok (.getfield 122, 3) := by decide +kernel
theorem dX6_firstInVain_106 : decode cX6_firstInVain 106 = .ok (.if_icmp .ge 6, 3) := by decide +kernel
theorem dX6_firstInVain_109 : decode cX6_firstInVain 109 = .ok (.aload 7, 2) := by decide +kernel
theorem dX6_firstInVain_111 : decode cX6_firstInVain 111 = .ok (.astore_n 3, 1) := by decide +kernel
theorem dX6_firstInVain_112 : decode cX6_firstInVain 112 = .ok (.iinc 6 1, 3) := by decide +kernel
theorem dX6_firstInVain_115 : decode cX6_firstInVain 115 = .ok (.goto (-99), 3) := by decide +kernel
theorem dX6_firstInVain_118 : decode cX6_firstInVain 118 = .ok (.aload_n 3, 1) := by decide +kernel
theorem dX6_firstInVain_119 : decode cX6_firstInVain 119 = .ok (.areturn, 1) := by decide +kernel
theorem dX7_init_0 : decode cX7_init 0 = .ok (.aload_n 0, 1) := by decide +kernel
theorem dX7_init_1 : decode cX7_init 1 = .ok (.invokespecial 3, 3) := by decide +kernel
theorem dX7_init_4 : decode cX7_init 4 = .ok (.aload_n 0, 1) := by decide +kernel
theorem dX7_init_5 : decode cX7_init 5 = .ok (.iconst 4, 1) := by decide +kernel
theorem dX7_init_6 : decode cX7_init 6 = .ok (.newarray .int, 2) := by decide +kernel
theorem dX7_init_8 : decode cX7_init 8 = .ok (.putfield 9, 3) := by decide +kernel
theorem dX7_init_11 : decode cX7_init 11 = .ok (.aload_n 0, 1) := by decide +kernel
theorem dX7_init_12 : decode cX7_init 12 = .ok (.iconst (-1), 1) := by decide +kernel
theorem dX7_init_13 : decode cX7_init 13 = .ok (.putfield 15, 3) := by decide +kernel
theorem dX7_init_16 : decode cX7_init 16 = .ok (.aload_n 0, 1) := by decide +kernel
theorem dX7_init_17 : decode cX7_init 17 = .ok (.iconst (-1), 1) := by decide +kernel
theorem dX7_init_18 : decode cX7_init 18 = .ok (.putfield 19, 3) := by decide +kernel
theorem dX7_init_21 : decode cX7_init 21 = .ok (.aload_n 0, 1) := by decide +kernel
theorem dX7_init_22 : decode cX7_init 22 = .ok (.iconst (-1), 1) := by decide +kernel
theorem dX7_init_23 : decode cX7_init 23 = .ok (.putfield 22, 3) := by decide +kernel
theorem dX7_init_26 : decode cX7_init 26 = .ok (.aload_n 0, 1) := by decide +kernel
theorem dX7_init_27 : decode cX7_init 27 = .ok (.iload_n 1, 1) := by decide +kernel
theorem dX7_init_28 : decode cX7_init 28 = .ok (.putfield 25, 3) := by decide +kernel
theorem dX7_init_31 : decode cX7_init 31 = .ok (.return_, 1) := by decide +kernel
theorem dX7_isOver_0 : decode cX7_isOver 0 = .ok (.aload_n 0, 1) := by decide +kernel
theorem dX7_isOver_1 : decode cX7_isOver 1 = .ok (.getfield 15, 3) := by decide +kernel
theorem dX7_isOver_4 : decode cX7_isOver 4 = .ok (.iconst 2, 1) := by decide +kernel
theorem dX7_isOver_5 : decode cX7_isOver 5 = .ok (.if_icmp .eq 19, 3) := by decide +kernel
theorem dX7_isOver_8 : decode cX7_isOver 8 = .ok (.aload_n 0, 1) := by decide +kernel
theorem dX7_isOver_9 : decode cX7_isOver 9 = .ok (.getfield 15, 3) := by decide +kernel
theorem dX7_isOver_12 : decode cX7_isOver 12 = .ok (.iconst 3, 1) := by decide +kernel
theorem dX7_isOver_13 : decode cX7_isOver 13 = .ok (.if_icmp .eq 11, 3) := by decide +kernel
theorem dX7_isOver_16 : decode cX7_isOver 16 = .ok (.aload_n 0, 1) := by decide +kernel
theorem dX7_isOver_17 : decode cX7_isOver 17 = .ok (.getfield 15, 3) := by decide +kernel
theorem dX7_isOver_20 : decode cX7_isOver 20 = .ok (.iconst 4, 1) := by decide +kernel
theorem dX7_isOver_21 : decode cX7_isOver 21 = .ok (.if_icmp .ne 7, 3) := by decide +kernel
theorem dX7_isOver_24 : decode cX7_isOver 24 = .ok (.iconst 1, 1) := by decide +kernel
theorem dX7_isOver_25 : decode cX7_isOver 25 = .ok (.goto 4, 3) := by decide +kernel
theorem dX7_isOver_28 : decode cX7_isOver 28 = .ok (.iconst 0, 1) := by decide +kernel
theorem dX7_isOver_29 : decode cX7_isOver 29 = .ok (.ireturn, 1) := by decide +kernel
theorem dX7_waitsAt_0 : decode cX7_waitsAt 0 = .ok (.aload_n 0, 1) := by decide +kernel
theorem dX7_waitsAt_1 : decode cX7_waitsAt 1 = .ok (.getfield 15, 3) := by decide +kernel
theorem dX7_waitsAt_4 : decode cX7_waitsAt 4 = .ok (.iconst 1, 1) := by decide +kernel
theorem dX7_waitsAt_5 : decode cX7_waitsAt 5 = .ok (.if_icmp .ne 15, 3) := by decide +kernel
theorem dX7_waitsAt_8 : decode cX7_waitsAt 8 = .ok (.aload_n 0, 1) := by decide +kernel
theorem dX7_waitsAt_9 : decode cX7_waitsAt 9 = .ok (.getfield 28, 3) := by decide +kernel
theorem dX7_waitsAt_12 : decode cX7_waitsAt 12 = .ok (.iload_n 1, 1) := by decide +kernel
theorem dX7_waitsAt_13 : decode cX7_waitsAt 13 = .ok (.if_icmp .ne 7, 3) := by decide +kernel
theorem dX7_waitsAt_16 : decode cX7_waitsAt 16 = .ok (.iconst 1, 1) := by decide +kernel
theorem dX7_waitsAt_17 : decode cX7_waitsAt 17 = .ok (.goto 4, 3) := by decide +kernel
theorem dX7_waitsAt_20 : decode cX7_waitsAt 20 = .ok (.iconst 0, 1) := by decide +kernel
theorem dX7_waitsAt_21 : decode cX7_waitsAt 21 = .ok (.ireturn, 1) := by decide +kernel
theorem dX7_localAt_0 : decode cX7_localAt 0 = .ok (.iload_n 1, 1) := by decide +kernel
theorem dX7_localAt_1 : decode cX7_localAt 1 = .ok (.ifCond .lt 21, 3) := by decide +kernel
theorem dX7_localAt_4 : decode cX7_localAt 4 = .ok (.iload_n 1, 1) := by decide +kernel
theorem dX7_localAt_5 : decode cX7_localAt 5 = .ok (.aload_n 0, 1) := by decide +kernel
theorem dX7_localAt_6 : decode cX7_localAt 6 = .ok (.getfield 9, 3) := by decide +kernel
theorem dX7_localAt_9 : decode cX7_localAt 9 = .ok (.arraylength, 1) := by decide +kernel
theorem dX7_localAt_10 : decode cX7_localAt 10 = .ok (.if_icmp .ge 12, 3) := by decide +kernel
theorem dX7_localAt_13 : decode cX7_localAt 13 = .ok (.aload_n 0, 1) := by decide +kernel
theorem dX7_localAt_14 : decode cX7_localAt 14 = .ok (.getfield 9, 3) := by decide +kernel
theorem dX7_localAt_17 : decode cX7_localAt 17 = .ok (.iload_n 1, 1) := by decide +kernel
theorem dX7_localAt_18 : decode cX7_localAt 18 = .ok (.iaload, 1) := by decide +kernel
theorem dX7_localAt_19 : decode cX7_localAt 19 = .ok (.goto 4, 3) := by decide +kernel
theorem dX7_localAt_22 : decode cX7_localAt 22 = .ok (.iconst 0, 1) := by decide +kernel
theorem dX7_localAt_23 : decode cX7_localAt 23 = .ok (.ireturn, 1) := by decide +kernel
theorem dX7_putLocal_0 : decode cX7_putLocal 0 = .ok (.iload_n 1, 1) := by decide +kernel
theorem dX7_putLocal_1 : decode cX7_putLocal 1 = .ok (.ifCond .lt 19, 3) := by decide +kernel
theorem dX7_putLocal_4 : decode cX7_putLocal 4 = .ok (.iload_n 1, 1) := by decide +kernel
theorem dX7_putLocal_5 : decode cX7_putLocal 5 = .ok (.aload_n 0, 1) := by decide +kernel
theorem dX7_putLocal_6 : decode cX7_putLocal 6 = .ok (.getfield 9, 3) := by decide +kernel
theorem dX7_putLocal_9 : decode cX7_putLocal 9 = .ok (.arraylength, 1) := by decide +kernel
theorem dX7_putLocal_10 : decode cX7_putLocal 10 = .ok (.if_icmp .ge 10, 3) := by decide +kernel
theorem dX7_putLocal_13 : decode cX7_putLocal 13 = .ok (.aload_n 0, 1) := by decide +kernel
theorem dX7_putLocal_14 : decode cX7_putLocal 14 = .ok (.getfield 9, 3) := by decide +kernel
theorem dX7_putLocal_17 : decode cX7_putLocal 17 = .ok (.iload_n 1, 1) := by decide +kernel
theorem dX7_putLocal_18 : decode cX7_putLocal 18 = .ok (.iload_n 2, 1) := by decide +kernel
theorem dX7_putLocal_19 : decode cX7_putLocal 19 = .ok (.iastore, 1) := by decide +kernel
theorem dX7_putLocal_20 : decode cX7_putLocal 20 = .ok (.return_, 1) := by decide +kernel
set_option maxRecDepth 20000 in
theorem ggX7_copyFrom_X7_localAt : GoodIn wsX7_copyFrom wsX7_localAt := goodIn_r _ [20, 21, 26, 27, 28, 29, 30, 31, 32, 33, 34, 35, 36, 37, 38, 39, 40, 41, 42] (by decide +kernel) (by decide +kernel)
set_option maxRecDepth 20000 in
theorem gX7_copyFrom_X7_localAt : GoodIn wsX7_copyFrom (wsV RX7 31 RX7 yX7_localAt wsX7_localAt) := goodIn_app (goodIn_of _ (by decide +kernel)) ggX7_copyFrom_X7_localAt
set_option maxRecDepth 20000 in
theorem ggX7_copyFrom_X7_putLocal : GoodIn wsX7_copyFrom wsX7_putLocal := goodIn_r _ [25, 21, 26, 27, 28, 29, 30, 31, 32, 33, 34, 35, 36, 37, 38, 39, 40, 41, 42] (by decide +kernel) (by decide +kernel)
set_option maxRecDepth 20000 in
theorem gX7_copyFrom_X7_putLocal : GoodIn wsX7_copyFrom (wsV RX7 35 RX7 yX7_putLocal wsX7_putLocal) := goodIn_app (goodIn_of _ (by decide +kernel)) ggX7_copyFrom_X7_putLocal
theorem dX7_copyFrom_0 : decode cX7_copyFrom 0 = .ok (.iconst 0, 1) := by decide +kernel
theorem dX7_copyFrom_1 : decode cX7_copyFrom 1 = .ok (.istore_n 2, 1) := by decide +kernel
theorem dX7_copyFrom_2 : decode cX7_copyFrom 2 = .ok (.iload_n 2, 1) := by decide +kernel
theorem dX7_copyFrom_3 : decode cX7_copyFrom 3 = .ok (.iconst 4, 1) := by decide +kernel
theorem dX7_copyFrom_4 : decode cX7_copyFrom 4 = .ok (.if_icmp .ge 19, 3) := by decide +kernel
theorem dX7_copyFrom_7 : decode cX7_copyFrom 7 = .ok (.aload_n 0, 1) := by decide +kernel
theorem dX7_copyFrom_8 : decode cX7_copyFrom 8 = .ok (.iload_n 2, 1) := by decide +kernel
theorem dX7_copyFrom_9 : decode cX7_copyFrom 9 = .ok (.aload_n 1, 1) := by decide +kernel
theorem dX7_copyFrom_10 : decode cX7_copyFrom 10 = .ok (.iload_n 2, 1) := by decide +kernel
theorem dX7_copyFrom_11 : decode cX7_copyFrom 11 = .ok (.invokevirtual 31, 3) := by decide +kernel
theorem dX7_copyFrom_14 : decode cX7_copyFrom 14 = .ok (.invokevirtual 35, 3) := by decide +kernel
theorem dX7_copyFrom_17 : decode cX7_copyFrom 17 = .ok (.iinc 2 1, 3) := by decide +kernel
theorem dX7_copyFrom_20 : decode cX7_copyFrom 20 = .ok (.goto (-18), 3) := by decide +kernel
theorem dX7_copyFrom_23 : decode cX7_copyFrom 23 = .ok (.aload_n 0, 1) := by decide +kernel
theorem dX7_copyFrom_24 : decode cX7_copyFrom 24 = .ok (.aload_n 1, 1) := by decide +kernel
theorem dX7_copyFrom_25 : decode cX7_copyFrom 25 = .ok (.getfield 39, 3) := by decide +kernel
theorem dX7_copyFrom_28 : decode cX7_copyFrom 28 = .ok (.putfield 39, 3) := by decide +kernel
theorem dX7_copyFrom_31 : decode cX7_copyFrom 31 = .ok (.aload_n 0, 1) := by decide +kernel
theorem dX7_copyFrom_32 : decode cX7_copyFrom 32 = .ok (.aload_n 1, 1) := by decide +kernel
theorem dX7_copyFrom_33 : decode cX7_copyFrom 33 = .ok (.getfield 15, 3) := by decide +kernel
theorem dX7_copyFrom_36 : decode cX7_copyFrom 36 = .ok (.putfield 15, 3) := by decide +kernel
theorem dX7_copyFrom_39 : decode cX7_copyFrom 39 = .ok (.aload_n 0, 1) := by decide +kernel
theorem dX7_copyFrom_40 : decode cX7_copyFrom 40 = .ok (.aload_n 1, 1) := by decide +kernel
theorem dX7_copyFrom_41 : decode cX7_copyFrom 41 = .ok (.getfield 42, 3) := by decide +kernel
theorem dX7_copyFrom_44 : decode cX7_copyFrom 44 = .ok (.putfield 42, 3) := by decide +kernel
theorem dX7_copyFrom_47 : decode cX7_copyFrom 47 = .ok (.aload_n 0, 1) := by decide +kernel
theorem dX7_copyFrom_48 : decode cX7_copyFrom 48 = .ok (.aload_n 1, 1) := by decide +kernel
theorem dX7_copyFrom_49 : decode cX7_copyFrom 49 = .ok (.getfield 45, 3) := by decide +kernel
theorem dX7_copyFrom_52 : decode cX7_copyFrom 52 = .ok (.putfield 45, 3) := by decide +kernel
theorem dX7_copyFrom_55 : decode cX7_copyFrom 55 = .ok (.aload_n 0, 1) := by decide +kernel
theorem dX7_copyFrom_56 : decode cX7_copyFrom 56 = .ok (.aload_n 1, 1) := by decide +kernel
theorem dX7_copyFrom_57 : decode cX7_copyFrom 57 = .ok (.getfield 19, 3) := by decide +kernel
theorem dX7_copyFrom_60 : decode cX7_copyFrom 60 = .ok (.putfield 19, 3) := by decide +kernel
theorem dX7_copyFrom_63 : decode cX7_copyFrom 63 = .ok (.aload_n 0, 1) := by decide +kernel
theorem dX7_copyFrom_64 : decode cX7_copyFrom 64 = .ok (.aload_n 1, 1) := by decide +kernel
theorem dX7_copyFrom_65 : decode cX7_copyFrom 65 = .ok (.getfield 22, 3) := by decide +kernel
theorem dX7_copyFrom_68 : decode cX7_copyFrom 68 = .ok (.putfield 22, 3) := by decide +kernel
theorem dX7_copyFrom_71 : decode cX7_copyFrom 71 = .ok (.aload_n 0, 1) := by decide +kernel
theorem dX7_copyFrom_72 : decode cX7_copyFrom 72 = .ok (.aload_n 1, 1) := by decide +kernel
theorem dX7_copyFrom_73 : decode cX7_copyFrom 73 = .ok (.getfield 48, 3) := by decide +kernel
theorem dX7_copyFrom_76 : decode cX7_copyFrom 76 = .ok (.putfield 48, 3) := by decide +kernel
theorem dX7_copyFrom_79 : decode cX7_copyFrom 79 = .ok (.aload_n 0, 1) := by decide +kernel
theorem dX7_copyFrom_80 : decode cX7_copyFrom 80 = .ok (.aload_n 1, 1) := by decide +kernel
theorem dX7_copyFrom_81 : decode cX7_copyFrom 81 = .ok (.getfield 28, 3) := by decide +kernel
theorem dX7_copyFrom_84 : decode cX7_copyFrom 84 = .ok (.putfield 28, 3) := by decide +kernel
theorem dX7_copyFrom_87 : decode cX7_copyFrom 87 = .ok (.aload_n 0, 1) := by decide +kernel
theorem dX7_copyFrom_88 : decode cX7_copyFrom 88 = .ok (.aload_n 1, 1) := by decide +kernel
theorem dX7_copyFrom_89 : decode cX7_copyFrom 89 = .ok (.getfield 51, 3) := by decide +kernel
theorem dX7_copyFrom_92 : decode cX7_copyFrom 92 = .ok (.putfield 51, 3) := by decide +kernel
theorem dX7_copyFrom_95 : decode cX7_copyFrom 95 = .ok (.aload_n 0, 1) := by decide +kernel
theorem dX7_copyFrom_96 : decode cX7_copyFrom 96 = .ok (.aload_n 1, 1) := by decide +kernel
theorem dX7_copyFrom_97 : decode cX7_copyFrom 97 = .ok (.getfield 54, 3) := by decide +kernel
theorem dX7_copyFrom_100 : decode cX7_copyFrom 100 = .ok (.putfield 54, 3) := by decide +kernel
theorem dX7_copyFrom_103 : decode cX7_copyFrom 103 = .ok (.aload_n 0, 1) := by decide +kernel
theorem dX7_copyFrom_104 : decode cX7_copyFrom 104 = .ok (.aload_n 1, 1) := by decide +kernel
theorem dX7_copyFrom_105 : decode cX7_copyFrom 105 = .ok (.getfield 58, 3) := by decide +kernel
theorem dX7_copyFrom_108 : decode cX7_copyFrom 108 = .ok (.putfield 58, 3) := by decide +kernel
theorem dX7_copyFrom_111 : decode cX7_copyFrom 111 = .ok (.aload_n 0, 1) := by decide +kernel
theorem dX7_copyFrom_112 : decode cX7_copyFrom 112 = .ok (.aload_n 1, 1) := by decide +kernel
theorem dX7_copyFrom_113 : decode cX7_copyFrom 113 = .ok (.getfield 61, 3) := by decide +kernel
theorem dX7_copyFrom_116 : decode cX7_copyFrom 116 = .ok (.putfield 61, 3) := by decide +kernel
theorem dX7_copyFrom_119 : decode cX7_copyFrom 119 = .ok (.aload_n 0, 1) := by decide +kernel
theorem dX7_copyFrom_120 : decode cX7_copyFrom 120 = .ok (.aload_n 1, 1) := by decide +kernel
theorem dX7_copyFrom_121 : decode cX7_copyFrom 121 = .ok (.getfield 64, 3) := by decide +kernel
theorem dX7_copyFrom_124 : decode cX7_copyFrom 124 = .ok (.putfield 64, 3) := by decide +kernel
theorem dX7_copyFrom_127 : decode cX7_copyFrom 127 = .ok (.aload_n 0, 1) := by decide +kernel
theorem dX7_copyFrom_128 : decode cX7_copyFrom 128 = .ok (.aload_n 1, 1) := by decide +kernel
theorem dX7_copyFrom_129 : decode cX7_copyFrom 129 = .ok (.getfield 67, 3) := by decide +kernel
theorem dX7_copyFrom_132 : decode cX7_copyFrom 132 = .ok (.putfield 67, 3) := by decide +kernel
theorem dX7_copyFrom_135 : decode cX7_copyFrom 135 = .ok (.aload_n 0, 1) := by decide +kernel
theorem dX7_copyFrom_136 : decode cX7_copyFrom 136 = .ok (.aload_n 1, 1) := by decide +kernel
theorem dX7_copyFrom_137 : decode cX7_copyFrom 137 = .ok (.getfield 70, 3) := by decide +kernel
theorem dX7_copyFrom_140 : decode cX7_copyFrom 140 = .ok (.putfield 70, 3) := by decide +kernel
theorem dX7_copyFrom_143 : decode cX7_copyFrom 143 = .ok (.return_, 1) := by decide +kernel
theorem dJ9_abs_0f7a4_0 : decode cJ9_abs_0f7a4 0 = .ok (.iload_n 0, 1) := by decide +kernel
theorem dJ9_abs_0f7a4_1 : decode cJ9_abs_0f7a4 1 = .ok (.ifCond .ge 8, 3) := by decide +kernel
theorem dJ9_abs_0f7a4_4 : decode cJ9_abs_0f7a4 4 = .ok (.iload_n 0, 1) := by decide +kernel
theorem dJ9_abs_0f7a4_5 : decode cJ9_abs_0f7a4 5 = .ok (.ineg, 1) := by decide +kernel
theorem dJ9_abs_0f7a4_6 : decode cJ9_abs_0f7a4 6 = .ok (.goto 4, 3) := by decide +kernel
theorem dJ9_abs_0f7a4_9 : decode cJ9_abs_0f7a4 9 = .ok (.iload_n 0, 1) := by decide +kernel
theorem dJ9_abs_0f7a4_10 : decode cJ9_abs_0f7a4 10 = .ok (.ireturn, 1) := by decide +kernel
theorem dJ9_max_7cf53_0 : decode cJ9_max_7cf53 0 = .ok (.iload_n 0, 1) := by decide +kernel
theorem dJ9_max_7cf53_1 : decode cJ9_max_7cf53 1 = .ok (.iload_n 1, 1) := by decide +kernel
theorem dJ9_max_7cf53_2 : decode cJ9_max_7cf53 2 = .ok (.if_icmp .lt 7, 3) := by decide +kernel
theorem dJ9_max_7cf53_5 : decode cJ9_max_7cf53 5 = .ok (.iload_n 0, 1) := by decide +kernel
theorem dJ9_max_7cf53_6 : decode cJ9_max_7cf53 6 = .ok (.goto 4, 3) := by decide +kernel
theorem dJ9_max_7cf53_9 : decode cJ9_max_7cf53 9 = .ok (.iload_n 1, 1) := by decide +kernel
theorem dJ9_max_7cf53_10 : decode cJ9_max_7cf53 10 = .ok (.ireturn, 1) := by decide +kernel
theorem dJ9_min_7cf53_0 : decode cJ9_min_7cf53 0 = .ok (.iload_n 0, 1) := by decide +kernel
theorem dJ9_min_7cf53_1 : decode cJ9_min_7cf53 1 = .ok (.iload_n 1, 1) := by decide +kernel
theorem dJ9_min_7cf53_2 : decode cJ9_min_7cf53 2 = .ok (.if_icmp .gt 7, 3) := by decide +kernel
theorem dJ9_min_7cf53_5 : decode cJ9_min_7cf53 5 = .ok (.iload_n 0, 1) := by decide +kernel
theorem dJ9_min_7cf53_6 : decode cJ9_min_7cf53 6 = .ok (.goto 4, 3) := by decide +kernel
theorem dJ9_min_7cf53_9 : decode cJ9_min_7cf53 9 = .ok (.iload_n 1, 1) := by decide +kernel
theorem dJ9_min_7cf53_10 : decode cJ9_min_7cf53 10 = .ok (.ireturn, 1) := by decide +kernel

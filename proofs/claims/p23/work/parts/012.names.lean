theorem dX0_init_0 : decode cX0_init 0 = .ok (.aload_n 0, 1) := by decide +kernel
theorem dX0_init_1 : decode cX0_init 1 = .ok (.invokespecial 3, 3) := by decide +kernel
theorem dX0_init_4 : decode cX0_init 4 = .ok (.aload_n 0, 1) := by decide +kernel
theorem dX0_init_5 : decode cX0_init 5 = .ok (.aload_n 1, 1) := by decide +kernel
theorem dX0_init_6 : decode cX0_init 6 = .ok (.putfield 9, 3) := by decide +kernel
theorem dX0_init_9 : decode cX0_init 9 = .ok (.aload_n 0, 1) := by decide +kernel
theorem dX0_init_10 : decode cX0_init 10 = .ok (.aload_n 2, 1) := by decide +kernel
theorem dX0_init_11 : decode cX0_init 11 = .ok (.putfield 15, 3) := by decide +kernel
theorem dX0_init_14 : decode cX0_init 14 = .ok (.return_, 1) := by decide +kernel
set_option maxRecDepth 20000 in
theorem ggX0_aboutTask_X6_taskAt : GoodIn wsX0_aboutTask wsX6_taskAt := goodIn_r _ [13, 14, 59, 60, 61, 62, 63, 64, 65, 66, 67, 68, 69, 70] (by decide +kernel) (by decide +kernel)
set_option maxRecDepth 20000 in
theorem gX0_aboutTask_X6_taskAt : GoodIn wsX0_aboutTask (wsV RX0 19 RX6 yX6_taskAt wsX6_taskAt) := goodIn_app (goodIn_of _ (by decide +kernel)) ggX0_aboutTask_X6_taskAt
set_option maxRecDepth 20000 in
theorem ggX0_aboutTask_X7_isOver : GoodIn wsX0_aboutTask wsX7_isOver := goodIn_r _ [19, 20, 42, 43, 44, 45, 46, 47, 48, 49, 50, 51, 52, 53, 54, 55, 56, 57, 58] (by decide +kernel) (by decide +kernel)
set_option maxRecDepth 20000 in
theorem gX0_aboutTask_X7_isOver : GoodIn wsX0_aboutTask (wsV RX0 33 RX7 yX7_isOver wsX7_isOver) := goodIn_app (goodIn_of _ (by decide +kernel)) ggX0_aboutTask_X7_isOver
set_option maxRecDepth 20000 in
theorem ggX0_aboutTask_X0_placeInRow : GoodIn wsX0_aboutTask wsX0_placeInRow := goodIn_r _ [25, 1, 26, 27, 28, 40, 41, 59, 60, 61, 62, 63, 64, 65, 66, 67, 68, 69, 70, 42, 43, 44, 45, 46, 47, 48, 49, 50, 51, 52, 53, 54, 55, 56, 57, 58] (by decide +kernel) (by decide +kernel)
set_option maxRecDepth 20000 in
theorem gX0_aboutTask_X0_placeInRow : GoodIn wsX0_aboutTask (wsV RX0 49 RX0 yX0_placeInRow wsX0_placeInRow) := goodIn_app (goodIn_of _ (by decide +kernel)) ggX0_aboutTask_X0_placeInRow
set_option maxRecDepth 20000 in
theorem ggX0_aboutTask_X6_isHit : GoodIn wsX0_aboutTask wsX6_isHit := goodIn_r _ [32, 33, 34, 35, 36, 37, 38, 39, 42, 43, 44, 45, 46, 47, 48, 49, 50, 51, 52, 53, 54, 55, 56, 57, 58, 59, 60, 61, 62, 63, 64, 65, 66, 67, 68, 69, 70, 71, 72, 73, 74, 75, 76, 77, 78, 79, 80, 81, 82, 83, 84] (by decide +kernel) (by decide +kernel)
set_option maxRecDepth 20000 in
theorem gX0_aboutTask_X6_isHit : GoodIn wsX0_aboutTask (wsV RX0 53 RX6 yX6_isHit wsX6_isHit) := goodIn_app (goodIn_of _ (by decide +kernel)) ggX0_aboutTask_X6_isHit
theorem dX0_aboutTask_0 : decode cX0_aboutTask 0 = .ok (.aload_n 0, 1) := by decide +kernel
theorem dX0_aboutTask_1 : decode cX0_aboutTask 1 = .ok (.getfield 15, 3) := by decide +kernel
theorem dX0_aboutTask_4 : decode cX0_aboutTask 4 = .ok (.iload_n 1, 1) := by decide +kernel
theorem dX0_aboutTask_5 : decode cX0_aboutTask 5 = .ok (.invokevirtual 19, 3) := by decide +kernel
theorem dX0_aboutTask_8 : decode cX0_aboutTask 8 = .ok (.astore_n 3, 1) := by decide +kernel
theorem dX0_aboutTask_9 : decode cX0_aboutTask 9 = .ok (.aload_n 3, 1) := by decide +kernel
theorem dX0_aboutTask_10 : decode cX0_aboutTask 10 = .ok (.ifnonnull 5, 3) := by decide +kernel
theorem dX0_aboutTask_13 : decode cX0_aboutTask 13 = .ok (.iconst (-1), 1) := by decide +kernel
theorem dX0_aboutTask_14 : decode cX0_aboutTask 14 = .ok (.ireturn, 1) := by decide +kernel
theorem dX0_aboutTask_15 : decode cX0_aboutTask 15 = .ok (.iload_n 2, 1) := by decide +kernel
theorem dX0_aboutTask_16 : decode cX0_aboutTask 16 = .ok (.tableswitch 120 0 7 #[48, 53, 58, 74, 79, 84, 89, 95], 48) := by decide +kernel
theorem dX0_aboutTask_64 : decode cX0_aboutTask 64 = .ok (.aload_n 3, 1) := by decide +kernel
theorem dX0_aboutTask_65 : decode cX0_aboutTask 65 = .ok (.getfield 25, 3) := by decide +kernel
theorem dX0_aboutTask_68 : decode cX0_aboutTask 68 = .ok (.ireturn, 1) := by decide +kernel
theorem dX0_aboutTask_69 : decode cX0_aboutTask 69 = .ok (.aload_n 3, 1) := by decide +kernel
theorem dX0_aboutTask_70 : decode cX0_aboutTask 70 = .ok (.getfield 31, 3) := by decide +kernel
theorem dX0_aboutTask_73 : decode cX0_aboutTask 73 = .ok (.ireturn, 1) := by decide +kernel
theorem dX0_aboutTask_74 : decode cX0_aboutTask 74 = .ok (.aload_n 3, 1) := by decide +kernel
theorem dX0_aboutTask_75 : decode cX0_aboutTask 75 = .ok (.invokevirtual 33, 3) := by decide +kernel
theorem dX0_aboutTask_78 : decode cX0_aboutTask 78 = .ok (.ifCond .eq 7, 3) := by decide +kernel
theorem dX0_aboutTask_81 : decode cX0_aboutTask 81 = .ok (.iconst (-1), 1) := by decide +kernel
theorem dX0_aboutTask_82 : decode cX0_aboutTask 82 = .ok (.goto 7, 3) := by decide +kernel
theorem dX0_aboutTask_85 : decode cX0_aboutTask 85 = .ok (.aload_n 3, 1) := by decide +kernel
theorem dX0_aboutTask_86 : decode cX0_aboutTask 86 = .ok (.getfield 37, 3) := by decide +kernel
theorem dX0_aboutTask_89 : decode cX0_aboutTask 89 = .ok (.ireturn, 1) := by decide +kernel
theorem dX0_aboutTask_90 : decode cX0_aboutTask 90 = .ok (.aload_n 3, 1) := by decide +kernel
theorem dX0_aboutTask_91 : decode cX0_aboutTask 91 = .ok (.getfield 40, 3) := by decide +kernel
theorem dX0_aboutTask_94 : decode cX0_aboutTask 94 = .ok (.ireturn, 1) := by decide +kernel
theorem dX0_aboutTask_95 : decode cX0_aboutTask 95 = .ok (.aload_n 3, 1) := by decide +kernel
theorem dX0_aboutTask_96 : decode cX0_aboutTask 96 = .ok (.getfield 43, 3) := by decide +kernel
theorem dX0_aboutTask_99 : decode cX0_aboutTask 99 = .ok (.ireturn, 1) := by decide +kernel
theorem dX0_aboutTask_100 : decode cX0_aboutTask 100 = .ok (.aload_n 3, 1) := by decide +kernel
theorem dX0_aboutTask_101 : decode cX0_aboutTask 101 = .ok (.getfield 46, 3) := by decide +kernel
theorem dX0_aboutTask_104 : decode cX0_aboutTask 104 = .ok (.ireturn, 1) := by decide +kernel
theorem dX0_aboutTask_105 : decode cX0_aboutTask 105 = .ok (.aload_n 0, 1) := by decide +kernel
theorem dX0_aboutTask_106 : decode cX0_aboutTask 106 = .ok (.aload_n 3, 1) := by decide +kernel
theorem dX0_aboutTask_107 : decode cX0_aboutTask 107 = .ok (.invokevirtual 49, 3) := by decide +kernel
theorem dX0_aboutTask_110 : decode cX0_aboutTask 110 = .ok (.ireturn, 1) := by decide +kernel
theorem dX0_aboutTask_111 : decode cX0_aboutTask 111 = .ok (.aload_n 3, 1) := by decide +kernel
theorem dX0_aboutTask_112 : decode cX0_aboutTask 112 = .ok (.invokevirtual 33, 3) := by decide +kernel
theorem dX0_aboutTask_115 : decode cX0_aboutTask 115 = .ok (.ifCond .ne 19, 3) := by decide +kernel
theorem dX0_aboutTask_118 : decode cX0_aboutTask 118 = .ok (.aload_n 0, 1) := by decide +kernel
theorem dX0_aboutTask_119 : decode cX0_aboutTask 119 = .ok (.getfield 15, 3) := by decide +kernel
theorem dX0_aboutTask_122 : decode cX0_aboutTask 122 = .ok (.aload_n 3, 1) := by decide +kernel
theorem dX0_aboutTask_123 : decode cX0_aboutTask 123 = .ok (.iconst (-1), 1) := by decide +kernel
theorem dX0_aboutTask_124 : decode cX0_aboutTask 124 = .ok (.invokevirtual 53, 3) := by decide +kernel
theorem dX0_aboutTask_127 : decode cX0_aboutTask 127 = .ok (.ifCond .eq 7, 3) := by decide +kernel
theorem dX0_aboutTask_130 : decode cX0_aboutTask 130 = .ok (.iconst 1, 1) := by decide +kernel
theorem dX0_aboutTask_131 : decode cX0_aboutTask 131 = .ok (.goto 4, 3) := by decide +kernel
theorem dX0_aboutTask_134 : decode cX0_aboutTask 134 = .ok (.iconst 0, 1) := by decide +kernel
theorem dX0_aboutTask_135 : decode cX0_aboutTask 135 = .ok (.ireturn, 1) := by decide +kernel
theorem dX0_aboutTask_136 : decode cX0_aboutTask 136 = .ok (.aload_n 3, 1) := by decide +kernel
theorem dX0_aboutTask_137 : decode cX0_aboutTask 137 = .ok (.getfield 31, 3) := by decide +kernel
theorem dX0_aboutTask_140 : decode cX0_aboutTask 140 = .ok (.iconst 1, 1) := by decide +kernel
theorem dX0_aboutTask_141 : decode cX0_aboutTask 141 = .ok (.if_icmp .ne 10, 3) := by decide +kernel
theorem dX0_aboutTask_144 : decode cX0_aboutTask 144 = .ok (.aload_n 3, 1) := by decide +kernel
theorem dX0_aboutTask_145 : decode cX0_aboutTask 145 = .ok (.getfield 57, 3) := by decide +kernel
theorem dX0_aboutTask_148 : decode cX0_aboutTask 148 = .ok (.goto 4, 3) := by decide +kernel
theorem dX0_aboutTask_151 : decode cX0_aboutTask 151 = .ok (.iconst 0, 1) := by decide +kernel
theorem dX0_aboutTask_152 : decode cX0_aboutTask 152 = .ok (.ireturn, 1) := by decide +kernel
theorem dX0_placeInRow_0 : decode cX0_placeInRow 0 = .ok (.iconst 0, 1) := by decide +kernel
theorem dX0_placeInRow_1 : decode cX0_placeInRow 1 = .ok (.istore_n 2, 1) := by decide +kernel
theorem dX0_placeInRow_2 : decode cX0_placeInRow 2 = .ok (.iload_n 2, 1) := by decide +kernel
theorem dX0_placeInRow_3 : decode cX0_placeInRow 3 = .ok (.aload_n 0, 1) := by decide +kernel
theorem dX0_placeInRow_4 : decode cX0_placeInRow 4 = .ok (.getfield 15, 3) := by decide +kernel
theorem dX0_placeInRow_7 : decode cX0_placeInRow 7 = .ok (.getfield 60, 3) := by decide +kernel
theorem dX0_placeInRow_10 : decode cX0_placeInRow 10 = .ok (.if_icmp .ge 33, 3) := by decide +kernel
theorem dX0_placeInRow_13 : decode cX0_placeInRow 13 = .ok (.iload_n 2, 1) := by decide +kernel
theorem dX0_placeInRow_14 : decode cX0_placeInRow 14 = .ok (.bipush 24, 2) := by decide +kernel
theorem dX0_placeInRow_16 : decode cX0_placeInRow 16 = .ok (.if_icmp .ge 27, 3) := by decide +kernel
theorem dX0_placeInRow_19 : decode cX0_placeInRow 19 = .ok (.aload_n 0, 1) := by decide +kernel
theorem dX0_placeInRow_20 : decode cX0_placeInRow 20 = .ok (.getfield 15, 3) := by decide +kernel
theorem dX0_placeInRow_23 : decode cX0_placeInRow 23 = .ok (.getfield 63, 3) := by decide +kernel
theorem dX0_placeInRow_26 : decode cX0_placeInRow 26 = .ok (.iload_n 2, 1) := by decide +kernel
theorem dX0_placeInRow_27 : decode cX0_placeInRow 27 = .ok (.iaload, 1) := by decide +kernel
theorem dX0_placeInRow_28 : decode cX0_placeInRow 28 = .ok (.aload_n 1, 1) := by decide +kernel
theorem dX0_placeInRow_29 : decode cX0_placeInRow 29 = .ok (.getfield 67, 3) := by decide +kernel
theorem dX0_placeInRow_32 : decode cX0_placeInRow 32 = .ok (.if_icmp .ne 5, 3) := by decide +kernel
theorem dX0_placeInRow_35 : decode cX0_placeInRow 35 = .ok (.iload_n 2, 1) := by decide +kernel
theorem dX0_placeInRow_36 : decode cX0_placeInRow 36 = .ok (.ireturn, 1) := by decide +kernel
theorem dX0_placeInRow_37 : decode cX0_placeInRow 37 = .ok (.iinc 2 1, 3) := by decide +kernel
theorem dX0_placeInRow_40 : decode cX0_placeInRow 40 = .ok (.goto (-38), 3) := by decide +kernel
theorem dX0_placeInRow_43 : decode cX0_placeInRow 43 = .ok (.iconst (-1), 1) := by decide +kernel
theorem dX0_placeInRow_44 : decode cX0_placeInRow 44 = .ok (.ireturn, 1) := by decide +kernel
set_option maxRecDepth 20000 in
theorem ggX0_aboutLocal_X6_taskAt : GoodIn wsX0_aboutLocal wsX6_taskAt := goodIn_r _ [6, 7, 16, 17, 18, 19, 20, 21, 22, 23, 24, 25, 26, 27] (by decide +kernel) (by decide +kernel)
set_option maxRecDepth 20000 in
theorem gX0_aboutLocal_X6_taskAt : GoodIn wsX0_aboutLocal (wsV RX0 19 RX6 yX6_taskAt wsX6_taskAt) := goodIn_app (goodIn_of _ (by decide +kernel)) ggX0_aboutLocal_X6_taskAt
set_option maxRecDepth 20000 in
theorem ggX0_aboutLocal_X7_localAt : GoodIn wsX0_aboutLocal wsX7_localAt := goodIn_r _ [12, 13, 28, 29, 30, 31, 32, 33, 34, 35, 36, 37, 38, 39, 40, 41, 42, 43, 44] (by decide +kernel) (by decide +kernel)
set_option maxRecDepth 20000 in
theorem gX0_aboutLocal_X7_localAt : GoodIn wsX0_aboutLocal (wsV RX0 70 RX7 yX7_localAt wsX7_localAt) := goodIn_app (goodIn_of _ (by decide +kernel)) ggX0_aboutLocal_X7_localAt
theorem dX0_aboutLocal_0 : decode cX0_aboutLocal 0 = .ok (.aload_n 0, 1) := by decide +kernel
theorem dX0_aboutLocal_1 : decode cX0_aboutLocal 1 = .ok (.getfield 15, 3) := by decide +kernel
theorem dX0_aboutLocal_4 : decode cX0_aboutLocal 4 = .ok (.iload_n 1, 1) := by decide +kernel
theorem dX0_aboutLocal_5 : decode cX0_aboutLocal 5 = .ok (.invokevirtual 19, 3) := by decide +kernel
theorem dX0_aboutLocal_8 : decode cX0_aboutLocal 8 = .ok (.astore_n 3, 1) := by decide +kernel
theorem dX0_aboutLocal_9 : decode cX0_aboutLocal 9 = .ok (.aload_n 3, 1) := by decide +kernel
theorem dX0_aboutLocal_10 : decode cX0_aboutLocal 10 = .ok (.ifnull 11, 3) := by decide +kernel
theorem dX0_aboutLocal_13 : decode cX0_aboutLocal 13 = .ok (.aload_n 3, 1) := by decide +kernel
theorem dX0_aboutLocal_14 : decode cX0_aboutLocal 14 = .ok (.iload_n 2, 1) := by decide +kernel
theorem dX0_aboutLocal_15 : decode cX0_aboutLocal 15 = .ok (.invokevirtual 70, 3) := by decide +kernel
theorem dX0_aboutLocal_18 : decode cX0_aboutLocal 18 = .ok (.goto 4, 3) := by decide +kernel
theorem dX0_aboutLocal_21 : decode cX0_aboutLocal 21 = .ok (.iconst (-1), 1) := by decide +kernel
theorem dX0_aboutLocal_22 : decode cX0_aboutLocal 22 = .ok (.ireturn, 1) := by decide +kernel
set_option maxRecDepth 20000 in
theorem ggX0_aboutScope_X6_scopeAt : GoodIn wsX0_aboutScope wsX6_scopeAt := goodIn_r _ [15, 16, 33, 34, 35, 36, 37, 38, 39, 40, 41, 42, 43, 44] (by decide +kernel) (by decide +kernel)
set_option maxRecDepth 20000 in
theorem gX0_aboutScope_X6_scopeAt : GoodIn wsX0_aboutScope (wsV RX0 74 RX6 yX6_scopeAt wsX6_scopeAt) := goodIn_app (goodIn_of _ (by decide +kernel)) ggX0_aboutScope_X6_scopeAt
theorem dX0_aboutScope_0 : decode cX0_aboutScope 0 = .ok (.aload_n 0, 1) := by decide +kernel
theorem dX0_aboutScope_1 : decode cX0_aboutScope 1 = .ok (.getfield 15, 3) := by decide +kernel
theorem dX0_aboutScope_4 : decode cX0_aboutScope 4 = .ok (.iload_n 1, 1) := by decide +kernel
theorem dX0_aboutScope_5 : decode cX0_aboutScope 5 = .ok (.invokevirtual 74, 3) := by decide +kernel
theorem dX0_aboutScope_8 : decode cX0_aboutScope 8 = .ok (.astore_n 3, 1) := by decide +kernel
theorem dX0_aboutScope_9 : decode cX0_aboutScope 9 = .ok (.aload_n 3, 1) := by decide +kernel
theorem dX0_aboutScope_10 : decode cX0_aboutScope 10 = .ok (.ifnonnull 5, 3) := by decide +kernel
theorem dX0_aboutScope_13 : decode cX0_aboutScope 13 = .ok (.iconst (-1), 1) := by decide +kernel
theorem dX0_aboutScope_14 : decode cX0_aboutScope 14 = .ok (.ireturn, 1) := by decide +kernel
theorem dX0_aboutScope_15 : decode cX0_aboutScope 15 = .ok (.iload_n 2, 1) := by decide +kernel
theorem dX0_aboutScope_16 : decode cX0_aboutScope 16 = .ok (.tableswitch 104 0 7 #[48, 53, 58, 71, 76, 89, 94, 99], 48) := by decide +kernel
theorem dX0_aboutScope_64 : decode cX0_aboutScope 64 = .ok (.aload_n 3, 1) := by decide +kernel
theorem dX0_aboutScope_65 : decode cX0_aboutScope 65 = .ok (.getfield 78, 3) := by decide +kernel
theorem dX0_aboutScope_68 : decode cX0_aboutScope 68 = .ok (.ireturn, 1) := by decide +kernel
theorem dX0_aboutScope_69 : decode cX0_aboutScope 69 = .ok (.aload_n 3, 1) := by decide +kernel
theorem dX0_aboutScope_70 : decode cX0_aboutScope 70 = .ok (.getfield 83, 3) := by decide +kernel
theorem dX0_aboutScope_73 : decode cX0_aboutScope 73 = .ok (.ireturn, 1) := by decide +kernel
theorem dX0_aboutScope_74 : decode cX0_aboutScope 74 = .ok (.aload_n 3, 1) := by decide +kernel
theorem dX0_aboutScope_75 : decode cX0_aboutScope 75 = .ok (.getfield 84, 3) := by decide +kernel
theorem dX0_aboutScope_78 : decode cX0_aboutScope 78 = .ok (.ifCond .eq 7, 3) := by decide +kernel
theorem dX0_aboutScope_81 : decode cX0_aboutScope 81 = .ok (.iconst 1, 1) := by decide +kernel
theorem dX0_aboutScope_82 : decode cX0_aboutScope 82 = .ok (.goto 4, 3) := by decide +kernel
theorem dX0_aboutScope_85 : decode cX0_aboutScope 85 = .ok (.iconst 0, 1) := by decide +kernel
theorem dX0_aboutScope_86 : decode cX0_aboutScope 86 = .ok (.ireturn, 1) := by decide +kernel
theorem dX0_aboutScope_87 : decode cX0_aboutScope 87 = .ok (.aload_n 3, 1) := by decide +kernel
theorem dX0_aboutScope_88 : decode cX0_aboutScope 88 = .ok (.getfield 88, 3) := by decide +kernel
theorem dX0_aboutScope_91 : decode cX0_aboutScope 91 = .ok (.ireturn, 1) := by decide +kernel
theorem dX0_aboutScope_92 : decode cX0_aboutScope 92 = .ok (.aload_n 3, 1) := by decide +kernel
theorem dX0_aboutScope_93 : decode cX0_aboutScope 93 = .ok (.getfield 91, 3) := by decide +kernel
theorem dX0_aboutScope_96 : decode cX0_aboutScope 96 = .ok (.ifCond .eq 7, 3) := by decide +kernel
theorem dX0_aboutScope_99 : decode cX0_aboutScope 99 = .ok (.iconst 1, 1) := by decide +kernel
theorem dX0_aboutScope_100 : decode cX0_aboutScope 100 = .ok (.goto 4, 3) := by decide +kernel
theorem dX0_aboutScope_103 : decode cX0_aboutScope 103 = .ok (.iconst 0, 1) := by decide +kernel
theorem dX0_aboutScope_104 : decode cX0_aboutScope 104 = .ok (.ireturn, 1) := by decide +kernel
theorem dX0_aboutScope_105 : decode cX0_aboutScope 105 = .ok (.aload_n 3, 1) := by decide +kernel
theorem dX0_aboutScope_106 : decode cX0_aboutScope 106 = .ok (.getfield 94, 3) := by decide +kernel
theorem dX0_aboutScope_109 : decode cX0_aboutScope 109 = .ok (.ireturn, 1) := by decide +kernel
theorem dX0_aboutScope_110 : decode cX0_aboutScope 110 = .ok (.aload_n 3, 1) := by decide +kernel
theorem dX0_aboutScope_111 : decode cX0_aboutScope 111 = .ok (.getfield 97, 3) := by decide +kernel
theorem dX0_aboutScope_114 : decode cX0_aboutScope 114 = .ok (.ireturn, 1) := by decide +kernel
theorem dX0_aboutScope_115 : decode cX0_aboutScope 115 = .ok (.aload_n 3, 1) := by decide +kernel
theorem dX0_aboutScope_116 : decode cX0_aboutScope 116 = .ok (.getfield 100, 3) := by decide +kernel
theorem dX0_aboutScope_119 : decode cX0_aboutScope 119 = .ok (.ireturn, 1) := by decide +kernel
theorem dX0_aboutScope_120 : decode cX0_aboutScope 120 = .ok (.aload_n 3, 1) := by decide +kernel
theorem dX0_aboutScope_121 : decode cX0_aboutScope 121 = .ok (.getfield 103, 3) := by decide +kernel
theorem dX0_aboutScope_124 : decode cX0_aboutScope 124 = .ok (.ireturn, 1) := by decide +kernel
set_option maxRecDepth 20000 in
theorem ggX0_aboutLock_X6_lockAt : GoodIn wsX0_aboutLock wsX6_lockAt := goodIn_r _ [9, 10, 60, 61, 62, 63, 64, 65, 66, 67, 68, 69, 70, 71] (by decide +kernel) (by decide +kernel)
set_option maxRecDepth 20000 in
theorem gX0_aboutLock_X6_lockAt : GoodIn wsX0_aboutLock (wsV RX0 106 RX6 yX6_lockAt wsX6_lockAt) := goodIn_app (goodIn_of _ (by decide +kernel)) ggX0_aboutLock_X6_lockAt
set_option maxRecDepth 20000 in
theorem ggX0_aboutLock_X6_firstWaiting : GoodIn wsX0_aboutLock wsX6_firstWaiting := goodIn_r _ [14, 15, 16, 17, 18, 19, 20, 60, 61, 62, 63, 64, 65, 66, 67, 68, 69, 70, 71, 43, 44, 45, 46, 47, 48, 49, 50, 51, 52, 53, 54, 55, 56, 57, 58, 59] (by decide +kernel) (by decide +kernel)
set_option maxRecDepth 20000 in
theorem gX0_aboutLock_X6_firstWaiting : GoodIn wsX0_aboutLock (wsV RX0 110 RX6 yX6_firstWaiting wsX6_firstWaiting) := goodIn_app (goodIn_of _ (by decide +kernel)) ggX0_aboutLock_X6_firstWaiting
set_option maxRecDepth 20000 in
theorem ggX0_aboutLock_X0_countWaiting : GoodIn wsX0_aboutLock wsX0_countWaiting := goodIn_r _ [25, 1, 26, 27, 28, 29, 8, 30, 18, 19, 31, 32, 33, 34, 35, 36, 37, 38, 39, 60, 61, 62, 63, 64, 65, 66, 67, 68, 69, 70, 71, 43, 44, 45, 46, 47, 48, 49, 50, 51, 52, 53, 54, 55, 56, 57, 58, 59] (by decide +kernel) (by decide +kernel)
set_option maxRecDepth 20000 in
theorem gX0_aboutLock_X0_countWaiting : GoodIn wsX0_aboutLock (wsV RX0 119 RX0 yX0_countWaiting wsX0_countWaiting) := goodIn_app (goodIn_of _ (by decide +kernel)) ggX0_aboutLock_X0_countWaiting
theorem dX0_aboutLock_0 : decode cX0_aboutLock 0 = .ok (.aload_n 0, 1) := by decide +kernel
theorem dX0_aboutLock_1 : decode cX0_aboutLock 1 = .ok (.getfield 15, 3) := by decide +kernel
theorem dX0_aboutLock_4 : decode cX0_aboutLock 4 = .ok (.iload_n 1, 1) := by decide +kernel
theorem dX0_aboutLock_5 : decode cX0_aboutLock 5 = .ok (.invokevirtual 106, 3) := by decide +kernel
theorem dX0_aboutLock_8 : decode cX0_aboutLock 8 = .ok (.astore_n 3, 1) := by decide +kernel
theorem dX0_aboutLock_9 : decode cX0_aboutLock 9 = .ok (.aload_n 3, 1) := by decide +kernel
theorem dX0_aboutLock_10 : decode cX0_aboutLock 10 = .ok (.ifnonnull 5, 3) := by decide +kernel
theorem dX0_aboutLock_13 : decode cX0_aboutLock 13 = .ok (.iconst (-1), 1) := by decide +kernel
theorem dX0_aboutLock_14 : decode cX0_aboutLock 14 = .ok (.ireturn, 1) := by decide +kernel
theorem dX0_aboutLock_15 : decode cX0_aboutLock 15 = .ok (.aload_n 0, 1) := by decide +kernel
theorem dX0_aboutLock_16 : decode cX0_aboutLock 16 = .ok (.getfield 15, 3) := by decide +kernel
theorem dX0_aboutLock_19 : decode cX0_aboutLock 19 = .ok (.iconst 2, 1) := by decide +kernel
theorem dX0_aboutLock_20 : decode cX0_aboutLock 20 = .ok (.iload_n 1, 1) := by decide +kernel
theorem dX0_aboutLock_21 : decode cX0_aboutLock 21 = .ok (.invokevirtual 110, 3) := by decide +kernel
theorem dX0_aboutLock_24 : decode cX0_aboutLock 24 = .ok (.astore 4, 2) := by decide +kernel
theorem dX0_aboutLock_26 : decode cX0_aboutLock 26 = .ok (.iload_n 2, 1) := by decide +kernel
theorem dX0_aboutLock_27 : decode cX0_aboutLock 27 = .ok (.tableswitch 52 0 2 #[25, 30, 37], 25) := by decide +kernel
theorem dX0_aboutLock_52 : decode cX0_aboutLock 52 = .ok (.aload_n 3, 1) := by decide +kernel
theorem dX0_aboutLock_53 : decode cX0_aboutLock 53 = .ok (.getfield 114, 3) := by decide +kernel
theorem dX0_aboutLock_56 : decode cX0_aboutLock 56 = .ok (.ireturn, 1) := by decide +kernel
theorem dX0_aboutLock_57 : decode cX0_aboutLock 57 = .ok (.aload_n 0, 1) := by decide +kernel
theorem dX0_aboutLock_58 : decode cX0_aboutLock 58 = .ok (.iconst 2, 1) := by decide +kernel
theorem dX0_aboutLock_59 : decode cX0_aboutLock 59 = .ok (.iload_n 1, 1) := by decide +kernel
theorem dX0_aboutLock_60 : decode cX0_aboutLock 60 = .ok (.invokevirtual 119, 3) := by decide +kernel
theorem dX0_aboutLock_63 : decode cX0_aboutLock 63 = .ok (.ireturn, 1) := by decide +kernel
theorem dX0_aboutLock_64 : decode cX0_aboutLock 64 = .ok (.aload 4, 2) := by decide +kernel
theorem dX0_aboutLock_66 : decode cX0_aboutLock 66 = .ok (.ifnull 11, 3) := by decide +kernel
theorem dX0_aboutLock_69 : decode cX0_aboutLock 69 = .ok (.aload 4, 2) := by decide +kernel
theorem dX0_aboutLock_71 : decode cX0_aboutLock 71 = .ok (.getfield 67, 3) := by decide +kernel
theorem dX0_aboutLock_74 : decode cX0_aboutLock 74 = .ok (.goto 4, 3) := by decide +kernel
theorem dX0_aboutLock_77 : decode cX0_aboutLock 77 = .ok (.iconst (-1), 1) := by decide +kernel
theorem dX0_aboutLock_78 : decode cX0_aboutLock 78 = .ok (.ireturn, 1) := by decide +kernel
theorem dX0_aboutLock_79 : decode cX0_aboutLock 79 = .ok (.aload_n 3, 1) := by decide +kernel
theorem dX0_aboutLock_80 : decode cX0_aboutLock 80 = .ok (.getfield 123, 3) := by decide +kernel
theorem dX0_aboutLock_83 : decode cX0_aboutLock 83 = .ok (.ireturn, 1) := by decide +kernel
set_option maxRecDepth 20000 in
theorem ggX0_aboutChannel_X6_channelAt : GoodIn wsX0_aboutChannel wsX6_channelAt := goodIn_r _ [10, 11, 45, 46, 47, 48, 49, 50, 51, 52, 53, 54, 55, 56] (by decide +kernel) (by decide +kernel)
set_option maxRecDepth 20000 in
theorem gX0_aboutChannel_X6_channelAt : GoodIn wsX0_aboutChannel (wsV RX0 126 RX6 yX6_channelAt wsX6_channelAt) := goodIn_app (goodIn_of _ (by decide +kernel)) ggX0_aboutChannel_X6_channelAt
set_option maxRecDepth 20000 in
theorem ggX0_aboutChannel_X1_first : GoodIn wsX0_aboutChannel wsX1_first := goodIn_r _ [16, 17, 18, 40, 41, 42, 43, 44] (by decide +kernel) (by decide +kernel)
set_option maxRecDepth 20000 in
theorem gX0_aboutChannel_X1_first : GoodIn wsX0_aboutChannel (wsV RX0 138 RX1 yX1_first wsX1_first) := goodIn_app (goodIn_of _ (by decide +kernel)) ggX0_aboutChannel_X1_first
set_option maxRecDepth 20000 in
theorem ggX0_aboutChannel_X0_countWaiting : GoodIn wsX0_aboutChannel wsX0_countWaiting := goodIn_r _ [23, 1, 24, 25, 26, 27, 9, 28, 29, 30, 31, 32, 33, 34, 35, 36, 37, 38, 39, 45, 46, 47, 48, 49, 50, 51, 52, 53, 54, 55, 56, 57, 58, 59, 60, 61, 62, 63, 64, 65, 66, 67, 68, 69, 70, 71, 72, 73] (by decide +kernel) (by decide +kernel)
set_option maxRecDepth 20000 in
theorem gX0_aboutChannel_X0_countWaiting : GoodIn wsX0_aboutChannel (wsV RX0 119 RX0 yX0_countWaiting wsX0_countWaiting) := goodIn_app (goodIn_of _ (by decide +kernel)) ggX0_aboutChannel_X0_countWaiting
theorem dX0_aboutChannel_0 : decode cX0_aboutChannel 0 = .ok (.aload_n 0, 1) := by decide +kernel
theorem dX0_aboutChannel_1 : decode cX0_aboutChannel 1 = .ok (.getfield 15, 3) := by decide +kernel
theorem dX0_aboutChannel_4 : decode cX0_aboutChannel 4 = .ok (.iload_n 1, 1) := by decide +kernel
theorem dX0_aboutChannel_5 : decode cX0_aboutChannel 5 = .ok (.invokevirtual 126, 3) := by decide +kernel
theorem dX0_aboutChannel_8 : decode cX0_aboutChannel 8 = .ok (.astore_n 3, 1) := by decide +kernel
theorem dX0_aboutChannel_9 : decode cX0_aboutChannel 9 = .ok (.aload_n 3, 1) := by decide +kernel
theorem dX0_aboutChannel_10 : decode cX0_aboutChannel 10 = .ok (.ifnonnull 5, 3) := by decide +kernel
theorem dX0_aboutChannel_13 : decode cX0_aboutChannel 13 = .ok (.iconst (-1), 1) := by decide +kernel
theorem dX0_aboutChannel_14 : decode cX0_aboutChannel 14 = .ok (.ireturn, 1) := by decide +kernel
theorem dX0_aboutChannel_15 : decode cX0_aboutChannel 15 = .ok (.iload_n 2, 1) := by decide +kernel
theorem dX0_aboutChannel_16 : decode cX0_aboutChannel 16 = .ok (.tableswitch 82 0 5 #[40, 45, 50, 55, 62, 69], 40) := by decide +kernel
theorem dX0_aboutChannel_56 : decode cX0_aboutChannel 56 = .ok (.aload_n 3, 1) := by decide +kernel
theorem dX0_aboutChannel_57 : decode cX0_aboutChannel 57 = .ok (.getfield 130, 3) := by decide +kernel
theorem dX0_aboutChannel_60 : decode cX0_aboutChannel 60 = .ok (.ireturn, 1) := by decide +kernel
theorem dX0_aboutChannel_61 : decode cX0_aboutChannel 61 = .ok (.aload_n 3, 1) := by decide +kernel
theorem dX0_aboutChannel_62 : decode cX0_aboutChannel 62 = .ok (.getfield 135, 3) := by decide +kernel
theorem dX0_aboutChannel_65 : decode cX0_aboutChannel 65 = .ok (.ireturn, 1) := by decide +kernel
theorem dX0_aboutChannel_66 : decode cX0_aboutChannel 66 = .ok (.aload_n 3, 1) := by decide +kernel
theorem dX0_aboutChannel_67 : decode cX0_aboutChannel 67 = .ok (.invokevirtual 138, 3) := by decide +kernel
theorem dX0_aboutChannel_70 : decode cX0_aboutChannel 70 = .ok (.ireturn, 1) := by decide +kernel
theorem dX0_aboutChannel_71 : decode cX0_aboutChannel 71 = .ok (.aload_n 0, 1) := by decide +kernel
theorem dX0_aboutChannel_72 : decode cX0_aboutChannel 72 = .ok (.iconst 3, 1) := by decide +kernel
theorem dX0_aboutChannel_73 : decode cX0_aboutChannel 73 = .ok (.iload_n 1, 1) := by decide +kernel
theorem dX0_aboutChannel_74 : decode cX0_aboutChannel 74 = .ok (.invokevirtual 119, 3) := by decide +kernel
theorem dX0_aboutChannel_77 : decode cX0_aboutChannel 77 = .ok (.ireturn, 1) := by decide +kernel
theorem dX0_aboutChannel_78 : decode cX0_aboutChannel 78 = .ok (.aload_n 0, 1) := by decide +kernel
theorem dX0_aboutChannel_79 : decode cX0_aboutChannel 79 = .ok (.iconst 4, 1) := by decide +kernel
theorem dX0_aboutChannel_80 : decode cX0_aboutChannel 80 = .ok (.iload_n 1, 1) := by decide +kernel
theorem dX0_aboutChannel_81 : decode cX0_aboutChannel 81 = .ok (.invokevirtual 119, 3) := by decide +kernel
theorem dX0_aboutChannel_84 : decode cX0_aboutChannel 84 = .ok (.ireturn, 1) := by decide +kernel
theorem dX0_aboutChannel_85 : decode cX0_aboutChannel 85 = .ok (.aload_n 3, 1) := by decide +kernel
theorem dX0_aboutChannel_86 : decode cX0_aboutChannel 86 = .ok (.getfield 142, 3) := by decide +kernel
theorem dX0_aboutChannel_89 : decode cX0_aboutChannel 89 = .ok (.ifCond .eq 7, 3) := by decide +kernel
theorem dX0_aboutChannel_92 : decode cX0_aboutChannel 92 = .ok (.iconst 1, 1) := by decide +kernel
theorem dX0_aboutChannel_93 : decode cX0_aboutChannel 93 = .ok (.goto 4, 3) := by decide +kernel
theorem dX0_aboutChannel_96 : decode cX0_aboutChannel 96 = .ok (.iconst 0, 1) := by decide +kernel
theorem dX0_aboutChannel_97 : decode cX0_aboutChannel 97 = .ok (.ireturn, 1) := by decide +kernel
theorem dX0_aboutChannel_98 : decode cX0_aboutChannel 98 = .ok (.aload_n 3, 1) := by decide +kernel
theorem dX0_aboutChannel_99 : decode cX0_aboutChannel 99 = .ok (.getfield 145, 3) := by decide +kernel
theorem dX0_aboutChannel_102 : decode cX0_aboutChannel 102 = .ok (.ireturn, 1) := by decide +kernel
set_option maxRecDepth 20000 in
theorem ggX0_countWaiting_X6_waitsFor : GoodIn wsX0_countWaiting wsX6_waitsFor := goodIn_r _ [7, 8, 9, 10, 11, 12, 13, 14, 15, 16, 31, 32, 33, 34, 35, 36, 37, 38, 39, 40, 41, 42, 43, 44, 45, 46, 47] (by decide +kernel) (by decide +kernel)
set_option maxRecDepth 20000 in
theorem gX0_countWaiting_X6_waitsFor : GoodIn wsX0_countWaiting (wsV RX0 152 RX6 yX6_waitsFor wsX6_waitsFor) := goodIn_app (goodIn_of _ (by decide +kernel)) ggX0_countWaiting_X6_waitsFor
theorem dX0_countWaiting_0 : decode cX0_countWaiting 0 = .ok (.iconst 0, 1) := by decide +kernel
theorem dX0_countWaiting_1 : decode cX0_countWaiting 1 = .ok (.istore_n 3, 1) := by decide +kernel
theorem dX0_countWaiting_2 : decode cX0_countWaiting 2 = .ok (.aload_n 0, 1) := by decide +kernel
theorem dX0_countWaiting_3 : decode cX0_countWaiting 3 = .ok (.getfield 15, 3) := by decide +kernel
theorem dX0_countWaiting_6 : decode cX0_countWaiting 6 = .ok (.getfield 148, 3) := by decide +kernel
theorem dX0_countWaiting_9 : decode cX0_countWaiting 9 = .ok (.astore 4, 2) := by decide +kernel
theorem dX0_countWaiting_11 : decode cX0_countWaiting 11 = .ok (.aload 4, 2) := by decide +kernel
theorem dX0_countWaiting_13 : decode cX0_countWaiting 13 = .ok (.arraylength, 1) := by decide +kernel
theorem dX0_countWaiting_14 : decode cX0_countWaiting 14 = .ok (.istore 5, 2) := by decide +kernel
theorem dX0_countWaiting_16 : decode cX0_countWaiting 16 = .ok (.iconst 0, 1) := by decide +kernel
theorem dX0_countWaiting_17 : decode cX0_countWaiting 17 = .ok (.istore 6, 2) := by decide +kernel
theorem dX0_countWaiting_19 : decode cX0_countWaiting 19 = .ok (.iload 6, 2) := by decide +kernel
theorem dX0_countWaiting_21 : decode cX0_countWaiting 21 = .ok (.iload 5, 2) := by decide +kernel
theorem dX0_countWaiting_23 : decode cX0_countWaiting 23 = .ok (.if_icmp .ge 33, 3) := by decide +kernel
theorem dX0_countWaiting_26 : decode cX0_countWaiting 26 = .ok (.aload 4, 2) := by decide +kernel
theorem dX0_countWaiting_28 : decode cX0_countWaiting 28 = .ok (.iload 6, 2) := by decide +kernel
theorem dX0_countWaiting_30 : decode cX0_countWaiting 30 = .ok (.aaload, 1) := by decide +kernel
theorem dX0_countWaiting_31 : decode cX0_countWaiting 31 = .ok (.astore 7, 2) := by decide +kernel
theorem dX0_countWaiting_33 : decode cX0_countWaiting 33 = .ok (.aload_n 0, 1) := by decide +kernel
theorem dX0_countWaiting_34 : decode cX0_countWaiting 34 = .ok (.getfield 15, 3) := by decide +kernel
theorem dX0_countWaiting_37 : decode cX0_countWaiting 37 = .ok (.aload 7, 2) := by decide +kernel
theorem dX0_countWaiting_39 : decode cX0_countWaiting 39 = .ok (.iload_n 1, 1) := by decide +kernel
theorem dX0_countWaiting_40 : decode cX0_countWaiting 40 = .ok (.iload_n 2, 1) := by decide +kernel
theorem dX0_countWaiting_41 : decode cX0_countWaiting 41 = .ok (.invokevirtual 152, 3) := by decide +kernel
theorem dX0_countWaiting_44 : decode cX0_countWaiting 44 = .ok (.ifCond .eq 6, 3) := by decide +kernel
theorem dX0_countWaiting_47 : decode cX0_countWaiting 47 = .ok (.iinc 3 1, 3) := by decide +kernel
theorem dX0_countWaiting_50 : decode cX0_countWaiting 50 = .ok (.iinc 6 1, 3) := by decide +kernel
theorem dX0_countWaiting_53 : decode cX0_countWaiting 53 = .ok (.goto (-34), 3) := by decide +kernel
theorem dX0_countWaiting_56 : decode cX0_countWaiting 56 = .ok (.iload_n 3, 1) := by decide +kernel
theorem dX0_countWaiting_57 : decode cX0_countWaiting 57 = .ok (.ireturn, 1) := by decide +kernel
set_option maxRecDepth 20000 in
theorem ggX0_howMany_X0_countTasks : GoodIn wsX0_howMany wsX0_countTasks := goodIn_r _ [13, 3, 14, 15, 33, 34, 40, 41, 42, 43, 44, 45, 46, 47, 48, 49, 50, 51, 52, 53, 54, 55, 56, 57, 58, 59, 60, 61, 62, 63, 64, 65, 66, 67, 68] (by decide +kernel) (by decide +kernel)
set_option maxRecDepth 20000 in
theorem gX0_howMany_X0_countTasks : GoodIn wsX0_howMany (wsV RX0 164 RX0 yX0_countTasks wsX0_countTasks) := goodIn_app (goodIn_of _ (by decide +kernel)) ggX0_howMany_X0_countTasks
set_option maxRecDepth 20000 in
theorem ggX0_howMany_X0_countLiveScopes : GoodIn wsX0_howMany wsX0_countLiveScopes := goodIn_r _ [19, 3, 20, 21, 22, 23, 24, 25, 26, 33, 34, 40, 41, 42, 43, 44, 45, 46, 47, 48, 49, 50, 51, 69, 70, 71, 72, 73, 74, 75, 76, 77, 78, 79, 80, 81, 82] (by decide +kernel) (by decide +kernel)
set_option maxRecDepth 20000 in
theorem gX0_howMany_X0_countLiveScopes : GoodIn wsX0_howMany (wsV RX0 170 RX0 yX0_countLiveScopes wsX0_countLiveScopes) := goodIn_app (goodIn_of _ (by decide +kernel)) ggX0_howMany_X0_countLiveScopes
set_option maxRecDepth 20000 in
theorem ggX0_howMany_X0_countCancelledScopes : GoodIn wsX0_howMany wsX0_countCancelledScopes := goodIn_r _ [30, 3, 20, 31, 32, 33, 34, 40, 41, 42, 43, 44, 45, 46, 47, 48, 49, 50, 51, 69, 70, 71, 72, 73, 74, 75, 76, 77, 78, 79, 80, 81, 82] (by decide +kernel) (by decide +kernel)
set_option maxRecDepth 20000 in
theorem gX0_howMany_X0_countCancelledScopes : GoodIn wsX0_howMany (wsV RX0 173 RX0 yX0_countCancelledScopes wsX0_countCancelledScopes) := goodIn_app (goodIn_of _ (by decide +kernel)) ggX0_howMany_X0_countCancelledScopes
theorem dX0_howMany_0 : decode cX0_howMany 0 = .ok (.iload_n 1, 1) := by decide +kernel
theorem dX0_howMany_1 : decode cX0_howMany 1 = .ok (.tableswitch 143 0 11 #[63, 71, 79, 85, 91, 97, 103, 109, 117, 122, 127, 135], 63) := by decide +kernel
theorem dX0_howMany_64 : decode cX0_howMany 64 = .ok (.aload_n 0, 1) := by decide +kernel
theorem dX0_howMany_65 : decode cX0_howMany 65 = .ok (.getfield 9, 3) := by decide +kernel
theorem dX0_howMany_68 : decode cX0_howMany 68 = .ok (.getfield 156, 3) := by decide +kernel
theorem dX0_howMany_71 : decode cX0_howMany 71 = .ok (.ireturn, 1) := by decide +kernel
theorem dX0_howMany_72 : decode cX0_howMany 72 = .ok (.aload_n 0, 1) := by decide +kernel
theorem dX0_howMany_73 : decode cX0_howMany 73 = .ok (.getfield 15, 3) := by decide +kernel
theorem dX0_howMany_76 : decode cX0_howMany 76 = .ok (.getfield 161, 3) := by decide +kernel
theorem dX0_howMany_79 : decode cX0_howMany 79 = .ok (.ireturn, 1) := by decide +kernel
theorem dX0_howMany_80 : decode cX0_howMany 80 = .ok (.aload_n 0, 1) := by decide +kernel
theorem dX0_howMany_81 : decode cX0_howMany 81 = .ok (.iconst 0, 1) := by decide +kernel
theorem dX0_howMany_82 : decode cX0_howMany 82 = .ok (.invokevirtual 164, 3) := by decide +kernel
theorem dX0_howMany_85 : decode cX0_howMany 85 = .ok (.ireturn, 1) := by decide +kernel
theorem dX0_howMany_86 : decode cX0_howMany 86 = .ok (.aload_n 0, 1) := by decide +kernel
theorem dX0_howMany_87 : decode cX0_howMany 87 = .ok (.iconst 1, 1) := by decide +kernel
theorem dX0_howMany_88 : decode cX0_howMany 88 = .ok (.invokevirtual 164, 3) := by decide +kernel
theorem dX0_howMany_91 : decode cX0_howMany 91 = .ok (.ireturn, 1) := by decide +kernel
theorem dX0_howMany_92 : decode cX0_howMany 92 = .ok (.aload_n 0, 1) := by decide +kernel
theorem dX0_howMany_93 : decode cX0_howMany 93 = .ok (.iconst 2, 1) := by decide +kernel
theorem dX0_howMany_94 : decode cX0_howMany 94 = .ok (.invokevirtual 164, 3) := by decide +kernel
theorem dX0_howMany_97 : decode cX0_howMany 97 = .ok (.ireturn, 1) := by decide +kernel
theorem dX0_howMany_98 : decode cX0_howMany 98 = .ok (.aload_n 0, 1) := by decide +kernel
theorem dX0_howMany_99 : decode cX0_howMany 99 = .ok (.iconst 3, 1) := by decide +kernel
theorem dX0_howMany_100 : decode cX0_howMany 100 = .ok (.invokevirtual 164, 3) := by decide +kernel
theorem dX0_howMany_103 : decode cX0_howMany 103 = .ok (.ireturn, 1) := by decide +kernel
theorem dX0_howMany_104 : decode cX0_howMany 104 = .ok (.aload_n 0, 1) := by decide +kernel
theorem dX0_howMany_105 : decode cX0_howMany 105 = .ok (.iconst 4, 1) := by decide +kernel
theorem dX0_howMany_106 : decode cX0_howMany 106 = .ok (.invokevirtual 164, 3) := by decide +kernel
theorem dX0_howMany_109 : decode cX0_howMany 109 = .ok (.ireturn, 1) := by decide +kernel
theorem dX0_howMany_110 : decode cX0_howMany 110 = .ok (.aload_n 0, 1) := by decide +kernel
theorem dX0_howMany_111 : decode cX0_howMany 111 = .ok (.getfield 15, 3) := by decide +kernel
theorem dX0_howMany_114 : decode cX0_howMany 114 = .ok (.getfield 167, 3) := by decide +kernel
theorem dX0_howMany_117 : decode cX0_howMany 117 = .ok (.ireturn, 1) := by decide +kernel
theorem dX0_howMany_118 : decode cX0_howMany 118 = .ok (.aload_n 0, 1) := by decide +kernel
theorem dX0_howMany_119 : decode cX0_howMany 119 = .ok (.invokevirtual 170, 3) := by decide +kernel
theorem dX0_howMany_122 : decode cX0_howMany 122 = .ok (.ireturn, 1) := by decide +kernel
theorem dX0_howMany_123 : decode cX0_howMany 123 = .ok (.aload_n 0, 1) := by decide +kernel
theorem dX0_howMany_124 : decode cX0_howMany 124 = .ok (.invokevirtual 173, 3) := by decide +kernel
theorem dX0_howMany_127 : decode cX0_howMany 127 = .ok (.ireturn, 1) := by decide +kernel
theorem dX0_howMany_128 : decode cX0_howMany 128 = .ok (.aload_n 0, 1) := by decide +kernel
theorem dX0_howMany_129 : decode cX0_howMany 129 = .ok (.getfield 15, 3) := by decide +kernel
theorem dX0_howMany_132 : decode cX0_howMany 132 = .ok (.getfield 176, 3) := by decide +kernel
theorem dX0_howMany_135 : decode cX0_howMany 135 = .ok (.ireturn, 1) := by decide +kernel
theorem dX0_howMany_136 : decode cX0_howMany 136 = .ok (.aload_n 0, 1) := by decide +kernel
theorem dX0_howMany_137 : decode cX0_howMany 137 = .ok (.getfield 15, 3) := by decide +kernel
theorem dX0_howMany_140 : decode cX0_howMany 140 = .ok (.getfield 179, 3) := by decide +kernel
theorem dX0_howMany_143 : decode cX0_howMany 143 = .ok (.ireturn, 1) := by decide +kernel
theorem dX0_howMany_144 : decode cX0_howMany 144 = .ok (.aload_n 0, 1) := by decide +kernel
theorem dX0_howMany_145 : decode cX0_howMany 145 = .ok (.getfield 15, 3) := by decide +kernel
theorem dX0_howMany_148 : decode cX0_howMany 148 = .ok (.getfield 182, 3) := by decide +kernel
theorem dX0_howMany_151 : decode cX0_howMany 151 = .ok (.ireturn, 1) := by decide +kernel
theorem dX0_countTasks_0 : decode cX0_countTasks 0 = .ok (.iconst 0, 1) := by decide +kernel
theorem dX0_countTasks_1 : decode cX0_countTasks 1 = .ok (.istore_n 2, 1) := by decide +kernel
theorem dX0_countTasks_2 : decode cX0_countTasks 2 = .ok (.aload_n 0, 1) := by decide +kernel
theorem dX0_countTasks_3 : decode cX0_countTasks 3 = .ok (.getfield 15, 3) := by decide +kernel
theorem dX0_countTasks_6 : decode cX0_countTasks 6 = .ok (.getfield 148, 3) := by decide +kernel
theorem dX0_countTasks_9 : decode cX0_countTasks 9 = .ok (.astore_n 3, 1) := by decide +kernel
theorem dX0_countTasks_10 : decode cX0_countTasks 10 = .ok (.aload_n 3, 1) := by decide +kernel
theorem dX0_countTasks_11 : decode cX0_countTasks 11 = .ok (.arraylength, 1) := by decide +kernel
theorem dX0_countTasks_12 : decode cX0_countTasks 12 = .ok (.istore 4, 2) := by decide +kernel
theorem dX0_countTasks_14 : decode cX0_countTasks 14 = .ok (.iconst 0, 1) := by decide +kernel
theorem dX0_countTasks_15 : decode cX0_countTasks 15 = .ok (.istore 5, 2) := by decide +kernel
theorem dX0_countTasks_17 : decode cX0_countTasks 17 = .ok (.iload 5, 2) := by decide +kernel
theorem dX0_countTasks_19 : decode cX0_countTasks 19 = .ok (.iload 4, 2) := by decide +kernel
theorem dX0_countTasks_21 : decode cX0_countTasks 21 = .ok (.if_icmp .ge 27, 3) := by decide +kernel
theorem dX0_countTasks_24 : decode cX0_countTasks 24 = .ok (.aload_n 3, 1) := by decide +kernel
theorem dX0_countTasks_25 : decode cX0_countTasks 25 = .ok (.iload 5, 2) := by decide +kernel
theorem dX0_countTasks_27 : decode cX0_countTasks 27 = .ok (.aaload, 1) := by decide +kernel
theorem dX0_countTasks_28 : decode cX0_countTasks 28 = .ok (.astore 6, 2) := by decide +kernel
theorem dX0_countTasks_30 : decode cX0_countTasks 30 = .ok (.aload 6, 2) := by decide +kernel
theorem dX0_countTasks_32 : decode cX0_countTasks 32 = .ok (.getfield 31, 3) := by decide +kernel
theorem dX0_countTasks_35 : decode cX0_countTasks 35 = .ok (.iload_n 1, 1) := by decide +kernel
theorem dX0_countTasks_36 : decode cX0_countTasks 36 = .ok (.if_icmp .ne 6, 3) := by decide +kernel
theorem dX0_countTasks_39 : decode cX0_countTasks 39 = .ok (.iinc 2 1, 3) := by decide +kernel
theorem dX0_countTasks_42 : decode cX0_countTasks 42 = .ok (.iinc 5 1, 3) := by decide +kernel
theorem dX0_countTasks_45 : decode cX0_countTasks 45 = .ok (.goto (-28), 3) := by decide +kernel
theorem dX0_countTasks_48 : decode cX0_countTasks 48 = .ok (.iload_n 2, 1) := by decide +kernel
theorem dX0_countTasks_49 : decode cX0_countTasks 49 = .ok (.ireturn, 1) := by decide +kernel
set_option maxRecDepth 20000 in
theorem ggX0_countOver_X7_isOver : GoodIn wsX0_countOver wsX7_isOver := goodIn_r _ [7, 8, 23, 24, 25, 26, 27, 28, 29, 30, 31, 32, 33, 34, 35, 36, 37, 38, 39] (by decide +kernel) (by decide +kernel)
set_option maxRecDepth 20000 in
theorem gX0_countOver_X7_isOver : GoodIn wsX0_countOver (wsV RX0 33 RX7 yX7_isOver wsX7_isOver) := goodIn_app (goodIn_of _ (by decide +kernel)) ggX0_countOver_X7_isOver
theorem dX0_countOver_0 : decode cX0_countOver 0 = .ok (.iconst 0, 1) := by decide +kernel
theorem dX0_countOver_1 : decode cX0_countOver 1 = .ok (.istore_n 1, 1) := by decide +kernel
theorem dX0_countOver_2 : decode cX0_countOver 2 = .ok (.aload_n 0, 1) := by decide +kernel
theorem dX0_countOver_3 : decode cX0_countOver 3 = .ok (.getfield 15, 3) := by decide +kernel
theorem dX0_countOver_6 : decode cX0_countOver 6 = .ok (.getfield 148, 3) := by decide +kernel
theorem dX0_countOver_9 : decode cX0_countOver 9 = .ok (.astore_n 2, 1) := by decide +kernel
theorem dX0_countOver_10 : decode cX0_countOver 10 = .ok (.aload_n 2, 1) := by decide +kernel
theorem dX0_countOver_11 : decode cX0_countOver 11 = .ok (.arraylength, 1) := by decide +kernel
theorem dX0_countOver_12 : decode cX0_countOver 12 = .ok (.istore_n 3, 1) := by decide +kernel
theorem dX0_countOver_13 : decode cX0_countOver 13 = .ok (.iconst 0, 1) := by decide +kernel
theorem dX0_countOver_14 : decode cX0_countOver 14 = .ok (.istore 4, 2) := by decide +kernel
theorem dX0_countOver_16 : decode cX0_countOver 16 = .ok (.iload 4, 2) := by decide +kernel
theorem dX0_countOver_18 : decode cX0_countOver 18 = .ok (.iload_n 3, 1) := by decide +kernel
theorem dX0_countOver_19 : decode cX0_countOver 19 = .ok (.if_icmp .ge 26, 3) := by decide +kernel
theorem dX0_countOver_22 : decode cX0_countOver 22 = .ok (.aload_n 2, 1) := by decide +kernel
theorem dX0_countOver_23 : decode cX0_countOver 23 = .ok (.iload 4, 2) := by decide +kernel
theorem dX0_countOver_25 : decode cX0_countOver 25 = .ok (.aaload, 1) := by decide +kernel
theorem dX0_countOver_26 : decode cX0_countOver 26 = .ok (.astore 5, 2) := by decide +kernel
theorem dX0_countOver_28 : decode cX0_countOver 28 = .ok (.aload 5, 2) := by decide +kernel
theorem dX0_countOver_30 : decode cX0_countOver 30 = .ok (.invokevirtual 33, 3) := by decide +kernel
theorem dX0_countOver_33 : decode cX0_countOver 33 = .ok (.ifCond .eq 6, 3) := by decide +kernel
theorem dX0_countOver_36 : decode cX0_countOver 36 = .ok (.iinc 1 1, 3) := by decide +kernel
theorem dX0_countOver_39 : decode cX0_countOver 39 = .ok (.iinc 4 1, 3) := by decide +kernel
theorem dX0_countOver_42 : decode cX0_countOver 42 = .ok (.goto (-26), 3) := by decide +kernel
theorem dX0_countOver_45 : decode cX0_countOver 45 = .ok (.iload_n 1, 1) := by decide +kernel
theorem dX0_countOver_46 : decode cX0_countOver 46 = .ok (.ireturn, 1) := by decide +kernel
set_option maxRecDepth 20000 in
theorem ggX0_countLiveScopes_X5_isLive : GoodIn wsX0_countLiveScopes wsX5_isLive := goodIn_r _ [7, 8, 23, 24, 25, 26, 27, 28, 29, 30, 31, 32, 33, 34, 35, 36] (by decide +kernel) (by decide +kernel)
set_option maxRecDepth 20000 in
theorem gX0_countLiveScopes_X5_isLive : GoodIn wsX0_countLiveScopes (wsV RX0 189 RX5 yX5_isLive wsX5_isLive) := goodIn_app (goodIn_of _ (by decide +kernel)) ggX0_countLiveScopes_X5_isLive
theorem dX0_countLiveScopes_0 : decode cX0_countLiveScopes 0 = .ok (.iconst 0, 1) := by decide +kernel
theorem dX0_countLiveScopes_1 : decode cX0_countLiveScopes 1 = .ok (.istore_n 1, 1) := by decide +kernel
theorem dX0_countLiveScopes_2 : decode cX0_countLiveScopes 2 = .ok (.aload_n 0, 1) := by decide +kernel
theorem dX0_countLiveScopes_3 : decode cX0_countLiveScopes 3 = .ok (.getfield 15, 3) := by decide +kernel
theorem dX0_countLiveScopes_6 : decode cX0_countLiveScopes 6 = .ok (.getfield 185, 3) := by decide +kernel
theorem dX0_countLiveScopes_9 : decode cX0_countLiveScopes 9 = .ok (.astore_n 2, 1) := by decide +kernel
theorem dX0_countLiveScopes_10 : decode cX0_countLiveScopes 10 = .ok (.aload_n 2, 1) := by decide +kernel
theorem dX0_countLiveScopes_11 : decode cX0_countLiveScopes 11 = .ok (.arraylength, 1) := by decide +kernel
theorem dX0_countLiveScopes_12 : decode cX0_countLiveScopes 12 = .ok (.istore_n 3, 1) := by decide +kernel
theorem dX0_countLiveScopes_13 : decode cX0_countLiveScopes 13 = .ok (.iconst 0, 1) := by decide +kernel
theorem dX0_countLiveScopes_14 : decode cX0_countLiveScopes 14 = .ok (.istore 4, 2) := by decide +kernel
theorem dX0_countLiveScopes_16 : decode cX0_countLiveScopes 16 = .ok (.iload 4, 2) := by decide +kernel
theorem dX0_countLiveScopes_18 : decode cX0_countLiveScopes 18 = .ok (.iload_n 3, 1) := by decide +kernel
theorem dX0_countLiveScopes_19 : decode cX0_countLiveScopes 19 = .ok (.if_icmp .ge 26, 3) := by decide +kernel
theorem dX0_countLiveScopes_22 : decode cX0_countLiveScopes 22 = .ok (.aload_n 2, 1) := by decide +kernel
theorem dX0_countLiveScopes_23 : decode cX0_countLiveScopes 23 = .ok (.iload 4, 2) := by decide +kernel
theorem dX0_countLiveScopes_25 : decode cX0_countLiveScopes 25 = .ok (.aaload, 1) := by decide +kernel
theorem dX0_countLiveScopes_26 : decode cX0_countLiveScopes 26 = .ok (.astore 5, 2) := by decide +kernel
theorem dX0_countLiveScopes_28 : decode cX0_countLiveScopes 28 = .ok (.aload 5, 2) := by decide +kernel
theorem dX0_countLiveScopes_30 : decode cX0_countLiveScopes 30 = .ok (.invokevirtual 189, 3) := by decide +kernel
theorem dX0_countLiveScopes_33 : decode cX0_countLiveScopes 33 = .ok (.ifCond .eq 6, 3) := by decide +kernel
theorem dX0_countLiveScopes_36 : decode cX0_countLiveScopes 36 = .ok (.iinc 1 1, 3) := by decide +kernel
theorem dX0_countLiveScopes_39 : decode cX0_countLiveScopes 39 = .ok (.iinc 4 1, 3) := by decide +kernel
theorem dX0_countLiveScopes_42 : decode cX0_countLiveScopes 42 = .ok (.goto (-26), 3) := by decide +kernel
theorem dX0_countLiveScopes_45 : decode cX0_countLiveScopes 45 = .ok (.iload_n 1, 1) := by decide +kernel
theorem dX0_countLiveScopes_46 : decode cX0_countLiveScopes 46 = .ok (.ireturn, 1) := by decide +kernel
theorem dX0_countCancelledScopes_0 : decode cX0_countCancelledScopes 0 = .ok (.iconst 0, 1) := by decide +kernel
theorem dX0_countCancelledScopes_1 : decode cX0_countCancelledScopes 1 = .ok (.istore_n 1, 1) := by decide +kernel
theorem dX0_countCancelledScopes_2 : decode cX0_countCancelledScopes 2 = .ok (.aload_n 0, 1) := by decide +kernel
theorem dX0_countCancelledScopes_3 : decode cX0_countCancelledScopes 3 = .ok (.getfield 15, 3) := by decide +kernel
theorem dX0_countCancelledScopes_6 : decode cX0_countCancelledScopes 6 = .ok (.getfield 185, 3) := by decide +kernel
theorem dX0_countCancelledScopes_9 : decode cX0_countCancelledScopes 9 = .ok (.astore_n 2, 1) := by decide +kernel
theorem dX0_countCancelledScopes_10 : decode cX0_countCancelledScopes 10 = .ok (.aload_n 2, 1) := by decide +kernel
theorem dX0_countCancelledScopes_11 : decode cX0_countCancelledScopes 11 = .ok (.arraylength, 1) := by decide +kernel
theorem dX0_countCancelledScopes_12 : decode cX0_countCancelledScopes 12 = .ok (.istore_n 3, 1) := by decide +kernel
theorem dX0_countCancelledScopes_13 : decode cX0_countCancelledScopes 13 = .ok (.iconst 0, 1) := by decide +kernel
theorem dX0_countCancelledScopes_14 : decode cX0_countCancelledScopes 14 = .ok (.istore 4, 2) := by decide +kernel
theorem dX0_countCancelledScopes_16 : decode cX0_countCancelledScopes 16 = .ok (.iload 4, 2) := by decide +kernel
theorem dX0_countCancelledScopes_18 : decode cX0_countCancelledScopes 18 = .ok (.iload_n 3, 1) := by decide +kernel
theorem dX0_countCancelledScopes_19 : decode cX0_countCancelledScopes 19 = .ok (.if_icmp .ge 35, 3) := by decide +kernel
theorem dX0_countCancelledScopes_22 : decode cX0_countCancelledScopes 22 = .ok (.aload_n 2, 1) := by decide +kernel
theorem dX0_countCancelledScopes_23 : decode cX0_countCancelledScopes 23 = .ok (.iload 4, 2) := by decide +kernel
theorem dX0_countCancelledScopes_25 : decode cX0_countCancelledScopes 25 = .ok (.aaload, 1) := by decide +kernel
theorem dX0_countCancelledScopes_26 : decode cX0_countCancelledScopes 26 = .ok (.astore 5, 2) := by decide +kernel
theorem dX0_countCancelledScopes_28 : decode cX0_countCancelledScopes 28 = .ok (.aload 5, 2) := by decide +kernel
theorem dX0_countCancelledScopes_30 : decode cX0_countCancelledScopes 30 = .ok (.getfield 83, 3) := by decide +kernel
theorem dX0_countCancelledScopes_33 : decode cX0_countCancelledScopes 33 = .ok (.iconst (-1), 1) := by decide +kernel
theorem dX0_countCancelledScopes_34 : decode cX0_countCancelledScopes 34 = .ok (.if_icmp .eq 14, 3) := by decide +kernel
theorem dX0_countCancelledScopes_37 : decode cX0_countCancelledScopes 37 = .ok (.aload 5, 2) := by decide +kernel
theorem dX0_countCancelledScopes_39 : decode cX0_countCancelledScopes 39 = .ok (.getfield 84, 3) := by decide +kernel
theorem dX0_countCancelledScopes_42 : decode cX0_countCancelledScopes 42 = .ok (.ifCond .eq 6, 3) := by decide +kernel
theorem dX0_countCancelledScopes_45 : decode cX0_countCancelledScopes 45 = .ok (.iinc 1 1, 3) := by decide +kernel
theorem dX0_countCancelledScopes_48 : decode cX0_countCancelledScopes 48 = .ok (.iinc 4 1, 3) := by decide +kernel
theorem dX0_countCancelledScopes_51 : decode cX0_countCancelledScopes 51 = .ok (.goto (-35), 3) := by decide +kernel
theorem dX0_countCancelledScopes_54 : decode cX0_countCancelledScopes 54 = .ok (.iload_n 1, 1) := by decide +kernel
theorem dX0_countCancelledScopes_55 : decode cX0_countCancelledScopes 55 = .ok (.ireturn, 1) := by decide +kernel
set_option maxRecDepth 20000 in
theorem ggX0_countStuck_X5_isLive : GoodIn wsX0_countStuck wsX5_isLive := goodIn_r _ [11, 12, 39, 40, 41, 42, 43, 44, 45, 46, 47, 48, 49, 50, 51, 52] (by decide +kernel) (by decide +kernel)
set_option maxRecDepth 20000 in
theorem gX0_countStuck_X5_isLive : GoodIn wsX0_countStuck (wsV RX0 189 RX5 yX5_isLive wsX5_isLive) := goodIn_app (goodIn_of _ (by decide +kernel)) ggX0_countStuck_X5_isLive
set_option maxRecDepth 20000 in
theorem ggX0_countStuck_X7_waitsAt : GoodIn wsX0_countStuck wsX7_waitsAt := goodIn_r _ [17, 18, 19, 53, 54, 55, 56, 57, 58, 59, 60, 61, 62, 63, 64, 65, 66, 67, 68, 69] (by decide +kernel) (by decide +kernel)
set_option maxRecDepth 20000 in
theorem gX0_countStuck_X7_waitsAt : GoodIn wsX0_countStuck (wsV RX0 192 RX7 yX7_waitsAt wsX7_waitsAt) := goodIn_app (goodIn_of _ (by decide +kernel)) ggX0_countStuck_X7_waitsAt
set_option maxRecDepth 20000 in
theorem ggX0_countStuck_X0_countTasks : GoodIn wsX0_countStuck wsX0_countTasks := goodIn_r _ [24, 1, 5, 6, 25, 26, 27, 28, 29, 30, 31, 32, 33, 34, 35, 36, 37, 38, 53, 54, 55, 56, 57, 58, 59, 60, 61, 62, 63, 64, 65, 66, 67, 68, 69] (by decide +kernel) (by decide +kernel)
set_option maxRecDepth 20000 in
theorem gX0_countStuck_X0_countTasks : GoodIn wsX0_countStuck (wsV RX0 164 RX0 yX0_countTasks wsX0_countTasks) := goodIn_app (goodIn_of _ (by decide +kernel)) ggX0_countStuck_X0_countTasks
theorem dX0_countStuck_0 : decode cX0_countStuck 0 = .ok (.aload_n 0, 1) := by decide +kernel
theorem dX0_countStuck_1 : decode cX0_countStuck 1 = .ok (.getfield 15, 3) := by decide +kernel
theorem dX0_countStuck_4 : decode cX0_countStuck 4 = .ok (.getfield 185, 3) := by decide +kernel
theorem dX0_countStuck_7 : decode cX0_countStuck 7 = .ok (.astore_n 1, 1) := by decide +kernel
theorem dX0_countStuck_8 : decode cX0_countStuck 8 = .ok (.aload_n 1, 1) := by decide +kernel
theorem dX0_countStuck_9 : decode cX0_countStuck 9 = .ok (.arraylength, 1) := by decide +kernel
theorem dX0_countStuck_10 : decode cX0_countStuck 10 = .ok (.istore_n 2, 1) := by decide +kernel
theorem dX0_countStuck_11 : decode cX0_countStuck 11 = .ok (.iconst 0, 1) := by decide +kernel
theorem dX0_countStuck_12 : decode cX0_countStuck 12 = .ok (.istore_n 3, 1) := by decide +kernel
theorem dX0_countStuck_13 : decode cX0_countStuck 13 = .ok (.iload_n 3, 1) := by decide +kernel
theorem dX0_countStuck_14 : decode cX0_countStuck 14 = .ok (.iload_n 2, 1) := by decide +kernel
theorem dX0_countStuck_15 : decode cX0_countStuck 15 = .ok (.if_icmp .ge 39, 3) := by decide +kernel
theorem dX0_countStuck_18 : decode cX0_countStuck 18 = .ok (.aload_n 1, 1) := by decide +kernel
theorem dX0_countStuck_19 : decode cX0_countStuck 19 = .ok (.iload_n 3, 1) := by decide +kernel
theorem dX0_countStuck_20 : decode cX0_countStuck 20 = .ok (.aaload, 1) := by decide +kernel
theorem dX0_countStuck_21 : decode cX0_countStuck 21 = .ok (.astore 4, 2) := by decide +kernel
theorem dX0_countStuck_23 : decode cX0_countStuck 23 = .ok (.aload 4, 2) := by decide +kernel
theorem dX0_countStuck_25 : decode cX0_countStuck 25 = .ok (.invokevirtual 189, 3) := by decide +kernel
theorem dX0_countStuck_28 : decode cX0_countStuck 28 = .ok (.ifCond .eq 20, 3) := by decide +kernel
theorem dX0_countStuck_31 : decode cX0_countStuck 31 = .ok (.aload 4, 2) := by decide +kernel
theorem dX0_countStuck_33 : decode cX0_countStuck 33 = .ok (.getfield 88, 3) := by decide +kernel
theorem dX0_countStuck_36 : decode cX0_countStuck 36 = .ok (.aload_n 0, 1) := by decide +kernel
theorem dX0_countStuck_37 : decode cX0_countStuck 37 = .ok (.getfield 15, 3) := by decide +kernel
theorem dX0_countStuck_40 : decode cX0_countStuck 40 = .ok (.getfield 176, 3) := by decide +kernel
theorem dX0_countStuck_43 : decode cX0_countStuck 43 = .ok (.if_icmp .le 5, 3) := by decide +kernel
theorem dX0_countStuck_46 : decode cX0_countStuck 46 = .ok (.iconst 0, 1) := by decide +kernel
theorem dX0_countStuck_47 : decode cX0_countStuck 47 = .ok (.ireturn, 1) := by decide +kernel
theorem dX0_countStuck_48 : decode cX0_countStuck 48 = .ok (.iinc 3 1, 3) := by decide +kernel
theorem dX0_countStuck_51 : decode cX0_countStuck 51 = .ok (.goto (-38), 3) := by decide +kernel
theorem dX0_countStuck_54 : decode cX0_countStuck 54 = .ok (.aload_n 0, 1) := by decide +kernel
theorem dX0_countStuck_55 : decode cX0_countStuck 55 = .ok (.getfield 15, 3) := by decide +kernel
theorem dX0_countStuck_58 : decode cX0_countStuck 58 = .ok (.getfield 148, 3) := by decide +kernel
theorem dX0_countStuck_61 : decode cX0_countStuck 61 = .ok (.astore_n 1, 1) := by decide +kernel
theorem dX0_countStuck_62 : decode cX0_countStuck 62 = .ok (.aload_n 1, 1) := by decide +kernel
theorem dX0_countStuck_63 : decode cX0_countStuck 63 = .ok (.arraylength, 1) := by decide +kernel
theorem dX0_countStuck_64 : decode cX0_countStuck 64 = .ok (.istore_n 2, 1) := by decide +kernel
theorem dX0_countStuck_65 : decode cX0_countStuck 65 = .ok (.iconst 0, 1) := by decide +kernel
theorem dX0_countStuck_66 : decode cX0_countStuck 66 = .ok (.istore_n 3, 1) := by decide +kernel
theorem dX0_countStuck_67 : decode cX0_countStuck 67 = .ok (.iload_n 3, 1) := by decide +kernel
theorem dX0_countStuck_68 : decode cX0_countStuck 68 = .ok (.iload_n 2, 1) := by decide +kernel
theorem dX0_countStuck_69 : decode cX0_countStuck 69 = .ok (.if_icmp .ge 33, 3) := by decide +kernel
theorem dX0_countStuck_72 : decode cX0_countStuck 72 = .ok (.aload_n 1, 1) := by decide +kernel
theorem dX0_countStuck_73 : decode cX0_countStuck 73 = .ok (.iload_n 3, 1) := by decide +kernel
theorem dX0_countStuck_74 : decode cX0_countStuck 74 = .ok (.aaload, 1) := by decide +kernel
theorem dX0_countStuck_75 : decode cX0_countStuck 75 = .ok (.astore 4, 2) := by decide +kernel
theorem dX0_countStuck_77 : decode cX0_countStuck 77 = .ok (.aload 4, 2) := by decide +kernel
theorem dX0_countStuck_79 : decode cX0_countStuck 79 = .ok (.getfield 31, 3) := by decide +kernel
theorem dX0_countStuck_82 : decode cX0_countStuck 82 = .ok (.ifCond .eq 12, 3) := by decide +kernel
theorem dX0_countStuck_85 : decode cX0_countStuck 85 = .ok (.aload 4, 2) := by decide +kernel
theorem dX0_countStuck_87 : decode cX0_countStuck 87 = .ok (.iconst 1, 1) := by decide +kernel
theorem dX0_countStuck_88 : decode cX0_countStuck 88 = .ok (.invokevirtual 192, 3) := by decide +kernel
theorem dX0_countStuck_91 : decode cX0_countStuck 91 = .ok (.ifCond .eq 5, 3) := by decide +kernel
theorem dX0_countStuck_94 : decode cX0_countStuck 94 = .ok (.iconst 0, 1) := by decide +kernel
theorem dX0_countStuck_95 : decode cX0_countStuck 95 = .ok (.ireturn, 1) := by decide +kernel
theorem dX0_countStuck_96 : decode cX0_countStuck 96 = .ok (.iinc 3 1, 3) := by decide +kernel
theorem dX0_countStuck_99 : decode cX0_countStuck 99 = .ok (.goto (-32), 3) := by decide +kernel
theorem dX0_countStuck_102 : decode cX0_countStuck 102 = .ok (.aload_n 0, 1) := by decide +kernel
theorem dX0_countStuck_103 : decode cX0_countStuck 103 = .ok (.iconst 1, 1) := by decide +kernel
theorem dX0_countStuck_104 : decode cX0_countStuck 104 = .ok (.invokevirtual 164, 3) := by decide +kernel
theorem dX0_countStuck_107 : decode cX0_countStuck 107 = .ok (.ireturn, 1) := by decide +kernel
set_option maxRecDepth 20000 in
theorem ggX0_countNewlyHit_X6_isHit : GoodIn wsX0_countNewlyHit wsX6_isHit := goodIn_r _ [8, 9, 10, 11, 12, 13, 14, 15, 30, 31, 32, 33, 34, 35, 36, 37, 38, 39, 40, 41, 42, 43, 44, 45, 46, 18, 19, 20, 21, 22, 23, 24, 25, 26, 27, 28, 29, 47, 48, 49, 50, 51, 52, 53, 54, 55, 56, 57, 58, 59, 60] (by decide +kernel) (by decide +kernel)
set_option maxRecDepth 20000 in
theorem gX0_countNewlyHit_X6_isHit : GoodIn wsX0_countNewlyHit (wsV RX0 53 RX6 yX6_isHit wsX6_isHit) := goodIn_app (goodIn_of _ (by decide +kernel)) ggX0_countNewlyHit_X6_isHit
theorem dX0_countNewlyHit_0 : decode cX0_countNewlyHit 0 = .ok (.iconst 0, 1) := by decide +kernel
theorem dX0_countNewlyHit_1 : decode cX0_countNewlyHit 1 = .ok (.istore_n 2, 1) := by decide +kernel
theorem dX0_countNewlyHit_2 : decode cX0_countNewlyHit 2 = .ok (.aload_n 0, 1) := by decide +kernel
theorem dX0_countNewlyHit_3 : decode cX0_countNewlyHit 3 = .ok (.getfield 15, 3) := by decide +kernel
theorem dX0_countNewlyHit_6 : decode cX0_countNewlyHit 6 = .ok (.getfield 148, 3) := by decide +kernel
theorem dX0_countNewlyHit_9 : decode cX0_countNewlyHit 9 = .ok (.astore_n 3, 1) := by decide +kernel
theorem dX0_countNewlyHit_10 : decode cX0_countNewlyHit 10 = .ok (.aload_n 3, 1) := by decide +kernel
theorem dX0_countNewlyHit_11 : decode cX0_countNewlyHit 11 = .ok (.arraylength, 1) := by decide +kernel
theorem dX0_countNewlyHit_12 : decode cX0_countNewlyHit 12 = .ok (.istore 4, 2) := by decide +kernel
theorem dX0_countNewlyHit_14 : decode cX0_countNewlyHit 14 = .ok (.iconst 0, 1) := by decide +kernel
theorem dX0_countNewlyHit_15 : decode cX0_countNewlyHit 15 = .ok (.istore 5, 2) := by decide +kernel
theorem dX0_countNewlyHit_17 : decode cX0_countNewlyHit 17 = .ok (.iload 5, 2) := by decide +kernel
theorem dX0_countNewlyHit_19 : decode cX0_countNewlyHit 19 = .ok (.iload 4, 2) := by decide +kernel
theorem dX0_countNewlyHit_21 : decode cX0_countNewlyHit 21 = .ok (.if_icmp .ge 73, 3) := by decide +kernel
theorem dX0_countNewlyHit_24 : decode cX0_countNewlyHit 24 = .ok (.aload_n 3, 1) := by decide +kernel
theorem dX0_countNewlyHit_25 : decode cX0_countNewlyHit 25 = .ok (.iload 5, 2) := by decide +kernel
theorem dX0_countNewlyHit_27 : decode cX0_countNewlyHit 27 = .ok (.aaload, 1) := by decide +kernel
theorem dX0_countNewlyHit_28 : decode cX0_countNewlyHit 28 = .ok (.astore 6, 2) := by decide +kernel
theorem dX0_countNewlyHit_30 : decode cX0_countNewlyHit 30 = .ok (.aload 6, 2) := by decide +kernel
theorem dX0_countNewlyHit_32 : decode cX0_countNewlyHit 32 = .ok (.getfield 31, 3) := by decide +kernel
theorem dX0_countNewlyHit_35 : decode cX0_countNewlyHit 35 = .ok (.ifCond .eq 12, 3) := by decide +kernel
theorem dX0_countNewlyHit_38 : decode cX0_countNewlyHit 38 = .ok (.aload 6, 2) := by decide +kernel
theorem dX0_countNewlyHit_40 : decode cX0_countNewlyHit 40 = .ok (.getfield 31, 3) := by decide +kernel
theorem dX0_countNewlyHit_43 : decode cX0_countNewlyHit 43 = .ok (.iconst 1, 1) := by decide +kernel
theorem dX0_countNewlyHit_44 : decode cX0_countNewlyHit 44 = .ok (.if_icmp .ne 7, 3) := by decide +kernel
theorem dX0_countNewlyHit_47 : decode cX0_countNewlyHit 47 = .ok (.iconst 1, 1) := by decide +kernel
theorem dX0_countNewlyHit_48 : decode cX0_countNewlyHit 48 = .ok (.goto 4, 3) := by decide +kernel
theorem dX0_countNewlyHit_51 : decode cX0_countNewlyHit 51 = .ok (.iconst 0, 1) := by decide +kernel
theorem dX0_countNewlyHit_52 : decode cX0_countNewlyHit 52 = .ok (.istore 7, 2) := by decide +kernel
theorem dX0_countNewlyHit_54 : decode cX0_countNewlyHit 54 = .ok (.iload 7, 2) := by decide +kernel
theorem dX0_countNewlyHit_56 : decode cX0_countNewlyHit 56 = .ok (.ifCond .eq 32, 3) := by decide +kernel
theorem dX0_countNewlyHit_59 : decode cX0_countNewlyHit 59 = .ok (.aload_n 0, 1) := by decide +kernel
theorem dX0_countNewlyHit_60 : decode cX0_countNewlyHit 60 = .ok (.getfield 15, 3) := by decide +kernel
theorem dX0_countNewlyHit_63 : decode cX0_countNewlyHit 63 = .ok (.aload 6, 2) := by decide +kernel
theorem dX0_countNewlyHit_65 : decode cX0_countNewlyHit 65 = .ok (.iconst (-1), 1) := by decide +kernel
theorem dX0_countNewlyHit_66 : decode cX0_countNewlyHit 66 = .ok (.invokevirtual 53, 3) := by decide +kernel
theorem dX0_countNewlyHit_69 : decode cX0_countNewlyHit 69 = .ok (.ifCond .ne 19, 3) := by decide +kernel
theorem dX0_countNewlyHit_72 : decode cX0_countNewlyHit 72 = .ok (.aload_n 0, 1) := by decide +kernel
theorem dX0_countNewlyHit_73 : decode cX0_countNewlyHit 73 = .ok (.getfield 15, 3) := by decide +kernel
theorem dX0_countNewlyHit_76 : decode cX0_countNewlyHit 76 = .ok (.aload 6, 2) := by decide +kernel
theorem dX0_countNewlyHit_78 : decode cX0_countNewlyHit 78 = .ok (.iload_n 1, 1) := by decide +kernel
theorem dX0_countNewlyHit_79 : decode cX0_countNewlyHit 79 = .ok (.invokevirtual 53, 3) := by decide +kernel
theorem dX0_countNewlyHit_82 : decode cX0_countNewlyHit 82 = .ok (.ifCond .eq 6, 3) := by decide +kernel
theorem dX0_countNewlyHit_85 : decode cX0_countNewlyHit 85 = .ok (.iinc 2 1, 3) := by decide +kernel
theorem dX0_countNewlyHit_88 : decode cX0_countNewlyHit 88 = .ok (.iinc 5 1, 3) := by decide +kernel
theorem dX0_countNewlyHit_91 : decode cX0_countNewlyHit 91 = .ok (.goto (-74), 3) := by decide +kernel
theorem dX0_countNewlyHit_94 : decode cX0_countNewlyHit 94 = .ok (.iload_n 2, 1) := by decide +kernel
theorem dX0_countNewlyHit_95 : decode cX0_countNewlyHit 95 = .ok (.ireturn, 1) := by decide +kernel
set_option maxRecDepth 20000 in
theorem ggX0_digestTasks_X0_aboutTask : GoodIn wsX0_digestTasks wsX0_aboutTask := goodIn_r _ [8, 1, 9, 10, 11, 12, 13, 14, 15, 16, 17, 18, 19, 20, 21, 22, 23, 24, 25, 26, 27, 28, 29, 30, 7, 31, 32, 33, 34, 35, 36, 37, 38, 39, 40, 41, 42, 43, 44, 45, 55, 56, 69, 70, 71, 72, 73, 74, 75, 76, 77, 78, 79, 80, 81, 82, 83, 84, 85, 57, 58, 59, 60, 61, 62, 63, 64, 65, 66, 67, 68, 86, 87, 88, 89, 90, 91, 92, 93, 94, 95, 96, 97, 98, 99] (by decide +kernel) (by decide +kernel)
set_option maxRecDepth 20000 in
theorem gX0_digestTasks_X0_aboutTask : GoodIn wsX0_digestTasks (wsV RX0 198 RX0 yX0_aboutTask wsX0_aboutTask) := goodIn_app (goodIn_of _ (by decide +kernel)) ggX0_digestTasks_X0_aboutTask
set_option maxRecDepth 20000 in
theorem ggX0_digestTasks_X0_aboutLocal : GoodIn wsX0_digestTasks wsX0_aboutLocal := goodIn_r _ [49, 1, 16, 17, 18, 19, 20, 21, 50, 51, 52, 25, 53, 54, 55, 56, 57, 58, 59, 60, 61, 62, 63, 64, 65, 66, 67, 68, 69, 70, 71, 72, 73, 74, 75, 76, 77, 78, 79, 80, 81, 82, 83, 84, 85] (by decide +kernel) (by decide +kernel)
set_option maxRecDepth 20000 in
theorem gX0_digestTasks_X0_aboutLocal : GoodIn wsX0_digestTasks (wsV RX0 201 RX0 yX0_aboutLocal wsX0_aboutLocal) := goodIn_app (goodIn_of _ (by decide +kernel)) ggX0_digestTasks_X0_aboutLocal
theorem dX0_digestTasks_0 : decode cX0_digestTasks 0 = .ok (.lload_n 1, 1) := by decide +kernel
theorem dX0_digestTasks_1 : decode cX0_digestTasks 1 = .ok (.lstore_n 3, 1) := by decide +kernel
theorem dX0_digestTasks_2 : decode cX0_digestTasks 2 = .ok (.iconst 0, 1) := by decide +kernel
theorem dX0_digestTasks_3 : decode cX0_digestTasks 3 = .ok (.istore 5, 2) := by decide +kernel
theorem dX0_digestTasks_5 : decode cX0_digestTasks 5 = .ok (.iload 5, 2) := by decide +kernel
theorem dX0_digestTasks_7 : decode cX0_digestTasks 7 = .ok (.aload_n 0, 1) := by decide +kernel
theorem dX0_digestTasks_8 : decode cX0_digestTasks 8 = .ok (.getfield 15, 3) := by decide +kernel
theorem dX0_digestTasks_11 : decode cX0_digestTasks 11 = .ok (.getfield 161, 3) := by decide +kernel
theorem dX0_digestTasks_14 : decode cX0_digestTasks 14 = .ok (.if_icmp .ge 72, 3) := by decide +kernel
theorem dX0_digestTasks_17 : decode cX0_digestTasks 17 = .ok (.iconst 0, 1) := by decide +kernel
theorem dX0_digestTasks_18 : decode cX0_digestTasks 18 = .ok (.istore 6, 2) := by decide +kernel
theorem dX0_digestTasks_20 : decode cX0_digestTasks 20 = .ok (.iload 6, 2) := by decide +kernel
theorem dX0_digestTasks_22 : decode cX0_digestTasks 22 = .ok (.bipush 8, 2) := by decide +kernel
theorem dX0_digestTasks_24 : decode cX0_digestTasks 24 = .ok (.if_icmp .gt 25, 3) := by decide +kernel
theorem dX0_digestTasks_27 : decode cX0_digestTasks 27 = .ok (.lload_n 3, 1) := by decide +kernel
theorem dX0_digestTasks_28 : decode cX0_digestTasks 28 = .ok (.ldc2_w 196, 3) := by decide +kernel
theorem dX0_digestTasks_31 : decode cX0_digestTasks 31 = .ok (.lmul, 1) := by decide +kernel
theorem dX0_digestTasks_32 : decode cX0_digestTasks 32 = .ok (.aload_n 0, 1) := by decide +kernel
theorem dX0_digestTasks_33 : decode cX0_digestTasks 33 = .ok (.iload 5, 2) := by decide +kernel
theorem dX0_digestTasks_35 : decode cX0_digestTasks 35 = .ok (.iload 6, 2) := by decide +kernel
theorem dX0_digestTasks_37 : decode cX0_digestTasks 37 = .ok (.invokevirtual 198, 3) := by decide +kernel
theorem dX0_digestTasks_40 : decode cX0_digestTasks 40 = .ok (.i2l, 1) := by decide +kernel
theorem dX0_digestTasks_41 : decode cX0_digestTasks 41 = .ok (.ladd, 1) := by decide +kernel
theorem dX0_digestTasks_42 : decode cX0_digestTasks 42 = .ok (.lstore_n 3, 1) := by decide +kernel
theorem dX0_digestTasks_43 : decode cX0_digestTasks 43 = .ok (.iinc 6 1, 3) := by decide +kernel
theorem dX0_digestTasks_46 : decode cX0_digestTasks 46 = .ok (.goto (-26), 3) := by decide +kernel
theorem dX0_digestTasks_49 : decode cX0_digestTasks 49 = .ok (.iconst 0, 1) := by decide +kernel
theorem dX0_digestTasks_50 : decode cX0_digestTasks 50 = .ok (.istore 6, 2) := by decide +kernel
theorem dX0_digestTasks_52 : decode cX0_digestTasks 52 = .ok (.iload 6, 2) := by decide +kernel
theorem dX0_digestTasks_54 : decode cX0_digestTasks 54 = .ok (.iconst 4, 1) := by decide +kernel
theorem dX0_digestTasks_55 : decode cX0_digestTasks 55 = .ok (.if_icmp .ge 25, 3) := by decide +kernel
theorem dX0_digestTasks_58 : decode cX0_digestTasks 58 = .ok (.lload_n 3, 1) := by decide +kernel
theorem dX0_digestTasks_59 : decode cX0_digestTasks 59 = .ok (.ldc2_w 196, 3) := by decide +kernel
theorem dX0_digestTasks_62 : decode cX0_digestTasks 62 = .ok (.lmul, 1) := by decide +kernel
theorem dX0_digestTasks_63 : decode cX0_digestTasks 63 = .ok (.aload_n 0, 1) := by decide +kernel
theorem dX0_digestTasks_64 : decode cX0_digestTasks 64 = .ok (.iload 5, 2) := by decide +kernel
theorem dX0_digestTasks_66 : decode cX0_digestTasks 66 = .ok (.iload 6, 2) := by decide +kernel
theorem dX0_digestTasks_68 : decode cX0_digestTasks 68 = .ok (.invokevirtual 201, 3) := by decide +kernel
theorem dX0_digestTasks_71 : decode cX0_digestTasks 71 = .ok (.i2l, 1) := by decide +kernel
theorem dX0_digestTasks_72 : decode cX0_digestTasks 72 = .ok (.ladd, 1) := by decide +kernel
theorem dX0_digestTasks_73 : decode cX0_digestTasks 73 = .ok (.lstore_n 3, 1) := by decide +kernel
theorem dX0_digestTasks_74 : decode cX0_digestTasks 74 = .ok (.iinc 6 1, 3) := by decide +kernel
theorem dX0_digestTasks_77 : decode cX0_digestTasks 77 = .ok (.goto (-25), 3) := by decide +kernel
theorem dX0_digestTasks_80 : decode cX0_digestTasks 80 = .ok (.iinc 5 1, 3) := by decide +kernel
theorem dX0_digestTasks_83 : decode cX0_digestTasks 83 = .ok (.goto (-78), 3) := by decide +kernel
theorem dX0_digestTasks_86 : decode cX0_digestTasks 86 = .ok (.lload_n 3, 1) := by decide +kernel
theorem dX0_digestTasks_87 : decode cX0_digestTasks 87 = .ok (.lreturn, 1) := by decide +kernel
set_option maxRecDepth 20000 in
theorem ggX0_digestScopes_X0_aboutScope : GoodIn wsX0_digestScopes wsX0_aboutScope := goodIn_r _ [8, 1, 9, 10, 11, 12, 13, 14, 15, 16, 17, 18, 19, 20, 21, 22, 23, 40, 41, 54, 55, 56, 57, 58, 59, 60, 61, 62, 63, 64, 65, 66, 67, 42, 43, 44, 45, 46, 47, 48, 49, 50, 51, 52, 53] (by decide +kernel) (by decide +kernel)
set_option maxRecDepth 20000 in
theorem gX0_digestScopes_X0_aboutScope : GoodIn wsX0_digestScopes (wsV RX0 204 RX0 yX0_aboutScope wsX0_aboutScope) := goodIn_app (goodIn_of _ (by decide +kernel)) ggX0_digestScopes_X0_aboutScope
set_option maxRecDepth 20000 in
theorem ggX0_digestScopes_X0_countNewlyHit : GoodIn wsX0_digestScopes wsX0_countNewlyHit := goodIn_r _ [27, 1, 28, 29, 30, 31, 32, 21, 33, 34, 35, 23, 36, 37, 38, 39, 40, 41, 42, 43, 44, 45, 46, 47, 48, 49, 50, 51, 52, 53, 68, 69, 70, 71, 72, 73, 74, 75, 76, 77, 78, 79, 80, 81, 82, 83, 84, 54, 55, 56, 57, 58, 59, 60, 61, 62, 63, 64, 65, 66, 67] (by decide +kernel) (by decide +kernel)
set_option maxRecDepth 20000 in
theorem gX0_digestScopes_X0_countNewlyHit : GoodIn wsX0_digestScopes (wsV RX0 207 RX0 yX0_countNewlyHit wsX0_countNewlyHit) := goodIn_app (goodIn_of _ (by decide +kernel)) ggX0_digestScopes_X0_countNewlyHit
theorem dX0_digestScopes_0 : decode cX0_digestScopes 0 = .ok (.lload_n 1, 1) := by decide +kernel
theorem dX0_digestScopes_1 : decode cX0_digestScopes 1 = .ok (.lstore_n 3, 1) := by decide +kernel
theorem dX0_digestScopes_2 : decode cX0_digestScopes 2 = .ok (.iconst 0, 1) := by decide +kernel
theorem dX0_digestScopes_3 : decode cX0_digestScopes 3 = .ok (.istore 5, 2) := by decide +kernel
theorem dX0_digestScopes_5 : decode cX0_digestScopes 5 = .ok (.iload 5, 2) := by decide +kernel
theorem dX0_digestScopes_7 : decode cX0_digestScopes 7 = .ok (.aload_n 0, 1) := by decide +kernel
theorem dX0_digestScopes_8 : decode cX0_digestScopes 8 = .ok (.getfield 15, 3) := by decide +kernel
theorem dX0_digestScopes_11 : decode cX0_digestScopes 11 = .ok (.getfield 167, 3) := by decide +kernel
theorem dX0_digestScopes_14 : decode cX0_digestScopes 14 = .ok (.if_icmp .ge 55, 3) := by decide +kernel
theorem dX0_digestScopes_17 : decode cX0_digestScopes 17 = .ok (.iconst 0, 1) := by decide +kernel
theorem dX0_digestScopes_18 : decode cX0_digestScopes 18 = .ok (.istore 6, 2) := by decide +kernel
theorem dX0_digestScopes_20 : decode cX0_digestScopes 20 = .ok (.iload 6, 2) := by decide +kernel
theorem dX0_digestScopes_22 : decode cX0_digestScopes 22 = .ok (.bipush 8, 2) := by decide +kernel
theorem dX0_digestScopes_24 : decode cX0_digestScopes 24 = .ok (.if_icmp .gt 25, 3) := by decide +kernel
theorem dX0_digestScopes_27 : decode cX0_digestScopes 27 = .ok (.lload_n 3, 1) := by decide +kernel
theorem dX0_digestScopes_28 : decode cX0_digestScopes 28 = .ok (.ldc2_w 196, 3) := by decide +kernel
theorem dX0_digestScopes_31 : decode cX0_digestScopes 31 = .ok (.lmul, 1) := by decide +kernel
theorem dX0_digestScopes_32 : decode cX0_digestScopes 32 = .ok (.aload_n 0, 1) := by decide +kernel
theorem dX0_digestScopes_33 : decode cX0_digestScopes 33 = .ok (.iload 5, 2) := by decide +kernel
theorem dX0_digestScopes_35 : decode cX0_digestScopes 35 = .ok (.iload 6, 2) := by decide +kernel
theorem dX0_digestScopes_37 : decode cX0_digestScopes 37 = .ok (.invokevirtual 204, 3) := by decide +kernel
theorem dX0_digestScopes_40 : decode cX0_digestScopes 40 = .ok (.i2l, 1) := by decide +kernel
theorem dX0_digestScopes_41 : decode cX0_digestScopes 41 = .ok (.ladd, 1) := by decide +kernel
theorem dX0_digestScopes_42 : decode cX0_digestScopes 42 = .ok (.lstore_n 3, 1) := by decide +kernel
theorem dX0_digestScopes_43 : decode cX0_digestScopes 43 = .ok (.iinc 6 1, 3) := by decide +kernel
theorem dX0_digestScopes_46 : decode cX0_digestScopes 46 = .ok (.goto (-26), 3) := by decide +kernel
theorem dX0_digestScopes_49 : decode cX0_digestScopes 49 = .ok (.lload_n 3, 1) := by decide +kernel
theorem dX0_digestScopes_50 : decode cX0_digestScopes 50 = .ok (.ldc2_w 196, 3) := by decide +kernel
theorem dX0_digestScopes_53 : decode cX0_digestScopes 53 = .ok (.lmul, 1) := by decide +kernel
theorem dX0_digestScopes_54 : decode cX0_digestScopes 54 = .ok (.aload_n 0, 1) := by decide +kernel
theorem dX0_digestScopes_55 : decode cX0_digestScopes 55 = .ok (.iload 5, 2) := by decide +kernel
theorem dX0_digestScopes_57 : decode cX0_digestScopes 57 = .ok (.invokevirtual 207, 3) := by decide +kernel
theorem dX0_digestScopes_60 : decode cX0_digestScopes 60 = .ok (.i2l, 1) := by decide +kernel
theorem dX0_digestScopes_61 : decode cX0_digestScopes 61 = .ok (.ladd, 1) := by decide +kernel
theorem dX0_digestScopes_62 : decode cX0_digestScopes 62 = .ok (.lstore_n 3, 1) := by decide +kernel
theorem dX0_digestScopes_63 : decode cX0_digestScopes 63 = .ok (.iinc 5 1, 3) := by decide +kernel
theorem dX0_digestScopes_66 : decode cX0_digestScopes 66 = .ok (.goto (-61), 3) := by decide +kernel
theorem dX0_digestScopes_69 : decode cX0_digestScopes 69 = .ok (.lload_n 3, 1) := by decide +kernel
theorem dX0_digestScopes_70 : decode cX0_digestScopes 70 = .ok (.lreturn, 1) := by decide +kernel
set_option maxRecDepth 20000 in
theorem ggX0_digestLocksAndChannels_X0_aboutLock : GoodIn wsX0_digestLocksAndChannels wsX0_aboutLock := goodIn_r _ [6, 7, 8, 9, 10, 11, 12, 13, 14, 15, 16, 17, 18, 19, 20, 21, 22, 23, 24, 25, 26, 27, 28, 29, 5, 30, 31, 32, 33, 34, 35, 36, 37, 38, 39, 40, 41, 42, 63, 64, 65, 66, 67, 68, 69, 70, 71, 72, 73, 74, 75, 76, 77, 78, 79, 80, 81, 82, 83, 84, 85, 86, 87, 88, 89, 90, 91, 92, 93, 94, 95, 96] (by decide +kernel) (by decide +kernel)
set_option maxRecDepth 20000 in
theorem gX0_digestLocksAndChannels_X0_aboutLock : GoodIn wsX0_digestLocksAndChannels (wsV RX0 210 RX0 yX0_aboutLock wsX0_aboutLock) := goodIn_app (goodIn_of _ (by decide +kernel)) ggX0_digestLocksAndChannels_X0_aboutLock
set_option maxRecDepth 20000 in
theorem ggX0_digestLocksAndChannels_X0_aboutChannel : GoodIn wsX0_digestLocksAndChannels wsX0_aboutChannel := goodIn_r _ [46, 7, 47, 48, 49, 50, 51, 52, 53, 14, 54, 55, 56, 57, 58, 59, 60, 61, 62, 27, 28, 29, 5, 30, 31, 32, 33, 34, 35, 24, 25, 36, 37, 38, 39, 40, 41, 42, 63, 64, 97, 98, 99, 100, 101, 85, 86, 87, 88, 89, 90, 91, 92, 93, 94, 95, 96, 68, 69, 70, 71, 72, 73, 74, 75, 76, 77, 78, 79, 80, 81, 82, 83, 84] (by decide +kernel) (by decide +kernel)
set_option maxRecDepth 20000 in
theorem gX0_digestLocksAndChannels_X0_aboutChannel : GoodIn wsX0_digestLocksAndChannels (wsV RX0 213 RX0 yX0_aboutChannel wsX0_aboutChannel) := goodIn_app (goodIn_of _ (by decide +kernel)) ggX0_digestLocksAndChannels_X0_aboutChannel
theorem dX0_digestLocksAndChannels_0 : decode cX0_digestLocksAndChannels 0 = .ok (.lload_n 1, 1) := by decide +kernel
theorem dX0_digestLocksAndChannels_1 : decode cX0_digestLocksAndChannels 1 = .ok (.lstore_n 3, 1) := by decide +kernel
theorem dX0_digestLocksAndChannels_2 : decode cX0_digestLocksAndChannels 2 = .ok (.iconst 0, 1) := by decide +kernel
theorem dX0_digestLocksAndChannels_3 : decode cX0_digestLocksAndChannels 3 = .ok (.istore 5, 2) := by decide +kernel
theorem dX0_digestLocksAndChannels_5 : decode cX0_digestLocksAndChannels 5 = .ok (.iload 5, 2) := by decide +kernel
theorem dX0_digestLocksAndChannels_7 : decode cX0_digestLocksAndChannels 7 = .ok (.iconst 2, 1) := by decide +kernel
theorem dX0_digestLocksAndChannels_8 : decode cX0_digestLocksAndChannels 8 = .ok (.if_icmp .ge 40, 3) := by decide +kernel
theorem dX0_digestLocksAndChannels_11 : decode cX0_digestLocksAndChannels 11 = .ok (.iconst 0, 1) := by decide +kernel
theorem dX0_digestLocksAndChannels_12 : decode cX0_digestLocksAndChannels 12 = .ok (.istore 6, 2) := by decide +kernel
theorem dX0_digestLocksAndChannels_14 : decode cX0_digestLocksAndChannels 14 = .ok (.iload 6, 2) := by decide +kernel
theorem dX0_digestLocksAndChannels_16 : decode cX0_digestLocksAndChannels 16 = .ok (.iconst 3, 1) := by decide +kernel
theorem dX0_digestLocksAndChannels_17 : decode cX0_digestLocksAndChannels 17 = .ok (.if_icmp .gt 25, 3) := by decide +kernel
theorem dX0_digestLocksAndChannels_20 : decode cX0_digestLocksAndChannels 20 = .ok (.lload_n 3, 1) := by decide +kernel
theorem dX0_digestLocksAndChannels_21 : decode cX0_digestLocksAndChannels 21 = .ok (.ldc2_w 196, 3) := by decide +kernel
theorem dX0_digestLocksAndChannels_24 : decode cX0_digestLocksAndChannels 24 = .ok (.lmul, 1) := by decide +kernel
theorem dX0_digestLocksAndChannels_25 : decode cX0_digestLocksAndChannels 25 = .ok (.aload_n 0, 1) := by decide +kernel
theorem dX0_digestLocksAndChannels_26 : decode cX0_digestLocksAndChannels 26 = .ok (.iload 5, 2) := by decide +kernel
theorem dX0_digestLocksAndChannels_28 : decode cX0_digestLocksAndChannels 28 = .ok (.iload 6, 2) := by decide +kernel
theorem dX0_digestLocksAndChannels_30 : decode cX0_digestLocksAndChannels 30 = .ok (.invokevirtual 210, 3) := by decide +kernel
theorem dX0_digestLocksAndChannels_33 : decode cX0_digestLocksAndChannels 33 = .ok (.i2l, 1) := by decide +kernel
theorem dX0_digestLocksAndChannels_34 : decode cX0_digestLocksAndChannels 34 = .ok (.ladd, 1) := by decide +kernel
theorem dX0_digestLocksAndChannels_35 : decode cX0_digestLocksAndChannels 35 = .ok (.lstore_n 3, 1) := by decide +kernel
theorem dX0_digestLocksAndChannels_36 : decode cX0_digestLocksAndChannels 36 = .ok (.iinc 6 1, 3) := by decide +kernel
theorem dX0_digestLocksAndChannels_39 : decode cX0_digestLocksAndChannels 39 = .ok (.goto (-25), 3) := by decide +kernel
theorem dX0_digestLocksAndChannels_42 : decode cX0_digestLocksAndChannels 42 = .ok (.iinc 5 1, 3) := by decide +kernel
theorem dX0_digestLocksAndChannels_45 : decode cX0_digestLocksAndChannels 45 = .ok (.goto (-40), 3) := by decide +kernel
theorem dX0_digestLocksAndChannels_48 : decode cX0_digestLocksAndChannels 48 = .ok (.iconst 0, 1) := by decide +kernel
theorem dX0_digestLocksAndChannels_49 : decode cX0_digestLocksAndChannels 49 = .ok (.istore 5, 2) := by decide +kernel
theorem dX0_digestLocksAndChannels_51 : decode cX0_digestLocksAndChannels 51 = .ok (.iload 5, 2) := by decide +kernel
theorem dX0_digestLocksAndChannels_53 : decode cX0_digestLocksAndChannels 53 = .ok (.iconst 2, 1) := by decide +kernel
theorem dX0_digestLocksAndChannels_54 : decode cX0_digestLocksAndChannels 54 = .ok (.if_icmp .ge 41, 3) := by decide +kernel
theorem dX0_digestLocksAndChannels_57 : decode cX0_digestLocksAndChannels 57 = .ok (.iconst 0, 1) := by decide +kernel
theorem dX0_digestLocksAndChannels_58 : decode cX0_digestLocksAndChannels 58 = .ok (.istore 6, 2) := by decide +kernel
theorem dX0_digestLocksAndChannels_60 : decode cX0_digestLocksAndChannels 60 = .ok (.iload 6, 2) := by decide +kernel
theorem dX0_digestLocksAndChannels_62 : decode cX0_digestLocksAndChannels 62 = .ok (.bipush 6, 2) := by decide +kernel
theorem dX0_digestLocksAndChannels_64 : decode cX0_digestLocksAndChannels 64 = .ok (.if_icmp .gt 25, 3) := by decide +kernel
theorem dX0_digestLocksAndChannels_67 : decode cX0_digestLocksAndChannels 67 = .ok (.lload_n 3, 1) := by decide +kernel
theorem dX0_digestLocksAndChannels_68 : decode cX0_digestLocksAndChannels 68 = .ok (.ldc2_w 196, 3) := by decide +kernel
theorem dX0_digestLocksAndChannels_71 : decode cX0_digestLocksAndChannels 71 = .ok (.lmul, 1) := by decide +kernel
theorem dX0_digestLocksAndChannels_72 : decode cX0_digestLocksAndChannels 72 = .ok (.aload_n 0, 1) := by decide +kernel
theorem dX0_digestLocksAndChannels_73 : decode cX0_digestLocksAndChannels 73 = .ok (.iload 5, 2) := by decide +kernel
theorem dX0_digestLocksAndChannels_75 : decode cX0_digestLocksAndChannels 75 = .ok (.iload 6, 2) := by decide +kernel
theorem dX0_digestLocksAndChannels_77 : decode cX0_digestLocksAndChannels 77 = .ok (.invokevirtual 213, 3) := by decide +kernel
theorem dX0_digestLocksAndChannels_80 : decode cX0_digestLocksAndChannels 80 = .ok (.i2l, 1) := by decide +kernel
theorem dX0_digestLocksAndChannels_81 : decode cX0_digestLocksAndChannels 81 = .ok (.ladd, 1) := by decide +kernel
theorem dX0_digestLocksAndChannels_82 : decode cX0_digestLocksAndChannels 82 = .ok (.lstore_n 3, 1) := by decide +kernel
theorem dX0_digestLocksAndChannels_83 : decode cX0_digestLocksAndChannels 83 = .ok (.iinc 6 1, 3) := by decide +kernel
theorem dX0_digestLocksAndChannels_86 : decode cX0_digestLocksAndChannels 86 = .ok (.goto (-26), 3) := by decide +kernel
theorem dX0_digestLocksAndChannels_89 : decode cX0_digestLocksAndChannels 89 = .ok (.iinc 5 1, 3) := by decide +kernel
theorem dX0_digestLocksAndChannels_92 : decode cX0_digestLocksAndChannels 92 = .ok (.goto (-41), 3) := by decide +kernel
theorem dX0_digestLocksAndChannels_95 : decode cX0_digestLocksAndChannels 95 = .ok (.lload_n 3, 1) := by decide +kernel
theorem dX0_digestLocksAndChannels_96 : decode cX0_digestLocksAndChannels 96 = .ok (.lreturn, 1) := by decide +kernel
theorem dX1_init_0 : decode cX1_init 0 = .ok (.aload_n 0, 1) := by decide +kernel
theorem dX1_init_1 : decode cX1_init 1 = .ok (.invokespecial 3, 3) := by decide +kernel
theorem dX1_init_4 : decode cX1_init 4 = .ok (.aload_n 0, 1) := by decide +kernel
theorem dX1_init_5 : decode cX1_init 5 = .ok (.iconst 1, 1) := by decide +kernel
theorem dX1_init_6 : decode cX1_init 6 = .ok (.putfield 9, 3) := by decide +kernel
theorem dX1_init_9 : decode cX1_init 9 = .ok (.aload_n 0, 1) := by decide +kernel
theorem dX1_init_10 : decode cX1_init 10 = .ok (.bipush 27, 2) := by decide +kernel
theorem dX1_init_12 : decode cX1_init 12 = .ok (.newarray .int, 2) := by decide +kernel
theorem dX1_init_14 : decode cX1_init 14 = .ok (.putfield 15, 3) := by decide +kernel
theorem dX1_init_17 : decode cX1_init 17 = .ok (.return_, 1) := by decide +kernel
theorem dX1_first_0 : decode cX1_first 0 = .ok (.aload_n 0, 1) := by decide +kernel
theorem dX1_first_1 : decode cX1_first 1 = .ok (.getfield 19, 3) := by decide +kernel
theorem dX1_first_4 : decode cX1_first 4 = .ok (.ifCond .le 12, 3) := by decide +kernel
theorem dX1_first_7 : decode cX1_first 7 = .ok (.aload_n 0, 1) := by decide +kernel
theorem dX1_first_8 : decode cX1_first 8 = .ok (.getfield 15, 3) := by decide +kernel
theorem dX1_first_11 : decode cX1_first 11 = .ok (.iconst 0, 1) := by decide +kernel
theorem dX1_first_12 : decode cX1_first 12 = .ok (.iaload, 1) := by decide +kernel
theorem dX1_first_13 : decode cX1_first 13 = .ok (.goto 4, 3) := by decide +kernel
theorem dX1_first_16 : decode cX1_first 16 = .ok (.iconst 0, 1) := by decide +kernel
theorem dX1_first_17 : decode cX1_first 17 = .ok (.ireturn, 1) := by decide +kernel
theorem dX1_addLast_0 : decode cX1_addLast 0 = .ok (.aload_n 0, 1) := by decide +kernel
theorem dX1_addLast_1 : decode cX1_addLast 1 = .ok (.getfield 19, 3) := by decide +kernel
theorem dX1_addLast_4 : decode cX1_addLast 4 = .ok (.ifCond .lt 35, 3) := by decide +kernel
theorem dX1_addLast_7 : decode cX1_addLast 7 = .ok (.aload_n 0, 1) := by decide +kernel
theorem dX1_addLast_8 : decode cX1_addLast 8 = .ok (.getfield 19, 3) := by decide +kernel
theorem dX1_addLast_11 : decode cX1_addLast 11 = .ok (.aload_n 0, 1) := by decide +kernel
theorem dX1_addLast_12 : decode cX1_addLast 12 = .ok (.getfield 15, 3) := by decide +kernel
theorem dX1_addLast_15 : decode cX1_addLast 15 = .ok (.arraylength, 1) := by decide +kernel
theorem dX1_addLast_16 : decode cX1_addLast 16 = .ok (.if_icmp .ge 23, 3) := by decide +kernel
theorem dX1_addLast_19 : decode cX1_addLast 19 = .ok (.aload_n 0, 1) := by decide +kernel
theorem dX1_addLast_20 : decode cX1_addLast 20 = .ok (.getfield 15, 3) := by decide +kernel
theorem dX1_addLast_23 : decode cX1_addLast 23 = .ok (.aload_n 0, 1) := by decide +kernel
theorem dX1_addLast_24 : decode cX1_addLast 24 = .ok (.getfield 19, 3) := by decide +kernel
theorem dX1_addLast_27 : decode cX1_addLast 27 = .ok (.iload_n 1, 1) := by decide +kernel
theorem dX1_addLast_28 : decode cX1_addLast 28 = .ok (.iastore, 1) := by decide +kernel
theorem dX1_addLast_29 : decode cX1_addLast 29 = .ok (.aload_n 0, 1) := by decide +kernel
theorem dX1_addLast_30 : decode cX1_addLast 30 = .ok (.dup, 1) := by decide +kernel
theorem dX1_addLast_31 : decode cX1_addLast 31 = .ok (.getfield 19, 3) := by decide +kernel
theorem dX1_addLast_34 : decode cX1_addLast 34 = .ok (.iconst 1, 1) := by decide +kernel
theorem dX1_addLast_35 : decode cX1_addLast 35 = .ok (.iadd, 1) := by decide +kernel
theorem dX1_addLast_36 : decode cX1_addLast 36 = .ok (.putfield 19, 3) := by decide +kernel
theorem dX1_addLast_39 : decode cX1_addLast 39 = .ok (.return_, 1) := by decide +kernel
theorem dX1_addFirst_0 : decode cX1_addFirst 0 = .ok (.aload_n 0, 1) := by decide +kernel
theorem dX1_addFirst_1 : decode cX1_addFirst 1 = .ok (.getfield 19, 3) := by decide +kernel
theorem dX1_addFirst_4 : decode cX1_addFirst 4 = .ok (.ifCond .lt 15, 3) := by decide +kernel
theorem dX1_addFirst_7 : decode cX1_addFirst 7 = .ok (.aload_n 0, 1) := by decide +kernel
theorem dX1_addFirst_8 : decode cX1_addFirst 8 = .ok (.getfield 19, 3) := by decide +kernel
theorem dX1_addFirst_11 : decode cX1_addFirst 11 = .ok (.aload_n 0, 1) := by decide +kernel
theorem dX1_addFirst_12 : decode cX1_addFirst 12 = .ok (.getfield 15, 3) := by decide +kernel
theorem dX1_addFirst_15 : decode cX1_addFirst 15 = .ok (.arraylength, 1) := by decide +kernel
theorem dX1_addFirst_16 : decode cX1_addFirst 16 = .ok (.if_icmp .lt 4, 3) := by decide +kernel
theorem dX1_addFirst_19 : decode cX1_addFirst 19 = .ok (.return_, 1) := by decide +kernel
theorem dX1_addFirst_20 : decode cX1_addFirst 20 = .ok (.aload_n 0, 1) := by decide +kernel
theorem dX1_addFirst_21 : decode cX1_addFirst 21 = .ok (.getfield 19, 3) := by decide +kernel
theorem dX1_addFirst_24 : decode cX1_addFirst 24 = .ok (.istore_n 2, 1) := by decide +kernel
theorem dX1_addFirst_25 : decode cX1_addFirst 25 = .ok (.iload_n 2, 1) := by decide +kernel
theorem dX1_addFirst_26 : decode cX1_addFirst 26 = .ok (.ifCond .le 23, 3) := by decide +kernel
theorem dX1_addFirst_29 : decode cX1_addFirst 29 = .ok (.aload_n 0, 1) := by decide +kernel
theorem dX1_addFirst_30 : decode cX1_addFirst 30 = .ok (.getfield 15, 3) := by decide +kernel
theorem dX1_addFirst_33 : decode cX1_addFirst 33 = .ok (.iload_n 2, 1) := by decide +kernel
theorem dX1_addFirst_34 : decode cX1_addFirst 34 = .ok (.aload_n 0, 1) := by decide +kernel
theorem dX1_addFirst_35 : decode cX1_addFirst 35 = .ok (.getfield 15, 3) := by decide +kernel
theorem dX1_addFirst_38 : decode cX1_addFirst 38 = .ok (.iload_n 2, 1) := by decide +kernel
theorem dX1_addFirst_39 : decode cX1_addFirst 39 = .ok (.iconst 1, 1) := by decide +kernel
theorem dX1_addFirst_40 : decode cX1_addFirst 40 = .ok (.isub, 1) := by decide +kernel
theorem dX1_addFirst_41 : decode cX1_addFirst 41 = .ok (.iaload, 1) := by decide +kernel
theorem dX1_addFirst_42 : decode cX1_addFirst 42 = .ok (.iastore, 1) := by decide +kernel
theorem dX1_addFirst_43 : decode cX1_addFirst 43 = .ok (.iinc 2 (-1), 3) := by decide +kernel
theorem dX1_addFirst_46 : decode cX1_addFirst 46 = .ok (.goto (-21), 3) := by decide +kernel
theorem dX1_addFirst_49 : decode cX1_addFirst 49 = .ok (.aload_n 0, 1) := by decide +kernel
theorem dX1_addFirst_50 : decode cX1_addFirst 50 = .ok (.getfield 15, 3) := by decide +kernel
theorem dX1_addFirst_53 : decode cX1_addFirst 53 = .ok (.iconst 0, 1) := by decide +kernel
theorem dX1_addFirst_54 : decode cX1_addFirst 54 = .ok (.iload_n 1, 1) := by decide +kernel
theorem dX1_addFirst_55 : decode cX1_addFirst 55 = .ok (.iastore, 1) := by decide +kernel
theorem dX1_addFirst_56 : decode cX1_addFirst 56 = .ok (.aload_n 0, 1) := by decide +kernel
theorem dX1_addFirst_57 : decode cX1_addFirst 57 = .ok (.dup, 1) := by decide +kernel
theorem dX1_addFirst_58 : decode cX1_addFirst 58 = .ok (.getfield 19, 3) := by decide +kernel
theorem dX1_addFirst_61 : decode cX1_addFirst 61 = .ok (.iconst 1, 1) := by decide +kernel
theorem dX1_addFirst_62 : decode cX1_addFirst 62 = .ok (.iadd, 1) := by decide +kernel
theorem dX1_addFirst_63 : decode cX1_addFirst 63 = .ok (.putfield 19, 3) := by decide +kernel
theorem dX1_addFirst_66 : decode cX1_addFirst 66 = .ok (.return_, 1) := by decide +kernel
theorem dX1_dropFirst_0 : decode cX1_dropFirst 0 = .ok (.iconst 1, 1) := by decide +kernel
theorem dX1_dropFirst_1 : decode cX1_dropFirst 1 = .ok (.istore_n 1, 1) := by decide +kernel
theorem dX1_dropFirst_2 : decode cX1_dropFirst 2 = .ok (.iload_n 1, 1) := by decide +kernel
theorem dX1_dropFirst_3 : decode cX1_dropFirst 3 = .ok (.aload_n 0, 1) := by decide +kernel
theorem dX1_dropFirst_4 : decode cX1_dropFirst 4 = .ok (.getfield 19, 3) := by decide +kernel
theorem dX1_dropFirst_7 : decode cX1_dropFirst 7 = .ok (.if_icmp .ge 32, 3) := by decide +kernel
theorem dX1_dropFirst_10 : decode cX1_dropFirst 10 = .ok (.iload_n 1, 1) := by decide +kernel
theorem dX1_dropFirst_11 : decode cX1_dropFirst 11 = .ok (.aload_n 0, 1) := by decide +kernel
theorem dX1_dropFirst_12 : decode cX1_dropFirst 12 = .ok (.getfield 15, 3) := by decide +kernel
theorem dX1_dropFirst_15 : decode cX1_dropFirst 15 = .ok (.arraylength, 1) := by decide +kernel
theorem dX1_dropFirst_16 : decode cX1_dropFirst 16 = .ok (.if_icmp .ge 23, 3) := by decide +kernel
theorem dX1_dropFirst_19 : decode cX1_dropFirst 19 = .ok (.aload_n 0, 1) := by decide +kernel
theorem dX1_dropFirst_20 : decode cX1_dropFirst 20 = .ok (.getfield 15, 3) := by decide +kernel
theorem dX1_dropFirst_23 : decode cX1_dropFirst 23 = .ok (.iload_n 1, 1) := by decide +kernel
theorem dX1_dropFirst_24 : decode cX1_dropFirst 24 = .ok (.iconst 1, 1) := by decide +kernel
theorem dX1_dropFirst_25 : decode cX1_dropFirst 25 = .ok (.isub, 1) := by decide +kernel
theorem dX1_dropFirst_26 : decode cX1_dropFirst 26 = .ok (.aload_n 0, 1) := by decide +kernel
theorem dX1_dropFirst_27 : decode cX1_dropFirst 27 = .ok (.getfield 15, 3) := by decide +kernel
theorem dX1_dropFirst_30 : decode cX1_dropFirst 30 = .ok (.iload_n 1, 1) := by decide +kernel
theorem dX1_dropFirst_31 : decode cX1_dropFirst 31 = .ok (.iaload, 1) := by decide +kernel
theorem dX1_dropFirst_32 : decode cX1_dropFirst 32 = .ok (.iastore, 1) := by decide +kernel
theorem dX1_dropFirst_33 : decode cX1_dropFirst 33 = .ok (.iinc 1 1, 3) := by decide +kernel
theorem dX1_dropFirst_36 : decode cX1_dropFirst 36 = .ok (.goto (-34), 3) := by decide +kernel
theorem dX1_dropFirst_39 : decode cX1_dropFirst 39 = .ok (.aload_n 0, 1) := by decide +kernel
theorem dX1_dropFirst_40 : decode cX1_dropFirst 40 = .ok (.aload_n 0, 1) := by decide +kernel
theorem dX1_dropFirst_41 : decode cX1_dropFirst 41 = .ok (.getfield 19, 3) := by decide +kernel
theorem dX1_dropFirst_44 : decode cX1_dropFirst 44 = .ok (.ifCond .le 12, 3) := by decide +kernel
theorem dX1_dropFirst_47 : decode cX1_dropFirst 47 = .ok (.aload_n 0, 1) := by decide +kernel
theorem dX1_dropFirst_48 : decode cX1_dropFirst 48 = .ok (.getfield 19, 3) := by decide +kernel
theorem dX1_dropFirst_51 : decode cX1_dropFirst 51 = .ok (.iconst 1, 1) := by decide +kernel
theorem dX1_dropFirst_52 : decode cX1_dropFirst 52 = .ok (.isub, 1) := by decide +kernel
theorem dX1_dropFirst_53 : decode cX1_dropFirst 53 = .ok (.goto 4, 3) := by decide +kernel
theorem dX1_dropFirst_56 : decode cX1_dropFirst 56 = .ok (.iconst 0, 1) := by decide +kernel
theorem dX1_dropFirst_57 : decode cX1_dropFirst 57 = .ok (.putfield 19, 3) := by decide +kernel
theorem dX1_dropFirst_60 : decode cX1_dropFirst 60 = .ok (.return_, 1) := by decide +kernel
theorem dX1_copyFrom_0 : decode cX1_copyFrom 0 = .ok (.aload_n 0, 1) := by decide +kernel
theorem dX1_copyFrom_1 : decode cX1_copyFrom 1 = .ok (.aload_n 1, 1) := by decide +kernel
theorem dX1_copyFrom_2 : decode cX1_copyFrom 2 = .ok (.getfield 9, 3) := by decide +kernel
theorem dX1_copyFrom_5 : decode cX1_copyFrom 5 = .ok (.putfield 9, 3) := by decide +kernel
theorem dX1_copyFrom_8 : decode cX1_copyFrom 8 = .ok (.aload_n 1, 1) := by decide +kernel
theorem dX1_copyFrom_9 : decode cX1_copyFrom 9 = .ok (.getfield 15, 3) := by decide +kernel
theorem dX1_copyFrom_12 : decode cX1_copyFrom 12 = .ok (.iconst 0, 1) := by decide +kernel
theorem dX1_copyFrom_13 : decode cX1_copyFrom 13 = .ok (.aload_n 0, 1) := by decide +kernel
theorem dX1_copyFrom_14 : decode cX1_copyFrom 14 = .ok (.getfield 15, 3) := by decide +kernel
theorem dX1_copyFrom_17 : decode cX1_copyFrom 17 = .ok (.iconst 0, 1) := by decide +kernel
theorem dX1_copyFrom_18 : decode cX1_copyFrom 18 = .ok (.bipush 27, 2) := by decide +kernel
theorem dX1_copyFrom_20 : decode cX1_copyFrom 20 = .ok (.invokestatic 22, 3) := by decide +kernel
theorem dX1_copyFrom_23 : decode cX1_copyFrom 23 = .ok (.aload_n 0, 1) := by decide +kernel
theorem dX1_copyFrom_24 : decode cX1_copyFrom 24 = .ok (.aload_n 1, 1) := by decide +kernel
theorem dX1_copyFrom_25 : decode cX1_copyFrom 25 = .ok (.getfield 19, 3) := by decide +kernel
theorem dX1_copyFrom_28 : decode cX1_copyFrom 28 = .ok (.putfield 19, 3) := by decide +kernel
theorem dX1_copyFrom_31 : decode cX1_copyFrom 31 = .ok (.aload_n 0, 1) := by decide +kernel
theorem dX1_copyFrom_32 : decode cX1_copyFrom 32 = .ok (.aload_n 1, 1) := by decide +kernel
theorem dX1_copyFrom_33 : decode cX1_copyFrom 33 = .ok (.getfield 28, 3) := by decide +kernel
theorem dX1_copyFrom_36 : decode cX1_copyFrom 36 = .ok (.putfield 28, 3) := by decide +kernel
theorem dX1_copyFrom_39 : decode cX1_copyFrom 39 = .ok (.aload_n 0, 1) := by decide +kernel
theorem dX1_copyFrom_40 : decode cX1_copyFrom 40 = .ok (.aload_n 1, 1) := by decide +kernel
theorem dX1_copyFrom_41 : decode cX1_copyFrom 41 = .ok (.getfield 32, 3) := by decide +kernel
theorem dX1_copyFrom_44 : decode cX1_copyFrom 44 = .ok (.putfield 32, 3) := by decide +kernel
theorem dX1_copyFrom_47 : decode cX1_copyFrom 47 = .ok (.return_, 1) := by decide +kernel
theorem dX2_init_0 : decode cX2_init 0 = .ok (.aload_n 0, 1) := by decide +kernel
theorem dX2_init_1 : decode cX2_init 1 = .ok (.invokespecial 3, 3) := by decide +kernel
theorem dX2_init_4 : decode cX2_init 4 = .ok (.aload_n 0, 1) := by decide +kernel
theorem dX2_init_5 : decode cX2_init 5 = .ok (.iconst (-1), 1) := by decide +kernel
theorem dX2_init_6 : decode cX2_init 6 = .ok (.putfield 9, 3) := by decide +kernel
theorem dX2_init_9 : decode cX2_init 9 = .ok (.aload_n 0, 1) := by decide +kernel
theorem dX2_init_10 : decode cX2_init 10 = .ok (.iload_n 1, 1) := by decide +kernel
theorem dX2_init_11 : decode cX2_init 11 = .ok (.putfield 15, 3) := by decide +kernel
theorem dX2_init_14 : decode cX2_init 14 = .ok (.return_, 1) := by decide +kernel
theorem dX2_giveTo_0 : decode cX2_giveTo 0 = .ok (.aload_n 0, 1) := by decide +kernel
theorem dX2_giveTo_1 : decode cX2_giveTo 1 = .ok (.aload_n 1, 1) := by decide +kernel
theorem dX2_giveTo_2 : decode cX2_giveTo 2 = .ok (.getfield 18, 3) := by decide +kernel
theorem dX2_giveTo_5 : decode cX2_giveTo 5 = .ok (.putfield 9, 3) := by decide +kernel
theorem dX2_giveTo_8 : decode cX2_giveTo 8 = .ok (.aload_n 0, 1) := by decide +kernel
theorem dX2_giveTo_9 : decode cX2_giveTo 9 = .ok (.dup, 1) := by decide +kernel
theorem dX2_giveTo_10 : decode cX2_giveTo 10 = .ok (.getfield 21, 3) := by decide +kernel
theorem dX2_giveTo_13 : decode cX2_giveTo 13 = .ok (.iconst 1, 1) := by decide +kernel
theorem dX2_giveTo_14 : decode cX2_giveTo 14 = .ok (.iadd, 1) := by decide +kernel
theorem dX2_giveTo_15 : decode cX2_giveTo 15 = .ok (.putfield 21, 3) := by decide +kernel
theorem dX2_giveTo_18 : decode cX2_giveTo 18 = .ok (.return_, 1) := by decide +kernel
theorem dX2_copyFrom_0 : decode cX2_copyFrom 0 = .ok (.aload_n 0, 1) := by decide +kernel
theorem dX2_copyFrom_1 : decode cX2_copyFrom 1 = .ok (.aload_n 1, 1) := by decide +kernel
theorem dX2_copyFrom_2 : decode cX2_copyFrom 2 = .ok (.getfield 9, 3) := by decide +kernel
theorem dX2_copyFrom_5 : decode cX2_copyFrom 5 = .ok (.putfield 9, 3) := by decide +kernel
theorem dX2_copyFrom_8 : decode cX2_copyFrom 8 = .ok (.aload_n 0, 1) := by decide +kernel
theorem dX2_copyFrom_9 : decode cX2_copyFrom 9 = .ok (.aload_n 1, 1) := by decide +kernel
theorem dX2_copyFrom_10 : decode cX2_copyFrom 10 = .ok (.getfield 21, 3) := by decide +kernel
theorem dX2_copyFrom_13 : decode cX2_copyFrom 13 = .ok (.putfield 21, 3) := by decide +kernel
theorem dX2_copyFrom_16 : decode cX2_copyFrom 16 = .ok (.return_, 1) := by decide +kernel
theorem dX3_init_0 : decode cX3_init 0 = .ok (.aload_n 0, 1) := by decide +kernel
theorem dX3_init_1 : decode cX3_init 1 = .ok (.invokespecial 3, 3) := by decide +kernel
theorem dX3_init_4 : decode cX3_init 4 = .ok (.aload_n 0, 1) := by decide +kernel
theorem dX3_init_5 : decode cX3_init 5 = .ok (.bipush 8, 2) := by decide +kernel
theorem dX3_init_7 : decode cX3_init 7 = .ok (.newarray .int, 2) := by decide +kernel
theorem dX3_init_9 : decode cX3_init 9 = .ok (.putfield 9, 3) := by decide +kernel
theorem dX3_init_12 : decode cX3_init 12 = .ok (.aload_n 0, 1) := by decide +kernel
theorem dX3_init_13 : decode cX3_init 13 = .ok (.bipush 96, 2) := by decide +kernel
theorem dX3_init_15 : decode cX3_init 15 = .ok (.newarray .int, 2) := by decide +kernel
theorem dX3_init_17 : decode cX3_init 17 = .ok (.putfield 15, 3) := by decide +kernel
theorem dX3_init_20 : decode cX3_init 20 = .ok (.aload_n 0, 1) := by decide +kernel
theorem dX3_init_21 : decode cX3_init 21 = .ok (.bipush 96, 2) := by decide +kernel
theorem dX3_init_23 : decode cX3_init 23 = .ok (.newarray .int, 2) := by decide +kernel
theorem dX3_init_25 : decode cX3_init 25 = .ok (.putfield 18, 3) := by decide +kernel
theorem dX3_init_28 : decode cX3_init 28 = .ok (.aload_n 0, 1) := by decide +kernel
theorem dX3_init_29 : decode cX3_init 29 = .ok (.bipush 96, 2) := by decide +kernel
theorem dX3_init_31 : decode cX3_init 31 = .ok (.newarray .int, 2) := by decide +kernel
theorem dX3_init_33 : decode cX3_init 33 = .ok (.putfield 21, 3) := by decide +kernel
theorem dX3_init_36 : decode cX3_init 36 = .ok (.return_, 1) := by decide +kernel
theorem dX3_addBody_0 : decode cX3_addBody 0 = .ok (.aload_n 0, 1) := by decide +kernel
theorem dX3_addBody_1 : decode cX3_addBody 1 = .ok (.getfield 24, 3) := by decide +kernel
theorem dX3_addBody_4 : decode cX3_addBody 4 = .ok (.istore_n 1, 1) := by decide +kernel
theorem dX3_addBody_5 : decode cX3_addBody 5 = .ok (.aload_n 0, 1) := by decide +kernel
theorem dX3_addBody_6 : decode cX3_addBody 6 = .ok (.dup, 1) := by decide +kernel
theorem dX3_addBody_7 : decode cX3_addBody 7 = .ok (.getfield 24, 3) := by decide +kernel
theorem dX3_addBody_10 : decode cX3_addBody 10 = .ok (.iconst 1, 1) := by decide +kernel
theorem dX3_addBody_11 : decode cX3_addBody 11 = .ok (.iadd, 1) := by decide +kernel
theorem dX3_addBody_12 : decode cX3_addBody 12 = .ok (.putfield 24, 3) := by decide +kernel
theorem dX3_addBody_15 : decode cX3_addBody 15 = .ok (.iload_n 1, 1) := by decide +kernel
theorem dX3_addBody_16 : decode cX3_addBody 16 = .ok (.ireturn, 1) := by decide +kernel
theorem dX3_linesOf_0 : decode cX3_linesOf 0 = .ok (.iload_n 1, 1) := by decide +kernel
theorem dX3_linesOf_1 : decode cX3_linesOf 1 = .ok (.ifCond .lt 21, 3) := by decide +kernel
theorem dX3_linesOf_4 : decode cX3_linesOf 4 = .ok (.iload_n 1, 1) := by decide +kernel
theorem dX3_linesOf_5 : decode cX3_linesOf 5 = .ok (.aload_n 0, 1) := by decide +kernel
theorem dX3_linesOf_6 : decode cX3_linesOf 6 = .ok (.getfield 9, 3) := by decide +kernel
theorem dX3_linesOf_9 : decode cX3_linesOf 9 = .ok (.arraylength, 1) := by decide +kernel
theorem dX3_linesOf_10 : decode cX3_linesOf 10 = .ok (.if_icmp .ge 12, 3) := by decide +kernel
theorem dX3_linesOf_13 : decode cX3_linesOf 13 = .ok (.aload_n 0, 1) := by decide +kernel
theorem dX3_linesOf_14 : decode cX3_linesOf 14 = .ok (.getfield 9, 3) := by decide +kernel
theorem dX3_linesOf_17 : decode cX3_linesOf 17 = .ok (.iload_n 1, 1) := by decide +kernel
theorem dX3_linesOf_18 : decode cX3_linesOf 18 = .ok (.iaload, 1) := by decide +kernel
theorem dX3_linesOf_19 : decode cX3_linesOf 19 = .ok (.goto 4, 3) := by decide +kernel
theorem dX3_linesOf_22 : decode cX3_linesOf 22 = .ok (.iconst 0, 1) := by decide +kernel
theorem dX3_linesOf_23 : decode cX3_linesOf 23 = .ok (.ireturn, 1) := by decide +kernel
set_option maxRecDepth 20000 in
theorem ggX3_addLine_X3_linesOf : GoodIn wsX3_addLine wsX3_linesOf := goodIn_r _ [9, 4, 14, 15, 16, 17, 18] (by decide +kernel) (by decide +kernel)
set_option maxRecDepth 20000 in
theorem gX3_addLine_X3_linesOf : GoodIn wsX3_addLine (wsV RX3 28 RX3 yX3_linesOf wsX3_linesOf) := goodIn_app (goodIn_of _ (by decide +kernel)) ggX3_addLine_X3_linesOf
set_option maxRecDepth 20000 in
theorem ggX3_addLine_X3_placeOf : GoodIn wsX3_addLine wsX3_placeOf := goodIn_r _ [13] (by decide +kernel) (by decide +kernel)
set_option maxRecDepth 20000 in
theorem gX3_addLine_X3_placeOf : GoodIn wsX3_addLine (wsV RX3 32 RX3 yX3_placeOf wsX3_placeOf) := goodIn_app (goodIn_of _ (by decide +kernel)) ggX3_addLine_X3_placeOf
theorem dX3_addLine_0 : decode cX3_addLine 0 = .ok (.aload_n 0, 1) := by decide +kernel
theorem dX3_addLine_1 : decode cX3_addLine 1 = .ok (.iload_n 1, 1) := by decide +kernel
theorem dX3_addLine_2 : decode cX3_addLine 2 = .ok (.invokevirtual 28, 3) := by decide +kernel
theorem dX3_addLine_5 : decode cX3_addLine 5 = .ok (.istore 5, 2) := by decide +kernel
theorem dX3_addLine_7 : decode cX3_addLine 7 = .ok (.aload_n 0, 1) := by decide +kernel
theorem dX3_addLine_8 : decode cX3_addLine 8 = .ok (.iload_n 1, 1) := by decide +kernel
theorem dX3_addLine_9 : decode cX3_addLine 9 = .ok (.iload 5, 2) := by decide +kernel
theorem dX3_addLine_11 : decode cX3_addLine 11 = .ok (.invokevirtual 32, 3) := by decide +kernel
theorem dX3_addLine_14 : decode cX3_addLine 14 = .ok (.istore 6, 2) := by decide +kernel
theorem dX3_addLine_16 : decode cX3_addLine 16 = .ok (.iload 6, 2) := by decide +kernel
theorem dX3_addLine_18 : decode cX3_addLine 18 = .ok (.iconst (-1), 1) := by decide +kernel
theorem dX3_addLine_19 : decode cX3_addLine 19 = .ok (.if_icmp .ne 4, 3) := by decide +kernel
theorem dX3_addLine_22 : decode cX3_addLine 22 = .ok (.return_, 1) := by decide +kernel
theorem dX3_addLine_23 : decode cX3_addLine 23 = .ok (.aload_n 0, 1) := by decide +kernel
theorem dX3_addLine_24 : decode cX3_addLine 24 = .ok (.getfield 15, 3) := by decide +kernel
theorem dX3_addLine_27 : decode cX3_addLine 27 = .ok (.iload 6, 2) := by decide +kernel
theorem dX3_addLine_29 : decode cX3_addLine 29 = .ok (.iload_n 2, 1) := by decide +kernel
theorem dX3_addLine_30 : decode cX3_addLine 30 = .ok (.iastore, 1) := by decide +kernel
theorem dX3_addLine_31 : decode cX3_addLine 31 = .ok (.aload_n 0, 1) := by decide +kernel
theorem dX3_addLine_32 : decode cX3_addLine 32 = .ok (.getfield 18, 3) := by decide +kernel
theorem dX3_addLine_35 : decode cX3_addLine 35 = .ok (.iload 6, 2) := by decide +kernel
theorem dX3_addLine_37 : decode cX3_addLine 37 = .ok (.iload_n 3, 1) := by decide +kernel
theorem dX3_addLine_38 : decode cX3_addLine 38 = .ok (.iastore, 1) := by decide +kernel
theorem dX3_addLine_39 : decode cX3_addLine 39 = .ok (.aload_n 0, 1) := by decide +kernel
theorem dX3_addLine_40 : decode cX3_addLine 40 = .ok (.getfield 21, 3) := by decide +kernel
theorem dX3_addLine_43 : decode cX3_addLine 43 = .ok (.iload 6, 2) := by decide +kernel
theorem dX3_addLine_45 : decode cX3_addLine 45 = .ok (.iload 4, 2) := by decide +kernel
theorem dX3_addLine_47 : decode cX3_addLine 47 = .ok (.iastore, 1) := by decide +kernel
theorem dX3_addLine_48 : decode cX3_addLine 48 = .ok (.aload_n 0, 1) := by decide +kernel
theorem dX3_addLine_49 : decode cX3_addLine 49 = .ok (.getfield 9, 3) := by decide +kernel
theorem dX3_addLine_52 : decode cX3_addLine 52 = .ok (.iload_n 1, 1) := by decide +kernel
theorem dX3_addLine_53 : decode cX3_addLine 53 = .ok (.iload 5, 2) := by decide +kernel
theorem dX3_addLine_55 : decode cX3_addLine 55 = .ok (.iconst 1, 1) := by decide +kernel
theorem dX3_addLine_56 : decode cX3_addLine 56 = .ok (.iadd, 1) := by decide +kernel
theorem dX3_addLine_57 : decode cX3_addLine 57 = .ok (.iastore, 1) := by decide +kernel
theorem dX3_addLine_58 : decode cX3_addLine 58 = .ok (.return_, 1) := by decide +kernel
theorem dX3_placeOf_0 : decode cX3_placeOf 0 = .ok (.iload_n 1, 1) := by decide +kernel
theorem dX3_placeOf_1 : decode cX3_placeOf 1 = .ok (.ifCond .lt 23, 3) := by decide +kernel
theorem dX3_placeOf_4 : decode cX3_placeOf 4 = .ok (.iload_n 1, 1) := by decide +kernel
theorem dX3_placeOf_5 : decode cX3_placeOf 5 = .ok (.bipush 8, 2) := by decide +kernel
theorem dX3_placeOf_7 : decode cX3_placeOf 7 = .ok (.if_icmp .ge 17, 3) := by decide +kernel
theorem dX3_placeOf_10 : decode cX3_placeOf 10 = .ok (.iload_n 2, 1) := by decide +kernel
theorem dX3_placeOf_11 : decode cX3_placeOf 11 = .ok (.ifCond .lt 13, 3) := by decide +kernel
theorem dX3_placeOf_14 : decode cX3_placeOf 14 = .ok (.iload_n 2, 1) := by decide +kernel
theorem dX3_placeOf_15 : decode cX3_placeOf 15 = .ok (.bipush 12, 2) := by decide +kernel
theorem dX3_placeOf_17 : decode cX3_placeOf 17 = .ok (.if_icmp .ge 7, 3) := by decide +kernel
theorem dX3_placeOf_20 : decode cX3_placeOf 20 = .ok (.iconst 1, 1) := by decide +kernel
theorem dX3_placeOf_21 : decode cX3_placeOf 21 = .ok (.goto 4, 3) := by decide +kernel
theorem dX3_placeOf_24 : decode cX3_placeOf 24 = .ok (.iconst 0, 1) := by decide +kernel
theorem dX3_placeOf_25 : decode cX3_placeOf 25 = .ok (.istore_n 3, 1) := by decide +kernel
theorem dX3_placeOf_26 : decode cX3_placeOf 26 = .ok (.iload_n 3, 1) := by decide +kernel
theorem dX3_placeOf_27 : decode cX3_placeOf 27 = .ok (.ifCond .eq 12, 3) := by decide +kernel
theorem dX3_placeOf_30 : decode cX3_placeOf 30 = .ok (.iload_n 1, 1) := by decide +kernel
theorem dX3_placeOf_31 : decode cX3_placeOf 31 = .ok (.bipush 12, 2) := by decide +kernel
theorem dX3_placeOf_33 : decode cX3_placeOf 33 = .ok (.imul, 1) := by decide +kernel
theorem dX3_placeOf_34 : decode cX3_placeOf 34 = .ok (.iload_n 2, 1) := by decide +kernel
theorem dX3_placeOf_35 : decode cX3_placeOf 35 = .ok (.iadd, 1) := by decide +kernel
theorem dX3_placeOf_36 : decode cX3_placeOf 36 = .ok (.goto 4, 3) := by decide +kernel
theorem dX3_placeOf_39 : decode cX3_placeOf 39 = .ok (.iconst (-1), 1) := by decide +kernel
theorem dX3_placeOf_40 : decode cX3_placeOf 40 = .ok (.ireturn, 1) := by decide +kernel
set_option maxRecDepth 20000 in
theorem ggX3_fits_X3_lowestA : GoodIn wsX3_fits wsX3_lowestA := goodIn_r _ [4] (by decide +kernel) (by decide +kernel)
set_option maxRecDepth 20000 in
theorem gX3_fits_X3_lowestA : GoodIn wsX3_fits (va_wsS RX3 36 yX3_lowestA wsX3_lowestA) := goodIn_app (goodIn_of _ (by decide +kernel)) ggX3_fits_X3_lowestA
set_option maxRecDepth 20000 in
theorem ggX3_fits_X3_highestA : GoodIn wsX3_fits wsX3_highestA := goodIn_r _ [7] (by decide +kernel) (by decide +kernel)
set_option maxRecDepth 20000 in
theorem gX3_fits_X3_highestA : GoodIn wsX3_fits (va_wsS RX3 39 yX3_highestA wsX3_highestA) := goodIn_app (goodIn_of _ (by decide +kernel)) ggX3_fits_X3_highestA
set_option maxRecDepth 20000 in
theorem ggX3_fits_X3_lowestB : GoodIn wsX3_fits wsX3_lowestB := goodIn_r _ [10, 11, 12, 3, 13] (by decide +kernel) (by decide +kernel)
set_option maxRecDepth 20000 in
theorem gX3_fits_X3_lowestB : GoodIn wsX3_fits (va_wsS RX3 42 yX3_lowestB wsX3_lowestB) := goodIn_app (goodIn_of _ (by decide +kernel)) ggX3_fits_X3_lowestB
set_option maxRecDepth 20000 in
theorem ggX3_fits_X3_highestB : GoodIn wsX3_fits wsX3_highestB := goodIn_r _ [16, 11, 12, 3, 13] (by decide +kernel) (by decide +kernel)
set_option maxRecDepth 20000 in
theorem gX3_fits_X3_highestB : GoodIn wsX3_fits (va_wsS RX3 45 yX3_highestB wsX3_highestB) := goodIn_app (goodIn_of _ (by decide +kernel)) ggX3_fits_X3_highestB
theorem dX3_fits_0 : decode cX3_fits 0 = .ok (.iload_n 0, 1) := by decide +kernel
theorem dX3_fits_1 : decode cX3_fits 1 = .ok (.ifCond .lt 9, 3) := by decide +kernel
theorem dX3_fits_4 : decode cX3_fits 4 = .ok (.iload_n 0, 1) := by decide +kernel
theorem dX3_fits_5 : decode cX3_fits 5 = .ok (.bipush 18, 2) := by decide +kernel
theorem dX3_fits_7 : decode cX3_fits 7 = .ok (.if_icmp .le 5, 3) := by decide +kernel
theorem dX3_fits_10 : decode cX3_fits 10 = .ok (.iconst 0, 1) := by decide +kernel
theorem dX3_fits_11 : decode cX3_fits 11 = .ok (.ireturn, 1) := by decide +kernel
theorem dX3_fits_12 : decode cX3_fits 12 = .ok (.iload_n 1, 1) := by decide +kernel
theorem dX3_fits_13 : decode cX3_fits 13 = .ok (.iload_n 0, 1) := by decide +kernel
theorem dX3_fits_14 : decode cX3_fits 14 = .ok (.invokestatic 36, 3) := by decide +kernel
theorem dX3_fits_17 : decode cX3_fits 17 = .ok (.if_icmp .lt 33, 3) := by decide +kernel
theorem dX3_fits_20 : decode cX3_fits 20 = .ok (.iload_n 1, 1) := by decide +kernel
theorem dX3_fits_21 : decode cX3_fits 21 = .ok (.iload_n 0, 1) := by decide +kernel
theorem dX3_fits_22 : decode cX3_fits 22 = .ok (.invokestatic 39, 3) := by decide +kernel
theorem dX3_fits_25 : decode cX3_fits 25 = .ok (.if_icmp .gt 25, 3) := by decide +kernel
theorem dX3_fits_28 : decode cX3_fits 28 = .ok (.iload_n 2, 1) := by decide +kernel
theorem dX3_fits_29 : decode cX3_fits 29 = .ok (.iload_n 0, 1) := by decide +kernel
theorem dX3_fits_30 : decode cX3_fits 30 = .ok (.iload_n 3, 1) := by decide +kernel
theorem dX3_fits_31 : decode cX3_fits 31 = .ok (.invokestatic 42, 3) := by decide +kernel
theorem dX3_fits_34 : decode cX3_fits 34 = .ok (.if_icmp .lt 16, 3) := by decide +kernel
theorem dX3_fits_37 : decode cX3_fits 37 = .ok (.iload_n 2, 1) := by decide +kernel
theorem dX3_fits_38 : decode cX3_fits 38 = .ok (.iload_n 0, 1) := by decide +kernel
theorem dX3_fits_39 : decode cX3_fits 39 = .ok (.iload_n 3, 1) := by decide +kernel
theorem dX3_fits_40 : decode cX3_fits 40 = .ok (.invokestatic 45, 3) := by decide +kernel
theorem dX3_fits_43 : decode cX3_fits 43 = .ok (.if_icmp .gt 7, 3) := by decide +kernel
theorem dX3_fits_46 : decode cX3_fits 46 = .ok (.iconst 1, 1) := by decide +kernel
theorem dX3_fits_47 : decode cX3_fits 47 = .ok (.goto 4, 3) := by decide +kernel
theorem dX3_fits_50 : decode cX3_fits 50 = .ok (.iconst 0, 1) := by decide +kernel
theorem dX3_fits_51 : decode cX3_fits 51 = .ok (.ireturn, 1) := by decide +kernel
theorem dX3_lowestA_0 : decode cX3_lowestA 0 = .ok (.iload_n 0, 1) := by decide +kernel
theorem dX3_lowestA_1 : decode cX3_lowestA 1 = .ok (.lookupswitch 40 #[(0, 35), (6, 38), (12, 38)], 35) := by decide +kernel
theorem dX3_lowestA_36 : decode cX3_lowestA 36 = .ok (.bipush (-99), 2) := by decide +kernel
theorem dX3_lowestA_38 : decode cX3_lowestA 38 = .ok (.ireturn, 1) := by decide +kernel
theorem dX3_lowestA_39 : decode cX3_lowestA 39 = .ok (.iconst 1, 1) := by decide +kernel
theorem dX3_lowestA_40 : decode cX3_lowestA 40 = .ok (.ireturn, 1) := by decide +kernel
theorem dX3_lowestA_41 : decode cX3_lowestA 41 = .ok (.iconst 0, 1) := by decide +kernel
theorem dX3_lowestA_42 : decode cX3_lowestA 42 = .ok (.ireturn, 1) := by decide +kernel
theorem dX3_highestA_0 : decode cX3_highestA 0 = .ok (.iload_n 0, 1) := by decide +kernel
theorem dX3_highestA_1 : decode cX3_highestA 1 = .ok (.tableswitch 108 0 17 #[87, 90, 90, 90, 108, 108, 92, 95, 108, 108, 98, 108, 101, 104, 104, 106, 106, 106], 87) := by decide +kernel
theorem dX3_highestA_88 : decode cX3_highestA 88 = .ok (.bipush 99, 2) := by decide +kernel
theorem dX3_highestA_90 : decode cX3_highestA 90 = .ok (.ireturn, 1) := by decide +kernel
theorem dX3_highestA_91 : decode cX3_highestA 91 = .ok (.iconst 3, 1) := by decide +kernel
theorem dX3_highestA_92 : decode cX3_highestA 92 = .ok (.ireturn, 1) := by decide +kernel
theorem dX3_highestA_93 : decode cX3_highestA 93 = .ok (.bipush 7, 2) := by decide +kernel
theorem dX3_highestA_95 : decode cX3_highestA 95 = .ok (.ireturn, 1) := by decide +kernel
theorem dX3_highestA_96 : decode cX3_highestA 96 = .ok (.bipush 20, 2) := by decide +kernel
theorem dX3_highestA_98 : decode cX3_highestA 98 = .ok (.ireturn, 1) := by decide +kernel
theorem dX3_highestA_99 : decode cX3_highestA 99 = .ok (.bipush 7, 2) := by decide +kernel
theorem dX3_highestA_101 : decode cX3_highestA 101 = .ok (.ireturn, 1) := by decide +kernel
theorem dX3_highestA_102 : decode cX3_highestA 102 = .ok (.bipush 9, 2) := by decide +kernel
theorem dX3_highestA_104 : decode cX3_highestA 104 = .ok (.ireturn, 1) := by decide +kernel
theorem dX3_highestA_105 : decode cX3_highestA 105 = .ok (.iconst 1, 1) := by decide +kernel
theorem dX3_highestA_106 : decode cX3_highestA 106 = .ok (.ireturn, 1) := by decide +kernel
theorem dX3_highestA_107 : decode cX3_highestA 107 = .ok (.iconst 1, 1) := by decide +kernel
theorem dX3_highestA_108 : decode cX3_highestA 108 = .ok (.ireturn, 1) := by decide +kernel
theorem dX3_highestA_109 : decode cX3_highestA 109 = .ok (.iconst 0, 1) := by decide +kernel
theorem dX3_highestA_110 : decode cX3_highestA 110 = .ok (.ireturn, 1) := by decide +kernel
theorem dX3_goesForward_0 : decode cX3_goesForward 0 = .ok (.iload_n 0, 1) := by decide +kernel
theorem dX3_goesForward_1 : decode cX3_goesForward 1 = .ok (.iconst 4, 1) := by decide +kernel
theorem dX3_goesForward_2 : decode cX3_goesForward 2 = .ok (.if_icmp .eq 15, 3) := by decide +kernel
theorem dX3_goesForward_5 : decode cX3_goesForward 5 = .ok (.iload_n 0, 1) := by decide +kernel
theorem dX3_goesForward_6 : decode cX3_goesForward 6 = .ok (.bipush 7, 2) := by decide +kernel
theorem dX3_goesForward_8 : decode cX3_goesForward 8 = .ok (.if_icmp .eq 9, 3) := by decide +kernel
theorem dX3_goesForward_11 : decode cX3_goesForward 11 = .ok (.iload_n 0, 1) := by decide +kernel
theorem dX3_goesForward_12 : decode cX3_goesForward 12 = .ok (.bipush 8, 2) := by decide +kernel
theorem dX3_goesForward_14 : decode cX3_goesForward 14 = .ok (.if_icmp .ne 7, 3) := by decide +kernel
theorem dX3_goesForward_17 : decode cX3_goesForward 17 = .ok (.iconst 1, 1) := by decide +kernel
theorem dX3_goesForward_18 : decode cX3_goesForward 18 = .ok (.goto 4, 3) := by decide +kernel
theorem dX3_goesForward_21 : decode cX3_goesForward 21 = .ok (.iconst 0, 1) := by decide +kernel
theorem dX3_goesForward_22 : decode cX3_goesForward 22 = .ok (.ireturn, 1) := by decide +kernel
set_option maxRecDepth 20000 in
theorem ggX3_lowestB_X3_goesForward : GoodIn wsX3_lowestB wsX3_goesForward := goodIn_r _ [4] (by decide +kernel) (by decide +kernel)
set_option maxRecDepth 20000 in
theorem gX3_lowestB_X3_goesForward : GoodIn wsX3_lowestB (va_wsS RX3 48 yX3_goesForward wsX3_goesForward) := goodIn_app (goodIn_of _ (by decide +kernel)) ggX3_lowestB_X3_goesForward
theorem dX3_lowestB_0 : decode cX3_lowestB 0 = .ok (.iload_n 0, 1) := by decide +kernel
theorem dX3_lowestB_1 : decode cX3_lowestB 1 = .ok (.invokestatic 48, 3) := by decide +kernel
theorem dX3_lowestB_4 : decode cX3_lowestB 4 = .ok (.ifCond .eq 9, 3) := by decide +kernel
theorem dX3_lowestB_7 : decode cX3_lowestB 7 = .ok (.iload_n 1, 1) := by decide +kernel
theorem dX3_lowestB_8 : decode cX3_lowestB 8 = .ok (.iconst 1, 1) := by decide +kernel
theorem dX3_lowestB_9 : decode cX3_lowestB 9 = .ok (.iadd, 1) := by decide +kernel
theorem dX3_lowestB_10 : decode cX3_lowestB 10 = .ok (.goto 4, 3) := by decide +kernel
theorem dX3_lowestB_13 : decode cX3_lowestB 13 = .ok (.iconst 0, 1) := by decide +kernel
theorem dX3_lowestB_14 : decode cX3_lowestB 14 = .ok (.ireturn, 1) := by decide +kernel
set_option maxRecDepth 20000 in
theorem ggX3_highestB_X3_goesForward : GoodIn wsX3_highestB wsX3_goesForward := goodIn_r _ [4] (by decide +kernel) (by decide +kernel)
set_option maxRecDepth 20000 in
theorem gX3_highestB_X3_goesForward : GoodIn wsX3_highestB (va_wsS RX3 48 yX3_goesForward wsX3_goesForward) := goodIn_app (goodIn_of _ (by decide +kernel)) ggX3_highestB_X3_goesForward
theorem dX3_highestB_0 : decode cX3_highestB 0 = .ok (.iload_n 0, 1) := by decide +kernel
theorem dX3_highestB_1 : decode cX3_highestB 1 = .ok (.invokestatic 48, 3) := by decide +kernel
theorem dX3_highestB_4 : decode cX3_highestB 4 = .ok (.ifCond .eq 6, 3) := by decide +kernel
theorem dX3_highestB_7 : decode cX3_highestB 7 = .ok (.bipush 12, 2) := by decide +kernel
theorem dX3_highestB_9 : decode cX3_highestB 9 = .ok (.ireturn, 1) := by decide +kernel
theorem dX3_highestB_10 : decode cX3_highestB 10 = .ok (.iload_n 0, 1) := by decide +kernel
theorem dX3_highestB_11 : decode cX3_highestB 11 = .ok (.iconst 3, 1) := by decide +kernel
theorem dX3_highestB_12 : decode cX3_highestB 12 = .ok (.if_icmp .ne 7, 3) := by decide +kernel
theorem dX3_highestB_15 : decode cX3_highestB 15 = .ok (.iload_n 1, 1) := by decide +kernel
theorem dX3_highestB_16 : decode cX3_highestB 16 = .ok (.goto 4, 3) := by decide +kernel
theorem dX3_highestB_19 : decode cX3_highestB 19 = .ok (.iconst 0, 1) := by decide +kernel
theorem dX3_highestB_20 : decode cX3_highestB 20 = .ok (.ireturn, 1) := by decide +kernel
theorem dX4_init_0 : decode cX4_init 0 = .ok (.aload_n 0, 1) := by decide +kernel
theorem dX4_init_1 : decode cX4_init 1 = .ok (.invokespecial 3, 3) := by decide +kernel
theorem dX4_init_4 : decode cX4_init 4 = .ok (.aload_n 0, 1) := by decide +kernel
theorem dX4_init_5 : decode cX4_init 5 = .ok (.aload_n 1, 1) := by decide +kernel
theorem dX4_init_6 : decode cX4_init 6 = .ok (.putfield 9, 3) := by decide +kernel
theorem dX4_init_9 : decode cX4_init 9 = .ok (.aload_n 0, 1) := by decide +kernel
theorem dX4_init_10 : decode cX4_init 10 = .ok (.aload_n 2, 1) := by decide +kernel
theorem dX4_init_11 : decode cX4_init 11 = .ok (.putfield 15, 3) := by decide +kernel
theorem dX4_init_14 : decode cX4_init 14 = .ok (.return_, 1) := by decide +kernel
set_option maxRecDepth 20000 in
theorem ggX4_takeTurns_X6_takeReady : GoodIn wsX4_takeTurns wsX6_takeReady := goodIn_r _ [8, 9, 10, 11, 12, 13, 7, 14, 15, 337, 338, 339, 340, 341, 342, 343, 344, 345, 346, 347, 348] (by decide +kernel) (by decide +kernel)
set_option maxRecDepth 20000 in
theorem gX4_takeTurns_X6_takeReady : GoodIn wsX4_takeTurns (wsV RX4 19 RX6 yX6_takeReady wsX6_takeReady) := goodIn_app (goodIn_of _ (by decide +kernel)) ggX4_takeTurns_X6_takeReady
set_option maxRecDepth 20000 in
theorem ggX4_takeTurns_X4_beginTurn : GoodIn wsX4_takeTurns wsX4_beginTurn := goodIn_r _ [20, 21, 1, 22, 23, 24, 25, 26, 27, 28, 29, 19, 30, 31, 32, 33, 34, 35, 36, 37, 38, 39, 40, 41, 7, 42, 43, 44, 12, 13, 14, 15, 45, 46, 47, 48, 49, 50, 51, 52, 53, 54, 55, 56, 57, 58, 59, 60, 61, 62, 63, 64, 65, 66, 67, 68, 69, 70, 71, 72, 73, 74, 75, 76, 77, 78, 79, 80, 81, 82, 83, 84, 85, 86, 87, 88, 89, 90, 91, 92, 93, 9, 10, 94, 95, 96, 97, 98, 99, 100, 101, 102, 103, 104, 105, 106, 107, 108, 109, 110, 111, 112, 113, 114, 115, 116, 117, 118, 119, 120, 349, 350, 351, 352, 353, 354, 355, 356, 357, 358, 359, 360, 361, 362, 363, 364, 365, 334, 335, 336, 366, 367, 368, 369, 370, 371, 372, 373, 374, 375, 376, 377, 378, 379, 337, 338, 339, 340, 341, 342, 343, 344, 345, 346, 347, 348, 380, 381, 382, 383, 384, 385, 386, 387] (by decide +kernel) (by decide +kernel)
set_option maxRecDepth 20000 in
theorem gX4_takeTurns_X4_beginTurn : GoodIn wsX4_takeTurns (wsV RX4 32 RX4 yX4_beginTurn wsX4_beginTurn) := goodIn_app (goodIn_of _ (by decide +kernel)) ggX4_takeTurns_X4_beginTurn
set_option maxRecDepth 20000 in
theorem ggX4_takeTurns_X4_goOn : GoodIn wsX4_takeTurns wsX4_goOn := goodIn_r _ [124, 125, 126, 38, 3, 1, 127, 128, 129, 130, 131, 132, 133, 134, 135, 136, 137, 138, 139, 140, 141, 142, 19, 143, 45, 46, 47, 7, 48, 49, 50, 43, 51, 52, 53, 54, 144, 145, 146, 147, 148, 31, 149, 150, 151, 152, 24, 153, 154, 155, 156, 157, 158, 159, 117, 118, 119, 120, 160, 161, 162, 163, 164, 165, 166, 114, 167, 116, 168, 169, 170, 171, 111, 112, 113, 115, 172, 173, 174, 175, 176, 177, 178, 179, 180, 181, 182, 183, 184, 185, 33, 39, 40, 41, 42, 186, 187, 188, 189, 190, 191, 192, 193, 194, 195, 196, 197, 198, 199, 200, 201, 202, 203, 204, 205, 206, 207, 208, 209, 210, 211, 212, 94, 11, 12, 13, 14, 15, 90, 91, 92, 93, 78, 9, 10, 213, 214, 215, 216, 217, 218, 219, 220, 79, 221, 222, 223, 224, 225, 226, 227, 228, 229, 230, 231, 232, 233, 234, 60, 80, 59, 235, 236, 81, 237, 238, 239, 240, 241, 242, 243, 64, 65, 66, 67, 244, 83, 84, 85, 86, 87, 88, 89, 245, 246, 247, 248, 249, 69, 70, 71, 72, 73, 74, 75, 76, 77, 82, 250, 251, 252, 253, 254, 255, 256, 23, 257, 96, 97, 98, 99, 258, 259, 101, 102, 103, 62, 61, 95, 260, 261, 262, 107, 263, 109, 110, 264, 265, 266, 267, 268, 269, 270, 271, 272, 273, 274, 275, 276, 277, 278, 279, 280, 281, 282, 283, 284, 285, 286, 287, 288, 289, 290, 291, 292, 293, 294, 295, 296, 297, 298, 299, 300, 301, 302, 303, 304, 305, 306, 25, 307, 334, 335, 336, 349, 350, 351, 352, 353, 354, 355, 356, 357, 358, 359, 360, 361, 362, 363, 364, 365, 337, 338, 339, 340, 341, 342, 343, 344, 345, 346, 347, 348, 388, 389, 390, 391, 392, 366, 367, 368, 369, 370, 371, 372, 373, 374, 375, 376, 377, 378, 379, 385, 386, 387, 380, 381, 382, 383, 384] (by decide +kernel) (by decide +kernel)
set_option maxRecDepth 20000 in
theorem gX4_takeTurns_X4_goOn : GoodIn wsX4_takeTurns (wsV RX4 36 RX4 yX4_goOn wsX4_goOn) := goodIn_app (goodIn_of _ (by decide +kernel)) ggX4_takeTurns_X4_goOn
set_option maxRecDepth 20000 in
theorem ggX4_takeTurns_X4_leave : GoodIn wsX4_takeTurns wsX4_leave := goodIn_r _ [311, 1, 31, 312, 34, 313, 206, 185, 39, 40, 41, 7, 42, 43, 314, 315, 316, 19, 317, 318, 24, 319, 241, 242, 320, 249, 69, 70, 71, 72, 73, 59, 74, 75, 76, 77, 15, 78, 79, 60, 80, 81, 82, 83, 84, 85, 86, 87, 88, 89, 90, 91, 92, 93, 9, 10, 94, 321, 322, 323, 324, 325, 35, 326, 217, 218, 219, 220, 52, 221, 222, 223, 189, 224, 191, 225, 46, 47, 48, 49, 50, 51, 53, 54, 44, 12, 13, 14, 327, 328, 329, 114, 330, 331, 332, 333, 231, 232, 233, 234, 235, 236, 27, 28, 29, 30, 32, 33, 36, 37, 38, 334, 335, 336, 349, 350, 351, 352, 353, 354, 355, 356, 357, 358, 359, 360, 361, 362, 363, 364, 365, 366, 367, 368, 369, 370, 371, 372, 373, 374, 375, 376, 377, 378, 379, 337, 338, 339, 340, 341, 342, 343, 344, 345, 346, 347, 348, 385, 386, 387] (by decide +kernel) (by decide +kernel)
set_option maxRecDepth 20000 in
theorem gX4_takeTurns_X4_leave : GoodIn wsX4_takeTurns (wsV RX4 39 RX4 yX4_leave wsX4_leave) := goodIn_app (goodIn_of _ (by decide +kernel)) ggX4_takeTurns_X4_leave
theorem dX4_takeTurns_0 : decode cX4_takeTurns 0 = .ok (.iconst 0, 1) := by decide +kernel
theorem dX4_takeTurns_1 : decode cX4_takeTurns 1 = .ok (.istore_n 2, 1) := by decide +kernel
theorem dX4_takeTurns_2 : decode cX4_takeTurns 2 = .ok (.iload_n 2, 1) := by decide +kernel
theorem dX4_takeTurns_3 : decode cX4_takeTurns 3 = .ok (.iload_n 1, 1) := by decide +kernel
theorem dX4_takeTurns_4 : decode cX4_takeTurns 4 = .ok (.if_icmp .ge 94, 3) := by decide +kernel
theorem dX4_takeTurns_7 : decode cX4_takeTurns 7 = .ok (.aload_n 0, 1) := by decide +kernel
theorem dX4_takeTurns_8 : decode cX4_takeTurns 8 = .ok (.getfield 15, 3) := by decide +kernel
theorem dX4_takeTurns_11 : decode cX4_takeTurns 11 = .ok (.invokevirtual 19, 3) := by decide +kernel
theorem dX4_takeTurns_14 : decode cX4_takeTurns 14 = .ok (.astore_n 3, 1) := by decide +kernel
theorem dX4_takeTurns_15 : decode cX4_takeTurns 15 = .ok (.aload_n 3, 1) := by decide +kernel
theorem dX4_takeTurns_16 : decode cX4_takeTurns 16 = .ok (.ifnonnull 5, 3) := by decide +kernel
theorem dX4_takeTurns_19 : decode cX4_takeTurns 19 = .ok (.iload_n 2, 1) := by decide +kernel
theorem dX4_takeTurns_20 : decode cX4_takeTurns 20 = .ok (.ireturn, 1) := by decide +kernel
theorem dX4_takeTurns_21 : decode cX4_takeTurns 21 = .ok (.iinc 2 1, 3) := by decide +kernel
theorem dX4_takeTurns_24 : decode cX4_takeTurns 24 = .ok (.aload_n 0, 1) := by decide +kernel
theorem dX4_takeTurns_25 : decode cX4_takeTurns 25 = .ok (.getfield 15, 3) := by decide +kernel
theorem dX4_takeTurns_28 : decode cX4_takeTurns 28 = .ok (.dup, 1) := by decide +kernel
theorem dX4_takeTurns_29 : decode cX4_takeTurns 29 = .ok (.getfield 25, 3) := by decide +kernel
theorem dX4_takeTurns_32 : decode cX4_takeTurns 32 = .ok (.iconst 1, 1) := by decide +kernel
theorem dX4_takeTurns_33 : decode cX4_takeTurns 33 = .ok (.iadd, 1) := by decide +kernel
theorem dX4_takeTurns_34 : decode cX4_takeTurns 34 = .ok (.putfield 25, 3) := by decide +kernel
theorem dX4_takeTurns_37 : decode cX4_takeTurns 37 = .ok (.aload_n 0, 1) := by decide +kernel
theorem dX4_takeTurns_38 : decode cX4_takeTurns 38 = .ok (.iconst 0, 1) := by decide +kernel
theorem dX4_takeTurns_39 : decode cX4_takeTurns 39 = .ok (.putfield 29, 3) := by decide +kernel
theorem dX4_takeTurns_42 : decode cX4_takeTurns 42 = .ok (.aload_n 0, 1) := by decide +kernel
theorem dX4_takeTurns_43 : decode cX4_takeTurns 43 = .ok (.aload_n 3, 1) := by decide +kernel
theorem dX4_takeTurns_44 : decode cX4_takeTurns 44 = .ok (.invokevirtual 32, 3) := by decide +kernel
theorem dX4_takeTurns_47 : decode cX4_takeTurns 47 = .ok (.istore 4, 2) := by decide +kernel
theorem dX4_takeTurns_49 : decode cX4_takeTurns 49 = .ok (.iconst 0, 1) := by decide +kernel
theorem dX4_takeTurns_50 : decode cX4_takeTurns 50 = .ok (.istore 5, 2) := by decide +kernel
theorem dX4_takeTurns_52 : decode cX4_takeTurns 52 = .ok (.iload 5, 2) := by decide +kernel
theorem dX4_takeTurns_54 : decode cX4_takeTurns 54 = .ok (.sipush 1000, 3) := by decide +kernel
theorem dX4_takeTurns_57 : decode cX4_takeTurns 57 = .ok (.if_icmp .ge 38, 3) := by decide +kernel
theorem dX4_takeTurns_60 : decode cX4_takeTurns 60 = .ok (.iload 4, 2) := by decide +kernel
theorem dX4_takeTurns_62 : decode cX4_takeTurns 62 = .ok (.bipush (-4), 2) := by decide +kernel
theorem dX4_takeTurns_64 : decode cX4_takeTurns 64 = .ok (.if_icmp .eq 31, 3) := by decide +kernel
theorem dX4_takeTurns_67 : decode cX4_takeTurns 67 = .ok (.iload 4, 2) := by decide +kernel
theorem dX4_takeTurns_69 : decode cX4_takeTurns 69 = .ok (.ifCond .ne 11, 3) := by decide +kernel
theorem dX4_takeTurns_72 : decode cX4_takeTurns 72 = .ok (.aload_n 0, 1) := by decide +kernel
theorem dX4_takeTurns_73 : decode cX4_takeTurns 73 = .ok (.aload_n 3, 1) := by decide +kernel
theorem dX4_takeTurns_74 : decode cX4_takeTurns 74 = .ok (.invokevirtual 36, 3) := by decide +kernel
theorem dX4_takeTurns_77 : decode cX4_takeTurns 77 = .ok (.goto 10, 3) := by decide +kernel
theorem dX4_takeTurns_80 : decode cX4_takeTurns 80 = .ok (.aload_n 0, 1) := by decide +kernel
theorem dX4_takeTurns_81 : decode cX4_takeTurns 81 = .ok (.aload_n 3, 1) := by decide +kernel
theorem dX4_takeTurns_82 : decode cX4_takeTurns 82 = .ok (.iload 4, 2) := by decide +kernel
theorem dX4_takeTurns_84 : decode cX4_takeTurns 84 = .ok (.invokevirtual 39, 3) := by decide +kernel
theorem dX4_takeTurns_87 : decode cX4_takeTurns 87 = .ok (.istore 4, 2) := by decide +kernel
theorem dX4_takeTurns_89 : decode cX4_takeTurns 89 = .ok (.iinc 5 1, 3) := by decide +kernel
theorem dX4_takeTurns_92 : decode cX4_takeTurns 92 = .ok (.goto (-40), 3) := by decide +kernel
theorem dX4_takeTurns_95 : decode cX4_takeTurns 95 = .ok (.goto (-93), 3) := by decide +kernel
theorem dX4_takeTurns_98 : decode cX4_takeTurns 98 = .ok (.iload_n 2, 1) := by decide +kernel
theorem dX4_takeTurns_99 : decode cX4_takeTurns 99 = .ok (.ireturn, 1) := by decide +kernel
set_option maxRecDepth 20000 in
theorem ggX4_beginTurn_X4_takeOffScope : GoodIn wsX4_beginTurn wsX4_takeOffScope := goodIn_r _ [12, 2, 13, 14, 15, 16, 17, 5, 18, 19, 20, 21, 22, 23, 24, 25, 26, 27, 28, 29, 30, 31, 127, 128, 129, 110, 111, 112, 113, 114, 115, 116, 117, 118, 119, 120, 121, 122, 123, 124, 125, 126, 130, 131, 132, 133, 134, 135, 136, 137, 138, 139, 140, 141, 142, 143, 144, 145, 146, 147, 148, 149, 150, 151, 152, 153, 154, 155] (by decide +kernel) (by decide +kernel)
set_option maxRecDepth 20000 in
theorem gX4_beginTurn_X4_takeOffScope : GoodIn wsX4_beginTurn (wsV RX4 48 RX4 yX4_takeOffScope wsX4_takeOffScope) := goodIn_app (goodIn_of _ (by decide +kernel)) ggX4_beginTurn_X4_takeOffScope
set_option maxRecDepth 20000 in
theorem ggX4_beginTurn_X6_isHit : GoodIn wsX4_beginTurn wsX6_isHit := goodIn_r _ [35, 36, 37, 26, 38, 39, 40, 41, 110, 111, 112, 113, 114, 115, 116, 117, 118, 119, 120, 121, 122, 123, 124, 125, 126, 144, 145, 146, 147, 148, 149, 150, 151, 152, 153, 154, 155, 130, 131, 132, 133, 134, 135, 136, 137, 138, 139, 140, 141, 142, 143] (by decide +kernel) (by decide +kernel)
set_option maxRecDepth 20000 in
theorem gX4_beginTurn_X6_isHit : GoodIn wsX4_beginTurn (wsV RX4 51 RX6 yX6_isHit wsX6_isHit) := goodIn_app (goodIn_of _ (by decide +kernel)) ggX4_beginTurn_X6_isHit
set_option maxRecDepth 20000 in
theorem ggX4_beginTurn_X6_giveBack : GoodIn wsX4_beginTurn wsX6_giveBack := goodIn_r _ [45, 46, 47, 48, 49, 50, 51, 52, 24, 53, 54, 55, 56, 57, 58, 59, 60, 61, 62, 63, 64, 31, 65, 66, 67, 68, 69, 70, 71, 72, 73, 74, 75, 76, 77, 78, 79, 80, 81, 82, 83, 84, 85, 86, 87, 88, 89, 90, 91, 92, 93, 94, 95, 96, 97, 98, 99, 110, 111, 112, 113, 114, 115, 116, 117, 118, 119, 120, 121, 122, 123, 124, 125, 126, 156, 157, 158, 159, 160, 144, 145, 146, 147, 148, 149, 150, 151, 152, 153, 154, 155, 161, 162, 163] (by decide +kernel) (by decide +kernel)
set_option maxRecDepth 20000 in
theorem gX4_beginTurn_X6_giveBack : GoodIn wsX4_beginTurn (wsV RX4 55 RX6 yX6_giveBack wsX6_giveBack) := goodIn_app (goodIn_of _ (by decide +kernel)) ggX4_beginTurn_X6_giveBack
set_option maxRecDepth 20000 in
theorem ggX4_beginTurn_X7_putLocal : GoodIn wsX4_beginTurn wsX7_putLocal := goodIn_r _ [104, 105, 110, 111, 112, 113, 114, 115, 116, 117, 118, 119, 120, 121, 122, 123, 124, 125, 126] (by decide +kernel) (by decide +kernel)
set_option maxRecDepth 20000 in
theorem gX4_beginTurn_X7_putLocal : GoodIn wsX4_beginTurn (wsV RX4 75 RX7 yX7_putLocal wsX7_putLocal) := goodIn_app (goodIn_of _ (by decide +kernel)) ggX4_beginTurn_X7_putLocal
set_option maxRecDepth 20000 in
theorem ggX4_beginTurn_X4_next : GoodIn wsX4_beginTurn wsX4_next := goodIn_r _ [109, 20, 110, 111, 112, 113, 114, 115, 116, 117, 118, 119, 120, 121, 122, 123, 124, 125, 126] (by decide +kernel) (by decide +kernel)
set_option maxRecDepth 20000 in
theorem gX4_beginTurn_X4_next : GoodIn wsX4_beginTurn (wsV RX4 79 RX4 yX4_next wsX4_next) := goodIn_app (goodIn_of _ (by decide +kernel)) ggX4_beginTurn_X4_next
theorem dX4_beginTurn_0 : decode cX4_beginTurn 0 = .ok (.aload_n 1, 1) := by decide +kernel
theorem dX4_beginTurn_1 : decode cX4_beginTurn 1 = .ok (.getfield 43, 3) := by decide +kernel
theorem dX4_beginTurn_4 : decode cX4_beginTurn 4 = .ok (.istore_n 2, 1) := by decide +kernel
theorem dX4_beginTurn_5 : decode cX4_beginTurn 5 = .ok (.iload_n 2, 1) := by decide +kernel
theorem dX4_beginTurn_6 : decode cX4_beginTurn 6 = .ok (.ifCond .ne 5, 3) := by decide +kernel
theorem dX4_beginTurn_9 : decode cX4_beginTurn 9 = .ok (.iconst 0, 1) := by decide +kernel
theorem dX4_beginTurn_10 : decode cX4_beginTurn 10 = .ok (.ireturn, 1) := by decide +kernel
theorem dX4_beginTurn_11 : decode cX4_beginTurn 11 = .ok (.iload_n 2, 1) := by decide +kernel
theorem dX4_beginTurn_12 : decode cX4_beginTurn 12 = .ok (.iconst 5, 1) := by decide +kernel
theorem dX4_beginTurn_13 : decode cX4_beginTurn 13 = .ok (.if_icmp .ne 9, 3) := by decide +kernel
theorem dX4_beginTurn_16 : decode cX4_beginTurn 16 = .ok (.aload_n 0, 1) := by decide +kernel
theorem dX4_beginTurn_17 : decode cX4_beginTurn 17 = .ok (.aload_n 1, 1) := by decide +kernel
theorem dX4_beginTurn_18 : decode cX4_beginTurn 18 = .ok (.invokevirtual 48, 3) := by decide +kernel
theorem dX4_beginTurn_21 : decode cX4_beginTurn 21 = .ok (.ireturn, 1) := by decide +kernel
theorem dX4_beginTurn_22 : decode cX4_beginTurn 22 = .ok (.aload_n 0, 1) := by decide +kernel
theorem dX4_beginTurn_23 : decode cX4_beginTurn 23 = .ok (.getfield 15, 3) := by decide +kernel
theorem dX4_beginTurn_26 : decode cX4_beginTurn 26 = .ok (.aload_n 1, 1) := by decide +kernel
theorem dX4_beginTurn_27 : decode cX4_beginTurn 27 = .ok (.iconst (-1), 1) := by decide +kernel
theorem dX4_beginTurn_28 : decode cX4_beginTurn 28 = .ok (.invokevirtual 51, 3) := by decide +kernel
theorem dX4_beginTurn_31 : decode cX4_beginTurn 31 = .ok (.ifCond .eq 15, 3) := by decide +kernel
theorem dX4_beginTurn_34 : decode cX4_beginTurn 34 = .ok (.aload_n 0, 1) := by decide +kernel
theorem dX4_beginTurn_35 : decode cX4_beginTurn 35 = .ok (.getfield 15, 3) := by decide +kernel
theorem dX4_beginTurn_38 : decode cX4_beginTurn 38 = .ok (.aload_n 1, 1) := by decide +kernel
theorem dX4_beginTurn_39 : decode cX4_beginTurn 39 = .ok (.iload_n 2, 1) := by decide +kernel
theorem dX4_beginTurn_40 : decode cX4_beginTurn 40 = .ok (.invokevirtual 55, 3) := by decide +kernel
theorem dX4_beginTurn_43 : decode cX4_beginTurn 43 = .ok (.bipush (-3), 2) := by decide +kernel
theorem dX4_beginTurn_45 : decode cX4_beginTurn 45 = .ok (.ireturn, 1) := by decide +kernel
theorem dX4_beginTurn_46 : decode cX4_beginTurn 46 = .ok (.aload_n 1, 1) := by decide +kernel
theorem dX4_beginTurn_47 : decode cX4_beginTurn 47 = .ok (.getfield 59, 3) := by decide +kernel
theorem dX4_beginTurn_50 : decode cX4_beginTurn 50 = .ok (.ifCond .le 8, 3) := by decide +kernel
theorem dX4_beginTurn_53 : decode cX4_beginTurn 53 = .ok (.aload_n 1, 1) := by decide +kernel
theorem dX4_beginTurn_54 : decode cX4_beginTurn 54 = .ok (.getfield 59, 3) := by decide +kernel
theorem dX4_beginTurn_57 : decode cX4_beginTurn 57 = .ok (.ireturn, 1) := by decide +kernel
theorem dX4_beginTurn_58 : decode cX4_beginTurn 58 = .ok (.iload_n 2, 1) := by decide +kernel
theorem dX4_beginTurn_59 : decode cX4_beginTurn 59 = .ok (.iconst 4, 1) := by decide +kernel
theorem dX4_beginTurn_60 : decode cX4_beginTurn 60 = .ok (.if_icmp .ne 27, 3) := by decide +kernel
theorem dX4_beginTurn_63 : decode cX4_beginTurn 63 = .ok (.aload_n 1, 1) := by decide +kernel
theorem dX4_beginTurn_64 : decode cX4_beginTurn 64 = .ok (.aload_n 1, 1) := by decide +kernel
theorem dX4_beginTurn_65 : decode cX4_beginTurn 65 = .ok (.getfield 62, 3) := by decide +kernel
theorem dX4_beginTurn_68 : decode cX4_beginTurn 68 = .ok (.putfield 65, 3) := by decide +kernel
theorem dX4_beginTurn_71 : decode cX4_beginTurn 71 = .ok (.aload_n 1, 1) := by decide +kernel
theorem dX4_beginTurn_72 : decode cX4_beginTurn 72 = .ok (.getfield 68, 3) := by decide +kernel
theorem dX4_beginTurn_75 : decode cX4_beginTurn 75 = .ok (.ifCond .eq 12, 3) := by decide +kernel
theorem dX4_beginTurn_78 : decode cX4_beginTurn 78 = .ok (.aload_n 1, 1) := by decide +kernel
theorem dX4_beginTurn_79 : decode cX4_beginTurn 79 = .ok (.iconst 3, 1) := by decide +kernel
theorem dX4_beginTurn_80 : decode cX4_beginTurn 80 = .ok (.aload_n 1, 1) := by decide +kernel
theorem dX4_beginTurn_81 : decode cX4_beginTurn 81 = .ok (.getfield 72, 3) := by decide +kernel
theorem dX4_beginTurn_84 : decode cX4_beginTurn 84 = .ok (.invokevirtual 75, 3) := by decide +kernel
theorem dX4_beginTurn_87 : decode cX4_beginTurn 87 = .ok (.aload_n 0, 1) := by decide +kernel
theorem dX4_beginTurn_88 : decode cX4_beginTurn 88 = .ok (.aload_n 1, 1) := by decide +kernel
theorem dX4_beginTurn_89 : decode cX4_beginTurn 89 = .ok (.invokevirtual 79, 3) := by decide +kernel
theorem dX4_beginTurn_92 : decode cX4_beginTurn 92 = .ok (.ireturn, 1) := by decide +kernel
theorem dX4_next_0 : decode cX4_next 0 = .ok (.aload_n 1, 1) := by decide +kernel
theorem dX4_next_1 : decode cX4_next 1 = .ok (.dup, 1) := by decide +kernel
theorem dX4_next_2 : decode cX4_next 2 = .ok (.getfield 82, 3) := by decide +kernel
theorem dX4_next_5 : decode cX4_next 5 = .ok (.iconst 1, 1) := by decide +kernel
theorem dX4_next_6 : decode cX4_next 6 = .ok (.iadd, 1) := by decide +kernel
theorem dX4_next_7 : decode cX4_next 7 = .ok (.putfield 82, 3) := by decide +kernel
theorem dX4_next_10 : decode cX4_next 10 = .ok (.iconst 0, 1) := by decide +kernel
theorem dX4_next_11 : decode cX4_next 11 = .ok (.ireturn, 1) := by decide +kernel
set_option maxRecDepth 20000 in
theorem ggX4_goOn_X3_placeOf : GoodIn wsX4_goOn wsX3_placeOf := goodIn_r _ [14] (by decide +kernel) (by decide +kernel)
set_option maxRecDepth 20000 in
theorem gX4_goOn_X3_placeOf : GoodIn wsX4_goOn (wsV RX4 88 RX3 yX3_placeOf wsX3_placeOf) := goodIn_app (goodIn_of _ (by decide +kernel)) ggX4_goOn_X3_placeOf
set_option maxRecDepth 20000 in
theorem ggX4_goOn_X3_linesOf : GoodIn wsX4_goOn wsX3_linesOf := goodIn_r _ [18, 19, 303, 304, 305, 306, 307] (by decide +kernel) (by decide +kernel)
set_option maxRecDepth 20000 in
theorem gX4_goOn_X3_linesOf : GoodIn wsX4_goOn (wsV RX4 94 RX3 yX3_linesOf wsX3_linesOf) := goodIn_app (goodIn_of _ (by decide +kernel)) ggX4_goOn_X3_linesOf
set_option maxRecDepth 20000 in
theorem ggX4_goOn_X4_isWait : GoodIn wsX4_goOn wsX4_isWait := goodIn_r _ [23] (by decide +kernel) (by decide +kernel)
set_option maxRecDepth 20000 in
theorem gX4_goOn_X4_isWait : GoodIn wsX4_goOn (va_wsS RX4 105 yX4_isWait wsX4_isWait) := goodIn_app (goodIn_of _ (by decide +kernel)) ggX4_goOn_X4_isWait
set_option maxRecDepth 20000 in
theorem ggX4_goOn_X6_isHit : GoodIn wsX4_goOn wsX6_isHit := goodIn_r _ [28, 29, 30, 31, 32, 33, 34, 35, 274, 275, 276, 277, 278, 279, 280, 281, 282, 283, 284, 285, 286, 287, 288, 289, 290, 291, 292, 293, 294, 295, 296, 297, 298, 299, 300, 301, 302, 308, 309, 310, 311, 312, 313, 314, 315, 316, 317, 318, 319, 320, 321] (by decide +kernel) (by decide +kernel)
set_option maxRecDepth 20000 in
theorem gX4_goOn_X6_isHit : GoodIn wsX4_goOn (wsV RX4 51 RX6 yX6_isHit wsX6_isHit) := goodIn_app (goodIn_of _ (by decide +kernel)) ggX4_goOn_X6_isHit
set_option maxRecDepth 20000 in
theorem ggX4_goOn_X4_doLine : GoodIn wsX4_goOn wsX4_doLine := goodIn_r _ [39, 5, 40, 41, 42, 43, 44, 22, 45, 46, 47, 48, 49, 50, 51, 52, 53, 54, 55, 56, 57, 3, 58, 59, 60, 61, 62, 63, 64, 65, 66, 67, 68, 69, 70, 71, 72, 73, 74, 75, 76, 77, 78, 79, 80, 81, 82, 83, 84, 85, 86, 87, 88, 89, 90, 91, 92, 93, 27, 94, 31, 95, 96, 97, 98, 99, 100, 101, 102, 103, 104, 105, 106, 107, 108, 109, 110, 111, 112, 113, 1, 114, 115, 116, 117, 118, 119, 120, 121, 30, 122, 123, 124, 125, 126, 127, 128, 129, 130, 131, 132, 133, 134, 135, 136, 137, 138, 139, 140, 141, 142, 33, 143, 144, 145, 146, 147, 148, 25, 26, 28, 29, 32, 34, 35, 149, 150, 151, 152, 153, 154, 155, 156, 157, 158, 159, 160, 161, 162, 163, 164, 165, 166, 167, 168, 169, 170, 171, 172, 173, 174, 175, 176, 177, 178, 179, 180, 181, 182, 183, 184, 185, 186, 187, 188, 189, 190, 191, 192, 193, 194, 195, 196, 197, 198, 199, 200, 201, 202, 203, 204, 205, 206, 207, 208, 209, 210, 211, 212, 213, 214, 215, 216, 217, 218, 219, 220, 221, 222, 223, 224, 225, 226, 227, 228, 229, 230, 231, 232, 233, 234, 235, 236, 237, 238, 239, 240, 241, 242, 243, 244, 245, 246, 247, 248, 249, 250, 251, 252, 253, 254, 255, 256, 257, 258, 259, 260, 261, 262, 263, 264, 265, 266, 267, 268, 269, 270, 271, 272, 273, 291, 292, 293, 294, 295, 296, 297, 298, 299, 300, 301, 302, 274, 275, 276, 277, 278, 279, 280, 281, 282, 283, 284, 285, 286, 287, 288, 289, 290, 308, 309, 310, 311, 312, 313, 314, 315, 316, 317, 318, 319, 320, 321, 303, 304, 305, 306, 307, 322, 323, 324, 325, 326, 327, 328, 329] (by decide +kernel) (by decide +kernel)
set_option maxRecDepth 20000 in
theorem gX4_goOn_X4_doLine : GoodIn wsX4_goOn (wsV RX4 115 RX4 yX4_doLine wsX4_doLine) := goodIn_app (goodIn_of _ (by decide +kernel)) ggX4_goOn_X4_doLine
theorem dX4_goOn_0 : decode cX4_goOn 0 = .ok (.aload_n 0, 1) := by decide +kernel
theorem dX4_goOn_1 : decode cX4_goOn 1 = .ok (.getfield 9, 3) := by decide +kernel
theorem dX4_goOn_4 : decode cX4_goOn 4 = .ok (.aload_n 1, 1) := by decide +kernel
theorem dX4_goOn_5 : decode cX4_goOn 5 = .ok (.getfield 85, 3) := by decide +kernel
theorem dX4_goOn_8 : decode cX4_goOn 8 = .ok (.aload_n 1, 1) := by decide +kernel
theorem dX4_goOn_9 : decode cX4_goOn 9 = .ok (.getfield 82, 3) := by decide +kernel
theorem dX4_goOn_12 : decode cX4_goOn 12 = .ok (.invokevirtual 88, 3) := by decide +kernel
theorem dX4_goOn_15 : decode cX4_goOn 15 = .ok (.istore_n 2, 1) := by decide +kernel
theorem dX4_goOn_16 : decode cX4_goOn 16 = .ok (.iload_n 2, 1) := by decide +kernel
theorem dX4_goOn_17 : decode cX4_goOn 17 = .ok (.iconst (-1), 1) := by decide +kernel
theorem dX4_goOn_18 : decode cX4_goOn 18 = .ok (.if_icmp .eq 21, 3) := by decide +kernel
theorem dX4_goOn_21 : decode cX4_goOn 21 = .ok (.aload_n 1, 1) := by decide +kernel
theorem dX4_goOn_22 : decode cX4_goOn 22 = .ok (.getfield 82, 3) := by decide +kernel
theorem dX4_goOn_25 : decode cX4_goOn 25 = .ok (.aload_n 0, 1) := by decide +kernel
theorem dX4_goOn_26 : decode cX4_goOn 26 = .ok (.getfield 9, 3) := by decide +kernel
theorem dX4_goOn_29 : decode cX4_goOn 29 = .ok (.aload_n 1, 1) := by decide +kernel
theorem dX4_goOn_30 : decode cX4_goOn 30 = .ok (.getfield 85, 3) := by decide +kernel
theorem dX4_goOn_33 : decode cX4_goOn 33 = .ok (.invokevirtual 94, 3) := by decide +kernel
theorem dX4_goOn_36 : decode cX4_goOn 36 = .ok (.if_icmp .lt 6, 3) := by decide +kernel
theorem dX4_goOn_39 : decode cX4_goOn 39 = .ok (.bipush (-2), 2) := by decide +kernel
theorem dX4_goOn_41 : decode cX4_goOn 41 = .ok (.ireturn, 1) := by decide +kernel
theorem dX4_goOn_42 : decode cX4_goOn 42 = .ok (.aload_n 0, 1) := by decide +kernel
theorem dX4_goOn_43 : decode cX4_goOn 43 = .ok (.getfield 29, 3) := by decide +kernel
theorem dX4_goOn_46 : decode cX4_goOn 46 = .ok (.bipush 100, 2) := by decide +kernel
theorem dX4_goOn_48 : decode cX4_goOn 48 = .ok (.if_icmp .lt 6, 3) := by decide +kernel
theorem dX4_goOn_51 : decode cX4_goOn 51 = .ok (.bipush 7, 2) := by decide +kernel
theorem dX4_goOn_53 : decode cX4_goOn 53 = .ok (.ireturn, 1) := by decide +kernel
theorem dX4_goOn_54 : decode cX4_goOn 54 = .ok (.aload_n 0, 1) := by decide +kernel
theorem dX4_goOn_55 : decode cX4_goOn 55 = .ok (.dup, 1) := by decide +kernel
theorem dX4_goOn_56 : decode cX4_goOn 56 = .ok (.getfield 29, 3) := by decide +kernel
theorem dX4_goOn_59 : decode cX4_goOn 59 = .ok (.iconst 1, 1) := by decide +kernel
theorem dX4_goOn_60 : decode cX4_goOn 60 = .ok (.iadd, 1) := by decide +kernel
theorem dX4_goOn_61 : decode cX4_goOn 61 = .ok (.putfield 29, 3) := by decide +kernel
theorem dX4_goOn_64 : decode cX4_goOn 64 = .ok (.aload_n 0, 1) := by decide +kernel
theorem dX4_goOn_65 : decode cX4_goOn 65 = .ok (.getfield 15, 3) := by decide +kernel
theorem dX4_goOn_68 : decode cX4_goOn 68 = .ok (.dup, 1) := by decide +kernel
theorem dX4_goOn_69 : decode cX4_goOn 69 = .ok (.getfield 98, 3) := by decide +kernel
theorem dX4_goOn_72 : decode cX4_goOn 72 = .ok (.iconst 1, 1) := by decide +kernel
theorem dX4_goOn_73 : decode cX4_goOn 73 = .ok (.iadd, 1) := by decide +kernel
theorem dX4_goOn_74 : decode cX4_goOn 74 = .ok (.putfield 98, 3) := by decide +kernel
theorem dX4_goOn_77 : decode cX4_goOn 77 = .ok (.aload_n 0, 1) := by decide +kernel
theorem dX4_goOn_78 : decode cX4_goOn 78 = .ok (.getfield 9, 3) := by decide +kernel
theorem dX4_goOn_81 : decode cX4_goOn 81 = .ok (.getfield 101, 3) := by decide +kernel
theorem dX4_goOn_84 : decode cX4_goOn 84 = .ok (.iload_n 2, 1) := by decide +kernel
theorem dX4_goOn_85 : decode cX4_goOn 85 = .ok (.iaload, 1) := by decide +kernel
theorem dX4_goOn_86 : decode cX4_goOn 86 = .ok (.istore_n 3, 1) := by decide +kernel
theorem dX4_goOn_87 : decode cX4_goOn 87 = .ok (.iload_n 3, 1) := by decide +kernel
theorem dX4_goOn_88 : decode cX4_goOn 88 = .ok (.invokestatic 105, 3) := by decide +kernel
theorem dX4_goOn_91 : decode cX4_goOn 91 = .ok (.ifCond .eq 18, 3) := by decide +kernel
theorem dX4_goOn_94 : decode cX4_goOn 94 = .ok (.aload_n 0, 1) := by decide +kernel
theorem dX4_goOn_95 : decode cX4_goOn 95 = .ok (.getfield 15, 3) := by decide +kernel
theorem dX4_goOn_98 : decode cX4_goOn 98 = .ok (.aload_n 1, 1) := by decide +kernel
theorem dX4_goOn_99 : decode cX4_goOn 99 = .ok (.iconst (-1), 1) := by decide +kernel
theorem dX4_goOn_100 : decode cX4_goOn 100 = .ok (.invokevirtual 51, 3) := by decide +kernel
theorem dX4_goOn_103 : decode cX4_goOn 103 = .ok (.ifCond .eq 6, 3) := by decide +kernel
theorem dX4_goOn_106 : decode cX4_goOn 106 = .ok (.bipush (-3), 2) := by decide +kernel
theorem dX4_goOn_108 : decode cX4_goOn 108 = .ok (.ireturn, 1) := by decide +kernel
theorem dX4_goOn_109 : decode cX4_goOn 109 = .ok (.aload_n 0, 1) := by decide +kernel
theorem dX4_goOn_110 : decode cX4_goOn 110 = .ok (.aload_n 1, 1) := by decide +kernel
theorem dX4_goOn_111 : decode cX4_goOn 111 = .ok (.iload_n 3, 1) := by decide +kernel
theorem dX4_goOn_112 : decode cX4_goOn 112 = .ok (.aload_n 0, 1) := by decide +kernel
theorem dX4_goOn_113 : decode cX4_goOn 113 = .ok (.getfield 9, 3) := by decide +kernel
theorem dX4_goOn_116 : decode cX4_goOn 116 = .ok (.getfield 109, 3) := by decide +kernel
theorem dX4_goOn_119 : decode cX4_goOn 119 = .ok (.iload_n 2, 1) := by decide +kernel
theorem dX4_goOn_120 : decode cX4_goOn 120 = .ok (.iaload, 1) := by decide +kernel
theorem dX4_goOn_121 : decode cX4_goOn 121 = .ok (.aload_n 0, 1) := by decide +kernel
theorem dX4_goOn_122 : decode cX4_goOn 122 = .ok (.getfield 9, 3) := by decide +kernel
theorem dX4_goOn_125 : decode cX4_goOn 125 = .ok (.getfield 112, 3) := by decide +kernel
theorem dX4_goOn_128 : decode cX4_goOn 128 = .ok (.iload_n 2, 1) := by decide +kernel
theorem dX4_goOn_129 : decode cX4_goOn 129 = .ok (.iaload, 1) := by decide +kernel
theorem dX4_goOn_130 : decode cX4_goOn 130 = .ok (.invokevirtual 115, 3) := by decide +kernel
theorem dX4_goOn_133 : decode cX4_goOn 133 = .ok (.ireturn, 1) := by decide +kernel
theorem dX4_isWait_0 : decode cX4_isWait 0 = .ok (.iload_n 0, 1) := by decide +kernel
theorem dX4_isWait_1 : decode cX4_isWait 1 = .ok (.tableswitch 45 12 18 #[43, 43, 45, 43, 43, 45, 43], 43) := by decide +kernel
theorem dX4_isWait_44 : decode cX4_isWait 44 = .ok (.iconst 1, 1) := by decide +kernel
theorem dX4_isWait_45 : decode cX4_isWait 45 = .ok (.ireturn, 1) := by decide +kernel
theorem dX4_isWait_46 : decode cX4_isWait 46 = .ok (.iconst 0, 1) := by decide +kernel
theorem dX4_isWait_47 : decode cX4_isWait 47 = .ok (.ireturn, 1) := by decide +kernel
set_option maxRecDepth 20000 in
theorem ggX4_doLine_X4_add : GoodIn wsX4_doLine wsX4_add := goodIn_r _ [8, 9, 10, 11, 12, 13, 14, 15, 16, 17, 18, 19, 7, 20, 21, 262, 263, 264, 265, 266, 267, 268, 269, 270, 271, 272, 273, 274, 275, 276, 277, 278] (by decide +kernel) (by decide +kernel)
set_option maxRecDepth 20000 in
theorem gX4_doLine_X4_add : GoodIn wsX4_doLine (wsV RX4 119 RX4 yX4_add wsX4_add) := goodIn_app (goodIn_of _ (by decide +kernel)) ggX4_doLine_X4_add
set_option maxRecDepth 20000 in
theorem ggX4_doLine_X4_get : GoodIn wsX4_doLine wsX4_get := goodIn_r _ [25, 9, 26, 27, 28, 29, 30, 31, 17, 18, 19, 7, 20, 21, 262, 263, 264, 265, 266, 267, 268, 269, 270, 271, 272, 273, 274, 275, 276, 277, 278] (by decide +kernel) (by decide +kernel)
set_option maxRecDepth 20000 in
theorem gX4_doLine_X4_get : GoodIn wsX4_doLine (wsV RX4 122 RX4 yX4_get wsX4_get) := goodIn_app (goodIn_of _ (by decide +kernel)) ggX4_doLine_X4_get
set_option maxRecDepth 20000 in
theorem ggX4_doLine_X4_put : GoodIn wsX4_doLine wsX4_put := goodIn_r _ [35, 9, 36, 37, 38, 29, 39, 31, 17, 18, 19, 7, 20, 21, 262, 263, 264, 265, 266, 267, 268, 269, 270, 271, 272, 273, 274, 275, 276, 277, 278] (by decide +kernel) (by decide +kernel)
set_option maxRecDepth 20000 in
theorem gX4_doLine_X4_put : GoodIn wsX4_doLine (wsV RX4 125 RX4 yX4_put wsX4_put) := goodIn_app (goodIn_of _ (by decide +kernel)) ggX4_doLine_X4_put
set_option maxRecDepth 20000 in
theorem ggX4_doLine_X4_loop : GoodIn wsX4_doLine wsX4_loop := goodIn_r _ [43, 21, 26, 27, 28, 29, 30, 31, 17, 18, 19, 7, 20, 36, 37, 38, 39, 262, 263, 264, 265, 266, 267, 268, 269, 270, 271, 272, 273, 274, 275, 276, 277, 278] (by decide +kernel) (by decide +kernel)
set_option maxRecDepth 20000 in
theorem gX4_doLine_X4_loop : GoodIn wsX4_doLine (wsV RX4 128 RX4 yX4_loop wsX4_loop) := goodIn_app (goodIn_of _ (by decide +kernel)) ggX4_doLine_X4_loop
set_option maxRecDepth 20000 in
theorem ggX4_doLine_X4_skip : GoodIn wsX4_doLine wsX4_skip := goodIn_r _ [47, 9, 21, 17, 18, 19, 7, 20, 262, 263, 264, 265, 266, 267, 268, 269, 270, 271, 272, 273, 274, 275, 276, 277, 278] (by decide +kernel) (by decide +kernel)
set_option maxRecDepth 20000 in
theorem gX4_doLine_X4_skip : GoodIn wsX4_doLine (wsV RX4 132 RX4 yX4_skip wsX4_skip) := goodIn_app (goodIn_of _ (by decide +kernel)) ggX4_doLine_X4_skip
set_option maxRecDepth 20000 in
theorem ggX4_doLine_X4_open : GoodIn wsX4_doLine wsX4_open := goodIn_r _ [51, 1, 52, 53, 3, 54, 55, 56, 57, 58, 59, 60, 61, 62, 63, 64, 65, 66, 67, 68, 69, 70, 71, 72, 73, 74, 75, 17, 18, 19, 7, 20, 21, 247, 248, 249, 250, 251, 252, 253, 254, 255, 256, 257, 258, 259, 260, 261, 279, 280, 281, 282, 283, 284, 285, 286, 287, 288, 289, 290, 291, 292, 262, 263, 264, 265, 266, 267, 268, 269, 270, 271, 272, 273, 274, 275, 276, 277, 278] (by decide +kernel) (by decide +kernel)
set_option maxRecDepth 20000 in
theorem gX4_doLine_X4_open : GoodIn wsX4_doLine (wsV RX4 138 RX4 yX4_open wsX4_open) := goodIn_app (goodIn_of _ (by decide +kernel)) ggX4_doLine_X4_open
set_option maxRecDepth 20000 in
theorem ggX4_doLine_X4_spawn : GoodIn wsX4_doLine wsX4_spawn := goodIn_r _ [79, 1, 3, 80, 81, 53, 82, 9, 55, 56, 57, 58, 59, 60, 83, 84, 85, 86, 87, 88, 89, 90, 91, 92, 93, 94, 95, 96, 97, 98, 99, 100, 101, 102, 17, 18, 19, 7, 20, 21, 247, 248, 249, 262, 263, 264, 265, 266, 267, 268, 269, 270, 271, 272, 273, 274, 275, 276, 277, 278, 293, 294, 295, 296, 297, 279, 280, 281, 282, 283, 284, 285, 286, 287, 288, 289, 290, 291, 292, 250, 251, 252, 253, 254, 255, 256, 257, 258, 259, 260, 261] (by decide +kernel) (by decide +kernel)
set_option maxRecDepth 20000 in
theorem gX4_doLine_X4_spawn : GoodIn wsX4_doLine (wsV RX4 145 RX4 yX4_spawn wsX4_spawn) := goodIn_app (goodIn_of _ (by decide +kernel)) ggX4_doLine_X4_spawn
set_option maxRecDepth 20000 in
theorem ggX4_doLine_X4_stop : GoodIn wsX4_doLine wsX4_stop := goodIn_r _ [106, 1, 3, 55, 56, 57, 58, 59, 60, 107, 108, 109, 110, 111, 95, 100, 112, 113, 114, 115, 64, 116, 66, 117, 118, 119, 120, 121, 89, 122, 123, 124, 96, 97, 98, 99, 101, 102, 90, 17, 18, 19, 7, 20, 21, 247, 248, 249, 262, 263, 264, 265, 266, 267, 268, 269, 270, 271, 272, 273, 274, 275, 276, 277, 278, 250, 251, 252, 253, 254, 255, 256, 257, 258, 259, 260, 261, 279, 280, 281, 282, 283, 284, 285, 286, 287, 288, 289, 290, 291, 292] (by decide +kernel) (by decide +kernel)
set_option maxRecDepth 20000 in
theorem gX4_doLine_X4_stop : GoodIn wsX4_doLine (wsV RX4 148 RX4 yX4_stop wsX4_stop) := goodIn_app (goodIn_of _ (by decide +kernel)) ggX4_doLine_X4_stop
set_option maxRecDepth 20000 in
theorem ggX4_doLine_X4_sleep : GoodIn wsX4_doLine wsX4_sleep := goodIn_r _ [128, 1, 2, 129, 130, 131, 132, 58, 133, 100, 112, 134, 135, 136, 137, 138, 139, 247, 248, 249, 250, 251, 252, 253, 254, 255, 256, 257, 258, 259, 260, 261, 262, 263, 264, 265, 266, 267, 268, 269, 270, 271, 272, 273, 274, 275, 276, 277, 278] (by decide +kernel) (by decide +kernel)
set_option maxRecDepth 20000 in
theorem gX4_doLine_X4_sleep : GoodIn wsX4_doLine (wsV RX4 151 RX4 yX4_sleep wsX4_sleep) := goodIn_app (goodIn_of _ (by decide +kernel)) ggX4_doLine_X4_sleep
set_option maxRecDepth 20000 in
theorem ggX4_doLine_X4_lock : GoodIn wsX4_doLine wsX4_lock := goodIn_r _ [143, 1, 144, 145, 146, 147, 148, 58, 149, 150, 151, 152, 153, 154, 155, 156, 157, 158, 17, 18, 19, 7, 20, 21, 130, 131, 132, 133, 100, 112, 134, 135, 136, 137, 138, 139, 247, 248, 249, 298, 299, 300, 262, 263, 264, 265, 266, 267, 268, 269, 270, 271, 272, 273, 274, 275, 276, 277, 278, 250, 251, 252, 253, 254, 255, 256, 257, 258, 259, 260, 261] (by decide +kernel) (by decide +kernel)
set_option maxRecDepth 20000 in
theorem gX4_doLine_X4_lock : GoodIn wsX4_doLine (wsV RX4 154 RX4 yX4_lock wsX4_lock) := goodIn_app (goodIn_of _ (by decide +kernel)) ggX4_doLine_X4_lock
set_option maxRecDepth 20000 in
theorem ggX4_doLine_X4_free : GoodIn wsX4_doLine wsX4_free := goodIn_r _ [162, 1, 144, 145, 146, 147, 148, 58, 149, 150, 163, 164, 165, 166, 167, 168, 136, 169, 170, 171, 172, 95, 100, 112, 134, 135, 139, 173, 152, 153, 154, 155, 156, 157, 158, 96, 97, 98, 99, 101, 102, 90, 17, 18, 19, 7, 20, 21, 247, 248, 249, 298, 299, 300, 262, 263, 264, 265, 266, 267, 268, 269, 270, 271, 272, 273, 274, 275, 276, 277, 278, 250, 251, 252, 253, 254, 255, 256, 257, 258, 259, 260, 261] (by decide +kernel) (by decide +kernel)
set_option maxRecDepth 20000 in
theorem gX4_doLine_X4_free : GoodIn wsX4_doLine (wsV RX4 157 RX4 yX4_free wsX4_free) := goodIn_app (goodIn_of _ (by decide +kernel)) ggX4_doLine_X4_free
set_option maxRecDepth 20000 in
theorem ggX4_doLine_X4_send : GoodIn wsX4_doLine wsX4_send := goodIn_r _ [177, 1, 178, 9, 179, 180, 181, 182, 183, 184, 58, 185, 186, 187, 170, 171, 172, 95, 100, 112, 134, 135, 139, 188, 189, 190, 191, 192, 136, 193, 194, 96, 97, 98, 99, 101, 102, 90, 17, 18, 19, 7, 20, 21, 195, 196, 197, 198, 199, 200, 201, 130, 131, 132, 133, 137, 138, 247, 248, 249, 301, 302, 303, 304, 305, 262, 263, 264, 265, 266, 267, 268, 269, 270, 271, 272, 273, 274, 275, 276, 277, 278, 250, 251, 252, 253, 254, 255, 256, 257, 258, 259, 260, 261] (by decide +kernel) (by decide +kernel)
set_option maxRecDepth 20000 in
theorem gX4_doLine_X4_send : GoodIn wsX4_doLine (wsV RX4 160 RX4 yX4_send wsX4_send) := goodIn_app (goodIn_of _ (by decide +kernel)) ggX4_doLine_X4_send
set_option maxRecDepth 20000 in
theorem ggX4_doLine_X4_take : GoodIn wsX4_doLine wsX4_take := goodIn_r _ [205, 1, 9, 178, 206, 207, 208, 58, 209, 210, 194, 183, 184, 185, 186, 169, 170, 171, 172, 95, 100, 112, 134, 135, 139, 211, 212, 213, 214, 192, 193, 215, 216, 217, 198, 218, 200, 201, 219, 220, 221, 222, 223, 196, 197, 199, 96, 97, 98, 99, 101, 102, 90, 17, 18, 19, 7, 20, 21, 182, 130, 131, 132, 133, 136, 137, 138, 247, 248, 249, 262, 263, 264, 265, 266, 267, 268, 269, 270, 271, 272, 273, 274, 275, 276, 277, 278, 301, 302, 303, 304, 305, 250, 251, 252, 253, 254, 255, 256, 257, 258, 259, 260, 261] (by decide +kernel) (by decide +kernel)
set_option maxRecDepth 20000 in
theorem gX4_doLine_X4_take : GoodIn wsX4_doLine (wsV RX4 163 RX4 yX4_take wsX4_take) := goodIn_app (goodIn_of _ (by decide +kernel)) ggX4_doLine_X4_take
set_option maxRecDepth 20000 in
theorem ggX4_doLine_X4_end : GoodIn wsX4_doLine wsX4_end := goodIn_r _ [227, 1, 178, 182, 183, 184, 58, 185, 186, 228, 229, 230, 231, 232, 112, 137, 194, 233, 234, 235, 236, 237, 238, 239, 240, 95, 100, 135, 134, 139, 96, 97, 98, 99, 101, 102, 90, 17, 18, 19, 7, 20, 21, 247, 248, 249, 301, 302, 303, 304, 305, 250, 251, 252, 253, 254, 255, 256, 257, 258, 259, 260, 261, 262, 263, 264, 265, 266, 267, 268, 269, 270, 271, 272, 273, 274, 275, 276, 277, 278] (by decide +kernel) (by decide +kernel)
set_option maxRecDepth 20000 in
theorem gX4_doLine_X4_end : GoodIn wsX4_doLine (wsV RX4 166 RX4 yX4_end wsX4_end) := goodIn_app (goodIn_of _ (by decide +kernel)) ggX4_doLine_X4_end
set_option maxRecDepth 20000 in
theorem ggX4_doLine_X4_pick : GoodIn wsX4_doLine wsX4_pick := goodIn_r _ [244, 1, 9, 245, 206, 207, 208, 58, 209, 210, 194, 183, 184, 185, 186, 169, 170, 171, 172, 95, 100, 112, 134, 135, 139, 211, 212, 213, 214, 192, 193, 215, 216, 217, 198, 218, 200, 201, 219, 220, 221, 222, 223, 196, 197, 199, 96, 97, 98, 99, 101, 102, 90, 36, 37, 38, 29, 39, 31, 17, 18, 19, 7, 20, 21, 246, 234, 235, 236, 232, 130, 131, 132, 133, 136, 137, 138, 247, 248, 249, 262, 263, 264, 265, 266, 267, 268, 269, 270, 271, 272, 273, 274, 275, 276, 277, 278, 301, 302, 303, 304, 305, 250, 251, 252, 253, 254, 255, 256, 257, 258, 259, 260, 261] (by decide +kernel) (by decide +kernel)
set_option maxRecDepth 20000 in
theorem gX4_doLine_X4_pick : GoodIn wsX4_doLine (wsV RX4 169 RX4 yX4_pick wsX4_pick) := goodIn_app (goodIn_of _ (by decide +kernel)) ggX4_doLine_X4_pick
theorem dX4_doLine_0 : decode cX4_doLine 0 = .ok (.iload_n 2, 1) := by decide +kernel
theorem dX4_doLine_1 : decode cX4_doLine 1 = .ok (.tableswitch 245 0 18 #[91, 98, 105, 112, 121, 129, 132, 134, 160, 170, 184, 191, 197, 204, 211, 218, 225, 232, 239], 91) := by decide +kernel
theorem dX4_doLine_92 : decode cX4_doLine 92 = .ok (.aload_n 0, 1) := by decide +kernel
theorem dX4_doLine_93 : decode cX4_doLine 93 = .ok (.aload_n 1, 1) := by decide +kernel
theorem dX4_doLine_94 : decode cX4_doLine 94 = .ok (.iload_n 3, 1) := by decide +kernel
theorem dX4_doLine_95 : decode cX4_doLine 95 = .ok (.invokevirtual 119, 3) := by decide +kernel
theorem dX4_doLine_98 : decode cX4_doLine 98 = .ok (.ireturn, 1) := by decide +kernel
theorem dX4_doLine_99 : decode cX4_doLine 99 = .ok (.aload_n 0, 1) := by decide +kernel
theorem dX4_doLine_100 : decode cX4_doLine 100 = .ok (.aload_n 1, 1) := by decide +kernel
theorem dX4_doLine_101 : decode cX4_doLine 101 = .ok (.iload_n 3, 1) := by decide +kernel
theorem dX4_doLine_102 : decode cX4_doLine 102 = .ok (.invokevirtual 122, 3) := by decide +kernel
theorem dX4_doLine_105 : decode cX4_doLine 105 = .ok (.ireturn, 1) := by decide +kernel
theorem dX4_doLine_106 : decode cX4_doLine 106 = .ok (.aload_n 0, 1) := by decide +kernel
theorem dX4_doLine_107 : decode cX4_doLine 107 = .ok (.aload_n 1, 1) := by decide +kernel
theorem dX4_doLine_108 : decode cX4_doLine 108 = .ok (.iload_n 3, 1) := by decide +kernel
theorem dX4_doLine_109 : decode cX4_doLine 109 = .ok (.invokevirtual 125, 3) := by decide +kernel
theorem dX4_doLine_112 : decode cX4_doLine 112 = .ok (.ireturn, 1) := by decide +kernel
theorem dX4_doLine_113 : decode cX4_doLine 113 = .ok (.aload_n 0, 1) := by decide +kernel
theorem dX4_doLine_114 : decode cX4_doLine 114 = .ok (.aload_n 1, 1) := by decide +kernel
theorem dX4_doLine_115 : decode cX4_doLine 115 = .ok (.iload_n 3, 1) := by decide +kernel
theorem dX4_doLine_116 : decode cX4_doLine 116 = .ok (.iload 4, 2) := by decide +kernel
theorem dX4_doLine_118 : decode cX4_doLine 118 = .ok (.invokevirtual 128, 3) := by decide +kernel
theorem dX4_doLine_121 : decode cX4_doLine 121 = .ok (.ireturn, 1) := by decide +kernel
theorem dX4_doLine_122 : decode cX4_doLine 122 = .ok (.aload_n 0, 1) := by decide +kernel
theorem dX4_doLine_123 : decode cX4_doLine 123 = .ok (.aload_n 1, 1) := by decide +kernel
theorem dX4_doLine_124 : decode cX4_doLine 124 = .ok (.iload 4, 2) := by decide +kernel
theorem dX4_doLine_126 : decode cX4_doLine 126 = .ok (.invokevirtual 132, 3) := by decide +kernel
theorem dX4_doLine_129 : decode cX4_doLine 129 = .ok (.ireturn, 1) := by decide +kernel
theorem dX4_doLine_130 : decode cX4_doLine 130 = .ok (.bipush (-2), 2) := by decide +kernel
theorem dX4_doLine_132 : decode cX4_doLine 132 = .ok (.ireturn, 1) := by decide +kernel
theorem dX4_doLine_133 : decode cX4_doLine 133 = .ok (.iload_n 3, 1) := by decide +kernel
theorem dX4_doLine_134 : decode cX4_doLine 134 = .ok (.ireturn, 1) := by decide +kernel
theorem dX4_doLine_135 : decode cX4_doLine 135 = .ok (.aload_n 0, 1) := by decide +kernel
theorem dX4_doLine_136 : decode cX4_doLine 136 = .ok (.aload_n 1, 1) := by decide +kernel
theorem dX4_doLine_137 : decode cX4_doLine 137 = .ok (.iconst 0, 1) := by decide +kernel
theorem dX4_doLine_138 : decode cX4_doLine 138 = .ok (.iload_n 3, 1) := by decide +kernel
theorem dX4_doLine_139 : decode cX4_doLine 139 = .ok (.ifCond .le 15, 3) := by decide +kernel
theorem dX4_doLine_142 : decode cX4_doLine 142 = .ok (.aload_n 0, 1) := by decide +kernel
theorem dX4_doLine_143 : decode cX4_doLine 143 = .ok (.getfield 15, 3) := by decide +kernel
theorem dX4_doLine_146 : decode cX4_doLine 146 = .ok (.getfield 135, 3) := by decide +kernel
theorem dX4_doLine_149 : decode cX4_doLine 149 = .ok (.iload_n 3, 1) := by decide +kernel
theorem dX4_doLine_150 : decode cX4_doLine 150 = .ok (.iadd, 1) := by decide +kernel
theorem dX4_doLine_151 : decode cX4_doLine 151 = .ok (.goto 4, 3) := by decide +kernel
theorem dX4_doLine_154 : decode cX4_doLine 154 = .ok (.iconst (-1), 1) := by decide +kernel
theorem dX4_doLine_155 : decode cX4_doLine 155 = .ok (.iload 4, 2) := by decide +kernel
theorem dX4_doLine_157 : decode cX4_doLine 157 = .ok (.invokevirtual 138, 3) := by decide +kernel
theorem dX4_doLine_160 : decode cX4_doLine 160 = .ok (.ireturn, 1) := by decide +kernel
theorem dX4_doLine_161 : decode cX4_doLine 161 = .ok (.aload_n 0, 1) := by decide +kernel
theorem dX4_doLine_162 : decode cX4_doLine 162 = .ok (.aload_n 1, 1) := by decide +kernel
theorem dX4_doLine_163 : decode cX4_doLine 163 = .ok (.iconst 1, 1) := by decide +kernel
theorem dX4_doLine_164 : decode cX4_doLine 164 = .ok (.iconst (-1), 1) := by decide +kernel
theorem dX4_doLine_165 : decode cX4_doLine 165 = .ok (.iload 4, 2) := by decide +kernel
theorem dX4_doLine_167 : decode cX4_doLine 167 = .ok (.invokevirtual 138, 3) := by decide +kernel
theorem dX4_doLine_170 : decode cX4_doLine 170 = .ok (.ireturn, 1) := by decide +kernel
theorem dX4_doLine_171 : decode cX4_doLine 171 = .ok (.aload_n 1, 1) := by decide +kernel
theorem dX4_doLine_172 : decode cX4_doLine 172 = .ok (.getfield 142, 3) := by decide +kernel
theorem dX4_doLine_175 : decode cX4_doLine 175 = .ok (.iconst (-1), 1) := by decide +kernel
theorem dX4_doLine_176 : decode cX4_doLine 176 = .ok (.if_icmp .ne 7, 3) := by decide +kernel
theorem dX4_doLine_179 : decode cX4_doLine 179 = .ok (.iconst 1, 1) := by decide +kernel
theorem dX4_doLine_180 : decode cX4_doLine 180 = .ok (.goto 4, 3) := by decide +kernel
theorem dX4_doLine_183 : decode cX4_doLine 183 = .ok (.iconst (-1), 1) := by decide +kernel
theorem dX4_doLine_184 : decode cX4_doLine 184 = .ok (.ireturn, 1) := by decide +kernel
theorem dX4_doLine_185 : decode cX4_doLine 185 = .ok (.aload_n 0, 1) := by decide +kernel
theorem dX4_doLine_186 : decode cX4_doLine 186 = .ok (.aload_n 1, 1) := by decide +kernel
theorem dX4_doLine_187 : decode cX4_doLine 187 = .ok (.iload_n 3, 1) := by decide +kernel
theorem dX4_doLine_188 : decode cX4_doLine 188 = .ok (.invokevirtual 145, 3) := by decide +kernel
theorem dX4_doLine_191 : decode cX4_doLine 191 = .ok (.ireturn, 1) := by decide +kernel
theorem dX4_doLine_192 : decode cX4_doLine 192 = .ok (.aload_n 0, 1) := by decide +kernel
theorem dX4_doLine_193 : decode cX4_doLine 193 = .ok (.aload_n 1, 1) := by decide +kernel
theorem dX4_doLine_194 : decode cX4_doLine 194 = .ok (.invokevirtual 148, 3) := by decide +kernel
theorem dX4_doLine_197 : decode cX4_doLine 197 = .ok (.ireturn, 1) := by decide +kernel
theorem dX4_doLine_198 : decode cX4_doLine 198 = .ok (.aload_n 0, 1) := by decide +kernel
theorem dX4_doLine_199 : decode cX4_doLine 199 = .ok (.aload_n 1, 1) := by decide +kernel
theorem dX4_doLine_200 : decode cX4_doLine 200 = .ok (.iload_n 3, 1) := by decide +kernel
theorem dX4_doLine_201 : decode cX4_doLine 201 = .ok (.invokevirtual 151, 3) := by decide +kernel
theorem dX4_doLine_204 : decode cX4_doLine 204 = .ok (.ireturn, 1) := by decide +kernel
theorem dX4_doLine_205 : decode cX4_doLine 205 = .ok (.aload_n 0, 1) := by decide +kernel
theorem dX4_doLine_206 : decode cX4_doLine 206 = .ok (.aload_n 1, 1) := by decide +kernel
theorem dX4_doLine_207 : decode cX4_doLine 207 = .ok (.iload_n 3, 1) := by decide +kernel
theorem dX4_doLine_208 : decode cX4_doLine 208 = .ok (.invokevirtual 154, 3) := by decide +kernel
theorem dX4_doLine_211 : decode cX4_doLine 211 = .ok (.ireturn, 1) := by decide +kernel
theorem dX4_doLine_212 : decode cX4_doLine 212 = .ok (.aload_n 0, 1) := by decide +kernel
theorem dX4_doLine_213 : decode cX4_doLine 213 = .ok (.aload_n 1, 1) := by decide +kernel
theorem dX4_doLine_214 : decode cX4_doLine 214 = .ok (.iload_n 3, 1) := by decide +kernel
theorem dX4_doLine_215 : decode cX4_doLine 215 = .ok (.invokevirtual 157, 3) := by decide +kernel
theorem dX4_doLine_218 : decode cX4_doLine 218 = .ok (.ireturn, 1) := by decide +kernel
theorem dX4_doLine_219 : decode cX4_doLine 219 = .ok (.aload_n 0, 1) := by decide +kernel
theorem dX4_doLine_220 : decode cX4_doLine 220 = .ok (.aload_n 1, 1) := by decide +kernel
theorem dX4_doLine_221 : decode cX4_doLine 221 = .ok (.iload_n 3, 1) := by decide +kernel
theorem dX4_doLine_222 : decode cX4_doLine 222 = .ok (.invokevirtual 160, 3) := by decide +kernel
theorem dX4_doLine_225 : decode cX4_doLine 225 = .ok (.ireturn, 1) := by decide +kernel
theorem dX4_doLine_226 : decode cX4_doLine 226 = .ok (.aload_n 0, 1) := by decide +kernel
theorem dX4_doLine_227 : decode cX4_doLine 227 = .ok (.aload_n 1, 1) := by decide +kernel
theorem dX4_doLine_228 : decode cX4_doLine 228 = .ok (.iload_n 3, 1) := by decide +kernel
theorem dX4_doLine_229 : decode cX4_doLine 229 = .ok (.invokevirtual 163, 3) := by decide +kernel
theorem dX4_doLine_232 : decode cX4_doLine 232 = .ok (.ireturn, 1) := by decide +kernel
theorem dX4_doLine_233 : decode cX4_doLine 233 = .ok (.aload_n 0, 1) := by decide +kernel
theorem dX4_doLine_234 : decode cX4_doLine 234 = .ok (.aload_n 1, 1) := by decide +kernel
theorem dX4_doLine_235 : decode cX4_doLine 235 = .ok (.iload_n 3, 1) := by decide +kernel
theorem dX4_doLine_236 : decode cX4_doLine 236 = .ok (.invokevirtual 166, 3) := by decide +kernel
theorem dX4_doLine_239 : decode cX4_doLine 239 = .ok (.ireturn, 1) := by decide +kernel
theorem dX4_doLine_240 : decode cX4_doLine 240 = .ok (.aload_n 0, 1) := by decide +kernel
theorem dX4_doLine_241 : decode cX4_doLine 241 = .ok (.aload_n 1, 1) := by decide +kernel
theorem dX4_doLine_242 : decode cX4_doLine 242 = .ok (.invokevirtual 169, 3) := by decide +kernel
theorem dX4_doLine_245 : decode cX4_doLine 245 = .ok (.ireturn, 1) := by decide +kernel
theorem dX4_doLine_246 : decode cX4_doLine 246 = .ok (.bipush (-2), 2) := by decide +kernel
theorem dX4_doLine_248 : decode cX4_doLine 248 = .ok (.ireturn, 1) := by decide +kernel
set_option maxRecDepth 20000 in
theorem ggX4_add_X4_next : GoodIn wsX4_add wsX4_next := goodIn_r _ [13, 14, 15, 16, 17, 18, 19, 20, 21, 22, 23, 24, 25, 26, 27, 28, 29, 30, 31] (by decide +kernel) (by decide +kernel)
set_option maxRecDepth 20000 in
theorem gX4_add_X4_next : GoodIn wsX4_add (wsV RX4 79 RX4 yX4_next wsX4_next) := goodIn_app (goodIn_of _ (by decide +kernel)) ggX4_add_X4_next
theorem dX4_add_0 : decode cX4_add 0 = .ok (.aload_n 1, 1) := by decide +kernel
theorem dX4_add_1 : decode cX4_add 1 = .ok (.sipush (-9999), 3) := by decide +kernel
theorem dX4_add_4 : decode cX4_add 4 = .ok (.sipush 9999, 3) := by decide +kernel
theorem dX4_add_7 : decode cX4_add 7 = .ok (.aload_n 1, 1) := by decide +kernel
theorem dX4_add_8 : decode cX4_add 8 = .ok (.getfield 65, 3) := by decide +kernel
theorem dX4_add_11 : decode cX4_add 11 = .ok (.iload_n 2, 1) := by decide +kernel
theorem dX4_add_12 : decode cX4_add 12 = .ok (.iadd, 1) := by decide +kernel
theorem dX4_add_13 : decode cX4_add 13 = .ok (.invokestatic 172, 3) := by decide +kernel
theorem dX4_add_16 : decode cX4_add 16 = .ok (.invokestatic 177, 3) := by decide +kernel
theorem dX4_add_19 : decode cX4_add 19 = .ok (.putfield 65, 3) := by decide +kernel
theorem dX4_add_22 : decode cX4_add 22 = .ok (.aload_n 0, 1) := by decide +kernel
theorem dX4_add_23 : decode cX4_add 23 = .ok (.aload_n 1, 1) := by decide +kernel
theorem dX4_add_24 : decode cX4_add 24 = .ok (.invokevirtual 79, 3) := by decide +kernel
theorem dX4_add_27 : decode cX4_add 27 = .ok (.ireturn, 1) := by decide +kernel
set_option maxRecDepth 20000 in
theorem ggX4_get_X7_localAt : GoodIn wsX4_get wsX7_localAt := goodIn_r _ [6, 7, 14, 15, 16, 17, 18, 19, 20, 21, 22, 23, 24, 25, 26, 27, 28, 29, 30] (by decide +kernel) (by decide +kernel)
set_option maxRecDepth 20000 in
theorem gX4_get_X7_localAt : GoodIn wsX4_get (wsV RX4 180 RX7 yX7_localAt wsX7_localAt) := goodIn_app (goodIn_of _ (by decide +kernel)) ggX4_get_X7_localAt
set_option maxRecDepth 20000 in
theorem ggX4_get_X4_next : GoodIn wsX4_get wsX4_next := goodIn_r _ [12, 13, 14, 15, 16, 17, 18, 19, 20, 21, 22, 23, 24, 25, 26, 27, 28, 29, 30] (by decide +kernel) (by decide +kernel)
set_option maxRecDepth 20000 in
theorem gX4_get_X4_next : GoodIn wsX4_get (wsV RX4 79 RX4 yX4_next wsX4_next) := goodIn_app (goodIn_of _ (by decide +kernel)) ggX4_get_X4_next
theorem dX4_get_0 : decode cX4_get 0 = .ok (.aload_n 1, 1) := by decide +kernel
theorem dX4_get_1 : decode cX4_get 1 = .ok (.aload_n 1, 1) := by decide +kernel
theorem dX4_get_2 : decode cX4_get 2 = .ok (.iload_n 2, 1) := by decide +kernel
theorem dX4_get_3 : decode cX4_get 3 = .ok (.invokevirtual 180, 3) := by decide +kernel
theorem dX4_get_6 : decode cX4_get 6 = .ok (.putfield 65, 3) := by decide +kernel
theorem dX4_get_9 : decode cX4_get 9 = .ok (.aload_n 0, 1) := by decide +kernel
theorem dX4_get_10 : decode cX4_get 10 = .ok (.aload_n 1, 1) := by decide +kernel
theorem dX4_get_11 : decode cX4_get 11 = .ok (.invokevirtual 79, 3) := by decide +kernel
theorem dX4_get_14 : decode cX4_get 14 = .ok (.ireturn, 1) := by decide +kernel
set_option maxRecDepth 20000 in
theorem ggX4_put_X7_putLocal : GoodIn wsX4_put wsX7_putLocal := goodIn_r _ [6, 7, 14, 15, 16, 17, 18, 19, 20, 21, 22, 23, 24, 25, 26, 27, 28, 29, 30] (by decide +kernel) (by decide +kernel)
set_option maxRecDepth 20000 in
theorem gX4_put_X7_putLocal : GoodIn wsX4_put (wsV RX4 75 RX7 yX7_putLocal wsX7_putLocal) := goodIn_app (goodIn_of _ (by decide +kernel)) ggX4_put_X7_putLocal
set_option maxRecDepth 20000 in
theorem ggX4_put_X4_next : GoodIn wsX4_put wsX4_next := goodIn_r _ [12, 13, 14, 15, 16, 17, 18, 19, 20, 21, 22, 23, 24, 25, 26, 27, 28, 29, 30] (by decide +kernel) (by decide +kernel)
set_option maxRecDepth 20000 in
theorem gX4_put_X4_next : GoodIn wsX4_put (wsV RX4 79 RX4 yX4_next wsX4_next) := goodIn_app (goodIn_of _ (by decide +kernel)) ggX4_put_X4_next
theorem dX4_put_0 : decode cX4_put 0 = .ok (.aload_n 1, 1) := by decide +kernel
theorem dX4_put_1 : decode cX4_put 1 = .ok (.iload_n 2, 1) := by decide +kernel
theorem dX4_put_2 : decode cX4_put 2 = .ok (.aload_n 1, 1) := by decide +kernel
theorem dX4_put_3 : decode cX4_put 3 = .ok (.getfield 65, 3) := by decide +kernel
theorem dX4_put_6 : decode cX4_put 6 = .ok (.invokevirtual 75, 3) := by decide +kernel
theorem dX4_put_9 : decode cX4_put 9 = .ok (.aload_n 0, 1) := by decide +kernel
theorem dX4_put_10 : decode cX4_put 10 = .ok (.aload_n 1, 1) := by decide +kernel
theorem dX4_put_11 : decode cX4_put 11 = .ok (.invokevirtual 79, 3) := by decide +kernel
theorem dX4_put_14 : decode cX4_put 14 = .ok (.ireturn, 1) := by decide +kernel
set_option maxRecDepth 20000 in
theorem ggX4_loop_X7_localAt : GoodIn wsX4_loop wsX7_localAt := goodIn_r _ [6, 7, 17, 18, 19, 20, 21, 22, 23, 24, 25, 26, 27, 28, 29, 30, 31, 32, 33] (by decide +kernel) (by decide +kernel)
set_option maxRecDepth 20000 in
theorem gX4_loop_X7_localAt : GoodIn wsX4_loop (wsV RX4 180 RX7 yX7_localAt wsX7_localAt) := goodIn_app (goodIn_of _ (by decide +kernel)) ggX4_loop_X7_localAt
set_option maxRecDepth 20000 in
theorem ggX4_loop_X4_next : GoodIn wsX4_loop wsX4_next := goodIn_r _ [12, 1, 17, 18, 19, 20, 21, 22, 23, 24, 25, 26, 27, 28, 29, 30, 31, 32, 33] (by decide +kernel) (by decide +kernel)
set_option maxRecDepth 20000 in
theorem gX4_loop_X4_next : GoodIn wsX4_loop (wsV RX4 79 RX4 yX4_next wsX4_next) := goodIn_app (goodIn_of _ (by decide +kernel)) ggX4_loop_X4_next
set_option maxRecDepth 20000 in
theorem ggX4_loop_X7_putLocal : GoodIn wsX4_loop wsX7_putLocal := goodIn_r _ [16, 7, 17, 18, 19, 20, 21, 22, 23, 24, 25, 26, 27, 28, 29, 30, 31, 32, 33] (by decide +kernel) (by decide +kernel)
set_option maxRecDepth 20000 in
theorem gX4_loop_X7_putLocal : GoodIn wsX4_loop (wsV RX4 75 RX7 yX7_putLocal wsX7_putLocal) := goodIn_app (goodIn_of _ (by decide +kernel)) ggX4_loop_X7_putLocal
theorem dX4_loop_0 : decode cX4_loop 0 = .ok (.aload_n 1, 1) := by decide +kernel
theorem dX4_loop_1 : decode cX4_loop 1 = .ok (.iload_n 2, 1) := by decide +kernel
theorem dX4_loop_2 : decode cX4_loop 2 = .ok (.invokevirtual 180, 3) := by decide +kernel
theorem dX4_loop_5 : decode cX4_loop 5 = .ok (.istore 4, 2) := by decide +kernel
theorem dX4_loop_7 : decode cX4_loop 7 = .ok (.iload 4, 2) := by decide +kernel
theorem dX4_loop_9 : decode cX4_loop 9 = .ok (.ifCond .gt 9, 3) := by decide +kernel
theorem dX4_loop_12 : decode cX4_loop 12 = .ok (.aload_n 0, 1) := by decide +kernel
theorem dX4_loop_13 : decode cX4_loop 13 = .ok (.aload_n 1, 1) := by decide +kernel
theorem dX4_loop_14 : decode cX4_loop 14 = .ok (.invokevirtual 79, 3) := by decide +kernel
theorem dX4_loop_17 : decode cX4_loop 17 = .ok (.ireturn, 1) := by decide +kernel
theorem dX4_loop_18 : decode cX4_loop 18 = .ok (.aload_n 1, 1) := by decide +kernel
theorem dX4_loop_19 : decode cX4_loop 19 = .ok (.iload_n 2, 1) := by decide +kernel
theorem dX4_loop_20 : decode cX4_loop 20 = .ok (.iload 4, 2) := by decide +kernel
theorem dX4_loop_22 : decode cX4_loop 22 = .ok (.iconst 1, 1) := by decide +kernel
theorem dX4_loop_23 : decode cX4_loop 23 = .ok (.isub, 1) := by decide +kernel
theorem dX4_loop_24 : decode cX4_loop 24 = .ok (.invokevirtual 75, 3) := by decide +kernel
theorem dX4_loop_27 : decode cX4_loop 27 = .ok (.aload_n 1, 1) := by decide +kernel
theorem dX4_loop_28 : decode cX4_loop 28 = .ok (.iload_n 3, 1) := by decide +kernel
theorem dX4_loop_29 : decode cX4_loop 29 = .ok (.putfield 82, 3) := by decide +kernel
theorem dX4_loop_32 : decode cX4_loop 32 = .ok (.iconst 0, 1) := by decide +kernel
theorem dX4_loop_33 : decode cX4_loop 33 = .ok (.ireturn, 1) := by decide +kernel
set_option maxRecDepth 20000 in
theorem ggX4_skip_X4_next : GoodIn wsX4_skip wsX4_next := goodIn_r _ [7, 2, 8, 9, 10, 11, 12, 13, 14, 15, 16, 17, 18, 19, 20, 21, 22, 23, 24] (by decide +kernel) (by decide +kernel)
set_option maxRecDepth 20000 in
theorem gX4_skip_X4_next : GoodIn wsX4_skip (wsV RX4 79 RX4 yX4_next wsX4_next) := goodIn_app (goodIn_of _ (by decide +kernel)) ggX4_skip_X4_next
theorem dX4_skip_0 : decode cX4_skip 0 = .ok (.aload_n 1, 1) := by decide +kernel
theorem dX4_skip_1 : decode cX4_skip 1 = .ok (.getfield 65, 3) := by decide +kernel
theorem dX4_skip_4 : decode cX4_skip 4 = .ok (.ifCond .le 9, 3) := by decide +kernel
theorem dX4_skip_7 : decode cX4_skip 7 = .ok (.aload_n 0, 1) := by decide +kernel
theorem dX4_skip_8 : decode cX4_skip 8 = .ok (.aload_n 1, 1) := by decide +kernel
theorem dX4_skip_9 : decode cX4_skip 9 = .ok (.invokevirtual 79, 3) := by decide +kernel
theorem dX4_skip_12 : decode cX4_skip 12 = .ok (.ireturn, 1) := by decide +kernel
theorem dX4_skip_13 : decode cX4_skip 13 = .ok (.aload_n 1, 1) := by decide +kernel
theorem dX4_skip_14 : decode cX4_skip 14 = .ok (.iload_n 2, 1) := by decide +kernel
theorem dX4_skip_15 : decode cX4_skip 15 = .ok (.putfield 82, 3) := by decide +kernel
theorem dX4_skip_18 : decode cX4_skip 18 = .ok (.iconst 0, 1) := by decide +kernel
theorem dX4_skip_19 : decode cX4_skip 19 = .ok (.ireturn, 1) := by decide +kernel
set_option maxRecDepth 20000 in
theorem ggX4_open_X6_scopeAt : GoodIn wsX4_open wsX6_scopeAt := goodIn_r _ [10, 11, 36, 37, 38, 39, 40, 41, 42, 43, 44, 45, 46, 47] (by decide +kernel) (by decide +kernel)
set_option maxRecDepth 20000 in
theorem gX4_open_X6_scopeAt : GoodIn wsX4_open (wsV RX4 186 RX6 yX6_scopeAt wsX6_scopeAt) := goodIn_app (goodIn_of _ (by decide +kernel)) ggX4_open_X6_scopeAt
set_option maxRecDepth 20000 in
theorem ggX4_open_X5_begin : GoodIn wsX4_open wsX5_begin := goodIn_r _ [16, 17, 18, 19, 20, 21, 22, 23, 24, 25, 26, 48, 49, 50, 51, 52, 53, 54, 55, 56, 57, 58, 59, 60, 61, 62, 63, 64, 65, 66, 67, 68, 69, 70, 71, 72, 73, 74, 75, 76, 77, 78] (by decide +kernel) (by decide +kernel)
set_option maxRecDepth 20000 in
theorem gX4_open_X5_begin : GoodIn wsX4_open (wsV RX4 190 RX5 yX5_begin wsX5_begin) := goodIn_app (goodIn_of _ (by decide +kernel)) ggX4_open_X5_begin
set_option maxRecDepth 20000 in
theorem ggX4_open_X4_next : GoodIn wsX4_open wsX4_next := goodIn_r _ [31, 32, 62, 63, 64, 65, 66, 67, 68, 69, 70, 71, 72, 73, 74, 75, 76, 77, 78] (by decide +kernel) (by decide +kernel)
set_option maxRecDepth 20000 in
theorem gX4_open_X4_next : GoodIn wsX4_open (wsV RX4 79 RX4 yX4_next wsX4_next) := goodIn_app (goodIn_of _ (by decide +kernel)) ggX4_open_X4_next
theorem dX4_open_0 : decode cX4_open 0 = .ok (.aload_n 0, 1) := by decide +kernel
theorem dX4_open_1 : decode cX4_open 1 = .ok (.getfield 15, 3) := by decide +kernel
theorem dX4_open_4 : decode cX4_open 4 = .ok (.aload_n 0, 1) := by decide +kernel
theorem dX4_open_5 : decode cX4_open 5 = .ok (.getfield 15, 3) := by decide +kernel
theorem dX4_open_8 : decode cX4_open 8 = .ok (.getfield 183, 3) := by decide +kernel
theorem dX4_open_11 : decode cX4_open 11 = .ok (.invokevirtual 186, 3) := by decide +kernel
theorem dX4_open_14 : decode cX4_open 14 = .ok (.astore 5, 2) := by decide +kernel
theorem dX4_open_16 : decode cX4_open 16 = .ok (.aload 5, 2) := by decide +kernel
theorem dX4_open_18 : decode cX4_open 18 = .ok (.ifnonnull 5, 3) := by decide +kernel
theorem dX4_open_21 : decode cX4_open 21 = .ok (.iconst 3, 1) := by decide +kernel
theorem dX4_open_22 : decode cX4_open 22 = .ok (.ireturn, 1) := by decide +kernel
theorem dX4_open_23 : decode cX4_open 23 = .ok (.aload 5, 2) := by decide +kernel
theorem dX4_open_25 : decode cX4_open 25 = .ok (.aload_n 1, 1) := by decide +kernel
theorem dX4_open_26 : decode cX4_open 26 = .ok (.iload_n 2, 1) := by decide +kernel
theorem dX4_open_27 : decode cX4_open 27 = .ok (.iload_n 3, 1) := by decide +kernel
theorem dX4_open_28 : decode cX4_open 28 = .ok (.iload 4, 2) := by decide +kernel
theorem dX4_open_30 : decode cX4_open 30 = .ok (.invokevirtual 190, 3) := by decide +kernel
theorem dX4_open_33 : decode cX4_open 33 = .ok (.aload_n 0, 1) := by decide +kernel
theorem dX4_open_34 : decode cX4_open 34 = .ok (.getfield 15, 3) := by decide +kernel
theorem dX4_open_37 : decode cX4_open 37 = .ok (.dup, 1) := by decide +kernel
theorem dX4_open_38 : decode cX4_open 38 = .ok (.getfield 183, 3) := by decide +kernel
theorem dX4_open_41 : decode cX4_open 41 = .ok (.iconst 1, 1) := by decide +kernel
theorem dX4_open_42 : decode cX4_open 42 = .ok (.iadd, 1) := by decide +kernel
theorem dX4_open_43 : decode cX4_open 43 = .ok (.putfield 183, 3) := by decide +kernel
theorem dX4_open_46 : decode cX4_open 46 = .ok (.aload_n 1, 1) := by decide +kernel
theorem dX4_open_47 : decode cX4_open 47 = .ok (.aload 5, 2) := by decide +kernel
theorem dX4_open_49 : decode cX4_open 49 = .ok (.getfield 196, 3) := by decide +kernel
theorem dX4_open_52 : decode cX4_open 52 = .ok (.putfield 142, 3) := by decide +kernel
theorem dX4_open_55 : decode cX4_open 55 = .ok (.aload_n 1, 1) := by decide +kernel
theorem dX4_open_56 : decode cX4_open 56 = .ok (.dup, 1) := by decide +kernel
theorem dX4_open_57 : decode cX4_open 57 = .ok (.getfield 199, 3) := by decide +kernel
theorem dX4_open_60 : decode cX4_open 60 = .ok (.iconst 1, 1) := by decide +kernel
theorem dX4_open_61 : decode cX4_open 61 = .ok (.iadd, 1) := by decide +kernel
theorem dX4_open_62 : decode cX4_open 62 = .ok (.putfield 199, 3) := by decide +kernel
theorem dX4_open_65 : decode cX4_open 65 = .ok (.aload_n 0, 1) := by decide +kernel
theorem dX4_open_66 : decode cX4_open 66 = .ok (.aload_n 1, 1) := by decide +kernel
theorem dX4_open_67 : decode cX4_open 67 = .ok (.invokevirtual 79, 3) := by decide +kernel
theorem dX4_open_70 : decode cX4_open 70 = .ok (.ireturn, 1) := by decide +kernel
set_option maxRecDepth 20000 in
theorem ggX4_spawn_X6_scopeAt : GoodIn wsX4_spawn wsX6_scopeAt := goodIn_r _ [12, 13, 79, 80, 81, 82, 83, 84, 85, 86, 87, 88, 89, 90] (by decide +kernel) (by decide +kernel)
set_option maxRecDepth 20000 in
theorem gX4_spawn_X6_scopeAt : GoodIn wsX4_spawn (wsV RX4 186 RX6 yX6_scopeAt wsX6_scopeAt) := goodIn_app (goodIn_of _ (by decide +kernel)) ggX4_spawn_X6_scopeAt
set_option maxRecDepth 20000 in
theorem ggX4_spawn_X6_makeTask : GoodIn wsX4_spawn wsX6_makeTask := goodIn_r _ [17, 18, 19, 20, 21, 22, 23, 24, 11, 25, 26, 27, 28, 29, 30, 31, 32, 33, 79, 80, 81, 82, 83, 84, 85, 86, 87, 88, 89, 90, 43, 44, 45, 46, 47, 48, 49, 50, 51, 52, 53, 54, 55, 56, 57, 58, 59] (by decide +kernel) (by decide +kernel)
set_option maxRecDepth 20000 in
theorem gX4_spawn_X6_makeTask : GoodIn wsX4_spawn (wsV RX4 205 RX6 yX6_makeTask wsX6_makeTask) := goodIn_app (goodIn_of _ (by decide +kernel)) ggX4_spawn_X6_makeTask
set_option maxRecDepth 20000 in
theorem ggX4_spawn_X4_next : GoodIn wsX4_spawn wsX4_next := goodIn_r _ [38, 39, 43, 44, 45, 46, 47, 48, 49, 50, 51, 52, 53, 54, 55, 56, 57, 58, 59] (by decide +kernel) (by decide +kernel)
set_option maxRecDepth 20000 in
theorem gX4_spawn_X4_next : GoodIn wsX4_spawn (wsV RX4 79 RX4 yX4_next wsX4_next) := goodIn_app (goodIn_of _ (by decide +kernel)) ggX4_spawn_X4_next
theorem dX4_spawn_0 : decode cX4_spawn 0 = .ok (.aload_n 0, 1) := by decide +kernel
theorem dX4_spawn_1 : decode cX4_spawn 1 = .ok (.getfield 15, 3) := by decide +kernel
theorem dX4_spawn_4 : decode cX4_spawn 4 = .ok (.aload_n 1, 1) := by decide +kernel
theorem dX4_spawn_5 : decode cX4_spawn 5 = .ok (.getfield 142, 3) := by decide +kernel
theorem dX4_spawn_8 : decode cX4_spawn 8 = .ok (.invokevirtual 186, 3) := by decide +kernel
theorem dX4_spawn_11 : decode cX4_spawn 11 = .ok (.astore_n 3, 1) := by decide +kernel
theorem dX4_spawn_12 : decode cX4_spawn 12 = .ok (.aload_n 3, 1) := by decide +kernel
theorem dX4_spawn_13 : decode cX4_spawn 13 = .ok (.ifnonnull 5, 3) := by decide +kernel
theorem dX4_spawn_16 : decode cX4_spawn 16 = .ok (.iconst 1, 1) := by decide +kernel
theorem dX4_spawn_17 : decode cX4_spawn 17 = .ok (.ireturn, 1) := by decide +kernel
theorem dX4_spawn_18 : decode cX4_spawn 18 = .ok (.iload_n 2, 1) := by decide +kernel
theorem dX4_spawn_19 : decode cX4_spawn 19 = .ok (.aload_n 0, 1) := by decide +kernel
theorem dX4_spawn_20 : decode cX4_spawn 20 = .ok (.getfield 9, 3) := by decide +kernel
theorem dX4_spawn_23 : decode cX4_spawn 23 = .ok (.getfield 202, 3) := by decide +kernel
theorem dX4_spawn_26 : decode cX4_spawn 26 = .ok (.if_icmp .ge 18, 3) := by decide +kernel
theorem dX4_spawn_29 : decode cX4_spawn 29 = .ok (.aload_n 0, 1) := by decide +kernel
theorem dX4_spawn_30 : decode cX4_spawn 30 = .ok (.getfield 15, 3) := by decide +kernel
theorem dX4_spawn_33 : decode cX4_spawn 33 = .ok (.iload_n 2, 1) := by decide +kernel
theorem dX4_spawn_34 : decode cX4_spawn 34 = .ok (.aload_n 3, 1) := by decide +kernel
theorem dX4_spawn_35 : decode cX4_spawn 35 = .ok (.getfield 196, 3) := by decide +kernel
theorem dX4_spawn_38 : decode cX4_spawn 38 = .ok (.invokevirtual 205, 3) := by decide +kernel
theorem dX4_spawn_41 : decode cX4_spawn 41 = .ok (.goto 4, 3) := by decide +kernel
theorem dX4_spawn_44 : decode cX4_spawn 44 = .ok (.iconst (-1), 1) := by decide +kernel
theorem dX4_spawn_45 : decode cX4_spawn 45 = .ok (.istore 4, 2) := by decide +kernel
theorem dX4_spawn_47 : decode cX4_spawn 47 = .ok (.iload 4, 2) := by decide +kernel
theorem dX4_spawn_49 : decode cX4_spawn 49 = .ok (.iconst (-1), 1) := by decide +kernel
theorem dX4_spawn_50 : decode cX4_spawn 50 = .ok (.if_icmp .ne 5, 3) := by decide +kernel
theorem dX4_spawn_53 : decode cX4_spawn 53 = .ok (.iconst 2, 1) := by decide +kernel
theorem dX4_spawn_54 : decode cX4_spawn 54 = .ok (.ireturn, 1) := by decide +kernel
theorem dX4_spawn_55 : decode cX4_spawn 55 = .ok (.aload_n 3, 1) := by decide +kernel
theorem dX4_spawn_56 : decode cX4_spawn 56 = .ok (.dup, 1) := by decide +kernel
theorem dX4_spawn_57 : decode cX4_spawn 57 = .ok (.getfield 208, 3) := by decide +kernel
theorem dX4_spawn_60 : decode cX4_spawn 60 = .ok (.iconst 1, 1) := by decide +kernel
theorem dX4_spawn_61 : decode cX4_spawn 61 = .ok (.iadd, 1) := by decide +kernel
theorem dX4_spawn_62 : decode cX4_spawn 62 = .ok (.putfield 208, 3) := by decide +kernel
theorem dX4_spawn_65 : decode cX4_spawn 65 = .ok (.aload_n 1, 1) := by decide +kernel
theorem dX4_spawn_66 : decode cX4_spawn 66 = .ok (.iload 4, 2) := by decide +kernel
theorem dX4_spawn_68 : decode cX4_spawn 68 = .ok (.putfield 65, 3) := by decide +kernel
theorem dX4_spawn_71 : decode cX4_spawn 71 = .ok (.aload_n 0, 1) := by decide +kernel
theorem dX4_spawn_72 : decode cX4_spawn 72 = .ok (.aload_n 1, 1) := by decide +kernel
theorem dX4_spawn_73 : decode cX4_spawn 73 = .ok (.invokevirtual 79, 3) := by decide +kernel
theorem dX4_spawn_76 : decode cX4_spawn 76 = .ok (.ireturn, 1) := by decide +kernel
set_option maxRecDepth 20000 in
theorem ggX4_stop_X6_scopeAt : GoodIn wsX4_stop wsX6_scopeAt := goodIn_r _ [7, 8, 65, 66, 67, 68, 69, 70, 71, 72, 73, 74, 75, 76] (by decide +kernel) (by decide +kernel)
set_option maxRecDepth 20000 in
theorem gX4_stop_X6_scopeAt : GoodIn wsX4_stop (wsV RX4 186 RX6 yX6_scopeAt wsX6_scopeAt) := goodIn_app (goodIn_of _ (by decide +kernel)) ggX4_stop_X6_scopeAt
set_option maxRecDepth 20000 in
theorem ggX4_stop_X6_cancelScope : GoodIn wsX4_stop wsX6_cancelScope := goodIn_r _ [12, 13, 14, 15, 16, 17, 18, 19, 20, 21, 22, 23, 24, 25, 6, 26, 27, 28, 8, 29, 30, 31, 32, 33, 34, 35, 36, 37, 38, 77, 78, 79, 80, 81, 82, 83, 84, 85, 86, 87, 88, 89, 90, 65, 66, 67, 68, 69, 70, 71, 72, 73, 74, 75, 76, 48, 49, 50, 51, 52, 53, 54, 55, 56, 57, 58, 59, 60, 61, 62, 63, 64] (by decide +kernel) (by decide +kernel)
set_option maxRecDepth 20000 in
theorem gX4_stop_X6_cancelScope : GoodIn wsX4_stop (wsV RX4 211 RX6 yX6_cancelScope wsX6_cancelScope) := goodIn_app (goodIn_of _ (by decide +kernel)) ggX4_stop_X6_cancelScope
set_option maxRecDepth 20000 in
theorem ggX4_stop_X4_next : GoodIn wsX4_stop wsX4_next := goodIn_r _ [43, 44, 48, 49, 50, 51, 52, 53, 54, 55, 56, 57, 58, 59, 60, 61, 62, 63, 64] (by decide +kernel) (by decide +kernel)
set_option maxRecDepth 20000 in
theorem gX4_stop_X4_next : GoodIn wsX4_stop (wsV RX4 79 RX4 yX4_next wsX4_next) := goodIn_app (goodIn_of _ (by decide +kernel)) ggX4_stop_X4_next
theorem dX4_stop_0 : decode cX4_stop 0 = .ok (.aload_n 0, 1) := by decide +kernel
theorem dX4_stop_1 : decode cX4_stop 1 = .ok (.getfield 15, 3) := by decide +kernel
theorem dX4_stop_4 : decode cX4_stop 4 = .ok (.aload_n 1, 1) := by decide +kernel
theorem dX4_stop_5 : decode cX4_stop 5 = .ok (.getfield 142, 3) := by decide +kernel
theorem dX4_stop_8 : decode cX4_stop 8 = .ok (.invokevirtual 186, 3) := by decide +kernel
theorem dX4_stop_11 : decode cX4_stop 11 = .ok (.astore_n 2, 1) := by decide +kernel
theorem dX4_stop_12 : decode cX4_stop 12 = .ok (.aload_n 2, 1) := by decide +kernel
theorem dX4_stop_13 : decode cX4_stop 13 = .ok (.ifnonnull 5, 3) := by decide +kernel
theorem dX4_stop_16 : decode cX4_stop 16 = .ok (.iconst 1, 1) := by decide +kernel
theorem dX4_stop_17 : decode cX4_stop 17 = .ok (.ireturn, 1) := by decide +kernel
theorem dX4_stop_18 : decode cX4_stop 18 = .ok (.aload_n 0, 1) := by decide +kernel
theorem dX4_stop_19 : decode cX4_stop 19 = .ok (.getfield 15, 3) := by decide +kernel
theorem dX4_stop_22 : decode cX4_stop 22 = .ok (.aload_n 2, 1) := by decide +kernel
theorem dX4_stop_23 : decode cX4_stop 23 = .ok (.invokevirtual 211, 3) := by decide +kernel
theorem dX4_stop_26 : decode cX4_stop 26 = .ok (.pop, 1) := by decide +kernel
theorem dX4_stop_27 : decode cX4_stop 27 = .ok (.aload_n 0, 1) := by decide +kernel
theorem dX4_stop_28 : decode cX4_stop 28 = .ok (.aload_n 1, 1) := by decide +kernel
theorem dX4_stop_29 : decode cX4_stop 29 = .ok (.invokevirtual 79, 3) := by decide +kernel
theorem dX4_stop_32 : decode cX4_stop 32 = .ok (.ireturn, 1) := by decide +kernel
set_option maxRecDepth 20000 in
theorem ggX4_sleep_X6_beginWait : GoodIn wsX4_sleep wsX6_beginWait := goodIn_r _ [8, 9, 10, 11, 12, 13, 14, 15, 16, 32, 33, 34, 35, 36, 37, 38, 39, 40, 41, 42, 43, 44, 45, 46, 47, 48, 20, 21, 22, 23, 24, 25, 26, 27, 28, 29, 30, 31] (by decide +kernel) (by decide +kernel)
set_option maxRecDepth 20000 in
theorem gX4_sleep_X6_beginWait : GoodIn wsX4_sleep (wsV RX4 215 RX6 yX6_beginWait wsX6_beginWait) := goodIn_app (goodIn_of _ (by decide +kernel)) ggX4_sleep_X6_beginWait
theorem dX4_sleep_0 : decode cX4_sleep 0 = .ok (.aload_n 0, 1) := by decide +kernel
theorem dX4_sleep_1 : decode cX4_sleep 1 = .ok (.getfield 15, 3) := by decide +kernel
theorem dX4_sleep_4 : decode cX4_sleep 4 = .ok (.aload_n 1, 1) := by decide +kernel
theorem dX4_sleep_5 : decode cX4_sleep 5 = .ok (.iconst 1, 1) := by decide +kernel
theorem dX4_sleep_6 : decode cX4_sleep 6 = .ok (.iconst (-1), 1) := by decide +kernel
theorem dX4_sleep_7 : decode cX4_sleep 7 = .ok (.invokevirtual 215, 3) := by decide +kernel
theorem dX4_sleep_10 : decode cX4_sleep 10 = .ok (.aload_n 1, 1) := by decide +kernel
theorem dX4_sleep_11 : decode cX4_sleep 11 = .ok (.aload_n 0, 1) := by decide +kernel
theorem dX4_sleep_12 : decode cX4_sleep 12 = .ok (.getfield 15, 3) := by decide +kernel
theorem dX4_sleep_15 : decode cX4_sleep 15 = .ok (.getfield 135, 3) := by decide +kernel
theorem dX4_sleep_18 : decode cX4_sleep 18 = .ok (.iload_n 2, 1) := by decide +kernel
theorem dX4_sleep_19 : decode cX4_sleep 19 = .ok (.iadd, 1) := by decide +kernel
theorem dX4_sleep_20 : decode cX4_sleep 20 = .ok (.putfield 219, 3) := by decide +kernel
theorem dX4_sleep_23 : decode cX4_sleep 23 = .ok (.bipush (-4), 2) := by decide +kernel
theorem dX4_sleep_25 : decode cX4_sleep 25 = .ok (.ireturn, 1) := by decide +kernel
set_option maxRecDepth 20000 in
theorem ggX4_lock_X6_lockAt : GoodIn wsX4_lock wsX6_lockAt := goodIn_r _ [8, 9, 59, 60, 61, 62, 63, 64, 65, 66, 67, 68, 69, 70] (by decide +kernel) (by decide +kernel)
set_option maxRecDepth 20000 in
theorem gX4_lock_X6_lockAt : GoodIn wsX4_lock (wsV RX4 222 RX6 yX6_lockAt wsX6_lockAt) := goodIn_app (goodIn_of _ (by decide +kernel)) ggX4_lock_X6_lockAt
set_option maxRecDepth 20000 in
theorem ggX4_lock_X2_giveTo : GoodIn wsX4_lock wsX2_giveTo := goodIn_r _ [14, 15, 16, 17, 42, 43, 44, 45, 46, 47, 48, 49, 50, 51, 52, 53, 54, 55, 56, 57, 58, 39, 40, 41] (by decide +kernel) (by decide +kernel)
set_option maxRecDepth 20000 in
theorem gX4_lock_X2_giveTo : GoodIn wsX4_lock (wsV RX4 232 RX2 yX2_giveTo wsX2_giveTo) := goodIn_app (goodIn_of _ (by decide +kernel)) ggX4_lock_X2_giveTo
set_option maxRecDepth 20000 in
theorem ggX4_lock_X4_next : GoodIn wsX4_lock wsX4_next := goodIn_r _ [22, 23, 42, 43, 44, 45, 46, 47, 48, 49, 50, 51, 52, 53, 54, 55, 56, 57, 58] (by decide +kernel) (by decide +kernel)
set_option maxRecDepth 20000 in
theorem gX4_lock_X4_next : GoodIn wsX4_lock (wsV RX4 79 RX4 yX4_next wsX4_next) := goodIn_app (goodIn_of _ (by decide +kernel)) ggX4_lock_X4_next
set_option maxRecDepth 20000 in
theorem ggX4_lock_X6_beginWait : GoodIn wsX4_lock wsX6_beginWait := goodIn_r _ [27, 28, 29, 30, 31, 32, 33, 34, 35, 42, 43, 44, 45, 46, 47, 48, 49, 50, 51, 52, 53, 54, 55, 56, 57, 58, 59, 60, 61, 62, 63, 64, 65, 66, 67, 68, 69, 70] (by decide +kernel) (by decide +kernel)
set_option maxRecDepth 20000 in
theorem gX4_lock_X6_beginWait : GoodIn wsX4_lock (wsV RX4 215 RX6 yX6_beginWait wsX6_beginWait) := goodIn_app (goodIn_of _ (by decide +kernel)) ggX4_lock_X6_beginWait
theorem dX4_lock_0 : decode cX4_lock 0 = .ok (.aload_n 0, 1) := by decide +kernel
theorem dX4_lock_1 : decode cX4_lock 1 = .ok (.getfield 15, 3) := by decide +kernel
theorem dX4_lock_4 : decode cX4_lock 4 = .ok (.iload_n 2, 1) := by decide +kernel
theorem dX4_lock_5 : decode cX4_lock 5 = .ok (.invokevirtual 222, 3) := by decide +kernel
theorem dX4_lock_8 : decode cX4_lock 8 = .ok (.astore_n 3, 1) := by decide +kernel
theorem dX4_lock_9 : decode cX4_lock 9 = .ok (.aload_n 3, 1) := by decide +kernel
theorem dX4_lock_10 : decode cX4_lock 10 = .ok (.ifnull 14, 3) := by decide +kernel
theorem dX4_lock_13 : decode cX4_lock 13 = .ok (.aload_n 3, 1) := by decide +kernel
theorem dX4_lock_14 : decode cX4_lock 14 = .ok (.getfield 226, 3) := by decide +kernel
theorem dX4_lock_17 : decode cX4_lock 17 = .ok (.aload_n 1, 1) := by decide +kernel
theorem dX4_lock_18 : decode cX4_lock 18 = .ok (.getfield 231, 3) := by decide +kernel
theorem dX4_lock_21 : decode cX4_lock 21 = .ok (.if_icmp .ne 5, 3) := by decide +kernel
theorem dX4_lock_24 : decode cX4_lock 24 = .ok (.iconst 4, 1) := by decide +kernel
theorem dX4_lock_25 : decode cX4_lock 25 = .ok (.ireturn, 1) := by decide +kernel
theorem dX4_lock_26 : decode cX4_lock 26 = .ok (.aload_n 3, 1) := by decide +kernel
theorem dX4_lock_27 : decode cX4_lock 27 = .ok (.getfield 226, 3) := by decide +kernel
theorem dX4_lock_30 : decode cX4_lock 30 = .ok (.iconst (-1), 1) := by decide +kernel
theorem dX4_lock_31 : decode cX4_lock 31 = .ok (.if_icmp .ne 14, 3) := by decide +kernel
theorem dX4_lock_34 : decode cX4_lock 34 = .ok (.aload_n 3, 1) := by decide +kernel
theorem dX4_lock_35 : decode cX4_lock 35 = .ok (.aload_n 1, 1) := by decide +kernel
theorem dX4_lock_36 : decode cX4_lock 36 = .ok (.invokevirtual 232, 3) := by decide +kernel
theorem dX4_lock_39 : decode cX4_lock 39 = .ok (.aload_n 0, 1) := by decide +kernel
theorem dX4_lock_40 : decode cX4_lock 40 = .ok (.aload_n 1, 1) := by decide +kernel
theorem dX4_lock_41 : decode cX4_lock 41 = .ok (.invokevirtual 79, 3) := by decide +kernel
theorem dX4_lock_44 : decode cX4_lock 44 = .ok (.ireturn, 1) := by decide +kernel
theorem dX4_lock_45 : decode cX4_lock 45 = .ok (.aload_n 0, 1) := by decide +kernel
theorem dX4_lock_46 : decode cX4_lock 46 = .ok (.getfield 15, 3) := by decide +kernel
theorem dX4_lock_49 : decode cX4_lock 49 = .ok (.aload_n 1, 1) := by decide +kernel
theorem dX4_lock_50 : decode cX4_lock 50 = .ok (.iconst 2, 1) := by decide +kernel
theorem dX4_lock_51 : decode cX4_lock 51 = .ok (.iload_n 2, 1) := by decide +kernel
theorem dX4_lock_52 : decode cX4_lock 52 = .ok (.invokevirtual 215, 3) := by decide +kernel
theorem dX4_lock_55 : decode cX4_lock 55 = .ok (.bipush (-4), 2) := by decide +kernel
theorem dX4_lock_57 : decode cX4_lock 57 = .ok (.ireturn, 1) := by decide +kernel
set_option maxRecDepth 20000 in
theorem ggX4_free_X6_lockAt : GoodIn wsX4_free wsX6_lockAt := goodIn_r _ [8, 9, 71, 72, 73, 74, 75, 76, 77, 78, 79, 80, 81, 82] (by decide +kernel) (by decide +kernel)
set_option maxRecDepth 20000 in
theorem gX4_free_X6_lockAt : GoodIn wsX4_free (wsV RX4 222 RX6 yX6_lockAt wsX6_lockAt) := goodIn_app (goodIn_of _ (by decide +kernel)) ggX4_free_X6_lockAt
set_option maxRecDepth 20000 in
theorem ggX4_free_X6_freeLock : GoodIn wsX4_free wsX6_freeLock := goodIn_r _ [13, 14, 15, 16, 17, 18, 19, 7, 20, 21, 22, 23, 24, 25, 26, 27, 28, 29, 30, 31, 32, 33, 34, 35, 36, 37, 38, 39, 40, 41, 51, 52, 53, 54, 55, 56, 57, 58, 59, 60, 61, 62, 63, 64, 65, 66, 67, 68, 69, 70, 71, 72, 73, 74, 75, 76, 77, 78, 79, 80, 81, 82] (by decide +kernel) (by decide +kernel)
set_option maxRecDepth 20000 in
theorem gX4_free_X6_freeLock : GoodIn wsX4_free (wsV RX4 236 RX6 yX6_freeLock wsX6_freeLock) := goodIn_app (goodIn_of _ (by decide +kernel)) ggX4_free_X6_freeLock
set_option maxRecDepth 20000 in
theorem ggX4_free_X4_next : GoodIn wsX4_free wsX4_next := goodIn_r _ [46, 47, 54, 55, 56, 57, 58, 59, 60, 61, 62, 63, 64, 65, 66, 67, 68, 69, 70] (by decide +kernel) (by decide +kernel)
set_option maxRecDepth 20000 in
theorem gX4_free_X4_next : GoodIn wsX4_free (wsV RX4 79 RX4 yX4_next wsX4_next) := goodIn_app (goodIn_of _ (by decide +kernel)) ggX4_free_X4_next
theorem dX4_free_0 : decode cX4_free 0 = .ok (.aload_n 0, 1) := by decide +kernel
theorem dX4_free_1 : decode cX4_free 1 = .ok (.getfield 15, 3) := by decide +kernel
theorem dX4_free_4 : decode cX4_free 4 = .ok (.iload_n 2, 1) := by decide +kernel
theorem dX4_free_5 : decode cX4_free 5 = .ok (.invokevirtual 222, 3) := by decide +kernel
theorem dX4_free_8 : decode cX4_free 8 = .ok (.astore_n 3, 1) := by decide +kernel
theorem dX4_free_9 : decode cX4_free 9 = .ok (.aload_n 3, 1) := by decide +kernel
theorem dX4_free_10 : decode cX4_free 10 = .ok (.ifnull 14, 3) := by decide +kernel
theorem dX4_free_13 : decode cX4_free 13 = .ok (.aload_n 3, 1) := by decide +kernel
theorem dX4_free_14 : decode cX4_free 14 = .ok (.getfield 226, 3) := by decide +kernel
theorem dX4_free_17 : decode cX4_free 17 = .ok (.aload_n 1, 1) := by decide +kernel
theorem dX4_free_18 : decode cX4_free 18 = .ok (.getfield 231, 3) := by decide +kernel
theorem dX4_free_21 : decode cX4_free 21 = .ok (.if_icmp .eq 5, 3) := by decide +kernel
theorem dX4_free_24 : decode cX4_free 24 = .ok (.iconst 4, 1) := by decide +kernel
theorem dX4_free_25 : decode cX4_free 25 = .ok (.ireturn, 1) := by decide +kernel
theorem dX4_free_26 : decode cX4_free 26 = .ok (.aload_n 0, 1) := by decide +kernel
theorem dX4_free_27 : decode cX4_free 27 = .ok (.getfield 15, 3) := by decide +kernel

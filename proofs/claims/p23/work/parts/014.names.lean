theorem dX6_makeTask_17 : decode cX6_makeTask 17 = .ok (.putfield 83, 3) := by decide +kernel
theorem dX6_makeTask_20 : decode cX6_makeTask 20 = .ok (.aload_n 3, 1) := by decide +kernel
theorem dX6_makeTask_21 : decode cX6_makeTask 21 = .ok (.iload_n 2, 1) := by decide +kernel
theorem dX6_makeTask_22 : decode cX6_makeTask 22 = .ok (.putfield 97, 3) := by decide +kernel
theorem dX6_makeTask_25 : decode cX6_makeTask 25 = .ok (.aload_n 0, 1) := by decide +kernel
theorem dX6_makeTask_26 : decode cX6_makeTask 26 = .ok (.dup, 1) := by decide +kernel
theorem dX6_makeTask_27 : decode cX6_makeTask 27 = .ok (.getfield 58, 3) := by decide +kernel
theorem dX6_makeTask_30 : decode cX6_makeTask 30 = .ok (.iconst 1, 1) := by decide +kernel
theorem dX6_makeTask_31 : decode cX6_makeTask 31 = .ok (.iadd, 1) := by decide +kernel
theorem dX6_makeTask_32 : decode cX6_makeTask 32 = .ok (.putfield 58, 3) := by decide +kernel
theorem dX6_makeTask_35 : decode cX6_makeTask 35 = .ok (.aload_n 0, 1) := by decide +kernel
theorem dX6_makeTask_36 : decode cX6_makeTask 36 = .ok (.aload_n 3, 1) := by decide +kernel
theorem dX6_makeTask_37 : decode cX6_makeTask 37 = .ok (.invokevirtual 100, 3) := by decide +kernel
theorem dX6_makeTask_40 : decode cX6_makeTask 40 = .ok (.aload_n 3, 1) := by decide +kernel
theorem dX6_makeTask_41 : decode cX6_makeTask 41 = .ok (.getfield 103, 3) := by decide +kernel
theorem dX6_makeTask_44 : decode cX6_makeTask 44 = .ok (.ireturn, 1) := by decide +kernel
theorem dX6_makeReady_0 : decode cX6_makeReady 0 = .ok (.aload_n 1, 1) := by decide +kernel
theorem dX6_makeReady_1 : decode cX6_makeReady 1 = .ok (.iconst 0, 1) := by decide +kernel
theorem dX6_makeReady_2 : decode cX6_makeReady 2 = .ok (.putfield 80, 3) := by decide +kernel
theorem dX6_makeReady_5 : decode cX6_makeReady 5 = .ok (.aload_n 0, 1) := by decide +kernel
theorem dX6_makeReady_6 : decode cX6_makeReady 6 = .ok (.getfield 65, 3) := by decide +kernel
theorem dX6_makeReady_9 : decode cX6_makeReady 9 = .ok (.ifCond .lt 38, 3) := by decide +kernel
theorem dX6_makeReady_12 : decode cX6_makeReady 12 = .ok (.aload_n 0, 1) := by decide +kernel
theorem dX6_makeReady_13 : decode cX6_makeReady 13 = .ok (.getfield 65, 3) := by decide +kernel
theorem dX6_makeReady_16 : decode cX6_makeReady 16 = .ok (.aload_n 0, 1) := by decide +kernel
theorem dX6_makeReady_17 : decode cX6_makeReady 17 = .ok (.getfield 35, 3) := by decide +kernel
theorem dX6_makeReady_20 : decode cX6_makeReady 20 = .ok (.arraylength, 1) := by decide +kernel
theorem dX6_makeReady_21 : decode cX6_makeReady 21 = .ok (.if_icmp .ge 26, 3) := by decide +kernel
theorem dX6_makeReady_24 : decode cX6_makeReady 24 = .ok (.aload_n 0, 1) := by decide +kernel
theorem dX6_makeReady_25 : decode cX6_makeReady 25 = .ok (.getfield 35, 3) := by decide +kernel
theorem dX6_makeReady_28 : decode cX6_makeReady 28 = .ok (.aload_n 0, 1) := by decide +kernel
theorem dX6_makeReady_29 : decode cX6_makeReady 29 = .ok (.getfield 65, 3) := by decide +kernel
theorem dX6_makeReady_32 : decode cX6_makeReady 32 = .ok (.aload_n 1, 1) := by decide +kernel
theorem dX6_makeReady_33 : decode cX6_makeReady 33 = .ok (.getfield 103, 3) := by decide +kernel
theorem dX6_makeReady_36 : decode cX6_makeReady 36 = .ok (.iastore, 1) := by decide +kernel
theorem dX6_makeReady_37 : decode cX6_makeReady 37 = .ok (.aload_n 0, 1) := by decide +kernel
theorem dX6_makeReady_38 : decode cX6_makeReady 38 = .ok (.dup, 1) := by decide +kernel
theorem dX6_makeReady_39 : decode cX6_makeReady 39 = .ok (.getfield 65, 3) := by decide +kernel
theorem dX6_makeReady_42 : decode cX6_makeReady 42 = .ok (.iconst 1, 1) := by decide +kernel
theorem dX6_makeReady_43 : decode cX6_makeReady 43 = .ok (.iadd, 1) := by decide +kernel
theorem dX6_makeReady_44 : decode cX6_makeReady 44 = .ok (.putfield 65, 3) := by decide +kernel
theorem dX6_makeReady_47 : decode cX6_makeReady 47 = .ok (.return_, 1) := by decide +kernel
set_option maxRecDepth 20000 in
theorem ggX6_takeReady_X6_taskAt : GoodIn wsX6_takeReady wsX6_taskAt := goodIn_r _ [7, 8, 9, 10, 11, 12, 13, 14, 15, 16, 17, 18, 19, 20] (by decide +kernel) (by decide +kernel)
set_option maxRecDepth 20000 in
theorem gX6_takeReady_X6_taskAt : GoodIn wsX6_takeReady (wsV RX6 93 RX6 yX6_taskAt wsX6_taskAt) := goodIn_app (goodIn_of _ (by decide +kernel)) ggX6_takeReady_X6_taskAt
theorem dX6_takeReady_0 : decode cX6_takeReady 0 = .ok (.aload_n 0, 1) := by decide +kernel
theorem dX6_takeReady_1 : decode cX6_takeReady 1 = .ok (.getfield 65, 3) := by decide +kernel
theorem dX6_takeReady_4 : decode cX6_takeReady 4 = .ok (.ifCond .gt 5, 3) := by decide +kernel
theorem dX6_takeReady_7 : decode cX6_takeReady 7 = .ok (.aconst_null, 1) := by decide +kernel
theorem dX6_takeReady_8 : decode cX6_takeReady 8 = .ok (.areturn, 1) := by decide +kernel
theorem dX6_takeReady_9 : decode cX6_takeReady 9 = .ok (.aload_n 0, 1) := by decide +kernel
theorem dX6_takeReady_10 : decode cX6_takeReady 10 = .ok (.aload_n 0, 1) := by decide +kernel
theorem dX6_takeReady_11 : decode cX6_takeReady 11 = .ok (.getfield 35, 3) := by decide +kernel
theorem dX6_takeReady_14 : decode cX6_takeReady 14 = .ok (.iconst 0, 1) := by decide +kernel
theorem dX6_takeReady_15 : decode cX6_takeReady 15 = .ok (.iaload, 1) := by decide +kernel
theorem dX6_takeReady_16 : decode cX6_takeReady 16 = .ok (.invokevirtual 93, 3) := by decide +kernel
theorem dX6_takeReady_19 : decode cX6_takeReady 19 = .ok (.astore_n 1, 1) := by decide +kernel
theorem dX6_takeReady_20 : decode cX6_takeReady 20 = .ok (.iconst 1, 1) := by decide +kernel
theorem dX6_takeReady_21 : decode cX6_takeReady 21 = .ok (.istore_n 2, 1) := by decide +kernel
theorem dX6_takeReady_22 : decode cX6_takeReady 22 = .ok (.iload_n 2, 1) := by decide +kernel
theorem dX6_takeReady_23 : decode cX6_takeReady 23 = .ok (.aload_n 0, 1) := by decide +kernel
theorem dX6_takeReady_24 : decode cX6_takeReady 24 = .ok (.getfield 65, 3) := by decide +kernel
theorem dX6_takeReady_27 : decode cX6_takeReady 27 = .ok (.if_icmp .ge 32, 3) := by decide +kernel
theorem dX6_takeReady_30 : decode cX6_takeReady 30 = .ok (.iload_n 2, 1) := by decide +kernel
theorem dX6_takeReady_31 : decode cX6_takeReady 31 = .ok (.aload_n 0, 1) := by decide +kernel
theorem dX6_takeReady_32 : decode cX6_takeReady 32 = .ok (.getfield 35, 3) := by decide +kernel
theorem dX6_takeReady_35 : decode cX6_takeReady 35 = .ok (.arraylength, 1) := by decide +kernel
theorem dX6_takeReady_36 : decode cX6_takeReady 36 = .ok (.if_icmp .ge 23, 3) := by decide +kernel
theorem dX6_takeReady_39 : decode cX6_takeReady 39 = .ok (.aload_n 0, 1) := by decide +kernel
theorem dX6_takeReady_40 : decode cX6_takeReady 40 = .ok (.getfield 35, 3) := by decide +kernel
theorem dX6_takeReady_43 : decode cX6_takeReady 43 = .ok (.iload_n 2, 1) := by decide +kernel
theorem dX6_takeReady_44 : decode cX6_takeReady 44 = .ok (.iconst 1, 1) := by decide +kernel
theorem dX6_takeReady_45 : decode cX6_takeReady 45 = .ok (.isub, 1) := by decide +kernel
theorem dX6_takeReady_46 : decode cX6_takeReady 46 = .ok (.aload_n 0, 1) := by decide +kernel
theorem dX6_takeReady_47 : decode cX6_takeReady 47 = .ok (.getfield 35, 3) := by decide +kernel
theorem dX6_takeReady_50 : decode cX6_takeReady 50 = .ok (.iload_n 2, 1) := by decide +kernel
theorem dX6_takeReady_51 : decode cX6_takeReady 51 = .ok (.iaload, 1) := by decide +kernel
theorem dX6_takeReady_52 : decode cX6_takeReady 52 = .ok (.iastore, 1) := by decide +kernel
theorem dX6_takeReady_53 : decode cX6_takeReady 53 = .ok (.iinc 2 1, 3) := by decide +kernel
theorem dX6_takeReady_56 : decode cX6_takeReady 56 = .ok (.goto (-34), 3) := by decide +kernel
theorem dX6_takeReady_59 : decode cX6_takeReady 59 = .ok (.aload_n 0, 1) := by decide +kernel
theorem dX6_takeReady_60 : decode cX6_takeReady 60 = .ok (.dup, 1) := by decide +kernel
theorem dX6_takeReady_61 : decode cX6_takeReady 61 = .ok (.getfield 65, 3) := by decide +kernel
theorem dX6_takeReady_64 : decode cX6_takeReady 64 = .ok (.iconst 1, 1) := by decide +kernel
theorem dX6_takeReady_65 : decode cX6_takeReady 65 = .ok (.isub, 1) := by decide +kernel
theorem dX6_takeReady_66 : decode cX6_takeReady 66 = .ok (.putfield 65, 3) := by decide +kernel
theorem dX6_takeReady_69 : decode cX6_takeReady 69 = .ok (.aload_n 1, 1) := by decide +kernel
theorem dX6_takeReady_70 : decode cX6_takeReady 70 = .ok (.areturn, 1) := by decide +kernel
theorem dX6_beginWait_0 : decode cX6_beginWait 0 = .ok (.aload_n 1, 1) := by decide +kernel
theorem dX6_beginWait_1 : decode cX6_beginWait 1 = .ok (.iconst 1, 1) := by decide +kernel
theorem dX6_beginWait_2 : decode cX6_beginWait 2 = .ok (.putfield 80, 3) := by decide +kernel
theorem dX6_beginWait_5 : decode cX6_beginWait 5 = .ok (.aload_n 1, 1) := by decide +kernel
theorem dX6_beginWait_6 : decode cX6_beginWait 6 = .ok (.iload_n 2, 1) := by decide +kernel
theorem dX6_beginWait_7 : decode cX6_beginWait 7 = .ok (.putfield 106, 3) := by decide +kernel
theorem dX6_beginWait_10 : decode cX6_beginWait 10 = .ok (.aload_n 1, 1) := by decide +kernel
theorem dX6_beginWait_11 : decode cX6_beginWait 11 = .ok (.iload_n 3, 1) := by decide +kernel
theorem dX6_beginWait_12 : decode cX6_beginWait 12 = .ok (.putfield 109, 3) := by decide +kernel
theorem dX6_beginWait_15 : decode cX6_beginWait 15 = .ok (.aload_n 1, 1) := by decide +kernel
theorem dX6_beginWait_16 : decode cX6_beginWait 16 = .ok (.iconst 0, 1) := by decide +kernel
theorem dX6_beginWait_17 : decode cX6_beginWait 17 = .ok (.putfield 112, 3) := by decide +kernel
theorem dX6_beginWait_20 : decode cX6_beginWait 20 = .ok (.aload_n 1, 1) := by decide +kernel
theorem dX6_beginWait_21 : decode cX6_beginWait 21 = .ok (.iconst 0, 1) := by decide +kernel
theorem dX6_beginWait_22 : decode cX6_beginWait 22 = .ok (.putfield 116, 3) := by decide +kernel
theorem dX6_beginWait_25 : decode cX6_beginWait 25 = .ok (.aload_n 1, 1) := by decide +kernel
theorem dX6_beginWait_26 : decode cX6_beginWait 26 = .ok (.iconst 0, 1) := by decide +kernel
theorem dX6_beginWait_27 : decode cX6_beginWait 27 = .ok (.putfield 119, 3) := by decide +kernel
theorem dX6_beginWait_30 : decode cX6_beginWait 30 = .ok (.aload_n 1, 1) := by decide +kernel
theorem dX6_beginWait_31 : decode cX6_beginWait 31 = .ok (.aload_n 0, 1) := by decide +kernel
theorem dX6_beginWait_32 : decode cX6_beginWait 32 = .ok (.getfield 77, 3) := by decide +kernel
theorem dX6_beginWait_35 : decode cX6_beginWait 35 = .ok (.putfield 122, 3) := by decide +kernel
theorem dX6_beginWait_38 : decode cX6_beginWait 38 = .ok (.aload_n 0, 1) := by decide +kernel
theorem dX6_beginWait_39 : decode cX6_beginWait 39 = .ok (.dup, 1) := by decide +kernel
theorem dX6_beginWait_40 : decode cX6_beginWait 40 = .ok (.getfield 77, 3) := by decide +kernel
theorem dX6_beginWait_43 : decode cX6_beginWait 43 = .ok (.iconst 1, 1) := by decide +kernel
theorem dX6_beginWait_44 : decode cX6_beginWait 44 = .ok (.iadd, 1) := by decide +kernel
theorem dX6_beginWait_45 : decode cX6_beginWait 45 = .ok (.putfield 77, 3) := by decide +kernel
theorem dX6_beginWait_48 : decode cX6_beginWait 48 = .ok (.return_, 1) := by decide +kernel
set_option maxRecDepth 20000 in
theorem ggX6_waitsFor_X7_waitsAt : GoodIn wsX6_waitsFor wsX7_waitsAt := goodIn_r _ [7, 8, 9, 10, 11, 12, 13, 14, 15, 16, 17, 18, 19, 20, 21, 22, 23, 24, 25, 26] (by decide +kernel) (by decide +kernel)
set_option maxRecDepth 20000 in
theorem gX6_waitsFor_X7_waitsAt : GoodIn wsX6_waitsFor (wsV RX6 125 RX7 yX7_waitsAt wsX7_waitsAt) := goodIn_app (goodIn_of _ (by decide +kernel)) ggX6_waitsFor_X7_waitsAt
theorem dX6_waitsFor_0 : decode cX6_waitsFor 0 = .ok (.aload_n 1, 1) := by decide +kernel
theorem dX6_waitsFor_1 : decode cX6_waitsFor 1 = .ok (.iload_n 2, 1) := by decide +kernel
theorem dX6_waitsFor_2 : decode cX6_waitsFor 2 = .ok (.invokevirtual 125, 3) := by decide +kernel
theorem dX6_waitsFor_5 : decode cX6_waitsFor 5 = .ok (.ifCond .eq 22, 3) := by decide +kernel
theorem dX6_waitsFor_8 : decode cX6_waitsFor 8 = .ok (.aload_n 1, 1) := by decide +kernel
theorem dX6_waitsFor_9 : decode cX6_waitsFor 9 = .ok (.getfield 109, 3) := by decide +kernel
theorem dX6_waitsFor_12 : decode cX6_waitsFor 12 = .ok (.iload_n 3, 1) := by decide +kernel
theorem dX6_waitsFor_13 : decode cX6_waitsFor 13 = .ok (.if_icmp .eq 10, 3) := by decide +kernel
theorem dX6_waitsFor_16 : decode cX6_waitsFor 16 = .ok (.aload_n 1, 1) := by decide +kernel
theorem dX6_waitsFor_17 : decode cX6_waitsFor 17 = .ok (.getfield 112, 3) := by decide +kernel
theorem dX6_waitsFor_20 : decode cX6_waitsFor 20 = .ok (.ifCond .eq 7, 3) := by decide +kernel
theorem dX6_waitsFor_23 : decode cX6_waitsFor 23 = .ok (.iconst 1, 1) := by decide +kernel
theorem dX6_waitsFor_24 : decode cX6_waitsFor 24 = .ok (.goto 4, 3) := by decide +kernel
theorem dX6_waitsFor_27 : decode cX6_waitsFor 27 = .ok (.iconst 0, 1) := by decide +kernel
theorem dX6_waitsFor_28 : decode cX6_waitsFor 28 = .ok (.ireturn, 1) := by decide +kernel
theorem dX6_firstWaiting_0 : decode cX6_firstWaiting 0 = .ok (.aconst_null, 1) := by decide +kernel
theorem dX6_firstWaiting_1 : decode cX6_firstWaiting 1 = .ok (.astore_n 3, 1) := by decide +kernel
theorem dX6_firstWaiting_2 : decode cX6_firstWaiting 2 = .ok (.aload_n 0, 1) := by decide +kernel
theorem dX6_firstWaiting_3 : decode cX6_firstWaiting 3 = .ok (.getfield 11, 3) := by decide +kernel
theorem dX6_firstWaiting_6 : decode cX6_firstWaiting 6 = .ok (.astore 4, 2) := by decide +kernel
theorem dX6_firstWaiting_8 : decode cX6_firstWaiting 8 = .ok (.aload 4, 2) := by decide +kernel
theorem dX6_firstWaiting_10 : decode cX6_firstWaiting 10 = .ok (.arraylength, 1) := by decide +kernel
theorem dX6_firstWaiting_11 : decode cX6_firstWaiting 11 = .ok (.istore 5, 2) := by decide +kernel
theorem dX6_firstWaiting_13 : decode cX6_firstWaiting 13 = .ok (.iconst 0, 1) := by decide +kernel
theorem dX6_firstWaiting_14 : decode cX6_firstWaiting 14 = .ok (.istore 6, 2) := by decide +kernel
theorem dX6_firstWaiting_16 : decode cX6_firstWaiting 16 = .ok (.iload 6, 2) := by decide +kernel
theorem dX6_firstWaiting_18 : decode cX6_firstWaiting 18 = .ok (.iload 5, 2) := by decide +kernel
theorem dX6_firstWaiting_20 : decode cX6_firstWaiting 20 = .ok (.if_icmp .ge 82, 3) := by decide +kernel
theorem dX6_firstWaiting_23 : decode cX6_firstWaiting 23 = .ok (.aload 4, 2) := by decide +kernel
theorem dX6_firstWaiting_25 : decode cX6_firstWaiting 25 = .ok (.iload 6, 2) := by decide +kernel
theorem dX6_firstWaiting_27 : decode cX6_firstWaiting 27 = .ok (.aaload, 1) := by decide +kernel
theorem dX6_firstWaiting_28 : decode cX6_firstWaiting 28 = .ok (.astore 7, 2) := by decide +kernel
theorem dX6_firstWaiting_30 : decode cX6_firstWaiting 30 = .ok (.aload 7, 2) := by decide +kernel
theorem dX6_firstWaiting_32 : decode cX6_firstWaiting 32 = .ok (.getfield 80, 3) := by decide +kernel
theorem dX6_firstWaiting_35 : decode cX6_firstWaiting 35 = .ok (.iconst 1, 1) := by decide +kernel
theorem dX6_firstWaiting_36 : decode cX6_firstWaiting 36 = .ok (.if_icmp .ne 33, 3) := by decide +kernel
theorem dX6_firstWaiting_39 : decode cX6_firstWaiting 39 = .ok (.aload 7, 2) := by decide +kernel
theorem dX6_firstWaiting_41 : decode cX6_firstWaiting 41 = .ok (.getfield 106, 3) := by decide +kernel
theorem dX6_firstWaiting_44 : decode cX6_firstWaiting 44 = .ok (.iload_n 1, 1) := by decide +kernel
theorem dX6_firstWaiting_45 : decode cX6_firstWaiting 45 = .ok (.if_icmp .ne 24, 3) := by decide +kernel
theorem dX6_firstWaiting_48 : decode cX6_firstWaiting 48 = .ok (.aload 7, 2) := by decide +kernel
theorem dX6_firstWaiting_50 : decode cX6_firstWaiting 50 = .ok (.getfield 109, 3) := by decide +kernel
theorem dX6_firstWaiting_53 : decode cX6_firstWaiting 53 = .ok (.iload_n 2, 1) := by decide +kernel
theorem dX6_firstWaiting_54 : decode cX6_firstWaiting 54 = .ok (.if_icmp .eq 11, 3) := by decide +kernel
theorem dX6_firstWaiting_57 : decode cX6_firstWaiting 57 = .ok (.aload 7, 2) := by decide +kernel
theorem dX6_firstWaiting_59 : decode cX6_firstWaiting 59 = .ok (.getfield 112, 3) := by decide +kernel
theorem dX6_firstWaiting_62 : decode cX6_firstWaiting 62 = .ok (.ifCond .eq 7, 3) := by decide +kernel
theorem dX6_firstWaiting_65 : decode cX6_firstWaiting 65 = .ok (.iconst 1, 1) := by decide +kernel
theorem dX6_firstWaiting_66 : decode cX6_firstWaiting 66 = .ok (.goto 4, 3) := by decide +kernel
theorem dX6_firstWaiting_69 : decode cX6_firstWaiting 69 = .ok (.iconst 0, 1) := by decide +kernel
theorem dX6_firstWaiting_70 : decode cX6_firstWaiting 70 = .ok (.istore 8, 2) := by decide +kernel
theorem dX6_firstWaiting_72 : decode cX6_firstWaiting 72 = .ok (.iload 8, 2) := by decide +kernel
theorem dX6_firstWaiting_74 : decode cX6_firstWaiting 74 = .ok (.ifCond .eq 22, 3) := by decide +kernel
theorem dX6_firstWaiting_77 : decode cX6_firstWaiting 77 = .ok (.aload_n 3, 1) := by decide +kernel
theorem dX6_firstWaiting_78 : decode cX6_firstWaiting 78 = .ok (.ifnull 15, 3) := by decide +kernel
theorem dX6_firstWaiting_81 : decode cX6_firstWaiting 81 = .ok (.aload 7, 2) := by decide +kernel
theorem dX6_firstWaiting_83 : decode cX6_firstWaiting 83 = .ok (.getfield 122, 3) := by decide +kernel
theorem dX6_firstWaiting_86 : decode cX6_firstWaiting 86 = .ok (.aload_n 3, 1) := by decide +kernel
theorem dX6_firstWaiting_87 : decode cX6_firstWaiting 87 = .ok (.getfield 122, 3) := by decide +kernel
theorem dX6_firstWaiting_90 : decode cX6_firstWaiting 90 = .ok (.if_icmp .ge 6, 3) := by decide +kernel
theorem dX6_firstWaiting_93 : decode cX6_firstWaiting 93 = .ok (.aload 7, 2) := by decide +kernel
theorem dX6_firstWaiting_95 : decode cX6_firstWaiting 95 = .ok (.astore_n 3, 1) := by decide +kernel
theorem dX6_firstWaiting_96 : decode cX6_firstWaiting 96 = .ok (.iinc 6 1, 3) := by decide +kernel
theorem dX6_firstWaiting_99 : decode cX6_firstWaiting 99 = .ok (.goto (-83), 3) := by decide +kernel
theorem dX6_firstWaiting_102 : decode cX6_firstWaiting 102 = .ok (.aload_n 3, 1) := by decide +kernel
theorem dX6_firstWaiting_103 : decode cX6_firstWaiting 103 = .ok (.areturn, 1) := by decide +kernel
theorem dX6_isHit_0 : decode cX6_isHit 0 = .ok (.aload_n 1, 1) := by decide +kernel
theorem dX6_isHit_1 : decode cX6_isHit 1 = .ok (.getfield 129, 3) := by decide +kernel
theorem dX6_isHit_4 : decode cX6_isHit 4 = .ok (.iconst (-1), 1) := by decide +kernel
theorem dX6_isHit_5 : decode cX6_isHit 5 = .ok (.if_icmp .eq 10, 3) := by decide +kernel
theorem dX6_isHit_8 : decode cX6_isHit 8 = .ok (.aload_n 1, 1) := by decide +kernel
theorem dX6_isHit_9 : decode cX6_isHit 9 = .ok (.getfield 129, 3) := by decide +kernel
theorem dX6_isHit_12 : decode cX6_isHit 12 = .ok (.goto 7, 3) := by decide +kernel
theorem dX6_isHit_15 : decode cX6_isHit 15 = .ok (.aload_n 1, 1) := by decide +kernel
theorem dX6_isHit_16 : decode cX6_isHit 16 = .ok (.getfield 97, 3) := by decide +kernel
theorem dX6_isHit_19 : decode cX6_isHit 19 = .ok (.istore_n 3, 1) := by decide +kernel
theorem dX6_isHit_20 : decode cX6_isHit 20 = .ok (.iconst 0, 1) := by decide +kernel
theorem dX6_isHit_21 : decode cX6_isHit 21 = .ok (.istore 4, 2) := by decide +kernel
theorem dX6_isHit_23 : decode cX6_isHit 23 = .ok (.iload 4, 2) := by decide +kernel
theorem dX6_isHit_25 : decode cX6_isHit 25 = .ok (.bipush 40, 2) := by decide +kernel
theorem dX6_isHit_27 : decode cX6_isHit 27 = .ok (.if_icmp .ge 70, 3) := by decide +kernel
theorem dX6_isHit_30 : decode cX6_isHit 30 = .ok (.iload_n 3, 1) := by decide +kernel
theorem dX6_isHit_31 : decode cX6_isHit 31 = .ok (.ifCond .lt 66, 3) := by decide +kernel
theorem dX6_isHit_34 : decode cX6_isHit 34 = .ok (.iload_n 3, 1) := by decide +kernel
theorem dX6_isHit_35 : decode cX6_isHit 35 = .ok (.aload_n 0, 1) := by decide +kernel
theorem dX6_isHit_36 : decode cX6_isHit 36 = .ok (.getfield 19, 3) := by decide +kernel
theorem dX6_isHit_39 : decode cX6_isHit 39 = .ok (.arraylength, 1) := by decide +kernel
theorem dX6_isHit_40 : decode cX6_isHit 40 = .ok (.if_icmp .ge 57, 3) := by decide +kernel
theorem dX6_isHit_43 : decode cX6_isHit 43 = .ok (.aload_n 0, 1) := by decide +kernel
theorem dX6_isHit_44 : decode cX6_isHit 44 = .ok (.getfield 19, 3) := by decide +kernel
theorem dX6_isHit_47 : decode cX6_isHit 47 = .ok (.iload_n 3, 1) := by decide +kernel
theorem dX6_isHit_48 : decode cX6_isHit 48 = .ok (.aaload, 1) := by decide +kernel
theorem dX6_isHit_49 : decode cX6_isHit 49 = .ok (.astore 5, 2) := by decide +kernel
theorem dX6_isHit_51 : decode cX6_isHit 51 = .ok (.aload 5, 2) := by decide +kernel
theorem dX6_isHit_53 : decode cX6_isHit 53 = .ok (.getfield 132, 3) := by decide +kernel
theorem dX6_isHit_56 : decode cX6_isHit 56 = .ok (.iconst 2, 1) := by decide +kernel
theorem dX6_isHit_57 : decode cX6_isHit 57 = .ok (.if_icmp .eq 28, 3) := by decide +kernel
theorem dX6_isHit_60 : decode cX6_isHit 60 = .ok (.aload 5, 2) := by decide +kernel
theorem dX6_isHit_62 : decode cX6_isHit 62 = .ok (.getfield 133, 3) := by decide +kernel
theorem dX6_isHit_65 : decode cX6_isHit 65 = .ok (.ifCond .ne 8, 3) := by decide +kernel
theorem dX6_isHit_68 : decode cX6_isHit 68 = .ok (.iload_n 3, 1) := by decide +kernel
theorem dX6_isHit_69 : decode cX6_isHit 69 = .ok (.iload_n 2, 1) := by decide +kernel
theorem dX6_isHit_70 : decode cX6_isHit 70 = .ok (.if_icmp .ne 5, 3) := by decide +kernel
theorem dX6_isHit_73 : decode cX6_isHit 73 = .ok (.iconst 1, 1) := by decide +kernel
theorem dX6_isHit_74 : decode cX6_isHit 74 = .ok (.ireturn, 1) := by decide +kernel
theorem dX6_isHit_75 : decode cX6_isHit 75 = .ok (.aload 5, 2) := by decide +kernel
theorem dX6_isHit_77 : decode cX6_isHit 77 = .ok (.getfield 136, 3) := by decide +kernel
theorem dX6_isHit_80 : decode cX6_isHit 80 = .ok (.ifCond .eq 5, 3) := by decide +kernel
theorem dX6_isHit_83 : decode cX6_isHit 83 = .ok (.iconst 0, 1) := by decide +kernel
theorem dX6_isHit_84 : decode cX6_isHit 84 = .ok (.ireturn, 1) := by decide +kernel
theorem dX6_isHit_85 : decode cX6_isHit 85 = .ok (.aload 5, 2) := by decide +kernel
theorem dX6_isHit_87 : decode cX6_isHit 87 = .ok (.getfield 139, 3) := by decide +kernel
theorem dX6_isHit_90 : decode cX6_isHit 90 = .ok (.istore_n 3, 1) := by decide +kernel
theorem dX6_isHit_91 : decode cX6_isHit 91 = .ok (.iinc 4 1, 3) := by decide +kernel
theorem dX6_isHit_94 : decode cX6_isHit 94 = .ok (.goto (-71), 3) := by decide +kernel
theorem dX6_isHit_97 : decode cX6_isHit 97 = .ok (.iconst 0, 1) := by decide +kernel
theorem dX6_isHit_98 : decode cX6_isHit 98 = .ok (.ireturn, 1) := by decide +kernel
set_option maxRecDepth 20000 in
theorem ggX6_cancelScope_X5_isLive : GoodIn wsX6_cancelScope wsX5_isLive := goodIn_r _ [9, 10, 29, 30, 31, 32, 33, 34, 35, 36, 37, 38, 39, 40, 41, 42] (by decide +kernel) (by decide +kernel)
set_option maxRecDepth 20000 in
theorem gX6_cancelScope_X5_isLive : GoodIn wsX6_cancelScope (wsV RX6 142 RX5 yX5_isLive wsX5_isLive) := goodIn_app (goodIn_of _ (by decide +kernel)) ggX6_cancelScope_X5_isLive
set_option maxRecDepth 20000 in
theorem ggX6_cancelScope_X6_isHit : GoodIn wsX6_cancelScope wsX6_isHit := goodIn_r _ [15, 16, 17, 18, 19, 1, 20, 21, 55, 56, 57, 58, 59, 60, 61, 62, 63, 64, 65, 66, 67, 68, 69, 70, 71, 43, 44, 45, 46, 47, 48, 49, 50, 51, 52, 53, 54, 29, 30, 31, 32, 33, 34, 35, 36, 37, 38, 39, 40, 41, 42] (by decide +kernel) (by decide +kernel)
set_option maxRecDepth 20000 in
theorem gX6_cancelScope_X6_isHit : GoodIn wsX6_cancelScope (wsV RX6 146 RX6 yX6_isHit wsX6_isHit) := goodIn_app (goodIn_of _ (by decide +kernel)) ggX6_cancelScope_X6_isHit
set_option maxRecDepth 20000 in
theorem ggX6_cancelScope_X6_makeReady : GoodIn wsX6_cancelScope wsX6_makeReady := goodIn_r _ [25, 3, 26, 27, 28, 55, 56, 57, 58, 59, 60, 61, 62, 63, 64, 65, 66, 67, 68, 69, 70, 71, 43, 44, 45, 46, 47, 48, 49, 50, 51, 52, 53, 54] (by decide +kernel) (by decide +kernel)
set_option maxRecDepth 20000 in
theorem gX6_cancelScope_X6_makeReady : GoodIn wsX6_cancelScope (wsV RX6 100 RX6 yX6_makeReady wsX6_makeReady) := goodIn_app (goodIn_of _ (by decide +kernel)) ggX6_cancelScope_X6_makeReady
theorem dX6_cancelScope_0 : decode cX6_cancelScope 0 = .ok (.aload_n 1, 1) := by decide +kernel
theorem dX6_cancelScope_1 : decode cX6_cancelScope 1 = .ok (.ifnull 17, 3) := by decide +kernel
theorem dX6_cancelScope_4 : decode cX6_cancelScope 4 = .ok (.aload_n 1, 1) := by decide +kernel
theorem dX6_cancelScope_5 : decode cX6_cancelScope 5 = .ok (.invokevirtual 142, 3) := by decide +kernel
theorem dX6_cancelScope_8 : decode cX6_cancelScope 8 = .ok (.ifCond .eq 10, 3) := by decide +kernel
theorem dX6_cancelScope_11 : decode cX6_cancelScope 11 = .ok (.aload_n 1, 1) := by decide +kernel
theorem dX6_cancelScope_12 : decode cX6_cancelScope 12 = .ok (.getfield 133, 3) := by decide +kernel
theorem dX6_cancelScope_15 : decode cX6_cancelScope 15 = .ok (.ifCond .eq 5, 3) := by decide +kernel
theorem dX6_cancelScope_18 : decode cX6_cancelScope 18 = .ok (.iconst 0, 1) := by decide +kernel
theorem dX6_cancelScope_19 : decode cX6_cancelScope 19 = .ok (.ireturn, 1) := by decide +kernel
theorem dX6_cancelScope_20 : decode cX6_cancelScope 20 = .ok (.aload_n 1, 1) := by decide +kernel
theorem dX6_cancelScope_21 : decode cX6_cancelScope 21 = .ok (.iconst 1, 1) := by decide +kernel
theorem dX6_cancelScope_22 : decode cX6_cancelScope 22 = .ok (.putfield 133, 3) := by decide +kernel
theorem dX6_cancelScope_25 : decode cX6_cancelScope 25 = .ok (.aload_n 0, 1) := by decide +kernel
theorem dX6_cancelScope_26 : decode cX6_cancelScope 26 = .ok (.getfield 11, 3) := by decide +kernel
theorem dX6_cancelScope_29 : decode cX6_cancelScope 29 = .ok (.astore_n 2, 1) := by decide +kernel
theorem dX6_cancelScope_30 : decode cX6_cancelScope 30 = .ok (.aload_n 2, 1) := by decide +kernel
theorem dX6_cancelScope_31 : decode cX6_cancelScope 31 = .ok (.arraylength, 1) := by decide +kernel
theorem dX6_cancelScope_32 : decode cX6_cancelScope 32 = .ok (.istore_n 3, 1) := by decide +kernel
theorem dX6_cancelScope_33 : decode cX6_cancelScope 33 = .ok (.iconst 0, 1) := by decide +kernel
theorem dX6_cancelScope_34 : decode cX6_cancelScope 34 = .ok (.istore 4, 2) := by decide +kernel
theorem dX6_cancelScope_36 : decode cX6_cancelScope 36 = .ok (.iload 4, 2) := by decide +kernel
theorem dX6_cancelScope_38 : decode cX6_cancelScope 38 = .ok (.iload_n 3, 1) := by decide +kernel
theorem dX6_cancelScope_39 : decode cX6_cancelScope 39 = .ok (.if_icmp .ge 49, 3) := by decide +kernel
theorem dX6_cancelScope_42 : decode cX6_cancelScope 42 = .ok (.aload_n 2, 1) := by decide +kernel
theorem dX6_cancelScope_43 : decode cX6_cancelScope 43 = .ok (.iload 4, 2) := by decide +kernel
theorem dX6_cancelScope_45 : decode cX6_cancelScope 45 = .ok (.aaload, 1) := by decide +kernel
theorem dX6_cancelScope_46 : decode cX6_cancelScope 46 = .ok (.astore 5, 2) := by decide +kernel
theorem dX6_cancelScope_48 : decode cX6_cancelScope 48 = .ok (.aload 5, 2) := by decide +kernel
theorem dX6_cancelScope_50 : decode cX6_cancelScope 50 = .ok (.getfield 80, 3) := by decide +kernel
theorem dX6_cancelScope_53 : decode cX6_cancelScope 53 = .ok (.iconst 1, 1) := by decide +kernel
theorem dX6_cancelScope_54 : decode cX6_cancelScope 54 = .ok (.if_icmp .ne 28, 3) := by decide +kernel
theorem dX6_cancelScope_57 : decode cX6_cancelScope 57 = .ok (.aload 5, 2) := by decide +kernel
theorem dX6_cancelScope_59 : decode cX6_cancelScope 59 = .ok (.getfield 106, 3) := by decide +kernel
theorem dX6_cancelScope_62 : decode cX6_cancelScope 62 = .ok (.iconst 5, 1) := by decide +kernel
theorem dX6_cancelScope_63 : decode cX6_cancelScope 63 = .ok (.if_icmp .eq 19, 3) := by decide +kernel
theorem dX6_cancelScope_66 : decode cX6_cancelScope 66 = .ok (.aload_n 0, 1) := by decide +kernel
theorem dX6_cancelScope_67 : decode cX6_cancelScope 67 = .ok (.aload 5, 2) := by decide +kernel
theorem dX6_cancelScope_69 : decode cX6_cancelScope 69 = .ok (.iconst (-1), 1) := by decide +kernel
theorem dX6_cancelScope_70 : decode cX6_cancelScope 70 = .ok (.invokevirtual 146, 3) := by decide +kernel
theorem dX6_cancelScope_73 : decode cX6_cancelScope 73 = .ok (.ifCond .eq 9, 3) := by decide +kernel
theorem dX6_cancelScope_76 : decode cX6_cancelScope 76 = .ok (.aload_n 0, 1) := by decide +kernel
theorem dX6_cancelScope_77 : decode cX6_cancelScope 77 = .ok (.aload 5, 2) := by decide +kernel
theorem dX6_cancelScope_79 : decode cX6_cancelScope 79 = .ok (.invokevirtual 100, 3) := by decide +kernel
theorem dX6_cancelScope_82 : decode cX6_cancelScope 82 = .ok (.iinc 4 1, 3) := by decide +kernel
theorem dX6_cancelScope_85 : decode cX6_cancelScope 85 = .ok (.goto (-49), 3) := by decide +kernel
theorem dX6_cancelScope_88 : decode cX6_cancelScope 88 = .ok (.iconst 1, 1) := by decide +kernel
theorem dX6_cancelScope_89 : decode cX6_cancelScope 89 = .ok (.ireturn, 1) := by decide +kernel
set_option maxRecDepth 20000 in
theorem ggX6_tickOnce_X5_isLive : GoodIn wsX6_tickOnce wsX5_isLive := goodIn_r _ [11, 12, 55, 56, 57, 58, 59, 60, 61, 62, 63, 64, 65, 66, 67, 68] (by decide +kernel) (by decide +kernel)
set_option maxRecDepth 20000 in
theorem gX6_tickOnce_X5_isLive : GoodIn wsX6_tickOnce (wsV RX6 142 RX5 yX5_isLive wsX5_isLive) := goodIn_app (goodIn_of _ (by decide +kernel)) ggX6_tickOnce_X5_isLive
set_option maxRecDepth 20000 in
theorem ggX6_tickOnce_X6_cancelScope : GoodIn wsX6_tickOnce wsX6_cancelScope := goodIn_r _ [17, 18, 5, 19, 20, 7, 8, 9, 10, 11, 12, 21, 22, 23, 16, 24, 25, 26, 3, 27, 28, 29, 30, 31, 32, 33, 1, 34, 35, 55, 56, 57, 58, 59, 60, 61, 62, 63, 64, 65, 66, 67, 68, 43, 44, 45, 46, 47, 48, 49, 50, 51, 52, 53, 54, 69, 70, 71, 72, 73, 74, 75, 76, 77, 78, 79, 80, 81, 82, 83, 84, 85] (by decide +kernel) (by decide +kernel)
set_option maxRecDepth 20000 in
theorem gX6_tickOnce_X6_cancelScope : GoodIn wsX6_tickOnce (wsV RX6 153 RX6 yX6_cancelScope wsX6_cancelScope) := goodIn_app (goodIn_of _ (by decide +kernel)) ggX6_tickOnce_X6_cancelScope
set_option maxRecDepth 20000 in
theorem ggX6_tickOnce_X7_waitsAt : GoodIn wsX6_tickOnce wsX7_waitsAt := goodIn_r _ [40, 41, 42, 69, 70, 71, 72, 73, 74, 75, 76, 77, 78, 79, 80, 81, 82, 83, 84, 85] (by decide +kernel) (by decide +kernel)
set_option maxRecDepth 20000 in
theorem gX6_tickOnce_X7_waitsAt : GoodIn wsX6_tickOnce (wsV RX6 125 RX7 yX7_waitsAt wsX7_waitsAt) := goodIn_app (goodIn_of _ (by decide +kernel)) ggX6_tickOnce_X7_waitsAt
set_option maxRecDepth 20000 in
theorem ggX6_tickOnce_X6_makeReady : GoodIn wsX6_tickOnce wsX6_makeReady := goodIn_r _ [33, 19, 1, 34, 35, 69, 70, 71, 72, 73, 74, 75, 76, 77, 78, 79, 80, 81, 82, 83, 84, 85, 43, 44, 45, 46, 47, 48, 49, 50, 51, 52, 53, 54] (by decide +kernel) (by decide +kernel)
set_option maxRecDepth 20000 in
theorem gX6_tickOnce_X6_makeReady : GoodIn wsX6_tickOnce (wsV RX6 100 RX6 yX6_makeReady wsX6_makeReady) := goodIn_app (goodIn_of _ (by decide +kernel)) ggX6_tickOnce_X6_makeReady
theorem dX6_tickOnce_0 : decode cX6_tickOnce 0 = .ok (.aload_n 0, 1) := by decide +kernel
theorem dX6_tickOnce_1 : decode cX6_tickOnce 1 = .ok (.getfield 65, 3) := by decide +kernel
theorem dX6_tickOnce_4 : decode cX6_tickOnce 4 = .ok (.istore_n 1, 1) := by decide +kernel
theorem dX6_tickOnce_5 : decode cX6_tickOnce 5 = .ok (.aload_n 0, 1) := by decide +kernel
theorem dX6_tickOnce_6 : decode cX6_tickOnce 6 = .ok (.dup, 1) := by decide +kernel
theorem dX6_tickOnce_7 : decode cX6_tickOnce 7 = .ok (.getfield 68, 3) := by decide +kernel
theorem dX6_tickOnce_10 : decode cX6_tickOnce 10 = .ok (.iconst 1, 1) := by decide +kernel
theorem dX6_tickOnce_11 : decode cX6_tickOnce 11 = .ok (.iadd, 1) := by decide +kernel
theorem dX6_tickOnce_12 : decode cX6_tickOnce 12 = .ok (.putfield 68, 3) := by decide +kernel
theorem dX6_tickOnce_15 : decode cX6_tickOnce 15 = .ok (.aload_n 0, 1) := by decide +kernel
theorem dX6_tickOnce_16 : decode cX6_tickOnce 16 = .ok (.getfield 19, 3) := by decide +kernel
theorem dX6_tickOnce_19 : decode cX6_tickOnce 19 = .ok (.astore_n 2, 1) := by decide +kernel
theorem dX6_tickOnce_20 : decode cX6_tickOnce 20 = .ok (.aload_n 2, 1) := by decide +kernel
theorem dX6_tickOnce_21 : decode cX6_tickOnce 21 = .ok (.arraylength, 1) := by decide +kernel
theorem dX6_tickOnce_22 : decode cX6_tickOnce 22 = .ok (.istore_n 3, 1) := by decide +kernel
theorem dX6_tickOnce_23 : decode cX6_tickOnce 23 = .ok (.iconst 0, 1) := by decide +kernel
theorem dX6_tickOnce_24 : decode cX6_tickOnce 24 = .ok (.istore 4, 2) := by decide +kernel
theorem dX6_tickOnce_26 : decode cX6_tickOnce 26 = .ok (.iload 4, 2) := by decide +kernel
theorem dX6_tickOnce_28 : decode cX6_tickOnce 28 = .ok (.iload_n 3, 1) := by decide +kernel
theorem dX6_tickOnce_29 : decode cX6_tickOnce 29 = .ok (.if_icmp .ge 42, 3) := by decide +kernel
theorem dX6_tickOnce_32 : decode cX6_tickOnce 32 = .ok (.aload_n 2, 1) := by decide +kernel
theorem dX6_tickOnce_33 : decode cX6_tickOnce 33 = .ok (.iload 4, 2) := by decide +kernel
theorem dX6_tickOnce_35 : decode cX6_tickOnce 35 = .ok (.aaload, 1) := by decide +kernel
theorem dX6_tickOnce_36 : decode cX6_tickOnce 36 = .ok (.astore 5, 2) := by decide +kernel
theorem dX6_tickOnce_38 : decode cX6_tickOnce 38 = .ok (.aload 5, 2) := by decide +kernel
theorem dX6_tickOnce_40 : decode cX6_tickOnce 40 = .ok (.invokevirtual 142, 3) := by decide +kernel
theorem dX6_tickOnce_43 : decode cX6_tickOnce 43 = .ok (.ifCond .eq 22, 3) := by decide +kernel
theorem dX6_tickOnce_46 : decode cX6_tickOnce 46 = .ok (.aload 5, 2) := by decide +kernel
theorem dX6_tickOnce_48 : decode cX6_tickOnce 48 = .ok (.getfield 150, 3) := by decide +kernel
theorem dX6_tickOnce_51 : decode cX6_tickOnce 51 = .ok (.aload_n 0, 1) := by decide +kernel
theorem dX6_tickOnce_52 : decode cX6_tickOnce 52 = .ok (.getfield 68, 3) := by decide +kernel
theorem dX6_tickOnce_55 : decode cX6_tickOnce 55 = .ok (.if_icmp .ne 10, 3) := by decide +kernel
theorem dX6_tickOnce_58 : decode cX6_tickOnce 58 = .ok (.aload_n 0, 1) := by decide +kernel
theorem dX6_tickOnce_59 : decode cX6_tickOnce 59 = .ok (.aload 5, 2) := by decide +kernel
theorem dX6_tickOnce_61 : decode cX6_tickOnce 61 = .ok (.invokevirtual 153, 3) := by decide +kernel
theorem dX6_tickOnce_64 : decode cX6_tickOnce 64 = .ok (.pop, 1) := by decide +kernel
theorem dX6_tickOnce_65 : decode cX6_tickOnce 65 = .ok (.iinc 4 1, 3) := by decide +kernel
theorem dX6_tickOnce_68 : decode cX6_tickOnce 68 = .ok (.goto (-42), 3) := by decide +kernel
theorem dX6_tickOnce_71 : decode cX6_tickOnce 71 = .ok (.aload_n 0, 1) := by decide +kernel
theorem dX6_tickOnce_72 : decode cX6_tickOnce 72 = .ok (.getfield 11, 3) := by decide +kernel
theorem dX6_tickOnce_75 : decode cX6_tickOnce 75 = .ok (.astore_n 2, 1) := by decide +kernel
theorem dX6_tickOnce_76 : decode cX6_tickOnce 76 = .ok (.aload_n 2, 1) := by decide +kernel
theorem dX6_tickOnce_77 : decode cX6_tickOnce 77 = .ok (.arraylength, 1) := by decide +kernel
theorem dX6_tickOnce_78 : decode cX6_tickOnce 78 = .ok (.istore_n 3, 1) := by decide +kernel
theorem dX6_tickOnce_79 : decode cX6_tickOnce 79 = .ok (.iconst 0, 1) := by decide +kernel
theorem dX6_tickOnce_80 : decode cX6_tickOnce 80 = .ok (.istore 4, 2) := by decide +kernel
theorem dX6_tickOnce_82 : decode cX6_tickOnce 82 = .ok (.iload 4, 2) := by decide +kernel
theorem dX6_tickOnce_84 : decode cX6_tickOnce 84 = .ok (.iload_n 3, 1) := by decide +kernel
theorem dX6_tickOnce_85 : decode cX6_tickOnce 85 = .ok (.if_icmp .ge 42, 3) := by decide +kernel
theorem dX6_tickOnce_88 : decode cX6_tickOnce 88 = .ok (.aload_n 2, 1) := by decide +kernel
theorem dX6_tickOnce_89 : decode cX6_tickOnce 89 = .ok (.iload 4, 2) := by decide +kernel
theorem dX6_tickOnce_91 : decode cX6_tickOnce 91 = .ok (.aaload, 1) := by decide +kernel
theorem dX6_tickOnce_92 : decode cX6_tickOnce 92 = .ok (.astore 5, 2) := by decide +kernel
theorem dX6_tickOnce_94 : decode cX6_tickOnce 94 = .ok (.aload 5, 2) := by decide +kernel
theorem dX6_tickOnce_96 : decode cX6_tickOnce 96 = .ok (.iconst 1, 1) := by decide +kernel
theorem dX6_tickOnce_97 : decode cX6_tickOnce 97 = .ok (.invokevirtual 125, 3) := by decide +kernel
theorem dX6_tickOnce_100 : decode cX6_tickOnce 100 = .ok (.ifCond .eq 21, 3) := by decide +kernel
theorem dX6_tickOnce_103 : decode cX6_tickOnce 103 = .ok (.aload 5, 2) := by decide +kernel
theorem dX6_tickOnce_105 : decode cX6_tickOnce 105 = .ok (.getfield 157, 3) := by decide +kernel
theorem dX6_tickOnce_108 : decode cX6_tickOnce 108 = .ok (.aload_n 0, 1) := by decide +kernel
theorem dX6_tickOnce_109 : decode cX6_tickOnce 109 = .ok (.getfield 68, 3) := by decide +kernel
theorem dX6_tickOnce_112 : decode cX6_tickOnce 112 = .ok (.if_icmp .ne 9, 3) := by decide +kernel
theorem dX6_tickOnce_115 : decode cX6_tickOnce 115 = .ok (.aload_n 0, 1) := by decide +kernel
theorem dX6_tickOnce_116 : decode cX6_tickOnce 116 = .ok (.aload 5, 2) := by decide +kernel
theorem dX6_tickOnce_118 : decode cX6_tickOnce 118 = .ok (.invokevirtual 100, 3) := by decide +kernel
theorem dX6_tickOnce_121 : decode cX6_tickOnce 121 = .ok (.iinc 4 1, 3) := by decide +kernel
theorem dX6_tickOnce_124 : decode cX6_tickOnce 124 = .ok (.goto (-42), 3) := by decide +kernel
theorem dX6_tickOnce_127 : decode cX6_tickOnce 127 = .ok (.aload_n 0, 1) := by decide +kernel
theorem dX6_tickOnce_128 : decode cX6_tickOnce 128 = .ok (.getfield 65, 3) := by decide +kernel
theorem dX6_tickOnce_131 : decode cX6_tickOnce 131 = .ok (.iload_n 1, 1) := by decide +kernel
theorem dX6_tickOnce_132 : decode cX6_tickOnce 132 = .ok (.isub, 1) := by decide +kernel
theorem dX6_tickOnce_133 : decode cX6_tickOnce 133 = .ok (.ireturn, 1) := by decide +kernel
set_option maxRecDepth 20000 in
theorem ggX6_freeLock_X6_firstWaiting : GoodIn wsX6_freeLock wsX6_firstWaiting := goodIn_r _ [8, 9, 10, 11, 12, 13, 14, 50, 51, 52, 53, 54, 55, 56, 57, 58, 59, 60, 61, 33, 34, 35, 36, 37, 38, 39, 40, 41, 42, 43, 44, 45, 46, 47, 48, 49] (by decide +kernel) (by decide +kernel)
set_option maxRecDepth 20000 in
theorem gX6_freeLock_X6_firstWaiting : GoodIn wsX6_freeLock (wsV RX6 164 RX6 yX6_firstWaiting wsX6_firstWaiting) := goodIn_app (goodIn_of _ (by decide +kernel)) ggX6_freeLock_X6_firstWaiting
set_option maxRecDepth 20000 in
theorem ggX6_freeLock_X2_giveTo : GoodIn wsX6_freeLock wsX2_giveTo := goodIn_r _ [19, 20, 21, 22, 33, 34, 35, 36, 37, 38, 39, 40, 41, 42, 43, 44, 45, 46, 47, 48, 49, 30, 31, 32] (by decide +kernel) (by decide +kernel)
set_option maxRecDepth 20000 in
theorem gX6_freeLock_X2_giveTo : GoodIn wsX6_freeLock (wsV RX6 168 RX2 yX2_giveTo wsX2_giveTo) := goodIn_app (goodIn_of _ (by decide +kernel)) ggX6_freeLock_X2_giveTo
set_option maxRecDepth 20000 in
theorem ggX6_freeLock_X6_makeReady : GoodIn wsX6_freeLock wsX6_makeReady := goodIn_r _ [26, 10, 27, 28, 29, 33, 34, 35, 36, 37, 38, 39, 40, 41, 42, 43, 44, 45, 46, 47, 48, 49, 50, 51, 52, 53, 54, 55, 56, 57, 58, 59, 60, 61] (by decide +kernel) (by decide +kernel)
set_option maxRecDepth 20000 in
theorem gX6_freeLock_X6_makeReady : GoodIn wsX6_freeLock (wsV RX6 100 RX6 yX6_makeReady wsX6_makeReady) := goodIn_app (goodIn_of _ (by decide +kernel)) ggX6_freeLock_X6_makeReady
theorem dX6_freeLock_0 : decode cX6_freeLock 0 = .ok (.aload_n 1, 1) := by decide +kernel
theorem dX6_freeLock_1 : decode cX6_freeLock 1 = .ok (.iconst (-1), 1) := by decide +kernel
theorem dX6_freeLock_2 : decode cX6_freeLock 2 = .ok (.putfield 160, 3) := by decide +kernel
theorem dX6_freeLock_5 : decode cX6_freeLock 5 = .ok (.aload_n 0, 1) := by decide +kernel
theorem dX6_freeLock_6 : decode cX6_freeLock 6 = .ok (.iconst 2, 1) := by decide +kernel
theorem dX6_freeLock_7 : decode cX6_freeLock 7 = .ok (.aload_n 1, 1) := by decide +kernel
theorem dX6_freeLock_8 : decode cX6_freeLock 8 = .ok (.getfield 163, 3) := by decide +kernel
theorem dX6_freeLock_11 : decode cX6_freeLock 11 = .ok (.invokevirtual 164, 3) := by decide +kernel
theorem dX6_freeLock_14 : decode cX6_freeLock 14 = .ok (.astore_n 2, 1) := by decide +kernel
theorem dX6_freeLock_15 : decode cX6_freeLock 15 = .ok (.aload_n 2, 1) := by decide +kernel
theorem dX6_freeLock_16 : decode cX6_freeLock 16 = .ok (.ifnull 18, 3) := by decide +kernel
theorem dX6_freeLock_19 : decode cX6_freeLock 19 = .ok (.aload_n 1, 1) := by decide +kernel
theorem dX6_freeLock_20 : decode cX6_freeLock 20 = .ok (.aload_n 2, 1) := by decide +kernel
theorem dX6_freeLock_21 : decode cX6_freeLock 21 = .ok (.invokevirtual 168, 3) := by decide +kernel
theorem dX6_freeLock_24 : decode cX6_freeLock 24 = .ok (.aload_n 2, 1) := by decide +kernel
theorem dX6_freeLock_25 : decode cX6_freeLock 25 = .ok (.iconst 1, 1) := by decide +kernel
theorem dX6_freeLock_26 : decode cX6_freeLock 26 = .ok (.putfield 116, 3) := by decide +kernel
theorem dX6_freeLock_29 : decode cX6_freeLock 29 = .ok (.aload_n 0, 1) := by decide +kernel
theorem dX6_freeLock_30 : decode cX6_freeLock 30 = .ok (.aload_n 2, 1) := by decide +kernel
theorem dX6_freeLock_31 : decode cX6_freeLock 31 = .ok (.invokevirtual 100, 3) := by decide +kernel
theorem dX6_freeLock_34 : decode cX6_freeLock 34 = .ok (.return_, 1) := by decide +kernel
set_option maxRecDepth 20000 in
theorem ggX6_giveValue_X6_channelAt : GoodIn wsX6_giveValue wsX6_channelAt := goodIn_r _ [9, 10, 41, 42, 43, 44, 45, 46, 47, 48, 49, 50, 51, 52] (by decide +kernel) (by decide +kernel)
set_option maxRecDepth 20000 in
theorem gX6_giveValue_X6_channelAt : GoodIn wsX6_giveValue (wsV RX6 86 RX6 yX6_channelAt wsX6_channelAt) := goodIn_app (goodIn_of _ (by decide +kernel)) ggX6_giveValue_X6_channelAt
set_option maxRecDepth 20000 in
theorem ggX6_giveValue_X6_makeReady : GoodIn wsX6_giveValue wsX6_makeReady := goodIn_r _ [14, 15, 16, 17, 18, 19, 20, 21, 22, 23, 24, 25, 26, 27, 28, 29, 30, 31, 32, 33, 34, 35, 41, 42, 43, 44, 45, 46, 47, 48, 49, 50, 51, 52] (by decide +kernel) (by decide +kernel)
set_option maxRecDepth 20000 in
theorem gX6_giveValue_X6_makeReady : GoodIn wsX6_giveValue (wsV RX6 100 RX6 yX6_makeReady wsX6_makeReady) := goodIn_app (goodIn_of _ (by decide +kernel)) ggX6_giveValue_X6_makeReady
theorem dX6_giveValue_0 : decode cX6_giveValue 0 = .ok (.aload_n 0, 1) := by decide +kernel
theorem dX6_giveValue_1 : decode cX6_giveValue 1 = .ok (.iload_n 2, 1) := by decide +kernel
theorem dX6_giveValue_2 : decode cX6_giveValue 2 = .ok (.invokevirtual 86, 3) := by decide +kernel
theorem dX6_giveValue_5 : decode cX6_giveValue 5 = .ok (.astore 4, 2) := by decide +kernel
theorem dX6_giveValue_7 : decode cX6_giveValue 7 = .ok (.aload 4, 2) := by decide +kernel
theorem dX6_giveValue_9 : decode cX6_giveValue 9 = .ok (.ifnonnull 4, 3) := by decide +kernel
theorem dX6_giveValue_12 : decode cX6_giveValue 12 = .ok (.return_, 1) := by decide +kernel
theorem dX6_giveValue_13 : decode cX6_giveValue 13 = .ok (.aload_n 1, 1) := by decide +kernel
theorem dX6_giveValue_14 : decode cX6_giveValue 14 = .ok (.iload_n 3, 1) := by decide +kernel
theorem dX6_giveValue_15 : decode cX6_giveValue 15 = .ok (.putfield 171, 3) := by decide +kernel
theorem dX6_giveValue_18 : decode cX6_giveValue 18 = .ok (.aload_n 1, 1) := by decide +kernel
theorem dX6_giveValue_19 : decode cX6_giveValue 19 = .ok (.iload_n 2, 1) := by decide +kernel
theorem dX6_giveValue_20 : decode cX6_giveValue 20 = .ok (.putfield 109, 3) := by decide +kernel
theorem dX6_giveValue_23 : decode cX6_giveValue 23 = .ok (.aload_n 1, 1) := by decide +kernel
theorem dX6_giveValue_24 : decode cX6_giveValue 24 = .ok (.iconst 1, 1) := by decide +kernel
theorem dX6_giveValue_25 : decode cX6_giveValue 25 = .ok (.putfield 116, 3) := by decide +kernel
theorem dX6_giveValue_28 : decode cX6_giveValue 28 = .ok (.aload 4, 2) := by decide +kernel
theorem dX6_giveValue_30 : decode cX6_giveValue 30 = .ok (.dup, 1) := by decide +kernel
theorem dX6_giveValue_31 : decode cX6_giveValue 31 = .ok (.getfield 174, 3) := by decide +kernel
theorem dX6_giveValue_34 : decode cX6_giveValue 34 = .ok (.iconst 1, 1) := by decide +kernel
theorem dX6_giveValue_35 : decode cX6_giveValue 35 = .ok (.iadd, 1) := by decide +kernel
theorem dX6_giveValue_36 : decode cX6_giveValue 36 = .ok (.putfield 174, 3) := by decide +kernel
theorem dX6_giveValue_39 : decode cX6_giveValue 39 = .ok (.aload_n 0, 1) := by decide +kernel
theorem dX6_giveValue_40 : decode cX6_giveValue 40 = .ok (.aload_n 1, 1) := by decide +kernel
theorem dX6_giveValue_41 : decode cX6_giveValue 41 = .ok (.invokevirtual 100, 3) := by decide +kernel
theorem dX6_giveValue_44 : decode cX6_giveValue 44 = .ok (.return_, 1) := by decide +kernel
set_option maxRecDepth 20000 in
theorem ggX6_giveBack_X6_lockAt : GoodIn wsX6_giveBack wsX6_lockAt := goodIn_r _ [9, 10, 79, 80, 81, 82, 83, 84, 85, 86, 87, 88, 89, 90] (by decide +kernel) (by decide +kernel)
set_option maxRecDepth 20000 in
theorem gX6_giveBack_X6_lockAt : GoodIn wsX6_giveBack (wsV RX6 177 RX6 yX6_lockAt wsX6_lockAt) := goodIn_app (goodIn_of _ (by decide +kernel)) ggX6_giveBack_X6_lockAt
set_option maxRecDepth 20000 in
theorem ggX6_giveBack_X6_freeLock : GoodIn wsX6_giveBack wsX6_freeLock := goodIn_r _ [14, 15, 16, 1, 17, 18, 19, 8, 20, 21, 22, 23, 2, 24, 25, 26, 27, 28, 29, 30, 31, 32, 33, 34, 35, 36, 37, 38, 39, 40, 91, 92, 93, 57, 58, 59, 60, 61, 62, 63, 64, 65, 66, 67, 68, 69, 70, 71, 72, 73, 79, 80, 81, 82, 83, 84, 85, 86, 87, 88, 89, 90] (by decide +kernel) (by decide +kernel)
set_option maxRecDepth 20000 in
theorem gX6_giveBack_X6_freeLock : GoodIn wsX6_giveBack (wsV RX6 181 RX6 yX6_freeLock wsX6_freeLock) := goodIn_app (goodIn_of _ (by decide +kernel)) ggX6_giveBack_X6_freeLock
set_option maxRecDepth 20000 in
theorem ggX6_giveBack_X6_channelAt : GoodIn wsX6_giveBack wsX6_channelAt := goodIn_r _ [44, 45, 79, 80, 81, 82, 83, 84, 85, 86, 87, 88, 89, 90] (by decide +kernel) (by decide +kernel)
set_option maxRecDepth 20000 in
theorem gX6_giveBack_X6_channelAt : GoodIn wsX6_giveBack (wsV RX6 86 RX6 yX6_channelAt wsX6_channelAt) := goodIn_app (goodIn_of _ (by decide +kernel)) ggX6_giveBack_X6_channelAt
set_option maxRecDepth 20000 in
theorem ggX6_giveBack_X6_firstWaiting : GoodIn wsX6_giveBack wsX6_firstWaiting := goodIn_r _ [20, 21, 22, 23, 2, 24, 25, 79, 80, 81, 82, 83, 84, 85, 86, 87, 88, 89, 90, 57, 58, 59, 60, 61, 62, 63, 64, 65, 66, 67, 68, 69, 70, 71, 72, 73] (by decide +kernel) (by decide +kernel)
set_option maxRecDepth 20000 in
theorem gX6_giveBack_X6_firstWaiting : GoodIn wsX6_giveBack (wsV RX6 164 RX6 yX6_firstWaiting wsX6_firstWaiting) := goodIn_app (goodIn_of _ (by decide +kernel)) ggX6_giveBack_X6_firstWaiting
set_option maxRecDepth 20000 in
theorem ggX6_giveBack_X6_giveValue : GoodIn wsX6_giveBack wsX6_giveValue := goodIn_r _ [49, 4, 2, 1, 3, 41, 42, 43, 8, 44, 45, 34, 35, 36, 37, 22, 38, 39, 40, 57, 58, 59, 60, 61, 62, 63, 64, 65, 66, 67, 68, 69, 70, 71, 72, 73, 74, 75, 76, 77, 78, 79, 80, 81, 82, 83, 84, 85, 86, 87, 88, 89, 90] (by decide +kernel) (by decide +kernel)
set_option maxRecDepth 20000 in
theorem gX6_giveBack_X6_giveValue : GoodIn wsX6_giveBack (wsV RX6 184 RX6 yX6_giveValue wsX6_giveValue) := goodIn_app (goodIn_of _ (by decide +kernel)) ggX6_giveBack_X6_giveValue
set_option maxRecDepth 20000 in
theorem ggX6_giveBack_X1_addFirst : GoodIn wsX6_giveBack wsX1_addFirst := goodIn_r _ [54, 55, 56, 74, 75, 76, 77, 78] (by decide +kernel) (by decide +kernel)
set_option maxRecDepth 20000 in
theorem gX6_giveBack_X1_addFirst : GoodIn wsX6_giveBack (wsV RX6 188 RX1 yX1_addFirst wsX1_addFirst) := goodIn_app (goodIn_of _ (by decide +kernel)) ggX6_giveBack_X1_addFirst
theorem dX6_giveBack_0 : decode cX6_giveBack 0 = .ok (.aload_n 1, 1) := by decide +kernel
theorem dX6_giveBack_1 : decode cX6_giveBack 1 = .ok (.getfield 116, 3) := by decide +kernel
theorem dX6_giveBack_4 : decode cX6_giveBack 4 = .ok (.ifCond .ne 4, 3) := by decide +kernel
theorem dX6_giveBack_7 : decode cX6_giveBack 7 = .ok (.return_, 1) := by decide +kernel
theorem dX6_giveBack_8 : decode cX6_giveBack 8 = .ok (.aload_n 0, 1) := by decide +kernel
theorem dX6_giveBack_9 : decode cX6_giveBack 9 = .ok (.aload_n 1, 1) := by decide +kernel
theorem dX6_giveBack_10 : decode cX6_giveBack 10 = .ok (.getfield 109, 3) := by decide +kernel
theorem dX6_giveBack_13 : decode cX6_giveBack 13 = .ok (.invokevirtual 177, 3) := by decide +kernel
theorem dX6_giveBack_16 : decode cX6_giveBack 16 = .ok (.astore_n 3, 1) := by decide +kernel
theorem dX6_giveBack_17 : decode cX6_giveBack 17 = .ok (.iload_n 2, 1) := by decide +kernel
theorem dX6_giveBack_18 : decode cX6_giveBack 18 = .ok (.iconst 2, 1) := by decide +kernel
theorem dX6_giveBack_19 : decode cX6_giveBack 19 = .ok (.if_icmp .ne 12, 3) := by decide +kernel
theorem dX6_giveBack_22 : decode cX6_giveBack 22 = .ok (.aload_n 3, 1) := by decide +kernel
theorem dX6_giveBack_23 : decode cX6_giveBack 23 = .ok (.ifnull 8, 3) := by decide +kernel
theorem dX6_giveBack_26 : decode cX6_giveBack 26 = .ok (.aload_n 0, 1) := by decide +kernel
theorem dX6_giveBack_27 : decode cX6_giveBack 27 = .ok (.aload_n 3, 1) := by decide +kernel
theorem dX6_giveBack_28 : decode cX6_giveBack 28 = .ok (.invokevirtual 181, 3) := by decide +kernel
theorem dX6_giveBack_31 : decode cX6_giveBack 31 = .ok (.aload_n 0, 1) := by decide +kernel
theorem dX6_giveBack_32 : decode cX6_giveBack 32 = .ok (.aload_n 1, 1) := by decide +kernel
theorem dX6_giveBack_33 : decode cX6_giveBack 33 = .ok (.getfield 109, 3) := by decide +kernel
theorem dX6_giveBack_36 : decode cX6_giveBack 36 = .ok (.invokevirtual 86, 3) := by decide +kernel
theorem dX6_giveBack_39 : decode cX6_giveBack 39 = .ok (.astore 4, 2) := by decide +kernel
theorem dX6_giveBack_41 : decode cX6_giveBack 41 = .ok (.iload_n 2, 1) := by decide +kernel
theorem dX6_giveBack_42 : decode cX6_giveBack 42 = .ok (.iconst 4, 1) := by decide +kernel
theorem dX6_giveBack_43 : decode cX6_giveBack 43 = .ok (.if_icmp .ne 61, 3) := by decide +kernel
theorem dX6_giveBack_46 : decode cX6_giveBack 46 = .ok (.aload 4, 2) := by decide +kernel
theorem dX6_giveBack_48 : decode cX6_giveBack 48 = .ok (.ifnull 56, 3) := by decide +kernel
theorem dX6_giveBack_51 : decode cX6_giveBack 51 = .ok (.aload 4, 2) := by decide +kernel
theorem dX6_giveBack_53 : decode cX6_giveBack 53 = .ok (.dup, 1) := by decide +kernel
theorem dX6_giveBack_54 : decode cX6_giveBack 54 = .ok (.getfield 174, 3) := by decide +kernel
theorem dX6_giveBack_57 : decode cX6_giveBack 57 = .ok (.iconst 1, 1) := by decide +kernel
theorem dX6_giveBack_58 : decode cX6_giveBack 58 = .ok (.isub, 1) := by decide +kernel
theorem dX6_giveBack_59 : decode cX6_giveBack 59 = .ok (.putfield 174, 3) := by decide +kernel
theorem dX6_giveBack_62 : decode cX6_giveBack 62 = .ok (.aload_n 0, 1) := by decide +kernel
theorem dX6_giveBack_63 : decode cX6_giveBack 63 = .ok (.iconst 4, 1) := by decide +kernel
theorem dX6_giveBack_64 : decode cX6_giveBack 64 = .ok (.aload_n 1, 1) := by decide +kernel
theorem dX6_giveBack_65 : decode cX6_giveBack 65 = .ok (.getfield 109, 3) := by decide +kernel
theorem dX6_giveBack_68 : decode cX6_giveBack 68 = .ok (.invokevirtual 164, 3) := by decide +kernel
theorem dX6_giveBack_71 : decode cX6_giveBack 71 = .ok (.astore 5, 2) := by decide +kernel
theorem dX6_giveBack_73 : decode cX6_giveBack 73 = .ok (.aload 5, 2) := by decide +kernel
theorem dX6_giveBack_75 : decode cX6_giveBack 75 = .ok (.ifnull 20, 3) := by decide +kernel
theorem dX6_giveBack_78 : decode cX6_giveBack 78 = .ok (.aload_n 0, 1) := by decide +kernel
theorem dX6_giveBack_79 : decode cX6_giveBack 79 = .ok (.aload 5, 2) := by decide +kernel
theorem dX6_giveBack_81 : decode cX6_giveBack 81 = .ok (.aload_n 1, 1) := by decide +kernel
theorem dX6_giveBack_82 : decode cX6_giveBack 82 = .ok (.getfield 109, 3) := by decide +kernel
theorem dX6_giveBack_85 : decode cX6_giveBack 85 = .ok (.aload_n 1, 1) := by decide +kernel
theorem dX6_giveBack_86 : decode cX6_giveBack 86 = .ok (.getfield 171, 3) := by decide +kernel
theorem dX6_giveBack_89 : decode cX6_giveBack 89 = .ok (.invokevirtual 184, 3) := by decide +kernel
theorem dX6_giveBack_92 : decode cX6_giveBack 92 = .ok (.goto 12, 3) := by decide +kernel
theorem dX6_giveBack_95 : decode cX6_giveBack 95 = .ok (.aload 4, 2) := by decide +kernel
theorem dX6_giveBack_97 : decode cX6_giveBack 97 = .ok (.aload_n 1, 1) := by decide +kernel
theorem dX6_giveBack_98 : decode cX6_giveBack 98 = .ok (.getfield 171, 3) := by decide +kernel
theorem dX6_giveBack_101 : decode cX6_giveBack 101 = .ok (.invokevirtual 188, 3) := by decide +kernel
theorem dX6_giveBack_104 : decode cX6_giveBack 104 = .ok (.return_, 1) := by decide +kernel
set_option maxRecDepth 20000 in
theorem ggX6_hasValue_X6_channelAt : GoodIn wsX6_hasValue wsX6_channelAt := goodIn_r _ [6, 7, 23, 24, 25, 26, 27, 28, 29, 30, 31, 32, 33, 34] (by decide +kernel) (by decide +kernel)
set_option maxRecDepth 20000 in
theorem gX6_hasValue_X6_channelAt : GoodIn wsX6_hasValue (wsV RX6 86 RX6 yX6_channelAt wsX6_channelAt) := goodIn_app (goodIn_of _ (by decide +kernel)) ggX6_hasValue_X6_channelAt
set_option maxRecDepth 20000 in
theorem ggX6_hasValue_X6_firstWaiting : GoodIn wsX6_hasValue wsX6_firstWaiting := goodIn_r _ [11, 12, 13, 14, 15, 16, 17, 23, 24, 25, 26, 27, 28, 29, 30, 31, 32, 33, 34, 35, 36, 37, 38, 39, 40, 41, 42, 43, 44, 45, 46, 47, 48, 49, 50, 51] (by decide +kernel) (by decide +kernel)
set_option maxRecDepth 20000 in
theorem gX6_hasValue_X6_firstWaiting : GoodIn wsX6_hasValue (wsV RX6 164 RX6 yX6_firstWaiting wsX6_firstWaiting) := goodIn_app (goodIn_of _ (by decide +kernel)) ggX6_hasValue_X6_firstWaiting
theorem dX6_hasValue_0 : decode cX6_hasValue 0 = .ok (.aload_n 0, 1) := by decide +kernel
theorem dX6_hasValue_1 : decode cX6_hasValue 1 = .ok (.iload_n 1, 1) := by decide +kernel
theorem dX6_hasValue_2 : decode cX6_hasValue 2 = .ok (.invokevirtual 86, 3) := by decide +kernel
theorem dX6_hasValue_5 : decode cX6_hasValue 5 = .ok (.astore_n 2, 1) := by decide +kernel
theorem dX6_hasValue_6 : decode cX6_hasValue 6 = .ok (.aload_n 2, 1) := by decide +kernel
theorem dX6_hasValue_7 : decode cX6_hasValue 7 = .ok (.ifnull 23, 3) := by decide +kernel
theorem dX6_hasValue_10 : decode cX6_hasValue 10 = .ok (.aload_n 2, 1) := by decide +kernel
theorem dX6_hasValue_11 : decode cX6_hasValue 11 = .ok (.getfield 191, 3) := by decide +kernel
theorem dX6_hasValue_14 : decode cX6_hasValue 14 = .ok (.ifCond .gt 12, 3) := by decide +kernel
theorem dX6_hasValue_17 : decode cX6_hasValue 17 = .ok (.aload_n 0, 1) := by decide +kernel
theorem dX6_hasValue_18 : decode cX6_hasValue 18 = .ok (.iconst 3, 1) := by decide +kernel
theorem dX6_hasValue_19 : decode cX6_hasValue 19 = .ok (.iload_n 1, 1) := by decide +kernel
theorem dX6_hasValue_20 : decode cX6_hasValue 20 = .ok (.invokevirtual 164, 3) := by decide +kernel
theorem dX6_hasValue_23 : decode cX6_hasValue 23 = .ok (.ifnull 7, 3) := by decide +kernel
theorem dX6_hasValue_26 : decode cX6_hasValue 26 = .ok (.iconst 1, 1) := by decide +kernel
theorem dX6_hasValue_27 : decode cX6_hasValue 27 = .ok (.goto 4, 3) := by decide +kernel
theorem dX6_hasValue_30 : decode cX6_hasValue 30 = .ok (.iconst 0, 1) := by decide +kernel
theorem dX6_hasValue_31 : decode cX6_hasValue 31 = .ok (.ireturn, 1) := by decide +kernel
set_option maxRecDepth 20000 in
theorem ggX6_takeValue_X6_channelAt : GoodIn wsX6_takeValue wsX6_channelAt := goodIn_r _ [8, 9, 64, 65, 66, 67, 68, 69, 70, 71, 72, 73, 74, 75] (by decide +kernel) (by decide +kernel)
set_option maxRecDepth 20000 in
theorem gX6_takeValue_X6_channelAt : GoodIn wsX6_takeValue (wsV RX6 86 RX6 yX6_channelAt wsX6_channelAt) := goodIn_app (goodIn_of _ (by decide +kernel)) ggX6_takeValue_X6_channelAt
set_option maxRecDepth 20000 in
theorem ggX6_takeValue_X6_firstWaiting : GoodIn wsX6_takeValue wsX6_firstWaiting := goodIn_r _ [13, 14, 15, 16, 17, 18, 19, 64, 65, 66, 67, 68, 69, 70, 71, 72, 73, 74, 75, 47, 48, 49, 50, 51, 52, 53, 54, 55, 56, 57, 58, 59, 60, 61, 62, 63] (by decide +kernel) (by decide +kernel)
set_option maxRecDepth 20000 in
theorem gX6_takeValue_X6_firstWaiting : GoodIn wsX6_takeValue (wsV RX6 164 RX6 yX6_firstWaiting wsX6_firstWaiting) := goodIn_app (goodIn_of _ (by decide +kernel)) ggX6_takeValue_X6_firstWaiting
set_option maxRecDepth 20000 in
theorem ggX6_takeValue_X1_first : GoodIn wsX6_takeValue wsX1_first := goodIn_r _ [24, 25, 26, 42, 43, 44, 45, 46] (by decide +kernel) (by decide +kernel)
set_option maxRecDepth 20000 in
theorem gX6_takeValue_X1_first : GoodIn wsX6_takeValue (wsV RX6 194 RX1 yX1_first wsX1_first) := goodIn_app (goodIn_of _ (by decide +kernel)) ggX6_takeValue_X1_first
set_option maxRecDepth 20000 in
theorem ggX6_takeValue_X1_dropFirst : GoodIn wsX6_takeValue wsX1_dropFirst := goodIn_r _ [30, 25, 26, 42, 43, 44, 45, 46] (by decide +kernel) (by decide +kernel)
set_option maxRecDepth 20000 in
theorem gX6_takeValue_X1_dropFirst : GoodIn wsX6_takeValue (wsV RX6 198 RX1 yX1_dropFirst wsX1_dropFirst) := goodIn_app (goodIn_of _ (by decide +kernel)) ggX6_takeValue_X1_dropFirst
set_option maxRecDepth 20000 in
theorem ggX6_takeValue_X1_addLast : GoodIn wsX6_takeValue wsX1_addLast := goodIn_r _ [34, 25, 26, 42, 43, 44, 45, 46] (by decide +kernel) (by decide +kernel)
set_option maxRecDepth 20000 in
theorem gX6_takeValue_X1_addLast : GoodIn wsX6_takeValue (wsV RX6 201 RX1 yX1_addLast wsX1_addLast) := goodIn_app (goodIn_of _ (by decide +kernel)) ggX6_takeValue_X1_addLast
set_option maxRecDepth 20000 in
theorem ggX6_takeValue_X6_makeReady : GoodIn wsX6_takeValue wsX6_makeReady := goodIn_r _ [38, 15, 39, 40, 41, 47, 48, 49, 50, 51, 52, 53, 54, 55, 56, 57, 58, 59, 60, 61, 62, 63, 64, 65, 66, 67, 68, 69, 70, 71, 72, 73, 74, 75] (by decide +kernel) (by decide +kernel)
set_option maxRecDepth 20000 in
theorem gX6_takeValue_X6_makeReady : GoodIn wsX6_takeValue (wsV RX6 100 RX6 yX6_makeReady wsX6_makeReady) := goodIn_app (goodIn_of _ (by decide +kernel)) ggX6_takeValue_X6_makeReady
theorem dX6_takeValue_0 : decode cX6_takeValue 0 = .ok (.aload_n 0, 1) := by decide +kernel
theorem dX6_takeValue_1 : decode cX6_takeValue 1 = .ok (.iload_n 1, 1) := by decide +kernel
theorem dX6_takeValue_2 : decode cX6_takeValue 2 = .ok (.invokevirtual 86, 3) := by decide +kernel
theorem dX6_takeValue_5 : decode cX6_takeValue 5 = .ok (.astore_n 2, 1) := by decide +kernel
theorem dX6_takeValue_6 : decode cX6_takeValue 6 = .ok (.aload_n 2, 1) := by decide +kernel
theorem dX6_takeValue_7 : decode cX6_takeValue 7 = .ok (.ifnonnull 5, 3) := by decide +kernel
theorem dX6_takeValue_10 : decode cX6_takeValue 10 = .ok (.iconst 0, 1) := by decide +kernel
theorem dX6_takeValue_11 : decode cX6_takeValue 11 = .ok (.ireturn, 1) := by decide +kernel
theorem dX6_takeValue_12 : decode cX6_takeValue 12 = .ok (.aload_n 0, 1) := by decide +kernel
theorem dX6_takeValue_13 : decode cX6_takeValue 13 = .ok (.iconst 3, 1) := by decide +kernel
theorem dX6_takeValue_14 : decode cX6_takeValue 14 = .ok (.iload_n 1, 1) := by decide +kernel
theorem dX6_takeValue_15 : decode cX6_takeValue 15 = .ok (.invokevirtual 164, 3) := by decide +kernel
theorem dX6_takeValue_18 : decode cX6_takeValue 18 = .ok (.astore_n 3, 1) := by decide +kernel
theorem dX6_takeValue_19 : decode cX6_takeValue 19 = .ok (.aload_n 2, 1) := by decide +kernel
theorem dX6_takeValue_20 : decode cX6_takeValue 20 = .ok (.invokevirtual 194, 3) := by decide +kernel
theorem dX6_takeValue_23 : decode cX6_takeValue 23 = .ok (.istore 4, 2) := by decide +kernel
theorem dX6_takeValue_25 : decode cX6_takeValue 25 = .ok (.aload_n 2, 1) := by decide +kernel
theorem dX6_takeValue_26 : decode cX6_takeValue 26 = .ok (.getfield 191, 3) := by decide +kernel
theorem dX6_takeValue_29 : decode cX6_takeValue 29 = .ok (.ifCond .ne 16, 3) := by decide +kernel
theorem dX6_takeValue_32 : decode cX6_takeValue 32 = .ok (.aload_n 3, 1) := by decide +kernel
theorem dX6_takeValue_33 : decode cX6_takeValue 33 = .ok (.ifnull 12, 3) := by decide +kernel
theorem dX6_takeValue_36 : decode cX6_takeValue 36 = .ok (.aload_n 3, 1) := by decide +kernel
theorem dX6_takeValue_37 : decode cX6_takeValue 37 = .ok (.getfield 171, 3) := by decide +kernel
theorem dX6_takeValue_40 : decode cX6_takeValue 40 = .ok (.istore 4, 2) := by decide +kernel
theorem dX6_takeValue_42 : decode cX6_takeValue 42 = .ok (.goto 26, 3) := by decide +kernel
theorem dX6_takeValue_45 : decode cX6_takeValue 45 = .ok (.aload_n 3, 1) := by decide +kernel
theorem dX6_takeValue_46 : decode cX6_takeValue 46 = .ok (.ifnull 18, 3) := by decide +kernel
theorem dX6_takeValue_49 : decode cX6_takeValue 49 = .ok (.aload_n 2, 1) := by decide +kernel
theorem dX6_takeValue_50 : decode cX6_takeValue 50 = .ok (.invokevirtual 198, 3) := by decide +kernel
theorem dX6_takeValue_53 : decode cX6_takeValue 53 = .ok (.aload_n 2, 1) := by decide +kernel
theorem dX6_takeValue_54 : decode cX6_takeValue 54 = .ok (.aload_n 3, 1) := by decide +kernel
theorem dX6_takeValue_55 : decode cX6_takeValue 55 = .ok (.getfield 171, 3) := by decide +kernel
theorem dX6_takeValue_58 : decode cX6_takeValue 58 = .ok (.invokevirtual 201, 3) := by decide +kernel
theorem dX6_takeValue_61 : decode cX6_takeValue 61 = .ok (.goto 7, 3) := by decide +kernel
theorem dX6_takeValue_64 : decode cX6_takeValue 64 = .ok (.aload_n 2, 1) := by decide +kernel
theorem dX6_takeValue_65 : decode cX6_takeValue 65 = .ok (.invokevirtual 198, 3) := by decide +kernel
theorem dX6_takeValue_68 : decode cX6_takeValue 68 = .ok (.aload_n 3, 1) := by decide +kernel
theorem dX6_takeValue_69 : decode cX6_takeValue 69 = .ok (.ifnull 8, 3) := by decide +kernel
theorem dX6_takeValue_72 : decode cX6_takeValue 72 = .ok (.aload_n 0, 1) := by decide +kernel
theorem dX6_takeValue_73 : decode cX6_takeValue 73 = .ok (.aload_n 3, 1) := by decide +kernel
theorem dX6_takeValue_74 : decode cX6_takeValue 74 = .ok (.invokevirtual 100, 3) := by decide +kernel
theorem dX6_takeValue_77 : decode cX6_takeValue 77 = .ok (.aload_n 2, 1) := by decide +kernel
theorem dX6_takeValue_78 : decode cX6_takeValue 78 = .ok (.dup, 1) := by decide +kernel
theorem dX6_takeValue_79 : decode cX6_takeValue 79 = .ok (.getfield 174, 3) := by decide +kernel
theorem dX6_takeValue_82 : decode cX6_takeValue 82 = .ok (.iconst 1, 1) := by decide +kernel
theorem dX6_takeValue_83 : decode cX6_takeValue 83 = .ok (.iadd, 1) := by decide +kernel
theorem dX6_takeValue_84 : decode cX6_takeValue 84 = .ok (.putfield 174, 3) := by decide +kernel
theorem dX6_takeValue_87 : decode cX6_takeValue 87 = .ok (.iload 4, 2) := by decide +kernel
theorem dX6_takeValue_89 : decode cX6_takeValue 89 = .ok (.ireturn, 1) := by decide +kernel
theorem dX6_allEnded_0 : decode cX6_allEnded 0 = .ok (.aload_n 0, 1) := by decide +kernel
theorem dX6_allEnded_1 : decode cX6_allEnded 1 = .ok (.getfield 31, 3) := by decide +kernel
theorem dX6_allEnded_4 : decode cX6_allEnded 4 = .ok (.astore_n 1, 1) := by decide +kernel
theorem dX6_allEnded_5 : decode cX6_allEnded 5 = .ok (.aload_n 1, 1) := by decide +kernel
theorem dX6_allEnded_6 : decode cX6_allEnded 6 = .ok (.arraylength, 1) := by decide +kernel
theorem dX6_allEnded_7 : decode cX6_allEnded 7 = .ok (.istore_n 2, 1) := by decide +kernel
theorem dX6_allEnded_8 : decode cX6_allEnded 8 = .ok (.iconst 0, 1) := by decide +kernel
theorem dX6_allEnded_9 : decode cX6_allEnded 9 = .ok (.istore_n 3, 1) := by decide +kernel
theorem dX6_allEnded_10 : decode cX6_allEnded 10 = .ok (.iload_n 3, 1) := by decide +kernel
theorem dX6_allEnded_11 : decode cX6_allEnded 11 = .ok (.iload_n 2, 1) := by decide +kernel
theorem dX6_allEnded_12 : decode cX6_allEnded 12 = .ok (.if_icmp .ge 24, 3) := by decide +kernel
theorem dX6_allEnded_15 : decode cX6_allEnded 15 = .ok (.aload_n 1, 1) := by decide +kernel
theorem dX6_allEnded_16 : decode cX6_allEnded 16 = .ok (.iload_n 3, 1) := by decide +kernel
theorem dX6_allEnded_17 : decode cX6_allEnded 17 = .ok (.aaload, 1) := by decide +kernel
theorem dX6_allEnded_18 : decode cX6_allEnded 18 = .ok (.astore 4, 2) := by decide +kernel
theorem dX6_allEnded_20 : decode cX6_allEnded 20 = .ok (.aload 4, 2) := by decide +kernel
theorem dX6_allEnded_22 : decode cX6_allEnded 22 = .ok (.getfield 204, 3) := by decide +kernel
theorem dX6_allEnded_25 : decode cX6_allEnded 25 = .ok (.ifCond .ne 5, 3) := by decide +kernel
theorem dX6_allEnded_28 : decode cX6_allEnded 28 = .ok (.iconst 0, 1) := by decide +kernel
theorem dX6_allEnded_29 : decode cX6_allEnded 29 = .ok (.ireturn, 1) := by decide +kernel
theorem dX6_allEnded_30 : decode cX6_allEnded 30 = .ok (.iinc 3 1, 3) := by decide +kernel
theorem dX6_allEnded_33 : decode cX6_allEnded 33 = .ok (.goto (-23), 3) := by decide +kernel
theorem dX6_allEnded_36 : decode cX6_allEnded 36 = .ok (.iconst 1, 1) := by decide +kernel
theorem dX6_allEnded_37 : decode cX6_allEnded 37 = .ok (.ireturn, 1) := by decide +kernel
set_option maxRecDepth 20000 in
theorem ggX6_putEnd_X6_channelAt : GoodIn wsX6_putEnd wsX6_channelAt := goodIn_r _ [8, 9, 52, 53, 54, 55, 56, 57, 58, 59, 60, 61, 62, 63] (by decide +kernel) (by decide +kernel)
set_option maxRecDepth 20000 in
theorem gX6_putEnd_X6_channelAt : GoodIn wsX6_putEnd (wsV RX6 86 RX6 yX6_channelAt wsX6_channelAt) := goodIn_app (goodIn_of _ (by decide +kernel)) ggX6_putEnd_X6_channelAt
set_option maxRecDepth 20000 in
theorem ggX6_putEnd_X6_allEnded : GoodIn wsX6_putEnd wsX6_allEnded := goodIn_r _ [13, 9, 1, 52, 53, 54, 55, 56, 57, 58, 59, 60, 61, 62, 63, 30, 31, 32, 33, 34] (by decide +kernel) (by decide +kernel)
set_option maxRecDepth 20000 in
theorem gX6_putEnd_X6_allEnded : GoodIn wsX6_putEnd (wsV RX6 207 RX6 yX6_allEnded wsX6_allEnded) := goodIn_app (goodIn_of _ (by decide +kernel)) ggX6_putEnd_X6_allEnded
set_option maxRecDepth 20000 in
theorem ggX6_putEnd_X6_firstInVain : GoodIn wsX6_putEnd wsX6_firstInVain := goodIn_r _ [17, 18, 19, 2, 20, 21, 22, 52, 53, 54, 55, 56, 57, 58, 59, 60, 61, 62, 63, 35, 36, 37, 38, 39, 40, 41, 42, 43, 44, 45, 46, 47, 48, 49, 50, 51] (by decide +kernel) (by decide +kernel)
set_option maxRecDepth 20000 in
theorem gX6_putEnd_X6_firstInVain : GoodIn wsX6_putEnd (wsV RX6 210 RX6 yX6_firstInVain wsX6_firstInVain) := goodIn_app (goodIn_of _ (by decide +kernel)) ggX6_putEnd_X6_firstInVain
set_option maxRecDepth 20000 in
theorem ggX6_putEnd_X6_makeReady : GoodIn wsX6_putEnd wsX6_makeReady := goodIn_r _ [26, 19, 27, 28, 29, 35, 36, 37, 38, 39, 40, 41, 42, 43, 44, 45, 46, 47, 48, 49, 50, 51, 52, 53, 54, 55, 56, 57, 58, 59, 60, 61, 62, 63] (by decide +kernel) (by decide +kernel)
set_option maxRecDepth 20000 in
theorem gX6_putEnd_X6_makeReady : GoodIn wsX6_putEnd (wsV RX6 100 RX6 yX6_makeReady wsX6_makeReady) := goodIn_app (goodIn_of _ (by decide +kernel)) ggX6_putEnd_X6_makeReady
theorem dX6_putEnd_0 : decode cX6_putEnd 0 = .ok (.aload_n 0, 1) := by decide +kernel
theorem dX6_putEnd_1 : decode cX6_putEnd 1 = .ok (.iload_n 1, 1) := by decide +kernel
theorem dX6_putEnd_2 : decode cX6_putEnd 2 = .ok (.invokevirtual 86, 3) := by decide +kernel
theorem dX6_putEnd_5 : decode cX6_putEnd 5 = .ok (.astore_n 2, 1) := by decide +kernel
theorem dX6_putEnd_6 : decode cX6_putEnd 6 = .ok (.aload_n 2, 1) := by decide +kernel
theorem dX6_putEnd_7 : decode cX6_putEnd 7 = .ok (.ifnonnull 4, 3) := by decide +kernel
theorem dX6_putEnd_10 : decode cX6_putEnd 10 = .ok (.return_, 1) := by decide +kernel
theorem dX6_putEnd_11 : decode cX6_putEnd 11 = .ok (.aload_n 2, 1) := by decide +kernel
theorem dX6_putEnd_12 : decode cX6_putEnd 12 = .ok (.iconst 1, 1) := by decide +kernel
theorem dX6_putEnd_13 : decode cX6_putEnd 13 = .ok (.putfield 204, 3) := by decide +kernel
theorem dX6_putEnd_16 : decode cX6_putEnd 16 = .ok (.aload_n 0, 1) := by decide +kernel
theorem dX6_putEnd_17 : decode cX6_putEnd 17 = .ok (.invokevirtual 207, 3) := by decide +kernel
theorem dX6_putEnd_20 : decode cX6_putEnd 20 = .ok (.istore_n 3, 1) := by decide +kernel
theorem dX6_putEnd_21 : decode cX6_putEnd 21 = .ok (.iconst 0, 1) := by decide +kernel
theorem dX6_putEnd_22 : decode cX6_putEnd 22 = .ok (.istore 4, 2) := by decide +kernel
theorem dX6_putEnd_24 : decode cX6_putEnd 24 = .ok (.iload 4, 2) := by decide +kernel
theorem dX6_putEnd_26 : decode cX6_putEnd 26 = .ok (.bipush 24, 2) := by decide +kernel
theorem dX6_putEnd_28 : decode cX6_putEnd 28 = .ok (.if_icmp .ge 49, 3) := by decide +kernel
theorem dX6_putEnd_31 : decode cX6_putEnd 31 = .ok (.aload_n 0, 1) := by decide +kernel
theorem dX6_putEnd_32 : decode cX6_putEnd 32 = .ok (.iload_n 1, 1) := by decide +kernel
theorem dX6_putEnd_33 : decode cX6_putEnd 33 = .ok (.iload_n 3, 1) := by decide +kernel
theorem dX6_putEnd_34 : decode cX6_putEnd 34 = .ok (.invokevirtual 210, 3) := by decide +kernel
theorem dX6_putEnd_37 : decode cX6_putEnd 37 = .ok (.astore 5, 2) := by decide +kernel
theorem dX6_putEnd_39 : decode cX6_putEnd 39 = .ok (.aload 5, 2) := by decide +kernel
theorem dX6_putEnd_41 : decode cX6_putEnd 41 = .ok (.ifnonnull 4, 3) := by decide +kernel
theorem dX6_putEnd_44 : decode cX6_putEnd 44 = .ok (.return_, 1) := by decide +kernel
theorem dX6_putEnd_45 : decode cX6_putEnd 45 = .ok (.aload 5, 2) := by decide +kernel
theorem dX6_putEnd_47 : decode cX6_putEnd 47 = .ok (.aload 5, 2) := by decide +kernel
theorem dX6_putEnd_49 : decode cX6_putEnd 49 = .ok (.getfield 106, 3) := by decide +kernel
theorem dX6_putEnd_52 : decode cX6_putEnd 52 = .ok (.iconst 3, 1) := by decide +kernel
theorem dX6_putEnd_53 : decode cX6_putEnd 53 = .ok (.if_icmp .ne 7, 3) := by decide +kernel
theorem dX6_putEnd_56 : decode cX6_putEnd 56 = .ok (.iconst 5, 1) := by decide +kernel
theorem dX6_putEnd_57 : decode cX6_putEnd 57 = .ok (.goto 5, 3) := by decide +kernel
theorem dX6_putEnd_60 : decode cX6_putEnd 60 = .ok (.bipush 6, 2) := by decide +kernel
theorem dX6_putEnd_62 : decode cX6_putEnd 62 = .ok (.putfield 119, 3) := by decide +kernel
theorem dX6_putEnd_65 : decode cX6_putEnd 65 = .ok (.aload_n 0, 1) := by decide +kernel
theorem dX6_putEnd_66 : decode cX6_putEnd 66 = .ok (.aload 5, 2) := by decide +kernel
theorem dX6_putEnd_68 : decode cX6_putEnd 68 = .ok (.invokevirtual 100, 3) := by decide +kernel
theorem dX6_putEnd_71 : decode cX6_putEnd 71 = .ok (.iinc 4 1, 3) := by decide +kernel
theorem dX6_putEnd_74 : decode cX6_putEnd 74 = .ok (.goto (-50), 3) := by decide +kernel
theorem dX6_putEnd_77 : decode cX6_putEnd 77 = .ok (.return_, 1) := by decide +kernel
theorem dX6_firstInVain_0 : decode cX6_firstInVain 0 = .ok (.aconst_null, 1) := by decide +kernel
theorem dX6_firstInVain_1 : decode cX6_firstInVain 1 = .ok (.astore_n 3, 1) := by decide +kernel
theorem dX6_firstInVain_2 : decode cX6_firstInVain 2 = .ok (.aload_n 0, 1) := by decide +kernel
theorem dX6_firstInVain_3 : decode cX6_firstInVain 3 = .ok (.getfield 11, 3) := by decide +kernel
theorem dX6_firstInVain_6 : decode cX6_firstInVain 6 = .ok (.astore 4, 2) := by decide +kernel
theorem dX6_firstInVain_8 : decode cX6_firstInVain 8 = .ok (.aload 4, 2) := by decide +kernel
theorem dX6_firstInVain_10 : decode cX6_firstInVain 10 = .ok (.arraylength, 1) := by decide +kernel
theorem dX6_firstInVain_11 : decode cX6_firstInVain 11 = .ok (.istore 5, 2) := by decide +kernel
theorem dX6_firstInVain_13 : decode cX6_firstInVain 13 = .ok (.iconst 0, 1) := by decide +kernel
theorem dX6_firstInVain_14 : decode cX6_firstInVain 14 = .ok (.istore 6, 2) := by decide +kernel
theorem dX6_firstInVain_16 : decode cX6_firstInVain 16 = .ok (.iload 6, 2) := by decide +kernel
theorem dX6_firstInVain_18 : decode cX6_firstInVain 18 = .ok (.iload 5, 2) := by decide +kernel
theorem dX6_firstInVain_20 : decode cX6_firstInVain 20 = .ok (.if_icmp .ge 98, 3) := by decide +kernel
theorem dX6_firstInVain_23 : decode cX6_firstInVain 23 = .ok (.aload 4, 2) := by decide +kernel
theorem dX6_firstInVain_25 : decode cX6_firstInVain 25 = .ok (.iload 6, 2) := by decide +kernel
theorem dX6_firstInVain_27 : decode cX6_firstInVain 27 = .ok (.aaload, 1) := by decide +kernel
theorem dX6_firstInVain_28 : decode cX6_firstInVain 28 = .ok (.astore 7, 2) := by decide +kernel
theorem dX6_firstInVain_30 : decode cX6_firstInVain 30 = .ok (.aload 7, 2) := by decide +kernel
theorem dX6_firstInVain_32 : decode cX6_firstInVain 32 = .ok (.getfield 80, 3) := by decide +kernel
theorem dX6_firstInVain_35 : decode cX6_firstInVain 35 = .ok (.iconst 1, 1) := by decide +kernel
theorem dX6_firstInVain_36 : decode cX6_firstInVain 36 = .ok (.if_icmp .ne 49, 3) := by decide +kernel
theorem dX6_firstInVain_39 : decode cX6_firstInVain 39 = .ok (.aload 7, 2) := by decide +kernel
theorem dX6_firstInVain_41 : decode cX6_firstInVain 41 = .ok (.getfield 106, 3) := by decide +kernel
theorem dX6_firstInVain_44 : decode cX6_firstInVain 44 = .ok (.iconst 3, 1) := by decide +kernel
theorem dX6_firstInVain_45 : decode cX6_firstInVain 45 = .ok (.if_icmp .eq 12, 3) := by decide +kernel
theorem dX6_firstInVain_48 : decode cX6_firstInVain 48 = .ok (.aload 7, 2) := by decide +kernel
theorem dX6_firstInVain_50 : decode cX6_firstInVain 50 = .ok (.getfield 106, 3) := by decide +kernel
theorem dX6_firstInVain_53 : decode cX6_firstInVain 53 = .ok (.iconst 4, 1) := by decide +kernel
theorem dX6_firstInVain_54 : decode cX6_firstInVain 54 = .ok (.if_icmp .ne 31, 3) := by decide +kernel
theorem dX6_firstInVain_57 : decode cX6_firstInVain 57 = .ok (.aload 7, 2) := by decide +kernel
theorem dX6_firstInVain_59 : decode cX6_firstInVain 59 = .ok (.getfield 112, 3) := by decide +kernel
theorem dX6_firstInVain_62 : decode cX6_firstInVain 62 = .ok (.ifCond .eq 10, 3) := by decide +kernel
theorem dX6_firstInVain_65 : decode cX6_firstInVain 65 = .ok (.iload_n 2, 1) := by decide +kernel
theorem dX6_firstInVain_66 : decode cX6_firstInVain 66 = .ok (.ifCond .eq 19, 3) := by decide +kernel
theorem dX6_firstInVain_69 : decode cX6_firstInVain 69 = .ok (.goto 12, 3) := by decide +kernel
theorem dX6_firstInVain_72 : decode cX6_firstInVain 72 = .ok (.aload 7, 2) := by decide +kernel
theorem dX6_firstInVain_74 : decode cX6_firstInVain 74 = .ok (.getfield 109, 3) := by decide +kernel
theorem dX6_firstInVain_77 : decode cX6_firstInVain 77 = .ok (.iload_n 1, 1) := by decide +kernel
theorem dX6_firstInVain_78 : decode cX6_firstInVain 78 = .ok (.if_icmp .ne 7, 3) := by decide +kernel
theorem dX6_firstInVain_81 : decode cX6_firstInVain 81 = .ok (.iconst 1, 1) := by decide +kernel
theorem dX6_firstInVain_82 : decode cX6_firstInVain 82 = .ok (.goto 4, 3) := by decide +kernel
theorem dX6_firstInVain_85 : decode cX6_firstInVain 85 = .ok (.iconst 0, 1) := by decide +kernel
theorem dX6_firstInVain_86 : decode cX6_firstInVain 86 = .ok (.istore 8, 2) := by decide +kernel
theorem dX6_firstInVain_88 : decode cX6_firstInVain 88 = .ok (.iload 8, 2) := by decide +kernel
theorem dX6_firstInVain_90 : decode cX6_firstInVain 90 = .ok (.ifCond .eq 22, 3) := by decide +kernel
theorem dX6_firstInVain_93 : decode cX6_firstInVain 93 = .ok (.aload_n 3, 1) := by decide +kernel
theorem dX6_firstInVain_94 : decode cX6_firstInVain 94 = .ok (.ifnull 15, 3) := by decide +kernel
theorem dX6_firstInVain_97 : decode cX6_firstInVain 97 = .ok (.aload 7, 2) := by decide +kernel
theorem dX6_firstInVain_99 : decode cX6_firstInVain 99 = .ok (.getfield 122, 3) := by decide +kernel
theorem dX6_firstInVain_102 : decode cX6_firstInVain 102 = .ok (.aload_n 3, 1) := by decide +kernel
theorem dX6_firstInVain_103 : decode cX6_firstInVain 103 = .ok (.getfield 122, 3) := by decide +kernel
theorem dX6_firstInVain_106 : decode cX6_firstInVain 106 = .ok (.if_icmp .ge 6, 3) := by decide +kernel
theorem dX6_firstInVain_109 : decode cX6_firstInVain 109 = .ok (.aload 7, 2) := by decide +kernel
theorem dX6_firstInVain_111 : decode cX6_firstInVain 111 = .ok (.astore_n 3, 1) := by decide +kernel
theorem dX6_firstInVain_112 : decode cX6_firstInVain 112 = .ok (.iinc 6 1, 3) := by decide +kernel
theorem dX6_firstInVain_115 : decode cX6_firstInVain 115 = .ok (.goto (-99), 3) := by decide +kernel
theorem dX6_firstInVain_118 : decode cX6_firstInVain 118 = .ok (.aload_n 3, 1) := by decide +kernel
theorem dX6_firstInVain_119 : decode cX6_firstInVain 119 = .ok (.areturn, 1) := by decide +kernel
theorem dX7_init_0 : decode cX7_init 0 = .ok (.aload_n 0, 1) := by decide +kernel
theorem dX7_init_1 : decode cX7_init 1 = .ok (.invokespecial 3, 3) := by decide +kernel
theorem dX7_init_4 : decode cX7_init 4 = .ok (.aload_n 0, 1) := by decide +kernel
theorem dX7_init_5 : decode cX7_init 5 = .ok (.iconst 4, 1) := by decide +kernel
theorem dX7_init_6 : decode cX7_init 6 = .ok (.newarray .int, 2) := by decide +kernel
theorem dX7_init_8 : decode cX7_init 8 = .ok (.putfield 9, 3) := by decide +kernel
theorem dX7_init_11 : decode cX7_init 11 = .ok (.aload_n 0, 1) := by decide +kernel
theorem dX7_init_12 : decode cX7_init 12 = .ok (.iconst (-1), 1) := by decide +kernel
theorem dX7_init_13 : decode cX7_init 13 = .ok (.putfield 15, 3) := by decide +kernel
theorem dX7_init_16 : decode cX7_init 16 = .ok (.aload_n 0, 1) := by decide +kernel
theorem dX7_init_17 : decode cX7_init 17 = .ok (.iconst (-1), 1) := by decide +kernel
theorem dX7_init_18 : decode cX7_init 18 = .ok (.putfield 19, 3) := by decide +kernel
theorem dX7_init_21 : decode cX7_init 21 = .ok (.aload_n 0, 1) := by decide +kernel
theorem dX7_init_22 : decode cX7_init 22 = .ok (.iconst (-1), 1) := by decide +kernel
theorem dX7_init_23 : decode cX7_init 23 = .ok (.putfield 22, 3) := by decide +kernel
theorem dX7_init_26 : decode cX7_init 26 = .ok (.aload_n 0, 1) := by decide +kernel
theorem dX7_init_27 : decode cX7_init 27 = .ok (.iload_n 1, 1) := by decide +kernel
theorem dX7_init_28 : decode cX7_init 28 = .ok (.putfield 25, 3) := by decide +kernel
theorem dX7_init_31 : decode cX7_init 31 = .ok (.return_, 1) := by decide +kernel
theorem dX7_isOver_0 : decode cX7_isOver 0 = .ok (.aload_n 0, 1) := by decide +kernel
theorem dX7_isOver_1 : decode cX7_isOver 1 = .ok (.getfield 15, 3) := by decide +kernel
theorem dX7_isOver_4 : decode cX7_isOver 4 = .ok (.iconst 2, 1) := by decide +kernel
theorem dX7_isOver_5 : decode cX7_isOver 5 = .ok (.if_icmp .eq 19, 3) := by decide +kernel
theorem dX7_isOver_8 : decode cX7_isOver 8 = .ok (.aload_n 0, 1) := by decide +kernel
theorem dX7_isOver_9 : decode cX7_isOver 9 = .ok (.getfield 15, 3) := by decide +kernel
theorem dX7_isOver_12 : decode cX7_isOver 12 = .ok (.iconst 3, 1) := by decide +kernel
theorem dX7_isOver_13 : decode cX7_isOver 13 = .ok (.if_icmp .eq 11, 3) := by decide +kernel
theorem dX7_isOver_16 : decode cX7_isOver 16 = .ok (.aload_n 0, 1) := by decide +kernel
theorem dX7_isOver_17 : decode cX7_isOver 17 = .ok (.getfield 15, 3) := by decide +kernel
theorem dX7_isOver_20 : decode cX7_isOver 20 = .ok (.iconst 4, 1) := by decide +kernel
theorem dX7_isOver_21 : decode cX7_isOver 21 = .ok (.if_icmp .ne 7, 3) := by decide +kernel
theorem dX7_isOver_24 : decode cX7_isOver 24 = .ok (.iconst 1, 1) := by decide +kernel
theorem dX7_isOver_25 : decode cX7_isOver 25 = .ok (.goto 4, 3) := by decide +kernel
theorem dX7_isOver_28 : decode cX7_isOver 28 = .ok (.iconst 0, 1) := by decide +kernel
theorem dX7_isOver_29 : decode cX7_isOver 29 = .ok (.ireturn, 1) := by decide +kernel
theorem dX7_waitsAt_0 : decode cX7_waitsAt 0 = .ok (.aload_n 0, 1) := by decide +kernel
theorem dX7_waitsAt_1 : decode cX7_waitsAt 1 = .ok (.getfield 15, 3) := by decide +kernel
theorem dX7_waitsAt_4 : decode cX7_waitsAt 4 = .ok (.iconst 1, 1) := by decide +kernel
theorem dX7_waitsAt_5 : decode cX7_waitsAt 5 = .ok (.if_icmp .ne 15, 3) := by decide +kernel
theorem dX7_waitsAt_8 : decode cX7_waitsAt 8 = .ok (.aload_n 0, 1) := by decide +kernel
theorem dX7_waitsAt_9 : decode cX7_waitsAt 9 = .ok (.getfield 28, 3) := by decide +kernel
theorem dX7_waitsAt_12 : decode cX7_waitsAt 12 = .ok (.iload_n 1, 1) := by decide +kernel
theorem dX7_waitsAt_13 : decode cX7_waitsAt 13 = .ok (.if_icmp .ne 7, 3) := by decide +kernel
theorem dX7_waitsAt_16 : decode cX7_waitsAt 16 = .ok (.iconst 1, 1) := by decide +kernel
theorem dX7_waitsAt_17 : decode cX7_waitsAt 17 = .ok (.goto 4, 3) := by decide +kernel
theorem dX7_waitsAt_20 : decode cX7_waitsAt 20 = .ok (.iconst 0, 1) := by decide +kernel
theorem dX7_waitsAt_21 : decode cX7_waitsAt 21 = .ok (.ireturn, 1) := by decide +kernel
theorem dX7_localAt_0 : decode cX7_localAt 0 = .ok (.iload_n 1, 1) := by decide +kernel
theorem dX7_localAt_1 : decode cX7_localAt 1 = .ok (.ifCond .lt 21, 3) := by decide +kernel
theorem dX7_localAt_4 : decode cX7_localAt 4 = .ok (.iload_n 1, 1) := by decide +kernel
theorem dX7_localAt_5 : decode cX7_localAt 5 = .ok (.aload_n 0, 1) := by decide +kernel
theorem dX7_localAt_6 : decode cX7_localAt 6 = .ok (.getfield 9, 3) := by decide +kernel
theorem dX7_localAt_9 : decode cX7_localAt 9 = .ok (.arraylength, 1) := by decide +kernel
theorem dX7_localAt_10 : decode cX7_localAt 10 = .ok (.if_icmp .ge 12, 3) := by decide +kernel
theorem dX7_localAt_13 : decode cX7_localAt 13 = .ok (.aload_n 0, 1) := by decide +kernel
theorem dX7_localAt_14 : decode cX7_localAt 14 = .ok (.getfield 9, 3) := by decide +kernel
theorem dX7_localAt_17 : decode cX7_localAt 17 = .ok (.iload_n 1, 1) := by decide +kernel
theorem dX7_localAt_18 : decode cX7_localAt 18 = .ok (.iaload, 1) := by decide +kernel
theorem dX7_localAt_19 : decode cX7_localAt 19 = .ok (.goto 4, 3) := by decide +kernel
theorem dX7_localAt_22 : decode cX7_localAt 22 = .ok (.iconst 0, 1) := by decide +kernel
theorem dX7_localAt_23 : decode cX7_localAt 23 = .ok (.ireturn, 1) := by decide +kernel
theorem dX7_putLocal_0 : decode cX7_putLocal 0 = .ok (.iload_n 1, 1) := by decide +kernel
theorem dX7_putLocal_1 : decode cX7_putLocal 1 = .ok (.ifCond .lt 19, 3) := by decide +kernel
theorem dX7_putLocal_4 : decode cX7_putLocal 4 = .ok (.iload_n 1, 1) := by decide +kernel
theorem dX7_putLocal_5 : decode cX7_putLocal 5 = .ok (.aload_n 0, 1) := by decide +kernel
theorem dX7_putLocal_6 : decode cX7_putLocal 6 = .ok (.getfield 9, 3) := by decide +kernel
theorem dX7_putLocal_9 : decode cX7_putLocal 9 = .ok (.arraylength, 1) := by decide +kernel
theorem dX7_putLocal_10 : decode cX7_putLocal 10 = .ok (.if_icmp .ge 10, 3) := by decide +kernel
theorem dX7_putLocal_13 : decode cX7_putLocal 13 = .ok (.aload_n 0, 1) := by decide +kernel
theorem dX7_putLocal_14 : decode cX7_putLocal 14 = .ok (.getfield 9, 3) := by decide +kernel
theorem dX7_putLocal_17 : decode cX7_putLocal 17 = .ok (.iload_n 1, 1) := by decide +kernel
theorem dX7_putLocal_18 : decode cX7_putLocal 18 = .ok (.iload_n 2, 1) := by decide +kernel
theorem dX7_putLocal_19 : decode cX7_putLocal 19 = .ok (.iastore, 1) := by decide +kernel
theorem dX7_putLocal_20 : decode cX7_putLocal 20 = .ok (.return_, 1) := by decide +kernel
set_option maxRecDepth 20000 in
theorem ggX7_copyFrom_X7_localAt : GoodIn wsX7_copyFrom wsX7_localAt := goodIn_r _ [20, 21, 26, 27, 28, 29, 30, 31, 32, 33, 34, 35, 36, 37, 38, 39, 40, 41, 42] (by decide +kernel) (by decide +kernel)
set_option maxRecDepth 20000 in
theorem gX7_copyFrom_X7_localAt : GoodIn wsX7_copyFrom (wsV RX7 31 RX7 yX7_localAt wsX7_localAt) := goodIn_app (goodIn_of _ (by decide +kernel)) ggX7_copyFrom_X7_localAt
set_option maxRecDepth 20000 in
theorem ggX7_copyFrom_X7_putLocal : GoodIn wsX7_copyFrom wsX7_putLocal := goodIn_r _ [25, 21, 26, 27, 28, 29, 30, 31, 32, 33, 34, 35, 36, 37, 38, 39, 40, 41, 42] (by decide +kernel) (by decide +kernel)
set_option maxRecDepth 20000 in
theorem gX7_copyFrom_X7_putLocal : GoodIn wsX7_copyFrom (wsV RX7 35 RX7 yX7_putLocal wsX7_putLocal) := goodIn_app (goodIn_of _ (by decide +kernel)) ggX7_copyFrom_X7_putLocal
theorem dX7_copyFrom_0 : decode cX7_copyFrom 0 = .ok (.iconst 0, 1) := by decide +kernel
theorem dX7_copyFrom_1 : decode cX7_copyFrom 1 = .ok (.istore_n 2, 1) := by decide +kernel
theorem dX7_copyFrom_2 : decode cX7_copyFrom 2 = .ok (.iload_n 2, 1) := by decide +kernel
theorem dX7_copyFrom_3 : decode cX7_copyFrom 3 = .ok (.iconst 4, 1) := by decide +kernel
theorem dX7_copyFrom_4 : decode cX7_copyFrom 4 = .ok (.if_icmp .ge 19, 3) := by decide +kernel
theorem dX7_copyFrom_7 : decode cX7_copyFrom 7 = .ok (.aload_n 0, 1) := by decide +kernel
theorem dX7_copyFrom_8 : decode cX7_copyFrom 8 = .ok (.iload_n 2, 1) := by decide +kernel
theorem dX7_copyFrom_9 : decode cX7_copyFrom 9 = .ok (.aload_n 1, 1) := by decide +kernel
theorem dX7_copyFrom_10 : decode cX7_copyFrom 10 = .ok (.iload_n 2, 1) := by decide +kernel
theorem dX7_copyFrom_11 : decode cX7_copyFrom 11 = .ok (.invokevirtual 31, 3) := by decide +kernel
theorem dX7_copyFrom_14 : decode cX7_copyFrom 14 = .ok (.invokevirtual 35, 3) := by decide +kernel
theorem dX7_copyFrom_17 : decode cX7_copyFrom 17 = .ok (.iinc 2 1, 3) := by decide +kernel
theorem dX7_copyFrom_20 : decode cX7_copyFrom 20 = .ok (.goto (-18), 3) := by decide +kernel
theorem dX7_copyFrom_23 : decode cX7_copyFrom 23 = .ok (.aload_n 0, 1) := by decide +kernel
theorem dX7_copyFrom_24 : decode cX7_copyFrom 24 = .ok (.aload_n 1, 1) := by decide +kernel
theorem dX7_copyFrom_25 : decode cX7_copyFrom 25 = .ok (.getfield 39, 3) := by decide +kernel
theorem dX7_copyFrom_28 : decode cX7_copyFrom 28 = .ok (.putfield 39, 3) := by decide +kernel
theorem dX7_copyFrom_31 : decode cX7_copyFrom 31 = .ok (.aload_n 0, 1) := by decide +kernel
theorem dX7_copyFrom_32 : decode cX7_copyFrom 32 = .ok (.aload_n 1, 1) := by decide +kernel
theorem dX7_copyFrom_33 : decode cX7_copyFrom 33 = .ok (.getfield 15, 3) := by decide +kernel
theorem dX7_copyFrom_36 : decode cX7_copyFrom 36 = .ok (.putfield 15, 3) := by decide +kernel
theorem dX7_copyFrom_39 : decode cX7_copyFrom 39 = .ok (.aload_n 0, 1) := by decide +kernel
theorem dX7_copyFrom_40 : decode cX7_copyFrom 40 = .ok (.aload_n 1, 1) := by decide +kernel
theorem dX7_copyFrom_41 : decode cX7_copyFrom 41 = .ok (.getfield 42, 3) := by decide +kernel
theorem dX7_copyFrom_44 : decode cX7_copyFrom 44 = .ok (.putfield 42, 3) := by decide +kernel
theorem dX7_copyFrom_47 : decode cX7_copyFrom 47 = .ok (.aload_n 0, 1) := by decide +kernel
theorem dX7_copyFrom_48 : decode cX7_copyFrom 48 = .ok (.aload_n 1, 1) := by decide +kernel
theorem dX7_copyFrom_49 : decode cX7_copyFrom 49 = .ok (.getfield 45, 3) := by decide +kernel
theorem dX7_copyFrom_52 : decode cX7_copyFrom 52 = .ok (.putfield 45, 3) := by decide +kernel
theorem dX7_copyFrom_55 : decode cX7_copyFrom 55 = .ok (.aload_n 0, 1) := by decide +kernel
theorem dX7_copyFrom_56 : decode cX7_copyFrom 56 = .ok (.aload_n 1, 1) := by decide +kernel
theorem dX7_copyFrom_57 : decode cX7_copyFrom 57 = .ok (.getfield 19, 3) := by decide +kernel
theorem dX7_copyFrom_60 : decode cX7_copyFrom 60 = .ok (.putfield 19, 3) := by decide +kernel
theorem dX7_copyFrom_63 : decode cX7_copyFrom 63 = .ok (.aload_n 0, 1) := by decide +kernel
theorem dX7_copyFrom_64 : decode cX7_copyFrom 64 = .ok (.aload_n 1, 1) := by decide +kernel
theorem dX7_copyFrom_65 : decode cX7_copyFrom 65 = .ok (.getfield 22, 3) := by decide +kernel
theorem dX7_copyFrom_68 : decode cX7_copyFrom 68 = .ok (.putfield 22, 3) := by decide +kernel
theorem dX7_copyFrom_71 : decode cX7_copyFrom 71 = .ok (.aload_n 0, 1) := by decide +kernel
theorem dX7_copyFrom_72 : decode cX7_copyFrom 72 = .ok (.aload_n 1, 1) := by decide +kernel
theorem dX7_copyFrom_73 : decode cX7_copyFrom 73 = .ok (.getfield 48, 3) := by decide +kernel
theorem dX7_copyFrom_76 : decode cX7_copyFrom 76 = .ok (.putfield 48, 3) := by decide +kernel
theorem dX7_copyFrom_79 : decode cX7_copyFrom 79 = .ok (.aload_n 0, 1) := by decide +kernel
theorem dX7_copyFrom_80 : decode cX7_copyFrom 80 = .ok (.aload_n 1, 1) := by decide +kernel
theorem dX7_copyFrom_81 : decode cX7_copyFrom 81 = .ok (.getfield 28, 3) := by decide +kernel
theorem dX7_copyFrom_84 : decode cX7_copyFrom 84 = .ok (.putfield 28, 3) := by decide +kernel
theorem dX7_copyFrom_87 : decode cX7_copyFrom 87 = .ok (.aload_n 0, 1) := by decide +kernel
theorem dX7_copyFrom_88 : decode cX7_copyFrom 88 = .ok (.aload_n 1, 1) := by decide +kernel
theorem dX7_copyFrom_89 : decode cX7_copyFrom 89 = .ok (.getfield 51, 3) := by decide +kernel
theorem dX7_copyFrom_92 : decode cX7_copyFrom 92 = .ok (.putfield 51, 3) := by decide +kernel
theorem dX7_copyFrom_95 : decode cX7_copyFrom 95 = .ok (.aload_n 0, 1) := by decide +kernel
theorem dX7_copyFrom_96 : decode cX7_copyFrom 96 = .ok (.aload_n 1, 1) := by decide +kernel
theorem dX7_copyFrom_97 : decode cX7_copyFrom 97 = .ok (.getfield 54, 3) := by decide +kernel
theorem dX7_copyFrom_100 : decode cX7_copyFrom 100 = .ok (.putfield 54, 3) := by decide +kernel
theorem dX7_copyFrom_103 : decode cX7_copyFrom 103 = .ok (.aload_n 0, 1) := by decide +kernel
theorem dX7_copyFrom_104 : decode cX7_copyFrom 104 = .ok (.aload_n 1, 1) := by decide +kernel
theorem dX7_copyFrom_105 : decode cX7_copyFrom 105 = .ok (.getfield 58, 3) := by decide +kernel
theorem dX7_copyFrom_108 : decode cX7_copyFrom 108 = .ok (.putfield 58, 3) := by decide +kernel
theorem dX7_copyFrom_111 : decode cX7_copyFrom 111 = .ok (.aload_n 0, 1) := by decide +kernel
theorem dX7_copyFrom_112 : decode cX7_copyFrom 112 = .ok (.aload_n 1, 1) := by decide +kernel
theorem dX7_copyFrom_113 : decode cX7_copyFrom 113 = .ok (.getfield 61, 3) := by decide +kernel
theorem dX7_copyFrom_116 : decode cX7_copyFrom 116 = .ok (.putfield 61, 3) := by decide +kernel
theorem dX7_copyFrom_119 : decode cX7_copyFrom 119 = .ok (.aload_n 0, 1) := by decide +kernel
theorem dX7_copyFrom_120 : decode cX7_copyFrom 120 = .ok (.aload_n 1, 1) := by decide +kernel
theorem dX7_copyFrom_121 : decode cX7_copyFrom 121 = .ok (.getfield 64, 3) := by decide +kernel
theorem dX7_copyFrom_124 : decode cX7_copyFrom 124 = .ok (.putfield 64, 3) := by decide +kernel
theorem dX7_copyFrom_127 : decode cX7_copyFrom 127 = .ok (.aload_n 0, 1) := by decide +kernel
theorem dX7_copyFrom_128 : decode cX7_copyFrom 128 = .ok (.aload_n 1, 1) := by decide +kernel
theorem dX7_copyFrom_129 : decode cX7_copyFrom 129 = .ok (.getfield 67, 3) := by decide +kernel
theorem dX7_copyFrom_132 : decode cX7_copyFrom 132 = .ok (.putfield 67, 3) := by decide +kernel
theorem dX7_copyFrom_135 : decode cX7_copyFrom 135 = .ok (.aload_n 0, 1) := by decide +kernel
theorem dX7_copyFrom_136 : decode cX7_copyFrom 136 = .ok (.aload_n 1, 1) := by decide +kernel
theorem dX7_copyFrom_137 : decode cX7_copyFrom 137 = .ok (.getfield 70, 3) := by decide +kernel
theorem dX7_copyFrom_140 : decode cX7_copyFrom 140 = .ok (.putfield 70, 3) := by decide +kernel
theorem dX7_copyFrom_143 : decode cX7_copyFrom 143 = .ok (.return_, 1) := by decide +kernel
set_option maxRecDepth 20000 in
theorem ggX8_init_X3_init : GoodIn wsX8_init wsX3_init := goodIn_r _ [24, 25, 2, 3, 26, 27, 28, 29, 30, 91, 92, 93, 94, 95] (by decide +kernel) (by decide +kernel)
set_option maxRecDepth 20000 in
theorem gX8_init_X3_init_n11 : GoodIn wsX8_init (wsX3_init) := ggX8_init_X3_init
set_option maxRecDepth 20000 in
theorem ggX8_init_X6_init : GoodIn wsX8_init wsX6_init := goodIn_r _ [33, 34, 2, 3, 35, 36, 37, 38, 39, 40, 41, 42, 26, 43, 44, 45, 46, 47, 48, 49, 50, 51, 52, 53, 54, 55, 56, 57, 58, 59, 60, 61, 62, 63, 64, 65, 66, 67, 68, 69, 70, 71, 72, 73, 74, 75, 76, 77, 78, 103, 104, 105, 106, 107, 108, 109, 110, 111, 112, 113, 114, 120, 121, 122, 123, 124, 125, 126, 127, 128, 129, 130, 131, 132, 133, 134, 135, 136, 137, 138, 139, 140, 141, 142, 143, 144, 145, 146, 147, 148, 149, 150, 151, 152, 153, 154, 155, 156, 157, 158] (by decide +kernel) (by decide +kernel)
set_option maxRecDepth 20000 in
theorem gX8_init_X6_init : GoodIn wsX8_init (wsX6_init) := ggX8_init_X6_init
set_option maxRecDepth 20000 in
theorem ggX8_init_X4_init : GoodIn wsX8_init wsX4_init := goodIn_r _ [81, 82, 2, 3, 83, 84, 115, 116, 117] (by decide +kernel) (by decide +kernel)
set_option maxRecDepth 20000 in
theorem gX8_init_X4_init : GoodIn wsX8_init (wsX4_init) := ggX8_init_X4_init
set_option maxRecDepth 20000 in
theorem ggX8_init_X0_init : GoodIn wsX8_init wsX0_init := goodIn_r _ [87, 88, 2, 3, 89, 90, 118, 119] (by decide +kernel) (by decide +kernel)
set_option maxRecDepth 20000 in
theorem gX8_init_X0_init : GoodIn wsX8_init (wsX0_init) := ggX8_init_X0_init
theorem dX8_init_0 : decode cX8_init 0 = .ok (.aload_n 0, 1) := by decide +kernel
theorem dX8_init_1 : decode cX8_init 1 = .ok (.invokespecial 3, 3) := by decide +kernel
theorem dX8_init_4 : decode cX8_init 4 = .ok (.aload_n 0, 1) := by decide +kernel
theorem dX8_init_5 : decode cX8_init 5 = .ok (.new 9, 3) := by decide +kernel
theorem dX8_init_8 : decode cX8_init 8 = .ok (.dup, 1) := by decide +kernel
theorem dX8_init_9 : decode cX8_init 9 = .ok (.invokespecial 11, 3) := by decide +kernel
theorem dX8_init_12 : decode cX8_init 12 = .ok (.putfield 12, 3) := by decide +kernel
theorem dX8_init_15 : decode cX8_init 15 = .ok (.aload_n 0, 1) := by decide +kernel
theorem dX8_init_16 : decode cX8_init 16 = .ok (.new 16, 3) := by decide +kernel
theorem dX8_init_19 : decode cX8_init 19 = .ok (.dup, 1) := by decide +kernel
theorem dX8_init_20 : decode cX8_init 20 = .ok (.invokespecial 18, 3) := by decide +kernel
theorem dX8_init_23 : decode cX8_init 23 = .ok (.putfield 19, 3) := by decide +kernel
theorem dX8_init_26 : decode cX8_init 26 = .ok (.aload_n 0, 1) := by decide +kernel
theorem dX8_init_27 : decode cX8_init 27 = .ok (.new 23, 3) := by decide +kernel
theorem dX8_init_30 : decode cX8_init 30 = .ok (.dup, 1) := by decide +kernel
theorem dX8_init_31 : decode cX8_init 31 = .ok (.aload_n 0, 1) := by decide +kernel
theorem dX8_init_32 : decode cX8_init 32 = .ok (.getfield 12, 3) := by decide +kernel
theorem dX8_init_35 : decode cX8_init 35 = .ok (.aload_n 0, 1) := by decide +kernel
theorem dX8_init_36 : decode cX8_init 36 = .ok (.getfield 19, 3) := by decide +kernel
theorem dX8_init_39 : decode cX8_init 39 = .ok (.invokespecial 25, 3) := by decide +kernel
theorem dX8_init_42 : decode cX8_init 42 = .ok (.putfield 28, 3) := by decide +kernel
theorem dX8_init_45 : decode cX8_init 45 = .ok (.aload_n 0, 1) := by decide +kernel
theorem dX8_init_46 : decode cX8_init 46 = .ok (.new 32, 3) := by decide +kernel
theorem dX8_init_49 : decode cX8_init 49 = .ok (.dup, 1) := by decide +kernel
theorem dX8_init_50 : decode cX8_init 50 = .ok (.aload_n 0, 1) := by decide +kernel
theorem dX8_init_51 : decode cX8_init 51 = .ok (.getfield 12, 3) := by decide +kernel
theorem dX8_init_54 : decode cX8_init 54 = .ok (.aload_n 0, 1) := by decide +kernel
theorem dX8_init_55 : decode cX8_init 55 = .ok (.getfield 19, 3) := by decide +kernel
theorem dX8_init_58 : decode cX8_init 58 = .ok (.invokespecial 34, 3) := by decide +kernel
theorem dX8_init_61 : decode cX8_init 61 = .ok (.putfield 35, 3) := by decide +kernel
theorem dX8_init_64 : decode cX8_init 64 = .ok (.aload_n 0, 1) := by decide +kernel
theorem dX8_init_65 : decode cX8_init 65 = .ok (.new 16, 3) := by decide +kernel
theorem dX8_init_68 : decode cX8_init 68 = .ok (.dup, 1) := by decide +kernel
theorem dX8_init_69 : decode cX8_init 69 = .ok (.invokespecial 18, 3) := by decide +kernel
theorem dX8_init_72 : decode cX8_init 72 = .ok (.putfield 39, 3) := by decide +kernel
theorem dX8_init_75 : decode cX8_init 75 = .ok (.aload_n 0, 1) := by decide +kernel
theorem dX8_init_76 : decode cX8_init 76 = .ok (.new 23, 3) := by decide +kernel
theorem dX8_init_79 : decode cX8_init 79 = .ok (.dup, 1) := by decide +kernel
theorem dX8_init_80 : decode cX8_init 80 = .ok (.aload_n 0, 1) := by decide +kernel
theorem dX8_init_81 : decode cX8_init 81 = .ok (.getfield 12, 3) := by decide +kernel
theorem dX8_init_84 : decode cX8_init 84 = .ok (.aload_n 0, 1) := by decide +kernel
theorem dX8_init_85 : decode cX8_init 85 = .ok (.getfield 39, 3) := by decide +kernel
theorem dX8_init_88 : decode cX8_init 88 = .ok (.invokespecial 25, 3) := by decide +kernel
theorem dX8_init_91 : decode cX8_init 91 = .ok (.putfield 42, 3) := by decide +kernel
theorem dX8_init_94 : decode cX8_init 94 = .ok (.aload_n 0, 1) := by decide +kernel
theorem dX8_init_95 : decode cX8_init 95 = .ok (.new 32, 3) := by decide +kernel
theorem dX8_init_98 : decode cX8_init 98 = .ok (.dup, 1) := by decide +kernel
theorem dX8_init_99 : decode cX8_init 99 = .ok (.aload_n 0, 1) := by decide +kernel
theorem dX8_init_100 : decode cX8_init 100 = .ok (.getfield 12, 3) := by decide +kernel
theorem dX8_init_103 : decode cX8_init 103 = .ok (.aload_n 0, 1) := by decide +kernel
theorem dX8_init_104 : decode cX8_init 104 = .ok (.getfield 39, 3) := by decide +kernel
theorem dX8_init_107 : decode cX8_init 107 = .ok (.invokespecial 34, 3) := by decide +kernel
theorem dX8_init_110 : decode cX8_init 110 = .ok (.putfield 45, 3) := by decide +kernel
theorem dX8_init_113 : decode cX8_init 113 = .ok (.return_, 1) := by decide +kernel
set_option maxRecDepth 20000 in
theorem ggX8_body_X3_addBody : GoodIn wsX8_body wsX3_addBody := goodIn_r _ [9, 10, 18, 19, 20, 21, 22] (by decide +kernel) (by decide +kernel)
set_option maxRecDepth 20000 in
theorem gX8_body_X3_addBody : GoodIn wsX8_body (wsV RX8 59 RX3 yX3_addBody wsX3_addBody) := goodIn_app (goodIn_of _ (by decide +kernel)) ggX8_body_X3_addBody
theorem dX8_body_0 : decode cX8_body 0 = .ok (.aload_n 0, 1) := by decide +kernel
theorem dX8_body_1 : decode cX8_body 1 = .ok (.getfield 12, 3) := by decide +kernel
theorem dX8_body_4 : decode cX8_body 4 = .ok (.getfield 48, 3) := by decide +kernel
theorem dX8_body_7 : decode cX8_body 7 = .ok (.bipush 8, 2) := by decide +kernel
theorem dX8_body_9 : decode cX8_body 9 = .ok (.if_icmp .lt 13, 3) := by decide +kernel
theorem dX8_body_12 : decode cX8_body 12 = .ok (.new 52, 3) := by decide +kernel
theorem dX8_body_15 : decode cX8_body 15 = .ok (.dup, 1) := by decide +kernel
theorem dX8_body_16 : decode cX8_body 16 = .ok (.ldc 54, 2) := by decide +kernel
theorem dX8_body_18 : decode cX8_body 18 = .ok (.invokespecial 56, 3) := by decide +kernel
theorem dX8_body_21 : decode cX8_body 21 = .ok (.athrow, 1) := by decide +kernel
theorem dX8_body_22 : decode cX8_body 22 = .ok (.aload_n 0, 1) := by decide +kernel
theorem dX8_body_23 : decode cX8_body 23 = .ok (.getfield 12, 3) := by decide +kernel
theorem dX8_body_26 : decode cX8_body 26 = .ok (.invokevirtual 59, 3) := by decide +kernel
theorem dX8_body_29 : decode cX8_body 29 = .ok (.ireturn, 1) := by decide +kernel
set_option maxRecDepth 20000 in
theorem ggX8_line_X8_checkNumber : GoodIn wsX8_line wsX8_checkNumber := goodIn_ca (goodIn_r _ [11, 12, 13] (by decide +kernel) (by decide +kernel)) (goodIn_sub (fun _ h => List.mem_cons_of_mem _ (List.mem_append_right _ h)) (by decide +kernel))
set_option maxRecDepth 20000 in
theorem gX8_line_X8_checkNumber : GoodIn wsX8_line (va_wsS RX8 63 yX8_checkNumber wsX8_checkNumber) := goodIn_app (goodIn_of _ (by decide +kernel)) ggX8_line_X8_checkNumber
set_option maxRecDepth 20000 in
theorem ggX8_line_X3_linesOf : GoodIn wsX8_line wsX3_linesOf := goodIn_r _ [18, 19, 65, 66, 67, 68, 69] (by decide +kernel) (by decide +kernel)
set_option maxRecDepth 20000 in
theorem gX8_line_X3_linesOf : GoodIn wsX8_line (wsV RX8 67 RX3 yX3_linesOf wsX3_linesOf) := goodIn_app (goodIn_of _ (by decide +kernel)) ggX8_line_X3_linesOf
set_option maxRecDepth 20000 in
theorem ggX8_line_X3_fits : GoodIn wsX8_line wsX3_fits := goodIn_r _ [22, 23, 24, 17, 25, 26, 27, 28, 29, 30, 31, 32, 33, 34, 35, 36, 37] (by decide +kernel) (by decide +kernel)
set_option maxRecDepth 20000 in
theorem gX8_line_X3_fits : GoodIn wsX8_line (va_wsS RX8 71 yX3_fits wsX3_fits) := goodIn_app (goodIn_of _ (by decide +kernel)) ggX8_line_X3_fits
set_option maxRecDepth 20000 in
theorem ggX8_line_X6_isUsed : GoodIn wsX8_line wsX6_isUsed := goodIn_r _ [42, 43, 44, 45, 70, 71, 72, 73, 74, 75, 76, 77, 78, 79, 80, 81, 82, 83, 84, 85, 86, 87, 88, 89, 90, 91, 92, 93, 94, 95, 96, 97, 98] (by decide +kernel) (by decide +kernel)
set_option maxRecDepth 20000 in
theorem gX8_line_X6_isUsed : GoodIn wsX8_line (wsV RX8 80 RX6 yX6_isUsed wsX6_isUsed) := goodIn_app (goodIn_of _ (by decide +kernel)) ggX8_line_X6_isUsed
set_option maxRecDepth 20000 in
theorem ggX8_line_X3_addLine : GoodIn wsX8_line wsX3_addLine := goodIn_r _ [49, 50, 51, 52, 19, 53, 15, 16, 17, 18, 54, 55, 56, 57, 65, 66, 67, 68, 69] (by decide +kernel) (by decide +kernel)
set_option maxRecDepth 20000 in
theorem gX8_line_X3_addLine : GoodIn wsX8_line (wsV RX8 86 RX3 yX3_addLine wsX3_addLine) := goodIn_app (goodIn_of _ (by decide +kernel)) ggX8_line_X3_addLine
theorem dX8_line_0 : decode cX8_line 0 = .ok (.iload_n 1, 1) := by decide +kernel
theorem dX8_line_1 : decode cX8_line 1 = .ok (.aload_n 0, 1) := by decide +kernel
theorem dX8_line_2 : decode cX8_line 2 = .ok (.getfield 12, 3) := by decide +kernel
theorem dX8_line_5 : decode cX8_line 5 = .ok (.getfield 48, 3) := by decide +kernel
theorem dX8_line_8 : decode cX8_line 8 = .ok (.invokestatic 63, 3) := by decide +kernel
theorem dX8_line_11 : decode cX8_line 11 = .ok (.aload_n 0, 1) := by decide +kernel
theorem dX8_line_12 : decode cX8_line 12 = .ok (.getfield 12, 3) := by decide +kernel
theorem dX8_line_15 : decode cX8_line 15 = .ok (.iload_n 1, 1) := by decide +kernel
theorem dX8_line_16 : decode cX8_line 16 = .ok (.invokevirtual 67, 3) := by decide +kernel
theorem dX8_line_19 : decode cX8_line 19 = .ok (.istore 5, 2) := by decide +kernel
theorem dX8_line_21 : decode cX8_line 21 = .ok (.iload_n 2, 1) := by decide +kernel
theorem dX8_line_22 : decode cX8_line 22 = .ok (.iload_n 3, 1) := by decide +kernel
theorem dX8_line_23 : decode cX8_line 23 = .ok (.iload 4, 2) := by decide +kernel
theorem dX8_line_25 : decode cX8_line 25 = .ok (.iload 5, 2) := by decide +kernel
theorem dX8_line_27 : decode cX8_line 27 = .ok (.invokestatic 71, 3) := by decide +kernel
theorem dX8_line_30 : decode cX8_line 30 = .ok (.ifCond .ne 13, 3) := by decide +kernel
theorem dX8_line_33 : decode cX8_line 33 = .ok (.new 75, 3) := by decide +kernel
theorem dX8_line_36 : decode cX8_line 36 = .ok (.dup, 1) := by decide +kernel
theorem dX8_line_37 : decode cX8_line 37 = .ok (.ldc 77, 2) := by decide +kernel
theorem dX8_line_39 : decode cX8_line 39 = .ok (.invokespecial 79, 3) := by decide +kernel
theorem dX8_line_42 : decode cX8_line 42 = .ok (.athrow, 1) := by decide +kernel
theorem dX8_line_43 : decode cX8_line 43 = .ok (.iload 5, 2) := by decide +kernel
theorem dX8_line_45 : decode cX8_line 45 = .ok (.bipush 12, 2) := by decide +kernel
theorem dX8_line_47 : decode cX8_line 47 = .ok (.if_icmp .ge 14, 3) := by decide +kernel
theorem dX8_line_50 : decode cX8_line 50 = .ok (.aload_n 0, 1) := by decide +kernel
theorem dX8_line_51 : decode cX8_line 51 = .ok (.getfield 19, 3) := by decide +kernel
theorem dX8_line_54 : decode cX8_line 54 = .ok (.iload_n 1, 1) := by decide +kernel
theorem dX8_line_55 : decode cX8_line 55 = .ok (.invokevirtual 80, 3) := by decide +kernel
theorem dX8_line_58 : decode cX8_line 58 = .ok (.ifCond .eq 13, 3) := by decide +kernel
theorem dX8_line_61 : decode cX8_line 61 = .ok (.new 52, 3) := by decide +kernel
theorem dX8_line_64 : decode cX8_line 64 = .ok (.dup, 1) := by decide +kernel
theorem dX8_line_65 : decode cX8_line 65 = .ok (.ldc 84, 2) := by decide +kernel
theorem dX8_line_67 : decode cX8_line 67 = .ok (.invokespecial 56, 3) := by decide +kernel
theorem dX8_line_70 : decode cX8_line 70 = .ok (.athrow, 1) := by decide +kernel
theorem dX8_line_71 : decode cX8_line 71 = .ok (.aload_n 0, 1) := by decide +kernel
theorem dX8_line_72 : decode cX8_line 72 = .ok (.getfield 12, 3) := by decide +kernel
theorem dX8_line_75 : decode cX8_line 75 = .ok (.iload_n 1, 1) := by decide +kernel
theorem dX8_line_76 : decode cX8_line 76 = .ok (.iload_n 2, 1) := by decide +kernel
theorem dX8_line_77 : decode cX8_line 77 = .ok (.iload_n 3, 1) := by decide +kernel
theorem dX8_line_78 : decode cX8_line 78 = .ok (.iload 4, 2) := by decide +kernel
theorem dX8_line_80 : decode cX8_line 80 = .ok (.invokevirtual 86, 3) := by decide +kernel
theorem dX8_line_83 : decode cX8_line 83 = .ok (.iload 5, 2) := by decide +kernel
theorem dX8_line_85 : decode cX8_line 85 = .ok (.ireturn, 1) := by decide +kernel
set_option maxRecDepth 20000 in
theorem ggX8_start_X8_checkNumber : GoodIn wsX8_start wsX8_checkNumber := goodIn_ca (goodIn_r _ [9, 10, 11] (by decide +kernel) (by decide +kernel)) (goodIn_sub (fun _ h => List.mem_cons_of_mem _ (List.mem_append_right _ h)) (by decide +kernel))
set_option maxRecDepth 20000 in
theorem gX8_start_X8_checkNumber : GoodIn wsX8_start (va_wsS RX8 63 yX8_checkNumber wsX8_checkNumber) := goodIn_app (goodIn_of _ (by decide +kernel)) ggX8_start_X8_checkNumber
set_option maxRecDepth 20000 in
theorem ggX8_start_X6_makeTask : GoodIn wsX8_start wsX6_makeTask := goodIn_r _ [16, 17, 18, 19, 20, 21, 22, 23, 15, 24, 25, 26, 27, 28, 29, 30, 31, 32, 45, 46, 47, 48, 49, 50, 51, 52, 53, 54, 55, 56, 57, 58, 59, 60, 61, 62, 63, 64, 65, 66, 67, 68, 69, 70, 71, 72, 73] (by decide +kernel) (by decide +kernel)
set_option maxRecDepth 20000 in
theorem gX8_start_X6_makeTask : GoodIn wsX8_start (wsV RX8 103 RX6 yX6_makeTask wsX6_makeTask) := goodIn_app (goodIn_of _ (by decide +kernel)) ggX8_start_X6_makeTask
theorem dX8_start_0 : decode cX8_start 0 = .ok (.iload_n 1, 1) := by decide +kernel
theorem dX8_start_1 : decode cX8_start 1 = .ok (.aload_n 0, 1) := by decide +kernel
theorem dX8_start_2 : decode cX8_start 2 = .ok (.getfield 12, 3) := by decide +kernel
theorem dX8_start_5 : decode cX8_start 5 = .ok (.getfield 48, 3) := by decide +kernel
theorem dX8_start_8 : decode cX8_start 8 = .ok (.invokestatic 63, 3) := by decide +kernel
theorem dX8_start_11 : decode cX8_start 11 = .ok (.aload_n 0, 1) := by decide +kernel
theorem dX8_start_12 : decode cX8_start 12 = .ok (.getfield 19, 3) := by decide +kernel
theorem dX8_start_15 : decode cX8_start 15 = .ok (.iload_n 1, 1) := by decide +kernel
theorem dX8_start_16 : decode cX8_start 16 = .ok (.iconst (-1), 1) := by decide +kernel
theorem dX8_start_17 : decode cX8_start 17 = .ok (.invokevirtual 103, 3) := by decide +kernel
theorem dX8_start_20 : decode cX8_start 20 = .ok (.istore_n 2, 1) := by decide +kernel
theorem dX8_start_21 : decode cX8_start 21 = .ok (.iload_n 2, 1) := by decide +kernel
theorem dX8_start_22 : decode cX8_start 22 = .ok (.iconst (-1), 1) := by decide +kernel
theorem dX8_start_23 : decode cX8_start 23 = .ok (.if_icmp .ne 13, 3) := by decide +kernel
theorem dX8_start_26 : decode cX8_start 26 = .ok (.new 52, 3) := by decide +kernel
theorem dX8_start_29 : decode cX8_start 29 = .ok (.dup, 1) := by decide +kernel
theorem dX8_start_30 : decode cX8_start 30 = .ok (.ldc 106, 2) := by decide +kernel
theorem dX8_start_32 : decode cX8_start 32 = .ok (.invokespecial 56, 3) := by decide +kernel
theorem dX8_start_35 : decode cX8_start 35 = .ok (.athrow, 1) := by decide +kernel
theorem dX8_start_36 : decode cX8_start 36 = .ok (.iload_n 2, 1) := by decide +kernel
theorem dX8_start_37 : decode cX8_start 37 = .ok (.ireturn, 1) := by decide +kernel
set_option maxRecDepth 20000 in
theorem ggX8_run_X8_checkWithin : GoodIn wsX8_run wsX8_checkWithin := goodIn_ca (goodIn_r _ [5, 6, 7] (by decide +kernel) (by decide +kernel)) (goodIn_sub (fun _ h => List.mem_cons_of_mem _ (List.mem_append_right _ h)) (by decide +kernel))
set_option maxRecDepth 20000 in
theorem gX8_run_X8_checkWithin : GoodIn wsX8_run (va_wsS RX8 90 yX8_checkWithin wsX8_checkWithin) := goodIn_app (goodIn_of _ (by decide +kernel)) ggX8_run_X8_checkWithin
set_option maxRecDepth 20000 in
theorem ggX8_run_X4_takeTurns : GoodIn wsX8_run wsX4_takeTurns := goodIn_r _ [12, 13, 14, 15, 16, 17, 18, 19, 20, 21, 22, 23, 24, 25, 26, 27, 28, 29, 30, 11, 31, 32, 33, 34, 35, 36, 37, 38, 39, 40, 41, 42, 43, 44, 45, 46, 47, 48, 49, 50, 51, 52, 53, 54, 55, 56, 57, 58, 59, 60, 61, 62, 63, 64, 65, 66, 67, 68, 69, 70, 71, 72, 73, 74, 75, 76, 77, 78, 79, 80, 81, 82, 83, 84, 85, 86, 87, 88, 89, 90, 91, 92, 93, 94, 95, 96, 97, 98, 99, 100, 101, 102, 103, 104, 105, 106, 107, 108, 109, 110, 111, 112, 113, 114, 115, 116, 117, 118, 119, 120, 121, 122, 123, 124, 125, 126, 127, 128, 129, 130, 131, 132, 133, 134, 135, 136, 137, 138, 139, 140, 141, 142, 143, 144, 145, 146, 147, 148, 149, 150, 151, 152, 153, 154, 155, 156, 157, 158, 159, 160, 161, 162, 163, 164, 165, 166, 167, 168, 169, 170, 171, 172, 173, 174, 175, 176, 177, 178, 179, 180, 181, 182, 183, 184, 185, 186, 187, 188, 189, 190, 191, 192, 193, 194, 195, 196, 197, 198, 199, 200, 201, 202, 203, 204, 205, 206, 207, 208, 209, 210, 211, 212, 213, 214, 215, 216, 217, 218, 219, 220, 221, 222, 223, 224, 225, 226, 227, 228, 229, 230, 231, 232, 233, 234, 235, 236, 237, 238, 239, 240, 241, 242, 243, 244, 245, 246, 247, 248, 249, 250, 251, 252, 253, 254, 255, 256, 257, 258, 259, 260, 261, 262, 263, 264, 265, 266, 267, 268, 269, 270, 271, 272, 273, 274, 275, 276, 277, 278, 279, 280, 281, 282, 283, 284, 285, 286, 287, 288, 289, 290, 291, 292, 293, 294, 295, 296, 297, 298, 299, 300, 301, 302, 303, 304, 305, 306, 307, 308, 309, 310, 311, 312, 313, 314, 315, 316, 317, 318, 319, 320, 321, 322, 323, 324, 325, 326, 327, 328, 329, 330, 331, 332, 333, 334, 335, 336, 337, 338, 339, 340, 341, 342, 343, 344, 352, 353, 354, 355, 356, 357, 358, 359, 360, 361, 362, 363, 364, 365, 366, 367, 368, 369, 370, 371, 372, 373, 374, 375, 376, 377, 378, 379, 380, 381, 382, 383, 384, 385, 386, 387, 388, 389, 390, 391, 392, 393, 394, 395, 396, 397, 398, 399, 400, 401, 402, 403, 404, 405, 406, 407, 408, 409, 410] (by decide +kernel) (by decide +kernel)
set_option maxRecDepth 20000 in
theorem gX8_run_X4_takeTurns : GoodIn wsX8_run (wsV RX8 108 RX4 yX4_takeTurns wsX4_takeTurns) := goodIn_app (goodIn_of _ (by decide +kernel)) ggX8_run_X4_takeTurns
theorem dX8_run_0 : decode cX8_run 0 = .ok (.iload_n 1, 1) := by decide +kernel
theorem dX8_run_1 : decode cX8_run 1 = .ok (.iconst 1, 1) := by decide +kernel
theorem dX8_run_2 : decode cX8_run 2 = .ok (.bipush 50, 2) := by decide +kernel
theorem dX8_run_4 : decode cX8_run 4 = .ok (.invokestatic 90, 3) := by decide +kernel
theorem dX8_run_7 : decode cX8_run 7 = .ok (.aload_n 0, 1) := by decide +kernel
theorem dX8_run_8 : decode cX8_run 8 = .ok (.getfield 28, 3) := by decide +kernel
theorem dX8_run_11 : decode cX8_run 11 = .ok (.iload_n 1, 1) := by decide +kernel
theorem dX8_run_12 : decode cX8_run 12 = .ok (.invokevirtual 108, 3) := by decide +kernel
theorem dX8_run_15 : decode cX8_run 15 = .ok (.ireturn, 1) := by decide +kernel
set_option maxRecDepth 20000 in
theorem ggX8_tick_X8_checkWithin : GoodIn wsX8_tick wsX8_checkWithin := goodIn_ca (goodIn_r _ [5, 6, 7] (by decide +kernel) (by decide +kernel)) (goodIn_sub (fun _ h => List.mem_cons_of_mem _ (List.mem_append_right _ h)) (by decide +kernel))
set_option maxRecDepth 20000 in
theorem gX8_tick_X8_checkWithin : GoodIn wsX8_tick (va_wsS RX8 90 yX8_checkWithin wsX8_checkWithin) := goodIn_app (goodIn_of _ (by decide +kernel)) ggX8_tick_X8_checkWithin
set_option maxRecDepth 20000 in
theorem ggX8_tick_X6_tickOnce : GoodIn wsX8_tick wsX6_tickOnce := goodIn_r _ [12, 13, 14, 15, 16, 17, 18, 19, 20, 21, 22, 23, 24, 25, 26, 27, 11, 28, 29, 30, 31, 32, 33, 34, 35, 36, 37, 38, 39, 40, 41, 42, 43, 44, 45, 46, 47, 48, 49, 50, 51, 52, 53, 61, 62, 63, 64, 65, 66, 67, 68, 69, 70, 71, 72, 73, 74, 75, 76, 77, 78, 79, 80, 81, 82, 83, 84, 85, 86, 87, 88, 89, 90, 91, 92, 93, 94, 95, 96, 97, 98, 99, 100, 101, 102, 103] (by decide +kernel) (by decide +kernel)
set_option maxRecDepth 20000 in
theorem gX8_tick_X6_tickOnce : GoodIn wsX8_tick (wsV RX8 111 RX6 yX6_tickOnce wsX6_tickOnce) := goodIn_app (goodIn_of _ (by decide +kernel)) ggX8_tick_X6_tickOnce
theorem dX8_tick_0 : decode cX8_tick 0 = .ok (.iload_n 1, 1) := by decide +kernel
theorem dX8_tick_1 : decode cX8_tick 1 = .ok (.iconst 1, 1) := by decide +kernel
theorem dX8_tick_2 : decode cX8_tick 2 = .ok (.bipush 20, 2) := by decide +kernel
theorem dX8_tick_4 : decode cX8_tick 4 = .ok (.invokestatic 90, 3) := by decide +kernel
theorem dX8_tick_7 : decode cX8_tick 7 = .ok (.iconst 0, 1) := by decide +kernel
theorem dX8_tick_8 : decode cX8_tick 8 = .ok (.istore_n 2, 1) := by decide +kernel
theorem dX8_tick_9 : decode cX8_tick 9 = .ok (.iconst 0, 1) := by decide +kernel
theorem dX8_tick_10 : decode cX8_tick 10 = .ok (.istore_n 3, 1) := by decide +kernel
theorem dX8_tick_11 : decode cX8_tick 11 = .ok (.iload_n 3, 1) := by decide +kernel
theorem dX8_tick_12 : decode cX8_tick 12 = .ok (.iload_n 1, 1) := by decide +kernel
theorem dX8_tick_13 : decode cX8_tick 13 = .ok (.if_icmp .ge 19, 3) := by decide +kernel
theorem dX8_tick_16 : decode cX8_tick 16 = .ok (.iload_n 2, 1) := by decide +kernel
theorem dX8_tick_17 : decode cX8_tick 17 = .ok (.aload_n 0, 1) := by decide +kernel
theorem dX8_tick_18 : decode cX8_tick 18 = .ok (.getfield 19, 3) := by decide +kernel
theorem dX8_tick_21 : decode cX8_tick 21 = .ok (.invokevirtual 111, 3) := by decide +kernel
theorem dX8_tick_24 : decode cX8_tick 24 = .ok (.iadd, 1) := by decide +kernel
theorem dX8_tick_25 : decode cX8_tick 25 = .ok (.istore_n 2, 1) := by decide +kernel
theorem dX8_tick_26 : decode cX8_tick 26 = .ok (.iinc 3 1, 3) := by decide +kernel
theorem dX8_tick_29 : decode cX8_tick 29 = .ok (.goto (-18), 3) := by decide +kernel
theorem dX8_tick_32 : decode cX8_tick 32 = .ok (.iload_n 2, 1) := by decide +kernel
theorem dX8_tick_33 : decode cX8_tick 33 = .ok (.ireturn, 1) := by decide +kernel
set_option maxRecDepth 20000 in
theorem ggX8_cancel_X8_checkNumber : GoodIn wsX8_cancel wsX8_checkNumber := goodIn_ca (goodIn_r _ [6, 7, 8] (by decide +kernel) (by decide +kernel)) (goodIn_sub (fun _ h => List.mem_cons_of_mem _ (List.mem_append_right _ h)) (by decide +kernel))
set_option maxRecDepth 20000 in
theorem gX8_cancel_X8_checkNumber : GoodIn wsX8_cancel (va_wsS RX8 63 yX8_checkNumber wsX8_checkNumber) := goodIn_app (goodIn_of _ (by decide +kernel)) ggX8_cancel_X8_checkNumber
set_option maxRecDepth 20000 in
theorem ggX8_cancel_X6_scopeAt : GoodIn wsX8_cancel wsX6_scopeAt := goodIn_r _ [13, 14, 52, 53, 54, 55, 56, 57, 58, 59, 60, 61, 62, 63] (by decide +kernel) (by decide +kernel)
set_option maxRecDepth 20000 in
theorem gX8_cancel_X6_scopeAt : GoodIn wsX8_cancel (wsV RX8 117 RX6 yX6_scopeAt wsX6_scopeAt) := goodIn_app (goodIn_of _ (by decide +kernel)) ggX8_cancel_X6_scopeAt
set_option maxRecDepth 20000 in
theorem ggX8_cancel_X6_cancelScope : GoodIn wsX8_cancel wsX6_cancelScope := goodIn_r _ [18, 19, 20, 21, 22, 23, 24, 25, 26, 27, 28, 29, 30, 31, 12, 32, 33, 34, 14, 35, 36, 37, 38, 39, 40, 41, 42, 43, 44, 64, 65, 66, 67, 68, 69, 70, 71, 72, 73, 74, 75, 76, 77, 52, 53, 54, 55, 56, 57, 58, 59, 60, 61, 62, 63, 78, 79, 80, 81, 82, 83, 84, 85, 86, 87, 88, 89, 90, 91, 92, 93, 94] (by decide +kernel) (by decide +kernel)
set_option maxRecDepth 20000 in
theorem gX8_cancel_X6_cancelScope : GoodIn wsX8_cancel (wsV RX8 121 RX6 yX6_cancelScope wsX6_cancelScope) := goodIn_app (goodIn_of _ (by decide +kernel)) ggX8_cancel_X6_cancelScope
theorem dX8_cancel_0 : decode cX8_cancel 0 = .ok (.iload_n 1, 1) := by decide +kernel
theorem dX8_cancel_1 : decode cX8_cancel 1 = .ok (.aload_n 0, 1) := by decide +kernel
theorem dX8_cancel_2 : decode cX8_cancel 2 = .ok (.getfield 19, 3) := by decide +kernel
theorem dX8_cancel_5 : decode cX8_cancel 5 = .ok (.getfield 114, 3) := by decide +kernel
theorem dX8_cancel_8 : decode cX8_cancel 8 = .ok (.invokestatic 63, 3) := by decide +kernel
theorem dX8_cancel_11 : decode cX8_cancel 11 = .ok (.aload_n 0, 1) := by decide +kernel
theorem dX8_cancel_12 : decode cX8_cancel 12 = .ok (.getfield 19, 3) := by decide +kernel
theorem dX8_cancel_15 : decode cX8_cancel 15 = .ok (.aload_n 0, 1) := by decide +kernel
theorem dX8_cancel_16 : decode cX8_cancel 16 = .ok (.getfield 19, 3) := by decide +kernel
theorem dX8_cancel_19 : decode cX8_cancel 19 = .ok (.iload_n 1, 1) := by decide +kernel
theorem dX8_cancel_20 : decode cX8_cancel 20 = .ok (.invokevirtual 117, 3) := by decide +kernel
theorem dX8_cancel_23 : decode cX8_cancel 23 = .ok (.invokevirtual 121, 3) := by decide +kernel
theorem dX8_cancel_26 : decode cX8_cancel 26 = .ok (.ireturn, 1) := by decide +kernel
set_option maxRecDepth 20000 in
theorem ggX8_ofTask_X8_checkNumber : GoodIn wsX8_ofTask wsX8_checkNumber := goodIn_ca (goodIn_r _ [7, 8, 9] (by decide +kernel) (by decide +kernel)) (goodIn_sub (fun _ h => List.mem_cons_of_mem _ (List.mem_append_left _ (List.mem_append_right _ h))) (by decide +kernel))
set_option maxRecDepth 20000 in
theorem gX8_ofTask_X8_checkNumber : GoodIn wsX8_ofTask (va_wsS RX8 63 yX8_checkNumber wsX8_checkNumber) := goodIn_app (goodIn_of _ (by decide +kernel)) ggX8_ofTask_X8_checkNumber
set_option maxRecDepth 20000 in
theorem ggX8_ofTask_X8_checkWithin : GoodIn wsX8_ofTask wsX8_checkWithin := goodIn_ca (goodIn_r _ [12, 13, 14] (by decide +kernel) (by decide +kernel)) (goodIn_sub (fun _ h => List.mem_cons_of_mem _ (List.mem_append_right _ h)) (by decide +kernel))
set_option maxRecDepth 20000 in
theorem gX8_ofTask_X8_checkWithin : GoodIn wsX8_ofTask (va_wsS RX8 90 yX8_checkWithin wsX8_checkWithin) := goodIn_app (goodIn_of _ (by decide +kernel)) ggX8_ofTask_X8_checkWithin
set_option maxRecDepth 20000 in
theorem ggX8_ofTask_X0_aboutTask : GoodIn wsX8_ofTask wsX0_aboutTask := goodIn_r _ [19, 20, 21, 22, 23, 24, 25, 26, 27, 28, 29, 30, 31, 32, 33, 34, 35, 36, 37, 38, 39, 40, 41, 42, 18, 43, 44, 45, 46, 47, 48, 49, 50, 51, 52, 53, 54, 55, 56, 57, 77, 78, 79, 80, 81, 82, 83, 84, 85, 86, 87, 88, 89, 90, 91, 92, 93, 94, 95, 65, 66, 67, 68, 69, 70, 71, 72, 73, 74, 75, 76, 96, 97, 98, 99, 100, 101, 102, 103, 104, 105, 106, 107, 108, 109] (by decide +kernel) (by decide +kernel)
set_option maxRecDepth 20000 in
theorem gX8_ofTask_X0_aboutTask : GoodIn wsX8_ofTask (wsV RX8 125 RX0 yX0_aboutTask wsX0_aboutTask) := goodIn_app (goodIn_of _ (by decide +kernel)) ggX8_ofTask_X0_aboutTask
theorem dX8_ofTask_0 : decode cX8_ofTask 0 = .ok (.iload_n 1, 1) := by decide +kernel
theorem dX8_ofTask_1 : decode cX8_ofTask 1 = .ok (.aload_n 0, 1) := by decide +kernel
theorem dX8_ofTask_2 : decode cX8_ofTask 2 = .ok (.getfield 19, 3) := by decide +kernel
theorem dX8_ofTask_5 : decode cX8_ofTask 5 = .ok (.getfield 94, 3) := by decide +kernel
theorem dX8_ofTask_8 : decode cX8_ofTask 8 = .ok (.invokestatic 63, 3) := by decide +kernel
theorem dX8_ofTask_11 : decode cX8_ofTask 11 = .ok (.iload_n 2, 1) := by decide +kernel
theorem dX8_ofTask_12 : decode cX8_ofTask 12 = .ok (.iconst 0, 1) := by decide +kernel
theorem dX8_ofTask_13 : decode cX8_ofTask 13 = .ok (.bipush 8, 2) := by decide +kernel
theorem dX8_ofTask_15 : decode cX8_ofTask 15 = .ok (.invokestatic 90, 3) := by decide +kernel
theorem dX8_ofTask_18 : decode cX8_ofTask 18 = .ok (.aload_n 0, 1) := by decide +kernel
theorem dX8_ofTask_19 : decode cX8_ofTask 19 = .ok (.getfield 35, 3) := by decide +kernel
theorem dX8_ofTask_22 : decode cX8_ofTask 22 = .ok (.iload_n 1, 1) := by decide +kernel
theorem dX8_ofTask_23 : decode cX8_ofTask 23 = .ok (.iload_n 2, 1) := by decide +kernel
theorem dX8_ofTask_24 : decode cX8_ofTask 24 = .ok (.invokevirtual 125, 3) := by decide +kernel
theorem dX8_ofTask_27 : decode cX8_ofTask 27 = .ok (.ireturn, 1) := by decide +kernel
set_option maxRecDepth 20000 in
theorem ggX8_ofScope_X8_checkNumber : GoodIn wsX8_ofScope wsX8_checkNumber := goodIn_ca (goodIn_r _ [7, 8, 9] (by decide +kernel) (by decide +kernel)) (goodIn_sub (fun _ h => List.mem_cons_of_mem _ (List.mem_append_left _ (List.mem_append_right _ h))) (by decide +kernel))
set_option maxRecDepth 20000 in
theorem gX8_ofScope_X8_checkNumber : GoodIn wsX8_ofScope (va_wsS RX8 63 yX8_checkNumber wsX8_checkNumber) := goodIn_app (goodIn_of _ (by decide +kernel)) ggX8_ofScope_X8_checkNumber
set_option maxRecDepth 20000 in
theorem ggX8_ofScope_X8_checkWithin : GoodIn wsX8_ofScope wsX8_checkWithin := goodIn_ca (goodIn_r _ [12, 13, 14] (by decide +kernel) (by decide +kernel)) (goodIn_sub (fun _ h => List.mem_cons_of_mem _ (List.mem_append_right _ h)) (by decide +kernel))
set_option maxRecDepth 20000 in
theorem gX8_ofScope_X8_checkWithin : GoodIn wsX8_ofScope (va_wsS RX8 90 yX8_checkWithin wsX8_checkWithin) := goodIn_app (goodIn_of _ (by decide +kernel)) ggX8_ofScope_X8_checkWithin
set_option maxRecDepth 20000 in
theorem ggX8_ofScope_X0_aboutScope : GoodIn wsX8_ofScope wsX0_aboutScope := goodIn_r _ [19, 20, 21, 22, 23, 24, 25, 26, 27, 28, 29, 30, 31, 32, 33, 34, 35, 55, 56, 57, 58, 59, 60, 61, 62, 63, 64, 65, 66, 67, 68, 69, 70, 43, 44, 45, 46, 47, 48, 49, 50, 51, 52, 53, 54] (by decide +kernel) (by decide +kernel)
set_option maxRecDepth 20000 in
theorem gX8_ofScope_X0_aboutScope : GoodIn wsX8_ofScope (wsV RX8 131 RX0 yX0_aboutScope wsX0_aboutScope) := goodIn_app (goodIn_of _ (by decide +kernel)) ggX8_ofScope_X0_aboutScope
theorem dX8_ofScope_0 : decode cX8_ofScope 0 = .ok (.iload_n 1, 1) := by decide +kernel
theorem dX8_ofScope_1 : decode cX8_ofScope 1 = .ok (.aload_n 0, 1) := by decide +kernel
theorem dX8_ofScope_2 : decode cX8_ofScope 2 = .ok (.getfield 19, 3) := by decide +kernel
theorem dX8_ofScope_5 : decode cX8_ofScope 5 = .ok (.getfield 114, 3) := by decide +kernel
theorem dX8_ofScope_8 : decode cX8_ofScope 8 = .ok (.invokestatic 63, 3) := by decide +kernel
theorem dX8_ofScope_11 : decode cX8_ofScope 11 = .ok (.iload_n 2, 1) := by decide +kernel
theorem dX8_ofScope_12 : decode cX8_ofScope 12 = .ok (.iconst 0, 1) := by decide +kernel
theorem dX8_ofScope_13 : decode cX8_ofScope 13 = .ok (.bipush 8, 2) := by decide +kernel
theorem dX8_ofScope_15 : decode cX8_ofScope 15 = .ok (.invokestatic 90, 3) := by decide +kernel
theorem dX8_ofScope_18 : decode cX8_ofScope 18 = .ok (.aload_n 0, 1) := by decide +kernel
theorem dX8_ofScope_19 : decode cX8_ofScope 19 = .ok (.getfield 35, 3) := by decide +kernel
theorem dX8_ofScope_22 : decode cX8_ofScope 22 = .ok (.iload_n 1, 1) := by decide +kernel
theorem dX8_ofScope_23 : decode cX8_ofScope 23 = .ok (.iload_n 2, 1) := by decide +kernel
theorem dX8_ofScope_24 : decode cX8_ofScope 24 = .ok (.invokevirtual 131, 3) := by decide +kernel
theorem dX8_ofScope_27 : decode cX8_ofScope 27 = .ok (.ireturn, 1) := by decide +kernel
set_option maxRecDepth 20000 in
theorem ggX8_ofLock_X8_checkNumber : GoodIn wsX8_ofLock wsX8_checkNumber := goodIn_ca (goodIn_r _ [5, 6, 7] (by decide +kernel) (by decide +kernel)) (goodIn_sub (fun _ h => List.mem_cons_of_mem _ (List.mem_append_left _ (List.mem_append_right _ h))) (by decide +kernel))
set_option maxRecDepth 20000 in
theorem gX8_ofLock_X8_checkNumber : GoodIn wsX8_ofLock (va_wsS RX8 63 yX8_checkNumber wsX8_checkNumber) := goodIn_app (goodIn_of _ (by decide +kernel)) ggX8_ofLock_X8_checkNumber
set_option maxRecDepth 20000 in
theorem ggX8_ofLock_X8_checkWithin : GoodIn wsX8_ofLock wsX8_checkWithin := goodIn_ca (goodIn_r _ [10, 11, 12] (by decide +kernel) (by decide +kernel)) (goodIn_sub (fun _ h => List.mem_cons_of_mem _ (List.mem_append_right _ h)) (by decide +kernel))
set_option maxRecDepth 20000 in
theorem gX8_ofLock_X8_checkWithin : GoodIn wsX8_ofLock (va_wsS RX8 90 yX8_checkWithin wsX8_checkWithin) := goodIn_app (goodIn_of _ (by decide +kernel)) ggX8_ofLock_X8_checkWithin
set_option maxRecDepth 20000 in
theorem ggX8_ofLock_X0_aboutLock : GoodIn wsX8_ofLock wsX0_aboutLock := goodIn_r _ [17, 18, 19, 20, 21, 22, 23, 24, 25, 26, 27, 28, 29, 30, 31, 32, 33, 34, 35, 36, 37, 38, 39, 40, 16, 41, 42, 43, 44, 45, 46, 47, 48, 49, 50, 51, 52, 53, 61, 62, 63, 64, 65, 66, 67, 68, 69, 70, 71, 72, 73, 74, 75, 76, 77, 78, 79, 80, 81, 82, 83, 84, 85, 86, 87, 88, 89, 90, 91, 92, 93, 94] (by decide +kernel) (by decide +kernel)
set_option maxRecDepth 20000 in
theorem gX8_ofLock_X0_aboutLock : GoodIn wsX8_ofLock (wsV RX8 134 RX0 yX0_aboutLock wsX0_aboutLock) := goodIn_app (goodIn_of _ (by decide +kernel)) ggX8_ofLock_X0_aboutLock
theorem dX8_ofLock_0 : decode cX8_ofLock 0 = .ok (.iload_n 1, 1) := by decide +kernel
theorem dX8_ofLock_1 : decode cX8_ofLock 1 = .ok (.iconst 2, 1) := by decide +kernel
theorem dX8_ofLock_2 : decode cX8_ofLock 2 = .ok (.invokestatic 63, 3) := by decide +kernel
theorem dX8_ofLock_5 : decode cX8_ofLock 5 = .ok (.iload_n 2, 1) := by decide +kernel
theorem dX8_ofLock_6 : decode cX8_ofLock 6 = .ok (.iconst 0, 1) := by decide +kernel
theorem dX8_ofLock_7 : decode cX8_ofLock 7 = .ok (.iconst 3, 1) := by decide +kernel
theorem dX8_ofLock_8 : decode cX8_ofLock 8 = .ok (.invokestatic 90, 3) := by decide +kernel
theorem dX8_ofLock_11 : decode cX8_ofLock 11 = .ok (.aload_n 0, 1) := by decide +kernel
theorem dX8_ofLock_12 : decode cX8_ofLock 12 = .ok (.getfield 35, 3) := by decide +kernel
theorem dX8_ofLock_15 : decode cX8_ofLock 15 = .ok (.iload_n 1, 1) := by decide +kernel
theorem dX8_ofLock_16 : decode cX8_ofLock 16 = .ok (.iload_n 2, 1) := by decide +kernel
theorem dX8_ofLock_17 : decode cX8_ofLock 17 = .ok (.invokevirtual 134, 3) := by decide +kernel
theorem dX8_ofLock_20 : decode cX8_ofLock 20 = .ok (.ireturn, 1) := by decide +kernel
set_option maxRecDepth 20000 in
theorem ggX8_ofChannel_X8_checkNumber : GoodIn wsX8_ofChannel wsX8_checkNumber := goodIn_ca (goodIn_r _ [5, 6, 7] (by decide +kernel) (by decide +kernel)) (goodIn_sub (fun _ h => List.mem_cons_of_mem _ (List.mem_append_left _ (List.mem_append_right _ h))) (by decide +kernel))
set_option maxRecDepth 20000 in
theorem gX8_ofChannel_X8_checkNumber : GoodIn wsX8_ofChannel (va_wsS RX8 63 yX8_checkNumber wsX8_checkNumber) := goodIn_app (goodIn_of _ (by decide +kernel)) ggX8_ofChannel_X8_checkNumber
set_option maxRecDepth 20000 in
theorem ggX8_ofChannel_X8_checkWithin : GoodIn wsX8_ofChannel wsX8_checkWithin := goodIn_ca (goodIn_r _ [10, 11, 12] (by decide +kernel) (by decide +kernel)) (goodIn_sub (fun _ h => List.mem_cons_of_mem _ (List.mem_append_right _ h)) (by decide +kernel))
set_option maxRecDepth 20000 in
theorem gX8_ofChannel_X8_checkWithin : GoodIn wsX8_ofChannel (va_wsS RX8 90 yX8_checkWithin wsX8_checkWithin) := goodIn_app (goodIn_of _ (by decide +kernel)) ggX8_ofChannel_X8_checkWithin
set_option maxRecDepth 20000 in
theorem ggX8_ofChannel_X0_aboutChannel : GoodIn wsX8_ofChannel wsX0_aboutChannel := goodIn_r _ [17, 18, 19, 20, 21, 22, 23, 24, 25, 26, 27, 28, 29, 30, 31, 32, 33, 34, 35, 36, 37, 38, 16, 39, 40, 41, 42, 43, 44, 45, 46, 47, 48, 49, 50, 51, 52, 53, 61, 62, 63, 64, 65, 66, 67, 68, 69, 70, 71, 72, 73, 74, 75, 76, 77, 78, 79, 80, 81, 82, 83, 84, 85, 86, 87, 88, 89, 90, 91, 92, 93, 94, 95, 96] (by decide +kernel) (by decide +kernel)
set_option maxRecDepth 20000 in
theorem gX8_ofChannel_X0_aboutChannel : GoodIn wsX8_ofChannel (wsV RX8 137 RX0 yX0_aboutChannel wsX0_aboutChannel) := goodIn_app (goodIn_of _ (by decide +kernel)) ggX8_ofChannel_X0_aboutChannel
theorem dX8_ofChannel_0 : decode cX8_ofChannel 0 = .ok (.iload_n 1, 1) := by decide +kernel
theorem dX8_ofChannel_1 : decode cX8_ofChannel 1 = .ok (.iconst 2, 1) := by decide +kernel
theorem dX8_ofChannel_2 : decode cX8_ofChannel 2 = .ok (.invokestatic 63, 3) := by decide +kernel
theorem dX8_ofChannel_5 : decode cX8_ofChannel 5 = .ok (.iload_n 2, 1) := by decide +kernel
theorem dX8_ofChannel_6 : decode cX8_ofChannel 6 = .ok (.iconst 0, 1) := by decide +kernel
theorem dX8_ofChannel_7 : decode cX8_ofChannel 7 = .ok (.bipush 6, 2) := by decide +kernel
theorem dX8_ofChannel_9 : decode cX8_ofChannel 9 = .ok (.invokestatic 90, 3) := by decide +kernel
theorem dX8_ofChannel_12 : decode cX8_ofChannel 12 = .ok (.aload_n 0, 1) := by decide +kernel
theorem dX8_ofChannel_13 : decode cX8_ofChannel 13 = .ok (.getfield 35, 3) := by decide +kernel
theorem dX8_ofChannel_16 : decode cX8_ofChannel 16 = .ok (.iload_n 1, 1) := by decide +kernel
theorem dX8_ofChannel_17 : decode cX8_ofChannel 17 = .ok (.iload_n 2, 1) := by decide +kernel
theorem dX8_ofChannel_18 : decode cX8_ofChannel 18 = .ok (.invokevirtual 137, 3) := by decide +kernel
theorem dX8_ofChannel_21 : decode cX8_ofChannel 21 = .ok (.ireturn, 1) := by decide +kernel
set_option maxRecDepth 20000 in
theorem ggX8_many_X8_checkWithin : GoodIn wsX8_many wsX8_checkWithin := goodIn_ca (goodIn_r _ [5, 6, 7] (by decide +kernel) (by decide +kernel)) (goodIn_sub (fun _ h => List.mem_cons_of_mem _ (List.mem_append_right _ h)) (by decide +kernel))
set_option maxRecDepth 20000 in
theorem gX8_many_X8_checkWithin : GoodIn wsX8_many (va_wsS RX8 90 yX8_checkWithin wsX8_checkWithin) := goodIn_app (goodIn_of _ (by decide +kernel)) ggX8_many_X8_checkWithin
set_option maxRecDepth 20000 in
theorem ggX8_many_X0_howMany : GoodIn wsX8_many wsX0_howMany := goodIn_r _ [12, 13, 14, 15, 16, 17, 18, 19, 20, 21, 22, 23, 11, 24, 25, 26, 27, 28, 29, 30, 31, 32, 33, 34, 35, 36, 37, 38, 39, 40, 41, 42, 43, 51, 52, 53, 54, 55, 56, 57, 58, 59, 60, 61, 62, 63, 64, 65, 66, 67, 68, 69, 70, 71, 72, 73, 74, 75, 76, 77, 78, 79, 80, 81, 82, 83, 84, 85, 86, 87, 88, 89, 90, 91, 92, 93, 94, 95, 96, 97, 98, 99, 100] (by decide +kernel) (by decide +kernel)
set_option maxRecDepth 20000 in
theorem gX8_many_X0_howMany : GoodIn wsX8_many (wsV RX8 140 RX0 yX0_howMany wsX0_howMany) := goodIn_app (goodIn_of _ (by decide +kernel)) ggX8_many_X0_howMany
theorem dX8_many_0 : decode cX8_many 0 = .ok (.iload_n 1, 1) := by decide +kernel
theorem dX8_many_1 : decode cX8_many 1 = .ok (.iconst 0, 1) := by decide +kernel
theorem dX8_many_2 : decode cX8_many 2 = .ok (.bipush 12, 2) := by decide +kernel
theorem dX8_many_4 : decode cX8_many 4 = .ok (.invokestatic 90, 3) := by decide +kernel
theorem dX8_many_7 : decode cX8_many 7 = .ok (.aload_n 0, 1) := by decide +kernel
theorem dX8_many_8 : decode cX8_many 8 = .ok (.getfield 35, 3) := by decide +kernel
theorem dX8_many_11 : decode cX8_many 11 = .ok (.iload_n 1, 1) := by decide +kernel
theorem dX8_many_12 : decode cX8_many 12 = .ok (.invokevirtual 140, 3) := by decide +kernel
theorem dX8_many_15 : decode cX8_many 15 = .ok (.ireturn, 1) := by decide +kernel
set_option maxRecDepth 20000 in
theorem ggX8_stuck_X0_countStuck : GoodIn wsX8_stuck wsX0_countStuck := goodIn_r _ [6, 7, 8, 9, 10, 11, 12, 13, 14, 15, 16, 17, 18, 19, 20, 21, 22, 23, 24, 25, 26, 27, 28, 5, 29, 37, 38, 39, 40, 41, 42, 43, 44, 45, 46, 47, 48, 49, 50, 51, 52, 53, 54, 55, 56, 57, 58, 59, 60, 61, 62, 63, 64, 65, 66, 67, 68, 69, 70, 71, 72, 73, 74, 75, 76, 77, 78, 79, 80, 81] (by decide +kernel) (by decide +kernel)
set_option maxRecDepth 20000 in
theorem gX8_stuck_X0_countStuck : GoodIn wsX8_stuck (wsV RX8 146 RX0 yX0_countStuck wsX0_countStuck) := goodIn_app (goodIn_of _ (by decide +kernel)) ggX8_stuck_X0_countStuck
theorem dX8_stuck_0 : decode cX8_stuck 0 = .ok (.aload_n 0, 1) := by decide +kernel

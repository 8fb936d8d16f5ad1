theorem dX8_init_0 : decode cX8_init 0 = .ok (.aload_n 0, 1) := by decide +kernel
theorem dX8_init_1 : decode cX8_init 1 = .ok (.invokespecial 3, 3) := by decide +kernel
theorem dX8_init_4 : decode cX8_init 4 = .ok (.aload_n 0, 1) := by decide +kernel
theorem dX8_init_5 : decode cX8_init 5 = .ok (.new 9, 3) := by decide +kernel
theorem dX8_init_8 : decode cX8_init 8 = .ok (.dup, 1) := by decide +kernel
theorem dX8_init_9 : decode cX8_init 9 = .ok (.invokespecial 11, 3) := by decide +kernel
theorem dX8_init_12 : decode cX8_init 12 = .ok (.putfield 12, 3) := by decide +kernel
theorem dX8_init_15 : decode cX8_init 15 = .ok (.aload_n 0, 1) := by decide +kernel
theorem dX8_init_16 : decode cX8_init 16 = .ok (.new 16, 3) := by decide +kernel
theorem dX8_init_19 : decode cX8_init 19 = .ok (.dup, 1) := by decide +kernel
theorem dX8_init_20 : decode cX8_init 20 = .ok (.invokespecial 18, 3) := by decide +kernel
theorem dX8_init_23 : decode cX8_init 23 = .ok (.putfield 19, 3) := by decide +kernel
theorem dX8_init_26 : decode cX8_init 26 = .ok (.aload_n 0, 1) := by decide +kernel
theorem dX8_init_27 : decode cX8_init 27 = .ok (.new 23, 3) := by decide +kernel
theorem dX8_init_30 : decode cX8_init 30 = .ok (.dup, 1) := by decide +kernel
theorem dX8_init_31 : decode cX8_init 31 = .ok (.aload_n 0, 1) := by decide +kernel
theorem dX8_init_32 : decode cX8_init 32 = .ok (.getfield 12, 3) := by decide +kernel
theorem dX8_init_35 : decode cX8_init 35 = .ok (.aload_n 0, 1) := by decide +kernel
theorem dX8_init_36 : decode cX8_init 36 = .ok (.getfield 19, 3) := by decide +kernel
theorem dX8_init_39 : decode cX8_init 39 = .ok (.invokespecial 25, 3) := by decide +kernel
theorem dX8_init_42 : decode cX8_init 42 = .ok (.putfield 28, 3) := by decide +kernel
theorem dX8_init_45 : decode cX8_init 45 = .ok (.aload_n 0, 1) := by decide +kernel
theorem dX8_init_46 : decode cX8_init 46 = .ok (.new 32, 3) := by decide +kernel
theorem dX8_init_49 : decode cX8_init 49 = .ok (.dup, 1) := by decide +kernel
theorem dX8_init_50 : decode cX8_init 50 = .ok (.aload_n 0, 1) := by decide +kernel
theorem dX8_init_51 : decode cX8_init 51 = .ok (.getfield 12, 3) := by decide +kernel
theorem dX8_init_54 : decode cX8_init 54 = .ok (.aload_n 0, 1) := by decide +kernel
theorem dX8_init_55 : decode cX8_init 55 = .ok (.getfield 19, 3) := by decide +kernel
theorem dX8_init_58 : decode cX8_init 58 = .ok (.invokespecial 34, 3) := by decide +kernel
theorem dX8_init_61 : decode cX8_init 61 = .ok (.putfield 35, 3) := by decide +kernel
theorem dX8_init_64 : decode cX8_init 64 = .ok (.aload_n 0, 1) := by decide +kernel
theorem dX8_init_65 : decode cX8_init 65 = .ok (.new 16, 3) := by decide +kernel
theorem dX8_init_68 : decode cX8_init 68 = .ok (.dup, 1) := by decide +kernel
theorem dX8_init_69 : decode cX8_init 69 = .ok (.invokespecial 18, 3) := by decide +kernel
theorem dX8_init_72 : decode cX8_init 72 = .ok (.putfield 39, 3) := by decide +kernel
theorem dX8_init_75 : decode cX8_init 75 = .ok (.aload_n 0, 1) := by decide +kernel
theorem dX8_init_76 : decode cX8_init 76 = .ok (.new 23, 3) := by decide +kernel
theorem dX8_init_79 : decode cX8_init 79 = .ok (.dup, 1) := by decide +kernel
theorem dX8_init_80 : decode cX8_init 80 = .ok (.aload_n 0, 1) := by decide +kernel
theorem dX8_init_81 : decode cX8_init 81 = .ok (.getfield 12, 3) := by decide +kernel
theorem dX8_init_84 : decode cX8_init 84 = .ok (.aload_n 0, 1) := by decide +kernel
theorem dX8_init_85 : decode cX8_init 85 = .ok (.getfield 39, 3) := by decide +kernel
theorem dX8_init_88 : decode cX8_init 88 = .ok (.invokespecial 25, 3) := by decide +kernel
theorem dX8_init_91 : decode cX8_init 91 = .ok (.putfield 42, 3) := by decide +kernel
theorem dX8_init_94 : decode cX8_init 94 = .ok (.aload_n 0, 1) := by decide +kernel
theorem dX8_init_95 : decode cX8_init 95 = .ok (.new 32, 3) := by decide +kernel
theorem dX8_init_98 : decode cX8_init 98 = .ok (.dup, 1) := by decide +kernel
theorem dX8_init_99 : decode cX8_init 99 = .ok (.aload_n 0, 1) := by decide +kernel
theorem dX8_init_100 : decode cX8_init 100 = .ok (.getfield 12, 3) := by decide +kernel
theorem dX8_init_103 : decode cX8_init 103 = .ok (.aload_n 0, 1) := by decide +kernel
theorem dX8_init_104 : decode cX8_init 104 = .ok (.getfield 39, 3) := by decide +kernel
theorem dX8_init_107 : decode cX8_init 107 = .ok (.invokespecial 34, 3) := by decide +kernel
theorem dX8_init_110 : decode cX8_init 110 = .ok (.putfield 45, 3) := by decide +kernel
theorem dX8_init_113 : decode cX8_init 113 = .ok (.return_, 1) := by decide +kernel
theorem dX8_body_0 : decode cX8_body 0 = .ok (.aload_n 0, 1) := by decide +kernel
theorem dX8_body_1 : decode cX8_body 1 = .ok (.getfield 12, 3) := by decide +kernel
theorem dX8_body_4 : decode cX8_body 4 = .ok (.getfield 48, 3) := by decide +kernel
theorem dX8_body_7 : decode cX8_body 7 = .ok (.bipush 8, 2) := by decide +kernel
theorem dX8_body_9 : decode cX8_body 9 = .ok (.if_icmp .lt 13, 3) := by decide +kernel
theorem dX8_body_12 : decode cX8_body 12 = .ok (.new 52, 3) := by decide +kernel
theorem dX8_body_15 : decode cX8_body 15 = .ok (.dup, 1) := by decide +kernel
theorem dX8_body_16 : decode cX8_body 16 = .ok (.ldc 54, 2) := by decide +kernel
theorem dX8_body_18 : decode cX8_body 18 = .ok (.invokespecial 56, 3) := by decide +kernel
theorem dX8_body_21 : decode cX8_body 21 = .ok (.athrow, 1) := by decide +kernel
theorem dX8_body_22 : decode cX8_body 22 = .ok (.aload_n 0, 1) := by decide +kernel
theorem dX8_body_23 : decode cX8_body 23 = .ok (.getfield 12, 3) := by decide +kernel
theorem dX8_body_26 : decode cX8_body 26 = .ok (.invokevirtual 59, 3) := by decide +kernel
theorem dX8_body_29 : decode cX8_body 29 = .ok (.ireturn, 1) := by decide +kernel
theorem dX8_line_0 : decode cX8_line 0 = .ok (.iload_n 1, 1) := by decide +kernel
theorem dX8_line_1 : decode cX8_line 1 = .ok (.aload_n 0, 1) := by decide +kernel
theorem dX8_line_2 : decode cX8_line 2 = .ok (.getfield 12, 3) := by decide +kernel
theorem dX8_line_5 : decode cX8_line 5 = .ok (.getfield 48, 3) := by decide +kernel
theorem dX8_line_8 : decode cX8_line 8 = .ok (.invokestatic 63, 3) := by decide +kernel
theorem dX8_line_11 : decode cX8_line 11 = .ok (.aload_n 0, 1) := by decide +kernel
theorem dX8_line_12 : decode cX8_line 12 = .ok (.getfield 12, 3) := by decide +kernel
theorem dX8_line_15 : decode cX8_line 15 = .ok (.iload_n 1, 1) := by decide +kernel
theorem dX8_line_16 : decode cX8_line 16 = .ok (.invokevirtual 67, 3) := by decide +kernel
theorem dX8_line_19 : decode cX8_line 19 = .ok (.istore 5, 2) := by decide +kernel
theorem dX8_line_21 : decode cX8_line 21 = .ok (.iload_n 2, 1) := by decide +kernel
theorem dX8_line_22 : decode cX8_line 22 = .ok (.iload_n 3, 1) := by decide +kernel
theorem dX8_line_23 : decode cX8_line 23 = .ok (.iload 4, 2) := by decide +kernel
theorem dX8_line_25 : decode cX8_line 25 = .ok (.iload 5, 2) := by decide +kernel
theorem dX8_line_27 : decode cX8_line 27 = .ok (.invokestatic 71, 3) := by decide +kernel
theorem dX8_line_30 : decode cX8_line 30 = .ok (.ifCond .ne 13, 3) := by decide +kernel
theorem dX8_line_33 : decode cX8_line 33 = .ok (.new 75, 3) := by decide +kernel
theorem dX8_line_36 : decode cX8_line 36 = .ok (.dup, 1) := by decide +kernel
theorem dX8_line_37 : decode cX8_line 37 = .ok (.ldc 77, 2) := by decide +kernel
theorem dX8_line_39 : decode cX8_line 39 = .ok (.invokespecial 79, 3) := by decide +kernel
theorem dX8_line_42 : decode cX8_line 42 = .ok (.athrow, 1) := by decide +kernel
theorem dX8_line_43 : decode cX8_line 43 = .ok (.iload 5, 2) := by decide +kernel
theorem dX8_line_45 : decode cX8_line 45 = .ok (.bipush 12, 2) := by decide +kernel
theorem dX8_line_47 : decode cX8_line 47 = .ok (.if_icmp .ge 14, 3) := by decide +kernel
theorem dX8_line_50 : decode cX8_line 50 = .ok (.aload_n 0, 1) := by decide +kernel
theorem dX8_line_51 : decode cX8_line 51 = .ok (.getfield 19, 3) := by decide +kernel
theorem dX8_line_54 : decode cX8_line 54 = .ok (.iload_n 1, 1) := by decide +kernel
theorem dX8_line_55 : decode cX8_line 55 = .ok (.invokevirtual 80, 3) := by decide +kernel
theorem dX8_line_58 : decode cX8_line 58 = .ok (.ifCond .eq 13, 3) := by decide +kernel
theorem dX8_line_61 : decode cX8_line 61 = .ok (.new 52, 3) := by decide +kernel
theorem dX8_line_64 : decode cX8_line 64 = .ok (.dup, 1) := by decide +kernel
theorem dX8_line_65 : decode cX8_line 65 = .ok (.ldc 84, 2) := by decide +kernel
theorem dX8_line_67 : decode cX8_line 67 = .ok (.invokespecial 56, 3) := by decide +kernel
theorem dX8_line_70 : decode cX8_line 70 = .ok (.athrow, 1) := by decide +kernel
theorem dX8_line_71 : decode cX8_line 71 = .ok (.aload_n 0, 1) := by decide +kernel
theorem dX8_line_72 : decode cX8_line 72 = .ok (.getfield 12, 3) := by decide +kernel
theorem dX8_line_75 : decode cX8_line 75 = .ok (.iload_n 1, 1) := by decide +kernel
theorem dX8_line_76 : decode cX8_line 76 = .ok (.iload_n 2, 1) := by decide +kernel
theorem dX8_line_77 : decode cX8_line 77 = .ok (.iload_n 3, 1) := by decide +kernel
theorem dX8_line_78 : decode cX8_line 78 = .ok (.iload 4, 2) := by decide +kernel
theorem dX8_line_80 : decode cX8_line 80 = .ok (.invokevirtual 86, 3) := by decide +kernel
theorem dX8_line_83 : decode cX8_line 83 = .ok (.iload 5, 2) := by decide +kernel
theorem dX8_line_85 : decode cX8_line 85 = .ok (.ireturn, 1) := by decide +kernel
theorem dX8_start_0 : decode cX8_start 0 = .ok (.iload_n 1, 1) := by decide +kernel
theorem dX8_start_1 : decode cX8_start 1 = .ok (.aload_n 0, 1) := by decide +kernel
theorem dX8_start_2 : decode cX8_start 2 = .ok (.getfield 12, 3) := by decide +kernel
theorem dX8_start_5 : decode cX8_start 5 = .ok (.getfield 48, 3) := by decide +kernel
theorem dX8_start_8 : decode cX8_start 8 = .ok (.invokestatic 63, 3) := by decide +kernel
theorem dX8_start_11 : decode cX8_start 11 = .ok (.aload_n 0, 1) := by decide +kernel
theorem dX8_start_12 : decode cX8_start 12 = .ok (.getfield 19, 3) := by decide +kernel
theorem dX8_start_15 : decode cX8_start 15 = .ok (.iload_n 1, 1) := by decide +kernel
theorem dX8_start_16 : decode cX8_start 16 = .ok (.iconst (-1), 1) := by decide +kernel
theorem dX8_start_17 : decode cX8_start 17 = .ok (.invokevirtual 103, 3) := by decide +kernel
theorem dX8_start_20 : decode cX8_start 20 = .ok (.istore_n 2, 1) := by decide +kernel
theorem dX8_start_21 : decode cX8_start 21 = .ok (.iload_n 2, 1) := by decide +kernel
theorem dX8_start_22 : decode cX8_start 22 = .ok (.iconst (-1), 1) := by decide +kernel
theorem dX8_start_23 : decode cX8_start 23 = .ok (.if_icmp .ne 13, 3) := by decide +kernel
theorem dX8_start_26 : decode cX8_start 26 = .ok (.new 52, 3) := by decide +kernel
theorem dX8_start_29 : decode cX8_start 29 = .ok (.dup, 1) := by decide +kernel
theorem dX8_start_30 : decode cX8_start 30 = .ok (.ldc 106, 2) := by decide +kernel
theorem dX8_start_32 : decode cX8_start 32 = .ok (.invokespecial 56, 3) := by decide +kernel
theorem dX8_start_35 : decode cX8_start 35 = .ok (.athrow, 1) := by decide +kernel
theorem dX8_start_36 : decode cX8_start 36 = .ok (.iload_n 2, 1) := by decide +kernel
theorem dX8_start_37 : decode cX8_start 37 = .ok (.ireturn, 1) := by decide +kernel
theorem dX8_run_0 : decode cX8_run 0 = .ok (.iload_n 1, 1) := by decide +kernel
theorem dX8_run_1 : decode cX8_run 1 = .ok (.iconst 1, 1) := by decide +kernel
theorem dX8_run_2 : decode cX8_run 2 = .ok (.bipush 50, 2) := by decide +kernel
theorem dX8_run_4 : decode cX8_run 4 = .ok (.invokestatic 90, 3) := by decide +kernel
theorem dX8_run_7 : decode cX8_run 7 = .ok (.aload_n 0, 1) := by decide +kernel
theorem dX8_run_8 : decode cX8_run 8 = .ok (.getfield 28, 3) := by decide +kernel
theorem dX8_run_11 : decode cX8_run 11 = .ok (.iload_n 1, 1) := by decide +kernel
theorem dX8_run_12 : decode cX8_run 12 = .ok (.invokevirtual 108, 3) := by decide +kernel
theorem dX8_run_15 : decode cX8_run 15 = .ok (.ireturn, 1) := by decide +kernel
theorem dX8_tick_0 : decode cX8_tick 0 = .ok (.iload_n 1, 1) := by decide +kernel
theorem dX8_tick_1 : decode cX8_tick 1 = .ok (.iconst 1, 1) := by decide +kernel
theorem dX8_tick_2 : decode cX8_tick 2 = .ok (.bipush 20, 2) := by decide +kernel
theorem dX8_tick_4 : decode cX8_tick 4 = .ok (.invokestatic 90, 3) := by decide +kernel
theorem dX8_tick_7 : decode cX8_tick 7 = .ok (.iconst 0, 1) := by decide +kernel
theorem dX8_tick_8 : decode cX8_tick 8 = .ok (.istore_n 2, 1) := by decide +kernel
theorem dX8_tick_9 : decode cX8_tick 9 = .ok (.iconst 0, 1) := by decide +kernel
theorem dX8_tick_10 : decode cX8_tick 10 = .ok (.istore_n 3, 1) := by decide +kernel
theorem dX8_tick_11 : decode cX8_tick 11 = .ok (.iload_n 3, 1) := by decide +kernel
theorem dX8_tick_12 : decode cX8_tick 12 = .ok (.iload_n 1, 1) := by decide +kernel
theorem dX8_tick_13 : decode cX8_tick 13 = .ok (.if_icmp .ge 19, 3) := by decide +kernel
theorem dX8_tick_16 : decode cX8_tick 16 = .ok (.iload_n 2, 1) := by decide +kernel
theorem dX8_tick_17 : decode cX8_tick 17 = .ok (.aload_n 0, 1) := by decide +kernel
theorem dX8_tick_18 : decode cX8_tick 18 = .ok (.getfield 19, 3) := by decide +kernel
theorem dX8_tick_21 : decode cX8_tick 21 = .ok (.invokevirtual 111, 3) := by decide +kernel
theorem dX8_tick_24 : decode cX8_tick 24 = .ok (.iadd, 1) := by decide +kernel
theorem dX8_tick_25 : decode cX8_tick 25 = .ok (.istore_n 2, 1) := by decide +kernel
theorem dX8_tick_26 : decode cX8_tick 26 = .ok (.iinc 3 1, 3) := by decide +kernel
theorem dX8_tick_29 : decode cX8_tick 29 = .ok (.goto (-18), 3) := by decide +kernel
theorem dX8_tick_32 : decode cX8_tick 32 = .ok (.iload_n 2, 1) := by decide +kernel
theorem dX8_tick_33 : decode cX8_tick 33 = .ok (.ireturn, 1) := by decide +kernel
theorem dX8_cancel_0 : decode cX8_cancel 0 = .ok (.iload_n 1, 1) := by decide +kernel
theorem dX8_cancel_1 : decode cX8_cancel 1 = .ok (.aload_n 0, 1) := by decide +kernel
theorem dX8_cancel_2 : decode cX8_cancel 2 = .ok (.getfield 19, 3) := by decide +kernel
theorem dX8_cancel_5 : decode cX8_cancel 5 = .ok (.getfield 114, 3) := by decide +kernel
theorem dX8_cancel_8 : decode cX8_cancel 8 = .ok (.invokestatic 63, 3) := by decide +kernel
theorem dX8_cancel_11 : decode cX8_cancel 11 = .ok (.aload_n 0, 1) := by decide +kernel
theorem dX8_cancel_12 : decode cX8_cancel 12 = .ok (.getfield 19, 3) := by decide +kernel
theorem dX8_cancel_15 : decode cX8_cancel 15 = .ok (.aload_n 0, 1) := by decide +kernel
theorem dX8_cancel_16 : decode cX8_cancel 16 = .ok (.getfield 19, 3) := by decide +kernel
theorem dX8_cancel_19 : decode cX8_cancel 19 = .ok (.iload_n 1, 1) := by decide +kernel
theorem dX8_cancel_20 : decode cX8_cancel 20 = .ok (.invokevirtual 117, 3) := by decide +kernel
theorem dX8_cancel_23 : decode cX8_cancel 23 = .ok (.invokevirtual 121, 3) := by decide +kernel
theorem dX8_cancel_26 : decode cX8_cancel 26 = .ok (.ireturn, 1) := by decide +kernel
theorem dX8_ofTask_0 : decode cX8_ofTask 0 = .ok (.iload_n 1, 1) := by decide +kernel
theorem dX8_ofTask_1 : decode cX8_ofTask 1 = .ok (.aload_n 0, 1) := by decide +kernel
theorem dX8_ofTask_2 : decode cX8_ofTask 2 = .ok (.getfield 19, 3) := by decide +kernel
theorem dX8_ofTask_5 : decode cX8_ofTask 5 = .ok (.getfield 94, 3) := by decide +kernel
theorem dX8_ofTask_8 : decode cX8_ofTask 8 = .ok (.invokestatic 63, 3) := by decide +kernel
theorem dX8_ofTask_11 : decode cX8_ofTask 11 = .ok (.iload_n 2, 1) := by decide +kernel
theorem dX8_ofTask_12 : decode cX8_ofTask 12 = .ok (.iconst 0, 1) := by decide +kernel
theorem dX8_ofTask_13 : decode cX8_ofTask 13 = .ok (.bipush 8, 2) := by decide +kernel
theorem dX8_ofTask_15 : decode cX8_ofTask 15 = .ok (.invokestatic 90, 3) := by decide +kernel
theorem dX8_ofTask_18 : decode cX8_ofTask 18 = .ok (.aload_n 0, 1) := by decide +kernel
theorem dX8_ofTask_19 : decode cX8_ofTask 19 = .ok (.getfield 35, 3) := by decide +kernel
theorem dX8_ofTask_22 : decode cX8_ofTask 22 = .ok (.iload_n 1, 1) := by decide +kernel
theorem dX8_ofTask_23 : decode cX8_ofTask 23 = .ok (.iload_n 2, 1) := by decide +kernel
theorem dX8_ofTask_24 : decode cX8_ofTask 24 = .ok (.invokevirtual 125, 3) := by decide +kernel
theorem dX8_ofTask_27 : decode cX8_ofTask 27 = .ok (.ireturn, 1) := by decide +kernel
theorem dX8_ofScope_0 : decode cX8_ofScope 0 = .ok (.iload_n 1, 1) := by decide +kernel
theorem dX8_ofScope_1 : decode cX8_ofScope 1 = .ok (.aload_n 0, 1) := by decide +kernel
theorem dX8_ofScope_2 : decode cX8_ofScope 2 = .ok (.getfield 19, 3) := by decide +kernel
theorem dX8_ofScope_5 : decode cX8_ofScope 5 = .ok (.getfield 114, 3) := by decide +kernel
theorem dX8_ofScope_8 : decode cX8_ofScope 8 = .ok (.invokestatic 63, 3) := by decide +kernel
theorem dX8_ofScope_11 : decode cX8_ofScope 11 = .ok (.iload_n 2, 1) := by decide +kernel
theorem dX8_ofScope_12 : decode cX8_ofScope 12 = .ok (.iconst 0, 1) := by decide +kernel
theorem dX8_ofScope_13 : decode cX8_ofScope 13 = .ok (.bipush 8, 2) := by decide +kernel
theorem dX8_ofScope_15 : decode cX8_ofScope 15 = .ok (.invokestatic 90, 3) := by decide +kernel
theorem dX8_ofScope_18 : decode cX8_ofScope 18 = .ok (.aload_n 0, 1) := by decide +kernel
theorem dX8_ofScope_19 : decode cX8_ofScope 19 = .ok (.getfield 35, 3) := by decide +kernel
theorem dX8_ofScope_22 : decode cX8_ofScope 22 = .ok (.iload_n 1, 1) := by decide +kernel
theorem dX8_ofScope_23 : decode cX8_ofScope 23 = .ok (.iload_n 2, 1) := by decide +kernel
theorem dX8_ofScope_24 : decode cX8_ofScope 24 = .ok (.invokevirtual 131, 3) := by decide +kernel
theorem dX8_ofScope_27 : decode cX8_ofScope 27 = .ok (.ireturn, 1) := by decide +kernel
theorem dX8_ofLock_0 : decode cX8_ofLock 0 = .ok (.iload_n 1, 1) := by decide +kernel
theorem dX8_ofLock_1 : decode cX8_ofLock 1 = .ok (.iconst 2, 1) := by decide +kernel
theorem dX8_ofLock_2 : decode cX8_ofLock 2 = .ok (.invokestatic 63, 3) := by decide +kernel
theorem dX8_ofLock_5 : decode cX8_ofLock 5 = .ok (.iload_n 2, 1) := by decide +kernel
theorem dX8_ofLock_6 : decode cX8_ofLock 6 = .ok (.iconst 0, 1) := by decide +kernel
theorem dX8_ofLock_7 : decode cX8_ofLock 7 = .ok (.iconst 3, 1) := by decide +kernel
theorem dX8_ofLock_8 : decode cX8_ofLock 8 = .ok (.invokestatic 90, 3) := by decide +kernel
theorem dX8_ofLock_11 : decode cX8_ofLock 11 = .ok (.aload_n 0, 1) := by decide +kernel
theorem dX8_ofLock_12 : decode cX8_ofLock 12 = .ok (.getfield 35, 3) := by decide +kernel
theorem dX8_ofLock_15 : decode cX8_ofLock 15 = .ok (.iload_n 1, 1) := by decide +kernel
theorem dX8_ofLock_16 : decode cX8_ofLock 16 = .ok (.iload_n 2, 1) := by decide +kernel
theorem dX8_ofLock_17 : decode cX8_ofLock 17 = .ok (.invokevirtual 134, 3) := by decide +kernel
theorem dX8_ofLock_20 : decode cX8_ofLock 20 = .ok (.ireturn, 1) := by decide +kernel
theorem dX8_ofChannel_0 : decode cX8_ofChannel 0 = .ok (.iload_n 1, 1) := by decide +kernel
theorem dX8_ofChannel_1 : decode cX8_ofChannel 1 = .ok (.iconst 2, 1) := by decide +kernel
theorem dX8_ofChannel_2 : decode cX8_ofChannel 2 = .ok (.invokestatic 63, 3) := by decide +kernel
theorem dX8_ofChannel_5 : decode cX8_ofChannel 5 = .ok (.iload_n 2, 1) := by decide +kernel
theorem dX8_ofChannel_6 : decode cX8_ofChannel 6 = .ok (.iconst 0, 1) := by decide +kernel
theorem dX8_ofChannel_7 : decode cX8_ofChannel 7 = .ok (.bipush 6, 2) := by decide +kernel
theorem dX8_ofChannel_9 : decode cX8_ofChannel 9 = .ok (.invokestatic 90, 3) := by decide +kernel
theorem dX8_ofChannel_12 : decode cX8_ofChannel 12 = .ok (.aload_n 0, 1) := by decide +kernel
theorem dX8_ofChannel_13 : decode cX8_ofChannel 13 = .ok (.getfield 35, 3) := by decide +kernel
theorem dX8_ofChannel_16 : decode cX8_ofChannel 16 = .ok (.iload_n 1, 1) := by decide +kernel
theorem dX8_ofChannel_17 : decode cX8_ofChannel 17 = .ok (.iload_n 2, 1) := by decide +kernel
theorem dX8_ofChannel_18 : decode cX8_ofChannel 18 = .ok (.invokevirtual 137, 3) := by decide +kernel
theorem dX8_ofChannel_21 : decode cX8_ofChannel 21 = .ok (.ireturn, 1) := by decide +kernel
theorem dX8_many_0 : decode cX8_many 0 = .ok (.iload_n 1, 1) := by decide +kernel
theorem dX8_many_1 : decode cX8_many 1 = .ok (.iconst 0, 1) := by decide +kernel
theorem dX8_many_2 : decode cX8_many 2 = .ok (.bipush 12, 2) := by decide +kernel
theorem dX8_many_4 : decode cX8_many 4 = .ok (.invokestatic 90, 3) := by decide +kernel
theorem dX8_many_7 : decode cX8_many 7 = .ok (.aload_n 0, 1) := by decide +kernel
theorem dX8_many_8 : decode cX8_many 8 = .ok (.getfield 35, 3) := by decide +kernel
theorem dX8_many_11 : decode cX8_many 11 = .ok (.iload_n 1, 1) := by decide +kernel
theorem dX8_many_12 : decode cX8_many 12 = .ok (.invokevirtual 140, 3) := by decide +kernel
theorem dX8_many_15 : decode cX8_many 15 = .ok (.ireturn, 1) := by decide +kernel
theorem dX8_stuck_0 : decode cX8_stuck 0 = .ok (.aload_n 0, 1) := by decide +kernel
theorem dX8_stuck_1 : decode cX8_stuck 1 = .ok (.getfield 35, 3) := by decide +kernel
theorem dX8_stuck_4 : decode cX8_stuck 4 = .ok (.invokevirtual 146, 3) := by decide +kernel
theorem dX8_stuck_7 : decode cX8_stuck 7 = .ok (.ireturn, 1) := by decide +kernel
theorem dX8_wouldHit_0 : decode cX8_wouldHit 0 = .ok (.iload_n 1, 1) := by decide +kernel
theorem dX8_wouldHit_1 : decode cX8_wouldHit 1 = .ok (.aload_n 0, 1) := by decide +kernel
theorem dX8_wouldHit_2 : decode cX8_wouldHit 2 = .ok (.getfield 19, 3) := by decide +kernel
theorem dX8_wouldHit_5 : decode cX8_wouldHit 5 = .ok (.getfield 114, 3) := by decide +kernel
theorem dX8_wouldHit_8 : decode cX8_wouldHit 8 = .ok (.invokestatic 63, 3) := by decide +kernel
theorem dX8_wouldHit_11 : decode cX8_wouldHit 11 = .ok (.aload_n 0, 1) := by decide +kernel
theorem dX8_wouldHit_12 : decode cX8_wouldHit 12 = .ok (.getfield 35, 3) := by decide +kernel
theorem dX8_wouldHit_15 : decode cX8_wouldHit 15 = .ok (.iload_n 1, 1) := by decide +kernel
theorem dX8_wouldHit_16 : decode cX8_wouldHit 16 = .ok (.invokevirtual 149, 3) := by decide +kernel
theorem dX8_wouldHit_19 : decode cX8_wouldHit 19 = .ok (.ireturn, 1) := by decide +kernel
theorem dX8_overBy_0 : decode cX8_overBy 0 = .ok (.iload_n 1, 1) := by decide +kernel
theorem dX8_overBy_1 : decode cX8_overBy 1 = .ok (.iconst 1, 1) := by decide +kernel
theorem dX8_overBy_2 : decode cX8_overBy 2 = .ok (.bipush 20, 2) := by decide +kernel
theorem dX8_overBy_4 : decode cX8_overBy 4 = .ok (.invokestatic 90, 3) := by decide +kernel
theorem dX8_overBy_7 : decode cX8_overBy 7 = .ok (.iload_n 2, 1) := by decide +kernel
theorem dX8_overBy_8 : decode cX8_overBy 8 = .ok (.iconst 1, 1) := by decide +kernel
theorem dX8_overBy_9 : decode cX8_overBy 9 = .ok (.bipush 50, 2) := by decide +kernel
theorem dX8_overBy_11 : decode cX8_overBy 11 = .ok (.invokestatic 90, 3) := by decide +kernel
theorem dX8_overBy_14 : decode cX8_overBy 14 = .ok (.aload_n 0, 1) := by decide +kernel
theorem dX8_overBy_15 : decode cX8_overBy 15 = .ok (.iload_n 1, 1) := by decide +kernel
theorem dX8_overBy_16 : decode cX8_overBy 16 = .ok (.iload_n 2, 1) := by decide +kernel
theorem dX8_overBy_17 : decode cX8_overBy 17 = .ok (.invokevirtual 152, 3) := by decide +kernel
theorem dX8_overBy_20 : decode cX8_overBy 20 = .ok (.ireturn, 1) := by decide +kernel
theorem dX8_digest_0 : decode cX8_digest 0 = .ok (.ldc2_w 159, 3) := by decide +kernel
theorem dX8_digest_3 : decode cX8_digest 3 = .ok (.lstore_n 1, 1) := by decide +kernel
theorem dX8_digest_4 : decode cX8_digest 4 = .ok (.iconst 0, 1) := by decide +kernel
theorem dX8_digest_5 : decode cX8_digest 5 = .ok (.istore_n 3, 1) := by decide +kernel
theorem dX8_digest_6 : decode cX8_digest 6 = .ok (.iload_n 3, 1) := by decide +kernel
theorem dX8_digest_7 : decode cX8_digest 7 = .ok (.bipush 12, 2) := by decide +kernel
theorem dX8_digest_9 : decode cX8_digest 9 = .ok (.if_icmp .gt 25, 3) := by decide +kernel
theorem dX8_digest_12 : decode cX8_digest 12 = .ok (.lload_n 1, 1) := by decide +kernel
theorem dX8_digest_13 : decode cX8_digest 13 = .ok (.ldc2_w 161, 3) := by decide +kernel
theorem dX8_digest_16 : decode cX8_digest 16 = .ok (.lmul, 1) := by decide +kernel
theorem dX8_digest_17 : decode cX8_digest 17 = .ok (.aload_n 0, 1) := by decide +kernel
theorem dX8_digest_18 : decode cX8_digest 18 = .ok (.getfield 35, 3) := by decide +kernel
theorem dX8_digest_21 : decode cX8_digest 21 = .ok (.iload_n 3, 1) := by decide +kernel
theorem dX8_digest_22 : decode cX8_digest 22 = .ok (.invokevirtual 140, 3) := by decide +kernel
theorem dX8_digest_25 : decode cX8_digest 25 = .ok (.i2l, 1) := by decide +kernel
theorem dX8_digest_26 : decode cX8_digest 26 = .ok (.ladd, 1) := by decide +kernel
theorem dX8_digest_27 : decode cX8_digest 27 = .ok (.lstore_n 1, 1) := by decide +kernel
theorem dX8_digest_28 : decode cX8_digest 28 = .ok (.iinc 3 1, 3) := by decide +kernel
theorem dX8_digest_31 : decode cX8_digest 31 = .ok (.goto (-25), 3) := by decide +kernel
theorem dX8_digest_34 : decode cX8_digest 34 = .ok (.aload_n 0, 1) := by decide +kernel
theorem dX8_digest_35 : decode cX8_digest 35 = .ok (.getfield 35, 3) := by decide +kernel
theorem dX8_digest_38 : decode cX8_digest 38 = .ok (.lload_n 1, 1) := by decide +kernel
theorem dX8_digest_39 : decode cX8_digest 39 = .ok (.invokevirtual 163, 3) := by decide +kernel
theorem dX8_digest_42 : decode cX8_digest 42 = .ok (.lstore_n 1, 1) := by decide +kernel
theorem dX8_digest_43 : decode cX8_digest 43 = .ok (.aload_n 0, 1) := by decide +kernel
theorem dX8_digest_44 : decode cX8_digest 44 = .ok (.getfield 35, 3) := by decide +kernel
theorem dX8_digest_47 : decode cX8_digest 47 = .ok (.lload_n 1, 1) := by decide +kernel
theorem dX8_digest_48 : decode cX8_digest 48 = .ok (.invokevirtual 167, 3) := by decide +kernel
theorem dX8_digest_51 : decode cX8_digest 51 = .ok (.lstore_n 1, 1) := by decide +kernel
theorem dX8_digest_52 : decode cX8_digest 52 = .ok (.aload_n 0, 1) := by decide +kernel
theorem dX8_digest_53 : decode cX8_digest 53 = .ok (.getfield 35, 3) := by decide +kernel
theorem dX8_digest_56 : decode cX8_digest 56 = .ok (.lload_n 1, 1) := by decide +kernel
theorem dX8_digest_57 : decode cX8_digest 57 = .ok (.invokevirtual 170, 3) := by decide +kernel
theorem dX8_digest_60 : decode cX8_digest 60 = .ok (.lstore_n 1, 1) := by decide +kernel
theorem dX8_digest_61 : decode cX8_digest 61 = .ok (.lload_n 1, 1) := by decide +kernel
theorem dX8_digest_62 : decode cX8_digest 62 = .ok (.ldc2_w 161, 3) := by decide +kernel
theorem dX8_digest_65 : decode cX8_digest 65 = .ok (.lmul, 1) := by decide +kernel
theorem dX8_digest_66 : decode cX8_digest 66 = .ok (.aload_n 0, 1) := by decide +kernel
theorem dX8_digest_67 : decode cX8_digest 67 = .ok (.getfield 35, 3) := by decide +kernel
theorem dX8_digest_70 : decode cX8_digest 70 = .ok (.invokevirtual 146, 3) := by decide +kernel
theorem dX8_digest_73 : decode cX8_digest 73 = .ok (.i2l, 1) := by decide +kernel
theorem dX8_digest_74 : decode cX8_digest 74 = .ok (.ladd, 1) := by decide +kernel
theorem dX8_digest_75 : decode cX8_digest 75 = .ok (.lstore_n 1, 1) := by decide +kernel
theorem dX8_digest_76 : decode cX8_digest 76 = .ok (.lload_n 1, 1) := by decide +kernel
theorem dX8_digest_77 : decode cX8_digest 77 = .ok (.ldc2_w 161, 3) := by decide +kernel
theorem dX8_digest_80 : decode cX8_digest 80 = .ok (.lmul, 1) := by decide +kernel
theorem dX8_digest_81 : decode cX8_digest 81 = .ok (.aload_n 0, 1) := by decide +kernel
theorem dX8_digest_82 : decode cX8_digest 82 = .ok (.iconst 1, 1) := by decide +kernel
theorem dX8_digest_83 : decode cX8_digest 83 = .ok (.bipush 10, 2) := by decide +kernel
theorem dX8_digest_85 : decode cX8_digest 85 = .ok (.invokevirtual 152, 3) := by decide +kernel
theorem dX8_digest_88 : decode cX8_digest 88 = .ok (.i2l, 1) := by decide +kernel
theorem dX8_digest_89 : decode cX8_digest 89 = .ok (.ladd, 1) := by decide +kernel
theorem dX8_digest_90 : decode cX8_digest 90 = .ok (.lstore_n 1, 1) := by decide +kernel
theorem dX8_digest_91 : decode cX8_digest 91 = .ok (.lload_n 1, 1) := by decide +kernel
theorem dX8_digest_92 : decode cX8_digest 92 = .ok (.ldc2_w 161, 3) := by decide +kernel
theorem dX8_digest_95 : decode cX8_digest 95 = .ok (.lmul, 1) := by decide +kernel
theorem dX8_digest_96 : decode cX8_digest 96 = .ok (.aload_n 0, 1) := by decide +kernel
theorem dX8_digest_97 : decode cX8_digest 97 = .ok (.iconst 5, 1) := by decide +kernel
theorem dX8_digest_98 : decode cX8_digest 98 = .ok (.bipush 10, 2) := by decide +kernel
theorem dX8_digest_100 : decode cX8_digest 100 = .ok (.invokevirtual 152, 3) := by decide +kernel
theorem dX8_digest_103 : decode cX8_digest 103 = .ok (.i2l, 1) := by decide +kernel
theorem dX8_digest_104 : decode cX8_digest 104 = .ok (.ladd, 1) := by decide +kernel
theorem dX8_digest_105 : decode cX8_digest 105 = .ok (.lstore_n 1, 1) := by decide +kernel
theorem dX8_digest_106 : decode cX8_digest 106 = .ok (.lload_n 1, 1) := by decide +kernel
theorem dX8_digest_107 : decode cX8_digest 107 = .ok (.lreturn, 1) := by decide +kernel
theorem dX8_overAfter_0 : decode cX8_overAfter 0 = .ok (.aload_n 0, 1) := by decide +kernel
theorem dX8_overAfter_1 : decode cX8_overAfter 1 = .ok (.getfield 39, 3) := by decide +kernel
theorem dX8_overAfter_4 : decode cX8_overAfter 4 = .ok (.aload_n 0, 1) := by decide +kernel
theorem dX8_overAfter_5 : decode cX8_overAfter 5 = .ok (.getfield 19, 3) := by decide +kernel
theorem dX8_overAfter_8 : decode cX8_overAfter 8 = .ok (.invokevirtual 155, 3) := by decide +kernel
theorem dX8_overAfter_11 : decode cX8_overAfter 11 = .ok (.iconst 0, 1) := by decide +kernel
theorem dX8_overAfter_12 : decode cX8_overAfter 12 = .ok (.istore_n 3, 1) := by decide +kernel
theorem dX8_overAfter_13 : decode cX8_overAfter 13 = .ok (.iload_n 3, 1) := by decide +kernel
theorem dX8_overAfter_14 : decode cX8_overAfter 14 = .ok (.iload_n 1, 1) := by decide +kernel
theorem dX8_overAfter_15 : decode cX8_overAfter 15 = .ok (.if_icmp .ge 26, 3) := by decide +kernel
theorem dX8_overAfter_18 : decode cX8_overAfter 18 = .ok (.aload_n 0, 1) := by decide +kernel
theorem dX8_overAfter_19 : decode cX8_overAfter 19 = .ok (.getfield 39, 3) := by decide +kernel
theorem dX8_overAfter_22 : decode cX8_overAfter 22 = .ok (.invokevirtual 111, 3) := by decide +kernel
theorem dX8_overAfter_25 : decode cX8_overAfter 25 = .ok (.pop, 1) := by decide +kernel
theorem dX8_overAfter_26 : decode cX8_overAfter 26 = .ok (.aload_n 0, 1) := by decide +kernel
theorem dX8_overAfter_27 : decode cX8_overAfter 27 = .ok (.getfield 42, 3) := by decide +kernel
theorem dX8_overAfter_30 : decode cX8_overAfter 30 = .ok (.iload_n 2, 1) := by decide +kernel
theorem dX8_overAfter_31 : decode cX8_overAfter 31 = .ok (.invokevirtual 108, 3) := by decide +kernel
theorem dX8_overAfter_34 : decode cX8_overAfter 34 = .ok (.pop, 1) := by decide +kernel
theorem dX8_overAfter_35 : decode cX8_overAfter 35 = .ok (.iinc 3 1, 3) := by decide +kernel
theorem dX8_overAfter_38 : decode cX8_overAfter 38 = .ok (.goto (-25), 3) := by decide +kernel
theorem dX8_overAfter_41 : decode cX8_overAfter 41 = .ok (.aload_n 0, 1) := by decide +kernel
theorem dX8_overAfter_42 : decode cX8_overAfter 42 = .ok (.getfield 45, 3) := by decide +kernel
theorem dX8_overAfter_45 : decode cX8_overAfter 45 = .ok (.invokevirtual 173, 3) := by decide +kernel
theorem dX8_overAfter_48 : decode cX8_overAfter 48 = .ok (.ireturn, 1) := by decide +kernel
theorem dX8_checkNumber_0 : decode cX8_checkNumber 0 = .ok (.iload_n 0, 1) := by decide +kernel
theorem dX8_checkNumber_1 : decode cX8_checkNumber 1 = .ok (.ifCond .lt 8, 3) := by decide +kernel
theorem dX8_checkNumber_4 : decode cX8_checkNumber 4 = .ok (.iload_n 0, 1) := by decide +kernel
theorem dX8_checkNumber_5 : decode cX8_checkNumber 5 = .ok (.iload_n 1, 1) := by decide +kernel
theorem dX8_checkNumber_6 : decode cX8_checkNumber 6 = .ok (.if_icmp .lt 13, 3) := by decide +kernel
theorem dX8_checkNumber_9 : decode cX8_checkNumber 9 = .ok (.new 176, 3) := by decide +kernel
theorem dX8_checkNumber_12 : decode cX8_checkNumber 12 = .ok (.dup, 1) := by decide +kernel
theorem dX8_checkNumber_13 : decode cX8_checkNumber 13 = .ok (.ldc 178, 2) := by decide +kernel
theorem dX8_checkNumber_15 : decode cX8_checkNumber 15 = .ok (.invokespecial 180, 3) := by decide +kernel
theorem dX8_checkNumber_18 : decode cX8_checkNumber 18 = .ok (.athrow, 1) := by decide +kernel
theorem dX8_checkNumber_19 : decode cX8_checkNumber 19 = .ok (.return_, 1) := by decide +kernel
theorem dX8_checkWithin_0 : decode cX8_checkWithin 0 = .ok (.iload_n 0, 1) := by decide +kernel
theorem dX8_checkWithin_1 : decode cX8_checkWithin 1 = .ok (.iload_n 1, 1) := by decide +kernel
theorem dX8_checkWithin_2 : decode cX8_checkWithin 2 = .ok (.if_icmp .lt 8, 3) := by decide +kernel
theorem dX8_checkWithin_5 : decode cX8_checkWithin 5 = .ok (.iload_n 0, 1) := by decide +kernel
theorem dX8_checkWithin_6 : decode cX8_checkWithin 6 = .ok (.iload_n 2, 1) := by decide +kernel
theorem dX8_checkWithin_7 : decode cX8_checkWithin 7 = .ok (.if_icmp .le 13, 3) := by decide +kernel
theorem dX8_checkWithin_10 : decode cX8_checkWithin 10 = .ok (.new 75, 3) := by decide +kernel
theorem dX8_checkWithin_13 : decode cX8_checkWithin 13 = .ok (.dup, 1) := by decide +kernel
theorem dX8_checkWithin_14 : decode cX8_checkWithin 14 = .ok (.ldc 181, 2) := by decide +kernel
theorem dX8_checkWithin_16 : decode cX8_checkWithin 16 = .ok (.invokespecial 79, 3) := by decide +kernel
theorem dX8_checkWithin_19 : decode cX8_checkWithin 19 = .ok (.athrow, 1) := by decide +kernel
theorem dX8_checkWithin_20 : decode cX8_checkWithin 20 = .ok (.return_, 1) := by decide +kernel
theorem dX9_init_0 : decode cX9_init 0 = .ok (.aload_n 0, 1) := by decide +kernel
theorem dX9_init_1 : decode cX9_init 1 = .ok (.invokespecial 1, 3) := by decide +kernel
theorem dX9_init_4 : decode cX9_init 4 = .ok (.aload_n 0, 1) := by decide +kernel
theorem dX9_init_5 : decode cX9_init 5 = .ok (.bipush 8, 2) := by decide +kernel
theorem dX9_init_7 : decode cX9_init 7 = .ok (.bipush 12, 2) := by decide +kernel
theorem dX9_init_9 : decode cX9_init 9 = .ok (.multianewarray 7 2, 4) := by decide +kernel
theorem dX9_init_13 : decode cX9_init 13 = .ok (.putfield 9, 3) := by decide +kernel
theorem dX9_init_16 : decode cX9_init 16 = .ok (.aload_n 0, 1) := by decide +kernel
theorem dX9_init_17 : decode cX9_init 17 = .ok (.bipush 8, 2) := by decide +kernel
theorem dX9_init_19 : decode cX9_init 19 = .ok (.newarray .int, 2) := by decide +kernel
theorem dX9_init_21 : decode cX9_init 21 = .ok (.putfield 14, 3) := by decide +kernel
theorem dX9_init_24 : decode cX9_init 24 = .ok (.return_, 1) := by decide +kernel
theorem dX9_isTold_0 : decode cX9_isTold 0 = .ok (.aload_n 0, 1) := by decide +kernel
theorem dX9_isTold_1 : decode cX9_isTold 1 = .ok (.dup, 1) := by decide +kernel
theorem dX9_isTold_2 : decode cX9_isTold 2 = .ok (.getfield 18, 3) := by decide +kernel
theorem dX9_isTold_5 : decode cX9_isTold 5 = .ok (.iconst 1, 1) := by decide +kernel
theorem dX9_isTold_6 : decode cX9_isTold 6 = .ok (.iadd, 1) := by decide +kernel
theorem dX9_isTold_7 : decode cX9_isTold 7 = .ok (.putfield 18, 3) := by decide +kernel
theorem dX9_isTold_10 : decode cX9_isTold 10 = .ok (.aload_n 1, 1) := by decide +kernel
theorem dX9_isTold_11 : decode cX9_isTold 11 = .ok (.invokevirtual 22, 3) := by decide +kernel
theorem dX9_isTold_14 : decode cX9_isTold 14 = .ok (.aload_n 0, 1) := by decide +kernel
theorem dX9_isTold_15 : decode cX9_isTold 15 = .ok (.getfield 18, 3) := by decide +kernel
theorem dX9_isTold_18 : decode cX9_isTold 18 = .ok (.iconst 1, 1) := by decide +kernel
theorem dX9_isTold_19 : decode cX9_isTold 19 = .ok (.isub, 1) := by decide +kernel
theorem dX9_isTold_20 : decode cX9_isTold 20 = .ok (.if_icmp .ne 7, 3) := by decide +kernel
theorem dX9_isTold_23 : decode cX9_isTold 23 = .ok (.iconst 1, 1) := by decide +kernel
theorem dX9_isTold_24 : decode cX9_isTold 24 = .ok (.goto 4, 3) := by decide +kernel
theorem dX9_isTold_27 : decode cX9_isTold 27 = .ok (.iconst 0, 1) := by decide +kernel
theorem dX9_isTold_28 : decode cX9_isTold 28 = .ok (.ireturn, 1) := by decide +kernel
theorem dX9_isLine_0 : decode cX9_isLine 0 = .ok (.aload_n 0, 1) := by decide +kernel
theorem dX9_isLine_1 : decode cX9_isLine 1 = .ok (.getfield 14, 3) := by decide +kernel
theorem dX9_isLine_4 : decode cX9_isLine 4 = .ok (.iload_n 2, 1) := by decide +kernel
theorem dX9_isLine_5 : decode cX9_isLine 5 = .ok (.iaload, 1) := by decide +kernel
theorem dX9_isLine_6 : decode cX9_isLine 6 = .ok (.bipush 12, 2) := by decide +kernel
theorem dX9_isLine_8 : decode cX9_isLine 8 = .ok (.if_icmp .ne 5, 3) := by decide +kernel
theorem dX9_isLine_11 : decode cX9_isLine 11 = .ok (.iconst 1, 1) := by decide +kernel
theorem dX9_isLine_12 : decode cX9_isLine 12 = .ok (.ireturn, 1) := by decide +kernel
theorem dX9_isLine_13 : decode cX9_isLine 13 = .ok (.iconst 3, 1) := by decide +kernel
theorem dX9_isLine_14 : decode cX9_isLine 14 = .ok (.newarray .int, 2) := by decide +kernel
theorem dX9_isLine_16 : decode cX9_isLine 16 = .ok (.dup, 1) := by decide +kernel
theorem dX9_isLine_17 : decode cX9_isLine 17 = .ok (.iconst 0, 1) := by decide +kernel
theorem dX9_isLine_18 : decode cX9_isLine 18 = .ok (.iload_n 3, 1) := by decide +kernel
theorem dX9_isLine_19 : decode cX9_isLine 19 = .ok (.iastore, 1) := by decide +kernel
theorem dX9_isLine_20 : decode cX9_isLine 20 = .ok (.dup, 1) := by decide +kernel
theorem dX9_isLine_21 : decode cX9_isLine 21 = .ok (.iconst 1, 1) := by decide +kernel
theorem dX9_isLine_22 : decode cX9_isLine 22 = .ok (.iload 4, 2) := by decide +kernel
theorem dX9_isLine_24 : decode cX9_isLine 24 = .ok (.iastore, 1) := by decide +kernel
theorem dX9_isLine_25 : decode cX9_isLine 25 = .ok (.dup, 1) := by decide +kernel
theorem dX9_isLine_26 : decode cX9_isLine 26 = .ok (.iconst 2, 1) := by decide +kernel
theorem dX9_isLine_27 : decode cX9_isLine 27 = .ok (.iload 5, 2) := by decide +kernel
theorem dX9_isLine_29 : decode cX9_isLine 29 = .ok (.iastore, 1) := by decide +kernel
theorem dX9_isLine_30 : decode cX9_isLine 30 = .ok (.astore 6, 2) := by decide +kernel
theorem dX9_isLine_32 : decode cX9_isLine 32 = .ok (.aload_n 0, 1) := by decide +kernel
theorem dX9_isLine_33 : decode cX9_isLine 33 = .ok (.getfield 9, 3) := by decide +kernel
theorem dX9_isLine_36 : decode cX9_isLine 36 = .ok (.iload_n 2, 1) := by decide +kernel
theorem dX9_isLine_37 : decode cX9_isLine 37 = .ok (.aaload, 1) := by decide +kernel
theorem dX9_isLine_38 : decode cX9_isLine 38 = .ok (.aload_n 0, 1) := by decide +kernel
theorem dX9_isLine_39 : decode cX9_isLine 39 = .ok (.getfield 14, 3) := by decide +kernel
theorem dX9_isLine_42 : decode cX9_isLine 42 = .ok (.iload_n 2, 1) := by decide +kernel
theorem dX9_isLine_43 : decode cX9_isLine 43 = .ok (.iaload, 1) := by decide +kernel
theorem dX9_isLine_44 : decode cX9_isLine 44 = .ok (.aload 6, 2) := by decide +kernel
theorem dX9_isLine_46 : decode cX9_isLine 46 = .ok (.aastore, 1) := by decide +kernel
theorem dX9_isLine_47 : decode cX9_isLine 47 = .ok (.aload_n 0, 1) := by decide +kernel
theorem dX9_isLine_48 : decode cX9_isLine 48 = .ok (.getfield 14, 3) := by decide +kernel
theorem dX9_isLine_51 : decode cX9_isLine 51 = .ok (.iload_n 2, 1) := by decide +kernel
theorem dX9_isLine_52 : decode cX9_isLine 52 = .ok (.dup2, 1) := by decide +kernel
theorem dX9_isLine_53 : decode cX9_isLine 53 = .ok (.iaload, 1) := by decide +kernel
theorem dX9_isLine_54 : decode cX9_isLine 54 = .ok (.iconst 1, 1) := by decide +kernel
theorem dX9_isLine_55 : decode cX9_isLine 55 = .ok (.iadd, 1) := by decide +kernel
theorem dX9_isLine_56 : decode cX9_isLine 56 = .ok (.iastore, 1) := by decide +kernel
theorem dX9_isLine_57 : decode cX9_isLine 57 = .ok (.aload_n 1, 1) := by decide +kernel
theorem dX9_isLine_58 : decode cX9_isLine 58 = .ok (.iload_n 2, 1) := by decide +kernel
theorem dX9_isLine_59 : decode cX9_isLine 59 = .ok (.iload_n 3, 1) := by decide +kernel
theorem dX9_isLine_60 : decode cX9_isLine 60 = .ok (.iload 4, 2) := by decide +kernel
theorem dX9_isLine_62 : decode cX9_isLine 62 = .ok (.iload 5, 2) := by decide +kernel
theorem dX9_isLine_64 : decode cX9_isLine 64 = .ok (.invokevirtual 28, 3) := by decide +kernel
theorem dX9_isLine_67 : decode cX9_isLine 67 = .ok (.aload_n 0, 1) := by decide +kernel
theorem dX9_isLine_68 : decode cX9_isLine 68 = .ok (.getfield 14, 3) := by decide +kernel
theorem dX9_isLine_71 : decode cX9_isLine 71 = .ok (.iload_n 2, 1) := by decide +kernel
theorem dX9_isLine_72 : decode cX9_isLine 72 = .ok (.iaload, 1) := by decide +kernel
theorem dX9_isLine_73 : decode cX9_isLine 73 = .ok (.iconst 1, 1) := by decide +kernel
theorem dX9_isLine_74 : decode cX9_isLine 74 = .ok (.isub, 1) := by decide +kernel
theorem dX9_isLine_75 : decode cX9_isLine 75 = .ok (.if_icmp .ne 7, 3) := by decide +kernel
theorem dX9_isLine_78 : decode cX9_isLine 78 = .ok (.iconst 1, 1) := by decide +kernel
theorem dX9_isLine_79 : decode cX9_isLine 79 = .ok (.goto 4, 3) := by decide +kernel
theorem dX9_isLine_82 : decode cX9_isLine 82 = .ok (.iconst 0, 1) := by decide +kernel
theorem dX9_isLine_83 : decode cX9_isLine 83 = .ok (.ireturn, 1) := by decide +kernel
theorem dX9_isDrawn_0 : decode cX9_isDrawn 0 = .ok (.aload 4, 2) := by decide +kernel
theorem dX9_isDrawn_2 : decode cX9_isDrawn 2 = .ok (.iload_n 3, 1) := by decide +kernel
theorem dX9_isDrawn_3 : decode cX9_isDrawn 3 = .ok (.aload 4, 2) := by decide +kernel
theorem dX9_isDrawn_5 : decode cX9_isDrawn 5 = .ok (.arraylength, 1) := by decide +kernel
theorem dX9_isDrawn_6 : decode cX9_isDrawn 6 = .ok (.invokestatic 32, 3) := by decide +kernel
theorem dX9_isDrawn_9 : decode cX9_isDrawn 9 = .ok (.iaload, 1) := by decide +kernel
theorem dX9_isDrawn_10 : decode cX9_isDrawn 10 = .ok (.istore 5, 2) := by decide +kernel
theorem dX9_isDrawn_12 : decode cX9_isDrawn 12 = .ok (.aload_n 0, 1) := by decide +kernel
theorem dX9_isDrawn_13 : decode cX9_isDrawn 13 = .ok (.getfield 14, 3) := by decide +kernel
theorem dX9_isDrawn_16 : decode cX9_isDrawn 16 = .ok (.iload_n 2, 1) := by decide +kernel
theorem dX9_isDrawn_17 : decode cX9_isDrawn 17 = .ok (.iaload, 1) := by decide +kernel
theorem dX9_isDrawn_18 : decode cX9_isDrawn 18 = .ok (.istore 6, 2) := by decide +kernel
theorem dX9_isDrawn_20 : decode cX9_isDrawn 20 = .ok (.iload 6, 2) := by decide +kernel
theorem dX9_isDrawn_22 : decode cX9_isDrawn 22 = .ok (.bipush 12, 2) := by decide +kernel
theorem dX9_isDrawn_24 : decode cX9_isDrawn 24 = .ok (.if_icmp .ne 5, 3) := by decide +kernel
theorem dX9_isDrawn_27 : decode cX9_isDrawn 27 = .ok (.iconst 1, 1) := by decide +kernel
theorem dX9_isDrawn_28 : decode cX9_isDrawn 28 = .ok (.ireturn, 1) := by decide +kernel
theorem dX9_isDrawn_29 : decode cX9_isDrawn 29 = .ok (.bipush 12, 2) := by decide +kernel
theorem dX9_isDrawn_31 : decode cX9_isDrawn 31 = .ok (.iload 6, 2) := by decide +kernel
theorem dX9_isDrawn_33 : decode cX9_isDrawn 33 = .ok (.iconst 1, 1) := by decide +kernel
theorem dX9_isDrawn_34 : decode cX9_isDrawn 34 = .ok (.iadd, 1) := by decide +kernel
theorem dX9_isDrawn_35 : decode cX9_isDrawn 35 = .ok (.iload_n 3, 1) := by decide +kernel
theorem dX9_isDrawn_36 : decode cX9_isDrawn 36 = .ok (.bipush 6, 2) := by decide +kernel
theorem dX9_isDrawn_38 : decode cX9_isDrawn 38 = .ok (.ishr, 1) := by decide +kernel
theorem dX9_isDrawn_39 : decode cX9_isDrawn 39 = .ok (.iconst 5, 1) := by decide +kernel
theorem dX9_isDrawn_40 : decode cX9_isDrawn 40 = .ok (.invokestatic 32, 3) := by decide +kernel
theorem dX9_isDrawn_43 : decode cX9_isDrawn 43 = .ok (.iadd, 1) := by decide +kernel
theorem dX9_isDrawn_44 : decode cX9_isDrawn 44 = .ok (.invokestatic 38, 3) := by decide +kernel
theorem dX9_isDrawn_47 : decode cX9_isDrawn 47 = .ok (.istore 7, 2) := by decide +kernel
theorem dX9_isDrawn_49 : decode cX9_isDrawn 49 = .ok (.iload 5, 2) := by decide +kernel
theorem dX9_isDrawn_51 : decode cX9_isDrawn 51 = .ok (.tableswitch 281 0 17 #[85, 105, 105, 122, 152, 281, 164, 184, 152, 281, 219, 281, 245, 264, 264, 264, 264, 264], 85) := by decide +kernel
theorem dX9_isDrawn_136 : decode cX9_isDrawn 136 = .ok (.aload_n 0, 1) := by decide +kernel
theorem dX9_isDrawn_137 : decode cX9_isDrawn 137 = .ok (.aload_n 1, 1) := by decide +kernel
theorem dX9_isDrawn_138 : decode cX9_isDrawn 138 = .ok (.iload_n 2, 1) := by decide +kernel
theorem dX9_isDrawn_139 : decode cX9_isDrawn 139 = .ok (.iconst 0, 1) := by decide +kernel
theorem dX9_isDrawn_140 : decode cX9_isDrawn 140 = .ok (.iload_n 3, 1) := by decide +kernel
theorem dX9_isDrawn_141 : decode cX9_isDrawn 141 = .ok (.iconst 4, 1) := by decide +kernel
theorem dX9_isDrawn_142 : decode cX9_isDrawn 142 = .ok (.ishr, 1) := by decide +kernel
theorem dX9_isDrawn_143 : decode cX9_isDrawn 143 = .ok (.bipush 21, 2) := by decide +kernel
theorem dX9_isDrawn_145 : decode cX9_isDrawn 145 = .ok (.invokestatic 32, 3) := by decide +kernel
theorem dX9_isDrawn_148 : decode cX9_isDrawn 148 = .ok (.bipush 8, 2) := by decide +kernel
theorem dX9_isDrawn_150 : decode cX9_isDrawn 150 = .ok (.isub, 1) := by decide +kernel
theorem dX9_isDrawn_151 : decode cX9_isDrawn 151 = .ok (.iconst 0, 1) := by decide +kernel
theorem dX9_isDrawn_152 : decode cX9_isDrawn 152 = .ok (.invokevirtual 43, 3) := by decide +kernel
theorem dX9_isDrawn_155 : decode cX9_isDrawn 155 = .ok (.ireturn, 1) := by decide +kernel
theorem dX9_isDrawn_156 : decode cX9_isDrawn 156 = .ok (.aload_n 0, 1) := by decide +kernel
theorem dX9_isDrawn_157 : decode cX9_isDrawn 157 = .ok (.aload_n 1, 1) := by decide +kernel
theorem dX9_isDrawn_158 : decode cX9_isDrawn 158 = .ok (.iload_n 2, 1) := by decide +kernel
theorem dX9_isDrawn_159 : decode cX9_isDrawn 159 = .ok (.iload 5, 2) := by decide +kernel
theorem dX9_isDrawn_161 : decode cX9_isDrawn 161 = .ok (.iload_n 3, 1) := by decide +kernel
theorem dX9_isDrawn_162 : decode cX9_isDrawn 162 = .ok (.iconst 4, 1) := by decide +kernel
theorem dX9_isDrawn_163 : decode cX9_isDrawn 163 = .ok (.ishr, 1) := by decide +kernel
theorem dX9_isDrawn_164 : decode cX9_isDrawn 164 = .ok (.iconst 3, 1) := by decide +kernel
theorem dX9_isDrawn_165 : decode cX9_isDrawn 165 = .ok (.invokestatic 32, 3) := by decide +kernel
theorem dX9_isDrawn_168 : decode cX9_isDrawn 168 = .ok (.iconst 0, 1) := by decide +kernel
theorem dX9_isDrawn_169 : decode cX9_isDrawn 169 = .ok (.invokevirtual 43, 3) := by decide +kernel
theorem dX9_isDrawn_172 : decode cX9_isDrawn 172 = .ok (.ireturn, 1) := by decide +kernel
theorem dX9_isDrawn_173 : decode cX9_isDrawn 173 = .ok (.aload_n 0, 1) := by decide +kernel
theorem dX9_isDrawn_174 : decode cX9_isDrawn 174 = .ok (.aload_n 1, 1) := by decide +kernel
theorem dX9_isDrawn_175 : decode cX9_isDrawn 175 = .ok (.iload_n 2, 1) := by decide +kernel
theorem dX9_isDrawn_176 : decode cX9_isDrawn 176 = .ok (.iconst 3, 1) := by decide +kernel
theorem dX9_isDrawn_177 : decode cX9_isDrawn 177 = .ok (.iload_n 3, 1) := by decide +kernel
theorem dX9_isDrawn_178 : decode cX9_isDrawn 178 = .ok (.iconst 4, 1) := by decide +kernel
theorem dX9_isDrawn_179 : decode cX9_isDrawn 179 = .ok (.ishr, 1) := by decide +kernel
theorem dX9_isDrawn_180 : decode cX9_isDrawn 180 = .ok (.iconst 3, 1) := by decide +kernel
theorem dX9_isDrawn_181 : decode cX9_isDrawn 181 = .ok (.invokestatic 32, 3) := by decide +kernel
theorem dX9_isDrawn_184 : decode cX9_isDrawn 184 = .ok (.iconst 0, 1) := by decide +kernel
theorem dX9_isDrawn_185 : decode cX9_isDrawn 185 = .ok (.iload 6, 2) := by decide +kernel
theorem dX9_isDrawn_187 : decode cX9_isDrawn 187 = .ok (.iload_n 3, 1) := by decide +kernel
theorem dX9_isDrawn_188 : decode cX9_isDrawn 188 = .ok (.bipush 6, 2) := by decide +kernel
theorem dX9_isDrawn_190 : decode cX9_isDrawn 190 = .ok (.ishr, 1) := by decide +kernel
theorem dX9_isDrawn_191 : decode cX9_isDrawn 191 = .ok (.iconst 4, 1) := by decide +kernel
theorem dX9_isDrawn_192 : decode cX9_isDrawn 192 = .ok (.invokestatic 32, 3) := by decide +kernel
theorem dX9_isDrawn_195 : decode cX9_isDrawn 195 = .ok (.isub, 1) := by decide +kernel
theorem dX9_isDrawn_196 : decode cX9_isDrawn 196 = .ok (.invokestatic 47, 3) := by decide +kernel
theorem dX9_isDrawn_199 : decode cX9_isDrawn 199 = .ok (.invokevirtual 43, 3) := by decide +kernel
theorem dX9_isDrawn_202 : decode cX9_isDrawn 202 = .ok (.ireturn, 1) := by decide +kernel
theorem dX9_isDrawn_203 : decode cX9_isDrawn 203 = .ok (.aload_n 0, 1) := by decide +kernel
theorem dX9_isDrawn_204 : decode cX9_isDrawn 204 = .ok (.aload_n 1, 1) := by decide +kernel
theorem dX9_isDrawn_205 : decode cX9_isDrawn 205 = .ok (.iload_n 2, 1) := by decide +kernel
theorem dX9_isDrawn_206 : decode cX9_isDrawn 206 = .ok (.iload 5, 2) := by decide +kernel
theorem dX9_isDrawn_208 : decode cX9_isDrawn 208 = .ok (.iconst 0, 1) := by decide +kernel
theorem dX9_isDrawn_209 : decode cX9_isDrawn 209 = .ok (.iload 7, 2) := by decide +kernel
theorem dX9_isDrawn_211 : decode cX9_isDrawn 211 = .ok (.invokevirtual 43, 3) := by decide +kernel
theorem dX9_isDrawn_214 : decode cX9_isDrawn 214 = .ok (.ireturn, 1) := by decide +kernel
theorem dX9_isDrawn_215 : decode cX9_isDrawn 215 = .ok (.aload_n 0, 1) := by decide +kernel
theorem dX9_isDrawn_216 : decode cX9_isDrawn 216 = .ok (.aload_n 1, 1) := by decide +kernel
theorem dX9_isDrawn_217 : decode cX9_isDrawn 217 = .ok (.iload_n 2, 1) := by decide +kernel
theorem dX9_isDrawn_218 : decode cX9_isDrawn 218 = .ok (.bipush 6, 2) := by decide +kernel
theorem dX9_isDrawn_220 : decode cX9_isDrawn 220 = .ok (.iconst 1, 1) := by decide +kernel
theorem dX9_isDrawn_221 : decode cX9_isDrawn 221 = .ok (.iload_n 3, 1) := by decide +kernel
theorem dX9_isDrawn_222 : decode cX9_isDrawn 222 = .ok (.iconst 4, 1) := by decide +kernel
theorem dX9_isDrawn_223 : decode cX9_isDrawn 223 = .ok (.ishr, 1) := by decide +kernel
theorem dX9_isDrawn_224 : decode cX9_isDrawn 224 = .ok (.bipush 7, 2) := by decide +kernel
theorem dX9_isDrawn_226 : decode cX9_isDrawn 226 = .ok (.invokestatic 32, 3) := by decide +kernel
theorem dX9_isDrawn_229 : decode cX9_isDrawn 229 = .ok (.iadd, 1) := by decide +kernel
theorem dX9_isDrawn_230 : decode cX9_isDrawn 230 = .ok (.iconst 0, 1) := by decide +kernel
theorem dX9_isDrawn_231 : decode cX9_isDrawn 231 = .ok (.invokevirtual 43, 3) := by decide +kernel
theorem dX9_isDrawn_234 : decode cX9_isDrawn 234 = .ok (.ireturn, 1) := by decide +kernel
theorem dX9_isDrawn_235 : decode cX9_isDrawn 235 = .ok (.aload_n 0, 1) := by decide +kernel
theorem dX9_isDrawn_236 : decode cX9_isDrawn 236 = .ok (.aload_n 1, 1) := by decide +kernel
theorem dX9_isDrawn_237 : decode cX9_isDrawn 237 = .ok (.iload_n 2, 1) := by decide +kernel
theorem dX9_isDrawn_238 : decode cX9_isDrawn 238 = .ok (.bipush 7, 2) := by decide +kernel
theorem dX9_isDrawn_240 : decode cX9_isDrawn 240 = .ok (.iload_n 3, 1) := by decide +kernel
theorem dX9_isDrawn_241 : decode cX9_isDrawn 241 = .ok (.iconst 4, 1) := by decide +kernel
theorem dX9_isDrawn_242 : decode cX9_isDrawn 242 = .ok (.ishr, 1) := by decide +kernel
theorem dX9_isDrawn_243 : decode cX9_isDrawn 243 = .ok (.iconst 3, 1) := by decide +kernel
theorem dX9_isDrawn_244 : decode cX9_isDrawn 244 = .ok (.invokestatic 32, 3) := by decide +kernel
theorem dX9_isDrawn_247 : decode cX9_isDrawn 247 = .ok (.ifCond .ne 16, 3) := by decide +kernel
theorem dX9_isDrawn_250 : decode cX9_isDrawn 250 = .ok (.iconst 1, 1) := by decide +kernel
theorem dX9_isDrawn_251 : decode cX9_isDrawn 251 = .ok (.iload_n 3, 1) := by decide +kernel
theorem dX9_isDrawn_252 : decode cX9_isDrawn 252 = .ok (.iconst 5, 1) := by decide +kernel
theorem dX9_isDrawn_253 : decode cX9_isDrawn 253 = .ok (.ishr, 1) := by decide +kernel
theorem dX9_isDrawn_254 : decode cX9_isDrawn 254 = .ok (.bipush 6, 2) := by decide +kernel
theorem dX9_isDrawn_256 : decode cX9_isDrawn 256 = .ok (.invokestatic 32, 3) := by decide +kernel
theorem dX9_isDrawn_259 : decode cX9_isDrawn 259 = .ok (.iadd, 1) := by decide +kernel
theorem dX9_isDrawn_260 : decode cX9_isDrawn 260 = .ok (.goto 4, 3) := by decide +kernel
theorem dX9_isDrawn_263 : decode cX9_isDrawn 263 = .ok (.iconst 0, 1) := by decide +kernel
theorem dX9_isDrawn_264 : decode cX9_isDrawn 264 = .ok (.iload 7, 2) := by decide +kernel
theorem dX9_isDrawn_266 : decode cX9_isDrawn 266 = .ok (.invokevirtual 43, 3) := by decide +kernel
theorem dX9_isDrawn_269 : decode cX9_isDrawn 269 = .ok (.ireturn, 1) := by decide +kernel
theorem dX9_isDrawn_270 : decode cX9_isDrawn 270 = .ok (.aload_n 0, 1) := by decide +kernel
theorem dX9_isDrawn_271 : decode cX9_isDrawn 271 = .ok (.aload_n 1, 1) := by decide +kernel
theorem dX9_isDrawn_272 : decode cX9_isDrawn 272 = .ok (.iload_n 2, 1) := by decide +kernel
theorem dX9_isDrawn_273 : decode cX9_isDrawn 273 = .ok (.bipush 10, 2) := by decide +kernel
theorem dX9_isDrawn_275 : decode cX9_isDrawn 275 = .ok (.iload_n 2, 1) := by decide +kernel
theorem dX9_isDrawn_276 : decode cX9_isDrawn 276 = .ok (.ifCond .ne 8, 3) := by decide +kernel
theorem dX9_isDrawn_279 : decode cX9_isDrawn 279 = .ok (.bipush 7, 2) := by decide +kernel
theorem dX9_isDrawn_281 : decode cX9_isDrawn 281 = .ok (.goto 10, 3) := by decide +kernel
theorem dX9_isDrawn_284 : decode cX9_isDrawn 284 = .ok (.iload_n 3, 1) := by decide +kernel
theorem dX9_isDrawn_285 : decode cX9_isDrawn 285 = .ok (.iconst 4, 1) := by decide +kernel
theorem dX9_isDrawn_286 : decode cX9_isDrawn 286 = .ok (.ishr, 1) := by decide +kernel
theorem dX9_isDrawn_287 : decode cX9_isDrawn 287 = .ok (.iload_n 2, 1) := by decide +kernel
theorem dX9_isDrawn_288 : decode cX9_isDrawn 288 = .ok (.invokestatic 32, 3) := by decide +kernel
theorem dX9_isDrawn_291 : decode cX9_isDrawn 291 = .ok (.iconst 0, 1) := by decide +kernel
theorem dX9_isDrawn_292 : decode cX9_isDrawn 292 = .ok (.invokevirtual 43, 3) := by decide +kernel
theorem dX9_isDrawn_295 : decode cX9_isDrawn 295 = .ok (.ireturn, 1) := by decide +kernel
theorem dX9_isDrawn_296 : decode cX9_isDrawn 296 = .ok (.aload_n 0, 1) := by decide +kernel
theorem dX9_isDrawn_297 : decode cX9_isDrawn 297 = .ok (.aload_n 1, 1) := by decide +kernel
theorem dX9_isDrawn_298 : decode cX9_isDrawn 298 = .ok (.iload_n 2, 1) := by decide +kernel
theorem dX9_isDrawn_299 : decode cX9_isDrawn 299 = .ok (.bipush 12, 2) := by decide +kernel
theorem dX9_isDrawn_301 : decode cX9_isDrawn 301 = .ok (.iconst 1, 1) := by decide +kernel
theorem dX9_isDrawn_302 : decode cX9_isDrawn 302 = .ok (.iload_n 3, 1) := by decide +kernel
theorem dX9_isDrawn_303 : decode cX9_isDrawn 303 = .ok (.iconst 4, 1) := by decide +kernel
theorem dX9_isDrawn_304 : decode cX9_isDrawn 304 = .ok (.ishr, 1) := by decide +kernel
theorem dX9_isDrawn_305 : decode cX9_isDrawn 305 = .ok (.iconst 4, 1) := by decide +kernel
theorem dX9_isDrawn_306 : decode cX9_isDrawn 306 = .ok (.invokestatic 32, 3) := by decide +kernel
theorem dX9_isDrawn_309 : decode cX9_isDrawn 309 = .ok (.iadd, 1) := by decide +kernel
theorem dX9_isDrawn_310 : decode cX9_isDrawn 310 = .ok (.iconst 0, 1) := by decide +kernel
theorem dX9_isDrawn_311 : decode cX9_isDrawn 311 = .ok (.invokevirtual 43, 3) := by decide +kernel
theorem dX9_isDrawn_314 : decode cX9_isDrawn 314 = .ok (.ireturn, 1) := by decide +kernel
theorem dX9_isDrawn_315 : decode cX9_isDrawn 315 = .ok (.aload_n 0, 1) := by decide +kernel
theorem dX9_isDrawn_316 : decode cX9_isDrawn 316 = .ok (.aload_n 1, 1) := by decide +kernel
theorem dX9_isDrawn_317 : decode cX9_isDrawn 317 = .ok (.iload_n 2, 1) := by decide +kernel
theorem dX9_isDrawn_318 : decode cX9_isDrawn 318 = .ok (.iload 5, 2) := by decide +kernel
theorem dX9_isDrawn_320 : decode cX9_isDrawn 320 = .ok (.iload_n 3, 1) := by decide +kernel
theorem dX9_isDrawn_321 : decode cX9_isDrawn 321 = .ok (.iconst 4, 1) := by decide +kernel
theorem dX9_isDrawn_322 : decode cX9_isDrawn 322 = .ok (.ishr, 1) := by decide +kernel
theorem dX9_isDrawn_323 : decode cX9_isDrawn 323 = .ok (.iconst 2, 1) := by decide +kernel
theorem dX9_isDrawn_324 : decode cX9_isDrawn 324 = .ok (.invokestatic 32, 3) := by decide +kernel
theorem dX9_isDrawn_327 : decode cX9_isDrawn 327 = .ok (.iconst 0, 1) := by decide +kernel
theorem dX9_isDrawn_328 : decode cX9_isDrawn 328 = .ok (.invokevirtual 43, 3) := by decide +kernel
theorem dX9_isDrawn_331 : decode cX9_isDrawn 331 = .ok (.ireturn, 1) := by decide +kernel
theorem dX9_isDrawn_332 : decode cX9_isDrawn 332 = .ok (.aload_n 0, 1) := by decide +kernel
theorem dX9_isDrawn_333 : decode cX9_isDrawn 333 = .ok (.aload_n 1, 1) := by decide +kernel
theorem dX9_isDrawn_334 : decode cX9_isDrawn 334 = .ok (.iload_n 2, 1) := by decide +kernel
theorem dX9_isDrawn_335 : decode cX9_isDrawn 335 = .ok (.iload 5, 2) := by decide +kernel
theorem dX9_isDrawn_337 : decode cX9_isDrawn 337 = .ok (.iconst 0, 1) := by decide +kernel
theorem dX9_isDrawn_338 : decode cX9_isDrawn 338 = .ok (.iconst 0, 1) := by decide +kernel
theorem dX9_isDrawn_339 : decode cX9_isDrawn 339 = .ok (.invokevirtual 43, 3) := by decide +kernel
theorem dX9_isDrawn_342 : decode cX9_isDrawn 342 = .ok (.ireturn, 1) := by decide +kernel

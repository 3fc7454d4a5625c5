theorem d_T_start_0 : decode mb_T_start 0 = .ok (.aload_n 0, 1) := by decide +kernel
theorem d_T_start_1 : decode mb_T_start 1 = .ok (.getfield 31, 3) := by decide +kernel
theorem d_T_start_4 : decode mb_T_start 4 = .ok (.iload_n 1, 1) := by decide +kernel
theorem d_T_start_5 : decode mb_T_start 5 = .ok (.invokevirtual 54, 3) := by decide +kernel
theorem d_T_start_8 : decode mb_T_start 8 = .ok (.astore 4, 2) := by decide +kernel
theorem d_T_start_10 : decode mb_T_start 10 = .ok (.aload 4, 2) := by decide +kernel
theorem d_T_start_12 : decode mb_T_start 12 = .ok (.ifnull 11, 3) := by decide +kernel
theorem d_T_start_15 : decode mb_T_start 15 = .ok (.aload 4, 2) := by decide +kernel
theorem d_T_start_17 : decode mb_T_start 17 = .ok (.getfield 58, 3) := by decide +kernel
theorem d_T_start_20 : decode mb_T_start 20 = .ok (.ifCond .eq 5, 3) := by decide +kernel
theorem d_T_start_23 : decode mb_T_start 23 = .ok (.iconst 0, 1) := by decide +kernel
theorem d_T_start_24 : decode mb_T_start 24 = .ok (.ireturn, 1) := by decide +kernel
theorem d_T_start_25 : decode mb_T_start 25 = .ok (.iload_n 2, 1) := by decide +kernel
theorem d_T_start_26 : decode mb_T_start 26 = .ok (.ifCond .lt 20, 3) := by decide +kernel
theorem d_T_start_29 : decode mb_T_start 29 = .ok (.iload_n 2, 1) := by decide +kernel
theorem d_T_start_30 : decode mb_T_start 30 = .ok (.ldc 64, 2) := by decide +kernel
theorem d_T_start_32 : decode mb_T_start 32 = .ok (.if_icmp .gt 14, 3) := by decide +kernel
theorem d_T_start_35 : decode mb_T_start 35 = .ok (.iload_n 3, 1) := by decide +kernel
theorem d_T_start_36 : decode mb_T_start 36 = .ok (.ifCond .lt 10, 3) := by decide +kernel
theorem d_T_start_39 : decode mb_T_start 39 = .ok (.iload_n 3, 1) := by decide +kernel
theorem d_T_start_40 : decode mb_T_start 40 = .ok (.sipush 255, 3) := by decide +kernel
theorem d_T_start_43 : decode mb_T_start 43 = .ok (.if_icmp .le 5, 3) := by decide +kernel
theorem d_T_start_46 : decode mb_T_start 46 = .ok (.iconst 0, 1) := by decide +kernel
theorem d_T_start_47 : decode mb_T_start 47 = .ok (.ireturn, 1) := by decide +kernel
theorem d_T_start_48 : decode mb_T_start 48 = .ok (.aload_n 0, 1) := by decide +kernel
theorem d_T_start_49 : decode mb_T_start 49 = .ok (.getfield 31, 3) := by decide +kernel
theorem d_T_start_52 : decode mb_T_start 52 = .ok (.aload 4, 2) := by decide +kernel
theorem d_T_start_54 : decode mb_T_start 54 = .ok (.iload_n 2, 1) := by decide +kernel
theorem d_T_start_55 : decode mb_T_start 55 = .ok (.iload_n 3, 1) := by decide +kernel
theorem d_T_start_56 : decode mb_T_start 56 = .ok (.invokevirtual 65, 3) := by decide +kernel
theorem d_T_start_59 : decode mb_T_start 59 = .ok (.aload_n 0, 1) := by decide +kernel
theorem d_T_start_60 : decode mb_T_start 60 = .ok (.getfield 31, 3) := by decide +kernel
theorem d_T_start_63 : decode mb_T_start 63 = .ok (.invokevirtual 69, 3) := by decide +kernel
theorem d_T_start_66 : decode mb_T_start 66 = .ok (.iconst 1, 1) := by decide +kernel
theorem d_T_start_67 : decode mb_T_start 67 = .ok (.ireturn, 1) := by decide +kernel
theorem d_T_stop_0 : decode mb_T_stop 0 = .ok (.aload_n 0, 1) := by decide +kernel
theorem d_T_stop_1 : decode mb_T_stop 1 = .ok (.getfield 31, 3) := by decide +kernel
theorem d_T_stop_4 : decode mb_T_stop 4 = .ok (.iload_n 1, 1) := by decide +kernel
theorem d_T_stop_5 : decode mb_T_stop 5 = .ok (.invokevirtual 54, 3) := by decide +kernel
theorem d_T_stop_8 : decode mb_T_stop 8 = .ok (.astore_n 2, 1) := by decide +kernel
theorem d_T_stop_9 : decode mb_T_stop 9 = .ok (.aload_n 2, 1) := by decide +kernel
theorem d_T_stop_10 : decode mb_T_stop 10 = .ok (.ifnull 10, 3) := by decide +kernel
theorem d_T_stop_13 : decode mb_T_stop 13 = .ok (.aload_n 2, 1) := by decide +kernel
theorem d_T_stop_14 : decode mb_T_stop 14 = .ok (.getfield 58, 3) := by decide +kernel
theorem d_T_stop_17 : decode mb_T_stop 17 = .ok (.ifCond .ne 5, 3) := by decide +kernel
theorem d_T_stop_20 : decode mb_T_stop 20 = .ok (.iconst 0, 1) := by decide +kernel
theorem d_T_stop_21 : decode mb_T_stop 21 = .ok (.ireturn, 1) := by decide +kernel
theorem d_T_stop_22 : decode mb_T_stop 22 = .ok (.aload_n 0, 1) := by decide +kernel
theorem d_T_stop_23 : decode mb_T_stop 23 = .ok (.getfield 31, 3) := by decide +kernel
theorem d_T_stop_26 : decode mb_T_stop 26 = .ok (.aload_n 2, 1) := by decide +kernel
theorem d_T_stop_27 : decode mb_T_stop 27 = .ok (.sipush 254, 3) := by decide +kernel
theorem d_T_stop_30 : decode mb_T_stop 30 = .ok (.invokevirtual 72, 3) := by decide +kernel
theorem d_T_stop_33 : decode mb_T_stop 33 = .ok (.aload_n 0, 1) := by decide +kernel
theorem d_T_stop_34 : decode mb_T_stop 34 = .ok (.getfield 31, 3) := by decide +kernel
theorem d_T_stop_37 : decode mb_T_stop 37 = .ok (.invokevirtual 69, 3) := by decide +kernel
theorem d_T_stop_40 : decode mb_T_stop 40 = .ok (.iconst 1, 1) := by decide +kernel
theorem d_T_stop_41 : decode mb_T_stop 41 = .ok (.ireturn, 1) := by decide +kernel
theorem d_T_timer_0 : decode mb_T_timer 0 = .ok (.iload_n 1, 1) := by decide +kernel
theorem d_T_timer_1 : decode mb_T_timer 1 = .ok (.ifCond .eq 18, 3) := by decide +kernel
theorem d_T_timer_4 : decode mb_T_timer 4 = .ok (.iload_n 1, 1) := by decide +kernel
theorem d_T_timer_5 : decode mb_T_timer 5 = .ok (.bipush 16, 2) := by decide +kernel
theorem d_T_timer_7 : decode mb_T_timer 7 = .ok (.if_icmp .lt 10, 3) := by decide +kernel
theorem d_T_timer_10 : decode mb_T_timer 10 = .ok (.iload_n 1, 1) := by decide +kernel
theorem d_T_timer_11 : decode mb_T_timer 11 = .ok (.sipush 1000, 3) := by decide +kernel
theorem d_T_timer_14 : decode mb_T_timer 14 = .ok (.if_icmp .le 5, 3) := by decide +kernel
theorem d_T_timer_17 : decode mb_T_timer 17 = .ok (.iconst 0, 1) := by decide +kernel
theorem d_T_timer_18 : decode mb_T_timer 18 = .ok (.ireturn, 1) := by decide +kernel
theorem d_T_timer_19 : decode mb_T_timer 19 = .ok (.aload_n 0, 1) := by decide +kernel
theorem d_T_timer_20 : decode mb_T_timer 20 = .ok (.getfield 38, 3) := by decide +kernel
theorem d_T_timer_23 : decode mb_T_timer 23 = .ok (.iload_n 1, 1) := by decide +kernel
theorem d_T_timer_24 : decode mb_T_timer 24 = .ok (.putfield 76, 3) := by decide +kernel
theorem d_T_timer_27 : decode mb_T_timer 27 = .ok (.aload_n 0, 1) := by decide +kernel
theorem d_T_timer_28 : decode mb_T_timer 28 = .ok (.getfield 38, 3) := by decide +kernel
theorem d_T_timer_31 : decode mb_T_timer 31 = .ok (.iload_n 1, 1) := by decide +kernel
theorem d_T_timer_32 : decode mb_T_timer 32 = .ok (.putfield 79, 3) := by decide +kernel
theorem d_T_timer_35 : decode mb_T_timer 35 = .ok (.iconst 1, 1) := by decide +kernel
theorem d_T_timer_36 : decode mb_T_timer 36 = .ok (.ireturn, 1) := by decide +kernel
theorem d_T_run_0 : decode mb_T_run 0 = .ok (.iload_n 1, 1) := by decide +kernel
theorem d_T_run_1 : decode mb_T_run 1 = .ok (.ifCond .lt 10, 3) := by decide +kernel
theorem d_T_run_4 : decode mb_T_run 4 = .ok (.iload_n 1, 1) := by decide +kernel
theorem d_T_run_5 : decode mb_T_run 5 = .ok (.sipush 400, 3) := by decide +kernel
theorem d_T_run_8 : decode mb_T_run 8 = .ok (.if_icmp .le 5, 3) := by decide +kernel
theorem d_T_run_11 : decode mb_T_run 11 = .ok (.iconst (-1), 1) := by decide +kernel
theorem d_T_run_12 : decode mb_T_run 12 = .ok (.ireturn, 1) := by decide +kernel
theorem d_T_run_13 : decode mb_T_run 13 = .ok (.iconst 0, 1) := by decide +kernel
theorem d_T_run_14 : decode mb_T_run 14 = .ok (.istore_n 2, 1) := by decide +kernel
theorem d_T_run_15 : decode mb_T_run 15 = .ok (.iload_n 2, 1) := by decide +kernel
theorem d_T_run_16 : decode mb_T_run 16 = .ok (.iload_n 1, 1) := by decide +kernel
theorem d_T_run_17 : decode mb_T_run 17 = .ok (.if_icmp .ge 113, 3) := by decide +kernel
theorem d_T_run_20 : decode mb_T_run 20 = .ok (.aload_n 0, 1) := by decide +kernel
theorem d_T_run_21 : decode mb_T_run 21 = .ok (.getfield 38, 3) := by decide +kernel
theorem d_T_run_24 : decode mb_T_run 24 = .ok (.getfield 82, 3) := by decide +kernel
theorem d_T_run_27 : decode mb_T_run 27 = .ok (.ifCond .eq 27, 3) := by decide +kernel
theorem d_T_run_30 : decode mb_T_run 30 = .ok (.aload_n 0, 1) := by decide +kernel
theorem d_T_run_31 : decode mb_T_run 31 = .ok (.getfield 31, 3) := by decide +kernel
theorem d_T_run_34 : decode mb_T_run 34 = .ok (.invokevirtual 86, 3) := by decide +kernel
theorem d_T_run_37 : decode mb_T_run 37 = .ok (.ifCond .eq 17, 3) := by decide +kernel
theorem d_T_run_40 : decode mb_T_run 40 = .ok (.aload_n 0, 1) := by decide +kernel
theorem d_T_run_41 : decode mb_T_run 41 = .ok (.getfield 38, 3) := by decide +kernel
theorem d_T_run_44 : decode mb_T_run 44 = .ok (.invokevirtual 90, 3) := by decide +kernel
theorem d_T_run_47 : decode mb_T_run 47 = .ok (.aload_n 0, 1) := by decide +kernel
theorem d_T_run_48 : decode mb_T_run 48 = .ok (.getfield 31, 3) := by decide +kernel
theorem d_T_run_51 : decode mb_T_run 51 = .ok (.invokevirtual 93, 3) := by decide +kernel
theorem d_T_run_54 : decode mb_T_run 54 = .ok (.aload_n 0, 1) := by decide +kernel
theorem d_T_run_55 : decode mb_T_run 55 = .ok (.getfield 31, 3) := by decide +kernel
theorem d_T_run_58 : decode mb_T_run 58 = .ok (.getfield 96, 3) := by decide +kernel
theorem d_T_run_61 : decode mb_T_run 61 = .ok (.ifnull 34, 3) := by decide +kernel
theorem d_T_run_64 : decode mb_T_run 64 = .ok (.aload_n 0, 1) := by decide +kernel
theorem d_T_run_65 : decode mb_T_run 65 = .ok (.getfield 31, 3) := by decide +kernel
theorem d_T_run_68 : decode mb_T_run 68 = .ok (.aload_n 0, 1) := by decide +kernel
theorem d_T_run_69 : decode mb_T_run 69 = .ok (.getfield 24, 3) := by decide +kernel
theorem d_T_run_72 : decode mb_T_run 72 = .ok (.invokevirtual 100, 3) := by decide +kernel
theorem d_T_run_75 : decode mb_T_run 75 = .ok (.invokevirtual 104, 3) := by decide +kernel
theorem d_T_run_78 : decode mb_T_run 78 = .ok (.aload_n 0, 1) := by decide +kernel
theorem d_T_run_79 : decode mb_T_run 79 = .ok (.getfield 38, 3) := by decide +kernel
theorem d_T_run_82 : decode mb_T_run 82 = .ok (.aload_n 0, 1) := by decide +kernel
theorem d_T_run_83 : decode mb_T_run 83 = .ok (.getfield 24, 3) := by decide +kernel
theorem d_T_run_86 : decode mb_T_run 86 = .ok (.getfield 108, 3) := by decide +kernel
theorem d_T_run_89 : decode mb_T_run 89 = .ok (.invokevirtual 111, 3) := by decide +kernel
theorem d_T_run_92 : decode mb_T_run 92 = .ok (.goto 32, 3) := by decide +kernel
theorem d_T_run_95 : decode mb_T_run 95 = .ok (.aload_n 0, 1) := by decide +kernel
theorem d_T_run_96 : decode mb_T_run 96 = .ok (.getfield 38, 3) := by decide +kernel
theorem d_T_run_99 : decode mb_T_run 99 = .ok (.getfield 76, 3) := by decide +kernel
theorem d_T_run_102 : decode mb_T_run 102 = .ok (.ifCond .le 20, 3) := by decide +kernel
theorem d_T_run_105 : decode mb_T_run 105 = .ok (.aload_n 0, 1) := by decide +kernel
theorem d_T_run_106 : decode mb_T_run 106 = .ok (.getfield 38, 3) := by decide +kernel
theorem d_T_run_109 : decode mb_T_run 109 = .ok (.aload_n 0, 1) := by decide +kernel
theorem d_T_run_110 : decode mb_T_run 110 = .ok (.getfield 38, 3) := by decide +kernel
theorem d_T_run_113 : decode mb_T_run 113 = .ok (.getfield 79, 3) := by decide +kernel
theorem d_T_run_116 : decode mb_T_run 116 = .ok (.invokevirtual 111, 3) := by decide +kernel
theorem d_T_run_119 : decode mb_T_run 119 = .ok (.goto 5, 3) := by decide +kernel
theorem d_T_run_122 : decode mb_T_run 122 = .ok (.iload_n 2, 1) := by decide +kernel
theorem d_T_run_123 : decode mb_T_run 123 = .ok (.ireturn, 1) := by decide +kernel
theorem d_T_run_124 : decode mb_T_run 124 = .ok (.iinc 2 1, 3) := by decide +kernel
theorem d_T_run_127 : decode mb_T_run 127 = .ok (.goto (-112), 3) := by decide +kernel
theorem d_T_run_130 : decode mb_T_run 130 = .ok (.iload_n 1, 1) := by decide +kernel
theorem d_T_run_131 : decode mb_T_run 131 = .ok (.ireturn, 1) := by decide +kernel
theorem d_T_state_0 : decode mb_T_state 0 = .ok (.aload_n 0, 1) := by decide +kernel
theorem d_T_state_1 : decode mb_T_state 1 = .ok (.getfield 31, 3) := by decide +kernel
theorem d_T_state_4 : decode mb_T_state 4 = .ok (.iload_n 1, 1) := by decide +kernel
theorem d_T_state_5 : decode mb_T_state 5 = .ok (.invokevirtual 54, 3) := by decide +kernel
theorem d_T_state_8 : decode mb_T_state 8 = .ok (.astore_n 2, 1) := by decide +kernel
theorem d_T_state_9 : decode mb_T_state 9 = .ok (.aload_n 2, 1) := by decide +kernel
theorem d_T_state_10 : decode mb_T_state 10 = .ok (.ifnonnull 7, 3) := by decide +kernel
theorem d_T_state_13 : decode mb_T_state 13 = .ok (.iconst (-1), 1) := by decide +kernel
theorem d_T_state_14 : decode mb_T_state 14 = .ok (.goto 7, 3) := by decide +kernel
theorem d_T_state_17 : decode mb_T_state 17 = .ok (.aload_n 2, 1) := by decide +kernel
theorem d_T_state_18 : decode mb_T_state 18 = .ok (.getfield 58, 3) := by decide +kernel
theorem d_T_state_21 : decode mb_T_state 21 = .ok (.ireturn, 1) := by decide +kernel
theorem d_T_register_0 : decode mb_T_register 0 = .ok (.aload_n 0, 1) := by decide +kernel
theorem d_T_register_1 : decode mb_T_register 1 = .ok (.getfield 31, 3) := by decide +kernel
theorem d_T_register_4 : decode mb_T_register 4 = .ok (.iload_n 1, 1) := by decide +kernel
theorem d_T_register_5 : decode mb_T_register 5 = .ok (.invokevirtual 54, 3) := by decide +kernel
theorem d_T_register_8 : decode mb_T_register 8 = .ok (.astore_n 3, 1) := by decide +kernel
theorem d_T_register_9 : decode mb_T_register 9 = .ok (.aload_n 3, 1) := by decide +kernel
theorem d_T_register_10 : decode mb_T_register 10 = .ok (.ifnull 17, 3) := by decide +kernel
theorem d_T_register_13 : decode mb_T_register 13 = .ok (.aload_n 3, 1) := by decide +kernel
theorem d_T_register_14 : decode mb_T_register 14 = .ok (.getfield 58, 3) := by decide +kernel
theorem d_T_register_17 : decode mb_T_register 17 = .ok (.ifCond .eq 10, 3) := by decide +kernel
theorem d_T_register_20 : decode mb_T_register 20 = .ok (.iload_n 2, 1) := by decide +kernel
theorem d_T_register_21 : decode mb_T_register 21 = .ok (.invokestatic 114, 3) := by decide +kernel
theorem d_T_register_24 : decode mb_T_register 24 = .ok (.ifCond .ne 5, 3) := by decide +kernel
theorem d_T_register_27 : decode mb_T_register 27 = .ok (.iconst (-1), 1) := by decide +kernel
theorem d_T_register_28 : decode mb_T_register 28 = .ok (.ireturn, 1) := by decide +kernel
theorem d_T_register_29 : decode mb_T_register 29 = .ok (.aload_n 0, 1) := by decide +kernel
theorem d_T_register_30 : decode mb_T_register 30 = .ok (.getfield 31, 3) := by decide +kernel
theorem d_T_register_33 : decode mb_T_register 33 = .ok (.aload_n 3, 1) := by decide +kernel
theorem d_T_register_34 : decode mb_T_register 34 = .ok (.invokevirtual 117, 3) := by decide +kernel
theorem d_T_register_37 : decode mb_T_register 37 = .ok (.iload_n 2, 1) := by decide +kernel
theorem d_T_register_38 : decode mb_T_register 38 = .ok (.invokevirtual 121, 3) := by decide +kernel
theorem d_T_register_41 : decode mb_T_register 41 = .ok (.ireturn, 1) := by decide +kernel
theorem d_T_queued_0 : decode mb_T_queued 0 = .ok (.aload_n 0, 1) := by decide +kernel
theorem d_T_queued_1 : decode mb_T_queued 1 = .ok (.getfield 31, 3) := by decide +kernel
theorem d_T_queued_4 : decode mb_T_queued 4 = .ok (.getfield 125, 3) := by decide +kernel
theorem d_T_queued_7 : decode mb_T_queued 7 = .ok (.iload_n 1, 1) := by decide +kernel
theorem d_T_queued_8 : decode mb_T_queued 8 = .ok (.invokevirtual 129, 3) := by decide +kernel
theorem d_T_queued_11 : decode mb_T_queued 11 = .ok (.ireturn, 1) := by decide +kernel
theorem d_T_sleeps_0 : decode mb_T_sleeps 0 = .ok (.aload_n 0, 1) := by decide +kernel
theorem d_T_sleeps_1 : decode mb_T_sleeps 1 = .ok (.getfield 31, 3) := by decide +kernel
theorem d_T_sleeps_4 : decode mb_T_sleeps 4 = .ok (.iload_n 1, 1) := by decide +kernel
theorem d_T_sleeps_5 : decode mb_T_sleeps 5 = .ok (.invokevirtual 54, 3) := by decide +kernel
theorem d_T_sleeps_8 : decode mb_T_sleeps 8 = .ok (.astore_n 2, 1) := by decide +kernel
theorem d_T_sleeps_9 : decode mb_T_sleeps 9 = .ok (.aload_n 2, 1) := by decide +kernel
theorem d_T_sleeps_10 : decode mb_T_sleeps 10 = .ok (.ifnull 11, 3) := by decide +kernel
theorem d_T_sleeps_13 : decode mb_T_sleeps 13 = .ok (.aload_n 2, 1) := by decide +kernel
theorem d_T_sleeps_14 : decode mb_T_sleeps 14 = .ok (.getfield 58, 3) := by decide +kernel
theorem d_T_sleeps_17 : decode mb_T_sleeps 17 = .ok (.iconst 3, 1) := by decide +kernel
theorem d_T_sleeps_18 : decode mb_T_sleeps 18 = .ok (.if_icmp .eq 7, 3) := by decide +kernel
theorem d_T_sleeps_21 : decode mb_T_sleeps 21 = .ok (.iconst 0, 1) := by decide +kernel
theorem d_T_sleeps_22 : decode mb_T_sleeps 22 = .ok (.goto 7, 3) := by decide +kernel
theorem d_T_sleeps_25 : decode mb_T_sleeps 25 = .ok (.aload_n 2, 1) := by decide +kernel
theorem d_T_sleeps_26 : decode mb_T_sleeps 26 = .ok (.getfield 134, 3) := by decide +kernel
theorem d_T_sleeps_29 : decode mb_T_sleeps 29 = .ok (.ireturn, 1) := by decide +kernel
theorem d_T_status_0 : decode mb_T_status 0 = .ok (.aload_n 0, 1) := by decide +kernel
theorem d_T_status_1 : decode mb_T_status 1 = .ok (.getfield 31, 3) := by decide +kernel
theorem d_T_status_4 : decode mb_T_status 4 = .ok (.iload_n 1, 1) := by decide +kernel
theorem d_T_status_5 : decode mb_T_status 5 = .ok (.invokevirtual 54, 3) := by decide +kernel
theorem d_T_status_8 : decode mb_T_status 8 = .ok (.astore_n 2, 1) := by decide +kernel
theorem d_T_status_9 : decode mb_T_status 9 = .ok (.aload_n 2, 1) := by decide +kernel
theorem d_T_status_10 : decode mb_T_status 10 = .ok (.ifnonnull 7, 3) := by decide +kernel
theorem d_T_status_13 : decode mb_T_status 13 = .ok (.iconst (-1), 1) := by decide +kernel
theorem d_T_status_14 : decode mb_T_status 14 = .ok (.goto 7, 3) := by decide +kernel
theorem d_T_status_17 : decode mb_T_status 17 = .ok (.aload_n 2, 1) := by decide +kernel
theorem d_T_status_18 : decode mb_T_status 18 = .ok (.getfield 137, 3) := by decide +kernel
theorem d_T_status_21 : decode mb_T_status 21 = .ok (.ireturn, 1) := by decide +kernel
theorem d_T_cycles_0 : decode mb_T_cycles 0 = .ok (.aload_n 0, 1) := by decide +kernel
theorem d_T_cycles_1 : decode mb_T_cycles 1 = .ok (.getfield 38, 3) := by decide +kernel
theorem d_T_cycles_4 : decode mb_T_cycles 4 = .ok (.getfield 140, 3) := by decide +kernel
theorem d_T_cycles_7 : decode mb_T_cycles 7 = .ok (.ireturn, 1) := by decide +kernel
theorem d_T_ticks_0 : decode mb_T_ticks 0 = .ok (.aload_n 0, 1) := by decide +kernel
theorem d_T_ticks_1 : decode mb_T_ticks 1 = .ok (.getfield 38, 3) := by decide +kernel
theorem d_T_ticks_4 : decode mb_T_ticks 4 = .ok (.getfield 143, 3) := by decide +kernel
theorem d_T_ticks_7 : decode mb_T_ticks 7 = .ok (.ireturn, 1) := by decide +kernel
theorem d_T_lost_0 : decode mb_T_lost 0 = .ok (.aload_n 0, 1) := by decide +kernel
theorem d_T_lost_1 : decode mb_T_lost 1 = .ok (.getfield 38, 3) := by decide +kernel
theorem d_T_lost_4 : decode mb_T_lost 4 = .ok (.getfield 82, 3) := by decide +kernel
theorem d_T_lost_7 : decode mb_T_lost 7 = .ok (.ifCond .eq 16, 3) := by decide +kernel
theorem d_T_lost_10 : decode mb_T_lost 10 = .ok (.aload_n 0, 1) := by decide +kernel
theorem d_T_lost_11 : decode mb_T_lost 11 = .ok (.getfield 38, 3) := by decide +kernel
theorem d_T_lost_14 : decode mb_T_lost 14 = .ok (.getfield 146, 3) := by decide +kernel
theorem d_T_lost_17 : decode mb_T_lost 17 = .ok (.ldc 149, 2) := by decide +kernel
theorem d_T_lost_19 : decode mb_T_lost 19 = .ok (.iadd, 1) := by decide +kernel
theorem d_T_lost_20 : decode mb_T_lost 20 = .ok (.goto 10, 3) := by decide +kernel
theorem d_T_lost_23 : decode mb_T_lost 23 = .ok (.aload_n 0, 1) := by decide +kernel
theorem d_T_lost_24 : decode mb_T_lost 24 = .ok (.getfield 38, 3) := by decide +kernel
theorem d_T_lost_27 : decode mb_T_lost 27 = .ok (.getfield 146, 3) := by decide +kernel
theorem d_T_lost_30 : decode mb_T_lost 30 = .ok (.ireturn, 1) := by decide +kernel
theorem d_T_left_0 : decode mb_T_left 0 = .ok (.aload_n 0, 1) := by decide +kernel
theorem d_T_left_1 : decode mb_T_left 1 = .ok (.getfield 38, 3) := by decide +kernel
theorem d_T_left_4 : decode mb_T_left 4 = .ok (.getfield 79, 3) := by decide +kernel
theorem d_T_left_7 : decode mb_T_left 7 = .ok (.ireturn, 1) := by decide +kernel
section CLS
variable {l : Launch} {D : va_G} {w : va_W}
variable {aT aK aQ aL aA aY aB aG aS aP aC aI : Nat} {tk : Nat → Nat} {cI cT : ClassId} {kr : Option Nat} {uz : Int32} {ul : Nat → Option Nat} {ks : Nat → Int32} {kv : Nat → Int32} {kz : Nat → Int32} {ku : Nat → Int32} {cb : Nat → Int32} {ga : Int32} {gb : Int32} {gd : Int32} {gc : Int32} {gx : Int32} {gy : Int32} {gu : Int32} {gs : Int32} {gp : Int32} {qa : Int32} {qb : Int32} {qd : Int32} {qc : Int32} {qx : Int32} {qy : Int32} {qu : Int32} {qs : Int32} {qp : Int32} {py : Int32} {po : Int32} {tp : Int32} {tl : Int32} {ta : Int32} {tv : Int32} {tm : Int32} {tg : Bool}
set_option maxHeartbeats 4000000 in
set_option maxRecDepth 100000 in
theorem c_tc_T_start {x1 : Int32} {x2 : Int32} {x3 : Int32} {z : Bool × (Option Nat) × Int32 × (Nat → Option Nat) × (Nat → Int32) × (Nat → Int32) × (Nat → Int32) × Int32 × Int32 × Int32 × Int32 × Int32 × Int32 × Int32 × Int32 × Int32 × Int32 × Int32 × Int32 × Int32 × Int32 × Int32 × Int32 × Int32 × Int32} (hf : tc_T_start x1 x2 x3 kr uz ul ks kv cb ga gb gd gc gx gy gu gs gp qa qb qd qc qx qy qu qs qp = some z) : cs_i l my_T_start mb_T_start 5 .boolean rm_c_T_start D (ty_ cI cT) [.ref aT, .int x1, .int x2, .int x3] (ct_ aT aK aQ aL aA tk aY aB aG aS aP aC aI cI cT kr uz ul ks kv kz ku cb ga gb gd gc gx gy gu gs gp qa qb qd qc qx qy qu qs qp py po tp tl ta tv tm tg) (ct_ aT aK aQ aL aA tk aY aB aG aS aP aC aI cI cT z.2.1 z.2.2.1 z.2.2.2.1 z.2.2.2.2.1 z.2.2.2.2.2.1 kz ku z.2.2.2.2.2.2.1 z.2.2.2.2.2.2.2.1 z.2.2.2.2.2.2.2.2.1 z.2.2.2.2.2.2.2.2.2.1 z.2.2.2.2.2.2.2.2.2.2.1 z.2.2.2.2.2.2.2.2.2.2.2.1 z.2.2.2.2.2.2.2.2.2.2.2.2.1 z.2.2.2.2.2.2.2.2.2.2.2.2.2.1 z.2.2.2.2.2.2.2.2.2.2.2.2.2.2.1 z.2.2.2.2.2.2.2.2.2.2.2.2.2.2.2.1 z.2.2.2.2.2.2.2.2.2.2.2.2.2.2.2.2.1 z.2.2.2.2.2.2.2.2.2.2.2.2.2.2.2.2.2.1 z.2.2.2.2.2.2.2.2.2.2.2.2.2.2.2.2.2.2.1 z.2.2.2.2.2.2.2.2.2.2.2.2.2.2.2.2.2.2.2.1 z.2.2.2.2.2.2.2.2.2.2.2.2.2.2.2.2.2.2.2.2.1 z.2.2.2.2.2.2.2.2.2.2.2.2.2.2.2.2.2.2.2.2.2.1 z.2.2.2.2.2.2.2.2.2.2.2.2.2.2.2.2.2.2.2.2.2.2.1 z.2.2.2.2.2.2.2.2.2.2.2.2.2.2.2.2.2.2.2.2.2.2.2.1 z.2.2.2.2.2.2.2.2.2.2.2.2.2.2.2.2.2.2.2.2.2.2.2.2 py po tp tl ta tv tm tg) (bz_i z.1) := by
  refine cs_i_of (by decide) (Nat.le_of_ble_eq_true rfl) ?_
  intro p e s m below meth c A ls X hr hlk hK hP hD hS hA hZ hl
  have hx := X.1
  have hb := X.2.1
  have hl : lv_has ls 5 [(0, .ref aT), (1, .int x1), (2, .int x2), (3, .int x3)] := hl
  unfold tc_T_start at hf
  refine lv_aload_n hx hb d_T_start_0 rfl (lv_at hl 0 rfl) ?_
  refine ct_g_T_kernel_T X hK hP d_T_start_1 ?_
  refine lv_iload_n hx hb d_T_start_4 rfl (lv_at hl 1 rfl) ?_
  obtain ⟨z7, hz7, hf⟩ := op_b hf
  refine cf_q (ws2 := (ct_ aT aK aQ aL aA tk aY aB aG aS aP aC aI cI cT kr uz ul ks kv kz ku cb ga gb gd gc gx gy gu gs gp qa qb qd qc qx qy qu qs qp py po tp tl ta tv tm tg)) X cx_T_54 hK hP hD hS hA hZ hl (c_tc_K_taskAt (aK := aK) (aQ := aQ) (aL := aL) (aA := aA) (tk := tk) (aY := aY) (aB := aB) (aG := aG) (aS := aS) (kr := kr) (uz := uz) (ul := ul) (ks := ks) (kv := kv) (kz := kz) (ku := ku) (cb := cb) (ga := ga) (gb := gb) (gd := gd) (gc := gc) (gx := gx) (gy := gy) (gu := gu) (gs := gs) (gp := gp) (qa := qa) (qb := qb) (qd := qd) (qc := qc) (qx := qx) (qy := qy) (qu := qu) (qs := qs) (qp := qp) hz7) ⟨rfl, rfl, Nat.le_of_ble_eq_true rfl, Nat.le_of_ble_eq_true rfl⟩ [1, 2, 3, 4, 5, 6, 7, 8, 9, 10, 11, 12] [0, 13, 14, 15] [0, 4, 5, 6, 7, 8, 9, 10, 11, 12, 13, 14, 15, 1, 2, 3] rfl rfl rfl rfl (by decide) rfl rfl 0 rfl rfl rfl rfl rfl (Nat.le_of_ble_eq_true rfl) d_T_start_5 (fun H locs hP hD hS => ?_)
  refine lo_astore (ro := Option.map tk z7) hx hb d_T_start_8 hl (by decide) rfl (fun ls hl => ?_)
  have hl : lv_has ls 5 [(4, va_rf (Option.map tk z7)), (0, .ref aT), (1, .int x1), (2, .int x2), (3, .int x3)] := hl
  refine lo_aload (ro := Option.map tk z7) hx hb d_T_start_10 (lv_at hl 0 rfl) ?_
  rcases op_n hf with ⟨ho9, hf⟩ | ⟨i8, ho9, hf⟩
  · rw [show va_rf (Option.map tk z7) = Value.null from by rw [ho9]; rfl]
    refine lv_ifnullN (tgt := 23) hx hb d_T_start_12 (by decide) ?_
    refine lv_iconst (v := (0 : Int32)) hx hb d_T_start_23 (by decide) ?_
    have hq := Option.some.inj hf
    subst hq
    exact rt_i (r := bz_i false) X hr hlk hK (bz_n _) hP hD hS d_T_start_24
  · rw [show va_rf (Option.map tk z7) = Value.ref (tk i8) from by rw [ho9]; rfl]
    refine lv_ifnull hx hb d_T_start_12 ?_
    refine lo_aload (ro := Option.map tk z7) hx hb d_T_start_15 (lv_at hl 0 rfl) ?_
    rw [show va_rf (Option.map tk z7) = Value.ref (tk i8) from by rw [ho9]; rfl]
    obtain ⟨ht10, hf⟩ := op_t hf
    refine ct_tg_state_T X hK hP ht10 d_T_start_17 ?_
    refine lv_if_eq (tgt := 25) hx hb d_T_start_20 (by decide) (fun hc => ?_) (fun hc => ?_)
    · replace hf := (if_pos hc).symm.trans hf
      refine lv_iload_n hx hb d_T_start_25 rfl (lv_at hl 3 rfl) ?_
      refine lv_if_lt (tgt := 46) hx hb d_T_start_26 (by decide) (fun hc => ?_) (fun hc => ?_)
      · replace hf := (if_pos hc).symm.trans hf
        refine lv_iconst (v := (0 : Int32)) hx hb d_T_start_46 (by decide) ?_
        have hq := Option.some.inj hf
        subst hq
        exact rt_i (r := bz_i false) X hr hlk hK (bz_n _) hP hD hS d_T_start_47
      · replace hf := (if_neg hc).symm.trans hf
        refine lv_iload_n hx hb d_T_start_29 rfl (lv_at hl 3 rfl) ?_
        refine lv_ldc (v := (65535 : Int32)) hx hb X.2.2.2.1 (X.2.2.2.2 _ ww_5) d_T_start_30 ?_
        refine lv_icmp_gt (tgt := 46) hx hb d_T_start_32 (by decide) (fun hc => ?_) (fun hc => ?_)
        · replace hf := (if_pos hc).symm.trans hf
          refine lv_iconst (v := (0 : Int32)) hx hb d_T_start_46 (by decide) ?_
          have hq := Option.some.inj hf
          subst hq
          exact rt_i (r := bz_i false) X hr hlk hK (bz_n _) hP hD hS d_T_start_47
        · replace hf := (if_neg hc).symm.trans hf
          refine lv_iload_n hx hb d_T_start_35 rfl (lv_at hl 4 rfl) ?_
          refine lv_if_lt (tgt := 46) hx hb d_T_start_36 (by decide) (fun hc => ?_) (fun hc => ?_)
          · replace hf := (if_pos hc).symm.trans hf
            refine lv_iconst (v := (0 : Int32)) hx hb d_T_start_46 (by decide) ?_
            have hq := Option.some.inj hf
            subst hq
            exact rt_i (r := bz_i false) X hr hlk hK (bz_n _) hP hD hS d_T_start_47
          · replace hf := (if_neg hc).symm.trans hf
            refine lv_iload_n hx hb d_T_start_39 rfl (lv_at hl 4 rfl) ?_
            refine lv_sipush (v := (255 : Int32)) hx hb d_T_start_40 (by decide) ?_
            refine lv_icmp_le (tgt := 48) hx hb d_T_start_43 (by decide) (fun hc => ?_) (fun hc => ?_)
            · replace hf := (if_pos hc).symm.trans hf
              refine lv_aload_n hx hb d_T_start_48 rfl (lv_at hl 1 rfl) ?_
              refine ct_g_T_kernel_T X hK hP d_T_start_49 ?_
              refine lo_aload (ro := Option.map tk z7) hx hb d_T_start_52 (lv_at hl 0 rfl) ?_
              refine lv_iload_n hx hb d_T_start_54 rfl (lv_at hl 3 rfl) ?_
              refine lv_iload_n hx hb d_T_start_55 rfl (lv_at hl 4 rfl) ?_
              rw [show va_rf (Option.map tk z7) = Value.ref (tk i8) from by rw [ho9]; rfl]
              obtain ⟨z11, hz11, hf⟩ := op_b hf
              refine cf_v (ws2 := (ct_ aT aK aQ aL aA tk aY aB aG aS aP aC aI cI cT kr z11.1 z11.2.1 z11.2.2.1 z11.2.2.2.1 kz ku z11.2.2.2.2.1 ga gb gd gc gx gy gu gs gp z11.2.2.2.2.2.1 z11.2.2.2.2.2.2.1 z11.2.2.2.2.2.2.2.1 z11.2.2.2.2.2.2.2.2.1 z11.2.2.2.2.2.2.2.2.2.1 z11.2.2.2.2.2.2.2.2.2.2.1 z11.2.2.2.2.2.2.2.2.2.2.2.1 z11.2.2.2.2.2.2.2.2.2.2.2.2.1 z11.2.2.2.2.2.2.2.2.2.2.2.2.2 py po tp tl ta tv tm tg)) X cx_T_65 hK hP hD hS hA hZ hl (c_tc_K_begin (aK := aK) (aQ := aQ) (aL := aL) (aA := aA) (tk := tk) (aY := aY) (aB := aB) (aG := aG) (aS := aS) (kr := kr) (uz := uz) (ul := ul) (ks := ks) (kv := kv) (kz := kz) (ku := ku) (cb := cb) (ga := ga) (gb := gb) (gd := gd) (gc := gc) (gx := gx) (gy := gy) (gu := gu) (gs := gs) (gp := gp) (qa := qa) (qb := qb) (qd := qd) (qc := qc) (qx := qx) (qy := qy) (qu := qu) (qs := qs) (qp := qp) hz11) ⟨rfl, rfl, Nat.le_of_ble_eq_true rfl, Nat.le_of_ble_eq_true rfl⟩ [1, 2, 3, 4, 5, 6, 7, 8, 9, 10, 11, 12] [0, 13, 14, 15] [0, 4, 5, 6, 7, 8, 9, 10, 11, 12, 13, 14, 15, 1, 2, 3] rfl rfl rfl rfl (by decide) rfl rfl 0 rfl rfl rfl rfl rfl (Nat.le_of_ble_eq_true rfl) d_T_start_56 (fun H locs hP hD hS => ?_)
              refine lv_aload_n hx hb d_T_start_59 rfl (lv_at hl 1 rfl) ?_
              refine ct_g_T_kernel_T X hK hP d_T_start_60 ?_
              obtain ⟨z12, hz12, hf⟩ := op_b hf
              refine cf_v (ws2 := (ct_ aT aK aQ aL aA tk aY aB aG aS aP aC aI cI cT z12.1 z12.2.1 z12.2.2.1 z12.2.2.2.1 z11.2.2.2.1 kz ku z11.2.2.2.2.1 z12.2.2.2.2.1 z12.2.2.2.2.2.1 z12.2.2.2.2.2.2.1 z12.2.2.2.2.2.2.2.1 z12.2.2.2.2.2.2.2.2.1 z12.2.2.2.2.2.2.2.2.2.1 z12.2.2.2.2.2.2.2.2.2.2.1 z12.2.2.2.2.2.2.2.2.2.2.2.1 z12.2.2.2.2.2.2.2.2.2.2.2.2 z11.2.2.2.2.2.1 z11.2.2.2.2.2.2.1 z11.2.2.2.2.2.2.2.1 z11.2.2.2.2.2.2.2.2.1 z11.2.2.2.2.2.2.2.2.2.1 z11.2.2.2.2.2.2.2.2.2.2.1 z11.2.2.2.2.2.2.2.2.2.2.2.1 z11.2.2.2.2.2.2.2.2.2.2.2.2.1 z11.2.2.2.2.2.2.2.2.2.2.2.2.2 py po tp tl ta tv tm tg)) X cx_T_69 hK hP hD hS hA hZ hl (c_tc_K_takeNext (aK := aK) (aQ := aQ) (aL := aL) (aA := aA) (tk := tk) (aY := aY) (aB := aB) (aG := aG) (aS := aS) (kr := kr) (uz := z11.1) (ul := z11.2.1) (ks := z11.2.2.1) (kv := z11.2.2.2.1) (kz := kz) (ku := ku) (cb := z11.2.2.2.2.1) (ga := ga) (gb := gb) (gd := gd) (gc := gc) (gx := gx) (gy := gy) (gu := gu) (gs := gs) (gp := gp) (qa := z11.2.2.2.2.2.1) (qb := z11.2.2.2.2.2.2.1) (qd := z11.2.2.2.2.2.2.2.1) (qc := z11.2.2.2.2.2.2.2.2.1) (qx := z11.2.2.2.2.2.2.2.2.2.1) (qy := z11.2.2.2.2.2.2.2.2.2.2.1) (qu := z11.2.2.2.2.2.2.2.2.2.2.2.1) (qs := z11.2.2.2.2.2.2.2.2.2.2.2.2.1) (qp := z11.2.2.2.2.2.2.2.2.2.2.2.2.2) hz12) ⟨rfl, rfl, Nat.le_of_ble_eq_true rfl, Nat.le_of_ble_eq_true rfl⟩ [1, 2, 3, 4, 5, 6, 7, 8, 9, 10, 11, 12] [0, 13, 14, 15] [0, 4, 5, 6, 7, 8, 9, 10, 11, 12, 13, 14, 15, 1, 2, 3] rfl rfl rfl rfl (by decide) rfl rfl 0 rfl rfl rfl rfl rfl (Nat.le_of_ble_eq_true rfl) d_T_start_63 (fun H locs hP hD hS => ?_)
              refine lv_iconst (v := (1 : Int32)) hx hb d_T_start_66 (by decide) ?_
              have hq := Option.some.inj hf
              subst hq
              exact rt_i (r := bz_i true) X hr hlk hK (bz_n _) hP hD hS d_T_start_67
            · replace hf := (if_neg hc).symm.trans hf
              refine lv_iconst (v := (0 : Int32)) hx hb d_T_start_46 (by decide) ?_
              have hq := Option.some.inj hf
              subst hq
              exact rt_i (r := bz_i false) X hr hlk hK (bz_n _) hP hD hS d_T_start_47
    · replace hf := (if_neg hc).symm.trans hf
      refine lv_iconst (v := (0 : Int32)) hx hb d_T_start_23 (by decide) ?_
      have hq := Option.some.inj hf
      subst hq
      exact rt_i (r := bz_i false) X hr hlk hK (bz_n _) hP hD hS d_T_start_24
set_option maxHeartbeats 4000000 in
set_option maxRecDepth 100000 in
theorem c_tc_T_stop {x1 : Int32} {z : Bool × (Option Nat) × Int32 × (Nat → Option Nat) × (Nat → Int32) × (Nat → Int32) × Int32 × Int32 × Int32 × Int32 × Int32 × Int32 × Int32 × Int32 × Int32} (hf : tc_T_stop x1 kr uz ul ks kv ku cb ga gb gd gc gx gy gu gs gp = some z) : cs_i l my_T_stop mb_T_stop 3 .boolean rm_c_T_stop D (ty_ cI cT) [.ref aT, .int x1] (ct_ aT aK aQ aL aA tk aY aB aG aS aP aC aI cI cT kr uz ul ks kv kz ku cb ga gb gd gc gx gy gu gs gp qa qb qd qc qx qy qu qs qp py po tp tl ta tv tm tg) (ct_ aT aK aQ aL aA tk aY aB aG aS aP aC aI cI cT z.2.1 z.2.2.1 z.2.2.2.1 z.2.2.2.2.1 kv kz z.2.2.2.2.2.1 cb z.2.2.2.2.2.2.1 z.2.2.2.2.2.2.2.1 z.2.2.2.2.2.2.2.2.1 z.2.2.2.2.2.2.2.2.2.1 z.2.2.2.2.2.2.2.2.2.2.1 z.2.2.2.2.2.2.2.2.2.2.2.1 z.2.2.2.2.2.2.2.2.2.2.2.2.1 z.2.2.2.2.2.2.2.2.2.2.2.2.2.1 z.2.2.2.2.2.2.2.2.2.2.2.2.2.2 qa qb qd qc qx qy qu qs qp py po tp tl ta tv tm tg) (bz_i z.1) := by
  refine cs_i_of (by decide) (Nat.le_of_ble_eq_true rfl) ?_
  intro p e s m below meth c A ls X hr hlk hK hP hD hS hA hZ hl
  have hx := X.1
  have hb := X.2.1
  have hl : lv_has ls 3 [(0, .ref aT), (1, .int x1)] := hl
  unfold tc_T_stop at hf
  refine lv_aload_n hx hb d_T_stop_0 rfl (lv_at hl 0 rfl) ?_
  refine ct_g_T_kernel_T X hK hP d_T_stop_1 ?_
  refine lv_iload_n hx hb d_T_stop_4 rfl (lv_at hl 1 rfl) ?_
  obtain ⟨z7, hz7, hf⟩ := op_b hf
  refine cf_q (ws2 := (ct_ aT aK aQ aL aA tk aY aB aG aS aP aC aI cI cT kr uz ul ks kv kz ku cb ga gb gd gc gx gy gu gs gp qa qb qd qc qx qy qu qs qp py po tp tl ta tv tm tg)) X cx_T_54 hK hP hD hS hA hZ hl (c_tc_K_taskAt (aK := aK) (aQ := aQ) (aL := aL) (aA := aA) (tk := tk) (aY := aY) (aB := aB) (aG := aG) (aS := aS) (kr := kr) (uz := uz) (ul := ul) (ks := ks) (kv := kv) (kz := kz) (ku := ku) (cb := cb) (ga := ga) (gb := gb) (gd := gd) (gc := gc) (gx := gx) (gy := gy) (gu := gu) (gs := gs) (gp := gp) (qa := qa) (qb := qb) (qd := qd) (qc := qc) (qx := qx) (qy := qy) (qu := qu) (qs := qs) (qp := qp) hz7) ⟨rfl, rfl, Nat.le_of_ble_eq_true rfl, Nat.le_of_ble_eq_true rfl⟩ [1, 2, 3, 4, 5, 6, 7, 8, 9, 10, 11, 12] [0, 13, 14, 15] [0, 4, 5, 6, 7, 8, 9, 10, 11, 12, 13, 14, 15, 1, 2, 3] rfl rfl rfl rfl (by decide) rfl rfl 0 rfl rfl rfl rfl rfl (Nat.le_of_ble_eq_true rfl) d_T_stop_5 (fun H locs hP hD hS => ?_)
  refine lo_astore_n (ro := Option.map tk z7) hx hb d_T_stop_8 rfl hl (by decide) rfl (fun ls hl => ?_)
  have hl : lv_has ls 3 [(2, va_rf (Option.map tk z7)), (0, .ref aT), (1, .int x1)] := hl
  refine lo_aload_n (ro := Option.map tk z7) hx hb d_T_stop_9 rfl (lv_at hl 0 rfl) ?_
  rcases op_n hf with ⟨ho9, hf⟩ | ⟨i8, ho9, hf⟩
  · rw [show va_rf (Option.map tk z7) = Value.null from by rw [ho9]; rfl]
    refine lv_ifnullN (tgt := 20) hx hb d_T_stop_10 (by decide) ?_
    refine lv_iconst (v := (0 : Int32)) hx hb d_T_stop_20 (by decide) ?_
    have hq := Option.some.inj hf
    subst hq
    exact rt_i (r := bz_i false) X hr hlk hK (bz_n _) hP hD hS d_T_stop_21
  · rw [show va_rf (Option.map tk z7) = Value.ref (tk i8) from by rw [ho9]; rfl]
    refine lv_ifnull hx hb d_T_stop_10 ?_
    refine lo_aload_n (ro := Option.map tk z7) hx hb d_T_stop_13 rfl (lv_at hl 0 rfl) ?_
    rw [show va_rf (Option.map tk z7) = Value.ref (tk i8) from by rw [ho9]; rfl]
    obtain ⟨ht10, hf⟩ := op_t hf
    refine ct_tg_state_T X hK hP ht10 d_T_stop_14 ?_
    refine lv_if_ne (tgt := 22) hx hb d_T_stop_17 (by decide) (fun hc => ?_) (fun hc => ?_)
    · replace hf := (if_neg hc).symm.trans hf
      refine lv_aload_n hx hb d_T_stop_22 rfl (lv_at hl 1 rfl) ?_
      refine ct_g_T_kernel_T X hK hP d_T_stop_23 ?_
      refine lo_aload_n (ro := Option.map tk z7) hx hb d_T_stop_26 rfl (lv_at hl 0 rfl) ?_
      refine lv_sipush (v := (254 : Int32)) hx hb d_T_stop_27 (by decide) ?_
      rw [show va_rf (Option.map tk z7) = Value.ref (tk i8) from by rw [ho9]; rfl]
      obtain ⟨z11, hz11, hf⟩ := op_b hf
      refine cf_v (ws2 := (ct_ aT aK aQ aL aA tk aY aB aG aS aP aC aI cI cT z11.1 z11.2.1 z11.2.2.1 z11.2.2.2.1 kv kz z11.2.2.2.2 cb ga gb gd gc gx gy gu gs gp qa qb qd qc qx qy qu qs qp py po tp tl ta tv tm tg)) X cx_T_72 hK hP hD hS hA hZ hl (c_tc_K_end (aK := aK) (aQ := aQ) (aL := aL) (aA := aA) (tk := tk) (aY := aY) (aB := aB) (aG := aG) (aS := aS) (kr := kr) (uz := uz) (ul := ul) (ks := ks) (kv := kv) (kz := kz) (ku := ku) (cb := cb) (ga := ga) (gb := gb) (gd := gd) (gc := gc) (gx := gx) (gy := gy) (gu := gu) (gs := gs) (gp := gp) (qa := qa) (qb := qb) (qd := qd) (qc := qc) (qx := qx) (qy := qy) (qu := qu) (qs := qs) (qp := qp) hz11) ⟨rfl, rfl, Nat.le_of_ble_eq_true rfl, Nat.le_of_ble_eq_true rfl⟩ [1, 2, 3, 4, 5, 6, 7, 8, 9, 10, 11, 12] [0, 13, 14, 15] [0, 4, 5, 6, 7, 8, 9, 10, 11, 12, 13, 14, 15, 1, 2, 3] rfl rfl rfl rfl (by decide) rfl rfl 0 rfl rfl rfl rfl rfl (Nat.le_of_ble_eq_true rfl) d_T_stop_30 (fun H locs hP hD hS => ?_)
      refine lv_aload_n hx hb d_T_stop_33 rfl (lv_at hl 1 rfl) ?_
      refine ct_g_T_kernel_T X hK hP d_T_stop_34 ?_
      obtain ⟨z12, hz12, hf⟩ := op_b hf
      refine cf_v (ws2 := (ct_ aT aK aQ aL aA tk aY aB aG aS aP aC aI cI cT z12.1 z12.2.1 z12.2.2.1 z12.2.2.2.1 kv kz z11.2.2.2.2 cb z12.2.2.2.2.1 z12.2.2.2.2.2.1 z12.2.2.2.2.2.2.1 z12.2.2.2.2.2.2.2.1 z12.2.2.2.2.2.2.2.2.1 z12.2.2.2.2.2.2.2.2.2.1 z12.2.2.2.2.2.2.2.2.2.2.1 z12.2.2.2.2.2.2.2.2.2.2.2.1 z12.2.2.2.2.2.2.2.2.2.2.2.2 qa qb qd qc qx qy qu qs qp py po tp tl ta tv tm tg)) X cx_T_69 hK hP hD hS hA hZ hl (c_tc_K_takeNext (aK := aK) (aQ := aQ) (aL := aL) (aA := aA) (tk := tk) (aY := aY) (aB := aB) (aG := aG) (aS := aS) (kr := z11.1) (uz := z11.2.1) (ul := z11.2.2.1) (ks := z11.2.2.2.1) (kv := kv) (kz := kz) (ku := z11.2.2.2.2) (cb := cb) (ga := ga) (gb := gb) (gd := gd) (gc := gc) (gx := gx) (gy := gy) (gu := gu) (gs := gs) (gp := gp) (qa := qa) (qb := qb) (qd := qd) (qc := qc) (qx := qx) (qy := qy) (qu := qu) (qs := qs) (qp := qp) hz12) ⟨rfl, rfl, Nat.le_of_ble_eq_true rfl, Nat.le_of_ble_eq_true rfl⟩ [1, 2, 3, 4, 5, 6, 7, 8, 9, 10, 11, 12] [0, 13, 14, 15] [0, 4, 5, 6, 7, 8, 9, 10, 11, 12, 13, 14, 15, 1, 2, 3] rfl rfl rfl rfl (by decide) rfl rfl 0 rfl rfl rfl rfl rfl (Nat.le_of_ble_eq_true rfl) d_T_stop_37 (fun H locs hP hD hS => ?_)
      refine lv_iconst (v := (1 : Int32)) hx hb d_T_stop_40 (by decide) ?_
      have hq := Option.some.inj hf
      subst hq
      exact rt_i (r := bz_i true) X hr hlk hK (bz_n _) hP hD hS d_T_stop_41
    · replace hf := (if_pos hc).symm.trans hf
      refine lv_iconst (v := (0 : Int32)) hx hb d_T_stop_20 (by decide) ?_
      have hq := Option.some.inj hf
      subst hq
      exact rt_i (r := bz_i false) X hr hlk hK (bz_n _) hP hD hS d_T_stop_21
set_option maxHeartbeats 4000000 in
set_option maxRecDepth 100000 in
theorem c_tc_T_timer {x1 : Int32} {z : Bool × Int32 × Int32} (hf : tc_T_timer x1 tp tl = some z) : cs_i l my_T_timer mb_T_timer 2 .boolean rm_c_T_timer D (ty_ cI cT) [.ref aT, .int x1] (ct_ aT aK aQ aL aA tk aY aB aG aS aP aC aI cI cT kr uz ul ks kv kz ku cb ga gb gd gc gx gy gu gs gp qa qb qd qc qx qy qu qs qp py po tp tl ta tv tm tg) (ct_ aT aK aQ aL aA tk aY aB aG aS aP aC aI cI cT kr uz ul ks kv kz ku cb ga gb gd gc gx gy gu gs gp qa qb qd qc qx qy qu qs qp py po z.2.1 z.2.2 ta tv tm tg) (bz_i z.1) := by
  refine cs_i_of (by decide) (Nat.le_of_ble_eq_true rfl) ?_
  intro p e s m below meth c A ls X hr hlk hK hP hD hS hA hZ hl
  have hx := X.1
  have hb := X.2.1
  have hl : lv_has ls 2 [(0, .ref aT), (1, .int x1)] := hl
  have J19 : ∀ (v1 : Int32) (tp : Int32) (tl : Int32), tc_T_timer_j19 v1 tp tl = some z → ∀ (H : Heap) (locs : List Loc) (ls : Array Slot), lv_has ls 2 [(0, .ref aT), (1, .int v1)] → va_P D cz_all (ct_ aT aK aQ aL aA tk aY aB aG aS aP aC aI cI cT kr uz ul ks kv kz ku cb ga gb gd gc gx gy gu gs gp qa qb qd qc qx qy qu qs qp py po tp tl ta tv tm tg) H → va_D A (ct_ aT aK aQ aL aA tk aY aB aG aS aP aC aI cI cT kr uz ul ks kv kz ku cb ga gb gd gc gx gy gu gs gp qa qb qd qc qx qy qu qs qp py po tp tl ta tv tm tg) → va_S A s.heap H locs → W p l e rm_c_T_timer s m ([.ref aT, .int x1] : List Value).toArray below meth c H locs 0 0 (MQ below (qs_i D (ty_ cI cT) (ct_ aT aK aQ aL aA tk aY aB aG aS aP aC aI cI cT kr uz ul ks kv kz ku cb ga gb gd gc gx gy gu gs gp qa qb qd qc qx qy qu qs qp py po z.2.1 z.2.2 ta tv tm tg) (bz_i z.1) A) ([.ref aT, .int x1] : List Value).toArray s 0 0 A) (F0 m 19 ls []) := by
    intro v1 tp tl hf H locs ls hl hP hD hS
    unfold tc_T_timer_j19 at hf
    refine lv_aload_n hx hb d_T_timer_19 rfl (lv_at hl 0 rfl) ?_
    refine ct_g_T_timer_T X hK hP d_T_timer_20 ?_
    refine lv_iload_n hx hb d_T_timer_23 rfl (lv_at hl 1 rfl) ?_
    refine ct_p_I_period_T (x := v1) X hK hP hD hS d_T_timer_24 (fun H locs hP hD hS => ?_)
    refine lv_aload_n hx hb d_T_timer_27 rfl (lv_at hl 0 rfl) ?_
    refine ct_g_T_timer_T X hK hP d_T_timer_28 ?_
    refine lv_iload_n hx hb d_T_timer_31 rfl (lv_at hl 1 rfl) ?_
    refine ct_p_I_left_T (x := v1) X hK hP hD hS d_T_timer_32 (fun H locs hP hD hS => ?_)
    refine lv_iconst (v := (1 : Int32)) hx hb d_T_timer_35 (by decide) ?_
    have hq := Option.some.inj hf
    subst hq
    exact rt_i (r := bz_i true) X hr hlk hK (bz_n _) hP hD hS d_T_timer_36
  unfold tc_T_timer at hf
  refine lv_iload_n hx hb d_T_timer_0 rfl (lv_at hl 1 rfl) ?_
  refine lv_if_eq (tgt := 19) hx hb d_T_timer_1 (by decide) (fun hc => ?_) (fun hc => ?_)
  · replace hf := (if_pos hc).symm.trans hf
    exact J19 x1 tp tl hf _ _ _ hl hP hD hS
  · replace hf := (if_neg hc).symm.trans hf
    refine lv_iload_n hx hb d_T_timer_4 rfl (lv_at hl 1 rfl) ?_
    refine lv_bipush (v := (16 : Int32)) hx hb d_T_timer_5 (by decide) ?_
    refine lv_icmp_lt (tgt := 17) hx hb d_T_timer_7 (by decide) (fun hc => ?_) (fun hc => ?_)
    · replace hf := (if_pos hc).symm.trans hf
      refine lv_iconst (v := (0 : Int32)) hx hb d_T_timer_17 (by decide) ?_
      have hq := Option.some.inj hf
      subst hq
      exact rt_i (r := bz_i false) X hr hlk hK (bz_n _) hP hD hS d_T_timer_18
    · replace hf := (if_neg hc).symm.trans hf
      refine lv_iload_n hx hb d_T_timer_10 rfl (lv_at hl 1 rfl) ?_
      refine lv_sipush (v := (1000 : Int32)) hx hb d_T_timer_11 (by decide) ?_
      refine lv_icmp_le (tgt := 19) hx hb d_T_timer_14 (by decide) (fun hc => ?_) (fun hc => ?_)
      · replace hf := (if_pos hc).symm.trans hf
        exact J19 x1 tp tl hf _ _ _ hl hP hD hS
      · replace hf := (if_neg hc).symm.trans hf
        refine lv_iconst (v := (0 : Int32)) hx hb d_T_timer_17 (by decide) ?_
        have hq := Option.some.inj hf
        subst hq
        exact rt_i (r := bz_i false) X hr hlk hK (bz_n _) hP hD hS d_T_timer_18
set_option maxHeartbeats 4000000 in
set_option maxRecDepth 100000 in
theorem c_tc_T_run {x1 : Int32} {z : Int32 × (Option Nat) × Int32 × (Nat → Option Nat) × (Nat → Int32) × (Nat → Int32) × (Nat → Int32) × (Nat → Int32) × (Nat → Int32) × Int32 × Int32 × Int32 × Int32 × Int32 × Int32 × Int32 × Int32 × Int32 × Int32 × Int32 × Int32 × Int32 × Int32 × Int32 × Int32 × Int32 × Int32 × Int32 × Int32 × Int32 × Int32 × Int32 × Int32 × Bool} (hf : tc_T_run x1 kr uz ul ks kv kz ku cb ga gb gd gc gx gy gu gs gp qa qb qd qc qx qy qu qs qp py po tp tl ta tv tm tg = some z) : cs_i l my_T_run mb_T_run 3 .int rm_c_T_run D (ty_ cI cT) [.ref aT, .int x1] (ct_ aT aK aQ aL aA tk aY aB aG aS aP aC aI cI cT kr uz ul ks kv kz ku cb ga gb gd gc gx gy gu gs gp qa qb qd qc qx qy qu qs qp py po tp tl ta tv tm tg) (ct_ aT aK aQ aL aA tk aY aB aG aS aP aC aI cI cT z.2.1 z.2.2.1 z.2.2.2.1 z.2.2.2.2.1 z.2.2.2.2.2.1 z.2.2.2.2.2.2.1 z.2.2.2.2.2.2.2.1 z.2.2.2.2.2.2.2.2.1 z.2.2.2.2.2.2.2.2.2.1 z.2.2.2.2.2.2.2.2.2.2.1 z.2.2.2.2.2.2.2.2.2.2.2.1 z.2.2.2.2.2.2.2.2.2.2.2.2.1 z.2.2.2.2.2.2.2.2.2.2.2.2.2.1 z.2.2.2.2.2.2.2.2.2.2.2.2.2.2.1 z.2.2.2.2.2.2.2.2.2.2.2.2.2.2.2.1 z.2.2.2.2.2.2.2.2.2.2.2.2.2.2.2.2.1 z.2.2.2.2.2.2.2.2.2.2.2.2.2.2.2.2.2.1 z.2.2.2.2.2.2.2.2.2.2.2.2.2.2.2.2.2.2.1 z.2.2.2.2.2.2.2.2.2.2.2.2.2.2.2.2.2.2.2.1 z.2.2.2.2.2.2.2.2.2.2.2.2.2.2.2.2.2.2.2.2.1 z.2.2.2.2.2.2.2.2.2.2.2.2.2.2.2.2.2.2.2.2.2.1 z.2.2.2.2.2.2.2.2.2.2.2.2.2.2.2.2.2.2.2.2.2.2.1 z.2.2.2.2.2.2.2.2.2.2.2.2.2.2.2.2.2.2.2.2.2.2.2.1 z.2.2.2.2.2.2.2.2.2.2.2.2.2.2.2.2.2.2.2.2.2.2.2.2.1 z.2.2.2.2.2.2.2.2.2.2.2.2.2.2.2.2.2.2.2.2.2.2.2.2.2.1 z.2.2.2.2.2.2.2.2.2.2.2.2.2.2.2.2.2.2.2.2.2.2.2.2.2.2.1 z.2.2.2.2.2.2.2.2.2.2.2.2.2.2.2.2.2.2.2.2.2.2.2.2.2.2.2.1 z.2.2.2.2.2.2.2.2.2.2.2.2.2.2.2.2.2.2.2.2.2.2.2.2.2.2.2.2.1 tp z.2.2.2.2.2.2.2.2.2.2.2.2.2.2.2.2.2.2.2.2.2.2.2.2.2.2.2.2.2.1 z.2.2.2.2.2.2.2.2.2.2.2.2.2.2.2.2.2.2.2.2.2.2.2.2.2.2.2.2.2.2.1 z.2.2.2.2.2.2.2.2.2.2.2.2.2.2.2.2.2.2.2.2.2.2.2.2.2.2.2.2.2.2.2.1 z.2.2.2.2.2.2.2.2.2.2.2.2.2.2.2.2.2.2.2.2.2.2.2.2.2.2.2.2.2.2.2.2.1 z.2.2.2.2.2.2.2.2.2.2.2.2.2.2.2.2.2.2.2.2.2.2.2.2.2.2.2.2.2.2.2.2.2) z.1 := by
  refine cs_i_of (by decide) (Nat.le_of_ble_eq_true rfl) ?_
  intro p e s m below meth c A ls X hr hlk hK hP hD hS hA hZ hl
  have hx := X.1
  have hb := X.2.1
  have hl : lv_has ls 3 [(0, .ref aT), (1, .int x1)] := hl
  have L15 : ∀ (n_ : Nat) (v1 : Int32) (v2 : Int32) (kr : Option Nat) (uz : Int32) (ul : Nat → Option Nat) (ks : Nat → Int32) (kv : Nat → Int32) (kz : Nat → Int32) (ku : Nat → Int32) (cb : Nat → Int32) (ga : Int32) (gb : Int32) (gd : Int32) (gc : Int32) (gx : Int32) (gy : Int32) (gu : Int32) (gs : Int32) (gp : Int32) (qa : Int32) (qb : Int32) (qd : Int32) (qc : Int32) (qx : Int32) (qy : Int32) (qu : Int32) (qs : Int32) (qp : Int32) (py : Int32) (po : Int32) (tp : Int32) (tl : Int32) (ta : Int32) (tv : Int32) (tm : Int32) (tg : Bool), tc_T_run_l15 n_ v1 v2 kr uz ul ks kv kz ku cb ga gb gd gc gx gy gu gs gp qa qb qd qc qx qy qu qs qp py po tp tl ta tv tm tg = some z → ∀ (H : Heap) (locs : List Loc) (ls : Array Slot), lv_has ls 3 [(0, .ref aT), (1, .int v1), (2, .int v2)] → va_P D cz_all (ct_ aT aK aQ aL aA tk aY aB aG aS aP aC aI cI cT kr uz ul ks kv kz ku cb ga gb gd gc gx gy gu gs gp qa qb qd qc qx qy qu qs qp py po tp tl ta tv tm tg) H → va_D A (ct_ aT aK aQ aL aA tk aY aB aG aS aP aC aI cI cT kr uz ul ks kv kz ku cb ga gb gd gc gx gy gu gs gp qa qb qd qc qx qy qu qs qp py po tp tl ta tv tm tg) → va_S A s.heap H locs → W p l e rm_c_T_run s m ([.ref aT, .int x1] : List Value).toArray below meth c H locs 0 0 (MQ below (qs_i D (ty_ cI cT) (ct_ aT aK aQ aL aA tk aY aB aG aS aP aC aI cI cT z.2.1 z.2.2.1 z.2.2.2.1 z.2.2.2.2.1 z.2.2.2.2.2.1 z.2.2.2.2.2.2.1 z.2.2.2.2.2.2.2.1 z.2.2.2.2.2.2.2.2.1 z.2.2.2.2.2.2.2.2.2.1 z.2.2.2.2.2.2.2.2.2.2.1 z.2.2.2.2.2.2.2.2.2.2.2.1 z.2.2.2.2.2.2.2.2.2.2.2.2.1 z.2.2.2.2.2.2.2.2.2.2.2.2.2.1 z.2.2.2.2.2.2.2.2.2.2.2.2.2.2.1 z.2.2.2.2.2.2.2.2.2.2.2.2.2.2.2.1 z.2.2.2.2.2.2.2.2.2.2.2.2.2.2.2.2.1 z.2.2.2.2.2.2.2.2.2.2.2.2.2.2.2.2.2.1 z.2.2.2.2.2.2.2.2.2.2.2.2.2.2.2.2.2.2.1 z.2.2.2.2.2.2.2.2.2.2.2.2.2.2.2.2.2.2.2.1 z.2.2.2.2.2.2.2.2.2.2.2.2.2.2.2.2.2.2.2.2.1 z.2.2.2.2.2.2.2.2.2.2.2.2.2.2.2.2.2.2.2.2.2.1 z.2.2.2.2.2.2.2.2.2.2.2.2.2.2.2.2.2.2.2.2.2.2.1 z.2.2.2.2.2.2.2.2.2.2.2.2.2.2.2.2.2.2.2.2.2.2.2.1 z.2.2.2.2.2.2.2.2.2.2.2.2.2.2.2.2.2.2.2.2.2.2.2.2.1 z.2.2.2.2.2.2.2.2.2.2.2.2.2.2.2.2.2.2.2.2.2.2.2.2.2.1 z.2.2.2.2.2.2.2.2.2.2.2.2.2.2.2.2.2.2.2.2.2.2.2.2.2.2.1 z.2.2.2.2.2.2.2.2.2.2.2.2.2.2.2.2.2.2.2.2.2.2.2.2.2.2.2.1 z.2.2.2.2.2.2.2.2.2.2.2.2.2.2.2.2.2.2.2.2.2.2.2.2.2.2.2.2.1 tp z.2.2.2.2.2.2.2.2.2.2.2.2.2.2.2.2.2.2.2.2.2.2.2.2.2.2.2.2.2.1 z.2.2.2.2.2.2.2.2.2.2.2.2.2.2.2.2.2.2.2.2.2.2.2.2.2.2.2.2.2.2.1 z.2.2.2.2.2.2.2.2.2.2.2.2.2.2.2.2.2.2.2.2.2.2.2.2.2.2.2.2.2.2.2.1 z.2.2.2.2.2.2.2.2.2.2.2.2.2.2.2.2.2.2.2.2.2.2.2.2.2.2.2.2.2.2.2.2.1 z.2.2.2.2.2.2.2.2.2.2.2.2.2.2.2.2.2.2.2.2.2.2.2.2.2.2.2.2.2.2.2.2.2) z.1 A) ([.ref aT, .int x1] : List Value).toArray s 0 0 A) (F0 m 15 ls []) := by
    intro n_
    induction n_ with
    | zero => intro v1 v2 kr uz ul ks kv kz ku cb ga gb gd gc gx gy gu gs gp qa qb qd qc qx qy qu qs qp py po tp tl ta tv tm tg hf; cases hf
    | succ n_ ih =>
      have J124 : ∀ (v1 : Int32) (v2 : Int32) (kr : Option Nat) (uz : Int32) (ul : Nat → Option Nat) (ks : Nat → Int32) (kv : Nat → Int32) (kz : Nat → Int32) (ku : Nat → Int32) (cb : Nat → Int32) (ga : Int32) (gb : Int32) (gd : Int32) (gc : Int32) (gx : Int32) (gy : Int32) (gu : Int32) (gs : Int32) (gp : Int32) (qa : Int32) (qb : Int32) (qd : Int32) (qc : Int32) (qx : Int32) (qy : Int32) (qu : Int32) (qs : Int32) (qp : Int32) (py : Int32) (po : Int32) (tp : Int32) (tl : Int32) (ta : Int32) (tv : Int32) (tm : Int32) (tg : Bool), tc_T_run_j124 (tc_T_run_l15 n_) v1 v2 kr uz ul ks kv kz ku cb ga gb gd gc gx gy gu gs gp qa qb qd qc qx qy qu qs qp py po tp tl ta tv tm tg = some z → ∀ (H : Heap) (locs : List Loc) (ls : Array Slot), lv_has ls 3 [(0, .ref aT), (1, .int v1), (2, .int v2)] → va_P D cz_all (ct_ aT aK aQ aL aA tk aY aB aG aS aP aC aI cI cT kr uz ul ks kv kz ku cb ga gb gd gc gx gy gu gs gp qa qb qd qc qx qy qu qs qp py po tp tl ta tv tm tg) H → va_D A (ct_ aT aK aQ aL aA tk aY aB aG aS aP aC aI cI cT kr uz ul ks kv kz ku cb ga gb gd gc gx gy gu gs gp qa qb qd qc qx qy qu qs qp py po tp tl ta tv tm tg) → va_S A s.heap H locs → W p l e rm_c_T_run s m ([.ref aT, .int x1] : List Value).toArray below meth c H locs 0 0 (MQ below (qs_i D (ty_ cI cT) (ct_ aT aK aQ aL aA tk aY aB aG aS aP aC aI cI cT z.2.1 z.2.2.1 z.2.2.2.1 z.2.2.2.2.1 z.2.2.2.2.2.1 z.2.2.2.2.2.2.1 z.2.2.2.2.2.2.2.1 z.2.2.2.2.2.2.2.2.1 z.2.2.2.2.2.2.2.2.2.1 z.2.2.2.2.2.2.2.2.2.2.1 z.2.2.2.2.2.2.2.2.2.2.2.1 z.2.2.2.2.2.2.2.2.2.2.2.2.1 z.2.2.2.2.2.2.2.2.2.2.2.2.2.1 z.2.2.2.2.2.2.2.2.2.2.2.2.2.2.1 z.2.2.2.2.2.2.2.2.2.2.2.2.2.2.2.1 z.2.2.2.2.2.2.2.2.2.2.2.2.2.2.2.2.1 z.2.2.2.2.2.2.2.2.2.2.2.2.2.2.2.2.2.1 z.2.2.2.2.2.2.2.2.2.2.2.2.2.2.2.2.2.2.1 z.2.2.2.2.2.2.2.2.2.2.2.2.2.2.2.2.2.2.2.1 z.2.2.2.2.2.2.2.2.2.2.2.2.2.2.2.2.2.2.2.2.1 z.2.2.2.2.2.2.2.2.2.2.2.2.2.2.2.2.2.2.2.2.2.1 z.2.2.2.2.2.2.2.2.2.2.2.2.2.2.2.2.2.2.2.2.2.2.1 z.2.2.2.2.2.2.2.2.2.2.2.2.2.2.2.2.2.2.2.2.2.2.2.1 z.2.2.2.2.2.2.2.2.2.2.2.2.2.2.2.2.2.2.2.2.2.2.2.2.1 z.2.2.2.2.2.2.2.2.2.2.2.2.2.2.2.2.2.2.2.2.2.2.2.2.2.1 z.2.2.2.2.2.2.2.2.2.2.2.2.2.2.2.2.2.2.2.2.2.2.2.2.2.2.1 z.2.2.2.2.2.2.2.2.2.2.2.2.2.2.2.2.2.2.2.2.2.2.2.2.2.2.2.1 z.2.2.2.2.2.2.2.2.2.2.2.2.2.2.2.2.2.2.2.2.2.2.2.2.2.2.2.2.1 tp z.2.2.2.2.2.2.2.2.2.2.2.2.2.2.2.2.2.2.2.2.2.2.2.2.2.2.2.2.2.1 z.2.2.2.2.2.2.2.2.2.2.2.2.2.2.2.2.2.2.2.2.2.2.2.2.2.2.2.2.2.2.1 z.2.2.2.2.2.2.2.2.2.2.2.2.2.2.2.2.2.2.2.2.2.2.2.2.2.2.2.2.2.2.2.1 z.2.2.2.2.2.2.2.2.2.2.2.2.2.2.2.2.2.2.2.2.2.2.2.2.2.2.2.2.2.2.2.2.1 z.2.2.2.2.2.2.2.2.2.2.2.2.2.2.2.2.2.2.2.2.2.2.2.2.2.2.2.2.2.2.2.2.2) z.1 A) ([.ref aT, .int x1] : List Value).toArray s 0 0 A) (F0 m 124 ls []) := by
        intro v1 v2 kr uz ul ks kv kz ku cb ga gb gd gc gx gy gu gs gp qa qb qd qc qx qy qu qs qp py po tp tl ta tv tm tg hf H locs ls hl hP hD hS
        unfold tc_T_run_j124 at hf
        refine lv_iinc (k := 2) hx hb d_T_run_124 hl rfl rfl (by decide) rfl (fun ls hl => ?_)
        have hl : lv_has ls 3 [(2, .int (v2 + Int32.ofInt 1)), (0, .ref aT), (1, .int v1)] := hl
        refine lv_goto (tgt := 15) hx hb d_T_run_127 (by decide) ?_
        exact ih v1 (v2 + Int32.ofInt 1) kr uz ul ks kv kz ku cb ga gb gd gc gx gy gu gs gp qa qb qd qc qx qy qu qs qp py po tp tl ta tv tm tg hf _ _ _ (lv_sub hl [1, 2, 0] rfl) hP hD hS
      have J54 : ∀ (v1 : Int32) (v2 : Int32) (kr : Option Nat) (uz : Int32) (ul : Nat → Option Nat) (ks : Nat → Int32) (kv : Nat → Int32) (kz : Nat → Int32) (ku : Nat → Int32) (cb : Nat → Int32) (ga : Int32) (gb : Int32) (gd : Int32) (gc : Int32) (gx : Int32) (gy : Int32) (gu : Int32) (gs : Int32) (gp : Int32) (qa : Int32) (qb : Int32) (qd : Int32) (qc : Int32) (qx : Int32) (qy : Int32) (qu : Int32) (qs : Int32) (qp : Int32) (py : Int32) (po : Int32) (tp : Int32) (tl : Int32) (ta : Int32) (tv : Int32) (tm : Int32) (tg : Bool), tc_T_run_j54 (tc_T_run_l15 n_) v1 v2 kr uz ul ks kv kz ku cb ga gb gd gc gx gy gu gs gp qa qb qd qc qx qy qu qs qp py po tp tl ta tv tm tg = some z → ∀ (H : Heap) (locs : List Loc) (ls : Array Slot), lv_has ls 3 [(0, .ref aT), (1, .int v1), (2, .int v2)] → va_P D cz_all (ct_ aT aK aQ aL aA tk aY aB aG aS aP aC aI cI cT kr uz ul ks kv kz ku cb ga gb gd gc gx gy gu gs gp qa qb qd qc qx qy qu qs qp py po tp tl ta tv tm tg) H → va_D A (ct_ aT aK aQ aL aA tk aY aB aG aS aP aC aI cI cT kr uz ul ks kv kz ku cb ga gb gd gc gx gy gu gs gp qa qb qd qc qx qy qu qs qp py po tp tl ta tv tm tg) → va_S A s.heap H locs → W p l e rm_c_T_run s m ([.ref aT, .int x1] : List Value).toArray below meth c H locs 0 0 (MQ below (qs_i D (ty_ cI cT) (ct_ aT aK aQ aL aA tk aY aB aG aS aP aC aI cI cT z.2.1 z.2.2.1 z.2.2.2.1 z.2.2.2.2.1 z.2.2.2.2.2.1 z.2.2.2.2.2.2.1 z.2.2.2.2.2.2.2.1 z.2.2.2.2.2.2.2.2.1 z.2.2.2.2.2.2.2.2.2.1 z.2.2.2.2.2.2.2.2.2.2.1 z.2.2.2.2.2.2.2.2.2.2.2.1 z.2.2.2.2.2.2.2.2.2.2.2.2.1 z.2.2.2.2.2.2.2.2.2.2.2.2.2.1 z.2.2.2.2.2.2.2.2.2.2.2.2.2.2.1 z.2.2.2.2.2.2.2.2.2.2.2.2.2.2.2.1 z.2.2.2.2.2.2.2.2.2.2.2.2.2.2.2.2.1 z.2.2.2.2.2.2.2.2.2.2.2.2.2.2.2.2.2.1 z.2.2.2.2.2.2.2.2.2.2.2.2.2.2.2.2.2.2.1 z.2.2.2.2.2.2.2.2.2.2.2.2.2.2.2.2.2.2.2.1 z.2.2.2.2.2.2.2.2.2.2.2.2.2.2.2.2.2.2.2.2.1 z.2.2.2.2.2.2.2.2.2.2.2.2.2.2.2.2.2.2.2.2.2.1 z.2.2.2.2.2.2.2.2.2.2.2.2.2.2.2.2.2.2.2.2.2.2.1 z.2.2.2.2.2.2.2.2.2.2.2.2.2.2.2.2.2.2.2.2.2.2.2.1 z.2.2.2.2.2.2.2.2.2.2.2.2.2.2.2.2.2.2.2.2.2.2.2.2.1 z.2.2.2.2.2.2.2.2.2.2.2.2.2.2.2.2.2.2.2.2.2.2.2.2.2.1 z.2.2.2.2.2.2.2.2.2.2.2.2.2.2.2.2.2.2.2.2.2.2.2.2.2.2.1 z.2.2.2.2.2.2.2.2.2.2.2.2.2.2.2.2.2.2.2.2.2.2.2.2.2.2.2.1 z.2.2.2.2.2.2.2.2.2.2.2.2.2.2.2.2.2.2.2.2.2.2.2.2.2.2.2.2.1 tp z.2.2.2.2.2.2.2.2.2.2.2.2.2.2.2.2.2.2.2.2.2.2.2.2.2.2.2.2.2.1 z.2.2.2.2.2.2.2.2.2.2.2.2.2.2.2.2.2.2.2.2.2.2.2.2.2.2.2.2.2.2.1 z.2.2.2.2.2.2.2.2.2.2.2.2.2.2.2.2.2.2.2.2.2.2.2.2.2.2.2.2.2.2.2.1 z.2.2.2.2.2.2.2.2.2.2.2.2.2.2.2.2.2.2.2.2.2.2.2.2.2.2.2.2.2.2.2.2.1 z.2.2.2.2.2.2.2.2.2.2.2.2.2.2.2.2.2.2.2.2.2.2.2.2.2.2.2.2.2.2.2.2.2) z.1 A) ([.ref aT, .int x1] : List Value).toArray s 0 0 A) (F0 m 54 ls []) := by
        intro v1 v2 kr uz ul ks kv kz ku cb ga gb gd gc gx gy gu gs gp qa qb qd qc qx qy qu qs qp py po tp tl ta tv tm tg hf H locs ls hl hP hD hS
        unfold tc_T_run_j54 at hf
        refine lv_aload_n hx hb d_T_run_54 rfl (lv_at hl 0 rfl) ?_
        refine ct_g_T_kernel_T X hK hP d_T_run_55 ?_
        refine ct_g_K_running_T X hK hP d_T_run_58 ?_
        rcases op_n hf with ⟨ho16, hf⟩ | ⟨i15, ho16, hf⟩
        · rw [show va_rf (Option.map tk kr) = Value.null from by rw [ho16]; rfl]
          refine lv_ifnullN (tgt := 95) hx hb d_T_run_61 (by decide) ?_
          refine lv_aload_n hx hb d_T_run_95 rfl (lv_at hl 0 rfl) ?_
          refine ct_g_T_timer_T X hK hP d_T_run_96 ?_
          refine ct_g_I_period_T X hK hP d_T_run_99 ?_
          refine lv_if_le (tgt := 122) hx hb d_T_run_102 (by decide) (fun hc => ?_) (fun hc => ?_)
          · replace hf := (if_pos hc).symm.trans hf
            refine lv_iload_n hx hb d_T_run_122 rfl (lv_at hl 2 rfl) ?_
            have hq := Option.some.inj hf
            subst hq
            exact rt_i (r := v2) X hr hlk hK rfl hP hD hS d_T_run_123
          · replace hf := (if_neg hc).symm.trans hf
            refine lv_aload_n hx hb d_T_run_105 rfl (lv_at hl 0 rfl) ?_
            refine ct_g_T_timer_T X hK hP d_T_run_106 ?_
            refine lv_aload_n hx hb d_T_run_109 rfl (lv_at hl 0 rfl) ?_
            refine ct_g_T_timer_T X hK hP d_T_run_110 ?_
            refine ct_g_I_left_T X hK hP d_T_run_113 ?_
            obtain ⟨z17, hz17, hf⟩ := op_b hf
            refine cf_v (ws2 := (ct_ aT aK aQ aL aA tk aY aB aG aS aP aC aI cI cT kr uz ul ks kv kz ku cb ga gb gd gc gx gy gu gs gp qa qb qd qc qx qy qu qs qp py po tp z17.1 z17.2.1 tv z17.2.2.1 z17.2.2.2)) X cx_T_111 hK hP hD hS hA hZ hl (c_tc_I_letPass (aI := aI) (tp := tp) (tl := tl) (ta := ta) (tv := tv) (tm := tm) (tg := tg) hz17) ⟨rfl, rfl, Nat.le_of_ble_eq_true rfl, Nat.le_of_ble_eq_true rfl⟩ [15] [0, 1, 2, 3, 4, 5, 6, 7, 8, 9, 10, 11, 12, 13, 14] [0, 1, 2, 3, 4, 5, 6, 7, 8, 9, 10, 11, 12, 13, 14, 15] rfl rfl rfl rfl (by decide) rfl rfl 0 rfl rfl rfl rfl rfl (Nat.le_of_ble_eq_true rfl) d_T_run_116 (fun H locs hP hD hS => ?_)
            refine lv_goto (tgt := 124) hx hb d_T_run_119 (by decide) ?_
            exact J124 v1 v2 kr uz ul ks kv kz ku cb ga gb gd gc gx gy gu gs gp qa qb qd qc qx qy qu qs qp py po tp z17.1 z17.2.1 tv z17.2.2.1 z17.2.2.2 hf _ _ _ hl hP hD hS
        · rw [show va_rf (Option.map tk kr) = Value.ref (tk i15) from by rw [ho16]; rfl]
          refine lv_ifnull hx hb d_T_run_61 ?_
          refine lv_aload_n hx hb d_T_run_64 rfl (lv_at hl 0 rfl) ?_
          refine ct_g_T_kernel_T X hK hP d_T_run_65 ?_
          refine lv_aload_n hx hb d_T_run_68 rfl (lv_at hl 0 rfl) ?_
          refine ct_g_T_processor_T X hK hP d_T_run_69 ?_
          obtain ⟨z18, hz18, hf⟩ := op_b hf
          refine cf_i (ws2 := (ct_ aT aK aQ aL aA tk aY aB aG aS aP aC aI cI cT kr uz ul ks kv kz ku z18.2.2.2.1 z18.2.2.2.2.1 z18.2.2.2.2.2.1 z18.2.2.2.2.2.2.1 z18.2.2.2.2.2.2.2.1 z18.2.2.2.2.2.2.2.2.1 z18.2.2.2.2.2.2.2.2.2.1 z18.2.2.2.2.2.2.2.2.2.2.1 z18.2.2.2.2.2.2.2.2.2.2.2.1 z18.2.2.2.2.2.2.2.2.2.2.2.2 qa qb qd qc qx qy qu qs qp z18.2.1 z18.2.2.1 tp tl ta tv tm tg)) X cx_T_100 hK hP hD hS hA hZ hl (c_tc_P_execute (aY := aY) (aB := aB) (aG := aG) (aP := aP) (aC := aC) (py := py) (po := po) (cb := cb) (ga := ga) (gb := gb) (gd := gd) (gc := gc) (gx := gx) (gy := gy) (gu := gu) (gs := gs) (gp := gp) hz18) ⟨rfl, rfl, Nat.le_of_ble_eq_true rfl, Nat.le_of_ble_eq_true rfl⟩ [13, 9, 10, 11, 14] [0, 1, 2, 3, 4, 5, 6, 7, 8, 12, 15] [0, 1, 2, 3, 4, 5, 6, 7, 8, 12, 13, 14, 9, 11, 15, 10] rfl rfl rfl rfl (by decide) rfl rfl 0 rfl rfl rfl rfl rfl (Nat.le_of_ble_eq_true rfl) d_T_run_72 (fun H locs hP hD hS => ?_)
          obtain ⟨z19, hz19, hf⟩ := op_b hf
          refine cf_v (ws2 := (ct_ aT aK aQ aL aA tk aY aB aG aS aP aC aI cI cT z19.1 z19.2.1 z19.2.2.1 z19.2.2.2.1 z19.2.2.2.2.1 z19.2.2.2.2.2.1 z19.2.2.2.2.2.2.1 z19.2.2.2.2.2.2.2.1 z19.2.2.2.2.2.2.2.2.1 z19.2.2.2.2.2.2.2.2.2.1 z19.2.2.2.2.2.2.2.2.2.2.1 z19.2.2.2.2.2.2.2.2.2.2.2.1 z19.2.2.2.2.2.2.2.2.2.2.2.2.1 z19.2.2.2.2.2.2.2.2.2.2.2.2.2.1 z19.2.2.2.2.2.2.2.2.2.2.2.2.2.2.1 z19.2.2.2.2.2.2.2.2.2.2.2.2.2.2.2.1 z19.2.2.2.2.2.2.2.2.2.2.2.2.2.2.2.2.1 z19.2.2.2.2.2.2.2.2.2.2.2.2.2.2.2.2.2.1 z19.2.2.2.2.2.2.2.2.2.2.2.2.2.2.2.2.2.2.1 z19.2.2.2.2.2.2.2.2.2.2.2.2.2.2.2.2.2.2.2.1 z19.2.2.2.2.2.2.2.2.2.2.2.2.2.2.2.2.2.2.2.2.1 z19.2.2.2.2.2.2.2.2.2.2.2.2.2.2.2.2.2.2.2.2.2.1 z19.2.2.2.2.2.2.2.2.2.2.2.2.2.2.2.2.2.2.2.2.2.2.1 z19.2.2.2.2.2.2.2.2.2.2.2.2.2.2.2.2.2.2.2.2.2.2.2.1 z19.2.2.2.2.2.2.2.2.2.2.2.2.2.2.2.2.2.2.2.2.2.2.2.2.1 z19.2.2.2.2.2.2.2.2.2.2.2.2.2.2.2.2.2.2.2.2.2.2.2.2.2 z18.2.1 z18.2.2.1 tp tl ta tv tm tg)) X cx_T_104 hK hP hD hS hA hZ hl (c_tc_K_settle (aK := aK) (aQ := aQ) (aL := aL) (aA := aA) (tk := tk) (aY := aY) (aB := aB) (aG := aG) (aS := aS) (kr := kr) (uz := uz) (ul := ul) (ks := ks) (kv := kv) (kz := kz) (ku := ku) (cb := z18.2.2.2.1) (ga := z18.2.2.2.2.1) (gb := z18.2.2.2.2.2.1) (gd := z18.2.2.2.2.2.2.1) (gc := z18.2.2.2.2.2.2.2.1) (gx := z18.2.2.2.2.2.2.2.2.1) (gy := z18.2.2.2.2.2.2.2.2.2.1) (gu := z18.2.2.2.2.2.2.2.2.2.2.1) (gs := z18.2.2.2.2.2.2.2.2.2.2.2.1) (gp := z18.2.2.2.2.2.2.2.2.2.2.2.2) (qa := qa) (qb := qb) (qd := qd) (qc := qc) (qx := qx) (qy := qy) (qu := qu) (qs := qs) (qp := qp) hz19) ⟨rfl, rfl, Nat.le_of_ble_eq_true rfl, Nat.le_of_ble_eq_true rfl⟩ [1, 2, 3, 4, 5, 6, 7, 8, 9, 10, 11, 12] [0, 13, 14, 15] [0, 4, 5, 6, 7, 8, 9, 10, 11, 12, 13, 14, 15, 1, 2, 3] rfl rfl rfl rfl (by decide) rfl rfl 0 rfl rfl rfl rfl rfl (Nat.le_of_ble_eq_true rfl) d_T_run_75 (fun H locs hP hD hS => ?_)
          refine lv_aload_n hx hb d_T_run_78 rfl (lv_at hl 0 rfl) ?_
          refine ct_g_T_timer_T X hK hP d_T_run_79 ?_
          refine lv_aload_n hx hb d_T_run_82 rfl (lv_at hl 0 rfl) ?_
          refine ct_g_T_processor_T X hK hP d_T_run_83 ?_
          refine ct_g_P_cycles_T X hK hP d_T_run_86 ?_
          obtain ⟨z20, hz20, hf⟩ := op_b hf
          refine cf_v (ws2 := (ct_ aT aK aQ aL aA tk aY aB aG aS aP aC aI cI cT z19.1 z19.2.1 z19.2.2.1 z19.2.2.2.1 z19.2.2.2.2.1 z19.2.2.2.2.2.1 z19.2.2.2.2.2.2.1 z19.2.2.2.2.2.2.2.1 z19.2.2.2.2.2.2.2.2.1 z19.2.2.2.2.2.2.2.2.2.1 z19.2.2.2.2.2.2.2.2.2.2.1 z19.2.2.2.2.2.2.2.2.2.2.2.1 z19.2.2.2.2.2.2.2.2.2.2.2.2.1 z19.2.2.2.2.2.2.2.2.2.2.2.2.2.1 z19.2.2.2.2.2.2.2.2.2.2.2.2.2.2.1 z19.2.2.2.2.2.2.2.2.2.2.2.2.2.2.2.1 z19.2.2.2.2.2.2.2.2.2.2.2.2.2.2.2.2.1 z19.2.2.2.2.2.2.2.2.2.2.2.2.2.2.2.2.2.1 z19.2.2.2.2.2.2.2.2.2.2.2.2.2.2.2.2.2.2.1 z19.2.2.2.2.2.2.2.2.2.2.2.2.2.2.2.2.2.2.2.1 z19.2.2.2.2.2.2.2.2.2.2.2.2.2.2.2.2.2.2.2.2.1 z19.2.2.2.2.2.2.2.2.2.2.2.2.2.2.2.2.2.2.2.2.2.1 z19.2.2.2.2.2.2.2.2.2.2.2.2.2.2.2.2.2.2.2.2.2.2.1 z19.2.2.2.2.2.2.2.2.2.2.2.2.2.2.2.2.2.2.2.2.2.2.2.1 z19.2.2.2.2.2.2.2.2.2.2.2.2.2.2.2.2.2.2.2.2.2.2.2.2.1 z19.2.2.2.2.2.2.2.2.2.2.2.2.2.2.2.2.2.2.2.2.2.2.2.2.2 z18.2.1 z18.2.2.1 tp z20.1 z20.2.1 tv z20.2.2.1 z20.2.2.2)) X cx_T_111 hK hP hD hS hA hZ hl (c_tc_I_letPass (aI := aI) (tp := tp) (tl := tl) (ta := ta) (tv := tv) (tm := tm) (tg := tg) hz20) ⟨rfl, rfl, Nat.le_of_ble_eq_true rfl, Nat.le_of_ble_eq_true rfl⟩ [15] [0, 1, 2, 3, 4, 5, 6, 7, 8, 9, 10, 11, 12, 13, 14] [0, 1, 2, 3, 4, 5, 6, 7, 8, 9, 10, 11, 12, 13, 14, 15] rfl rfl rfl rfl (by decide) rfl rfl 0 rfl rfl rfl rfl rfl (Nat.le_of_ble_eq_true rfl) d_T_run_89 (fun H locs hP hD hS => ?_)
          refine lv_goto (tgt := 124) hx hb d_T_run_92 (by decide) ?_
          exact J124 v1 v2 z19.1 z19.2.1 z19.2.2.1 z19.2.2.2.1 z19.2.2.2.2.1 z19.2.2.2.2.2.1 z19.2.2.2.2.2.2.1 z19.2.2.2.2.2.2.2.1 z19.2.2.2.2.2.2.2.2.1 z19.2.2.2.2.2.2.2.2.2.1 z19.2.2.2.2.2.2.2.2.2.2.1 z19.2.2.2.2.2.2.2.2.2.2.2.1 z19.2.2.2.2.2.2.2.2.2.2.2.2.1 z19.2.2.2.2.2.2.2.2.2.2.2.2.2.1 z19.2.2.2.2.2.2.2.2.2.2.2.2.2.2.1 z19.2.2.2.2.2.2.2.2.2.2.2.2.2.2.2.1 z19.2.2.2.2.2.2.2.2.2.2.2.2.2.2.2.2.1 z19.2.2.2.2.2.2.2.2.2.2.2.2.2.2.2.2.2.1 z19.2.2.2.2.2.2.2.2.2.2.2.2.2.2.2.2.2.2.1 z19.2.2.2.2.2.2.2.2.2.2.2.2.2.2.2.2.2.2.2.1 z19.2.2.2.2.2.2.2.2.2.2.2.2.2.2.2.2.2.2.2.2.1 z19.2.2.2.2.2.2.2.2.2.2.2.2.2.2.2.2.2.2.2.2.2.1 z19.2.2.2.2.2.2.2.2.2.2.2.2.2.2.2.2.2.2.2.2.2.2.1 z19.2.2.2.2.2.2.2.2.2.2.2.2.2.2.2.2.2.2.2.2.2.2.2.1 z19.2.2.2.2.2.2.2.2.2.2.2.2.2.2.2.2.2.2.2.2.2.2.2.2.1 z19.2.2.2.2.2.2.2.2.2.2.2.2.2.2.2.2.2.2.2.2.2.2.2.2.2 z18.2.1 z18.2.2.1 tp z20.1 z20.2.1 tv z20.2.2.1 z20.2.2.2 hf _ _ _ hl hP hD hS
      intro v1 v2 kr uz ul ks kv kz ku cb ga gb gd gc gx gy gu gs gp qa qb qd qc qx qy qu qs qp py po tp tl ta tv tm tg hf H locs ls hl hP hD hS
      replace hf := (tc_T_run_l15_s n_ v1 v2 kr uz ul ks kv kz ku cb ga gb gd gc gx gy gu gs gp qa qb qd qc qx qy qu qs qp py po tp tl ta tv tm tg).symm.trans hf
      refine lv_iload_n hx hb d_T_run_15 rfl (lv_at hl 2 rfl) ?_
      refine lv_iload_n hx hb d_T_run_16 rfl (lv_at hl 1 rfl) ?_
      refine lv_icmp_ge (tgt := 130) hx hb d_T_run_17 (by decide) (fun hc => ?_) (fun hc => ?_)
      · replace hf := (if_pos hc).symm.trans hf
        refine lv_iload_n hx hb d_T_run_130 rfl (lv_at hl 1 rfl) ?_
        have hq := Option.some.inj hf
        subst hq
        exact rt_i (r := v1) X hr hlk hK rfl hP hD hS d_T_run_131
      · replace hf := (if_neg hc).symm.trans hf
        refine lv_aload_n hx hb d_T_run_20 rfl (lv_at hl 0 rfl) ?_
        refine ct_g_T_timer_T X hK hP d_T_run_21 ?_
        refine ct_g_I_pending_T X hK hP d_T_run_24 ?_
        refine lv_if_eq (tgt := 54) hx hb d_T_run_27 (by decide) (fun hc => ?_) (fun hc => ?_)
        · replace hf := (if_pos hc).symm.trans hf
          exact J54 v1 v2 kr uz ul ks kv kz ku cb ga gb gd gc gx gy gu gs gp qa qb qd qc qx qy qu qs qp py po tp tl ta tv tm tg hf _ _ _ hl hP hD hS
        · replace hf := (if_neg hc).symm.trans hf
          refine lv_aload_n hx hb d_T_run_30 rfl (lv_at hl 0 rfl) ?_
          refine ct_g_T_kernel_T X hK hP d_T_run_31 ?_
          obtain ⟨z21, hz21, hf⟩ := op_b hf
          refine cf_i (ws2 := (ct_ aT aK aQ aL aA tk aY aB aG aS aP aC aI cI cT kr uz ul ks kv kz ku cb ga gb gd gc gx gy gu gs gp qa qb qd qc qx qy qu qs qp py po tp tl ta tv tm tg)) X cx_T_86 hK hP hD hS hA hZ hl (c_tc_K_canServe (aK := aK) (aQ := aQ) (aL := aL) (aA := aA) (tk := tk) (aY := aY) (aB := aB) (aG := aG) (aS := aS) (kr := kr) (uz := uz) (ul := ul) (ks := ks) (kv := kv) (kz := kz) (ku := ku) (cb := cb) (ga := ga) (gb := gb) (gd := gd) (gc := gc) (gx := gx) (gy := gy) (gu := gu) (gs := gs) (gp := gp) (qa := qa) (qb := qb) (qd := qd) (qc := qc) (qx := qx) (qy := qy) (qu := qu) (qs := qs) (qp := qp) hz21) ⟨rfl, rfl, Nat.le_of_ble_eq_true rfl, Nat.le_of_ble_eq_true rfl⟩ [1, 2, 3, 4, 5, 6, 7, 8, 9, 10, 11, 12] [0, 13, 14, 15] [0, 4, 5, 6, 7, 8, 9, 10, 11, 12, 13, 14, 15, 1, 2, 3] rfl rfl rfl rfl (by decide) rfl rfl 0 rfl rfl rfl rfl rfl (Nat.le_of_ble_eq_true rfl) d_T_run_34 (fun H locs hP hD hS => ?_)
          refine lv_if_eq (tgt := 54) hx hb d_T_run_37 (by decide) (fun hc => ?_) (fun hc => ?_)
          · replace hf := (if_pos hc).symm.trans hf
            exact J54 v1 v2 kr uz ul ks kv kz ku cb ga gb gd gc gx gy gu gs gp qa qb qd qc qx qy qu qs qp py po tp tl ta tv tm tg hf _ _ _ hl hP hD hS
          · replace hf := (if_neg hc).symm.trans hf
            refine lv_aload_n hx hb d_T_run_40 rfl (lv_at hl 0 rfl) ?_
            refine ct_g_T_timer_T X hK hP d_T_run_41 ?_
            obtain ⟨z22, hz22, hf⟩ := op_b hf
            refine cf_v (ws2 := (ct_ aT aK aQ aL aA tk aY aB aG aS aP aC aI cI cT kr uz ul ks kv kz ku cb ga gb gd gc gx gy gu gs gp qa qb qd qc qx qy qu qs qp py po tp tl ta z22.1 tm z22.2)) X cx_T_90 hK hP hD hS hA hZ hl (c_tc_I_countServed (aI := aI) (tp := tp) (tl := tl) (ta := ta) (tv := tv) (tm := tm) (tg := tg) hz22) ⟨rfl, rfl, Nat.le_of_ble_eq_true rfl, Nat.le_of_ble_eq_true rfl⟩ [15] [0, 1, 2, 3, 4, 5, 6, 7, 8, 9, 10, 11, 12, 13, 14] [0, 1, 2, 3, 4, 5, 6, 7, 8, 9, 10, 11, 12, 13, 14, 15] rfl rfl rfl rfl (by decide) rfl rfl 0 rfl rfl rfl rfl rfl (Nat.le_of_ble_eq_true rfl) d_T_run_44 (fun H locs hP hD hS => ?_)
            refine lv_aload_n hx hb d_T_run_47 rfl (lv_at hl 0 rfl) ?_
            refine ct_g_T_kernel_T X hK hP d_T_run_48 ?_
            obtain ⟨z23, hz23, hf⟩ := op_b hf
            refine cf_v (ws2 := (ct_ aT aK aQ aL aA tk aY aB aG aS aP aC aI cI cT z23.1 z23.2.1 z23.2.2.1 z23.2.2.2.1 z23.2.2.2.2.1 z23.2.2.2.2.2.1 ku z23.2.2.2.2.2.2.1 z23.2.2.2.2.2.2.2.1 z23.2.2.2.2.2.2.2.2.1 z23.2.2.2.2.2.2.2.2.2.1 z23.2.2.2.2.2.2.2.2.2.2.1 z23.2.2.2.2.2.2.2.2.2.2.2.1 z23.2.2.2.2.2.2.2.2.2.2.2.2.1 z23.2.2.2.2.2.2.2.2.2.2.2.2.2.1 z23.2.2.2.2.2.2.2.2.2.2.2.2.2.2.1 z23.2.2.2.2.2.2.2.2.2.2.2.2.2.2.2 qa qb qd qc qx qy qu qs qp py po tp tl ta z22.1 tm z22.2)) X cx_T_93 hK hP hD hS hA hZ hl (c_tc_K_serveTick (aK := aK) (aQ := aQ) (aL := aL) (aA := aA) (tk := tk) (aY := aY) (aB := aB) (aG := aG) (aS := aS) (kr := kr) (uz := uz) (ul := ul) (ks := ks) (kv := kv) (kz := kz) (ku := ku) (cb := cb) (ga := ga) (gb := gb) (gd := gd) (gc := gc) (gx := gx) (gy := gy) (gu := gu) (gs := gs) (gp := gp) (qa := qa) (qb := qb) (qd := qd) (qc := qc) (qx := qx) (qy := qy) (qu := qu) (qs := qs) (qp := qp) hz23) ⟨rfl, rfl, Nat.le_of_ble_eq_true rfl, Nat.le_of_ble_eq_true rfl⟩ [1, 2, 3, 4, 5, 6, 7, 8, 9, 10, 11, 12] [0, 13, 14, 15] [0, 4, 5, 6, 7, 8, 9, 10, 11, 12, 13, 14, 15, 1, 2, 3] rfl rfl rfl rfl (by decide) rfl rfl 0 rfl rfl rfl rfl rfl (Nat.le_of_ble_eq_true rfl) d_T_run_51 (fun H locs hP hD hS => ?_)
            exact J54 v1 v2 z23.1 z23.2.1 z23.2.2.1 z23.2.2.2.1 z23.2.2.2.2.1 z23.2.2.2.2.2.1 ku z23.2.2.2.2.2.2.1 z23.2.2.2.2.2.2.2.1 z23.2.2.2.2.2.2.2.2.1 z23.2.2.2.2.2.2.2.2.2.1 z23.2.2.2.2.2.2.2.2.2.2.1 z23.2.2.2.2.2.2.2.2.2.2.2.1 z23.2.2.2.2.2.2.2.2.2.2.2.2.1 z23.2.2.2.2.2.2.2.2.2.2.2.2.2.1 z23.2.2.2.2.2.2.2.2.2.2.2.2.2.2.1 z23.2.2.2.2.2.2.2.2.2.2.2.2.2.2.2 qa qb qd qc qx qy qu qs qp py po tp tl ta z22.1 tm z22.2 hf _ _ _ hl hP hD hS
  unfold tc_T_run at hf
  refine lv_iload_n hx hb d_T_run_0 rfl (lv_at hl 1 rfl) ?_
  refine lv_if_lt (tgt := 11) hx hb d_T_run_1 (by decide) (fun hc => ?_) (fun hc => ?_)
  · replace hf := (if_pos hc).symm.trans hf
    refine lv_iconst (v := (-1 : Int32)) hx hb d_T_run_11 (by decide) ?_
    have hq := Option.some.inj hf
    subst hq
    exact rt_i (r := (-1 : Int32)) X hr hlk hK rfl hP hD hS d_T_run_12
  · replace hf := (if_neg hc).symm.trans hf
    refine lv_iload_n hx hb d_T_run_4 rfl (lv_at hl 1 rfl) ?_
    refine lv_sipush (v := (400 : Int32)) hx hb d_T_run_5 (by decide) ?_
    refine lv_icmp_le (tgt := 13) hx hb d_T_run_8 (by decide) (fun hc => ?_) (fun hc => ?_)
    · replace hf := (if_pos hc).symm.trans hf
      refine lv_iconst (v := (0 : Int32)) hx hb d_T_run_13 (by decide) ?_
      refine lv_istore_n hx hb d_T_run_14 rfl hl (by decide) rfl (fun ls hl => ?_)
      have hl : lv_has ls 3 [(2, .int (0 : Int32)), (0, .ref aT), (1, .int x1)] := hl
      exact L15 401 x1 (0 : Int32) kr uz ul ks kv kz ku cb ga gb gd gc gx gy gu gs gp qa qb qd qc qx qy qu qs qp py po tp tl ta tv tm tg hf _ _ _ (lv_sub hl [1, 2, 0] rfl) hP hD hS
    · replace hf := (if_neg hc).symm.trans hf
      refine lv_iconst (v := (-1 : Int32)) hx hb d_T_run_11 (by decide) ?_
      have hq := Option.some.inj hf
      subst hq
      exact rt_i (r := (-1 : Int32)) X hr hlk hK rfl hP hD hS d_T_run_12
set_option maxHeartbeats 4000000 in
set_option maxRecDepth 100000 in
theorem c_tc_T_state {x1 : Int32} {z : Int32} (hf : tc_T_state x1 ks = some z) : cs_i l my_T_state mb_T_state 3 .int rm_c_T_state D (ty_ cI cT) [.ref aT, .int x1] (ct_ aT aK aQ aL aA tk aY aB aG aS aP aC aI cI cT kr uz ul ks kv kz ku cb ga gb gd gc gx gy gu gs gp qa qb qd qc qx qy qu qs qp py po tp tl ta tv tm tg) (ct_ aT aK aQ aL aA tk aY aB aG aS aP aC aI cI cT kr uz ul ks kv kz ku cb ga gb gd gc gx gy gu gs gp qa qb qd qc qx qy qu qs qp py po tp tl ta tv tm tg) z := by
  refine cs_i_of (by decide) (Nat.le_of_ble_eq_true rfl) ?_
  intro p e s m below meth c A ls X hr hlk hK hP hD hS hA hZ hl
  have hx := X.1
  have hb := X.2.1
  have hl : lv_has ls 3 [(0, .ref aT), (1, .int x1)] := hl
  unfold tc_T_state at hf
  refine lv_aload_n hx hb d_T_state_0 rfl (lv_at hl 0 rfl) ?_
  refine ct_g_T_kernel_T X hK hP d_T_state_1 ?_
  refine lv_iload_n hx hb d_T_state_4 rfl (lv_at hl 1 rfl) ?_
  obtain ⟨z5, hz5, hf⟩ := op_b hf
  refine cf_q (ws2 := (ct_ aT aK aQ aL aA tk aY aB aG aS aP aC aI cI cT kr uz ul ks kv kz ku cb ga gb gd gc gx gy gu gs gp qa qb qd qc qx qy qu qs qp py po tp tl ta tv tm tg)) X cx_T_54 hK hP hD hS hA hZ hl (c_tc_K_taskAt (aK := aK) (aQ := aQ) (aL := aL) (aA := aA) (tk := tk) (aY := aY) (aB := aB) (aG := aG) (aS := aS) (kr := kr) (uz := uz) (ul := ul) (ks := ks) (kv := kv) (kz := kz) (ku := ku) (cb := cb) (ga := ga) (gb := gb) (gd := gd) (gc := gc) (gx := gx) (gy := gy) (gu := gu) (gs := gs) (gp := gp) (qa := qa) (qb := qb) (qd := qd) (qc := qc) (qx := qx) (qy := qy) (qu := qu) (qs := qs) (qp := qp) hz5) ⟨rfl, rfl, Nat.le_of_ble_eq_true rfl, Nat.le_of_ble_eq_true rfl⟩ [1, 2, 3, 4, 5, 6, 7, 8, 9, 10, 11, 12] [0, 13, 14, 15] [0, 4, 5, 6, 7, 8, 9, 10, 11, 12, 13, 14, 15, 1, 2, 3] rfl rfl rfl rfl (by decide) rfl rfl 0 rfl rfl rfl rfl rfl (Nat.le_of_ble_eq_true rfl) d_T_state_5 (fun H locs hP hD hS => ?_)
  refine lo_astore_n (ro := Option.map tk z5) hx hb d_T_state_8 rfl hl (by decide) rfl (fun ls hl => ?_)
  have hl : lv_has ls 3 [(2, va_rf (Option.map tk z5)), (0, .ref aT), (1, .int x1)] := hl
  refine lo_aload_n (ro := Option.map tk z5) hx hb d_T_state_9 rfl (lv_at hl 0 rfl) ?_
  rcases op_n hf with ⟨ho7, hf⟩ | ⟨i6, ho7, hf⟩
  · rw [show va_rf (Option.map tk z5) = Value.null from by rw [ho7]; rfl]
    refine lv_ifnonnullN hx hb d_T_state_10 ?_
    refine lv_iconst (v := (-1 : Int32)) hx hb d_T_state_13 (by decide) ?_
    refine lv_goto (tgt := 21) hx hb d_T_state_14 (by decide) ?_
    have hq := Option.some.inj hf
    subst hq
    exact rt_i (r := (-1 : Int32)) X hr hlk hK rfl hP hD hS d_T_state_21
  · rw [show va_rf (Option.map tk z5) = Value.ref (tk i6) from by rw [ho7]; rfl]
    refine lv_ifnonnull (tgt := 17) hx hb d_T_state_10 (by decide) ?_
    refine lo_aload_n (ro := Option.map tk z5) hx hb d_T_state_17 rfl (lv_at hl 0 rfl) ?_
    rw [show va_rf (Option.map tk z5) = Value.ref (tk i6) from by rw [ho7]; rfl]
    obtain ⟨ht8, hf⟩ := op_t hf
    refine ct_tg_state_T X hK hP ht8 d_T_state_18 ?_
    have hq := Option.some.inj hf
    subst hq
    exact rt_i (r := (ks i6)) X hr hlk hK rfl hP hD hS d_T_state_21
set_option maxHeartbeats 4000000 in
set_option maxRecDepth 100000 in
theorem c_tc_T_register {x1 : Int32} {x2 : Int32} {z : Int32 × Int32 × Int32 × Int32 × Int32 × Int32 × Int32 × Int32 × Int32 × Int32} (hf : tc_T_register x1 x2 kr ks kv cb ga gb gd gc gx gy gu gs gp qa qb qd qc qx qy qu qs qp = some z) : cs_i l my_T_register mb_T_register 4 .int rm_c_T_register D (ty_ cI cT) [.ref aT, .int x1, .int x2] (ct_ aT aK aQ aL aA tk aY aB aG aS aP aC aI cI cT kr uz ul ks kv kz ku cb ga gb gd gc gx gy gu gs gp qa qb qd qc qx qy qu qs qp py po tp tl ta tv tm tg) (ct_ aT aK aQ aL aA tk aY aB aG aS aP aC aI cI cT kr uz ul ks kv kz ku cb ga gb gd gc gx gy gu gs gp z.2.1 z.2.2.1 z.2.2.2.1 z.2.2.2.2.1 z.2.2.2.2.2.1 z.2.2.2.2.2.2.1 z.2.2.2.2.2.2.2.1 z.2.2.2.2.2.2.2.2.1 z.2.2.2.2.2.2.2.2.2 py po tp tl ta tv tm tg) z.1 := by
  refine cs_i_of (by decide) (Nat.le_of_ble_eq_true rfl) ?_
  intro p e s m below meth c A ls X hr hlk hK hP hD hS hA hZ hl
  have hx := X.1
  have hb := X.2.1
  have hl : lv_has ls 4 [(0, .ref aT), (1, .int x1), (2, .int x2)] := hl
  unfold tc_T_register at hf
  refine lv_aload_n hx hb d_T_register_0 rfl (lv_at hl 0 rfl) ?_
  refine ct_g_T_kernel_T X hK hP d_T_register_1 ?_
  refine lv_iload_n hx hb d_T_register_4 rfl (lv_at hl 1 rfl) ?_
  obtain ⟨z8, hz8, hf⟩ := op_b hf
  refine cf_q (ws2 := (ct_ aT aK aQ aL aA tk aY aB aG aS aP aC aI cI cT kr uz ul ks kv kz ku cb ga gb gd gc gx gy gu gs gp qa qb qd qc qx qy qu qs qp py po tp tl ta tv tm tg)) X cx_T_54 hK hP hD hS hA hZ hl (c_tc_K_taskAt (aK := aK) (aQ := aQ) (aL := aL) (aA := aA) (tk := tk) (aY := aY) (aB := aB) (aG := aG) (aS := aS) (kr := kr) (uz := uz) (ul := ul) (ks := ks) (kv := kv) (kz := kz) (ku := ku) (cb := cb) (ga := ga) (gb := gb) (gd := gd) (gc := gc) (gx := gx) (gy := gy) (gu := gu) (gs := gs) (gp := gp) (qa := qa) (qb := qb) (qd := qd) (qc := qc) (qx := qx) (qy := qy) (qu := qu) (qs := qs) (qp := qp) hz8) ⟨rfl, rfl, Nat.le_of_ble_eq_true rfl, Nat.le_of_ble_eq_true rfl⟩ [1, 2, 3, 4, 5, 6, 7, 8, 9, 10, 11, 12] [0, 13, 14, 15] [0, 4, 5, 6, 7, 8, 9, 10, 11, 12, 13, 14, 15, 1, 2, 3] rfl rfl rfl rfl (by decide) rfl rfl 0 rfl rfl rfl rfl rfl (Nat.le_of_ble_eq_true rfl) d_T_register_5 (fun H locs hP hD hS => ?_)
  refine lo_astore_n (ro := Option.map tk z8) hx hb d_T_register_8 rfl hl (by decide) rfl (fun ls hl => ?_)
  have hl : lv_has ls 4 [(3, va_rf (Option.map tk z8)), (0, .ref aT), (1, .int x1), (2, .int x2)] := hl
  refine lo_aload_n (ro := Option.map tk z8) hx hb d_T_register_9 rfl (lv_at hl 0 rfl) ?_
  rcases op_n hf with ⟨ho10, hf⟩ | ⟨i9, ho10, hf⟩
  · rw [show va_rf (Option.map tk z8) = Value.null from by rw [ho10]; rfl]
    refine lv_ifnullN (tgt := 27) hx hb d_T_register_10 (by decide) ?_
    refine lv_iconst (v := (-1 : Int32)) hx hb d_T_register_27 (by decide) ?_
    have hq := Option.some.inj hf
    subst hq
    exact rt_i (r := (-1 : Int32)) X hr hlk hK rfl hP hD hS d_T_register_28
  · rw [show va_rf (Option.map tk z8) = Value.ref (tk i9) from by rw [ho10]; rfl]
    refine lv_ifnull hx hb d_T_register_10 ?_
    refine lo_aload_n (ro := Option.map tk z8) hx hb d_T_register_13 rfl (lv_at hl 0 rfl) ?_
    rw [show va_rf (Option.map tk z8) = Value.ref (tk i9) from by rw [ho10]; rfl]
    obtain ⟨ht11, hf⟩ := op_t hf
    refine ct_tg_state_T X hK hP ht11 d_T_register_14 ?_
    refine lv_if_eq (tgt := 27) hx hb d_T_register_17 (by decide) (fun hc => ?_) (fun hc => ?_)
    · replace hf := (if_pos hc).symm.trans hf
      refine lv_iconst (v := (-1 : Int32)) hx hb d_T_register_27 (by decide) ?_
      have hq := Option.some.inj hf
      subst hq
      exact rt_i (r := (-1 : Int32)) X hr hlk hK rfl hP hD hS d_T_register_28
    · replace hf := (if_neg hc).symm.trans hf
      refine lv_iload_n hx hb d_T_register_20 rfl (lv_at hl 3 rfl) ?_
      obtain ⟨z12, hz12, hf⟩ := op_b hf
      refine cf_si X cx_T_114 hK hP hD hS hA hZ hl (c_tc_G_exists (w := (ct_ aT aK aQ aL aA tk aY aB aG aS aP aC aI cI cT kr uz ul ks kv kz ku cb ga gb gd gc gx gy gu gs gp qa qb qd qc qx qy qu qs qp py po tp tl ta tv tm tg)) hz12) ⟨rfl, rfl, Nat.le_of_ble_eq_true rfl, Nat.le_of_ble_eq_true rfl⟩ rfl rfl (Nat.le_of_ble_eq_true rfl) d_T_register_21 (fun H locs hP hD hS => ?_)
      refine lv_if_ne (tgt := 29) hx hb d_T_register_24 (by decide) (fun hc => ?_) (fun hc => ?_)
      · replace hf := (if_neg hc).symm.trans hf
        refine lv_aload_n hx hb d_T_register_29 rfl (lv_at hl 1 rfl) ?_
        refine ct_g_T_kernel_T X hK hP d_T_register_30 ?_
        refine lo_aload_n (ro := Option.map tk z8) hx hb d_T_register_33 rfl (lv_at hl 0 rfl) ?_
        rw [show va_rf (Option.map tk z8) = Value.ref (tk i9) from by rw [ho10]; rfl]
        obtain ⟨z13, hz13, hf⟩ := op_b hf
        refine cf_q (ws2 := (ct_ aT aK aQ aL aA tk aY aB aG aS aP aC aI cI cT kr uz ul ks kv kz ku cb ga gb gd gc gx gy gu gs gp z13.2.1 z13.2.2.1 z13.2.2.2.1 z13.2.2.2.2.1 z13.2.2.2.2.2.1 z13.2.2.2.2.2.2.1 z13.2.2.2.2.2.2.2.1 z13.2.2.2.2.2.2.2.2.1 z13.2.2.2.2.2.2.2.2.2 py po tp tl ta tv tm tg)) X cx_T_117 hK hP hD hS hA hZ hl (c_tc_K_registersOf (aK := aK) (aQ := aQ) (aL := aL) (aA := aA) (tk := tk) (aY := aY) (aB := aB) (aG := aG) (aS := aS) (kr := kr) (uz := uz) (ul := ul) (ks := ks) (kv := kv) (kz := kz) (ku := ku) (cb := cb) (ga := ga) (gb := gb) (gd := gd) (gc := gc) (gx := gx) (gy := gy) (gu := gu) (gs := gs) (gp := gp) (qa := qa) (qb := qb) (qd := qd) (qc := qc) (qx := qx) (qy := qy) (qu := qu) (qs := qs) (qp := qp) hz13) ⟨rfl, rfl, Nat.le_of_ble_eq_true rfl, Nat.le_of_ble_eq_true rfl⟩ [1, 2, 3, 4, 5, 6, 7, 8, 9, 10, 11, 12] [0, 13, 14, 15] [0, 4, 5, 6, 7, 8, 9, 10, 11, 12, 13, 14, 15, 1, 2, 3] rfl rfl rfl rfl (by decide) rfl rfl 0 rfl rfl rfl rfl rfl (Nat.le_of_ble_eq_true rfl) d_T_register_34 (fun H locs hP hD hS => ?_)
        by_cases hb14 : z13.1 = true
        · replace hf := (if_pos hb14).symm.trans hf
          rw [show va_rf (some (cond z13.1 aG aS)) = Value.ref aG from by rw [hb14]; rfl]
          refine lv_iload_n hx hb d_T_register_37 rfl (lv_at hl 3 rfl) ?_
          obtain ⟨z15, hz15, hf⟩ := op_b hf
          refine cf_i (ws2 := (ct_ aT aK aQ aL aA tk aY aB aG aS aP aC aI cI cT kr uz ul ks kv kz ku cb ga gb gd gc gx gy gu gs gp z13.2.1 z13.2.2.1 z13.2.2.2.1 z13.2.2.2.2.1 z13.2.2.2.2.2.1 z13.2.2.2.2.2.2.1 z13.2.2.2.2.2.2.2.1 z13.2.2.2.2.2.2.2.2.1 z13.2.2.2.2.2.2.2.2.2 py po tp tl ta tv tm tg)) X cx_T_121 hK hP hD hS hA hZ hl (c_tc_G_get (aG := aG) (ga := ga) (gb := gb) (gd := gd) (gc := gc) (gx := gx) (gy := gy) (gu := gu) (gs := gs) (gp := gp) hz15) ⟨rfl, rfl, Nat.le_of_ble_eq_true rfl, Nat.le_of_ble_eq_true rfl⟩ [11] [0, 1, 2, 3, 4, 5, 6, 7, 8, 9, 10, 12, 13, 14, 15] [0, 1, 2, 3, 4, 5, 6, 7, 8, 9, 10, 15, 11, 12, 13, 14] rfl rfl rfl rfl (by decide) rfl rfl 0 rfl rfl rfl rfl rfl (Nat.le_of_ble_eq_true rfl) d_T_register_38 (fun H locs hP hD hS => ?_)
          have hq := Option.some.inj hf
          subst hq
          exact rt_i (r := z15) X hr hlk hK rfl hP hD hS d_T_register_41
        · replace hf := (if_neg hb14).symm.trans hf
          have hb14 := eq_false_of_ne_true hb14
          rw [show va_rf (some (cond z13.1 aG aS)) = Value.ref aS from by rw [hb14]; rfl]
          refine lv_iload_n hx hb d_T_register_37 rfl (lv_at hl 3 rfl) ?_
          obtain ⟨z16, hz16, hf⟩ := op_b hf
          refine cf_i (ws2 := (ct_ aT aK aQ aL aA tk aY aB aG aS aP aC aI cI cT kr uz ul ks kv kz ku cb ga gb gd gc gx gy gu gs gp z13.2.1 z13.2.2.1 z13.2.2.2.1 z13.2.2.2.2.1 z13.2.2.2.2.2.1 z13.2.2.2.2.2.2.1 z13.2.2.2.2.2.2.2.1 z13.2.2.2.2.2.2.2.2.1 z13.2.2.2.2.2.2.2.2.2 py po tp tl ta tv tm tg)) X cx_T_121 hK hP hD hS hA hZ hl (c_tc_G_get (aG := aS) (ga := z13.2.1) (gb := z13.2.2.1) (gd := z13.2.2.2.1) (gc := z13.2.2.2.2.1) (gx := z13.2.2.2.2.2.1) (gy := z13.2.2.2.2.2.2.1) (gu := z13.2.2.2.2.2.2.2.1) (gs := z13.2.2.2.2.2.2.2.2.1) (gp := z13.2.2.2.2.2.2.2.2.2) hz16) ⟨rfl, rfl, Nat.le_of_ble_eq_true rfl, Nat.le_of_ble_eq_true rfl⟩ [12] [0, 1, 2, 3, 4, 5, 6, 7, 8, 9, 10, 11, 13, 14, 15] [0, 1, 2, 3, 4, 5, 6, 7, 8, 9, 10, 11, 15, 12, 13, 14] rfl rfl rfl rfl (by decide) rfl rfl 0 rfl rfl rfl rfl rfl (Nat.le_of_ble_eq_true rfl) d_T_register_38 (fun H locs hP hD hS => ?_)
          have hq := Option.some.inj hf
          subst hq
          exact rt_i (r := z16) X hr hlk hK rfl hP hD hS d_T_register_41
      · replace hf := (if_pos hc).symm.trans hf
        refine lv_iconst (v := (-1 : Int32)) hx hb d_T_register_27 (by decide) ?_
        have hq := Option.some.inj hf
        subst hq
        exact rt_i (r := (-1 : Int32)) X hr hlk hK rfl hP hD hS d_T_register_28
set_option maxHeartbeats 4000000 in
set_option maxRecDepth 100000 in
theorem c_tc_T_queued {x1 : Int32} {z : Int32} (hf : tc_T_queued x1 uz ul = some z) : cs_i l my_T_queued mb_T_queued 2 .int rm_c_T_queued D (ty_ cI cT) [.ref aT, .int x1] (ct_ aT aK aQ aL aA tk aY aB aG aS aP aC aI cI cT kr uz ul ks kv kz ku cb ga gb gd gc gx gy gu gs gp qa qb qd qc qx qy qu qs qp py po tp tl ta tv tm tg) (ct_ aT aK aQ aL aA tk aY aB aG aS aP aC aI cI cT kr uz ul ks kv kz ku cb ga gb gd gc gx gy gu gs gp qa qb qd qc qx qy qu qs qp py po tp tl ta tv tm tg) z := by
  refine cs_i_of (by decide) (Nat.le_of_ble_eq_true rfl) ?_
  intro p e s m below meth c A ls X hr hlk hK hP hD hS hA hZ hl
  have hx := X.1
  have hb := X.2.1
  have hl : lv_has ls 2 [(0, .ref aT), (1, .int x1)] := hl
  unfold tc_T_queued at hf
  refine lv_aload_n hx hb d_T_queued_0 rfl (lv_at hl 0 rfl) ?_
  refine ct_g_T_kernel_T X hK hP d_T_queued_1 ?_
  refine ct_g_K_queue_T X hK hP d_T_queued_4 ?_
  refine lv_iload_n hx hb d_T_queued_7 rfl (lv_at hl 1 rfl) ?_
  obtain ⟨z2, hz2, hf⟩ := op_b hf
  refine cf_i (ws2 := (ct_ aT aK aQ aL aA tk aY aB aG aS aP aC aI cI cT kr uz ul ks kv kz ku cb ga gb gd gc gx gy gu gs gp qa qb qd qc qx qy qu qs qp py po tp tl ta tv tm tg)) X cx_T_129 hK hP hD hS hA hZ hl (c_tc_Q_numberAt (aQ := aQ) (aL := aL) (tk := tk) (uz := uz) (ul := ul) (ks := ks) (kv := kv) (kz := kz) (ku := ku) hz2) ⟨rfl, rfl, Nat.le_of_ble_eq_true rfl, Nat.le_of_ble_eq_true rfl⟩ [2, 3, 5, 6, 7, 8] [0, 1, 4, 9, 10, 11, 12, 13, 14, 15] [0, 1, 10, 11, 2, 12, 13, 14, 15, 3, 4, 5, 6, 7, 8, 9] rfl rfl rfl rfl (by decide) rfl rfl 0 rfl rfl rfl rfl rfl (Nat.le_of_ble_eq_true rfl) d_T_queued_8 (fun H locs hP hD hS => ?_)
  have hq := Option.some.inj hf
  subst hq
  exact rt_i (r := z2) X hr hlk hK rfl hP hD hS d_T_queued_11
set_option maxHeartbeats 4000000 in
set_option maxRecDepth 100000 in
theorem c_tc_T_sleeps {x1 : Int32} {z : Int32} (hf : tc_T_sleeps x1 ks kz = some z) : cs_i l my_T_sleeps mb_T_sleeps 3 .int rm_c_T_sleeps D (ty_ cI cT) [.ref aT, .int x1] (ct_ aT aK aQ aL aA tk aY aB aG aS aP aC aI cI cT kr uz ul ks kv kz ku cb ga gb gd gc gx gy gu gs gp qa qb qd qc qx qy qu qs qp py po tp tl ta tv tm tg) (ct_ aT aK aQ aL aA tk aY aB aG aS aP aC aI cI cT kr uz ul ks kv kz ku cb ga gb gd gc gx gy gu gs gp qa qb qd qc qx qy qu qs qp py po tp tl ta tv tm tg) z := by
  refine cs_i_of (by decide) (Nat.le_of_ble_eq_true rfl) ?_
  intro p e s m below meth c A ls X hr hlk hK hP hD hS hA hZ hl
  have hx := X.1
  have hb := X.2.1
  have hl : lv_has ls 3 [(0, .ref aT), (1, .int x1)] := hl
  have J21 : ∀ (ks : Nat → Int32) (kz : Nat → Int32), tc_T_sleeps_j21 ks kz = some z → ∀ (H : Heap) (locs : List Loc) (ls : Array Slot), lv_has ls 3 [] → va_P D cz_all (ct_ aT aK aQ aL aA tk aY aB aG aS aP aC aI cI cT kr uz ul ks kv kz ku cb ga gb gd gc gx gy gu gs gp qa qb qd qc qx qy qu qs qp py po tp tl ta tv tm tg) H → va_D A (ct_ aT aK aQ aL aA tk aY aB aG aS aP aC aI cI cT kr uz ul ks kv kz ku cb ga gb gd gc gx gy gu gs gp qa qb qd qc qx qy qu qs qp py po tp tl ta tv tm tg) → va_S A s.heap H locs → W p l e rm_c_T_sleeps s m ([.ref aT, .int x1] : List Value).toArray below meth c H locs 0 0 (MQ below (qs_i D (ty_ cI cT) (ct_ aT aK aQ aL aA tk aY aB aG aS aP aC aI cI cT kr uz ul ks kv kz ku cb ga gb gd gc gx gy gu gs gp qa qb qd qc qx qy qu qs qp py po tp tl ta tv tm tg) z A) ([.ref aT, .int x1] : List Value).toArray s 0 0 A) (F0 m 21 ls []) := by
    intro ks kz hf H locs ls hl hP hD hS
    unfold tc_T_sleeps_j21 at hf
    refine lv_iconst (v := (0 : Int32)) hx hb d_T_sleeps_21 (by decide) ?_
    refine lv_goto (tgt := 29) hx hb d_T_sleeps_22 (by decide) ?_
    have hq := Option.some.inj hf
    subst hq
    exact rt_i (r := (0 : Int32)) X hr hlk hK rfl hP hD hS d_T_sleeps_29
  unfold tc_T_sleeps at hf
  refine lv_aload_n hx hb d_T_sleeps_0 rfl (lv_at hl 0 rfl) ?_
  refine ct_g_T_kernel_T X hK hP d_T_sleeps_1 ?_
  refine lv_iload_n hx hb d_T_sleeps_4 rfl (lv_at hl 1 rfl) ?_
  obtain ⟨z5, hz5, hf⟩ := op_b hf
  refine cf_q (ws2 := (ct_ aT aK aQ aL aA tk aY aB aG aS aP aC aI cI cT kr uz ul ks kv kz ku cb ga gb gd gc gx gy gu gs gp qa qb qd qc qx qy qu qs qp py po tp tl ta tv tm tg)) X cx_T_54 hK hP hD hS hA hZ hl (c_tc_K_taskAt (aK := aK) (aQ := aQ) (aL := aL) (aA := aA) (tk := tk) (aY := aY) (aB := aB) (aG := aG) (aS := aS) (kr := kr) (uz := uz) (ul := ul) (ks := ks) (kv := kv) (kz := kz) (ku := ku) (cb := cb) (ga := ga) (gb := gb) (gd := gd) (gc := gc) (gx := gx) (gy := gy) (gu := gu) (gs := gs) (gp := gp) (qa := qa) (qb := qb) (qd := qd) (qc := qc) (qx := qx) (qy := qy) (qu := qu) (qs := qs) (qp := qp) hz5) ⟨rfl, rfl, Nat.le_of_ble_eq_true rfl, Nat.le_of_ble_eq_true rfl⟩ [1, 2, 3, 4, 5, 6, 7, 8, 9, 10, 11, 12] [0, 13, 14, 15] [0, 4, 5, 6, 7, 8, 9, 10, 11, 12, 13, 14, 15, 1, 2, 3] rfl rfl rfl rfl (by decide) rfl rfl 0 rfl rfl rfl rfl rfl (Nat.le_of_ble_eq_true rfl) d_T_sleeps_5 (fun H locs hP hD hS => ?_)
  refine lo_astore_n (ro := Option.map tk z5) hx hb d_T_sleeps_8 rfl hl (by decide) rfl (fun ls hl => ?_)
  have hl : lv_has ls 3 [(2, va_rf (Option.map tk z5)), (0, .ref aT), (1, .int x1)] := hl
  refine lo_aload_n (ro := Option.map tk z5) hx hb d_T_sleeps_9 rfl (lv_at hl 0 rfl) ?_
  rcases op_n hf with ⟨ho7, hf⟩ | ⟨i6, ho7, hf⟩
  · rw [show va_rf (Option.map tk z5) = Value.null from by rw [ho7]; rfl]
    refine lv_ifnullN (tgt := 21) hx hb d_T_sleeps_10 (by decide) ?_
    exact J21 ks kz hf _ _ _ (lv_sub hl [] rfl) hP hD hS
  · rw [show va_rf (Option.map tk z5) = Value.ref (tk i6) from by rw [ho7]; rfl]
    refine lv_ifnull hx hb d_T_sleeps_10 ?_
    refine lo_aload_n (ro := Option.map tk z5) hx hb d_T_sleeps_13 rfl (lv_at hl 0 rfl) ?_
    rw [show va_rf (Option.map tk z5) = Value.ref (tk i6) from by rw [ho7]; rfl]
    obtain ⟨ht8, hf⟩ := op_t hf
    refine ct_tg_state_T X hK hP ht8 d_T_sleeps_14 ?_
    refine lv_iconst (v := (3 : Int32)) hx hb d_T_sleeps_17 (by decide) ?_
    refine lv_icmp_eq (tgt := 25) hx hb d_T_sleeps_18 (by decide) (fun hc => ?_) (fun hc => ?_)
    · replace hf := (if_pos hc).symm.trans hf
      refine lo_aload_n (ro := Option.map tk z5) hx hb d_T_sleeps_25 rfl (lv_at hl 0 rfl) ?_
      rw [show va_rf (Option.map tk z5) = Value.ref (tk i6) from by rw [ho7]; rfl]
      refine ct_tg_sleep_T X hK hP ht8 d_T_sleeps_26 ?_
      have hq := Option.some.inj hf
      subst hq
      exact rt_i (r := (kz i6)) X hr hlk hK rfl hP hD hS d_T_sleeps_29
    · replace hf := (if_neg hc).symm.trans hf
      exact J21 ks kz hf _ _ _ (lv_sub hl [] rfl) hP hD hS
set_option maxHeartbeats 4000000 in
set_option maxRecDepth 100000 in
theorem c_tc_T_status {x1 : Int32} {z : Int32} (hf : tc_T_status x1 ku = some z) : cs_i l my_T_status mb_T_status 3 .int rm_c_T_status D (ty_ cI cT) [.ref aT, .int x1] (ct_ aT aK aQ aL aA tk aY aB aG aS aP aC aI cI cT kr uz ul ks kv kz ku cb ga gb gd gc gx gy gu gs gp qa qb qd qc qx qy qu qs qp py po tp tl ta tv tm tg) (ct_ aT aK aQ aL aA tk aY aB aG aS aP aC aI cI cT kr uz ul ks kv kz ku cb ga gb gd gc gx gy gu gs gp qa qb qd qc qx qy qu qs qp py po tp tl ta tv tm tg) z := by
  refine cs_i_of (by decide) (Nat.le_of_ble_eq_true rfl) ?_
  intro p e s m below meth c A ls X hr hlk hK hP hD hS hA hZ hl
  have hx := X.1
  have hb := X.2.1
  have hl : lv_has ls 3 [(0, .ref aT), (1, .int x1)] := hl
  unfold tc_T_status at hf
  refine lv_aload_n hx hb d_T_status_0 rfl (lv_at hl 0 rfl) ?_
  refine ct_g_T_kernel_T X hK hP d_T_status_1 ?_
  refine lv_iload_n hx hb d_T_status_4 rfl (lv_at hl 1 rfl) ?_
  obtain ⟨z5, hz5, hf⟩ := op_b hf
  refine cf_q (ws2 := (ct_ aT aK aQ aL aA tk aY aB aG aS aP aC aI cI cT kr uz ul ks kv kz ku cb ga gb gd gc gx gy gu gs gp qa qb qd qc qx qy qu qs qp py po tp tl ta tv tm tg)) X cx_T_54 hK hP hD hS hA hZ hl (c_tc_K_taskAt (aK := aK) (aQ := aQ) (aL := aL) (aA := aA) (tk := tk) (aY := aY) (aB := aB) (aG := aG) (aS := aS) (kr := kr) (uz := uz) (ul := ul) (ks := ks) (kv := kv) (kz := kz) (ku := ku) (cb := cb) (ga := ga) (gb := gb) (gd := gd) (gc := gc) (gx := gx) (gy := gy) (gu := gu) (gs := gs) (gp := gp) (qa := qa) (qb := qb) (qd := qd) (qc := qc) (qx := qx) (qy := qy) (qu := qu) (qs := qs) (qp := qp) hz5) ⟨rfl, rfl, Nat.le_of_ble_eq_true rfl, Nat.le_of_ble_eq_true rfl⟩ [1, 2, 3, 4, 5, 6, 7, 8, 9, 10, 11, 12] [0, 13, 14, 15] [0, 4, 5, 6, 7, 8, 9, 10, 11, 12, 13, 14, 15, 1, 2, 3] rfl rfl rfl rfl (by decide) rfl rfl 0 rfl rfl rfl rfl rfl (Nat.le_of_ble_eq_true rfl) d_T_status_5 (fun H locs hP hD hS => ?_)
  refine lo_astore_n (ro := Option.map tk z5) hx hb d_T_status_8 rfl hl (by decide) rfl (fun ls hl => ?_)
  have hl : lv_has ls 3 [(2, va_rf (Option.map tk z5)), (0, .ref aT), (1, .int x1)] := hl
  refine lo_aload_n (ro := Option.map tk z5) hx hb d_T_status_9 rfl (lv_at hl 0 rfl) ?_
  rcases op_n hf with ⟨ho7, hf⟩ | ⟨i6, ho7, hf⟩
  · rw [show va_rf (Option.map tk z5) = Value.null from by rw [ho7]; rfl]
    refine lv_ifnonnullN hx hb d_T_status_10 ?_
    refine lv_iconst (v := (-1 : Int32)) hx hb d_T_status_13 (by decide) ?_
    refine lv_goto (tgt := 21) hx hb d_T_status_14 (by decide) ?_
    have hq := Option.some.inj hf
    subst hq
    exact rt_i (r := (-1 : Int32)) X hr hlk hK rfl hP hD hS d_T_status_21
  · rw [show va_rf (Option.map tk z5) = Value.ref (tk i6) from by rw [ho7]; rfl]
    refine lv_ifnonnull (tgt := 17) hx hb d_T_status_10 (by decide) ?_
    refine lo_aload_n (ro := Option.map tk z5) hx hb d_T_status_17 rfl (lv_at hl 0 rfl) ?_
    rw [show va_rf (Option.map tk z5) = Value.ref (tk i6) from by rw [ho7]; rfl]
    obtain ⟨ht8, hf⟩ := op_t hf
    refine ct_tg_status_T X hK hP ht8 d_T_status_18 ?_
    have hq := Option.some.inj hf
    subst hq
    exact rt_i (r := (ku i6)) X hr hlk hK rfl hP hD hS d_T_status_21
set_option maxHeartbeats 4000000 in
set_option maxRecDepth 100000 in
theorem c_tc_T_cycles  {z : Int32} (hf : tc_T_cycles ta = some z) : cs_i l my_T_cycles mb_T_cycles 1 .int rm_c_T_cycles D (ty_ cI cT) [.ref aT] (ct_ aT aK aQ aL aA tk aY aB aG aS aP aC aI cI cT kr uz ul ks kv kz ku cb ga gb gd gc gx gy gu gs gp qa qb qd qc qx qy qu qs qp py po tp tl ta tv tm tg) (ct_ aT aK aQ aL aA tk aY aB aG aS aP aC aI cI cT kr uz ul ks kv kz ku cb ga gb gd gc gx gy gu gs gp qa qb qd qc qx qy qu qs qp py po tp tl ta tv tm tg) z := by
  refine cs_i_of (by decide) (Nat.le_of_ble_eq_true rfl) ?_
  intro p e s m below meth c A ls X hr hlk hK hP hD hS hA hZ hl
  have hx := X.1
  have hb := X.2.1
  have hl : lv_has ls 1 [(0, .ref aT)] := hl
  unfold tc_T_cycles at hf
  refine lv_aload_n hx hb d_T_cycles_0 rfl (lv_at hl 0 rfl) ?_
  refine ct_g_T_timer_T X hK hP d_T_cycles_1 ?_
  refine ct_g_I_passed_T X hK hP d_T_cycles_4 ?_
  have hq := Option.some.inj hf
  subst hq
  exact rt_i (r := ta) X hr hlk hK rfl hP hD hS d_T_cycles_7
set_option maxHeartbeats 4000000 in
set_option maxRecDepth 100000 in
theorem c_tc_T_ticks  {z : Int32} (hf : tc_T_ticks tv = some z) : cs_i l my_T_ticks mb_T_ticks 1 .int rm_c_T_ticks D (ty_ cI cT) [.ref aT] (ct_ aT aK aQ aL aA tk aY aB aG aS aP aC aI cI cT kr uz ul ks kv kz ku cb ga gb gd gc gx gy gu gs gp qa qb qd qc qx qy qu qs qp py po tp tl ta tv tm tg) (ct_ aT aK aQ aL aA tk aY aB aG aS aP aC aI cI cT kr uz ul ks kv kz ku cb ga gb gd gc gx gy gu gs gp qa qb qd qc qx qy qu qs qp py po tp tl ta tv tm tg) z := by
  refine cs_i_of (by decide) (Nat.le_of_ble_eq_true rfl) ?_
  intro p e s m below meth c A ls X hr hlk hK hP hD hS hA hZ hl
  have hx := X.1
  have hb := X.2.1
  have hl : lv_has ls 1 [(0, .ref aT)] := hl
  unfold tc_T_ticks at hf
  refine lv_aload_n hx hb d_T_ticks_0 rfl (lv_at hl 0 rfl) ?_
  refine ct_g_T_timer_T X hK hP d_T_ticks_1 ?_
  refine ct_g_I_served_T X hK hP d_T_ticks_4 ?_
  have hq := Option.some.inj hf
  subst hq
  exact rt_i (r := tv) X hr hlk hK rfl hP hD hS d_T_ticks_7
set_option maxHeartbeats 4000000 in
set_option maxRecDepth 100000 in
theorem c_tc_T_lost  {z : Int32} (hf : tc_T_lost tm tg = some z) : cs_i l my_T_lost mb_T_lost 1 .int rm_c_T_lost D (ty_ cI cT) [.ref aT] (ct_ aT aK aQ aL aA tk aY aB aG aS aP aC aI cI cT kr uz ul ks kv kz ku cb ga gb gd gc gx gy gu gs gp qa qb qd qc qx qy qu qs qp py po tp tl ta tv tm tg) (ct_ aT aK aQ aL aA tk aY aB aG aS aP aC aI cI cT kr uz ul ks kv kz ku cb ga gb gd gc gx gy gu gs gp qa qb qd qc qx qy qu qs qp py po tp tl ta tv tm tg) z := by
  refine cs_i_of (by decide) (Nat.le_of_ble_eq_true rfl) ?_
  intro p e s m below meth c A ls X hr hlk hK hP hD hS hA hZ hl
  have hx := X.1
  have hb := X.2.1
  have hl : lv_has ls 1 [(0, .ref aT)] := hl
  unfold tc_T_lost at hf
  refine lv_aload_n hx hb d_T_lost_0 rfl (lv_at hl 0 rfl) ?_
  refine ct_g_T_timer_T X hK hP d_T_lost_1 ?_
  refine ct_g_I_pending_T X hK hP d_T_lost_4 ?_
  refine lv_if_eq (tgt := 23) hx hb d_T_lost_7 (by decide) (fun hc => ?_) (fun hc => ?_)
  · replace hf := (if_pos hc).symm.trans hf
    refine lv_aload_n hx hb d_T_lost_23 rfl (lv_at hl 0 rfl) ?_
    refine ct_g_T_timer_T X hK hP d_T_lost_24 ?_
    refine ct_g_I_missed_T X hK hP d_T_lost_27 ?_
    have hq := Option.some.inj hf
    subst hq
    exact rt_i (r := tm) X hr hlk hK rfl hP hD hS d_T_lost_30
  · replace hf := (if_neg hc).symm.trans hf
    refine lv_aload_n hx hb d_T_lost_10 rfl (lv_at hl 0 rfl) ?_
    refine ct_g_T_timer_T X hK hP d_T_lost_11 ?_
    refine ct_g_I_missed_T X hK hP d_T_lost_14 ?_
    refine lv_ldc (v := (100000 : Int32)) hx hb X.2.2.2.1 (X.2.2.2.2 _ ww_6) d_T_lost_17 ?_
    refine lv_iadd hx hb d_T_lost_19 ?_
    refine lv_goto (tgt := 30) hx hb d_T_lost_20 (by decide) ?_
    have hq := Option.some.inj hf
    subst hq
    exact rt_i (r := (tm + (100000 : Int32))) X hr hlk hK rfl hP hD hS d_T_lost_30
set_option maxHeartbeats 4000000 in
set_option maxRecDepth 100000 in
theorem c_tc_T_left  {z : Int32} (hf : tc_T_left tl = some z) : cs_i l my_T_left mb_T_left 1 .int rm_c_T_left D (ty_ cI cT) [.ref aT] (ct_ aT aK aQ aL aA tk aY aB aG aS aP aC aI cI cT kr uz ul ks kv kz ku cb ga gb gd gc gx gy gu gs gp qa qb qd qc qx qy qu qs qp py po tp tl ta tv tm tg) (ct_ aT aK aQ aL aA tk aY aB aG aS aP aC aI cI cT kr uz ul ks kv kz ku cb ga gb gd gc gx gy gu gs gp qa qb qd qc qx qy qu qs qp py po tp tl ta tv tm tg) z := by
  refine cs_i_of (by decide) (Nat.le_of_ble_eq_true rfl) ?_
  intro p e s m below meth c A ls X hr hlk hK hP hD hS hA hZ hl
  have hx := X.1
  have hb := X.2.1
  have hl : lv_has ls 1 [(0, .ref aT)] := hl
  unfold tc_T_left at hf
  refine lv_aload_n hx hb d_T_left_0 rfl (lv_at hl 0 rfl) ?_
  refine ct_g_T_timer_T X hK hP d_T_left_1 ?_
  refine ct_g_I_left_T X hK hP d_T_left_4 ?_
  have hq := Option.some.inj hf
  subst hq
  exact rt_i (r := tl) X hr hlk hK rfl hP hD hS d_T_left_7
end CLS

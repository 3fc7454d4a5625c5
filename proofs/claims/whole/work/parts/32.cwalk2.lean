theorem d_K_takeNext_0 : decode mb_K_takeNext 0 = .ok (.aload_n 0, 1) := by decide +kernel
theorem d_K_takeNext_1 : decode mb_K_takeNext 1 = .ok (.getfield 41, 3) := by decide +kernel
theorem d_K_takeNext_4 : decode mb_K_takeNext 4 = .ok (.ifnonnull 20, 3) := by decide +kernel
theorem d_K_takeNext_7 : decode mb_K_takeNext 7 = .ok (.aload_n 0, 1) := by decide +kernel
theorem d_K_takeNext_8 : decode mb_K_takeNext 8 = .ok (.getfield 16, 3) := by decide +kernel
theorem d_K_takeNext_11 : decode mb_K_takeNext 11 = .ok (.invokevirtual 98, 3) := by decide +kernel
theorem d_K_takeNext_14 : decode mb_K_takeNext 14 = .ok (.astore_n 1, 1) := by decide +kernel
theorem d_K_takeNext_15 : decode mb_K_takeNext 15 = .ok (.aload_n 1, 1) := by decide +kernel
theorem d_K_takeNext_16 : decode mb_K_takeNext 16 = .ok (.ifnull 8, 3) := by decide +kernel
theorem d_K_takeNext_19 : decode mb_K_takeNext 19 = .ok (.aload_n 0, 1) := by decide +kernel
theorem d_K_takeNext_20 : decode mb_K_takeNext 20 = .ok (.aload_n 1, 1) := by decide +kernel
theorem d_K_takeNext_21 : decode mb_K_takeNext 21 = .ok (.invokevirtual 102, 3) := by decide +kernel
theorem d_K_takeNext_24 : decode mb_K_takeNext 24 = .ok (.return_, 1) := by decide +kernel
theorem d_G_has_0 : decode mb_G_has 0 = .ok (.aload_n 0, 1) := by decide +kernel
theorem d_G_has_1 : decode mb_G_has 1 = .ok (.getfield 33, 3) := by decide +kernel
theorem d_G_has_4 : decode mb_G_has 4 = .ok (.iload_n 1, 1) := by decide +kernel
theorem d_G_has_5 : decode mb_G_has 5 = .ok (.iand, 1) := by decide +kernel
theorem d_G_has_6 : decode mb_G_has 6 = .ok (.ifCond .eq 7, 3) := by decide +kernel
theorem d_G_has_9 : decode mb_G_has 9 = .ok (.iconst 1, 1) := by decide +kernel
theorem d_G_has_10 : decode mb_G_has 10 = .ok (.goto 4, 3) := by decide +kernel
theorem d_G_has_13 : decode mb_G_has 13 = .ok (.iconst 0, 1) := by decide +kernel
theorem d_G_has_14 : decode mb_G_has 14 = .ok (.ireturn, 1) := by decide +kernel
theorem d_K_canServe_0 : decode mb_K_canServe 0 = .ok (.aload_n 0, 1) := by decide +kernel
theorem d_K_canServe_1 : decode mb_K_canServe 1 = .ok (.getfield 41, 3) := by decide +kernel
theorem d_K_canServe_4 : decode mb_K_canServe 4 = .ok (.ifnull 15, 3) := by decide +kernel
theorem d_K_canServe_7 : decode mb_K_canServe 7 = .ok (.aload_n 0, 1) := by decide +kernel
theorem d_K_canServe_8 : decode mb_K_canServe 8 = .ok (.getfield 37, 3) := by decide +kernel
theorem d_K_canServe_11 : decode mb_K_canServe 11 = .ok (.bipush 16, 2) := by decide +kernel
theorem d_K_canServe_13 : decode mb_K_canServe 13 = .ok (.invokevirtual 105, 3) := by decide +kernel
theorem d_K_canServe_16 : decode mb_K_canServe 16 = .ok (.ifCond .ne 7, 3) := by decide +kernel
theorem d_K_canServe_19 : decode mb_K_canServe 19 = .ok (.iconst 1, 1) := by decide +kernel
theorem d_K_canServe_20 : decode mb_K_canServe 20 = .ok (.goto 4, 3) := by decide +kernel
theorem d_K_canServe_23 : decode mb_K_canServe 23 = .ok (.iconst 0, 1) := by decide +kernel
theorem d_K_canServe_24 : decode mb_K_canServe 24 = .ok (.ireturn, 1) := by decide +kernel
theorem d_K_serveTick_0 : decode mb_K_serveTick 0 = .ok (.iconst 0, 1) := by decide +kernel
theorem d_K_serveTick_1 : decode mb_K_serveTick 1 = .ok (.istore_n 1, 1) := by decide +kernel
theorem d_K_serveTick_2 : decode mb_K_serveTick 2 = .ok (.iload_n 1, 1) := by decide +kernel
theorem d_K_serveTick_3 : decode mb_K_serveTick 3 = .ok (.iconst 4, 1) := by decide +kernel
theorem d_K_serveTick_4 : decode mb_K_serveTick 4 = .ok (.if_icmp .ge 46, 3) := by decide +kernel
theorem d_K_serveTick_7 : decode mb_K_serveTick 7 = .ok (.aload_n 0, 1) := by decide +kernel
theorem d_K_serveTick_8 : decode mb_K_serveTick 8 = .ok (.getfield 29, 3) := by decide +kernel
theorem d_K_serveTick_11 : decode mb_K_serveTick 11 = .ok (.iload_n 1, 1) := by decide +kernel
theorem d_K_serveTick_12 : decode mb_K_serveTick 12 = .ok (.aaload, 1) := by decide +kernel
theorem d_K_serveTick_13 : decode mb_K_serveTick 13 = .ok (.astore_n 2, 1) := by decide +kernel
theorem d_K_serveTick_14 : decode mb_K_serveTick 14 = .ok (.aload_n 2, 1) := by decide +kernel
theorem d_K_serveTick_15 : decode mb_K_serveTick 15 = .ok (.getfield 92, 3) := by decide +kernel
theorem d_K_serveTick_18 : decode mb_K_serveTick 18 = .ok (.iconst 3, 1) := by decide +kernel
theorem d_K_serveTick_19 : decode mb_K_serveTick 19 = .ok (.if_icmp .ne 25, 3) := by decide +kernel
theorem d_K_serveTick_22 : decode mb_K_serveTick 22 = .ok (.aload_n 2, 1) := by decide +kernel
theorem d_K_serveTick_23 : decode mb_K_serveTick 23 = .ok (.dup, 1) := by decide +kernel
theorem d_K_serveTick_24 : decode mb_K_serveTick 24 = .ok (.getfield 109, 3) := by decide +kernel
theorem d_K_serveTick_27 : decode mb_K_serveTick 27 = .ok (.iconst 1, 1) := by decide +kernel
theorem d_K_serveTick_28 : decode mb_K_serveTick 28 = .ok (.isub, 1) := by decide +kernel
theorem d_K_serveTick_29 : decode mb_K_serveTick 29 = .ok (.putfield 109, 3) := by decide +kernel
theorem d_K_serveTick_32 : decode mb_K_serveTick 32 = .ok (.aload_n 2, 1) := by decide +kernel
theorem d_K_serveTick_33 : decode mb_K_serveTick 33 = .ok (.getfield 109, 3) := by decide +kernel
theorem d_K_serveTick_36 : decode mb_K_serveTick 36 = .ok (.ifCond .ne 8, 3) := by decide +kernel
theorem d_K_serveTick_39 : decode mb_K_serveTick 39 = .ok (.aload_n 0, 1) := by decide +kernel
theorem d_K_serveTick_40 : decode mb_K_serveTick 40 = .ok (.aload_n 2, 1) := by decide +kernel
theorem d_K_serveTick_41 : decode mb_K_serveTick 41 = .ok (.invokevirtual 85, 3) := by decide +kernel
theorem d_K_serveTick_44 : decode mb_K_serveTick 44 = .ok (.iinc 1 1, 3) := by decide +kernel
theorem d_K_serveTick_47 : decode mb_K_serveTick 47 = .ok (.goto (-45), 3) := by decide +kernel
theorem d_K_serveTick_50 : decode mb_K_serveTick 50 = .ok (.aload_n 0, 1) := by decide +kernel
theorem d_K_serveTick_51 : decode mb_K_serveTick 51 = .ok (.getfield 41, 3) := by decide +kernel
theorem d_K_serveTick_54 : decode mb_K_serveTick 54 = .ok (.ifnull 28, 3) := by decide +kernel
theorem d_K_serveTick_57 : decode mb_K_serveTick 57 = .ok (.aload_n 0, 1) := by decide +kernel
theorem d_K_serveTick_58 : decode mb_K_serveTick 58 = .ok (.aload_n 0, 1) := by decide +kernel
theorem d_K_serveTick_59 : decode mb_K_serveTick 59 = .ok (.getfield 41, 3) := by decide +kernel
theorem d_K_serveTick_62 : decode mb_K_serveTick 62 = .ok (.aload_n 0, 1) := by decide +kernel
theorem d_K_serveTick_63 : decode mb_K_serveTick 63 = .ok (.getfield 37, 3) := by decide +kernel
theorem d_K_serveTick_66 : decode mb_K_serveTick 66 = .ok (.invokevirtual 82, 3) := by decide +kernel
theorem d_K_serveTick_69 : decode mb_K_serveTick 69 = .ok (.aload_n 0, 1) := by decide +kernel
theorem d_K_serveTick_70 : decode mb_K_serveTick 70 = .ok (.aload_n 0, 1) := by decide +kernel
theorem d_K_serveTick_71 : decode mb_K_serveTick 71 = .ok (.getfield 41, 3) := by decide +kernel
theorem d_K_serveTick_74 : decode mb_K_serveTick 74 = .ok (.invokevirtual 85, 3) := by decide +kernel
theorem d_K_serveTick_77 : decode mb_K_serveTick 77 = .ok (.aload_n 0, 1) := by decide +kernel
theorem d_K_serveTick_78 : decode mb_K_serveTick 78 = .ok (.aconst_null, 1) := by decide +kernel
theorem d_K_serveTick_79 : decode mb_K_serveTick 79 = .ok (.putfield 41, 3) := by decide +kernel
theorem d_K_serveTick_82 : decode mb_K_serveTick 82 = .ok (.aload_n 0, 1) := by decide +kernel
theorem d_K_serveTick_83 : decode mb_K_serveTick 83 = .ok (.invokevirtual 112, 3) := by decide +kernel
theorem d_K_serveTick_86 : decode mb_K_serveTick 86 = .ok (.return_, 1) := by decide +kernel
theorem d_K_leastFree_0 : decode mb_K_leastFree 0 = .ok (.iconst 0, 1) := by decide +kernel
theorem d_K_leastFree_1 : decode mb_K_leastFree 1 = .ok (.istore_n 1, 1) := by decide +kernel
theorem d_K_leastFree_2 : decode mb_K_leastFree 2 = .ok (.iload_n 1, 1) := by decide +kernel
theorem d_K_leastFree_3 : decode mb_K_leastFree 3 = .ok (.iconst 4, 1) := by decide +kernel
theorem d_K_leastFree_4 : decode mb_K_leastFree 4 = .ok (.if_icmp .ge 28, 3) := by decide +kernel
theorem d_K_leastFree_7 : decode mb_K_leastFree 7 = .ok (.aload_n 0, 1) := by decide +kernel
theorem d_K_leastFree_8 : decode mb_K_leastFree 8 = .ok (.getfield 29, 3) := by decide +kernel
theorem d_K_leastFree_11 : decode mb_K_leastFree 11 = .ok (.iload_n 1, 1) := by decide +kernel
theorem d_K_leastFree_12 : decode mb_K_leastFree 12 = .ok (.aaload, 1) := by decide +kernel
theorem d_K_leastFree_13 : decode mb_K_leastFree 13 = .ok (.getfield 92, 3) := by decide +kernel
theorem d_K_leastFree_16 : decode mb_K_leastFree 16 = .ok (.ifCond .ne 10, 3) := by decide +kernel
theorem d_K_leastFree_19 : decode mb_K_leastFree 19 = .ok (.aload_n 0, 1) := by decide +kernel
theorem d_K_leastFree_20 : decode mb_K_leastFree 20 = .ok (.getfield 29, 3) := by decide +kernel
theorem d_K_leastFree_23 : decode mb_K_leastFree 23 = .ok (.iload_n 1, 1) := by decide +kernel
theorem d_K_leastFree_24 : decode mb_K_leastFree 24 = .ok (.aaload, 1) := by decide +kernel
theorem d_K_leastFree_25 : decode mb_K_leastFree 25 = .ok (.areturn, 1) := by decide +kernel
theorem d_K_leastFree_26 : decode mb_K_leastFree 26 = .ok (.iinc 1 1, 3) := by decide +kernel
theorem d_K_leastFree_29 : decode mb_K_leastFree 29 = .ok (.goto (-27), 3) := by decide +kernel
theorem d_K_leastFree_32 : decode mb_K_leastFree 32 = .ok (.aconst_null, 1) := by decide +kernel
theorem d_K_leastFree_33 : decode mb_K_leastFree 33 = .ok (.areturn, 1) := by decide +kernel
theorem d_K_fail_0 : decode mb_K_fail 0 = .ok (.aload_n 0, 1) := by decide +kernel
theorem d_K_fail_1 : decode mb_K_fail 1 = .ok (.getfield 33, 3) := by decide +kernel
theorem d_K_fail_4 : decode mb_K_fail 4 = .ok (.aload_n 1, 1) := by decide +kernel
theorem d_K_fail_5 : decode mb_K_fail 5 = .ok (.getfield 147, 3) := by decide +kernel
theorem d_K_fail_8 : decode mb_K_fail 8 = .ok (.iconst 2, 1) := by decide +kernel
theorem d_K_fail_9 : decode mb_K_fail 9 = .ok (.iadd, 1) := by decide +kernel
theorem d_K_fail_10 : decode mb_K_fail 10 = .ok (.iload_n 2, 1) := by decide +kernel
theorem d_K_fail_11 : decode mb_K_fail 11 = .ok (.iconst 1, 1) := by decide +kernel
theorem d_K_fail_12 : decode mb_K_fail 12 = .ok (.invokevirtual 148, 3) := by decide +kernel
theorem d_K_fail_15 : decode mb_K_fail 15 = .ok (.aload_n 0, 1) := by decide +kernel
theorem d_K_fail_16 : decode mb_K_fail 16 = .ok (.getfield 33, 3) := by decide +kernel
theorem d_K_fail_19 : decode mb_K_fail 19 = .ok (.aload_n 1, 1) := by decide +kernel
theorem d_K_fail_20 : decode mb_K_fail 20 = .ok (.getfield 147, 3) := by decide +kernel
theorem d_K_fail_23 : decode mb_K_fail 23 = .ok (.aload_n 0, 1) := by decide +kernel
theorem d_K_fail_24 : decode mb_K_fail 24 = .ok (.getfield 33, 3) := by decide +kernel
theorem d_K_fail_27 : decode mb_K_fail 27 = .ok (.aload_n 1, 1) := by decide +kernel
theorem d_K_fail_28 : decode mb_K_fail 28 = .ok (.getfield 147, 3) := by decide +kernel
theorem d_K_fail_31 : decode mb_K_fail 31 = .ok (.iconst 1, 1) := by decide +kernel
theorem d_K_fail_32 : decode mb_K_fail 32 = .ok (.invokevirtual 152, 3) := by decide +kernel
theorem d_K_fail_35 : decode mb_K_fail 35 = .ok (.iconst 1, 1) := by decide +kernel
theorem d_K_fail_36 : decode mb_K_fail 36 = .ok (.ior, 1) := by decide +kernel
theorem d_K_fail_37 : decode mb_K_fail 37 = .ok (.iconst 1, 1) := by decide +kernel
theorem d_K_fail_38 : decode mb_K_fail 38 = .ok (.invokevirtual 148, 3) := by decide +kernel
theorem d_K_fail_41 : decode mb_K_fail 41 = .ok (.return_, 1) := by decide +kernel
theorem d_Y_copyBlock_0 : decode mb_Y_copyBlock 0 = .ok (.iconst 0, 1) := by decide +kernel
theorem d_Y_copyBlock_1 : decode mb_Y_copyBlock 1 = .ok (.istore_n 3, 1) := by decide +kernel
theorem d_Y_copyBlock_2 : decode mb_Y_copyBlock 2 = .ok (.iload_n 3, 1) := by decide +kernel
theorem d_Y_copyBlock_3 : decode mb_Y_copyBlock 3 = .ok (.sipush 128, 3) := by decide +kernel
theorem d_Y_copyBlock_6 : decode mb_Y_copyBlock 6 = .ok (.if_icmp .ge 33, 3) := by decide +kernel
theorem d_Y_copyBlock_9 : decode mb_Y_copyBlock 9 = .ok (.aload_n 0, 1) := by decide +kernel
theorem d_Y_copyBlock_10 : decode mb_Y_copyBlock 10 = .ok (.sipush 128, 3) := by decide +kernel
theorem d_Y_copyBlock_13 : decode mb_Y_copyBlock 13 = .ok (.iload_n 2, 1) := by decide +kernel
theorem d_Y_copyBlock_14 : decode mb_Y_copyBlock 14 = .ok (.imul, 1) := by decide +kernel
theorem d_Y_copyBlock_15 : decode mb_Y_copyBlock 15 = .ok (.iload_n 3, 1) := by decide +kernel
theorem d_Y_copyBlock_16 : decode mb_Y_copyBlock 16 = .ok (.iadd, 1) := by decide +kernel
theorem d_Y_copyBlock_17 : decode mb_Y_copyBlock 17 = .ok (.aload_n 0, 1) := by decide +kernel
theorem d_Y_copyBlock_18 : decode mb_Y_copyBlock 18 = .ok (.sipush 128, 3) := by decide +kernel
theorem d_Y_copyBlock_21 : decode mb_Y_copyBlock 21 = .ok (.iload_n 1, 1) := by decide +kernel
theorem d_Y_copyBlock_22 : decode mb_Y_copyBlock 22 = .ok (.imul, 1) := by decide +kernel
theorem d_Y_copyBlock_23 : decode mb_Y_copyBlock 23 = .ok (.iload_n 3, 1) := by decide +kernel
theorem d_Y_copyBlock_24 : decode mb_Y_copyBlock 24 = .ok (.iadd, 1) := by decide +kernel
theorem d_Y_copyBlock_25 : decode mb_Y_copyBlock 25 = .ok (.iconst 1, 1) := by decide +kernel
theorem d_Y_copyBlock_26 : decode mb_Y_copyBlock 26 = .ok (.invokevirtual 16, 3) := by decide +kernel
theorem d_Y_copyBlock_29 : decode mb_Y_copyBlock 29 = .ok (.iconst 1, 1) := by decide +kernel
theorem d_Y_copyBlock_30 : decode mb_Y_copyBlock 30 = .ok (.invokevirtual 20, 3) := by decide +kernel
theorem d_Y_copyBlock_33 : decode mb_Y_copyBlock 33 = .ok (.iinc 3 1, 3) := by decide +kernel
theorem d_Y_copyBlock_36 : decode mb_Y_copyBlock 36 = .ok (.goto (-34), 3) := by decide +kernel
theorem d_Y_copyBlock_39 : decode mb_Y_copyBlock 39 = .ok (.return_, 1) := by decide +kernel
theorem d_K_succeed_0 : decode mb_K_succeed 0 = .ok (.aload_n 0, 1) := by decide +kernel
theorem d_K_succeed_1 : decode mb_K_succeed 1 = .ok (.getfield 33, 3) := by decide +kernel
theorem d_K_succeed_4 : decode mb_K_succeed 4 = .ok (.aload_n 1, 1) := by decide +kernel
theorem d_K_succeed_5 : decode mb_K_succeed 5 = .ok (.getfield 147, 3) := by decide +kernel
theorem d_K_succeed_8 : decode mb_K_succeed 8 = .ok (.iconst 1, 1) := by decide +kernel
theorem d_K_succeed_9 : decode mb_K_succeed 9 = .ok (.iadd, 1) := by decide +kernel
theorem d_K_succeed_10 : decode mb_K_succeed 10 = .ok (.iload_n 2, 1) := by decide +kernel
theorem d_K_succeed_11 : decode mb_K_succeed 11 = .ok (.iconst 1, 1) := by decide +kernel
theorem d_K_succeed_12 : decode mb_K_succeed 12 = .ok (.invokevirtual 148, 3) := by decide +kernel
theorem d_K_succeed_15 : decode mb_K_succeed 15 = .ok (.aload_n 0, 1) := by decide +kernel
theorem d_K_succeed_16 : decode mb_K_succeed 16 = .ok (.getfield 33, 3) := by decide +kernel
theorem d_K_succeed_19 : decode mb_K_succeed 19 = .ok (.aload_n 1, 1) := by decide +kernel
theorem d_K_succeed_20 : decode mb_K_succeed 20 = .ok (.getfield 147, 3) := by decide +kernel
theorem d_K_succeed_23 : decode mb_K_succeed 23 = .ok (.aload_n 0, 1) := by decide +kernel
theorem d_K_succeed_24 : decode mb_K_succeed 24 = .ok (.getfield 33, 3) := by decide +kernel
theorem d_K_succeed_27 : decode mb_K_succeed 27 = .ok (.aload_n 1, 1) := by decide +kernel
theorem d_K_succeed_28 : decode mb_K_succeed 28 = .ok (.getfield 147, 3) := by decide +kernel
theorem d_K_succeed_31 : decode mb_K_succeed 31 = .ok (.iconst 1, 1) := by decide +kernel
theorem d_K_succeed_32 : decode mb_K_succeed 32 = .ok (.invokevirtual 152, 3) := by decide +kernel
theorem d_K_succeed_35 : decode mb_K_succeed 35 = .ok (.bipush (-2), 2) := by decide +kernel
theorem d_K_succeed_37 : decode mb_K_succeed 37 = .ok (.iand, 1) := by decide +kernel
theorem d_K_succeed_38 : decode mb_K_succeed 38 = .ok (.iconst 1, 1) := by decide +kernel
theorem d_K_succeed_39 : decode mb_K_succeed 39 = .ok (.invokevirtual 148, 3) := by decide +kernel
theorem d_K_succeed_42 : decode mb_K_succeed 42 = .ok (.return_, 1) := by decide +kernel
theorem d_K_fork_0 : decode mb_K_fork 0 = .ok (.aload_n 0, 1) := by decide +kernel
theorem d_K_fork_1 : decode mb_K_fork 1 = .ok (.invokevirtual 137, 3) := by decide +kernel
theorem d_K_fork_4 : decode mb_K_fork 4 = .ok (.astore 4, 2) := by decide +kernel
theorem d_K_fork_6 : decode mb_K_fork 6 = .ok (.aload 4, 2) := by decide +kernel
theorem d_K_fork_8 : decode mb_K_fork 8 = .ok (.ifnull 10, 3) := by decide +kernel
theorem d_K_fork_11 : decode mb_K_fork 11 = .ok (.iload_n 2, 1) := by decide +kernel
theorem d_K_fork_12 : decode mb_K_fork 12 = .ok (.sipush 128, 3) := by decide +kernel
theorem d_K_fork_15 : decode mb_K_fork 15 = .ok (.if_icmp .lt 10, 3) := by decide +kernel
theorem d_K_fork_18 : decode mb_K_fork 18 = .ok (.aload_n 0, 1) := by decide +kernel
theorem d_K_fork_19 : decode mb_K_fork 19 = .ok (.aload_n 1, 1) := by decide +kernel
theorem d_K_fork_20 : decode mb_K_fork 20 = .ok (.iconst 1, 1) := by decide +kernel
theorem d_K_fork_21 : decode mb_K_fork 21 = .ok (.invokevirtual 134, 3) := by decide +kernel
theorem d_K_fork_24 : decode mb_K_fork 24 = .ok (.return_, 1) := by decide +kernel
theorem d_K_fork_25 : decode mb_K_fork 25 = .ok (.aload_n 0, 1) := by decide +kernel
theorem d_K_fork_26 : decode mb_K_fork 26 = .ok (.getfield 33, 3) := by decide +kernel
theorem d_K_fork_29 : decode mb_K_fork 29 = .ok (.aload_n 1, 1) := by decide +kernel
theorem d_K_fork_30 : decode mb_K_fork 30 = .ok (.getfield 73, 3) := by decide +kernel
theorem d_K_fork_33 : decode mb_K_fork 33 = .ok (.aload 4, 2) := by decide +kernel
theorem d_K_fork_35 : decode mb_K_fork 35 = .ok (.getfield 73, 3) := by decide +kernel
theorem d_K_fork_38 : decode mb_K_fork 38 = .ok (.invokevirtual 140, 3) := by decide +kernel
theorem d_K_fork_41 : decode mb_K_fork 41 = .ok (.aload_n 0, 1) := by decide +kernel
theorem d_K_fork_42 : decode mb_K_fork 42 = .ok (.aload 4, 2) := by decide +kernel
theorem d_K_fork_44 : decode mb_K_fork 44 = .ok (.sipush 128, 3) := by decide +kernel
theorem d_K_fork_47 : decode mb_K_fork 47 = .ok (.aload 4, 2) := by decide +kernel
theorem d_K_fork_49 : decode mb_K_fork 49 = .ok (.getfield 73, 3) := by decide +kernel
theorem d_K_fork_52 : decode mb_K_fork 52 = .ok (.imul, 1) := by decide +kernel
theorem d_K_fork_53 : decode mb_K_fork 53 = .ok (.iload_n 2, 1) := by decide +kernel
theorem d_K_fork_54 : decode mb_K_fork 54 = .ok (.iadd, 1) := by decide +kernel
theorem d_K_fork_55 : decode mb_K_fork 55 = .ok (.iload_n 3, 1) := by decide +kernel
theorem d_K_fork_56 : decode mb_K_fork 56 = .ok (.invokevirtual 144, 3) := by decide +kernel
theorem d_K_fork_59 : decode mb_K_fork 59 = .ok (.aload_n 0, 1) := by decide +kernel
theorem d_K_fork_60 : decode mb_K_fork 60 = .ok (.aload_n 1, 1) := by decide +kernel
theorem d_K_fork_61 : decode mb_K_fork 61 = .ok (.aload 4, 2) := by decide +kernel
theorem d_K_fork_63 : decode mb_K_fork 63 = .ok (.getfield 73, 3) := by decide +kernel
theorem d_K_fork_66 : decode mb_K_fork 66 = .ok (.invokevirtual 131, 3) := by decide +kernel
theorem d_K_fork_69 : decode mb_K_fork 69 = .ok (.return_, 1) := by decide +kernel
theorem d_K_putToSleep_0 : decode mb_K_putToSleep 0 = .ok (.iload_n 2, 1) := by decide +kernel
theorem d_K_putToSleep_1 : decode mb_K_putToSleep 1 = .ok (.ifCond .ne 11, 3) := by decide +kernel
theorem d_K_putToSleep_4 : decode mb_K_putToSleep 4 = .ok (.aload_n 0, 1) := by decide +kernel
theorem d_K_putToSleep_5 : decode mb_K_putToSleep 5 = .ok (.aload_n 1, 1) := by decide +kernel
theorem d_K_putToSleep_6 : decode mb_K_putToSleep 6 = .ok (.invokevirtual 85, 3) := by decide +kernel
theorem d_K_putToSleep_9 : decode mb_K_putToSleep 9 = .ok (.goto 13, 3) := by decide +kernel
theorem d_K_putToSleep_12 : decode mb_K_putToSleep 12 = .ok (.aload_n 1, 1) := by decide +kernel
theorem d_K_putToSleep_13 : decode mb_K_putToSleep 13 = .ok (.iconst 3, 1) := by decide +kernel
theorem d_K_putToSleep_14 : decode mb_K_putToSleep 14 = .ok (.putfield 92, 3) := by decide +kernel
theorem d_K_putToSleep_17 : decode mb_K_putToSleep 17 = .ok (.aload_n 1, 1) := by decide +kernel
theorem d_K_putToSleep_18 : decode mb_K_putToSleep 18 = .ok (.iload_n 2, 1) := by decide +kernel
theorem d_K_putToSleep_19 : decode mb_K_putToSleep 19 = .ok (.putfield 109, 3) := by decide +kernel
theorem d_K_putToSleep_22 : decode mb_K_putToSleep 22 = .ok (.return_, 1) := by decide +kernel
theorem d_K_answer_0 : decode mb_K_answer 0 = .ok (.aload_n 0, 1) := by decide +kernel
theorem d_K_answer_1 : decode mb_K_answer 1 = .ok (.getfield 37, 3) := by decide +kernel
theorem d_K_answer_4 : decode mb_K_answer 4 = .ok (.getfield 62, 3) := by decide +kernel
theorem d_K_answer_7 : decode mb_K_answer 7 = .ok (.istore_n 3, 1) := by decide +kernel
theorem d_K_answer_8 : decode mb_K_answer 8 = .ok (.aload_n 0, 1) := by decide +kernel
theorem d_K_answer_9 : decode mb_K_answer 9 = .ok (.getfield 37, 3) := by decide +kernel
theorem d_K_answer_12 : decode mb_K_answer 12 = .ok (.getfield 49, 3) := by decide +kernel
theorem d_K_answer_15 : decode mb_K_answer 15 = .ok (.istore 4, 2) := by decide +kernel
theorem d_K_answer_17 : decode mb_K_answer 17 = .ok (.aload_n 0, 1) := by decide +kernel
theorem d_K_answer_18 : decode mb_K_answer 18 = .ok (.aload_n 1, 1) := by decide +kernel
theorem d_K_answer_19 : decode mb_K_answer 19 = .ok (.aload_n 0, 1) := by decide +kernel
theorem d_K_answer_20 : decode mb_K_answer 20 = .ok (.getfield 37, 3) := by decide +kernel
theorem d_K_answer_23 : decode mb_K_answer 23 = .ok (.invokevirtual 82, 3) := by decide +kernel
theorem d_K_answer_26 : decode mb_K_answer 26 = .ok (.aload_n 0, 1) := by decide +kernel
theorem d_K_answer_27 : decode mb_K_answer 27 = .ok (.aconst_null, 1) := by decide +kernel
theorem d_K_answer_28 : decode mb_K_answer 28 = .ok (.putfield 41, 3) := by decide +kernel
theorem d_K_answer_31 : decode mb_K_answer 31 = .ok (.iload_n 2, 1) := by decide +kernel
theorem d_K_answer_32 : decode mb_K_answer 32 = .ok (.tableswitch 84 1 4 #[32, 48, 57, 67], 32) := by decide +kernel
theorem d_K_answer_64 : decode mb_K_answer 64 = .ok (.aload_n 0, 1) := by decide +kernel
theorem d_K_answer_65 : decode mb_K_answer 65 = .ok (.aload_n 1, 1) := by decide +kernel
theorem d_K_answer_66 : decode mb_K_answer 66 = .ok (.iload_n 3, 1) := by decide +kernel
theorem d_K_answer_67 : decode mb_K_answer 67 = .ok (.iload 4, 2) := by decide +kernel
theorem d_K_answer_69 : decode mb_K_answer 69 = .ok (.invokevirtual 124, 3) := by decide +kernel
theorem d_K_answer_72 : decode mb_K_answer 72 = .ok (.aload_n 0, 1) := by decide +kernel
theorem d_K_answer_73 : decode mb_K_answer 73 = .ok (.aload_n 1, 1) := by decide +kernel
theorem d_K_answer_74 : decode mb_K_answer 74 = .ok (.invokevirtual 102, 3) := by decide +kernel
theorem d_K_answer_77 : decode mb_K_answer 77 = .ok (.goto 50, 3) := by decide +kernel
theorem d_K_answer_80 : decode mb_K_answer 80 = .ok (.aload_n 0, 1) := by decide +kernel
theorem d_K_answer_81 : decode mb_K_answer 81 = .ok (.aload_n 1, 1) := by decide +kernel
theorem d_K_answer_82 : decode mb_K_answer 82 = .ok (.iload_n 3, 1) := by decide +kernel
theorem d_K_answer_83 : decode mb_K_answer 83 = .ok (.invokevirtual 128, 3) := by decide +kernel
theorem d_K_answer_86 : decode mb_K_answer 86 = .ok (.goto 41, 3) := by decide +kernel
theorem d_K_answer_89 : decode mb_K_answer 89 = .ok (.aload_n 0, 1) := by decide +kernel
theorem d_K_answer_90 : decode mb_K_answer 90 = .ok (.aload_n 1, 1) := by decide +kernel
theorem d_K_answer_91 : decode mb_K_answer 91 = .ok (.iload 4, 2) := by decide +kernel
theorem d_K_answer_93 : decode mb_K_answer 93 = .ok (.invokevirtual 117, 3) := by decide +kernel
theorem d_K_answer_96 : decode mb_K_answer 96 = .ok (.goto 31, 3) := by decide +kernel
theorem d_K_answer_99 : decode mb_K_answer 99 = .ok (.aload_n 0, 1) := by decide +kernel
theorem d_K_answer_100 : decode mb_K_answer 100 = .ok (.aload_n 1, 1) := by decide +kernel
theorem d_K_answer_101 : decode mb_K_answer 101 = .ok (.aload_n 1, 1) := by decide +kernel
theorem d_K_answer_102 : decode mb_K_answer 102 = .ok (.getfield 73, 3) := by decide +kernel
theorem d_K_answer_105 : decode mb_K_answer 105 = .ok (.invokevirtual 131, 3) := by decide +kernel
theorem d_K_answer_108 : decode mb_K_answer 108 = .ok (.aload_n 0, 1) := by decide +kernel
theorem d_K_answer_109 : decode mb_K_answer 109 = .ok (.aload_n 1, 1) := by decide +kernel
theorem d_K_answer_110 : decode mb_K_answer 110 = .ok (.invokevirtual 102, 3) := by decide +kernel
theorem d_K_answer_113 : decode mb_K_answer 113 = .ok (.goto 14, 3) := by decide +kernel
theorem d_K_answer_116 : decode mb_K_answer 116 = .ok (.aload_n 0, 1) := by decide +kernel
theorem d_K_answer_117 : decode mb_K_answer 117 = .ok (.aload_n 1, 1) := by decide +kernel
theorem d_K_answer_118 : decode mb_K_answer 118 = .ok (.iconst 2, 1) := by decide +kernel
theorem d_K_answer_119 : decode mb_K_answer 119 = .ok (.invokevirtual 134, 3) := by decide +kernel
theorem d_K_answer_122 : decode mb_K_answer 122 = .ok (.aload_n 0, 1) := by decide +kernel
theorem d_K_answer_123 : decode mb_K_answer 123 = .ok (.aload_n 1, 1) := by decide +kernel
theorem d_K_answer_124 : decode mb_K_answer 124 = .ok (.invokevirtual 102, 3) := by decide +kernel
theorem d_K_answer_127 : decode mb_K_answer 127 = .ok (.return_, 1) := by decide +kernel
theorem d_K_settle_0 : decode mb_K_settle 0 = .ok (.aload_n 0, 1) := by decide +kernel
theorem d_K_settle_1 : decode mb_K_settle 1 = .ok (.getfield 41, 3) := by decide +kernel
theorem d_K_settle_4 : decode mb_K_settle 4 = .ok (.ifnull 8, 3) := by decide +kernel
theorem d_K_settle_7 : decode mb_K_settle 7 = .ok (.iload_n 1, 1) := by decide +kernel
theorem d_K_settle_8 : decode mb_K_settle 8 = .ok (.iconst (-1), 1) := by decide +kernel
theorem d_K_settle_9 : decode mb_K_settle 9 = .ok (.if_icmp .ne 4, 3) := by decide +kernel
theorem d_K_settle_12 : decode mb_K_settle 12 = .ok (.return_, 1) := by decide +kernel
theorem d_K_settle_13 : decode mb_K_settle 13 = .ok (.iload_n 1, 1) := by decide +kernel
theorem d_K_settle_14 : decode mb_K_settle 14 = .ok (.bipush (-2), 2) := by decide +kernel
theorem d_K_settle_16 : decode mb_K_settle 16 = .ok (.if_icmp .ne 17, 3) := by decide +kernel
theorem d_K_settle_19 : decode mb_K_settle 19 = .ok (.aload_n 0, 1) := by decide +kernel
theorem d_K_settle_20 : decode mb_K_settle 20 = .ok (.aload_n 0, 1) := by decide +kernel
theorem d_K_settle_21 : decode mb_K_settle 21 = .ok (.getfield 41, 3) := by decide +kernel
theorem d_K_settle_24 : decode mb_K_settle 24 = .ok (.sipush 255, 3) := by decide +kernel
theorem d_K_settle_27 : decode mb_K_settle 27 = .ok (.invokevirtual 117, 3) := by decide +kernel
theorem d_K_settle_30 : decode mb_K_settle 30 = .ok (.goto 12, 3) := by decide +kernel
theorem d_K_settle_33 : decode mb_K_settle 33 = .ok (.aload_n 0, 1) := by decide +kernel
theorem d_K_settle_34 : decode mb_K_settle 34 = .ok (.aload_n 0, 1) := by decide +kernel
theorem d_K_settle_35 : decode mb_K_settle 35 = .ok (.getfield 41, 3) := by decide +kernel
theorem d_K_settle_38 : decode mb_K_settle 38 = .ok (.iload_n 1, 1) := by decide +kernel
theorem d_K_settle_39 : decode mb_K_settle 39 = .ok (.invokevirtual 121, 3) := by decide +kernel
theorem d_K_settle_42 : decode mb_K_settle 42 = .ok (.aload_n 0, 1) := by decide +kernel
theorem d_K_settle_43 : decode mb_K_settle 43 = .ok (.invokevirtual 112, 3) := by decide +kernel
theorem d_K_settle_46 : decode mb_K_settle 46 = .ok (.return_, 1) := by decide +kernel
theorem d_Y_holds_0 : decode mb_Y_holds 0 = .ok (.iload_n 0, 1) := by decide +kernel
theorem d_Y_holds_1 : decode mb_Y_holds 1 = .ok (.ifCond .lt 14, 3) := by decide +kernel
theorem d_Y_holds_4 : decode mb_Y_holds 4 = .ok (.iload_n 0, 1) := by decide +kernel
theorem d_Y_holds_5 : decode mb_Y_holds 5 = .ok (.sipush 512, 3) := by decide +kernel
theorem d_Y_holds_8 : decode mb_Y_holds 8 = .ok (.if_icmp .ge 7, 3) := by decide +kernel
theorem d_Y_holds_11 : decode mb_Y_holds 11 = .ok (.iconst 1, 1) := by decide +kernel
theorem d_Y_holds_12 : decode mb_Y_holds 12 = .ok (.goto 4, 3) := by decide +kernel
theorem d_Y_holds_15 : decode mb_Y_holds 15 = .ok (.iconst 0, 1) := by decide +kernel
theorem d_Y_holds_16 : decode mb_Y_holds 16 = .ok (.ireturn, 1) := by decide +kernel
theorem d_P_skip_0 : decode mb_P_skip 0 = .ok (.aload_n 0, 1) := by decide +kernel
theorem d_P_skip_1 : decode mb_P_skip 1 = .ok (.getfield 15, 3) := by decide +kernel
theorem d_P_skip_4 : decode mb_P_skip 4 = .ok (.aload_n 0, 1) := by decide +kernel
theorem d_P_skip_5 : decode mb_P_skip 5 = .ok (.getfield 15, 3) := by decide +kernel
theorem d_P_skip_8 : decode mb_P_skip 8 = .ok (.getfield 64, 3) := by decide +kernel
theorem d_P_skip_11 : decode mb_P_skip 11 = .ok (.iload_n 1, 1) := by decide +kernel
theorem d_P_skip_12 : decode mb_P_skip 12 = .ok (.iadd, 1) := by decide +kernel
theorem d_P_skip_13 : decode mb_P_skip 13 = .ok (.ldc 76, 2) := by decide +kernel
theorem d_P_skip_15 : decode mb_P_skip 15 = .ok (.iand, 1) := by decide +kernel
theorem d_P_skip_16 : decode mb_P_skip 16 = .ok (.putfield 64, 3) := by decide +kernel
theorem d_P_skip_19 : decode mb_P_skip 19 = .ok (.return_, 1) := by decide +kernel
theorem d_P_fetch_0 : decode mb_P_fetch 0 = .ok (.aload_n 0, 1) := by decide +kernel
theorem d_P_fetch_1 : decode mb_P_fetch 1 = .ok (.getfield 9, 3) := by decide +kernel
theorem d_P_fetch_4 : decode mb_P_fetch 4 = .ok (.aload_n 0, 1) := by decide +kernel
theorem d_P_fetch_5 : decode mb_P_fetch 5 = .ok (.getfield 15, 3) := by decide +kernel
theorem d_P_fetch_8 : decode mb_P_fetch 8 = .ok (.getfield 64, 3) := by decide +kernel
theorem d_P_fetch_11 : decode mb_P_fetch 11 = .ok (.iload_n 1, 1) := by decide +kernel
theorem d_P_fetch_12 : decode mb_P_fetch 12 = .ok (.invokevirtual 67, 3) := by decide +kernel
theorem d_P_fetch_15 : decode mb_P_fetch 15 = .ok (.istore_n 2, 1) := by decide +kernel
theorem d_P_fetch_16 : decode mb_P_fetch 16 = .ok (.aload_n 0, 1) := by decide +kernel
theorem d_P_fetch_17 : decode mb_P_fetch 17 = .ok (.iload_n 1, 1) := by decide +kernel
theorem d_P_fetch_18 : decode mb_P_fetch 18 = .ok (.invokevirtual 73, 3) := by decide +kernel
theorem d_P_fetch_21 : decode mb_P_fetch 21 = .ok (.aload_n 0, 1) := by decide +kernel
theorem d_P_fetch_22 : decode mb_P_fetch 22 = .ok (.dup, 1) := by decide +kernel
theorem d_P_fetch_23 : decode mb_P_fetch 23 = .ok (.getfield 28, 3) := by decide +kernel
theorem d_P_fetch_26 : decode mb_P_fetch 26 = .ok (.iload_n 1, 1) := by decide +kernel
theorem d_P_fetch_27 : decode mb_P_fetch 27 = .ok (.iadd, 1) := by decide +kernel
theorem d_P_fetch_28 : decode mb_P_fetch 28 = .ok (.putfield 28, 3) := by decide +kernel
theorem d_P_fetch_31 : decode mb_P_fetch 31 = .ok (.iload_n 2, 1) := by decide +kernel
theorem d_P_fetch_32 : decode mb_P_fetch 32 = .ok (.ireturn, 1) := by decide +kernel
theorem d_P_isIndexedForm_0 : decode mb_P_isIndexedForm 0 = .ok (.iload_n 0, 1) := by decide +kernel
theorem d_P_isIndexedForm_1 : decode mb_P_isIndexedForm 1 = .ok (.tableswitch 93 0 15 #[79, 93, 79, 93, 93, 93, 93, 89, 93, 93, 89, 93, 93, 93, 89, 91], 79) := by decide +kernel
theorem d_P_isIndexedForm_80 : decode mb_P_isIndexedForm 80 = .ok (.iload_n 1, 1) := by decide +kernel
theorem d_P_isIndexedForm_81 : decode mb_P_isIndexedForm 81 = .ok (.ifCond .ne 7, 3) := by decide +kernel
theorem d_P_isIndexedForm_84 : decode mb_P_isIndexedForm 84 = .ok (.iconst 1, 1) := by decide +kernel
theorem d_P_isIndexedForm_85 : decode mb_P_isIndexedForm 85 = .ok (.goto 4, 3) := by decide +kernel
theorem d_P_isIndexedForm_88 : decode mb_P_isIndexedForm 88 = .ok (.iconst 0, 1) := by decide +kernel
theorem d_P_isIndexedForm_89 : decode mb_P_isIndexedForm 89 = .ok (.ireturn, 1) := by decide +kernel
theorem d_P_isIndexedForm_90 : decode mb_P_isIndexedForm 90 = .ok (.iconst 0, 1) := by decide +kernel
theorem d_P_isIndexedForm_91 : decode mb_P_isIndexedForm 91 = .ok (.ireturn, 1) := by decide +kernel
theorem d_P_isIndexedForm_92 : decode mb_P_isIndexedForm 92 = .ok (.iload_n 1, 1) := by decide +kernel
theorem d_P_isIndexedForm_93 : decode mb_P_isIndexedForm 93 = .ok (.ireturn, 1) := by decide +kernel
theorem d_P_isIndexedForm_94 : decode mb_P_isIndexedForm 94 = .ok (.iconst 1, 1) := by decide +kernel
theorem d_P_isIndexedForm_95 : decode mb_P_isIndexedForm 95 = .ok (.ireturn, 1) := by decide +kernel
theorem d_P_load_0 : decode mb_P_load 0 = .ok (.aload_n 0, 1) := by decide +kernel
theorem d_P_load_1 : decode mb_P_load 1 = .ok (.dup, 1) := by decide +kernel
theorem d_P_load_2 : decode mb_P_load 2 = .ok (.getfield 28, 3) := by decide +kernel
theorem d_P_load_5 : decode mb_P_load 5 = .ok (.iload_n 2, 1) := by decide +kernel
theorem d_P_load_6 : decode mb_P_load 6 = .ok (.iadd, 1) := by decide +kernel
theorem d_P_load_7 : decode mb_P_load 7 = .ok (.putfield 28, 3) := by decide +kernel
theorem d_P_load_10 : decode mb_P_load 10 = .ok (.aload_n 0, 1) := by decide +kernel
theorem d_P_load_11 : decode mb_P_load 11 = .ok (.getfield 9, 3) := by decide +kernel
theorem d_P_load_14 : decode mb_P_load 14 = .ok (.iload_n 1, 1) := by decide +kernel
theorem d_P_load_15 : decode mb_P_load 15 = .ok (.iload_n 2, 1) := by decide +kernel
theorem d_P_load_16 : decode mb_P_load 16 = .ok (.invokevirtual 67, 3) := by decide +kernel
theorem d_P_load_19 : decode mb_P_load 19 = .ok (.ireturn, 1) := by decide +kernel
section CLS
variable {l : Launch} {D : va_G} {w : va_W}
variable {aT aK aQ aL aA aY aB aG aS aP aC aI : Nat} {tk : Nat → Nat} {cI cT : ClassId} {kr : Option Nat} {uz : Int32} {ul : Nat → Option Nat} {ks : Nat → Int32} {kv : Nat → Int32} {kz : Nat → Int32} {ku : Nat → Int32} {cb : Nat → Int32} {ga : Int32} {gb : Int32} {gd : Int32} {gc : Int32} {gx : Int32} {gy : Int32} {gu : Int32} {gs : Int32} {gp : Int32} {qa : Int32} {qb : Int32} {qd : Int32} {qc : Int32} {qx : Int32} {qy : Int32} {qu : Int32} {qs : Int32} {qp : Int32} {py : Int32} {po : Int32} {tp : Int32} {tl : Int32} {ta : Int32} {tv : Int32} {tm : Int32} {tg : Bool}
set_option maxHeartbeats 4000000 in
set_option maxRecDepth 100000 in
theorem c_tc_K_takeNext  {z : (Option Nat) × Int32 × (Nat → Option Nat) × (Nat → Int32) × Int32 × Int32 × Int32 × Int32 × Int32 × Int32 × Int32 × Int32 × Int32} (hf : tc_K_takeNext kr uz ul ks kv cb ga gb gd gc gx gy gu gs gp = some z) : cs_v l my_K_takeNext mb_K_takeNext 2 rm_c_K_takeNext D (ty_ cI cT) [.ref aK] (ck_ aK aQ aL aA tk aY aB aG aS cI cT kr uz ul ks kv kz ku cb ga gb gd gc gx gy gu gs gp qa qb qd qc qx qy qu qs qp) (ck_ aK aQ aL aA tk aY aB aG aS cI cT z.1 z.2.1 z.2.2.1 z.2.2.2.1 kv kz ku cb z.2.2.2.2.1 z.2.2.2.2.2.1 z.2.2.2.2.2.2.1 z.2.2.2.2.2.2.2.1 z.2.2.2.2.2.2.2.2.1 z.2.2.2.2.2.2.2.2.2.1 z.2.2.2.2.2.2.2.2.2.2.1 z.2.2.2.2.2.2.2.2.2.2.2.1 z.2.2.2.2.2.2.2.2.2.2.2.2 qa qb qd qc qx qy qu qs qp) := by
  refine cs_v_of (by decide) (Nat.le_of_ble_eq_true rfl) ?_
  intro p e s m below meth c A ls X hr hlk hK hP hD hS hA hZ hl
  have hx := X.1
  have hb := X.2.1
  have hl : lv_has ls 2 [(0, .ref aK)] := hl
  unfold tc_K_takeNext at hf
  refine lv_aload_n hx hb d_K_takeNext_0 rfl (lv_at hl 0 rfl) ?_
  refine ck_g_K_running_K X hK hP d_K_takeNext_1 ?_
  rcases op_n hf with ⟨ho6, hf⟩ | ⟨i5, ho6, hf⟩
  · rw [show va_rf (Option.map tk kr) = Value.null from by rw [ho6]; rfl]
    refine lv_ifnonnullN hx hb d_K_takeNext_4 ?_
    refine lv_aload_n hx hb d_K_takeNext_7 rfl (lv_at hl 0 rfl) ?_
    refine ck_g_K_queue_K X hK hP d_K_takeNext_8 ?_
    obtain ⟨z7, hz7, hf⟩ := op_b hf
    refine cf_q (ws2 := (ck_ aK aQ aL aA tk aY aB aG aS cI cT kr z7.2.1 z7.2.2 ks kv kz ku cb ga gb gd gc gx gy gu gs gp qa qb qd qc qx qy qu qs qp)) X cx_K_98 hK hP hD hS hA hZ hl (c_tc_Q_removeFirst (aQ := aQ) (aL := aL) (tk := tk) (uz := uz) (ul := ul) (ks := ks) (kv := kv) (kz := kz) (ku := ku) hz7) ⟨rfl, rfl, Nat.le_of_ble_eq_true rfl, Nat.le_of_ble_eq_true rfl⟩ [1, 2, 4, 5, 6, 7] [0, 3, 8, 9, 10, 11] [0, 6, 7, 1, 8, 9, 10, 11, 2, 3, 4, 5] rfl rfl rfl rfl (by decide) rfl rfl 0 rfl rfl rfl rfl rfl (Nat.le_of_ble_eq_true rfl) d_K_takeNext_11 (fun H locs hP hD hS => ?_)
    refine lo_astore_n (ro := Option.map tk z7.1) hx hb d_K_takeNext_14 rfl hl (by decide) rfl (fun ls hl => ?_)
    have hl : lv_has ls 2 [(1, va_rf (Option.map tk z7.1)), (0, .ref aK)] := hl
    refine lo_aload_n (ro := Option.map tk z7.1) hx hb d_K_takeNext_15 rfl (lv_at hl 0 rfl) ?_
    rcases op_n hf with ⟨ho9, hf⟩ | ⟨i8, ho9, hf⟩
    · rw [show va_rf (Option.map tk z7.1) = Value.null from by rw [ho9]; rfl]
      refine lv_ifnullN (tgt := 24) hx hb d_K_takeNext_16 (by decide) ?_
      have hq := Option.some.inj hf
      subst hq
      exact rt_v X hr hlk hK hP hD hS d_K_takeNext_24
    · rw [show va_rf (Option.map tk z7.1) = Value.ref (tk i8) from by rw [ho9]; rfl]
      refine lv_ifnull hx hb d_K_takeNext_16 ?_
      refine lv_aload_n hx hb d_K_takeNext_19 rfl (lv_at hl 1 rfl) ?_
      refine lo_aload_n (ro := Option.map tk z7.1) hx hb d_K_takeNext_20 rfl (lv_at hl 0 rfl) ?_
      rw [show va_rf (Option.map tk z7.1) = Value.ref (tk i8) from by rw [ho9]; rfl]
      obtain ⟨z10, hz10, hf⟩ := op_b hf
      refine cf_v (ws2 := (ck_ aK aQ aL aA tk aY aB aG aS cI cT z10.1 z7.2.1 z7.2.2 z10.2.1 kv kz ku cb z10.2.2.1 z10.2.2.2.1 z10.2.2.2.2.1 z10.2.2.2.2.2.1 z10.2.2.2.2.2.2.1 z10.2.2.2.2.2.2.2.1 z10.2.2.2.2.2.2.2.2.1 z10.2.2.2.2.2.2.2.2.2.1 z10.2.2.2.2.2.2.2.2.2.2 qa qb qd qc qx qy qu qs qp)) X cx_K_102 hK hP hD hS hA hZ hl (c_tc_K_resume (aK := aK) (aQ := aQ) (aL := aL) (aA := aA) (tk := tk) (aY := aY) (aB := aB) (aG := aG) (aS := aS) (kr := kr) (uz := z7.2.1) (ul := z7.2.2) (ks := ks) (kv := kv) (kz := kz) (ku := ku) (cb := cb) (ga := ga) (gb := gb) (gd := gd) (gc := gc) (gx := gx) (gy := gy) (gu := gu) (gs := gs) (gp := gp) (qa := qa) (qb := qb) (qd := qd) (qc := qc) (qx := qx) (qy := qy) (qu := qu) (qs := qs) (qp := qp) hz10) ⟨rfl, rfl, Nat.le_of_ble_eq_true rfl, Nat.le_of_ble_eq_true rfl⟩ [0, 1, 2, 3, 4, 5, 6, 7, 8, 9, 10, 11] [] [0, 1, 2, 3, 4, 5, 6, 7, 8, 9, 10, 11] rfl rfl rfl rfl (by decide) rfl rfl 0 rfl rfl rfl rfl rfl (Nat.le_of_ble_eq_true rfl) d_K_takeNext_21 (fun H locs hP hD hS => ?_)
      have hq := Option.some.inj hf
      subst hq
      exact rt_v X hr hlk hK hP hD hS d_K_takeNext_24
  · rw [show va_rf (Option.map tk kr) = Value.ref (tk i5) from by rw [ho6]; rfl]
    refine lv_ifnonnull (tgt := 24) hx hb d_K_takeNext_4 (by decide) ?_
    have hq := Option.some.inj hf
    subst hq
    exact rt_v X hr hlk hK hP hD hS d_K_takeNext_24
set_option maxHeartbeats 4000000 in
set_option maxRecDepth 100000 in
theorem c_tc_G_has {x1 : Int32} {z : Bool} (hf : tc_G_has x1 gc = some z) : cs_i l my_G_has mb_G_has 2 .boolean rm_c_G_has D (ty_ cI cT) [.ref aG, .int x1] (cg_ aG cI cT ga gb gd gc gx gy gu gs gp) (cg_ aG cI cT ga gb gd gc gx gy gu gs gp) (bz_i z) := by
  refine cs_i_of (by decide) (Nat.le_of_ble_eq_true rfl) ?_
  intro p e s m below meth c A ls X hr hlk hK hP hD hS hA hZ hl
  have hx := X.1
  have hb := X.2.1
  have hl : lv_has ls 2 [(0, .ref aG), (1, .int x1)] := hl
  unfold tc_G_has at hf
  refine lv_aload_n hx hb d_G_has_0 rfl (lv_at hl 0 rfl) ?_
  refine cg_g_G_cc_G X hK hP d_G_has_1 ?_
  refine lv_iload_n hx hb d_G_has_4 rfl (lv_at hl 1 rfl) ?_
  refine lv_iand hx hb d_G_has_5 ?_
  refine lv_if_eq (tgt := 13) hx hb d_G_has_6 (by decide) (fun hc => ?_) (fun hc => ?_)
  · replace hf := (if_pos hc).symm.trans hf
    refine lv_iconst (v := (0 : Int32)) hx hb d_G_has_13 (by decide) ?_
    have hq := Option.some.inj hf
    subst hq
    exact rt_i (r := bz_i false) X hr hlk hK (bz_n _) hP hD hS d_G_has_14
  · replace hf := (if_neg hc).symm.trans hf
    refine lv_iconst (v := (1 : Int32)) hx hb d_G_has_9 (by decide) ?_
    refine lv_goto (tgt := 14) hx hb d_G_has_10 (by decide) ?_
    have hq := Option.some.inj hf
    subst hq
    exact rt_i (r := bz_i true) X hr hlk hK (bz_n _) hP hD hS d_G_has_14
set_option maxHeartbeats 4000000 in
set_option maxRecDepth 100000 in
theorem c_tc_K_canServe  {z : Bool} (hf : tc_K_canServe kr gc = some z) : cs_i l my_K_canServe mb_K_canServe 1 .boolean rm_c_K_canServe D (ty_ cI cT) [.ref aK] (ck_ aK aQ aL aA tk aY aB aG aS cI cT kr uz ul ks kv kz ku cb ga gb gd gc gx gy gu gs gp qa qb qd qc qx qy qu qs qp) (ck_ aK aQ aL aA tk aY aB aG aS cI cT kr uz ul ks kv kz ku cb ga gb gd gc gx gy gu gs gp qa qb qd qc qx qy qu qs qp) (bz_i z) := by
  refine cs_i_of (by decide) (Nat.le_of_ble_eq_true rfl) ?_
  intro p e s m below meth c A ls X hr hlk hK hP hD hS hA hZ hl
  have hx := X.1
  have hb := X.2.1
  have hl : lv_has ls 1 [(0, .ref aK)] := hl
  have J19 : ∀ (kr : Option Nat) (gc : Int32), tc_K_canServe_j19 kr gc = some z → ∀ (H : Heap) (locs : List Loc) (ls : Array Slot), lv_has ls 1 [] → va_P D cz_all (ck_ aK aQ aL aA tk aY aB aG aS cI cT kr uz ul ks kv kz ku cb ga gb gd gc gx gy gu gs gp qa qb qd qc qx qy qu qs qp) H → va_D A (ck_ aK aQ aL aA tk aY aB aG aS cI cT kr uz ul ks kv kz ku cb ga gb gd gc gx gy gu gs gp qa qb qd qc qx qy qu qs qp) → va_S A s.heap H locs → W p l e rm_c_K_canServe s m ([.ref aK] : List Value).toArray below meth c H locs 0 0 (MQ below (qs_i D (ty_ cI cT) (ck_ aK aQ aL aA tk aY aB aG aS cI cT kr uz ul ks kv kz ku cb ga gb gd gc gx gy gu gs gp qa qb qd qc qx qy qu qs qp) (bz_i z) A) ([.ref aK] : List Value).toArray s 0 0 A) (F0 m 19 ls []) := by
    intro kr gc hf H locs ls hl hP hD hS
    unfold tc_K_canServe_j19 at hf
    refine lv_iconst (v := (1 : Int32)) hx hb d_K_canServe_19 (by decide) ?_
    refine lv_goto (tgt := 24) hx hb d_K_canServe_20 (by decide) ?_
    have hq := Option.some.inj hf
    subst hq
    exact rt_i (r := bz_i true) X hr hlk hK (bz_n _) hP hD hS d_K_canServe_24
  unfold tc_K_canServe at hf
  refine lv_aload_n hx hb d_K_canServe_0 rfl (lv_at hl 0 rfl) ?_
  refine ck_g_K_running_K X hK hP d_K_canServe_1 ?_
  rcases op_n hf with ⟨ho3, hf⟩ | ⟨i2, ho3, hf⟩
  · rw [show va_rf (Option.map tk kr) = Value.null from by rw [ho3]; rfl]
    refine lv_ifnullN (tgt := 19) hx hb d_K_canServe_4 (by decide) ?_
    exact J19 kr gc hf _ _ _ (lv_sub hl [] rfl) hP hD hS
  · rw [show va_rf (Option.map tk kr) = Value.ref (tk i2) from by rw [ho3]; rfl]
    refine lv_ifnull hx hb d_K_canServe_4 ?_
    refine lv_aload_n hx hb d_K_canServe_7 rfl (lv_at hl 0 rfl) ?_
    refine ck_g_K_registers_K X hK hP d_K_canServe_8 ?_
    refine lv_bipush (v := (16 : Int32)) hx hb d_K_canServe_11 (by decide) ?_
    obtain ⟨z4, hz4, hf⟩ := op_b hf
    refine cf_i (ws2 := (ck_ aK aQ aL aA tk aY aB aG aS cI cT kr uz ul ks kv kz ku cb ga gb gd gc gx gy gu gs gp qa qb qd qc qx qy qu qs qp)) X cx_K_105 hK hP hD hS hA hZ hl (c_tc_G_has (aG := aG) (ga := ga) (gb := gb) (gd := gd) (gc := gc) (gx := gx) (gy := gy) (gu := gu) (gs := gs) (gp := gp) hz4) ⟨rfl, rfl, Nat.le_of_ble_eq_true rfl, Nat.le_of_ble_eq_true rfl⟩ [10] [0, 1, 2, 3, 4, 5, 6, 7, 8, 9, 11] [0, 1, 2, 3, 4, 5, 6, 7, 8, 9, 11, 10] rfl rfl rfl rfl (by decide) rfl rfl 0 rfl rfl rfl rfl rfl (Nat.le_of_ble_eq_true rfl) d_K_canServe_13 (fun H locs hP hD hS => ?_)
    refine lv_if_ne (tgt := 23) hx hb d_K_canServe_16 (by decide) (fun hc => ?_) (fun hc => ?_)
    · replace hf := (if_neg hc).symm.trans hf
      refine lv_iconst (v := (0 : Int32)) hx hb d_K_canServe_23 (by decide) ?_
      have hq := Option.some.inj hf
      subst hq
      exact rt_i (r := bz_i false) X hr hlk hK (bz_n _) hP hD hS d_K_canServe_24
    · replace hf := (if_pos hc).symm.trans hf
      exact J19 kr gc hf _ _ _ (lv_sub hl [] rfl) hP hD hS
set_option maxHeartbeats 4000000 in
set_option maxRecDepth 100000 in
theorem c_tc_K_serveTick  {z : (Option Nat) × Int32 × (Nat → Option Nat) × (Nat → Int32) × (Nat → Int32) × (Nat → Int32) × (Nat → Int32) × Int32 × Int32 × Int32 × Int32 × Int32 × Int32 × Int32 × Int32 × Int32} (hf : tc_K_serveTick kr uz ul ks kv kz cb ga gb gd gc gx gy gu gs gp = some z) : cs_v l my_K_serveTick mb_K_serveTick 3 rm_c_K_serveTick D (ty_ cI cT) [.ref aK] (ck_ aK aQ aL aA tk aY aB aG aS cI cT kr uz ul ks kv kz ku cb ga gb gd gc gx gy gu gs gp qa qb qd qc qx qy qu qs qp) (ck_ aK aQ aL aA tk aY aB aG aS cI cT z.1 z.2.1 z.2.2.1 z.2.2.2.1 z.2.2.2.2.1 z.2.2.2.2.2.1 ku z.2.2.2.2.2.2.1 z.2.2.2.2.2.2.2.1 z.2.2.2.2.2.2.2.2.1 z.2.2.2.2.2.2.2.2.2.1 z.2.2.2.2.2.2.2.2.2.2.1 z.2.2.2.2.2.2.2.2.2.2.2.1 z.2.2.2.2.2.2.2.2.2.2.2.2.1 z.2.2.2.2.2.2.2.2.2.2.2.2.2.1 z.2.2.2.2.2.2.2.2.2.2.2.2.2.2.1 z.2.2.2.2.2.2.2.2.2.2.2.2.2.2.2 qa qb qd qc qx qy qu qs qp) := by
  refine cs_v_of (by decide) (Nat.le_of_ble_eq_true rfl) ?_
  intro p e s m below meth c A ls X hr hlk hK hP hD hS hA hZ hl
  have hx := X.1
  have hb := X.2.1
  have hl : lv_has ls 3 [(0, .ref aK)] := hl
  have J82 : ∀ (kr : Option Nat) (uz : Int32) (ul : Nat → Option Nat) (ks : Nat → Int32) (kv : Nat → Int32) (kz : Nat → Int32) (cb : Nat → Int32) (ga : Int32) (gb : Int32) (gd : Int32) (gc : Int32) (gx : Int32) (gy : Int32) (gu : Int32) (gs : Int32) (gp : Int32), tc_K_serveTick_j82 kr uz ul ks kv kz cb ga gb gd gc gx gy gu gs gp = some z → ∀ (H : Heap) (locs : List Loc) (ls : Array Slot), lv_has ls 3 [(0, .ref aK)] → va_P D cz_all (ck_ aK aQ aL aA tk aY aB aG aS cI cT kr uz ul ks kv kz ku cb ga gb gd gc gx gy gu gs gp qa qb qd qc qx qy qu qs qp) H → va_D A (ck_ aK aQ aL aA tk aY aB aG aS cI cT kr uz ul ks kv kz ku cb ga gb gd gc gx gy gu gs gp qa qb qd qc qx qy qu qs qp) → va_S A s.heap H locs → W p l e rm_c_K_serveTick s m ([.ref aK] : List Value).toArray below meth c H locs 0 0 (MQ below (qs_v D (ty_ cI cT) (ck_ aK aQ aL aA tk aY aB aG aS cI cT z.1 z.2.1 z.2.2.1 z.2.2.2.1 z.2.2.2.2.1 z.2.2.2.2.2.1 ku z.2.2.2.2.2.2.1 z.2.2.2.2.2.2.2.1 z.2.2.2.2.2.2.2.2.1 z.2.2.2.2.2.2.2.2.2.1 z.2.2.2.2.2.2.2.2.2.2.1 z.2.2.2.2.2.2.2.2.2.2.2.1 z.2.2.2.2.2.2.2.2.2.2.2.2.1 z.2.2.2.2.2.2.2.2.2.2.2.2.2.1 z.2.2.2.2.2.2.2.2.2.2.2.2.2.2.1 z.2.2.2.2.2.2.2.2.2.2.2.2.2.2.2 qa qb qd qc qx qy qu qs qp) A) ([.ref aK] : List Value).toArray s 0 0 A) (F0 m 82 ls []) := by
    intro kr uz ul ks kv kz cb ga gb gd gc gx gy gu gs gp hf H locs ls hl hP hD hS
    unfold tc_K_serveTick_j82 at hf
    refine lv_aload_n hx hb d_K_serveTick_82 rfl (lv_at hl 0 rfl) ?_
    obtain ⟨z15, hz15, hf⟩ := op_b hf
    refine cf_v (ws2 := (ck_ aK aQ aL aA tk aY aB aG aS cI cT z15.1 z15.2.1 z15.2.2.1 z15.2.2.2.1 kv kz ku cb z15.2.2.2.2.1 z15.2.2.2.2.2.1 z15.2.2.2.2.2.2.1 z15.2.2.2.2.2.2.2.1 z15.2.2.2.2.2.2.2.2.1 z15.2.2.2.2.2.2.2.2.2.1 z15.2.2.2.2.2.2.2.2.2.2.1 z15.2.2.2.2.2.2.2.2.2.2.2.1 z15.2.2.2.2.2.2.2.2.2.2.2.2 qa qb qd qc qx qy qu qs qp)) X cx_K_112 hK hP hD hS hA hZ hl (c_tc_K_takeNext (aK := aK) (aQ := aQ) (aL := aL) (aA := aA) (tk := tk) (aY := aY) (aB := aB) (aG := aG) (aS := aS) (kr := kr) (uz := uz) (ul := ul) (ks := ks) (kv := kv) (kz := kz) (ku := ku) (cb := cb) (ga := ga) (gb := gb) (gd := gd) (gc := gc) (gx := gx) (gy := gy) (gu := gu) (gs := gs) (gp := gp) (qa := qa) (qb := qb) (qd := qd) (qc := qc) (qx := qx) (qy := qy) (qu := qu) (qs := qs) (qp := qp) hz15) ⟨rfl, rfl, Nat.le_of_ble_eq_true rfl, Nat.le_of_ble_eq_true rfl⟩ [0, 1, 2, 3, 4, 5, 6, 7, 8, 9, 10, 11] [] [0, 1, 2, 3, 4, 5, 6, 7, 8, 9, 10, 11] rfl rfl rfl rfl (by decide) rfl rfl 0 rfl rfl rfl rfl rfl (Nat.le_of_ble_eq_true rfl) d_K_serveTick_83 (fun H locs hP hD hS => ?_)
    have hq := Option.some.inj hf
    subst hq
    exact rt_v X hr hlk hK hP hD hS d_K_serveTick_86
  have L2 : ∀ (n_ : Nat) (v1 : Int32) (kr : Option Nat) (uz : Int32) (ul : Nat → Option Nat) (ks : Nat → Int32) (kv : Nat → Int32) (kz : Nat → Int32) (cb : Nat → Int32) (ga : Int32) (gb : Int32) (gd : Int32) (gc : Int32) (gx : Int32) (gy : Int32) (gu : Int32) (gs : Int32) (gp : Int32), tc_K_serveTick_l2 n_ v1 kr uz ul ks kv kz cb ga gb gd gc gx gy gu gs gp = some z → ∀ (H : Heap) (locs : List Loc) (ls : Array Slot), lv_has ls 3 [(0, .ref aK), (1, .int v1)] → va_P D cz_all (ck_ aK aQ aL aA tk aY aB aG aS cI cT kr uz ul ks kv kz ku cb ga gb gd gc gx gy gu gs gp qa qb qd qc qx qy qu qs qp) H → va_D A (ck_ aK aQ aL aA tk aY aB aG aS cI cT kr uz ul ks kv kz ku cb ga gb gd gc gx gy gu gs gp qa qb qd qc qx qy qu qs qp) → va_S A s.heap H locs → W p l e rm_c_K_serveTick s m ([.ref aK] : List Value).toArray below meth c H locs 0 0 (MQ below (qs_v D (ty_ cI cT) (ck_ aK aQ aL aA tk aY aB aG aS cI cT z.1 z.2.1 z.2.2.1 z.2.2.2.1 z.2.2.2.2.1 z.2.2.2.2.2.1 ku z.2.2.2.2.2.2.1 z.2.2.2.2.2.2.2.1 z.2.2.2.2.2.2.2.2.1 z.2.2.2.2.2.2.2.2.2.1 z.2.2.2.2.2.2.2.2.2.2.1 z.2.2.2.2.2.2.2.2.2.2.2.1 z.2.2.2.2.2.2.2.2.2.2.2.2.1 z.2.2.2.2.2.2.2.2.2.2.2.2.2.1 z.2.2.2.2.2.2.2.2.2.2.2.2.2.2.1 z.2.2.2.2.2.2.2.2.2.2.2.2.2.2.2 qa qb qd qc qx qy qu qs qp) A) ([.ref aK] : List Value).toArray s 0 0 A) (F0 m 2 ls []) := by
    intro n_
    induction n_ with
    | zero => intro v1 kr uz ul ks kv kz cb ga gb gd gc gx gy gu gs gp hf; cases hf
    | succ n_ ih =>
      have J44 : ∀ (v1 : Int32) (kr : Option Nat) (uz : Int32) (ul : Nat → Option Nat) (ks : Nat → Int32) (kv : Nat → Int32) (kz : Nat → Int32) (cb : Nat → Int32) (ga : Int32) (gb : Int32) (gd : Int32) (gc : Int32) (gx : Int32) (gy : Int32) (gu : Int32) (gs : Int32) (gp : Int32), tc_K_serveTick_j44 (tc_K_serveTick_l2 n_) v1 kr uz ul ks kv kz cb ga gb gd gc gx gy gu gs gp = some z → ∀ (H : Heap) (locs : List Loc) (ls : Array Slot), lv_has ls 3 [(0, .ref aK), (1, .int v1)] → va_P D cz_all (ck_ aK aQ aL aA tk aY aB aG aS cI cT kr uz ul ks kv kz ku cb ga gb gd gc gx gy gu gs gp qa qb qd qc qx qy qu qs qp) H → va_D A (ck_ aK aQ aL aA tk aY aB aG aS cI cT kr uz ul ks kv kz ku cb ga gb gd gc gx gy gu gs gp qa qb qd qc qx qy qu qs qp) → va_S A s.heap H locs → W p l e rm_c_K_serveTick s m ([.ref aK] : List Value).toArray below meth c H locs 0 0 (MQ below (qs_v D (ty_ cI cT) (ck_ aK aQ aL aA tk aY aB aG aS cI cT z.1 z.2.1 z.2.2.1 z.2.2.2.1 z.2.2.2.2.1 z.2.2.2.2.2.1 ku z.2.2.2.2.2.2.1 z.2.2.2.2.2.2.2.1 z.2.2.2.2.2.2.2.2.1 z.2.2.2.2.2.2.2.2.2.1 z.2.2.2.2.2.2.2.2.2.2.1 z.2.2.2.2.2.2.2.2.2.2.2.1 z.2.2.2.2.2.2.2.2.2.2.2.2.1 z.2.2.2.2.2.2.2.2.2.2.2.2.2.1 z.2.2.2.2.2.2.2.2.2.2.2.2.2.2.1 z.2.2.2.2.2.2.2.2.2.2.2.2.2.2.2 qa qb qd qc qx qy qu qs qp) A) ([.ref aK] : List Value).toArray s 0 0 A) (F0 m 44 ls []) := by
        intro v1 kr uz ul ks kv kz cb ga gb gd gc gx gy gu gs gp hf H locs ls hl hP hD hS
        unfold tc_K_serveTick_j44 at hf
        refine lv_iinc (k := 1) hx hb d_K_serveTick_44 hl rfl rfl (by decide) rfl (fun ls hl => ?_)
        have hl : lv_has ls 3 [(1, .int (v1 + Int32.ofInt 1)), (0, .ref aK)] := hl
        refine lv_goto (tgt := 2) hx hb d_K_serveTick_47 (by decide) ?_
        exact ih (v1 + Int32.ofInt 1) kr uz ul ks kv kz cb ga gb gd gc gx gy gu gs gp hf _ _ _ (lv_sub hl [1, 0] rfl) hP hD hS
      intro v1 kr uz ul ks kv kz cb ga gb gd gc gx gy gu gs gp hf H locs ls hl hP hD hS
      replace hf := (tc_K_serveTick_l2_s n_ v1 kr uz ul ks kv kz cb ga gb gd gc gx gy gu gs gp).symm.trans hf
      refine lv_iload_n hx hb d_K_serveTick_2 rfl (lv_at hl 1 rfl) ?_
      refine lv_iconst (v := (4 : Int32)) hx hb d_K_serveTick_3 (by decide) ?_
      refine lv_icmp_ge (tgt := 50) hx hb d_K_serveTick_4 (by decide) (fun hc => ?_) (fun hc => ?_)
      · replace hf := (if_pos hc).symm.trans hf
        refine lv_aload_n hx hb d_K_serveTick_50 rfl (lv_at hl 0 rfl) ?_
        refine ck_g_K_running_K X hK hP d_K_serveTick_51 ?_
        rcases op_n hf with ⟨ho17, hf⟩ | ⟨i16, ho17, hf⟩
        · rw [show va_rf (Option.map tk kr) = Value.null from by rw [ho17]; rfl]
          refine lv_ifnullN (tgt := 82) hx hb d_K_serveTick_54 (by decide) ?_
          exact J82 kr uz ul ks kv kz cb ga gb gd gc gx gy gu gs gp hf _ _ _ (lv_sub hl [0] rfl) hP hD hS
        · rw [show va_rf (Option.map tk kr) = Value.ref (tk i16) from by rw [ho17]; rfl]
          refine lv_ifnull hx hb d_K_serveTick_54 ?_
          refine lv_aload_n hx hb d_K_serveTick_57 rfl (lv_at hl 0 rfl) ?_
          refine lv_aload_n hx hb d_K_serveTick_58 rfl (lv_at hl 0 rfl) ?_
          refine ck_g_K_running_K X hK hP d_K_serveTick_59 ?_
          refine lv_aload_n hx hb d_K_serveTick_62 rfl (lv_at hl 0 rfl) ?_
          refine ck_g_K_registers_K X hK hP d_K_serveTick_63 ?_
          rw [show va_rf (Option.map tk kr) = Value.ref (tk i16) from by rw [ho17]; rfl]
          obtain ⟨z18, hz18, hf⟩ := op_b hf
          refine cf_v (ws2 := (ck_ aK aQ aL aA tk aY aB aG aS cI cT kr uz ul ks z18.1 kz ku z18.2.1 z18.2.2.1 z18.2.2.2.1 z18.2.2.2.2.1 z18.2.2.2.2.2.1 z18.2.2.2.2.2.2.1 z18.2.2.2.2.2.2.2.1 z18.2.2.2.2.2.2.2.2.1 z18.2.2.2.2.2.2.2.2.2.1 z18.2.2.2.2.2.2.2.2.2.2 qa qb qd qc qx qy qu qs qp)) X cx_K_82 hK hP hD hS hA hZ hl (c_tc_K_stack_G (aK := aK) (aQ := aQ) (aL := aL) (aA := aA) (tk := tk) (aY := aY) (aB := aB) (aG := aG) (aS := aS) (kr := kr) (uz := uz) (ul := ul) (ks := ks) (kv := kv) (kz := kz) (ku := ku) (cb := cb) (ga := ga) (gb := gb) (gd := gd) (gc := gc) (gx := gx) (gy := gy) (gu := gu) (gs := gs) (gp := gp) (qa := qa) (qb := qb) (qd := qd) (qc := qc) (qx := qx) (qy := qy) (qu := qu) (qs := qs) (qp := qp) hz18) ⟨rfl, rfl, Nat.le_of_ble_eq_true rfl, Nat.le_of_ble_eq_true rfl⟩ [0, 1, 2, 3, 4, 5, 6, 7, 8, 9, 10, 11] [] [0, 1, 2, 3, 4, 5, 6, 7, 8, 9, 10, 11] rfl rfl rfl rfl (by decide) rfl rfl 0 rfl rfl rfl rfl rfl (Nat.le_of_ble_eq_true rfl) d_K_serveTick_66 (fun H locs hP hD hS => ?_)
          refine lv_aload_n hx hb d_K_serveTick_69 rfl (lv_at hl 0 rfl) ?_
          refine lv_aload_n hx hb d_K_serveTick_70 rfl (lv_at hl 0 rfl) ?_
          refine ck_g_K_running_K X hK hP d_K_serveTick_71 ?_
          rw [show va_rf (Option.map tk kr) = Value.ref (tk i16) from by rw [ho17]; rfl]
          obtain ⟨z19, hz19, hf⟩ := op_b hf
          refine cf_v (ws2 := (ck_ aK aQ aL aA tk aY aB aG aS cI cT kr z19.1 z19.2.1 z19.2.2 z18.1 kz ku z18.2.1 z18.2.2.1 z18.2.2.2.1 z18.2.2.2.2.1 z18.2.2.2.2.2.1 z18.2.2.2.2.2.2.1 z18.2.2.2.2.2.2.2.1 z18.2.2.2.2.2.2.2.2.1 z18.2.2.2.2.2.2.2.2.2.1 z18.2.2.2.2.2.2.2.2.2.2 qa qb qd qc qx qy qu qs qp)) X cx_K_85 hK hP hD hS hA hZ hl (c_tc_K_makeReady (aK := aK) (aQ := aQ) (aL := aL) (aA := aA) (tk := tk) (aY := aY) (aB := aB) (aG := aG) (aS := aS) (kr := kr) (uz := uz) (ul := ul) (ks := ks) (kv := z18.1) (kz := kz) (ku := ku) (cb := z18.2.1) (ga := z18.2.2.1) (gb := z18.2.2.2.1) (gd := z18.2.2.2.2.1) (gc := z18.2.2.2.2.2.1) (gx := z18.2.2.2.2.2.2.1) (gy := z18.2.2.2.2.2.2.2.1) (gu := z18.2.2.2.2.2.2.2.2.1) (gs := z18.2.2.2.2.2.2.2.2.2.1) (gp := z18.2.2.2.2.2.2.2.2.2.2) (qa := qa) (qb := qb) (qd := qd) (qc := qc) (qx := qx) (qy := qy) (qu := qu) (qs := qs) (qp := qp) hz19) ⟨rfl, rfl, Nat.le_of_ble_eq_true rfl, Nat.le_of_ble_eq_true rfl⟩ [0, 1, 2, 3, 4, 5, 6, 7, 8, 9, 10, 11] [] [0, 1, 2, 3, 4, 5, 6, 7, 8, 9, 10, 11] rfl rfl rfl rfl (by decide) rfl rfl 0 rfl rfl rfl rfl rfl (Nat.le_of_ble_eq_true rfl) d_K_serveTick_74 (fun H locs hP hD hS => ?_)
          refine lv_aload_n hx hb d_K_serveTick_77 rfl (lv_at hl 0 rfl) ?_
          refine lv_null hx hb d_K_serveTick_78 ?_
          refine ck_p_K_running_K (x := none) X hK hP hD hS d_K_serveTick_79 (fun H locs hP hD hS => ?_)
          exact J82 none z19.1 z19.2.1 z19.2.2 z18.1 kz z18.2.1 z18.2.2.1 z18.2.2.2.1 z18.2.2.2.2.1 z18.2.2.2.2.2.1 z18.2.2.2.2.2.2.1 z18.2.2.2.2.2.2.2.1 z18.2.2.2.2.2.2.2.2.1 z18.2.2.2.2.2.2.2.2.2.1 z18.2.2.2.2.2.2.2.2.2.2 hf _ _ _ (lv_sub hl [0] rfl) hP hD hS
      · replace hf := (if_neg hc).symm.trans hf
        refine lv_aload_n hx hb d_K_serveTick_7 rfl (lv_at hl 0 rfl) ?_
        refine ck_g_K_tasks_K X hK hP d_K_serveTick_8 ?_
        refine lv_iload_n hx hb d_K_serveTick_11 rfl (lv_at hl 1 rfl) ?_
        obtain ⟨hi20, hf⟩ := op_c hf
        refine ck_a_A (k := (v1.toNatClampNeg)) X hK hP hi20 rfl d_K_serveTick_12 ?_
        refine lv_astore_n hx hb d_K_serveTick_13 rfl hl (by decide) rfl (fun ls hl => ?_)
        have hl : lv_has ls 3 [(2, .ref (tk (v1.toNatClampNeg))), (0, .ref aK), (1, .int v1)] := hl
        refine lv_aload_n hx hb d_K_serveTick_14 rfl (lv_at hl 0 rfl) ?_
        obtain ⟨ht21, hf⟩ := op_t hf
        refine ck_tg_state_K X hK hP ht21 d_K_serveTick_15 ?_
        refine lv_iconst (v := (3 : Int32)) hx hb d_K_serveTick_18 (by decide) ?_
        refine lv_icmp_ne (tgt := 44) hx hb d_K_serveTick_19 (by decide) (fun hc => ?_) (fun hc => ?_)
        · replace hf := (if_neg hc).symm.trans hf
          exact J44 v1 kr uz ul ks kv kz cb ga gb gd gc gx gy gu gs gp hf _ _ _ (lv_sub hl [1, 2] rfl) hP hD hS
        · replace hf := (if_pos hc).symm.trans hf
          refine lv_aload_n hx hb d_K_serveTick_22 rfl (lv_at hl 0 rfl) ?_
          refine lv_dup hx hb d_K_serveTick_23 rfl ?_
          refine ck_tg_sleep_K X hK hP ht21 d_K_serveTick_24 ?_
          refine lv_iconst (v := (1 : Int32)) hx hb d_K_serveTick_27 (by decide) ?_
          refine lv_isub hx hb d_K_serveTick_28 ?_
          refine ck_tp_sleep_K (x := ((kz (v1.toNatClampNeg)) - (1 : Int32))) X hK hP hD hS ht21 d_K_serveTick_29 (fun H locs hP hD hS => ?_)
          refine lv_aload_n hx hb d_K_serveTick_32 rfl (lv_at hl 0 rfl) ?_
          refine ck_tg_sleep_K X hK hP ht21 d_K_serveTick_33 ?_
          refine lv_if_ne (tgt := 44) hx hb d_K_serveTick_36 (by decide) (fun hc => ?_) (fun hc => ?_)
          · replace hf := (if_neg hc).symm.trans hf
            exact J44 v1 kr uz ul ks kv (upd kz (v1.toNatClampNeg) ((kz (v1.toNatClampNeg)) - (1 : Int32))) cb ga gb gd gc gx gy gu gs gp hf _ _ _ (lv_sub hl [1, 2] rfl) hP hD hS
          · replace hf := (if_pos hc).symm.trans hf
            refine lv_aload_n hx hb d_K_serveTick_39 rfl (lv_at hl 1 rfl) ?_
            refine lv_aload_n hx hb d_K_serveTick_40 rfl (lv_at hl 0 rfl) ?_
            obtain ⟨z22, hz22, hf⟩ := op_b hf
            refine cf_v (ws2 := (ck_ aK aQ aL aA tk aY aB aG aS cI cT kr z22.1 z22.2.1 z22.2.2 kv (upd kz (v1.toNatClampNeg) ((kz (v1.toNatClampNeg)) - (1 : Int32))) ku cb ga gb gd gc gx gy gu gs gp qa qb qd qc qx qy qu qs qp)) X cx_K_85 hK hP hD hS hA hZ hl (c_tc_K_makeReady (aK := aK) (aQ := aQ) (aL := aL) (aA := aA) (tk := tk) (aY := aY) (aB := aB) (aG := aG) (aS := aS) (kr := kr) (uz := uz) (ul := ul) (ks := ks) (kv := kv) (kz := (upd kz (v1.toNatClampNeg) ((kz (v1.toNatClampNeg)) - (1 : Int32)))) (ku := ku) (cb := cb) (ga := ga) (gb := gb) (gd := gd) (gc := gc) (gx := gx) (gy := gy) (gu := gu) (gs := gs) (gp := gp) (qa := qa) (qb := qb) (qd := qd) (qc := qc) (qx := qx) (qy := qy) (qu := qu) (qs := qs) (qp := qp) hz22) ⟨rfl, rfl, Nat.le_of_ble_eq_true rfl, Nat.le_of_ble_eq_true rfl⟩ [0, 1, 2, 3, 4, 5, 6, 7, 8, 9, 10, 11] [] [0, 1, 2, 3, 4, 5, 6, 7, 8, 9, 10, 11] rfl rfl rfl rfl (by decide) rfl rfl 0 rfl rfl rfl rfl rfl (Nat.le_of_ble_eq_true rfl) d_K_serveTick_41 (fun H locs hP hD hS => ?_)
            exact J44 v1 kr z22.1 z22.2.1 z22.2.2 kv (upd kz (v1.toNatClampNeg) ((kz (v1.toNatClampNeg)) - (1 : Int32))) cb ga gb gd gc gx gy gu gs gp hf _ _ _ (lv_sub hl [1, 2] rfl) hP hD hS
  unfold tc_K_serveTick at hf
  refine lv_iconst (v := (0 : Int32)) hx hb d_K_serveTick_0 (by decide) ?_
  refine lv_istore_n hx hb d_K_serveTick_1 rfl hl (by decide) rfl (fun ls hl => ?_)
  have hl : lv_has ls 3 [(1, .int (0 : Int32)), (0, .ref aK)] := hl
  exact L2 5 (0 : Int32) kr uz ul ks kv kz cb ga gb gd gc gx gy gu gs gp hf _ _ _ (lv_sub hl [1, 0] rfl) hP hD hS
set_option maxHeartbeats 4000000 in
set_option maxRecDepth 100000 in
theorem c_tc_K_leastFree  {z : (Option Nat)} (hf : tc_K_leastFree ks = some z) : cs_q l my_K_leastFree mb_K_leastFree 2 (.object "TaskComputer$Task") rm_c_K_leastFree D (ty_ cI cT) [.ref aK] (ck_ aK aQ aL aA tk aY aB aG aS cI cT kr uz ul ks kv kz ku cb ga gb gd gc gx gy gu gs gp qa qb qd qc qx qy qu qs qp) (ck_ aK aQ aL aA tk aY aB aG aS cI cT kr uz ul ks kv kz ku cb ga gb gd gc gx gy gu gs gp qa qb qd qc qx qy qu qs qp) (Option.map tk z) := by
  refine cs_q_of (by decide) (Nat.le_of_ble_eq_true rfl) ?_
  intro p e s m below meth c A ls X hr hlk hK hP hD hS hA hZ hl
  have hx := X.1
  have hb := X.2.1
  have hl : lv_has ls 2 [(0, .ref aK)] := hl
  have L2 : ∀ (n_ : Nat) (v1 : Int32) (ks : Nat → Int32), tc_K_leastFree_l2 n_ v1 ks = some z → ∀ (H : Heap) (locs : List Loc) (ls : Array Slot), lv_has ls 2 [(0, .ref aK), (1, .int v1)] → va_P D cz_all (ck_ aK aQ aL aA tk aY aB aG aS cI cT kr uz ul ks kv kz ku cb ga gb gd gc gx gy gu gs gp qa qb qd qc qx qy qu qs qp) H → va_D A (ck_ aK aQ aL aA tk aY aB aG aS cI cT kr uz ul ks kv kz ku cb ga gb gd gc gx gy gu gs gp qa qb qd qc qx qy qu qs qp) → va_S A s.heap H locs → W p l e rm_c_K_leastFree s m ([.ref aK] : List Value).toArray below meth c H locs 0 0 (MQ below (qs_q D (ty_ cI cT) (ck_ aK aQ aL aA tk aY aB aG aS cI cT kr uz ul ks kv kz ku cb ga gb gd gc gx gy gu gs gp qa qb qd qc qx qy qu qs qp) (Option.map tk z) A) ([.ref aK] : List Value).toArray s 0 0 A) (F0 m 2 ls []) := by
    intro n_
    induction n_ with
    | zero => intro v1 ks hf; cases hf
    | succ n_ ih =>
      intro v1 ks hf H locs ls hl hP hD hS
      replace hf := (tc_K_leastFree_l2_s n_ v1 ks).symm.trans hf
      refine lv_iload_n hx hb d_K_leastFree_2 rfl (lv_at hl 1 rfl) ?_
      refine lv_iconst (v := (4 : Int32)) hx hb d_K_leastFree_3 (by decide) ?_
      refine lv_icmp_ge (tgt := 32) hx hb d_K_leastFree_4 (by decide) (fun hc => ?_) (fun hc => ?_)
      · replace hf := (if_pos hc).symm.trans hf
        refine lv_null hx hb d_K_leastFree_32 ?_
        have hq := Option.some.inj hf
        subst hq
        exact rt_q (ro := Option.map tk none) X hr hlk hK hP hD hS d_K_leastFree_33
      · replace hf := (if_neg hc).symm.trans hf
        refine lv_aload_n hx hb d_K_leastFree_7 rfl (lv_at hl 0 rfl) ?_
        refine ck_g_K_tasks_K X hK hP d_K_leastFree_8 ?_
        refine lv_iload_n hx hb d_K_leastFree_11 rfl (lv_at hl 1 rfl) ?_
        obtain ⟨hi4, hf⟩ := op_c hf
        refine ck_a_A (k := (v1.toNatClampNeg)) X hK hP hi4 rfl d_K_leastFree_12 ?_
        obtain ⟨ht5, hf⟩ := op_t hf
        refine ck_tg_state_K X hK hP ht5 d_K_leastFree_13 ?_
        refine lv_if_ne (tgt := 26) hx hb d_K_leastFree_16 (by decide) (fun hc => ?_) (fun hc => ?_)
        · replace hf := (if_neg hc).symm.trans hf
          refine lv_iinc (k := 1) hx hb d_K_leastFree_26 hl rfl rfl (by decide) rfl (fun ls hl => ?_)
          have hl : lv_has ls 2 [(1, .int (v1 + Int32.ofInt 1)), (0, .ref aK)] := hl
          refine lv_goto (tgt := 2) hx hb d_K_leastFree_29 (by decide) ?_
          exact ih (v1 + Int32.ofInt 1) ks hf _ _ _ (lv_sub hl [1, 0] rfl) hP hD hS
        · replace hf := (if_pos hc).symm.trans hf
          refine lv_aload_n hx hb d_K_leastFree_19 rfl (lv_at hl 0 rfl) ?_
          refine ck_g_K_tasks_K X hK hP d_K_leastFree_20 ?_
          refine lv_iload_n hx hb d_K_leastFree_23 rfl (lv_at hl 1 rfl) ?_
          refine ck_a_A (k := (v1.toNatClampNeg)) X hK hP hi4 rfl d_K_leastFree_24 ?_
          have hq := Option.some.inj hf
          subst hq
          exact rt_q (ro := Option.map tk (some (v1.toNatClampNeg))) X hr hlk hK hP hD hS d_K_leastFree_25
  unfold tc_K_leastFree at hf
  refine lv_iconst (v := (0 : Int32)) hx hb d_K_leastFree_0 (by decide) ?_
  refine lv_istore_n hx hb d_K_leastFree_1 rfl hl (by decide) rfl (fun ls hl => ?_)
  have hl : lv_has ls 2 [(1, .int (0 : Int32)), (0, .ref aK)] := hl
  exact L2 5 (0 : Int32) ks hf _ _ _ (lv_sub hl [1, 0] rfl) hP hD hS
set_option maxHeartbeats 4000000 in
set_option maxRecDepth 100000 in
theorem c_tc_K_fail {x1 : Nat} {x2 : Int32} {z : (Nat → Int32)} (hf : tc_K_fail x1 x2 kv cb = some z) : cs_v l my_K_fail mb_K_fail 3 rm_c_K_fail D (ty_ cI cT) [.ref aK, .ref (tk x1), .int x2] (ck_ aK aQ aL aA tk aY aB aG aS cI cT kr uz ul ks kv kz ku cb ga gb gd gc gx gy gu gs gp qa qb qd qc qx qy qu qs qp) (ck_ aK aQ aL aA tk aY aB aG aS cI cT kr uz ul ks kv kz ku z ga gb gd gc gx gy gu gs gp qa qb qd qc qx qy qu qs qp) := by
  refine cs_v_of (by decide) (Nat.le_of_ble_eq_true rfl) ?_
  intro p e s m below meth c A ls X hr hlk hK hP hD hS hA hZ hl
  have hx := X.1
  have hb := X.2.1
  have hl : lv_has ls 3 [(0, .ref aK), (1, .ref (tk x1)), (2, .int x2)] := hl
  unfold tc_K_fail at hf
  refine lv_aload_n hx hb d_K_fail_0 rfl (lv_at hl 0 rfl) ?_
  refine ck_g_K_memory_K X hK hP d_K_fail_1 ?_
  refine lv_aload_n hx hb d_K_fail_4 rfl (lv_at hl 1 rfl) ?_
  obtain ⟨ht5, hf⟩ := op_t hf
  refine ck_tg_s_K X hK hP ht5 d_K_fail_5 ?_
  refine lv_iconst (v := (2 : Int32)) hx hb d_K_fail_8 (by decide) ?_
  refine lv_iadd hx hb d_K_fail_9 ?_
  refine lv_iload_n hx hb d_K_fail_10 rfl (lv_at hl 2 rfl) ?_
  refine lv_iconst (v := (1 : Int32)) hx hb d_K_fail_11 (by decide) ?_
  obtain ⟨z6, hz6, hf⟩ := op_b hf
  refine cf_v (ws2 := (ck_ aK aQ aL aA tk aY aB aG aS cI cT kr uz ul ks kv kz ku z6 ga gb gd gc gx gy gu gs gp qa qb qd qc qx qy qu qs qp)) X cx_K_148 hK hP hD hS hA hZ hl (c_tc_Y_store (aY := aY) (aB := aB) (cb := cb) hz6) ⟨rfl, rfl, Nat.le_of_ble_eq_true rfl, Nat.le_of_ble_eq_true rfl⟩ [8, 9] [0, 1, 2, 3, 4, 5, 6, 7, 10, 11] [0, 1, 2, 3, 4, 5, 6, 7, 10, 11, 8, 9] rfl rfl rfl rfl (by decide) rfl rfl 0 rfl rfl rfl rfl rfl (Nat.le_of_ble_eq_true rfl) d_K_fail_12 (fun H locs hP hD hS => ?_)
  refine lv_aload_n hx hb d_K_fail_15 rfl (lv_at hl 0 rfl) ?_
  refine ck_g_K_memory_K X hK hP d_K_fail_16 ?_
  refine lv_aload_n hx hb d_K_fail_19 rfl (lv_at hl 1 rfl) ?_
  refine ck_tg_s_K X hK hP ht5 d_K_fail_20 ?_
  refine lv_aload_n hx hb d_K_fail_23 rfl (lv_at hl 0 rfl) ?_
  refine ck_g_K_memory_K X hK hP d_K_fail_24 ?_
  refine lv_aload_n hx hb d_K_fail_27 rfl (lv_at hl 1 rfl) ?_
  refine ck_tg_s_K X hK hP ht5 d_K_fail_28 ?_
  refine lv_iconst (v := (1 : Int32)) hx hb d_K_fail_31 (by decide) ?_
  obtain ⟨z7, hz7, hf⟩ := op_b hf
  refine cf_i (ws2 := (ck_ aK aQ aL aA tk aY aB aG aS cI cT kr uz ul ks kv kz ku z6 ga gb gd gc gx gy gu gs gp qa qb qd qc qx qy qu qs qp)) X cx_K_152 hK hP hD hS hA hZ hl (c_tc_Y_load (aY := aY) (aB := aB) (cb := z6) hz7) ⟨rfl, rfl, Nat.le_of_ble_eq_true rfl, Nat.le_of_ble_eq_true rfl⟩ [8, 9] [0, 1, 2, 3, 4, 5, 6, 7, 10, 11] [0, 1, 2, 3, 4, 5, 6, 7, 10, 11, 8, 9] rfl rfl rfl rfl (by decide) rfl rfl 0 rfl rfl rfl rfl rfl (Nat.le_of_ble_eq_true rfl) d_K_fail_32 (fun H locs hP hD hS => ?_)
  refine lv_iconst (v := (1 : Int32)) hx hb d_K_fail_35 (by decide) ?_
  refine lv_ior hx hb d_K_fail_36 ?_
  refine lv_iconst (v := (1 : Int32)) hx hb d_K_fail_37 (by decide) ?_
  obtain ⟨z8, hz8, hf⟩ := op_b hf
  refine cf_v (ws2 := (ck_ aK aQ aL aA tk aY aB aG aS cI cT kr uz ul ks kv kz ku z8 ga gb gd gc gx gy gu gs gp qa qb qd qc qx qy qu qs qp)) X cx_K_148 hK hP hD hS hA hZ hl (c_tc_Y_store (aY := aY) (aB := aB) (cb := z6) hz8) ⟨rfl, rfl, Nat.le_of_ble_eq_true rfl, Nat.le_of_ble_eq_true rfl⟩ [8, 9] [0, 1, 2, 3, 4, 5, 6, 7, 10, 11] [0, 1, 2, 3, 4, 5, 6, 7, 10, 11, 8, 9] rfl rfl rfl rfl (by decide) rfl rfl 0 rfl rfl rfl rfl rfl (Nat.le_of_ble_eq_true rfl) d_K_fail_38 (fun H locs hP hD hS => ?_)
  have hq := Option.some.inj hf
  subst hq
  exact rt_v X hr hlk hK hP hD hS d_K_fail_41
set_option maxHeartbeats 4000000 in
set_option maxRecDepth 100000 in
theorem c_tc_Y_copyBlock {x1 : Int32} {x2 : Int32} {z : (Nat → Int32)} (hf : tc_Y_copyBlock x1 x2 cb = some z) : cs_v l my_Y_copyBlock mb_Y_copyBlock 4 rm_c_Y_copyBlock D (ty_ cI cT) [.ref aY, .int x1, .int x2] (cy_ aY aB cI cT cb) (cy_ aY aB cI cT z) := by
  refine cs_v_of (by decide) (Nat.le_of_ble_eq_true rfl) ?_
  intro p e s m below meth c A ls X hr hlk hK hP hD hS hA hZ hl
  have hx := X.1
  have hb := X.2.1
  have hl : lv_has ls 4 [(0, .ref aY), (1, .int x1), (2, .int x2)] := hl
  have L2 : ∀ (n_ : Nat) (v1 : Int32) (v2 : Int32) (v3 : Int32) (cb : Nat → Int32), tc_Y_copyBlock_l2 n_ v1 v2 v3 cb = some z → ∀ (H : Heap) (locs : List Loc) (ls : Array Slot), lv_has ls 4 [(0, .ref aY), (1, .int v1), (2, .int v2), (3, .int v3)] → va_P D cz_all (cy_ aY aB cI cT cb) H → va_D A (cy_ aY aB cI cT cb) → va_S A s.heap H locs → W p l e rm_c_Y_copyBlock s m ([.ref aY, .int x1, .int x2] : List Value).toArray below meth c H locs 0 0 (MQ below (qs_v D (ty_ cI cT) (cy_ aY aB cI cT z) A) ([.ref aY, .int x1, .int x2] : List Value).toArray s 0 0 A) (F0 m 2 ls []) := by
    intro n_
    induction n_ with
    | zero => intro v1 v2 v3 cb hf; cases hf
    | succ n_ ih =>
      intro v1 v2 v3 cb hf H locs ls hl hP hD hS
      replace hf := (tc_Y_copyBlock_l2_s n_ v1 v2 v3 cb).symm.trans hf
      refine lv_iload_n hx hb d_Y_copyBlock_2 rfl (lv_at hl 3 rfl) ?_
      refine lv_sipush (v := (128 : Int32)) hx hb d_Y_copyBlock_3 (by decide) ?_
      refine lv_icmp_ge (tgt := 39) hx hb d_Y_copyBlock_6 (by decide) (fun hc => ?_) (fun hc => ?_)
      · replace hf := (if_pos hc).symm.trans hf
        have hq := Option.some.inj hf
        subst hq
        exact rt_v X hr hlk hK hP hD hS d_Y_copyBlock_39
      · replace hf := (if_neg hc).symm.trans hf
        refine lv_aload_n hx hb d_Y_copyBlock_9 rfl (lv_at hl 0 rfl) ?_
        refine lv_sipush (v := (128 : Int32)) hx hb d_Y_copyBlock_10 (by decide) ?_
        refine lv_iload_n hx hb d_Y_copyBlock_13 rfl (lv_at hl 2 rfl) ?_
        refine lv_imul hx hb d_Y_copyBlock_14 ?_
        refine lv_iload_n hx hb d_Y_copyBlock_15 rfl (lv_at hl 3 rfl) ?_
        refine lv_iadd hx hb d_Y_copyBlock_16 ?_
        refine lv_aload_n hx hb d_Y_copyBlock_17 rfl (lv_at hl 0 rfl) ?_
        refine lv_sipush (v := (128 : Int32)) hx hb d_Y_copyBlock_18 (by decide) ?_
        refine lv_iload_n hx hb d_Y_copyBlock_21 rfl (lv_at hl 1 rfl) ?_
        refine lv_imul hx hb d_Y_copyBlock_22 ?_
        refine lv_iload_n hx hb d_Y_copyBlock_23 rfl (lv_at hl 3 rfl) ?_
        refine lv_iadd hx hb d_Y_copyBlock_24 ?_
        refine lv_iconst (v := (1 : Int32)) hx hb d_Y_copyBlock_25 (by decide) ?_
        obtain ⟨z5, hz5, hf⟩ := op_b hf
        refine cf_i (ws2 := (cy_ aY aB cI cT cb)) X cx_Y_16 hK hP hD hS hA hZ hl (c_tc_Y_load (aY := aY) (aB := aB) (cb := cb) hz5) ⟨rfl, rfl, Nat.le_of_ble_eq_true rfl, Nat.le_of_ble_eq_true rfl⟩ [0, 1] [] [0, 1] rfl rfl rfl rfl (by decide) rfl rfl 0 rfl rfl rfl rfl rfl (Nat.le_of_ble_eq_true rfl) d_Y_copyBlock_26 (fun H locs hP hD hS => ?_)
        refine lv_iconst (v := (1 : Int32)) hx hb d_Y_copyBlock_29 (by decide) ?_
        obtain ⟨z6, hz6, hf⟩ := op_b hf
        refine cf_v (ws2 := (cy_ aY aB cI cT z6)) X cx_Y_20 hK hP hD hS hA hZ hl (c_tc_Y_store (aY := aY) (aB := aB) (cb := cb) hz6) ⟨rfl, rfl, Nat.le_of_ble_eq_true rfl, Nat.le_of_ble_eq_true rfl⟩ [0, 1] [] [0, 1] rfl rfl rfl rfl (by decide) rfl rfl 0 rfl rfl rfl rfl rfl (Nat.le_of_ble_eq_true rfl) d_Y_copyBlock_30 (fun H locs hP hD hS => ?_)
        refine lv_iinc (k := 3) hx hb d_Y_copyBlock_33 hl rfl rfl (by decide) rfl (fun ls hl => ?_)
        have hl : lv_has ls 4 [(3, .int (v3 + Int32.ofInt 1)), (0, .ref aY), (1, .int v1), (2, .int v2)] := hl
        refine lv_goto (tgt := 2) hx hb d_Y_copyBlock_36 (by decide) ?_
        exact ih v1 v2 (v3 + Int32.ofInt 1) z6 hf _ _ _ (lv_sub hl [1, 2, 3, 0] rfl) hP hD hS
  unfold tc_Y_copyBlock at hf
  refine lv_iconst (v := (0 : Int32)) hx hb d_Y_copyBlock_0 (by decide) ?_
  refine lv_istore_n hx hb d_Y_copyBlock_1 rfl hl (by decide) rfl (fun ls hl => ?_)
  have hl : lv_has ls 4 [(3, .int (0 : Int32)), (0, .ref aY), (1, .int x1), (2, .int x2)] := hl
  exact L2 129 x1 x2 (0 : Int32) cb hf _ _ _ (lv_sub hl [1, 2, 3, 0] rfl) hP hD hS
set_option maxHeartbeats 4000000 in
set_option maxRecDepth 100000 in
theorem c_tc_K_succeed {x1 : Nat} {x2 : Int32} {z : (Nat → Int32)} (hf : tc_K_succeed x1 x2 kv cb = some z) : cs_v l my_K_succeed mb_K_succeed 3 rm_c_K_succeed D (ty_ cI cT) [.ref aK, .ref (tk x1), .int x2] (ck_ aK aQ aL aA tk aY aB aG aS cI cT kr uz ul ks kv kz ku cb ga gb gd gc gx gy gu gs gp qa qb qd qc qx qy qu qs qp) (ck_ aK aQ aL aA tk aY aB aG aS cI cT kr uz ul ks kv kz ku z ga gb gd gc gx gy gu gs gp qa qb qd qc qx qy qu qs qp) := by
  refine cs_v_of (by decide) (Nat.le_of_ble_eq_true rfl) ?_
  intro p e s m below meth c A ls X hr hlk hK hP hD hS hA hZ hl
  have hx := X.1
  have hb := X.2.1
  have hl : lv_has ls 3 [(0, .ref aK), (1, .ref (tk x1)), (2, .int x2)] := hl
  unfold tc_K_succeed at hf
  refine lv_aload_n hx hb d_K_succeed_0 rfl (lv_at hl 0 rfl) ?_
  refine ck_g_K_memory_K X hK hP d_K_succeed_1 ?_
  refine lv_aload_n hx hb d_K_succeed_4 rfl (lv_at hl 1 rfl) ?_
  obtain ⟨ht5, hf⟩ := op_t hf
  refine ck_tg_s_K X hK hP ht5 d_K_succeed_5 ?_
  refine lv_iconst (v := (1 : Int32)) hx hb d_K_succeed_8 (by decide) ?_
  refine lv_iadd hx hb d_K_succeed_9 ?_
  refine lv_iload_n hx hb d_K_succeed_10 rfl (lv_at hl 2 rfl) ?_
  refine lv_iconst (v := (1 : Int32)) hx hb d_K_succeed_11 (by decide) ?_
  obtain ⟨z6, hz6, hf⟩ := op_b hf
  refine cf_v (ws2 := (ck_ aK aQ aL aA tk aY aB aG aS cI cT kr uz ul ks kv kz ku z6 ga gb gd gc gx gy gu gs gp qa qb qd qc qx qy qu qs qp)) X cx_K_148 hK hP hD hS hA hZ hl (c_tc_Y_store (aY := aY) (aB := aB) (cb := cb) hz6) ⟨rfl, rfl, Nat.le_of_ble_eq_true rfl, Nat.le_of_ble_eq_true rfl⟩ [8, 9] [0, 1, 2, 3, 4, 5, 6, 7, 10, 11] [0, 1, 2, 3, 4, 5, 6, 7, 10, 11, 8, 9] rfl rfl rfl rfl (by decide) rfl rfl 0 rfl rfl rfl rfl rfl (Nat.le_of_ble_eq_true rfl) d_K_succeed_12 (fun H locs hP hD hS => ?_)
  refine lv_aload_n hx hb d_K_succeed_15 rfl (lv_at hl 0 rfl) ?_
  refine ck_g_K_memory_K X hK hP d_K_succeed_16 ?_
  refine lv_aload_n hx hb d_K_succeed_19 rfl (lv_at hl 1 rfl) ?_
  refine ck_tg_s_K X hK hP ht5 d_K_succeed_20 ?_
  refine lv_aload_n hx hb d_K_succeed_23 rfl (lv_at hl 0 rfl) ?_
  refine ck_g_K_memory_K X hK hP d_K_succeed_24 ?_
  refine lv_aload_n hx hb d_K_succeed_27 rfl (lv_at hl 1 rfl) ?_
  refine ck_tg_s_K X hK hP ht5 d_K_succeed_28 ?_
  refine lv_iconst (v := (1 : Int32)) hx hb d_K_succeed_31 (by decide) ?_
  obtain ⟨z7, hz7, hf⟩ := op_b hf
  refine cf_i (ws2 := (ck_ aK aQ aL aA tk aY aB aG aS cI cT kr uz ul ks kv kz ku z6 ga gb gd gc gx gy gu gs gp qa qb qd qc qx qy qu qs qp)) X cx_K_152 hK hP hD hS hA hZ hl (c_tc_Y_load (aY := aY) (aB := aB) (cb := z6) hz7) ⟨rfl, rfl, Nat.le_of_ble_eq_true rfl, Nat.le_of_ble_eq_true rfl⟩ [8, 9] [0, 1, 2, 3, 4, 5, 6, 7, 10, 11] [0, 1, 2, 3, 4, 5, 6, 7, 10, 11, 8, 9] rfl rfl rfl rfl (by decide) rfl rfl 0 rfl rfl rfl rfl rfl (Nat.le_of_ble_eq_true rfl) d_K_succeed_32 (fun H locs hP hD hS => ?_)
  refine lv_bipush (v := (-2 : Int32)) hx hb d_K_succeed_35 (by decide) ?_
  refine lv_iand hx hb d_K_succeed_37 ?_
  refine lv_iconst (v := (1 : Int32)) hx hb d_K_succeed_38 (by decide) ?_
  obtain ⟨z8, hz8, hf⟩ := op_b hf
  refine cf_v (ws2 := (ck_ aK aQ aL aA tk aY aB aG aS cI cT kr uz ul ks kv kz ku z8 ga gb gd gc gx gy gu gs gp qa qb qd qc qx qy qu qs qp)) X cx_K_148 hK hP hD hS hA hZ hl (c_tc_Y_store (aY := aY) (aB := aB) (cb := z6) hz8) ⟨rfl, rfl, Nat.le_of_ble_eq_true rfl, Nat.le_of_ble_eq_true rfl⟩ [8, 9] [0, 1, 2, 3, 4, 5, 6, 7, 10, 11] [0, 1, 2, 3, 4, 5, 6, 7, 10, 11, 8, 9] rfl rfl rfl rfl (by decide) rfl rfl 0 rfl rfl rfl rfl rfl (Nat.le_of_ble_eq_true rfl) d_K_succeed_39 (fun H locs hP hD hS => ?_)
  have hq := Option.some.inj hf
  subst hq
  exact rt_v X hr hlk hK hP hD hS d_K_succeed_42
set_option maxHeartbeats 4000000 in
set_option maxRecDepth 100000 in
theorem c_tc_K_fork {x1 : Nat} {x2 : Int32} {x3 : Int32} {z : Int32 × (Nat → Option Nat) × (Nat → Int32) × (Nat → Int32) × (Nat → Int32) × Int32 × Int32 × Int32 × Int32 × Int32 × Int32 × Int32 × Int32 × Int32} (hf : tc_K_fork x1 x2 x3 uz ul ks kv cb qa qb qd qc qx qy qu qs qp = some z) : cs_v l my_K_fork mb_K_fork 5 rm_c_K_fork D (ty_ cI cT) [.ref aK, .ref (tk x1), .int x2, .int x3] (ck_ aK aQ aL aA tk aY aB aG aS cI cT kr uz ul ks kv kz ku cb ga gb gd gc gx gy gu gs gp qa qb qd qc qx qy qu qs qp) (ck_ aK aQ aL aA tk aY aB aG aS cI cT kr z.1 z.2.1 z.2.2.1 z.2.2.2.1 kz ku z.2.2.2.2.1 ga gb gd gc gx gy gu gs gp z.2.2.2.2.2.1 z.2.2.2.2.2.2.1 z.2.2.2.2.2.2.2.1 z.2.2.2.2.2.2.2.2.1 z.2.2.2.2.2.2.2.2.2.1 z.2.2.2.2.2.2.2.2.2.2.1 z.2.2.2.2.2.2.2.2.2.2.2.1 z.2.2.2.2.2.2.2.2.2.2.2.2.1 z.2.2.2.2.2.2.2.2.2.2.2.2.2) := by
  refine cs_v_of (by decide) (Nat.le_of_ble_eq_true rfl) ?_
  intro p e s m below meth c A ls X hr hlk hK hP hD hS hA hZ hl
  have hx := X.1
  have hb := X.2.1
  have hl : lv_has ls 5 [(0, .ref aK), (1, .ref (tk x1)), (2, .int x2), (3, .int x3)] := hl
  have J18 : ∀ (v1 : Nat) (uz : Int32) (ul : Nat → Option Nat) (ks : Nat → Int32) (kv : Nat → Int32) (cb : Nat → Int32) (qa : Int32) (qb : Int32) (qd : Int32) (qc : Int32) (qx : Int32) (qy : Int32) (qu : Int32) (qs : Int32) (qp : Int32), tc_K_fork_j18 v1 uz ul ks kv cb qa qb qd qc qx qy qu qs qp = some z → ∀ (H : Heap) (locs : List Loc) (ls : Array Slot), lv_has ls 5 [(0, .ref aK), (1, .ref (tk v1))] → va_P D cz_all (ck_ aK aQ aL aA tk aY aB aG aS cI cT kr uz ul ks kv kz ku cb ga gb gd gc gx gy gu gs gp qa qb qd qc qx qy qu qs qp) H → va_D A (ck_ aK aQ aL aA tk aY aB aG aS cI cT kr uz ul ks kv kz ku cb ga gb gd gc gx gy gu gs gp qa qb qd qc qx qy qu qs qp) → va_S A s.heap H locs → W p l e rm_c_K_fork s m ([.ref aK, .ref (tk x1), .int x2, .int x3] : List Value).toArray below meth c H locs 0 0 (MQ below (qs_v D (ty_ cI cT) (ck_ aK aQ aL aA tk aY aB aG aS cI cT kr z.1 z.2.1 z.2.2.1 z.2.2.2.1 kz ku z.2.2.2.2.1 ga gb gd gc gx gy gu gs gp z.2.2.2.2.2.1 z.2.2.2.2.2.2.1 z.2.2.2.2.2.2.2.1 z.2.2.2.2.2.2.2.2.1 z.2.2.2.2.2.2.2.2.2.1 z.2.2.2.2.2.2.2.2.2.2.1 z.2.2.2.2.2.2.2.2.2.2.2.1 z.2.2.2.2.2.2.2.2.2.2.2.2.1 z.2.2.2.2.2.2.2.2.2.2.2.2.2) A) ([.ref aK, .ref (tk x1), .int x2, .int x3] : List Value).toArray s 0 0 A) (F0 m 18 ls []) := by
    intro v1 uz ul ks kv cb qa qb qd qc qx qy qu qs qp hf H locs ls hl hP hD hS
    unfold tc_K_fork_j18 at hf
    refine lv_aload_n hx hb d_K_fork_18 rfl (lv_at hl 0 rfl) ?_
    refine lv_aload_n hx hb d_K_fork_19 rfl (lv_at hl 1 rfl) ?_
    refine lv_iconst (v := (1 : Int32)) hx hb d_K_fork_20 (by decide) ?_
    obtain ⟨z10, hz10, hf⟩ := op_b hf
    refine cf_v (ws2 := (ck_ aK aQ aL aA tk aY aB aG aS cI cT kr uz ul ks kv kz ku z10 ga gb gd gc gx gy gu gs gp qa qb qd qc qx qy qu qs qp)) X cx_K_134 hK hP hD hS hA hZ hl (c_tc_K_fail (aK := aK) (aQ := aQ) (aL := aL) (aA := aA) (tk := tk) (aY := aY) (aB := aB) (aG := aG) (aS := aS) (kr := kr) (uz := uz) (ul := ul) (ks := ks) (kv := kv) (kz := kz) (ku := ku) (cb := cb) (ga := ga) (gb := gb) (gd := gd) (gc := gc) (gx := gx) (gy := gy) (gu := gu) (gs := gs) (gp := gp) (qa := qa) (qb := qb) (qd := qd) (qc := qc) (qx := qx) (qy := qy) (qu := qu) (qs := qs) (qp := qp) hz10) ⟨rfl, rfl, Nat.le_of_ble_eq_true rfl, Nat.le_of_ble_eq_true rfl⟩ [0, 1, 2, 3, 4, 5, 6, 7, 8, 9, 10, 11] [] [0, 1, 2, 3, 4, 5, 6, 7, 8, 9, 10, 11] rfl rfl rfl rfl (by decide) rfl rfl 0 rfl rfl rfl rfl rfl (Nat.le_of_ble_eq_true rfl) d_K_fork_21 (fun H locs hP hD hS => ?_)
    have hq := Option.some.inj hf
    subst hq
    exact rt_v X hr hlk hK hP hD hS d_K_fork_24
  unfold tc_K_fork at hf
  refine lv_aload_n hx hb d_K_fork_0 rfl (lv_at hl 0 rfl) ?_
  obtain ⟨z11, hz11, hf⟩ := op_b hf
  refine cf_q (ws2 := (ck_ aK aQ aL aA tk aY aB aG aS cI cT kr uz ul ks kv kz ku cb ga gb gd gc gx gy gu gs gp qa qb qd qc qx qy qu qs qp)) X cx_K_137 hK hP hD hS hA hZ hl (c_tc_K_leastFree (aK := aK) (aQ := aQ) (aL := aL) (aA := aA) (tk := tk) (aY := aY) (aB := aB) (aG := aG) (aS := aS) (kr := kr) (uz := uz) (ul := ul) (ks := ks) (kv := kv) (kz := kz) (ku := ku) (cb := cb) (ga := ga) (gb := gb) (gd := gd) (gc := gc) (gx := gx) (gy := gy) (gu := gu) (gs := gs) (gp := gp) (qa := qa) (qb := qb) (qd := qd) (qc := qc) (qx := qx) (qy := qy) (qu := qu) (qs := qs) (qp := qp) hz11) ⟨rfl, rfl, Nat.le_of_ble_eq_true rfl, Nat.le_of_ble_eq_true rfl⟩ [0, 1, 2, 3, 4, 5, 6, 7, 8, 9, 10, 11] [] [0, 1, 2, 3, 4, 5, 6, 7, 8, 9, 10, 11] rfl rfl rfl rfl (by decide) rfl rfl 0 rfl rfl rfl rfl rfl (Nat.le_of_ble_eq_true rfl) d_K_fork_1 (fun H locs hP hD hS => ?_)
  refine lo_astore (ro := Option.map tk z11) hx hb d_K_fork_4 hl (by decide) rfl (fun ls hl => ?_)
  have hl : lv_has ls 5 [(4, va_rf (Option.map tk z11)), (0, .ref aK), (1, .ref (tk x1)), (2, .int x2), (3, .int x3)] := hl
  refine lo_aload (ro := Option.map tk z11) hx hb d_K_fork_6 (lv_at hl 0 rfl) ?_
  rcases op_n hf with ⟨ho13, hf⟩ | ⟨i12, ho13, hf⟩
  · rw [show va_rf (Option.map tk z11) = Value.null from by rw [ho13]; rfl]
    refine lv_ifnullN (tgt := 18) hx hb d_K_fork_8 (by decide) ?_
    exact J18 x1 uz ul ks kv cb qa qb qd qc qx qy qu qs qp hf _ _ _ (lv_sub hl [1, 2] rfl) hP hD hS
  · rw [show va_rf (Option.map tk z11) = Value.ref (tk i12) from by rw [ho13]; rfl]
    refine lv_ifnull hx hb d_K_fork_8 ?_
    refine lv_iload_n hx hb d_K_fork_11 rfl (lv_at hl 3 rfl) ?_
    refine lv_sipush (v := (128 : Int32)) hx hb d_K_fork_12 (by decide) ?_
    refine lv_icmp_lt (tgt := 25) hx hb d_K_fork_15 (by decide) (fun hc => ?_) (fun hc => ?_)
    · replace hf := (if_pos hc).symm.trans hf
      refine lv_aload_n hx hb d_K_fork_25 rfl (lv_at hl 1 rfl) ?_
      refine ck_g_K_memory_K X hK hP d_K_fork_26 ?_
      refine lv_aload_n hx hb d_K_fork_29 rfl (lv_at hl 2 rfl) ?_
      obtain ⟨ht14, hf⟩ := op_t hf
      refine ck_tg_number_K X hK hP ht14 d_K_fork_30 ?_
      refine lo_aload (ro := Option.map tk z11) hx hb d_K_fork_33 (lv_at hl 0 rfl) ?_
      rw [show va_rf (Option.map tk z11) = Value.ref (tk i12) from by rw [ho13]; rfl]
      obtain ⟨ht15, hf⟩ := op_t hf
      refine ck_tg_number_K X hK hP ht15 d_K_fork_35 ?_
      obtain ⟨z16, hz16, hf⟩ := op_b hf
      refine cf_v (ws2 := (ck_ aK aQ aL aA tk aY aB aG aS cI cT kr uz ul ks kv kz ku z16 ga gb gd gc gx gy gu gs gp qa qb qd qc qx qy qu qs qp)) X cx_K_140 hK hP hD hS hA hZ hl (c_tc_Y_copyBlock (aY := aY) (aB := aB) (cb := cb) hz16) ⟨rfl, rfl, Nat.le_of_ble_eq_true rfl, Nat.le_of_ble_eq_true rfl⟩ [8, 9] [0, 1, 2, 3, 4, 5, 6, 7, 10, 11] [0, 1, 2, 3, 4, 5, 6, 7, 10, 11, 8, 9] rfl rfl rfl rfl (by decide) rfl rfl 0 rfl rfl rfl rfl rfl (Nat.le_of_ble_eq_true rfl) d_K_fork_38 (fun H locs hP hD hS => ?_)
      refine lv_aload_n hx hb d_K_fork_41 rfl (lv_at hl 1 rfl) ?_
      refine lo_aload (ro := Option.map tk z11) hx hb d_K_fork_42 (lv_at hl 0 rfl) ?_
      refine lv_sipush (v := (128 : Int32)) hx hb d_K_fork_44 (by decide) ?_
      refine lo_aload (ro := Option.map tk z11) hx hb d_K_fork_47 (lv_at hl 0 rfl) ?_
      rw [show va_rf (Option.map tk z11) = Value.ref (tk i12) from by rw [ho13]; rfl]
      refine ck_tg_number_K X hK hP ht15 d_K_fork_49 ?_
      refine lv_imul hx hb d_K_fork_52 ?_
      refine lv_iload_n hx hb d_K_fork_53 rfl (lv_at hl 3 rfl) ?_
      refine lv_iadd hx hb d_K_fork_54 ?_
      refine lv_iload_n hx hb d_K_fork_55 rfl (lv_at hl 4 rfl) ?_
      obtain ⟨z17, hz17, hf⟩ := op_b hf
      refine cf_v (ws2 := (ck_ aK aQ aL aA tk aY aB aG aS cI cT kr z17.1 z17.2.1 z17.2.2.1 z17.2.2.2.1 kz ku z17.2.2.2.2.1 ga gb gd gc gx gy gu gs gp z17.2.2.2.2.2.1 z17.2.2.2.2.2.2.1 z17.2.2.2.2.2.2.2.1 z17.2.2.2.2.2.2.2.2.1 z17.2.2.2.2.2.2.2.2.2.1 z17.2.2.2.2.2.2.2.2.2.2.1 z17.2.2.2.2.2.2.2.2.2.2.2.1 z17.2.2.2.2.2.2.2.2.2.2.2.2.1 z17.2.2.2.2.2.2.2.2.2.2.2.2.2)) X cx_K_144 hK hP hD hS hA hZ hl (c_tc_K_begin (aK := aK) (aQ := aQ) (aL := aL) (aA := aA) (tk := tk) (aY := aY) (aB := aB) (aG := aG) (aS := aS) (kr := kr) (uz := uz) (ul := ul) (ks := ks) (kv := kv) (kz := kz) (ku := ku) (cb := z16) (ga := ga) (gb := gb) (gd := gd) (gc := gc) (gx := gx) (gy := gy) (gu := gu) (gs := gs) (gp := gp) (qa := qa) (qb := qb) (qd := qd) (qc := qc) (qx := qx) (qy := qy) (qu := qu) (qs := qs) (qp := qp) hz17) ⟨rfl, rfl, Nat.le_of_ble_eq_true rfl, Nat.le_of_ble_eq_true rfl⟩ [0, 1, 2, 3, 4, 5, 6, 7, 8, 9, 10, 11] [] [0, 1, 2, 3, 4, 5, 6, 7, 8, 9, 10, 11] rfl rfl rfl rfl (by decide) rfl rfl 0 rfl rfl rfl rfl rfl (Nat.le_of_ble_eq_true rfl) d_K_fork_56 (fun H locs hP hD hS => ?_)
      refine lv_aload_n hx hb d_K_fork_59 rfl (lv_at hl 1 rfl) ?_
      refine lv_aload_n hx hb d_K_fork_60 rfl (lv_at hl 2 rfl) ?_
      refine lo_aload (ro := Option.map tk z11) hx hb d_K_fork_61 (lv_at hl 0 rfl) ?_
      rw [show va_rf (Option.map tk z11) = Value.ref (tk i12) from by rw [ho13]; rfl]
      refine ck_tg_number_K X hK hP ht15 d_K_fork_63 ?_
      obtain ⟨z18, hz18, hf⟩ := op_b hf
      refine cf_v (ws2 := (ck_ aK aQ aL aA tk aY aB aG aS cI cT kr z17.1 z17.2.1 z17.2.2.1 z17.2.2.2.1 kz ku z18 ga gb gd gc gx gy gu gs gp z17.2.2.2.2.2.1 z17.2.2.2.2.2.2.1 z17.2.2.2.2.2.2.2.1 z17.2.2.2.2.2.2.2.2.1 z17.2.2.2.2.2.2.2.2.2.1 z17.2.2.2.2.2.2.2.2.2.2.1 z17.2.2.2.2.2.2.2.2.2.2.2.1 z17.2.2.2.2.2.2.2.2.2.2.2.2.1 z17.2.2.2.2.2.2.2.2.2.2.2.2.2)) X cx_K_131 hK hP hD hS hA hZ hl (c_tc_K_succeed (aK := aK) (aQ := aQ) (aL := aL) (aA := aA) (tk := tk) (aY := aY) (aB := aB) (aG := aG) (aS := aS) (kr := kr) (uz := z17.1) (ul := z17.2.1) (ks := z17.2.2.1) (kv := z17.2.2.2.1) (kz := kz) (ku := ku) (cb := z17.2.2.2.2.1) (ga := ga) (gb := gb) (gd := gd) (gc := gc) (gx := gx) (gy := gy) (gu := gu) (gs := gs) (gp := gp) (qa := z17.2.2.2.2.2.1) (qb := z17.2.2.2.2.2.2.1) (qd := z17.2.2.2.2.2.2.2.1) (qc := z17.2.2.2.2.2.2.2.2.1) (qx := z17.2.2.2.2.2.2.2.2.2.1) (qy := z17.2.2.2.2.2.2.2.2.2.2.1) (qu := z17.2.2.2.2.2.2.2.2.2.2.2.1) (qs := z17.2.2.2.2.2.2.2.2.2.2.2.2.1) (qp := z17.2.2.2.2.2.2.2.2.2.2.2.2.2) hz18) ⟨rfl, rfl, Nat.le_of_ble_eq_true rfl, Nat.le_of_ble_eq_true rfl⟩ [0, 1, 2, 3, 4, 5, 6, 7, 8, 9, 10, 11] [] [0, 1, 2, 3, 4, 5, 6, 7, 8, 9, 10, 11] rfl rfl rfl rfl (by decide) rfl rfl 0 rfl rfl rfl rfl rfl (Nat.le_of_ble_eq_true rfl) d_K_fork_66 (fun H locs hP hD hS => ?_)
      have hq := Option.some.inj hf
      subst hq
      exact rt_v X hr hlk hK hP hD hS d_K_fork_69
    · replace hf := (if_neg hc).symm.trans hf
      exact J18 x1 uz ul ks kv cb qa qb qd qc qx qy qu qs qp hf _ _ _ (lv_sub hl [1, 2] rfl) hP hD hS
set_option maxHeartbeats 4000000 in
set_option maxRecDepth 100000 in
theorem c_tc_K_putToSleep {x1 : Nat} {x2 : Int32} {z : Int32 × (Nat → Option Nat) × (Nat → Int32) × (Nat → Int32)} (hf : tc_K_putToSleep x1 x2 uz ul ks kz = some z) : cs_v l my_K_putToSleep mb_K_putToSleep 3 rm_c_K_putToSleep D (ty_ cI cT) [.ref aK, .ref (tk x1), .int x2] (ck_ aK aQ aL aA tk aY aB aG aS cI cT kr uz ul ks kv kz ku cb ga gb gd gc gx gy gu gs gp qa qb qd qc qx qy qu qs qp) (ck_ aK aQ aL aA tk aY aB aG aS cI cT kr z.1 z.2.1 z.2.2.1 kv z.2.2.2 ku cb ga gb gd gc gx gy gu gs gp qa qb qd qc qx qy qu qs qp) := by
  refine cs_v_of (by decide) (Nat.le_of_ble_eq_true rfl) ?_
  intro p e s m below meth c A ls X hr hlk hK hP hD hS hA hZ hl
  have hx := X.1
  have hb := X.2.1
  have hl : lv_has ls 3 [(0, .ref aK), (1, .ref (tk x1)), (2, .int x2)] := hl
  unfold tc_K_putToSleep at hf
  refine lv_iload_n hx hb d_K_putToSleep_0 rfl (lv_at hl 2 rfl) ?_
  refine lv_if_ne (tgt := 12) hx hb d_K_putToSleep_1 (by decide) (fun hc => ?_) (fun hc => ?_)
  · replace hf := (if_neg hc).symm.trans hf
    refine lv_aload_n hx hb d_K_putToSleep_12 rfl (lv_at hl 1 rfl) ?_
    refine lv_iconst (v := (3 : Int32)) hx hb d_K_putToSleep_13 (by decide) ?_
    obtain ⟨ht3, hf⟩ := op_t hf
    refine ck_tp_state_K (x := (3 : Int32)) X hK hP hD hS ht3 d_K_putToSleep_14 (fun H locs hP hD hS => ?_)
    refine lv_aload_n hx hb d_K_putToSleep_17 rfl (lv_at hl 1 rfl) ?_
    refine lv_iload_n hx hb d_K_putToSleep_18 rfl (lv_at hl 2 rfl) ?_
    refine ck_tp_sleep_K (x := x2) X hK hP hD hS ht3 d_K_putToSleep_19 (fun H locs hP hD hS => ?_)
    have hq := Option.some.inj hf
    subst hq
    exact rt_v X hr hlk hK hP hD hS d_K_putToSleep_22
  · replace hf := (if_pos hc).symm.trans hf
    refine lv_aload_n hx hb d_K_putToSleep_4 rfl (lv_at hl 0 rfl) ?_
    refine lv_aload_n hx hb d_K_putToSleep_5 rfl (lv_at hl 1 rfl) ?_
    obtain ⟨z4, hz4, hf⟩ := op_b hf
    refine cf_v (ws2 := (ck_ aK aQ aL aA tk aY aB aG aS cI cT kr z4.1 z4.2.1 z4.2.2 kv kz ku cb ga gb gd gc gx gy gu gs gp qa qb qd qc qx qy qu qs qp)) X cx_K_85 hK hP hD hS hA hZ hl (c_tc_K_makeReady (aK := aK) (aQ := aQ) (aL := aL) (aA := aA) (tk := tk) (aY := aY) (aB := aB) (aG := aG) (aS := aS) (kr := kr) (uz := uz) (ul := ul) (ks := ks) (kv := kv) (kz := kz) (ku := ku) (cb := cb) (ga := ga) (gb := gb) (gd := gd) (gc := gc) (gx := gx) (gy := gy) (gu := gu) (gs := gs) (gp := gp) (qa := qa) (qb := qb) (qd := qd) (qc := qc) (qx := qx) (qy := qy) (qu := qu) (qs := qs) (qp := qp) hz4) ⟨rfl, rfl, Nat.le_of_ble_eq_true rfl, Nat.le_of_ble_eq_true rfl⟩ [0, 1, 2, 3, 4, 5, 6, 7, 8, 9, 10, 11] [] [0, 1, 2, 3, 4, 5, 6, 7, 8, 9, 10, 11] rfl rfl rfl rfl (by decide) rfl rfl 0 rfl rfl rfl rfl rfl (Nat.le_of_ble_eq_true rfl) d_K_putToSleep_6 (fun H locs hP hD hS => ?_)
    refine lv_goto (tgt := 22) hx hb d_K_putToSleep_9 (by decide) ?_
    have hq := Option.some.inj hf
    subst hq
    exact rt_v X hr hlk hK hP hD hS d_K_putToSleep_22
set_option maxHeartbeats 4000000 in
set_option maxRecDepth 100000 in
theorem c_tc_K_answer {x1 : Nat} {x2 : Int32} {z : (Option Nat) × Int32 × (Nat → Option Nat) × (Nat → Int32) × (Nat → Int32) × (Nat → Int32) × (Nat → Int32) × (Nat → Int32) × Int32 × Int32 × Int32 × Int32 × Int32 × Int32 × Int32 × Int32 × Int32 × Int32 × Int32 × Int32 × Int32 × Int32 × Int32 × Int32 × Int32 × Int32} (hf : tc_K_answer x1 x2 kr uz ul ks kv kz ku cb ga gb gd gc gx gy gu gs gp qa qb qd qc qx qy qu qs qp = some z) : cs_v l my_K_answer mb_K_answer 5 rm_c_K_answer D (ty_ cI cT) [.ref aK, .ref (tk x1), .int x2] (ck_ aK aQ aL aA tk aY aB aG aS cI cT kr uz ul ks kv kz ku cb ga gb gd gc gx gy gu gs gp qa qb qd qc qx qy qu qs qp) (ck_ aK aQ aL aA tk aY aB aG aS cI cT z.1 z.2.1 z.2.2.1 z.2.2.2.1 z.2.2.2.2.1 z.2.2.2.2.2.1 z.2.2.2.2.2.2.1 z.2.2.2.2.2.2.2.1 z.2.2.2.2.2.2.2.2.1 z.2.2.2.2.2.2.2.2.2.1 z.2.2.2.2.2.2.2.2.2.2.1 z.2.2.2.2.2.2.2.2.2.2.2.1 z.2.2.2.2.2.2.2.2.2.2.2.2.1 z.2.2.2.2.2.2.2.2.2.2.2.2.2.1 z.2.2.2.2.2.2.2.2.2.2.2.2.2.2.1 z.2.2.2.2.2.2.2.2.2.2.2.2.2.2.2.1 z.2.2.2.2.2.2.2.2.2.2.2.2.2.2.2.2.1 z.2.2.2.2.2.2.2.2.2.2.2.2.2.2.2.2.2.1 z.2.2.2.2.2.2.2.2.2.2.2.2.2.2.2.2.2.2.1 z.2.2.2.2.2.2.2.2.2.2.2.2.2.2.2.2.2.2.2.1 z.2.2.2.2.2.2.2.2.2.2.2.2.2.2.2.2.2.2.2.2.1 z.2.2.2.2.2.2.2.2.2.2.2.2.2.2.2.2.2.2.2.2.2.1 z.2.2.2.2.2.2.2.2.2.2.2.2.2.2.2.2.2.2.2.2.2.2.1 z.2.2.2.2.2.2.2.2.2.2.2.2.2.2.2.2.2.2.2.2.2.2.2.1 z.2.2.2.2.2.2.2.2.2.2.2.2.2.2.2.2.2.2.2.2.2.2.2.2.1 z.2.2.2.2.2.2.2.2.2.2.2.2.2.2.2.2.2.2.2.2.2.2.2.2.2) := by
  refine cs_v_of (by decide) (Nat.le_of_ble_eq_true rfl) ?_
  intro p e s m below meth c A ls X hr hlk hK hP hD hS hA hZ hl
  have hx := X.1
  have hb := X.2.1
  have hl : lv_has ls 5 [(0, .ref aK), (1, .ref (tk x1)), (2, .int x2)] := hl
  unfold tc_K_answer at hf
  refine lv_aload_n hx hb d_K_answer_0 rfl (lv_at hl 0 rfl) ?_
  refine ck_g_K_registers_K X hK hP d_K_answer_1 ?_
  refine ck_g_G_x_K X hK hP d_K_answer_4 ?_
  refine lv_istore_n hx hb d_K_answer_7 rfl hl (by decide) rfl (fun ls hl => ?_)
  have hl : lv_has ls 5 [(3, .int gx), (0, .ref aK), (1, .ref (tk x1)), (2, .int x2)] := hl
  refine lv_aload_n hx hb d_K_answer_8 rfl (lv_at hl 1 rfl) ?_
  refine ck_g_K_registers_K X hK hP d_K_answer_9 ?_
  refine ck_g_G_a_K X hK hP d_K_answer_12 ?_
  refine lv_istore hx hb d_K_answer_15 hl (by decide) rfl (fun ls hl => ?_)
  have hl : lv_has ls 5 [(4, .int ga), (3, .int gx), (0, .ref aK), (1, .ref (tk x1)), (2, .int x2)] := hl
  refine lv_aload_n hx hb d_K_answer_17 rfl (lv_at hl 2 rfl) ?_
  refine lv_aload_n hx hb d_K_answer_18 rfl (lv_at hl 3 rfl) ?_
  refine lv_aload_n hx hb d_K_answer_19 rfl (lv_at hl 2 rfl) ?_
  refine ck_g_K_registers_K X hK hP d_K_answer_20 ?_
  obtain ⟨z11, hz11, hf⟩ := op_b hf
  refine cf_v (ws2 := (ck_ aK aQ aL aA tk aY aB aG aS cI cT kr uz ul ks z11.1 kz ku z11.2.1 z11.2.2.1 z11.2.2.2.1 z11.2.2.2.2.1 z11.2.2.2.2.2.1 z11.2.2.2.2.2.2.1 z11.2.2.2.2.2.2.2.1 z11.2.2.2.2.2.2.2.2.1 z11.2.2.2.2.2.2.2.2.2.1 z11.2.2.2.2.2.2.2.2.2.2 qa qb qd qc qx qy qu qs qp)) X cx_K_82 hK hP hD hS hA hZ hl (c_tc_K_stack_G (aK := aK) (aQ := aQ) (aL := aL) (aA := aA) (tk := tk) (aY := aY) (aB := aB) (aG := aG) (aS := aS) (kr := kr) (uz := uz) (ul := ul) (ks := ks) (kv := kv) (kz := kz) (ku := ku) (cb := cb) (ga := ga) (gb := gb) (gd := gd) (gc := gc) (gx := gx) (gy := gy) (gu := gu) (gs := gs) (gp := gp) (qa := qa) (qb := qb) (qd := qd) (qc := qc) (qx := qx) (qy := qy) (qu := qu) (qs := qs) (qp := qp) hz11) ⟨rfl, rfl, Nat.le_of_ble_eq_true rfl, Nat.le_of_ble_eq_true rfl⟩ [0, 1, 2, 3, 4, 5, 6, 7, 8, 9, 10, 11] [] [0, 1, 2, 3, 4, 5, 6, 7, 8, 9, 10, 11] rfl rfl rfl rfl (by decide) rfl rfl 0 rfl rfl rfl rfl rfl (Nat.le_of_ble_eq_true rfl) d_K_answer_23 (fun H locs hP hD hS => ?_)
  refine lv_aload_n hx hb d_K_answer_26 rfl (lv_at hl 2 rfl) ?_
  refine lv_null hx hb d_K_answer_27 ?_
  refine ck_p_K_running_K (x := none) X hK hP hD hS d_K_answer_28 (fun H locs hP hD hS => ?_)
  refine lv_iload_n hx hb d_K_answer_31 rfl (lv_at hl 4 rfl) ?_
  by_cases hk12 : x2 = (1 : Int32)
  · replace hf := (if_pos hk12).symm.trans hf
    refine lv_tableIn (tgt := 64) (off := 32) hx hb d_K_answer_32 (by rw [hk12]; decide) (by rw [hk12]; decide) (by rw [hk12]; rfl) (by decide) ?_
    refine lv_aload_n hx hb d_K_answer_64 rfl (lv_at hl 2 rfl) ?_
    refine lv_aload_n hx hb d_K_answer_65 rfl (lv_at hl 3 rfl) ?_
    refine lv_iload_n hx hb d_K_answer_66 rfl (lv_at hl 1 rfl) ?_
    refine lv_iload hx hb d_K_answer_67 (lv_at hl 0 rfl) ?_
    obtain ⟨z13, hz13, hf⟩ := op_b hf
    refine cf_v (ws2 := (ck_ aK aQ aL aA tk aY aB aG aS cI cT none z13.1 z13.2.1 z13.2.2.1 z13.2.2.2.1 kz ku z13.2.2.2.2.1 z11.2.2.1 z11.2.2.2.1 z11.2.2.2.2.1 z11.2.2.2.2.2.1 z11.2.2.2.2.2.2.1 z11.2.2.2.2.2.2.2.1 z11.2.2.2.2.2.2.2.2.1 z11.2.2.2.2.2.2.2.2.2.1 z11.2.2.2.2.2.2.2.2.2.2 z13.2.2.2.2.2.1 z13.2.2.2.2.2.2.1 z13.2.2.2.2.2.2.2.1 z13.2.2.2.2.2.2.2.2.1 z13.2.2.2.2.2.2.2.2.2.1 z13.2.2.2.2.2.2.2.2.2.2.1 z13.2.2.2.2.2.2.2.2.2.2.2.1 z13.2.2.2.2.2.2.2.2.2.2.2.2.1 z13.2.2.2.2.2.2.2.2.2.2.2.2.2)) X cx_K_124 hK hP hD hS hA hZ hl (c_tc_K_fork (aK := aK) (aQ := aQ) (aL := aL) (aA := aA) (tk := tk) (aY := aY) (aB := aB) (aG := aG) (aS := aS) (kr := none) (uz := uz) (ul := ul) (ks := ks) (kv := z11.1) (kz := kz) (ku := ku) (cb := z11.2.1) (ga := z11.2.2.1) (gb := z11.2.2.2.1) (gd := z11.2.2.2.2.1) (gc := z11.2.2.2.2.2.1) (gx := z11.2.2.2.2.2.2.1) (gy := z11.2.2.2.2.2.2.2.1) (gu := z11.2.2.2.2.2.2.2.2.1) (gs := z11.2.2.2.2.2.2.2.2.2.1) (gp := z11.2.2.2.2.2.2.2.2.2.2) (qa := qa) (qb := qb) (qd := qd) (qc := qc) (qx := qx) (qy := qy) (qu := qu) (qs := qs) (qp := qp) hz13) ⟨rfl, rfl, Nat.le_of_ble_eq_true rfl, Nat.le_of_ble_eq_true rfl⟩ [0, 1, 2, 3, 4, 5, 6, 7, 8, 9, 10, 11] [] [0, 1, 2, 3, 4, 5, 6, 7, 8, 9, 10, 11] rfl rfl rfl rfl (by decide) rfl rfl 0 rfl rfl rfl rfl rfl (Nat.le_of_ble_eq_true rfl) d_K_answer_69 (fun H locs hP hD hS => ?_)
    refine lv_aload_n hx hb d_K_answer_72 rfl (lv_at hl 2 rfl) ?_
    refine lv_aload_n hx hb d_K_answer_73 rfl (lv_at hl 3 rfl) ?_
    obtain ⟨z14, hz14, hf⟩ := op_b hf
    refine cf_v (ws2 := (ck_ aK aQ aL aA tk aY aB aG aS cI cT z14.1 z13.1 z13.2.1 z14.2.1 z13.2.2.2.1 kz ku z13.2.2.2.2.1 z14.2.2.1 z14.2.2.2.1 z14.2.2.2.2.1 z14.2.2.2.2.2.1 z14.2.2.2.2.2.2.1 z14.2.2.2.2.2.2.2.1 z14.2.2.2.2.2.2.2.2.1 z14.2.2.2.2.2.2.2.2.2.1 z14.2.2.2.2.2.2.2.2.2.2 z13.2.2.2.2.2.1 z13.2.2.2.2.2.2.1 z13.2.2.2.2.2.2.2.1 z13.2.2.2.2.2.2.2.2.1 z13.2.2.2.2.2.2.2.2.2.1 z13.2.2.2.2.2.2.2.2.2.2.1 z13.2.2.2.2.2.2.2.2.2.2.2.1 z13.2.2.2.2.2.2.2.2.2.2.2.2.1 z13.2.2.2.2.2.2.2.2.2.2.2.2.2)) X cx_K_102 hK hP hD hS hA hZ hl (c_tc_K_resume (aK := aK) (aQ := aQ) (aL := aL) (aA := aA) (tk := tk) (aY := aY) (aB := aB) (aG := aG) (aS := aS) (kr := none) (uz := z13.1) (ul := z13.2.1) (ks := z13.2.2.1) (kv := z13.2.2.2.1) (kz := kz) (ku := ku) (cb := z13.2.2.2.2.1) (ga := z11.2.2.1) (gb := z11.2.2.2.1) (gd := z11.2.2.2.2.1) (gc := z11.2.2.2.2.2.1) (gx := z11.2.2.2.2.2.2.1) (gy := z11.2.2.2.2.2.2.2.1) (gu := z11.2.2.2.2.2.2.2.2.1) (gs := z11.2.2.2.2.2.2.2.2.2.1) (gp := z11.2.2.2.2.2.2.2.2.2.2) (qa := z13.2.2.2.2.2.1) (qb := z13.2.2.2.2.2.2.1) (qd := z13.2.2.2.2.2.2.2.1) (qc := z13.2.2.2.2.2.2.2.2.1) (qx := z13.2.2.2.2.2.2.2.2.2.1) (qy := z13.2.2.2.2.2.2.2.2.2.2.1) (qu := z13.2.2.2.2.2.2.2.2.2.2.2.1) (qs := z13.2.2.2.2.2.2.2.2.2.2.2.2.1) (qp := z13.2.2.2.2.2.2.2.2.2.2.2.2.2) hz14) ⟨rfl, rfl, Nat.le_of_ble_eq_true rfl, Nat.le_of_ble_eq_true rfl⟩ [0, 1, 2, 3, 4, 5, 6, 7, 8, 9, 10, 11] [] [0, 1, 2, 3, 4, 5, 6, 7, 8, 9, 10, 11] rfl rfl rfl rfl (by decide) rfl rfl 0 rfl rfl rfl rfl rfl (Nat.le_of_ble_eq_true rfl) d_K_answer_74 (fun H locs hP hD hS => ?_)
    refine lv_goto (tgt := 127) hx hb d_K_answer_77 (by decide) ?_
    have hq := Option.some.inj hf
    subst hq
    exact rt_v X hr hlk hK hP hD hS d_K_answer_127
  · replace hf := (if_neg hk12).symm.trans hf
    by_cases hk15 : x2 = (2 : Int32)
    · replace hf := (if_pos hk15).symm.trans hf
      refine lv_tableIn (tgt := 80) (off := 48) hx hb d_K_answer_32 (by rw [hk15]; decide) (by rw [hk15]; decide) (by rw [hk15]; rfl) (by decide) ?_
      refine lv_aload_n hx hb d_K_answer_80 rfl (lv_at hl 2 rfl) ?_
      refine lv_aload_n hx hb d_K_answer_81 rfl (lv_at hl 3 rfl) ?_
      refine lv_iload_n hx hb d_K_answer_82 rfl (lv_at hl 1 rfl) ?_
      obtain ⟨z16, hz16, hf⟩ := op_b hf
      refine cf_v (ws2 := (ck_ aK aQ aL aA tk aY aB aG aS cI cT none z16.1 z16.2.1 z16.2.2.1 z11.1 z16.2.2.2 ku z11.2.1 z11.2.2.1 z11.2.2.2.1 z11.2.2.2.2.1 z11.2.2.2.2.2.1 z11.2.2.2.2.2.2.1 z11.2.2.2.2.2.2.2.1 z11.2.2.2.2.2.2.2.2.1 z11.2.2.2.2.2.2.2.2.2.1 z11.2.2.2.2.2.2.2.2.2.2 qa qb qd qc qx qy qu qs qp)) X cx_K_128 hK hP hD hS hA hZ hl (c_tc_K_putToSleep (aK := aK) (aQ := aQ) (aL := aL) (aA := aA) (tk := tk) (aY := aY) (aB := aB) (aG := aG) (aS := aS) (kr := none) (uz := uz) (ul := ul) (ks := ks) (kv := z11.1) (kz := kz) (ku := ku) (cb := z11.2.1) (ga := z11.2.2.1) (gb := z11.2.2.2.1) (gd := z11.2.2.2.2.1) (gc := z11.2.2.2.2.2.1) (gx := z11.2.2.2.2.2.2.1) (gy := z11.2.2.2.2.2.2.2.1) (gu := z11.2.2.2.2.2.2.2.2.1) (gs := z11.2.2.2.2.2.2.2.2.2.1) (gp := z11.2.2.2.2.2.2.2.2.2.2) (qa := qa) (qb := qb) (qd := qd) (qc := qc) (qx := qx) (qy := qy) (qu := qu) (qs := qs) (qp := qp) hz16) ⟨rfl, rfl, Nat.le_of_ble_eq_true rfl, Nat.le_of_ble_eq_true rfl⟩ [0, 1, 2, 3, 4, 5, 6, 7, 8, 9, 10, 11] [] [0, 1, 2, 3, 4, 5, 6, 7, 8, 9, 10, 11] rfl rfl rfl rfl (by decide) rfl rfl 0 rfl rfl rfl rfl rfl (Nat.le_of_ble_eq_true rfl) d_K_answer_83 (fun H locs hP hD hS => ?_)
      refine lv_goto (tgt := 127) hx hb d_K_answer_86 (by decide) ?_
      have hq := Option.some.inj hf
      subst hq
      exact rt_v X hr hlk hK hP hD hS d_K_answer_127
    · replace hf := (if_neg hk15).symm.trans hf
      by_cases hk17 : x2 = (3 : Int32)
      · replace hf := (if_pos hk17).symm.trans hf
        refine lv_tableIn (tgt := 89) (off := 57) hx hb d_K_answer_32 (by rw [hk17]; decide) (by rw [hk17]; decide) (by rw [hk17]; rfl) (by decide) ?_
        refine lv_aload_n hx hb d_K_answer_89 rfl (lv_at hl 2 rfl) ?_
        refine lv_aload_n hx hb d_K_answer_90 rfl (lv_at hl 3 rfl) ?_
        refine lv_iload hx hb d_K_answer_91 (lv_at hl 0 rfl) ?_
        obtain ⟨z18, hz18, hf⟩ := op_b hf
        refine cf_v (ws2 := (ck_ aK aQ aL aA tk aY aB aG aS cI cT z18.1 z18.2.1 z18.2.2.1 z18.2.2.2.1 z11.1 kz z18.2.2.2.2 z11.2.1 z11.2.2.1 z11.2.2.2.1 z11.2.2.2.2.1 z11.2.2.2.2.2.1 z11.2.2.2.2.2.2.1 z11.2.2.2.2.2.2.2.1 z11.2.2.2.2.2.2.2.2.1 z11.2.2.2.2.2.2.2.2.2.1 z11.2.2.2.2.2.2.2.2.2.2 qa qb qd qc qx qy qu qs qp)) X cx_K_117 hK hP hD hS hA hZ hl (c_tc_K_end (aK := aK) (aQ := aQ) (aL := aL) (aA := aA) (tk := tk) (aY := aY) (aB := aB) (aG := aG) (aS := aS) (kr := none) (uz := uz) (ul := ul) (ks := ks) (kv := z11.1) (kz := kz) (ku := ku) (cb := z11.2.1) (ga := z11.2.2.1) (gb := z11.2.2.2.1) (gd := z11.2.2.2.2.1) (gc := z11.2.2.2.2.2.1) (gx := z11.2.2.2.2.2.2.1) (gy := z11.2.2.2.2.2.2.2.1) (gu := z11.2.2.2.2.2.2.2.2.1) (gs := z11.2.2.2.2.2.2.2.2.2.1) (gp := z11.2.2.2.2.2.2.2.2.2.2) (qa := qa) (qb := qb) (qd := qd) (qc := qc) (qx := qx) (qy := qy) (qu := qu) (qs := qs) (qp := qp) hz18) ⟨rfl, rfl, Nat.le_of_ble_eq_true rfl, Nat.le_of_ble_eq_true rfl⟩ [0, 1, 2, 3, 4, 5, 6, 7, 8, 9, 10, 11] [] [0, 1, 2, 3, 4, 5, 6, 7, 8, 9, 10, 11] rfl rfl rfl rfl (by decide) rfl rfl 0 rfl rfl rfl rfl rfl (Nat.le_of_ble_eq_true rfl) d_K_answer_93 (fun H locs hP hD hS => ?_)
        refine lv_goto (tgt := 127) hx hb d_K_answer_96 (by decide) ?_
        have hq := Option.some.inj hf
        subst hq
        exact rt_v X hr hlk hK hP hD hS d_K_answer_127
      · replace hf := (if_neg hk17).symm.trans hf
        by_cases hk19 : x2 = (4 : Int32)
        · replace hf := (if_pos hk19).symm.trans hf
          refine lv_tableIn (tgt := 99) (off := 67) hx hb d_K_answer_32 (by rw [hk19]; decide) (by rw [hk19]; decide) (by rw [hk19]; rfl) (by decide) ?_
          refine lv_aload_n hx hb d_K_answer_99 rfl (lv_at hl 2 rfl) ?_
          refine lv_aload_n hx hb d_K_answer_100 rfl (lv_at hl 3 rfl) ?_
          refine lv_aload_n hx hb d_K_answer_101 rfl (lv_at hl 3 rfl) ?_
          obtain ⟨ht20, hf⟩ := op_t hf
          refine ck_tg_number_K X hK hP ht20 d_K_answer_102 ?_
          obtain ⟨z21, hz21, hf⟩ := op_b hf
          refine cf_v (ws2 := (ck_ aK aQ aL aA tk aY aB aG aS cI cT none uz ul ks z11.1 kz ku z21 z11.2.2.1 z11.2.2.2.1 z11.2.2.2.2.1 z11.2.2.2.2.2.1 z11.2.2.2.2.2.2.1 z11.2.2.2.2.2.2.2.1 z11.2.2.2.2.2.2.2.2.1 z11.2.2.2.2.2.2.2.2.2.1 z11.2.2.2.2.2.2.2.2.2.2 qa qb qd qc qx qy qu qs qp)) X cx_K_131 hK hP hD hS hA hZ hl (c_tc_K_succeed (aK := aK) (aQ := aQ) (aL := aL) (aA := aA) (tk := tk) (aY := aY) (aB := aB) (aG := aG) (aS := aS) (kr := none) (uz := uz) (ul := ul) (ks := ks) (kv := z11.1) (kz := kz) (ku := ku) (cb := z11.2.1) (ga := z11.2.2.1) (gb := z11.2.2.2.1) (gd := z11.2.2.2.2.1) (gc := z11.2.2.2.2.2.1) (gx := z11.2.2.2.2.2.2.1) (gy := z11.2.2.2.2.2.2.2.1) (gu := z11.2.2.2.2.2.2.2.2.1) (gs := z11.2.2.2.2.2.2.2.2.2.1) (gp := z11.2.2.2.2.2.2.2.2.2.2) (qa := qa) (qb := qb) (qd := qd) (qc := qc) (qx := qx) (qy := qy) (qu := qu) (qs := qs) (qp := qp) hz21) ⟨rfl, rfl, Nat.le_of_ble_eq_true rfl, Nat.le_of_ble_eq_true rfl⟩ [0, 1, 2, 3, 4, 5, 6, 7, 8, 9, 10, 11] [] [0, 1, 2, 3, 4, 5, 6, 7, 8, 9, 10, 11] rfl rfl rfl rfl (by decide) rfl rfl 0 rfl rfl rfl rfl rfl (Nat.le_of_ble_eq_true rfl) d_K_answer_105 (fun H locs hP hD hS => ?_)
          refine lv_aload_n hx hb d_K_answer_108 rfl (lv_at hl 2 rfl) ?_
          refine lv_aload_n hx hb d_K_answer_109 rfl (lv_at hl 3 rfl) ?_
          obtain ⟨z22, hz22, hf⟩ := op_b hf
          refine cf_v (ws2 := (ck_ aK aQ aL aA tk aY aB aG aS cI cT z22.1 uz ul z22.2.1 z11.1 kz ku z21 z22.2.2.1 z22.2.2.2.1 z22.2.2.2.2.1 z22.2.2.2.2.2.1 z22.2.2.2.2.2.2.1 z22.2.2.2.2.2.2.2.1 z22.2.2.2.2.2.2.2.2.1 z22.2.2.2.2.2.2.2.2.2.1 z22.2.2.2.2.2.2.2.2.2.2 qa qb qd qc qx qy qu qs qp)) X cx_K_102 hK hP hD hS hA hZ hl (c_tc_K_resume (aK := aK) (aQ := aQ) (aL := aL) (aA := aA) (tk := tk) (aY := aY) (aB := aB) (aG := aG) (aS := aS) (kr := none) (uz := uz) (ul := ul) (ks := ks) (kv := z11.1) (kz := kz) (ku := ku) (cb := z21) (ga := z11.2.2.1) (gb := z11.2.2.2.1) (gd := z11.2.2.2.2.1) (gc := z11.2.2.2.2.2.1) (gx := z11.2.2.2.2.2.2.1) (gy := z11.2.2.2.2.2.2.2.1) (gu := z11.2.2.2.2.2.2.2.2.1) (gs := z11.2.2.2.2.2.2.2.2.2.1) (gp := z11.2.2.2.2.2.2.2.2.2.2) (qa := qa) (qb := qb) (qd := qd) (qc := qc) (qx := qx) (qy := qy) (qu := qu) (qs := qs) (qp := qp) hz22) ⟨rfl, rfl, Nat.le_of_ble_eq_true rfl, Nat.le_of_ble_eq_true rfl⟩ [0, 1, 2, 3, 4, 5, 6, 7, 8, 9, 10, 11] [] [0, 1, 2, 3, 4, 5, 6, 7, 8, 9, 10, 11] rfl rfl rfl rfl (by decide) rfl rfl 0 rfl rfl rfl rfl rfl (Nat.le_of_ble_eq_true rfl) d_K_answer_110 (fun H locs hP hD hS => ?_)
          refine lv_goto (tgt := 127) hx hb d_K_answer_113 (by decide) ?_
          have hq := Option.some.inj hf
          subst hq
          exact rt_v X hr hlk hK hP hD hS d_K_answer_127
        · replace hf := (if_neg hk19).symm.trans hf
          refine lv_tableOut (tgt := 116) hx hb d_K_answer_32 (by have q0 := lv_neT hk12 (show Int32.toInt (1 : Int32) = 1 by decide); have q1 := lv_neT hk15 (show Int32.toInt (2 : Int32) = 2 by decide); have q2 := lv_neT hk17 (show Int32.toInt (3 : Int32) = 3 by decide); have q3 := lv_neT hk19 (show Int32.toInt (4 : Int32) = 4 by decide); omega) (by decide) ?_
          refine lv_aload_n hx hb d_K_answer_116 rfl (lv_at hl 2 rfl) ?_
          refine lv_aload_n hx hb d_K_answer_117 rfl (lv_at hl 3 rfl) ?_
          refine lv_iconst (v := (2 : Int32)) hx hb d_K_answer_118 (by decide) ?_
          obtain ⟨z23, hz23, hf⟩ := op_b hf
          refine cf_v (ws2 := (ck_ aK aQ aL aA tk aY aB aG aS cI cT none uz ul ks z11.1 kz ku z23 z11.2.2.1 z11.2.2.2.1 z11.2.2.2.2.1 z11.2.2.2.2.2.1 z11.2.2.2.2.2.2.1 z11.2.2.2.2.2.2.2.1 z11.2.2.2.2.2.2.2.2.1 z11.2.2.2.2.2.2.2.2.2.1 z11.2.2.2.2.2.2.2.2.2.2 qa qb qd qc qx qy qu qs qp)) X cx_K_134 hK hP hD hS hA hZ hl (c_tc_K_fail (aK := aK) (aQ := aQ) (aL := aL) (aA := aA) (tk := tk) (aY := aY) (aB := aB) (aG := aG) (aS := aS) (kr := none) (uz := uz) (ul := ul) (ks := ks) (kv := z11.1) (kz := kz) (ku := ku) (cb := z11.2.1) (ga := z11.2.2.1) (gb := z11.2.2.2.1) (gd := z11.2.2.2.2.1) (gc := z11.2.2.2.2.2.1) (gx := z11.2.2.2.2.2.2.1) (gy := z11.2.2.2.2.2.2.2.1) (gu := z11.2.2.2.2.2.2.2.2.1) (gs := z11.2.2.2.2.2.2.2.2.2.1) (gp := z11.2.2.2.2.2.2.2.2.2.2) (qa := qa) (qb := qb) (qd := qd) (qc := qc) (qx := qx) (qy := qy) (qu := qu) (qs := qs) (qp := qp) hz23) ⟨rfl, rfl, Nat.le_of_ble_eq_true rfl, Nat.le_of_ble_eq_true rfl⟩ [0, 1, 2, 3, 4, 5, 6, 7, 8, 9, 10, 11] [] [0, 1, 2, 3, 4, 5, 6, 7, 8, 9, 10, 11] rfl rfl rfl rfl (by decide) rfl rfl 0 rfl rfl rfl rfl rfl (Nat.le_of_ble_eq_true rfl) d_K_answer_119 (fun H locs hP hD hS => ?_)
          refine lv_aload_n hx hb d_K_answer_122 rfl (lv_at hl 2 rfl) ?_
          refine lv_aload_n hx hb d_K_answer_123 rfl (lv_at hl 3 rfl) ?_
          obtain ⟨z24, hz24, hf⟩ := op_b hf
          refine cf_v (ws2 := (ck_ aK aQ aL aA tk aY aB aG aS cI cT z24.1 uz ul z24.2.1 z11.1 kz ku z23 z24.2.2.1 z24.2.2.2.1 z24.2.2.2.2.1 z24.2.2.2.2.2.1 z24.2.2.2.2.2.2.1 z24.2.2.2.2.2.2.2.1 z24.2.2.2.2.2.2.2.2.1 z24.2.2.2.2.2.2.2.2.2.1 z24.2.2.2.2.2.2.2.2.2.2 qa qb qd qc qx qy qu qs qp)) X cx_K_102 hK hP hD hS hA hZ hl (c_tc_K_resume (aK := aK) (aQ := aQ) (aL := aL) (aA := aA) (tk := tk) (aY := aY) (aB := aB) (aG := aG) (aS := aS) (kr := none) (uz := uz) (ul := ul) (ks := ks) (kv := z11.1) (kz := kz) (ku := ku) (cb := z23) (ga := z11.2.2.1) (gb := z11.2.2.2.1) (gd := z11.2.2.2.2.1) (gc := z11.2.2.2.2.2.1) (gx := z11.2.2.2.2.2.2.1) (gy := z11.2.2.2.2.2.2.2.1) (gu := z11.2.2.2.2.2.2.2.2.1) (gs := z11.2.2.2.2.2.2.2.2.2.1) (gp := z11.2.2.2.2.2.2.2.2.2.2) (qa := qa) (qb := qb) (qd := qd) (qc := qc) (qx := qx) (qy := qy) (qu := qu) (qs := qs) (qp := qp) hz24) ⟨rfl, rfl, Nat.le_of_ble_eq_true rfl, Nat.le_of_ble_eq_true rfl⟩ [0, 1, 2, 3, 4, 5, 6, 7, 8, 9, 10, 11] [] [0, 1, 2, 3, 4, 5, 6, 7, 8, 9, 10, 11] rfl rfl rfl rfl (by decide) rfl rfl 0 rfl rfl rfl rfl rfl (Nat.le_of_ble_eq_true rfl) d_K_answer_124 (fun H locs hP hD hS => ?_)
          have hq := Option.some.inj hf
          subst hq
          exact rt_v X hr hlk hK hP hD hS d_K_answer_127
set_option maxHeartbeats 4000000 in
set_option maxRecDepth 100000 in
theorem c_tc_K_settle {x1 : Int32} {z : (Option Nat) × Int32 × (Nat → Option Nat) × (Nat → Int32) × (Nat → Int32) × (Nat → Int32) × (Nat → Int32) × (Nat → Int32) × Int32 × Int32 × Int32 × Int32 × Int32 × Int32 × Int32 × Int32 × Int32 × Int32 × Int32 × Int32 × Int32 × Int32 × Int32 × Int32 × Int32 × Int32} (hf : tc_K_settle x1 kr uz ul ks kv kz ku cb ga gb gd gc gx gy gu gs gp qa qb qd qc qx qy qu qs qp = some z) : cs_v l my_K_settle mb_K_settle 2 rm_c_K_settle D (ty_ cI cT) [.ref aK, .int x1] (ck_ aK aQ aL aA tk aY aB aG aS cI cT kr uz ul ks kv kz ku cb ga gb gd gc gx gy gu gs gp qa qb qd qc qx qy qu qs qp) (ck_ aK aQ aL aA tk aY aB aG aS cI cT z.1 z.2.1 z.2.2.1 z.2.2.2.1 z.2.2.2.2.1 z.2.2.2.2.2.1 z.2.2.2.2.2.2.1 z.2.2.2.2.2.2.2.1 z.2.2.2.2.2.2.2.2.1 z.2.2.2.2.2.2.2.2.2.1 z.2.2.2.2.2.2.2.2.2.2.1 z.2.2.2.2.2.2.2.2.2.2.2.1 z.2.2.2.2.2.2.2.2.2.2.2.2.1 z.2.2.2.2.2.2.2.2.2.2.2.2.2.1 z.2.2.2.2.2.2.2.2.2.2.2.2.2.2.1 z.2.2.2.2.2.2.2.2.2.2.2.2.2.2.2.1 z.2.2.2.2.2.2.2.2.2.2.2.2.2.2.2.2.1 z.2.2.2.2.2.2.2.2.2.2.2.2.2.2.2.2.2.1 z.2.2.2.2.2.2.2.2.2.2.2.2.2.2.2.2.2.2.1 z.2.2.2.2.2.2.2.2.2.2.2.2.2.2.2.2.2.2.2.1 z.2.2.2.2.2.2.2.2.2.2.2.2.2.2.2.2.2.2.2.2.1 z.2.2.2.2.2.2.2.2.2.2.2.2.2.2.2.2.2.2.2.2.2.1 z.2.2.2.2.2.2.2.2.2.2.2.2.2.2.2.2.2.2.2.2.2.2.1 z.2.2.2.2.2.2.2.2.2.2.2.2.2.2.2.2.2.2.2.2.2.2.2.1 z.2.2.2.2.2.2.2.2.2.2.2.2.2.2.2.2.2.2.2.2.2.2.2.2.1 z.2.2.2.2.2.2.2.2.2.2.2.2.2.2.2.2.2.2.2.2.2.2.2.2.2) := by
  refine cs_v_of (by decide) (Nat.le_of_ble_eq_true rfl) ?_
  intro p e s m below meth c A ls X hr hlk hK hP hD hS hA hZ hl
  have hx := X.1
  have hb := X.2.1
  have hl : lv_has ls 2 [(0, .ref aK), (1, .int x1)] := hl
  have J42 : ∀ (kr : Option Nat) (uz : Int32) (ul : Nat → Option Nat) (ks : Nat → Int32) (kv : Nat → Int32) (kz : Nat → Int32) (ku : Nat → Int32) (cb : Nat → Int32) (ga : Int32) (gb : Int32) (gd : Int32) (gc : Int32) (gx : Int32) (gy : Int32) (gu : Int32) (gs : Int32) (gp : Int32) (qa : Int32) (qb : Int32) (qd : Int32) (qc : Int32) (qx : Int32) (qy : Int32) (qu : Int32) (qs : Int32) (qp : Int32), tc_K_settle_j42 kr uz ul ks kv kz ku cb ga gb gd gc gx gy gu gs gp qa qb qd qc qx qy qu qs qp = some z → ∀ (H : Heap) (locs : List Loc) (ls : Array Slot), lv_has ls 2 [(0, .ref aK)] → va_P D cz_all (ck_ aK aQ aL aA tk aY aB aG aS cI cT kr uz ul ks kv kz ku cb ga gb gd gc gx gy gu gs gp qa qb qd qc qx qy qu qs qp) H → va_D A (ck_ aK aQ aL aA tk aY aB aG aS cI cT kr uz ul ks kv kz ku cb ga gb gd gc gx gy gu gs gp qa qb qd qc qx qy qu qs qp) → va_S A s.heap H locs → W p l e rm_c_K_settle s m ([.ref aK, .int x1] : List Value).toArray below meth c H locs 0 0 (MQ below (qs_v D (ty_ cI cT) (ck_ aK aQ aL aA tk aY aB aG aS cI cT z.1 z.2.1 z.2.2.1 z.2.2.2.1 z.2.2.2.2.1 z.2.2.2.2.2.1 z.2.2.2.2.2.2.1 z.2.2.2.2.2.2.2.1 z.2.2.2.2.2.2.2.2.1 z.2.2.2.2.2.2.2.2.2.1 z.2.2.2.2.2.2.2.2.2.2.1 z.2.2.2.2.2.2.2.2.2.2.2.1 z.2.2.2.2.2.2.2.2.2.2.2.2.1 z.2.2.2.2.2.2.2.2.2.2.2.2.2.1 z.2.2.2.2.2.2.2.2.2.2.2.2.2.2.1 z.2.2.2.2.2.2.2.2.2.2.2.2.2.2.2.1 z.2.2.2.2.2.2.2.2.2.2.2.2.2.2.2.2.1 z.2.2.2.2.2.2.2.2.2.2.2.2.2.2.2.2.2.1 z.2.2.2.2.2.2.2.2.2.2.2.2.2.2.2.2.2.2.1 z.2.2.2.2.2.2.2.2.2.2.2.2.2.2.2.2.2.2.2.1 z.2.2.2.2.2.2.2.2.2.2.2.2.2.2.2.2.2.2.2.2.1 z.2.2.2.2.2.2.2.2.2.2.2.2.2.2.2.2.2.2.2.2.2.1 z.2.2.2.2.2.2.2.2.2.2.2.2.2.2.2.2.2.2.2.2.2.2.1 z.2.2.2.2.2.2.2.2.2.2.2.2.2.2.2.2.2.2.2.2.2.2.2.1 z.2.2.2.2.2.2.2.2.2.2.2.2.2.2.2.2.2.2.2.2.2.2.2.2.1 z.2.2.2.2.2.2.2.2.2.2.2.2.2.2.2.2.2.2.2.2.2.2.2.2.2) A) ([.ref aK, .int x1] : List Value).toArray s 0 0 A) (F0 m 42 ls []) := by
    intro kr uz ul ks kv kz ku cb ga gb gd gc gx gy gu gs gp qa qb qd qc qx qy qu qs qp hf H locs ls hl hP hD hS
    unfold tc_K_settle_j42 at hf
    refine lv_aload_n hx hb d_K_settle_42 rfl (lv_at hl 0 rfl) ?_
    obtain ⟨z8, hz8, hf⟩ := op_b hf
    refine cf_v (ws2 := (ck_ aK aQ aL aA tk aY aB aG aS cI cT z8.1 z8.2.1 z8.2.2.1 z8.2.2.2.1 kv kz ku cb z8.2.2.2.2.1 z8.2.2.2.2.2.1 z8.2.2.2.2.2.2.1 z8.2.2.2.2.2.2.2.1 z8.2.2.2.2.2.2.2.2.1 z8.2.2.2.2.2.2.2.2.2.1 z8.2.2.2.2.2.2.2.2.2.2.1 z8.2.2.2.2.2.2.2.2.2.2.2.1 z8.2.2.2.2.2.2.2.2.2.2.2.2 qa qb qd qc qx qy qu qs qp)) X cx_K_112 hK hP hD hS hA hZ hl (c_tc_K_takeNext (aK := aK) (aQ := aQ) (aL := aL) (aA := aA) (tk := tk) (aY := aY) (aB := aB) (aG := aG) (aS := aS) (kr := kr) (uz := uz) (ul := ul) (ks := ks) (kv := kv) (kz := kz) (ku := ku) (cb := cb) (ga := ga) (gb := gb) (gd := gd) (gc := gc) (gx := gx) (gy := gy) (gu := gu) (gs := gs) (gp := gp) (qa := qa) (qb := qb) (qd := qd) (qc := qc) (qx := qx) (qy := qy) (qu := qu) (qs := qs) (qp := qp) hz8) ⟨rfl, rfl, Nat.le_of_ble_eq_true rfl, Nat.le_of_ble_eq_true rfl⟩ [0, 1, 2, 3, 4, 5, 6, 7, 8, 9, 10, 11] [] [0, 1, 2, 3, 4, 5, 6, 7, 8, 9, 10, 11] rfl rfl rfl rfl (by decide) rfl rfl 0 rfl rfl rfl rfl rfl (Nat.le_of_ble_eq_true rfl) d_K_settle_43 (fun H locs hP hD hS => ?_)
    have hq := Option.some.inj hf
    subst hq
    exact rt_v X hr hlk hK hP hD hS d_K_settle_46
  unfold tc_K_settle at hf
  refine lv_aload_n hx hb d_K_settle_0 rfl (lv_at hl 0 rfl) ?_
  refine ck_g_K_running_K X hK hP d_K_settle_1 ?_
  rcases op_n hf with ⟨ho10, hf⟩ | ⟨i9, ho10, hf⟩
  · rw [show va_rf (Option.map tk kr) = Value.null from by rw [ho10]; rfl]
    refine lv_ifnullN (tgt := 12) hx hb d_K_settle_4 (by decide) ?_
    have hq := Option.some.inj hf
    subst hq
    exact rt_v X hr hlk hK hP hD hS d_K_settle_12
  · rw [show va_rf (Option.map tk kr) = Value.ref (tk i9) from by rw [ho10]; rfl]
    refine lv_ifnull hx hb d_K_settle_4 ?_
    refine lv_iload_n hx hb d_K_settle_7 rfl (lv_at hl 1 rfl) ?_
    refine lv_iconst (v := (-1 : Int32)) hx hb d_K_settle_8 (by decide) ?_
    refine lv_icmp_ne (tgt := 13) hx hb d_K_settle_9 (by decide) (fun hc => ?_) (fun hc => ?_)
    · replace hf := (if_neg hc).symm.trans hf
      refine lv_iload_n hx hb d_K_settle_13 rfl (lv_at hl 1 rfl) ?_
      refine lv_bipush (v := (-2 : Int32)) hx hb d_K_settle_14 (by decide) ?_
      refine lv_icmp_ne (tgt := 33) hx hb d_K_settle_16 (by decide) (fun hc => ?_) (fun hc => ?_)
      · replace hf := (if_neg hc).symm.trans hf
        refine lv_aload_n hx hb d_K_settle_33 rfl (lv_at hl 0 rfl) ?_
        refine lv_aload_n hx hb d_K_settle_34 rfl (lv_at hl 0 rfl) ?_
        refine ck_g_K_running_K X hK hP d_K_settle_35 ?_
        refine lv_iload_n hx hb d_K_settle_38 rfl (lv_at hl 1 rfl) ?_
        rw [show va_rf (Option.map tk kr) = Value.ref (tk i9) from by rw [ho10]; rfl]
        obtain ⟨z11, hz11, hf⟩ := op_b hf
        refine cf_v (ws2 := (ck_ aK aQ aL aA tk aY aB aG aS cI cT z11.1 z11.2.1 z11.2.2.1 z11.2.2.2.1 z11.2.2.2.2.1 z11.2.2.2.2.2.1 z11.2.2.2.2.2.2.1 z11.2.2.2.2.2.2.2.1 z11.2.2.2.2.2.2.2.2.1 z11.2.2.2.2.2.2.2.2.2.1 z11.2.2.2.2.2.2.2.2.2.2.1 z11.2.2.2.2.2.2.2.2.2.2.2.1 z11.2.2.2.2.2.2.2.2.2.2.2.2.1 z11.2.2.2.2.2.2.2.2.2.2.2.2.2.1 z11.2.2.2.2.2.2.2.2.2.2.2.2.2.2.1 z11.2.2.2.2.2.2.2.2.2.2.2.2.2.2.2.1 z11.2.2.2.2.2.2.2.2.2.2.2.2.2.2.2.2.1 z11.2.2.2.2.2.2.2.2.2.2.2.2.2.2.2.2.2.1 z11.2.2.2.2.2.2.2.2.2.2.2.2.2.2.2.2.2.2.1 z11.2.2.2.2.2.2.2.2.2.2.2.2.2.2.2.2.2.2.2.1 z11.2.2.2.2.2.2.2.2.2.2.2.2.2.2.2.2.2.2.2.2.1 z11.2.2.2.2.2.2.2.2.2.2.2.2.2.2.2.2.2.2.2.2.2.1 z11.2.2.2.2.2.2.2.2.2.2.2.2.2.2.2.2.2.2.2.2.2.2.1 z11.2.2.2.2.2.2.2.2.2.2.2.2.2.2.2.2.2.2.2.2.2.2.2.1 z11.2.2.2.2.2.2.2.2.2.2.2.2.2.2.2.2.2.2.2.2.2.2.2.2.1 z11.2.2.2.2.2.2.2.2.2.2.2.2.2.2.2.2.2.2.2.2.2.2.2.2.2)) X cx_K_121 hK hP hD hS hA hZ hl (c_tc_K_answer (aK := aK) (aQ := aQ) (aL := aL) (aA := aA) (tk := tk) (aY := aY) (aB := aB) (aG := aG) (aS := aS) (kr := kr) (uz := uz) (ul := ul) (ks := ks) (kv := kv) (kz := kz) (ku := ku) (cb := cb) (ga := ga) (gb := gb) (gd := gd) (gc := gc) (gx := gx) (gy := gy) (gu := gu) (gs := gs) (gp := gp) (qa := qa) (qb := qb) (qd := qd) (qc := qc) (qx := qx) (qy := qy) (qu := qu) (qs := qs) (qp := qp) hz11) ⟨rfl, rfl, Nat.le_of_ble_eq_true rfl, Nat.le_of_ble_eq_true rfl⟩ [0, 1, 2, 3, 4, 5, 6, 7, 8, 9, 10, 11] [] [0, 1, 2, 3, 4, 5, 6, 7, 8, 9, 10, 11] rfl rfl rfl rfl (by decide) rfl rfl 0 rfl rfl rfl rfl rfl (Nat.le_of_ble_eq_true rfl) d_K_settle_39 (fun H locs hP hD hS => ?_)
        exact J42 z11.1 z11.2.1 z11.2.2.1 z11.2.2.2.1 z11.2.2.2.2.1 z11.2.2.2.2.2.1 z11.2.2.2.2.2.2.1 z11.2.2.2.2.2.2.2.1 z11.2.2.2.2.2.2.2.2.1 z11.2.2.2.2.2.2.2.2.2.1 z11.2.2.2.2.2.2.2.2.2.2.1 z11.2.2.2.2.2.2.2.2.2.2.2.1 z11.2.2.2.2.2.2.2.2.2.2.2.2.1 z11.2.2.2.2.2.2.2.2.2.2.2.2.2.1 z11.2.2.2.2.2.2.2.2.2.2.2.2.2.2.1 z11.2.2.2.2.2.2.2.2.2.2.2.2.2.2.2.1 z11.2.2.2.2.2.2.2.2.2.2.2.2.2.2.2.2.1 z11.2.2.2.2.2.2.2.2.2.2.2.2.2.2.2.2.2.1 z11.2.2.2.2.2.2.2.2.2.2.2.2.2.2.2.2.2.2.1 z11.2.2.2.2.2.2.2.2.2.2.2.2.2.2.2.2.2.2.2.1 z11.2.2.2.2.2.2.2.2.2.2.2.2.2.2.2.2.2.2.2.2.1 z11.2.2.2.2.2.2.2.2.2.2.2.2.2.2.2.2.2.2.2.2.2.1 z11.2.2.2.2.2.2.2.2.2.2.2.2.2.2.2.2.2.2.2.2.2.2.1 z11.2.2.2.2.2.2.2.2.2.2.2.2.2.2.2.2.2.2.2.2.2.2.2.1 z11.2.2.2.2.2.2.2.2.2.2.2.2.2.2.2.2.2.2.2.2.2.2.2.2.1 z11.2.2.2.2.2.2.2.2.2.2.2.2.2.2.2.2.2.2.2.2.2.2.2.2.2 hf _ _ _ (lv_sub hl [0] rfl) hP hD hS
      · replace hf := (if_pos hc).symm.trans hf
        refine lv_aload_n hx hb d_K_settle_19 rfl (lv_at hl 0 rfl) ?_
        refine lv_aload_n hx hb d_K_settle_20 rfl (lv_at hl 0 rfl) ?_
        refine ck_g_K_running_K X hK hP d_K_settle_21 ?_
        refine lv_sipush (v := (255 : Int32)) hx hb d_K_settle_24 (by decide) ?_
        rw [show va_rf (Option.map tk kr) = Value.ref (tk i9) from by rw [ho10]; rfl]
        obtain ⟨z12, hz12, hf⟩ := op_b hf
        refine cf_v (ws2 := (ck_ aK aQ aL aA tk aY aB aG aS cI cT z12.1 z12.2.1 z12.2.2.1 z12.2.2.2.1 kv kz z12.2.2.2.2 cb ga gb gd gc gx gy gu gs gp qa qb qd qc qx qy qu qs qp)) X cx_K_117 hK hP hD hS hA hZ hl (c_tc_K_end (aK := aK) (aQ := aQ) (aL := aL) (aA := aA) (tk := tk) (aY := aY) (aB := aB) (aG := aG) (aS := aS) (kr := kr) (uz := uz) (ul := ul) (ks := ks) (kv := kv) (kz := kz) (ku := ku) (cb := cb) (ga := ga) (gb := gb) (gd := gd) (gc := gc) (gx := gx) (gy := gy) (gu := gu) (gs := gs) (gp := gp) (qa := qa) (qb := qb) (qd := qd) (qc := qc) (qx := qx) (qy := qy) (qu := qu) (qs := qs) (qp := qp) hz12) ⟨rfl, rfl, Nat.le_of_ble_eq_true rfl, Nat.le_of_ble_eq_true rfl⟩ [0, 1, 2, 3, 4, 5, 6, 7, 8, 9, 10, 11] [] [0, 1, 2, 3, 4, 5, 6, 7, 8, 9, 10, 11] rfl rfl rfl rfl (by decide) rfl rfl 0 rfl rfl rfl rfl rfl (Nat.le_of_ble_eq_true rfl) d_K_settle_27 (fun H locs hP hD hS => ?_)
        refine lv_goto (tgt := 42) hx hb d_K_settle_30 (by decide) ?_
        exact J42 z12.1 z12.2.1 z12.2.2.1 z12.2.2.2.1 kv kz z12.2.2.2.2 cb ga gb gd gc gx gy gu gs gp qa qb qd qc qx qy qu qs qp hf _ _ _ (lv_sub hl [0] rfl) hP hD hS
    · replace hf := (if_pos hc).symm.trans hf
      have hq := Option.some.inj hf
      subst hq
      exact rt_v X hr hlk hK hP hD hS d_K_settle_12
set_option maxHeartbeats 4000000 in
set_option maxRecDepth 100000 in
theorem c_tc_Y_holds {x1 : Int32} {z : Bool} (hf : tc_Y_holds x1 = some z) : cs_i l my_Y_holds mb_Y_holds 1 .boolean rm_c_Y_holds D (ty_ cI cT) [.int x1] w w (bz_i z) := by
  refine cs_i_of (by decide) (Nat.le_of_ble_eq_true rfl) ?_
  intro p e s m below meth c A ls X hr hlk hK hP hD hS hA hZ hl
  have hx := X.1
  have hb := X.2.1
  have hl : lv_has ls 1 [(0, .int x1)] := hl
  unfold tc_Y_holds at hf
  refine lv_iload_n hx hb d_Y_holds_0 rfl (lv_at hl 0 rfl) ?_
  refine lv_if_lt (tgt := 15) hx hb d_Y_holds_1 (by decide) (fun hc => ?_) (fun hc => ?_)
  · replace hf := (if_pos hc).symm.trans hf
    refine lv_iconst (v := (0 : Int32)) hx hb d_Y_holds_15 (by decide) ?_
    have hq := Option.some.inj hf
    subst hq
    exact rt_i (r := bz_i false) X hr hlk hK (bz_n _) hP hD hS d_Y_holds_16
  · replace hf := (if_neg hc).symm.trans hf
    refine lv_iload_n hx hb d_Y_holds_4 rfl (lv_at hl 0 rfl) ?_
    refine lv_sipush (v := (512 : Int32)) hx hb d_Y_holds_5 (by decide) ?_
    refine lv_icmp_ge (tgt := 15) hx hb d_Y_holds_8 (by decide) (fun hc => ?_) (fun hc => ?_)
    · replace hf := (if_pos hc).symm.trans hf
      refine lv_iconst (v := (0 : Int32)) hx hb d_Y_holds_15 (by decide) ?_
      have hq := Option.some.inj hf
      subst hq
      exact rt_i (r := bz_i false) X hr hlk hK (bz_n _) hP hD hS d_Y_holds_16
    · replace hf := (if_neg hc).symm.trans hf
      refine lv_iconst (v := (1 : Int32)) hx hb d_Y_holds_11 (by decide) ?_
      refine lv_goto (tgt := 16) hx hb d_Y_holds_12 (by decide) ?_
      have hq := Option.some.inj hf
      subst hq
      exact rt_i (r := bz_i true) X hr hlk hK (bz_n _) hP hD hS d_Y_holds_16
set_option maxHeartbeats 4000000 in
set_option maxRecDepth 100000 in
theorem c_tc_P_skip {x1 : Int32} {z : Int32} (hf : tc_P_skip x1 gp = some z) : cs_v l my_P_skip mb_P_skip 2 rm_c_P_skip D (ty_ cI cT) [.ref aP, .int x1] (cp_ aY aB aG aP aC cI cT py po cb ga gb gd gc gx gy gu gs gp) (cp_ aY aB aG aP aC cI cT py po cb ga gb gd gc gx gy gu gs z) := by
  refine cs_v_of (by decide) (Nat.le_of_ble_eq_true rfl) ?_
  intro p e s m below meth c A ls X hr hlk hK hP hD hS hA hZ hl
  have hx := X.1
  have hb := X.2.1
  have hl : lv_has ls 2 [(0, .ref aP), (1, .int x1)] := hl
  unfold tc_P_skip at hf
  refine lv_aload_n hx hb d_P_skip_0 rfl (lv_at hl 0 rfl) ?_
  refine cp_g_P_registers_P X hK hP d_P_skip_1 ?_
  refine lv_aload_n hx hb d_P_skip_4 rfl (lv_at hl 0 rfl) ?_
  refine cp_g_P_registers_P X hK hP d_P_skip_5 ?_
  refine cp_g_G_pc_P X hK hP d_P_skip_8 ?_
  refine lv_iload_n hx hb d_P_skip_11 rfl (lv_at hl 1 rfl) ?_
  refine lv_iadd hx hb d_P_skip_12 ?_
  refine lv_ldc (v := (65535 : Int32)) hx hb X.2.2.2.1 (X.2.2.2.2 _ ww_4) d_P_skip_13 ?_
  refine lv_iand hx hb d_P_skip_15 ?_
  refine cp_p_G_pc_P (x := ((gp + x1) &&& (65535 : Int32))) X hK hP hD hS d_P_skip_16 (fun H locs hP hD hS => ?_)
  have hq := Option.some.inj hf
  subst hq
  exact rt_v X hr hlk hK hP hD hS d_P_skip_19
set_option maxHeartbeats 4000000 in
set_option maxRecDepth 100000 in
theorem c_tc_P_fetch {x1 : Int32} {z : Int32 × Int32 × Int32} (hf : tc_P_fetch x1 py cb gp = some z) : cs_i l my_P_fetch mb_P_fetch 3 .int rm_c_P_fetch D (ty_ cI cT) [.ref aP, .int x1] (cp_ aY aB aG aP aC cI cT py po cb ga gb gd gc gx gy gu gs gp) (cp_ aY aB aG aP aC cI cT z.2.1 po cb ga gb gd gc gx gy gu gs z.2.2) z.1 := by
  refine cs_i_of (by decide) (Nat.le_of_ble_eq_true rfl) ?_
  intro p e s m below meth c A ls X hr hlk hK hP hD hS hA hZ hl
  have hx := X.1
  have hb := X.2.1
  have hl : lv_has ls 3 [(0, .ref aP), (1, .int x1)] := hl
  unfold tc_P_fetch at hf
  refine lv_aload_n hx hb d_P_fetch_0 rfl (lv_at hl 0 rfl) ?_
  refine cp_g_P_memory_P X hK hP d_P_fetch_1 ?_
  refine lv_aload_n hx hb d_P_fetch_4 rfl (lv_at hl 0 rfl) ?_
  refine cp_g_P_registers_P X hK hP d_P_fetch_5 ?_
  refine cp_g_G_pc_P X hK hP d_P_fetch_8 ?_
  refine lv_iload_n hx hb d_P_fetch_11 rfl (lv_at hl 1 rfl) ?_
  obtain ⟨z3, hz3, hf⟩ := op_b hf
  refine cf_i (ws2 := (cp_ aY aB aG aP aC cI cT py po cb ga gb gd gc gx gy gu gs gp)) X cx_P_67 hK hP hD hS hA hZ hl (c_tc_Y_load (aY := aY) (aB := aB) (cb := cb) hz3) ⟨rfl, rfl, Nat.le_of_ble_eq_true rfl, Nat.le_of_ble_eq_true rfl⟩ [1, 2] [0, 3, 4] [0, 3, 4, 1, 2] rfl rfl rfl rfl (by decide) rfl rfl 0 rfl rfl rfl rfl rfl (Nat.le_of_ble_eq_true rfl) d_P_fetch_12 (fun H locs hP hD hS => ?_)
  refine lv_istore_n hx hb d_P_fetch_15 rfl hl (by decide) rfl (fun ls hl => ?_)
  have hl : lv_has ls 3 [(2, .int z3), (0, .ref aP), (1, .int x1)] := hl
  refine lv_aload_n hx hb d_P_fetch_16 rfl (lv_at hl 1 rfl) ?_
  refine lv_iload_n hx hb d_P_fetch_17 rfl (lv_at hl 2 rfl) ?_
  obtain ⟨z4, hz4, hf⟩ := op_b hf
  refine cf_v (ws2 := (cp_ aY aB aG aP aC cI cT py po cb ga gb gd gc gx gy gu gs z4)) X cx_P_73 hK hP hD hS hA hZ hl (c_tc_P_skip (aY := aY) (aB := aB) (aG := aG) (aP := aP) (aC := aC) (py := py) (po := po) (cb := cb) (ga := ga) (gb := gb) (gd := gd) (gc := gc) (gx := gx) (gy := gy) (gu := gu) (gs := gs) (gp := gp) hz4) ⟨rfl, rfl, Nat.le_of_ble_eq_true rfl, Nat.le_of_ble_eq_true rfl⟩ [0, 1, 2, 3, 4] [] [0, 1, 2, 3, 4] rfl rfl rfl rfl (by decide) rfl rfl 0 rfl rfl rfl rfl rfl (Nat.le_of_ble_eq_true rfl) d_P_fetch_18 (fun H locs hP hD hS => ?_)
  refine lv_aload_n hx hb d_P_fetch_21 rfl (lv_at hl 1 rfl) ?_
  refine lv_dup hx hb d_P_fetch_22 rfl ?_
  refine cp_g_P_cycles_P X hK hP d_P_fetch_23 ?_
  refine lv_iload_n hx hb d_P_fetch_26 rfl (lv_at hl 2 rfl) ?_
  refine lv_iadd hx hb d_P_fetch_27 ?_
  refine cp_p_P_cycles_P (x := (py + x1)) X hK hP hD hS d_P_fetch_28 (fun H locs hP hD hS => ?_)
  refine lv_iload_n hx hb d_P_fetch_31 rfl (lv_at hl 0 rfl) ?_
  have hq := Option.some.inj hf
  subst hq
  exact rt_i (r := z3) X hr hlk hK rfl hP hD hS d_P_fetch_32
set_option maxHeartbeats 4000000 in
set_option maxRecDepth 100000 in
theorem c_tc_P_isIndexedForm {x1 : Int32} {x2 : Bool} {z : Bool} (hf : tc_P_isIndexedForm x1 x2 = some z) : cs_i l my_P_isIndexedForm mb_P_isIndexedForm 2 .boolean rm_c_P_isIndexedForm D (ty_ cI cT) [.int x1, .int (bz_i x2)] w w (bz_i z) := by
  refine cs_i_of (by decide) (Nat.le_of_ble_eq_true rfl) ?_
  intro p e s m below meth c A ls X hr hlk hK hP hD hS hA hZ hl
  have hx := X.1
  have hb := X.2.1
  have hl : lv_has ls 2 [(0, .int x1), (1, .int (bz_i x2))] := hl
  have J80 : ∀ (v1 : Bool), tc_P_isIndexedForm_j80 v1 = some z → ∀ (H : Heap) (locs : List Loc) (ls : Array Slot), lv_has ls 2 [(1, .int (bz_i v1))] → va_P D cz_all w H → va_D A w → va_S A s.heap H locs → W p l e rm_c_P_isIndexedForm s m ([.int x1, .int (bz_i x2)] : List Value).toArray below meth c H locs 0 0 (MQ below (qs_i D (ty_ cI cT) w (bz_i z) A) ([.int x1, .int (bz_i x2)] : List Value).toArray s 0 0 A) (F0 m 80 ls []) := by
    intro v1 hf H locs ls hl hP hD hS
    unfold tc_P_isIndexedForm_j80 at hf
    refine lv_iload_n hx hb d_P_isIndexedForm_80 rfl (lv_at hl 0 rfl) ?_
    refine lv_if_ne (tgt := 88) hx hb d_P_isIndexedForm_81 (by decide) (fun hc => ?_) (fun hc => ?_)
    · replace hf := (if_neg hc).symm.trans hf
      refine lv_iconst (v := (0 : Int32)) hx hb d_P_isIndexedForm_88 (by decide) ?_
      have hq := Option.some.inj hf
      subst hq
      exact rt_i (r := bz_i false) X hr hlk hK (bz_n _) hP hD hS d_P_isIndexedForm_89
    · replace hf := (if_pos hc).symm.trans hf
      refine lv_iconst (v := (1 : Int32)) hx hb d_P_isIndexedForm_84 (by decide) ?_
      refine lv_goto (tgt := 89) hx hb d_P_isIndexedForm_85 (by decide) ?_
      have hq := Option.some.inj hf
      subst hq
      exact rt_i (r := bz_i true) X hr hlk hK (bz_n _) hP hD hS d_P_isIndexedForm_89
  unfold tc_P_isIndexedForm at hf
  refine lv_iload_n hx hb d_P_isIndexedForm_0 rfl (lv_at hl 0 rfl) ?_
  by_cases hk1 : x1 = (0 : Int32)
  · replace hf := (if_pos hk1).symm.trans hf
    refine lv_tableIn (tgt := 80) (off := 79) hx hb d_P_isIndexedForm_1 (by rw [hk1]; decide) (by rw [hk1]; decide) (by rw [hk1]; rfl) (by decide) ?_
    exact J80 x2 hf _ _ _ (lv_sub hl [1] rfl) hP hD hS
  · replace hf := (if_neg hk1).symm.trans hf
    by_cases hk2 : x1 = (1 : Int32)
    · replace hf := (if_pos hk2).symm.trans hf
      refine lv_tableIn (tgt := 94) (off := 93) hx hb d_P_isIndexedForm_1 (by rw [hk2]; decide) (by rw [hk2]; decide) (by rw [hk2]; rfl) (by decide) ?_
      refine lv_iconst (v := (1 : Int32)) hx hb d_P_isIndexedForm_94 (by decide) ?_
      have hq := Option.some.inj hf
      subst hq
      exact rt_i (r := bz_i true) X hr hlk hK (bz_n _) hP hD hS d_P_isIndexedForm_95
    · replace hf := (if_neg hk2).symm.trans hf
      by_cases hk3 : x1 = (2 : Int32)
      · replace hf := (if_pos hk3).symm.trans hf
        refine lv_tableIn (tgt := 80) (off := 79) hx hb d_P_isIndexedForm_1 (by rw [hk3]; decide) (by rw [hk3]; decide) (by rw [hk3]; rfl) (by decide) ?_
        exact J80 x2 hf _ _ _ (lv_sub hl [1] rfl) hP hD hS
      · replace hf := (if_neg hk3).symm.trans hf
        by_cases hk4 : x1 = (3 : Int32)
        · replace hf := (if_pos hk4).symm.trans hf
          refine lv_tableIn (tgt := 94) (off := 93) hx hb d_P_isIndexedForm_1 (by rw [hk4]; decide) (by rw [hk4]; decide) (by rw [hk4]; rfl) (by decide) ?_
          refine lv_iconst (v := (1 : Int32)) hx hb d_P_isIndexedForm_94 (by decide) ?_
          have hq := Option.some.inj hf
          subst hq
          exact rt_i (r := bz_i true) X hr hlk hK (bz_n _) hP hD hS d_P_isIndexedForm_95
        · replace hf := (if_neg hk4).symm.trans hf
          by_cases hk5 : x1 = (4 : Int32)
          · replace hf := (if_pos hk5).symm.trans hf
            refine lv_tableIn (tgt := 94) (off := 93) hx hb d_P_isIndexedForm_1 (by rw [hk5]; decide) (by rw [hk5]; decide) (by rw [hk5]; rfl) (by decide) ?_
            refine lv_iconst (v := (1 : Int32)) hx hb d_P_isIndexedForm_94 (by decide) ?_
            have hq := Option.some.inj hf
            subst hq
            exact rt_i (r := bz_i true) X hr hlk hK (bz_n _) hP hD hS d_P_isIndexedForm_95
          · replace hf := (if_neg hk5).symm.trans hf
            by_cases hk6 : x1 = (5 : Int32)
            · replace hf := (if_pos hk6).symm.trans hf
              refine lv_tableIn (tgt := 94) (off := 93) hx hb d_P_isIndexedForm_1 (by rw [hk6]; decide) (by rw [hk6]; decide) (by rw [hk6]; rfl) (by decide) ?_
              refine lv_iconst (v := (1 : Int32)) hx hb d_P_isIndexedForm_94 (by decide) ?_
              have hq := Option.some.inj hf
              subst hq
              exact rt_i (r := bz_i true) X hr hlk hK (bz_n _) hP hD hS d_P_isIndexedForm_95
            · replace hf := (if_neg hk6).symm.trans hf
              by_cases hk7 : x1 = (6 : Int32)
              · replace hf := (if_pos hk7).symm.trans hf
                refine lv_tableIn (tgt := 94) (off := 93) hx hb d_P_isIndexedForm_1 (by rw [hk7]; decide) (by rw [hk7]; decide) (by rw [hk7]; rfl) (by decide) ?_
                refine lv_iconst (v := (1 : Int32)) hx hb d_P_isIndexedForm_94 (by decide) ?_
                have hq := Option.some.inj hf
                subst hq
                exact rt_i (r := bz_i true) X hr hlk hK (bz_n _) hP hD hS d_P_isIndexedForm_95
              · replace hf := (if_neg hk7).symm.trans hf
                by_cases hk8 : x1 = (7 : Int32)
                · replace hf := (if_pos hk8).symm.trans hf
                  refine lv_tableIn (tgt := 90) (off := 89) hx hb d_P_isIndexedForm_1 (by rw [hk8]; decide) (by rw [hk8]; decide) (by rw [hk8]; rfl) (by decide) ?_
                  refine lv_iconst (v := (0 : Int32)) hx hb d_P_isIndexedForm_90 (by decide) ?_
                  have hq := Option.some.inj hf
                  subst hq
                  exact rt_i (r := bz_i false) X hr hlk hK (bz_n _) hP hD hS d_P_isIndexedForm_91
                · replace hf := (if_neg hk8).symm.trans hf
                  by_cases hk9 : x1 = (8 : Int32)
                  · replace hf := (if_pos hk9).symm.trans hf
                    refine lv_tableIn (tgt := 94) (off := 93) hx hb d_P_isIndexedForm_1 (by rw [hk9]; decide) (by rw [hk9]; decide) (by rw [hk9]; rfl) (by decide) ?_
                    refine lv_iconst (v := (1 : Int32)) hx hb d_P_isIndexedForm_94 (by decide) ?_
                    have hq := Option.some.inj hf
                    subst hq
                    exact rt_i (r := bz_i true) X hr hlk hK (bz_n _) hP hD hS d_P_isIndexedForm_95
                  · replace hf := (if_neg hk9).symm.trans hf
                    by_cases hk10 : x1 = (9 : Int32)
                    · replace hf := (if_pos hk10).symm.trans hf
                      refine lv_tableIn (tgt := 94) (off := 93) hx hb d_P_isIndexedForm_1 (by rw [hk10]; decide) (by rw [hk10]; decide) (by rw [hk10]; rfl) (by decide) ?_
                      refine lv_iconst (v := (1 : Int32)) hx hb d_P_isIndexedForm_94 (by decide) ?_
                      have hq := Option.some.inj hf
                      subst hq
                      exact rt_i (r := bz_i true) X hr hlk hK (bz_n _) hP hD hS d_P_isIndexedForm_95
                    · replace hf := (if_neg hk10).symm.trans hf
                      by_cases hk11 : x1 = (10 : Int32)
                      · replace hf := (if_pos hk11).symm.trans hf
                        refine lv_tableIn (tgt := 90) (off := 89) hx hb d_P_isIndexedForm_1 (by rw [hk11]; decide) (by rw [hk11]; decide) (by rw [hk11]; rfl) (by decide) ?_
                        refine lv_iconst (v := (0 : Int32)) hx hb d_P_isIndexedForm_90 (by decide) ?_
                        have hq := Option.some.inj hf
                        subst hq
                        exact rt_i (r := bz_i false) X hr hlk hK (bz_n _) hP hD hS d_P_isIndexedForm_91
                      · replace hf := (if_neg hk11).symm.trans hf
                        by_cases hk12 : x1 = (11 : Int32)
                        · replace hf := (if_pos hk12).symm.trans hf
                          refine lv_tableIn (tgt := 94) (off := 93) hx hb d_P_isIndexedForm_1 (by rw [hk12]; decide) (by rw [hk12]; decide) (by rw [hk12]; rfl) (by decide) ?_
                          refine lv_iconst (v := (1 : Int32)) hx hb d_P_isIndexedForm_94 (by decide) ?_
                          have hq := Option.some.inj hf
                          subst hq
                          exact rt_i (r := bz_i true) X hr hlk hK (bz_n _) hP hD hS d_P_isIndexedForm_95
                        · replace hf := (if_neg hk12).symm.trans hf
                          by_cases hk13 : x1 = (12 : Int32)
                          · replace hf := (if_pos hk13).symm.trans hf
                            refine lv_tableIn (tgt := 94) (off := 93) hx hb d_P_isIndexedForm_1 (by rw [hk13]; decide) (by rw [hk13]; decide) (by rw [hk13]; rfl) (by decide) ?_
                            refine lv_iconst (v := (1 : Int32)) hx hb d_P_isIndexedForm_94 (by decide) ?_
                            have hq := Option.some.inj hf
                            subst hq
                            exact rt_i (r := bz_i true) X hr hlk hK (bz_n _) hP hD hS d_P_isIndexedForm_95
                          · replace hf := (if_neg hk13).symm.trans hf
                            by_cases hk14 : x1 = (13 : Int32)
                            · replace hf := (if_pos hk14).symm.trans hf
                              refine lv_tableIn (tgt := 94) (off := 93) hx hb d_P_isIndexedForm_1 (by rw [hk14]; decide) (by rw [hk14]; decide) (by rw [hk14]; rfl) (by decide) ?_
                              refine lv_iconst (v := (1 : Int32)) hx hb d_P_isIndexedForm_94 (by decide) ?_
                              have hq := Option.some.inj hf
                              subst hq
                              exact rt_i (r := bz_i true) X hr hlk hK (bz_n _) hP hD hS d_P_isIndexedForm_95
                            · replace hf := (if_neg hk14).symm.trans hf
                              by_cases hk15 : x1 = (14 : Int32)
                              · replace hf := (if_pos hk15).symm.trans hf
                                refine lv_tableIn (tgt := 90) (off := 89) hx hb d_P_isIndexedForm_1 (by rw [hk15]; decide) (by rw [hk15]; decide) (by rw [hk15]; rfl) (by decide) ?_
                                refine lv_iconst (v := (0 : Int32)) hx hb d_P_isIndexedForm_90 (by decide) ?_
                                have hq := Option.some.inj hf
                                subst hq
                                exact rt_i (r := bz_i false) X hr hlk hK (bz_n _) hP hD hS d_P_isIndexedForm_91
                              · replace hf := (if_neg hk15).symm.trans hf
                                by_cases hk16 : x1 = (15 : Int32)
                                · replace hf := (if_pos hk16).symm.trans hf
                                  refine lv_tableIn (tgt := 92) (off := 91) hx hb d_P_isIndexedForm_1 (by rw [hk16]; decide) (by rw [hk16]; decide) (by rw [hk16]; rfl) (by decide) ?_
                                  refine lv_iload_n hx hb d_P_isIndexedForm_92 rfl (lv_at hl 1 rfl) ?_
                                  have hq := Option.some.inj hf
                                  subst hq
                                  exact rt_i (r := bz_i x2) X hr hlk hK (bz_n _) hP hD hS d_P_isIndexedForm_93
                                · replace hf := (if_neg hk16).symm.trans hf
                                  refine lv_tableOut (tgt := 94) hx hb d_P_isIndexedForm_1 (by have q0 := lv_neT hk1 (show Int32.toInt (0 : Int32) = 0 by decide); have q1 := lv_neT hk2 (show Int32.toInt (1 : Int32) = 1 by decide); have q2 := lv_neT hk3 (show Int32.toInt (2 : Int32) = 2 by decide); have q3 := lv_neT hk4 (show Int32.toInt (3 : Int32) = 3 by decide); have q4 := lv_neT hk5 (show Int32.toInt (4 : Int32) = 4 by decide); have q5 := lv_neT hk6 (show Int32.toInt (5 : Int32) = 5 by decide); have q6 := lv_neT hk7 (show Int32.toInt (6 : Int32) = 6 by decide); have q7 := lv_neT hk8 (show Int32.toInt (7 : Int32) = 7 by decide); have q8 := lv_neT hk9 (show Int32.toInt (8 : Int32) = 8 by decide); have q9 := lv_neT hk10 (show Int32.toInt (9 : Int32) = 9 by decide); have q10 := lv_neT hk11 (show Int32.toInt (10 : Int32) = 10 by decide); have q11 := lv_neT hk12 (show Int32.toInt (11 : Int32) = 11 by decide); have q12 := lv_neT hk13 (show Int32.toInt (12 : Int32) = 12 by decide); have q13 := lv_neT hk14 (show Int32.toInt (13 : Int32) = 13 by decide); have q14 := lv_neT hk15 (show Int32.toInt (14 : Int32) = 14 by decide); have q15 := lv_neT hk16 (show Int32.toInt (15 : Int32) = 15 by decide); omega) (by decide) ?_
                                  refine lv_iconst (v := (1 : Int32)) hx hb d_P_isIndexedForm_94 (by decide) ?_
                                  have hq := Option.some.inj hf
                                  subst hq
                                  exact rt_i (r := bz_i true) X hr hlk hK (bz_n _) hP hD hS d_P_isIndexedForm_95
set_option maxHeartbeats 4000000 in
set_option maxRecDepth 100000 in
theorem c_tc_P_load {x1 : Int32} {x2 : Int32} {z : Int32 × Int32} (hf : tc_P_load x1 x2 py cb = some z) : cs_i l my_P_load mb_P_load 3 .int rm_c_P_load D (ty_ cI cT) [.ref aP, .int x1, .int x2] (cp_ aY aB aG aP aC cI cT py po cb ga gb gd gc gx gy gu gs gp) (cp_ aY aB aG aP aC cI cT z.2 po cb ga gb gd gc gx gy gu gs gp) z.1 := by
  refine cs_i_of (by decide) (Nat.le_of_ble_eq_true rfl) ?_
  intro p e s m below meth c A ls X hr hlk hK hP hD hS hA hZ hl
  have hx := X.1
  have hb := X.2.1
  have hl : lv_has ls 3 [(0, .ref aP), (1, .int x1), (2, .int x2)] := hl
  unfold tc_P_load at hf
  refine lv_aload_n hx hb d_P_load_0 rfl (lv_at hl 0 rfl) ?_
  refine lv_dup hx hb d_P_load_1 rfl ?_
  refine cp_g_P_cycles_P X hK hP d_P_load_2 ?_
  refine lv_iload_n hx hb d_P_load_5 rfl (lv_at hl 2 rfl) ?_
  refine lv_iadd hx hb d_P_load_6 ?_
  refine cp_p_P_cycles_P (x := (py + x2)) X hK hP hD hS d_P_load_7 (fun H locs hP hD hS => ?_)
  refine lv_aload_n hx hb d_P_load_10 rfl (lv_at hl 0 rfl) ?_
  refine cp_g_P_memory_P X hK hP d_P_load_11 ?_
  refine lv_iload_n hx hb d_P_load_14 rfl (lv_at hl 1 rfl) ?_
  refine lv_iload_n hx hb d_P_load_15 rfl (lv_at hl 2 rfl) ?_
  obtain ⟨z2, hz2, hf⟩ := op_b hf
  refine cf_i (ws2 := (cp_ aY aB aG aP aC cI cT (py + x2) po cb ga gb gd gc gx gy gu gs gp)) X cx_P_67 hK hP hD hS hA hZ hl (c_tc_Y_load (aY := aY) (aB := aB) (cb := cb) hz2) ⟨rfl, rfl, Nat.le_of_ble_eq_true rfl, Nat.le_of_ble_eq_true rfl⟩ [1, 2] [0, 3, 4] [0, 3, 4, 1, 2] rfl rfl rfl rfl (by decide) rfl rfl 0 rfl rfl rfl rfl rfl (Nat.le_of_ble_eq_true rfl) d_P_load_16 (fun H locs hP hD hS => ?_)
  have hq := Option.some.inj hf
  subst hq
  exact rt_i (r := z2) X hr hlk hK rfl hP hD hS d_P_load_19
end CLS

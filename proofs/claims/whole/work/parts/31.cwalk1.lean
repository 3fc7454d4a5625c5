theorem d_G_get_0 : decode mb_G_get 0 = .ok (.iload_n 1, 1) := by decide +kernel
theorem d_G_get_1 : decode mb_G_get 1 = .ok (.tableswitch 112 0 10 #[59, 72, 77, 82, 87, 92, 112, 112, 97, 102, 107], 59) := by decide +kernel
theorem d_G_get_60 : decode mb_G_get 60 = .ok (.aload_n 0, 1) := by decide +kernel
theorem d_G_get_61 : decode mb_G_get 61 = .ok (.getfield 11, 3) := by decide +kernel
theorem d_G_get_64 : decode mb_G_get 64 = .ok (.bipush 8, 2) := by decide +kernel
theorem d_G_get_66 : decode mb_G_get 66 = .ok (.ishl, 1) := by decide +kernel
theorem d_G_get_67 : decode mb_G_get 67 = .ok (.aload_n 0, 1) := by decide +kernel
theorem d_G_get_68 : decode mb_G_get 68 = .ok (.getfield 15, 3) := by decide +kernel
theorem d_G_get_71 : decode mb_G_get 71 = .ok (.ior, 1) := by decide +kernel
theorem d_G_get_72 : decode mb_G_get 72 = .ok (.ireturn, 1) := by decide +kernel
theorem d_G_get_73 : decode mb_G_get 73 = .ok (.aload_n 0, 1) := by decide +kernel
theorem d_G_get_74 : decode mb_G_get 74 = .ok (.getfield 18, 3) := by decide +kernel
theorem d_G_get_77 : decode mb_G_get 77 = .ok (.ireturn, 1) := by decide +kernel
theorem d_G_get_78 : decode mb_G_get 78 = .ok (.aload_n 0, 1) := by decide +kernel
theorem d_G_get_79 : decode mb_G_get 79 = .ok (.getfield 21, 3) := by decide +kernel
theorem d_G_get_82 : decode mb_G_get 82 = .ok (.ireturn, 1) := by decide +kernel
theorem d_G_get_83 : decode mb_G_get 83 = .ok (.aload_n 0, 1) := by decide +kernel
theorem d_G_get_84 : decode mb_G_get 84 = .ok (.getfield 24, 3) := by decide +kernel
theorem d_G_get_87 : decode mb_G_get 87 = .ok (.ireturn, 1) := by decide +kernel
theorem d_G_get_88 : decode mb_G_get 88 = .ok (.aload_n 0, 1) := by decide +kernel
theorem d_G_get_89 : decode mb_G_get 89 = .ok (.getfield 27, 3) := by decide +kernel
theorem d_G_get_92 : decode mb_G_get 92 = .ok (.ireturn, 1) := by decide +kernel
theorem d_G_get_93 : decode mb_G_get 93 = .ok (.aload_n 0, 1) := by decide +kernel
theorem d_G_get_94 : decode mb_G_get 94 = .ok (.getfield 30, 3) := by decide +kernel
theorem d_G_get_97 : decode mb_G_get 97 = .ok (.ireturn, 1) := by decide +kernel
theorem d_G_get_98 : decode mb_G_get 98 = .ok (.aload_n 0, 1) := by decide +kernel
theorem d_G_get_99 : decode mb_G_get 99 = .ok (.getfield 11, 3) := by decide +kernel
theorem d_G_get_102 : decode mb_G_get 102 = .ok (.ireturn, 1) := by decide +kernel
theorem d_G_get_103 : decode mb_G_get 103 = .ok (.aload_n 0, 1) := by decide +kernel
theorem d_G_get_104 : decode mb_G_get 104 = .ok (.getfield 15, 3) := by decide +kernel
theorem d_G_get_107 : decode mb_G_get 107 = .ok (.ireturn, 1) := by decide +kernel
theorem d_G_get_108 : decode mb_G_get 108 = .ok (.aload_n 0, 1) := by decide +kernel
theorem d_G_get_109 : decode mb_G_get 109 = .ok (.getfield 33, 3) := by decide +kernel
theorem d_G_get_112 : decode mb_G_get 112 = .ok (.ireturn, 1) := by decide +kernel
theorem d_G_get_113 : decode mb_G_get 113 = .ok (.aload_n 0, 1) := by decide +kernel
theorem d_G_get_114 : decode mb_G_get 114 = .ok (.getfield 36, 3) := by decide +kernel
theorem d_G_get_117 : decode mb_G_get 117 = .ok (.ireturn, 1) := by decide +kernel
theorem d_Y_load_0 : decode mb_Y_load 0 = .ok (.iconst 0, 1) := by decide +kernel
theorem d_Y_load_1 : decode mb_Y_load 1 = .ok (.istore_n 3, 1) := by decide +kernel
theorem d_Y_load_2 : decode mb_Y_load 2 = .ok (.iconst 0, 1) := by decide +kernel
theorem d_Y_load_3 : decode mb_Y_load 3 = .ok (.istore 4, 2) := by decide +kernel
theorem d_Y_load_5 : decode mb_Y_load 5 = .ok (.iload 4, 2) := by decide +kernel
theorem d_Y_load_7 : decode mb_Y_load 7 = .ok (.iload_n 2, 1) := by decide +kernel
theorem d_Y_load_8 : decode mb_Y_load 8 = .ok (.if_icmp .ge 43, 3) := by decide +kernel
theorem d_Y_load_11 : decode mb_Y_load 11 = .ok (.iload_n 1, 1) := by decide +kernel
theorem d_Y_load_12 : decode mb_Y_load 12 = .ok (.iload 4, 2) := by decide +kernel
theorem d_Y_load_14 : decode mb_Y_load 14 = .ok (.iadd, 1) := by decide +kernel
theorem d_Y_load_15 : decode mb_Y_load 15 = .ok (.ldc 15, 2) := by decide +kernel
theorem d_Y_load_17 : decode mb_Y_load 17 = .ok (.iand, 1) := by decide +kernel
theorem d_Y_load_18 : decode mb_Y_load 18 = .ok (.istore 5, 2) := by decide +kernel
theorem d_Y_load_20 : decode mb_Y_load 20 = .ok (.iload_n 3, 1) := by decide +kernel
theorem d_Y_load_21 : decode mb_Y_load 21 = .ok (.bipush 8, 2) := by decide +kernel
theorem d_Y_load_23 : decode mb_Y_load 23 = .ok (.ishl, 1) := by decide +kernel
theorem d_Y_load_24 : decode mb_Y_load 24 = .ok (.iload 5, 2) := by decide +kernel
theorem d_Y_load_26 : decode mb_Y_load 26 = .ok (.sipush 512, 3) := by decide +kernel
theorem d_Y_load_29 : decode mb_Y_load 29 = .ok (.if_icmp .ge 13, 3) := by decide +kernel
theorem d_Y_load_32 : decode mb_Y_load 32 = .ok (.aload_n 0, 1) := by decide +kernel
theorem d_Y_load_33 : decode mb_Y_load 33 = .ok (.getfield 11, 3) := by decide +kernel
theorem d_Y_load_36 : decode mb_Y_load 36 = .ok (.iload 5, 2) := by decide +kernel
theorem d_Y_load_38 : decode mb_Y_load 38 = .ok (.iaload, 1) := by decide +kernel
theorem d_Y_load_39 : decode mb_Y_load 39 = .ok (.goto 4, 3) := by decide +kernel
theorem d_Y_load_42 : decode mb_Y_load 42 = .ok (.iconst 0, 1) := by decide +kernel
theorem d_Y_load_43 : decode mb_Y_load 43 = .ok (.ior, 1) := by decide +kernel
theorem d_Y_load_44 : decode mb_Y_load 44 = .ok (.istore_n 3, 1) := by decide +kernel
theorem d_Y_load_45 : decode mb_Y_load 45 = .ok (.iinc 4 1, 3) := by decide +kernel
theorem d_Y_load_48 : decode mb_Y_load 48 = .ok (.goto (-43), 3) := by decide +kernel
theorem d_Y_load_51 : decode mb_Y_load 51 = .ok (.iload_n 3, 1) := by decide +kernel
theorem d_Y_load_52 : decode mb_Y_load 52 = .ok (.ireturn, 1) := by decide +kernel
theorem d_G_pull_0 : decode mb_G_pull 0 = .ok (.iconst 0, 1) := by decide +kernel
theorem d_G_pull_1 : decode mb_G_pull 1 = .ok (.istore 4, 2) := by decide +kernel
theorem d_G_pull_3 : decode mb_G_pull 3 = .ok (.iconst 0, 1) := by decide +kernel
theorem d_G_pull_4 : decode mb_G_pull 4 = .ok (.istore 5, 2) := by decide +kernel
theorem d_G_pull_6 : decode mb_G_pull 6 = .ok (.iload 5, 2) := by decide +kernel
theorem d_G_pull_8 : decode mb_G_pull 8 = .ok (.bipush 7, 2) := by decide +kernel
theorem d_G_pull_10 : decode mb_G_pull 10 = .ok (.if_icmp .gt 71, 3) := by decide +kernel
theorem d_G_pull_13 : decode mb_G_pull 13 = .ok (.iload_n 3, 1) := by decide +kernel
theorem d_G_pull_14 : decode mb_G_pull 14 = .ok (.iload 5, 2) := by decide +kernel
theorem d_G_pull_16 : decode mb_G_pull 16 = .ok (.ishr, 1) := by decide +kernel
theorem d_G_pull_17 : decode mb_G_pull 17 = .ok (.iconst 1, 1) := by decide +kernel
theorem d_G_pull_18 : decode mb_G_pull 18 = .ok (.iand, 1) := by decide +kernel
theorem d_G_pull_19 : decode mb_G_pull 19 = .ok (.iconst 1, 1) := by decide +kernel
theorem d_G_pull_20 : decode mb_G_pull 20 = .ok (.if_icmp .ne 55, 3) := by decide +kernel
theorem d_G_pull_23 : decode mb_G_pull 23 = .ok (.iload 5, 2) := by decide +kernel
theorem d_G_pull_25 : decode mb_G_pull 25 = .ok (.iload_n 2, 1) := by decide +kernel
theorem d_G_pull_26 : decode mb_G_pull 26 = .ok (.invokestatic 40, 3) := by decide +kernel
theorem d_G_pull_29 : decode mb_G_pull 29 = .ok (.istore 6, 2) := by decide +kernel
theorem d_G_pull_31 : decode mb_G_pull 31 = .ok (.iload 6, 2) := by decide +kernel
theorem d_G_pull_33 : decode mb_G_pull 33 = .ok (.invokestatic 44, 3) := by decide +kernel
theorem d_G_pull_36 : decode mb_G_pull 36 = .ok (.istore 7, 2) := by decide +kernel
theorem d_G_pull_38 : decode mb_G_pull 38 = .ok (.aload_n 0, 1) := by decide +kernel
theorem d_G_pull_39 : decode mb_G_pull 39 = .ok (.iload 6, 2) := by decide +kernel
theorem d_G_pull_41 : decode mb_G_pull 41 = .ok (.aload_n 1, 1) := by decide +kernel
theorem d_G_pull_42 : decode mb_G_pull 42 = .ok (.aload_n 0, 1) := by decide +kernel
theorem d_G_pull_43 : decode mb_G_pull 43 = .ok (.iload_n 2, 1) := by decide +kernel
theorem d_G_pull_44 : decode mb_G_pull 44 = .ok (.invokevirtual 48, 3) := by decide +kernel
theorem d_G_pull_47 : decode mb_G_pull 47 = .ok (.iload 7, 2) := by decide +kernel
theorem d_G_pull_49 : decode mb_G_pull 49 = .ok (.invokevirtual 61, 3) := by decide +kernel
theorem d_G_pull_52 : decode mb_G_pull 52 = .ok (.invokevirtual 51, 3) := by decide +kernel
theorem d_G_pull_55 : decode mb_G_pull 55 = .ok (.aload_n 0, 1) := by decide +kernel
theorem d_G_pull_56 : decode mb_G_pull 56 = .ok (.iload_n 2, 1) := by decide +kernel
theorem d_G_pull_57 : decode mb_G_pull 57 = .ok (.aload_n 0, 1) := by decide +kernel
theorem d_G_pull_58 : decode mb_G_pull 58 = .ok (.iload_n 2, 1) := by decide +kernel
theorem d_G_pull_59 : decode mb_G_pull 59 = .ok (.invokevirtual 48, 3) := by decide +kernel
theorem d_G_pull_62 : decode mb_G_pull 62 = .ok (.iload 7, 2) := by decide +kernel
theorem d_G_pull_64 : decode mb_G_pull 64 = .ok (.iadd, 1) := by decide +kernel
theorem d_G_pull_65 : decode mb_G_pull 65 = .ok (.invokevirtual 51, 3) := by decide +kernel
theorem d_G_pull_68 : decode mb_G_pull 68 = .ok (.iload 4, 2) := by decide +kernel
theorem d_G_pull_70 : decode mb_G_pull 70 = .ok (.iload 7, 2) := by decide +kernel
theorem d_G_pull_72 : decode mb_G_pull 72 = .ok (.iadd, 1) := by decide +kernel
theorem d_G_pull_73 : decode mb_G_pull 73 = .ok (.istore 4, 2) := by decide +kernel
theorem d_G_pull_75 : decode mb_G_pull 75 = .ok (.iinc 5 1, 3) := by decide +kernel
theorem d_G_pull_78 : decode mb_G_pull 78 = .ok (.goto (-72), 3) := by decide +kernel
theorem d_G_pull_81 : decode mb_G_pull 81 = .ok (.iload 4, 2) := by decide +kernel
theorem d_G_pull_83 : decode mb_G_pull 83 = .ok (.ireturn, 1) := by decide +kernel
theorem d_K_take_0 : decode mb_K_take 0 = .ok (.aload_n 2, 1) := by decide +kernel
theorem d_K_take_1 : decode mb_K_take 1 = .ok (.aload_n 1, 1) := by decide +kernel
theorem d_K_take_2 : decode mb_K_take 2 = .ok (.getfield 147, 3) := by decide +kernel
theorem d_K_take_5 : decode mb_K_take 5 = .ok (.putfield 76, 3) := by decide +kernel
theorem d_K_take_8 : decode mb_K_take 8 = .ok (.aload_n 2, 1) := by decide +kernel
theorem d_K_take_9 : decode mb_K_take 9 = .ok (.aload_n 0, 1) := by decide +kernel
theorem d_K_take_10 : decode mb_K_take 10 = .ok (.getfield 33, 3) := by decide +kernel
theorem d_K_take_13 : decode mb_K_take 13 = .ok (.iconst 4, 1) := by decide +kernel
theorem d_K_take_14 : decode mb_K_take 14 = .ok (.sipush 255, 3) := by decide +kernel
theorem d_K_take_17 : decode mb_K_take 17 = .ok (.invokevirtual 163, 3) := by decide +kernel
theorem d_K_take_20 : decode mb_K_take 20 = .ok (.pop, 1) := by decide +kernel
theorem d_K_take_21 : decode mb_K_take 21 = .ok (.return_, 1) := by decide +kernel
theorem d_K_registersOf_0 : decode mb_K_registersOf 0 = .ok (.aload_n 1, 1) := by decide +kernel
theorem d_K_registersOf_1 : decode mb_K_registersOf 1 = .ok (.aload_n 0, 1) := by decide +kernel
theorem d_K_registersOf_2 : decode mb_K_registersOf 2 = .ok (.getfield 41, 3) := by decide +kernel
theorem d_K_registersOf_5 : decode mb_K_registersOf 5 = .ok (.if_acmp .ne 8, 3) := by decide +kernel
theorem d_K_registersOf_8 : decode mb_K_registersOf 8 = .ok (.aload_n 0, 1) := by decide +kernel
theorem d_K_registersOf_9 : decode mb_K_registersOf 9 = .ok (.getfield 37, 3) := by decide +kernel
theorem d_K_registersOf_12 : decode mb_K_registersOf 12 = .ok (.areturn, 1) := by decide +kernel
theorem d_K_registersOf_13 : decode mb_K_registersOf 13 = .ok (.aload_n 0, 1) := by decide +kernel
theorem d_K_registersOf_14 : decode mb_K_registersOf 14 = .ok (.aload_n 1, 1) := by decide +kernel
theorem d_K_registersOf_15 : decode mb_K_registersOf 15 = .ok (.aload_n 0, 1) := by decide +kernel
theorem d_K_registersOf_16 : decode mb_K_registersOf 16 = .ok (.getfield 23, 3) := by decide +kernel
theorem d_K_registersOf_19 : decode mb_K_registersOf 19 = .ok (.invokevirtual 45, 3) := by decide +kernel
theorem d_K_registersOf_22 : decode mb_K_registersOf 22 = .ok (.aload_n 0, 1) := by decide +kernel
theorem d_K_registersOf_23 : decode mb_K_registersOf 23 = .ok (.getfield 23, 3) := by decide +kernel
theorem d_K_registersOf_26 : decode mb_K_registersOf 26 = .ok (.areturn, 1) := by decide +kernel
theorem d_Y_store_0 : decode mb_Y_store 0 = .ok (.iload_n 2, 1) := by decide +kernel
theorem d_Y_store_1 : decode mb_Y_store 1 = .ok (.istore 4, 2) := by decide +kernel
theorem d_Y_store_3 : decode mb_Y_store 3 = .ok (.iload_n 3, 1) := by decide +kernel
theorem d_Y_store_4 : decode mb_Y_store 4 = .ok (.iconst 1, 1) := by decide +kernel
theorem d_Y_store_5 : decode mb_Y_store 5 = .ok (.isub, 1) := by decide +kernel
theorem d_Y_store_6 : decode mb_Y_store 6 = .ok (.istore 5, 2) := by decide +kernel
theorem d_Y_store_8 : decode mb_Y_store 8 = .ok (.iload 5, 2) := by decide +kernel
theorem d_Y_store_10 : decode mb_Y_store 10 = .ok (.ifCond .lt 46, 3) := by decide +kernel
theorem d_Y_store_13 : decode mb_Y_store 13 = .ok (.iload_n 1, 1) := by decide +kernel
theorem d_Y_store_14 : decode mb_Y_store 14 = .ok (.iload 5, 2) := by decide +kernel
theorem d_Y_store_16 : decode mb_Y_store 16 = .ok (.iadd, 1) := by decide +kernel
theorem d_Y_store_17 : decode mb_Y_store 17 = .ok (.ldc 15, 2) := by decide +kernel
theorem d_Y_store_19 : decode mb_Y_store 19 = .ok (.iand, 1) := by decide +kernel
theorem d_Y_store_20 : decode mb_Y_store 20 = .ok (.istore 6, 2) := by decide +kernel
theorem d_Y_store_22 : decode mb_Y_store 22 = .ok (.iload 6, 2) := by decide +kernel
theorem d_Y_store_24 : decode mb_Y_store 24 = .ok (.sipush 512, 3) := by decide +kernel
theorem d_Y_store_27 : decode mb_Y_store 27 = .ok (.if_icmp .ge 16, 3) := by decide +kernel
theorem d_Y_store_30 : decode mb_Y_store 30 = .ok (.aload_n 0, 1) := by decide +kernel
theorem d_Y_store_31 : decode mb_Y_store 31 = .ok (.getfield 11, 3) := by decide +kernel
theorem d_Y_store_34 : decode mb_Y_store 34 = .ok (.iload 6, 2) := by decide +kernel
theorem d_Y_store_36 : decode mb_Y_store 36 = .ok (.iload 4, 2) := by decide +kernel
theorem d_Y_store_38 : decode mb_Y_store 38 = .ok (.sipush 255, 3) := by decide +kernel
theorem d_Y_store_41 : decode mb_Y_store 41 = .ok (.iand, 1) := by decide +kernel
theorem d_Y_store_42 : decode mb_Y_store 42 = .ok (.iastore, 1) := by decide +kernel
theorem d_Y_store_43 : decode mb_Y_store 43 = .ok (.iload 4, 2) := by decide +kernel
theorem d_Y_store_45 : decode mb_Y_store 45 = .ok (.bipush 8, 2) := by decide +kernel
theorem d_Y_store_47 : decode mb_Y_store 47 = .ok (.ishr, 1) := by decide +kernel
theorem d_Y_store_48 : decode mb_Y_store 48 = .ok (.istore 4, 2) := by decide +kernel
theorem d_Y_store_50 : decode mb_Y_store 50 = .ok (.iinc 5 (-1), 3) := by decide +kernel
theorem d_Y_store_53 : decode mb_Y_store 53 = .ok (.goto (-45), 3) := by decide +kernel
theorem d_Y_store_56 : decode mb_Y_store 56 = .ok (.return_, 1) := by decide +kernel
theorem d_G_push_0 : decode mb_G_push 0 = .ok (.iconst 0, 1) := by decide +kernel
theorem d_G_push_1 : decode mb_G_push 1 = .ok (.istore 4, 2) := by decide +kernel
theorem d_G_push_3 : decode mb_G_push 3 = .ok (.bipush 7, 2) := by decide +kernel
theorem d_G_push_5 : decode mb_G_push 5 = .ok (.istore 5, 2) := by decide +kernel
theorem d_G_push_7 : decode mb_G_push 7 = .ok (.iload 5, 2) := by decide +kernel
theorem d_G_push_9 : decode mb_G_push 9 = .ok (.ifCond .lt 71, 3) := by decide +kernel
theorem d_G_push_12 : decode mb_G_push 12 = .ok (.iload_n 3, 1) := by decide +kernel
theorem d_G_push_13 : decode mb_G_push 13 = .ok (.iload 5, 2) := by decide +kernel
theorem d_G_push_15 : decode mb_G_push 15 = .ok (.ishr, 1) := by decide +kernel
theorem d_G_push_16 : decode mb_G_push 16 = .ok (.iconst 1, 1) := by decide +kernel
theorem d_G_push_17 : decode mb_G_push 17 = .ok (.iand, 1) := by decide +kernel
theorem d_G_push_18 : decode mb_G_push 18 = .ok (.iconst 1, 1) := by decide +kernel
theorem d_G_push_19 : decode mb_G_push 19 = .ok (.if_icmp .ne 55, 3) := by decide +kernel
theorem d_G_push_22 : decode mb_G_push 22 = .ok (.iload 5, 2) := by decide +kernel
theorem d_G_push_24 : decode mb_G_push 24 = .ok (.iload_n 2, 1) := by decide +kernel
theorem d_G_push_25 : decode mb_G_push 25 = .ok (.invokestatic 40, 3) := by decide +kernel
theorem d_G_push_28 : decode mb_G_push 28 = .ok (.istore 6, 2) := by decide +kernel
theorem d_G_push_30 : decode mb_G_push 30 = .ok (.iload 6, 2) := by decide +kernel
theorem d_G_push_32 : decode mb_G_push 32 = .ok (.invokestatic 44, 3) := by decide +kernel
theorem d_G_push_35 : decode mb_G_push 35 = .ok (.istore 7, 2) := by decide +kernel
theorem d_G_push_37 : decode mb_G_push 37 = .ok (.aload_n 0, 1) := by decide +kernel
theorem d_G_push_38 : decode mb_G_push 38 = .ok (.iload_n 2, 1) := by decide +kernel
theorem d_G_push_39 : decode mb_G_push 39 = .ok (.aload_n 0, 1) := by decide +kernel
theorem d_G_push_40 : decode mb_G_push 40 = .ok (.iload_n 2, 1) := by decide +kernel
theorem d_G_push_41 : decode mb_G_push 41 = .ok (.invokevirtual 48, 3) := by decide +kernel
theorem d_G_push_44 : decode mb_G_push 44 = .ok (.iload 7, 2) := by decide +kernel
theorem d_G_push_46 : decode mb_G_push 46 = .ok (.isub, 1) := by decide +kernel
theorem d_G_push_47 : decode mb_G_push 47 = .ok (.invokevirtual 51, 3) := by decide +kernel
theorem d_G_push_50 : decode mb_G_push 50 = .ok (.aload_n 1, 1) := by decide +kernel
theorem d_G_push_51 : decode mb_G_push 51 = .ok (.aload_n 0, 1) := by decide +kernel
theorem d_G_push_52 : decode mb_G_push 52 = .ok (.iload_n 2, 1) := by decide +kernel
theorem d_G_push_53 : decode mb_G_push 53 = .ok (.invokevirtual 48, 3) := by decide +kernel
theorem d_G_push_56 : decode mb_G_push 56 = .ok (.aload_n 0, 1) := by decide +kernel
theorem d_G_push_57 : decode mb_G_push 57 = .ok (.iload 6, 2) := by decide +kernel
theorem d_G_push_59 : decode mb_G_push 59 = .ok (.invokevirtual 48, 3) := by decide +kernel
theorem d_G_push_62 : decode mb_G_push 62 = .ok (.iload 7, 2) := by decide +kernel
theorem d_G_push_64 : decode mb_G_push 64 = .ok (.invokevirtual 55, 3) := by decide +kernel
theorem d_G_push_67 : decode mb_G_push 67 = .ok (.iload 4, 2) := by decide +kernel
theorem d_G_push_69 : decode mb_G_push 69 = .ok (.iload 7, 2) := by decide +kernel
theorem d_G_push_71 : decode mb_G_push 71 = .ok (.iadd, 1) := by decide +kernel
theorem d_G_push_72 : decode mb_G_push 72 = .ok (.istore 4, 2) := by decide +kernel
theorem d_G_push_74 : decode mb_G_push 74 = .ok (.iinc 5 (-1), 3) := by decide +kernel
theorem d_G_push_77 : decode mb_G_push 77 = .ok (.goto (-70), 3) := by decide +kernel
theorem d_G_push_80 : decode mb_G_push 80 = .ok (.iload 4, 2) := by decide +kernel
theorem d_G_push_82 : decode mb_G_push 82 = .ok (.ireturn, 1) := by decide +kernel
theorem d_K_stack_0 : decode mb_K_stack 0 = .ok (.aload_n 2, 1) := by decide +kernel
theorem d_K_stack_1 : decode mb_K_stack 1 = .ok (.dup, 1) := by decide +kernel
theorem d_K_stack_2 : decode mb_K_stack 2 = .ok (.getfield 59, 3) := by decide +kernel
theorem d_K_stack_5 : decode mb_K_stack 5 = .ok (.sipush 128, 3) := by decide +kernel
theorem d_K_stack_8 : decode mb_K_stack 8 = .ok (.ior, 1) := by decide +kernel
theorem d_K_stack_9 : decode mb_K_stack 9 = .ok (.putfield 59, 3) := by decide +kernel
theorem d_K_stack_12 : decode mb_K_stack 12 = .ok (.aload_n 2, 1) := by decide +kernel
theorem d_K_stack_13 : decode mb_K_stack 13 = .ok (.aload_n 0, 1) := by decide +kernel
theorem d_K_stack_14 : decode mb_K_stack 14 = .ok (.getfield 33, 3) := by decide +kernel
theorem d_K_stack_17 : decode mb_K_stack 17 = .ok (.iconst 4, 1) := by decide +kernel
theorem d_K_stack_18 : decode mb_K_stack 18 = .ok (.sipush 255, 3) := by decide +kernel
theorem d_K_stack_21 : decode mb_K_stack 21 = .ok (.invokevirtual 159, 3) := by decide +kernel
theorem d_K_stack_24 : decode mb_K_stack 24 = .ok (.pop, 1) := by decide +kernel
theorem d_K_stack_25 : decode mb_K_stack 25 = .ok (.aload_n 1, 1) := by decide +kernel
theorem d_K_stack_26 : decode mb_K_stack 26 = .ok (.aload_n 2, 1) := by decide +kernel
theorem d_K_stack_27 : decode mb_K_stack 27 = .ok (.getfield 76, 3) := by decide +kernel
theorem d_K_stack_30 : decode mb_K_stack 30 = .ok (.putfield 147, 3) := by decide +kernel
theorem d_K_stack_33 : decode mb_K_stack 33 = .ok (.return_, 1) := by decide +kernel
theorem d_Q_append_0 : decode mb_Q_append 0 = .ok (.aload_n 0, 1) := by decide +kernel
theorem d_Q_append_1 : decode mb_Q_append 1 = .ok (.getfield 17, 3) := by decide +kernel
theorem d_Q_append_4 : decode mb_Q_append 4 = .ok (.aload_n 0, 1) := by decide +kernel
theorem d_Q_append_5 : decode mb_Q_append 5 = .ok (.getfield 11, 3) := by decide +kernel
theorem d_Q_append_8 : decode mb_Q_append 8 = .ok (.arraylength, 1) := by decide +kernel
theorem d_Q_append_9 : decode mb_Q_append 9 = .ok (.if_icmp .ge 23, 3) := by decide +kernel
theorem d_Q_append_12 : decode mb_Q_append 12 = .ok (.aload_n 0, 1) := by decide +kernel
theorem d_Q_append_13 : decode mb_Q_append 13 = .ok (.getfield 11, 3) := by decide +kernel
theorem d_Q_append_16 : decode mb_Q_append 16 = .ok (.aload_n 0, 1) := by decide +kernel
theorem d_Q_append_17 : decode mb_Q_append 17 = .ok (.getfield 17, 3) := by decide +kernel
theorem d_Q_append_20 : decode mb_Q_append 20 = .ok (.aload_n 1, 1) := by decide +kernel
theorem d_Q_append_21 : decode mb_Q_append 21 = .ok (.aastore, 1) := by decide +kernel
theorem d_Q_append_22 : decode mb_Q_append 22 = .ok (.aload_n 0, 1) := by decide +kernel
theorem d_Q_append_23 : decode mb_Q_append 23 = .ok (.dup, 1) := by decide +kernel
theorem d_Q_append_24 : decode mb_Q_append 24 = .ok (.getfield 17, 3) := by decide +kernel
theorem d_Q_append_27 : decode mb_Q_append 27 = .ok (.iconst 1, 1) := by decide +kernel
theorem d_Q_append_28 : decode mb_Q_append 28 = .ok (.iadd, 1) := by decide +kernel
theorem d_Q_append_29 : decode mb_Q_append 29 = .ok (.putfield 17, 3) := by decide +kernel
theorem d_Q_append_32 : decode mb_Q_append 32 = .ok (.return_, 1) := by decide +kernel
theorem d_K_makeReady_0 : decode mb_K_makeReady 0 = .ok (.aload_n 1, 1) := by decide +kernel
theorem d_K_makeReady_1 : decode mb_K_makeReady 1 = .ok (.iconst 2, 1) := by decide +kernel
theorem d_K_makeReady_2 : decode mb_K_makeReady 2 = .ok (.putfield 92, 3) := by decide +kernel
theorem d_K_makeReady_5 : decode mb_K_makeReady 5 = .ok (.aload_n 0, 1) := by decide +kernel
theorem d_K_makeReady_6 : decode mb_K_makeReady 6 = .ok (.getfield 16, 3) := by decide +kernel
theorem d_K_makeReady_9 : decode mb_K_makeReady 9 = .ok (.aload_n 1, 1) := by decide +kernel
theorem d_K_makeReady_10 : decode mb_K_makeReady 10 = .ok (.invokevirtual 156, 3) := by decide +kernel
theorem d_K_makeReady_13 : decode mb_K_makeReady 13 = .ok (.return_, 1) := by decide +kernel
theorem d_K_begin_0 : decode mb_K_begin 0 = .ok (.aload_n 0, 1) := by decide +kernel
theorem d_K_begin_1 : decode mb_K_begin 1 = .ok (.getfield 23, 3) := by decide +kernel
theorem d_K_begin_4 : decode mb_K_begin 4 = .ok (.iload_n 3, 1) := by decide +kernel
theorem d_K_begin_5 : decode mb_K_begin 5 = .ok (.putfield 49, 3) := by decide +kernel
theorem d_K_begin_8 : decode mb_K_begin 8 = .ok (.aload_n 0, 1) := by decide +kernel
theorem d_K_begin_9 : decode mb_K_begin 9 = .ok (.getfield 23, 3) := by decide +kernel
theorem d_K_begin_12 : decode mb_K_begin 12 = .ok (.iconst 0, 1) := by decide +kernel
theorem d_K_begin_13 : decode mb_K_begin 13 = .ok (.putfield 53, 3) := by decide +kernel
theorem d_K_begin_16 : decode mb_K_begin 16 = .ok (.aload_n 0, 1) := by decide +kernel
theorem d_K_begin_17 : decode mb_K_begin 17 = .ok (.getfield 23, 3) := by decide +kernel
theorem d_K_begin_20 : decode mb_K_begin 20 = .ok (.iconst 0, 1) := by decide +kernel
theorem d_K_begin_21 : decode mb_K_begin 21 = .ok (.putfield 56, 3) := by decide +kernel
theorem d_K_begin_24 : decode mb_K_begin 24 = .ok (.aload_n 0, 1) := by decide +kernel
theorem d_K_begin_25 : decode mb_K_begin 25 = .ok (.getfield 23, 3) := by decide +kernel
theorem d_K_begin_28 : decode mb_K_begin 28 = .ok (.iconst 0, 1) := by decide +kernel
theorem d_K_begin_29 : decode mb_K_begin 29 = .ok (.putfield 59, 3) := by decide +kernel
theorem d_K_begin_32 : decode mb_K_begin 32 = .ok (.aload_n 0, 1) := by decide +kernel
theorem d_K_begin_33 : decode mb_K_begin 33 = .ok (.getfield 23, 3) := by decide +kernel
theorem d_K_begin_36 : decode mb_K_begin 36 = .ok (.iconst 0, 1) := by decide +kernel
theorem d_K_begin_37 : decode mb_K_begin 37 = .ok (.putfield 62, 3) := by decide +kernel
theorem d_K_begin_40 : decode mb_K_begin 40 = .ok (.aload_n 0, 1) := by decide +kernel
theorem d_K_begin_41 : decode mb_K_begin 41 = .ok (.getfield 23, 3) := by decide +kernel
theorem d_K_begin_44 : decode mb_K_begin 44 = .ok (.iconst 0, 1) := by decide +kernel
theorem d_K_begin_45 : decode mb_K_begin 45 = .ok (.putfield 65, 3) := by decide +kernel
theorem d_K_begin_48 : decode mb_K_begin 48 = .ok (.aload_n 0, 1) := by decide +kernel
theorem d_K_begin_49 : decode mb_K_begin 49 = .ok (.getfield 23, 3) := by decide +kernel
theorem d_K_begin_52 : decode mb_K_begin 52 = .ok (.iconst 0, 1) := by decide +kernel
theorem d_K_begin_53 : decode mb_K_begin 53 = .ok (.putfield 68, 3) := by decide +kernel
theorem d_K_begin_56 : decode mb_K_begin 56 = .ok (.aload_n 0, 1) := by decide +kernel
theorem d_K_begin_57 : decode mb_K_begin 57 = .ok (.getfield 23, 3) := by decide +kernel
theorem d_K_begin_60 : decode mb_K_begin 60 = .ok (.sipush 128, 3) := by decide +kernel
theorem d_K_begin_63 : decode mb_K_begin 63 = .ok (.aload_n 1, 1) := by decide +kernel
theorem d_K_begin_64 : decode mb_K_begin 64 = .ok (.getfield 73, 3) := by decide +kernel
theorem d_K_begin_67 : decode mb_K_begin 67 = .ok (.imul, 1) := by decide +kernel
theorem d_K_begin_68 : decode mb_K_begin 68 = .ok (.sipush 128, 3) := by decide +kernel
theorem d_K_begin_71 : decode mb_K_begin 71 = .ok (.iadd, 1) := by decide +kernel
theorem d_K_begin_72 : decode mb_K_begin 72 = .ok (.putfield 76, 3) := by decide +kernel
theorem d_K_begin_75 : decode mb_K_begin 75 = .ok (.aload_n 0, 1) := by decide +kernel
theorem d_K_begin_76 : decode mb_K_begin 76 = .ok (.getfield 23, 3) := by decide +kernel
theorem d_K_begin_79 : decode mb_K_begin 79 = .ok (.iload_n 2, 1) := by decide +kernel
theorem d_K_begin_80 : decode mb_K_begin 80 = .ok (.putfield 79, 3) := by decide +kernel
theorem d_K_begin_83 : decode mb_K_begin 83 = .ok (.aload_n 0, 1) := by decide +kernel
theorem d_K_begin_84 : decode mb_K_begin 84 = .ok (.aload_n 1, 1) := by decide +kernel
theorem d_K_begin_85 : decode mb_K_begin 85 = .ok (.aload_n 0, 1) := by decide +kernel
theorem d_K_begin_86 : decode mb_K_begin 86 = .ok (.getfield 23, 3) := by decide +kernel
theorem d_K_begin_89 : decode mb_K_begin 89 = .ok (.invokevirtual 82, 3) := by decide +kernel
theorem d_K_begin_92 : decode mb_K_begin 92 = .ok (.aload_n 0, 1) := by decide +kernel
theorem d_K_begin_93 : decode mb_K_begin 93 = .ok (.aload_n 1, 1) := by decide +kernel
theorem d_K_begin_94 : decode mb_K_begin 94 = .ok (.invokevirtual 85, 3) := by decide +kernel
theorem d_K_begin_97 : decode mb_K_begin 97 = .ok (.return_, 1) := by decide +kernel
theorem d_Q_remove_0 : decode mb_Q_remove 0 = .ok (.iconst 0, 1) := by decide +kernel
theorem d_Q_remove_1 : decode mb_Q_remove 1 = .ok (.istore_n 2, 1) := by decide +kernel
theorem d_Q_remove_2 : decode mb_Q_remove 2 = .ok (.iconst 0, 1) := by decide +kernel
theorem d_Q_remove_3 : decode mb_Q_remove 3 = .ok (.istore_n 3, 1) := by decide +kernel
theorem d_Q_remove_4 : decode mb_Q_remove 4 = .ok (.iload_n 3, 1) := by decide +kernel
theorem d_Q_remove_5 : decode mb_Q_remove 5 = .ok (.aload_n 0, 1) := by decide +kernel
theorem d_Q_remove_6 : decode mb_Q_remove 6 = .ok (.getfield 17, 3) := by decide +kernel
theorem d_Q_remove_9 : decode mb_Q_remove 9 = .ok (.if_icmp .ge 34, 3) := by decide +kernel
theorem d_Q_remove_12 : decode mb_Q_remove 12 = .ok (.aload_n 0, 1) := by decide +kernel
theorem d_Q_remove_13 : decode mb_Q_remove 13 = .ok (.getfield 11, 3) := by decide +kernel
theorem d_Q_remove_16 : decode mb_Q_remove 16 = .ok (.iload_n 3, 1) := by decide +kernel
theorem d_Q_remove_17 : decode mb_Q_remove 17 = .ok (.aaload, 1) := by decide +kernel
theorem d_Q_remove_18 : decode mb_Q_remove 18 = .ok (.aload_n 1, 1) := by decide +kernel
theorem d_Q_remove_19 : decode mb_Q_remove 19 = .ok (.if_acmp .eq 18, 3) := by decide +kernel
theorem d_Q_remove_22 : decode mb_Q_remove 22 = .ok (.aload_n 0, 1) := by decide +kernel
theorem d_Q_remove_23 : decode mb_Q_remove 23 = .ok (.getfield 11, 3) := by decide +kernel
theorem d_Q_remove_26 : decode mb_Q_remove 26 = .ok (.iload_n 2, 1) := by decide +kernel
theorem d_Q_remove_27 : decode mb_Q_remove 27 = .ok (.aload_n 0, 1) := by decide +kernel
theorem d_Q_remove_28 : decode mb_Q_remove 28 = .ok (.getfield 11, 3) := by decide +kernel
theorem d_Q_remove_31 : decode mb_Q_remove 31 = .ok (.iload_n 3, 1) := by decide +kernel
theorem d_Q_remove_32 : decode mb_Q_remove 32 = .ok (.aaload, 1) := by decide +kernel
theorem d_Q_remove_33 : decode mb_Q_remove 33 = .ok (.aastore, 1) := by decide +kernel
theorem d_Q_remove_34 : decode mb_Q_remove 34 = .ok (.iinc 2 1, 3) := by decide +kernel
theorem d_Q_remove_37 : decode mb_Q_remove 37 = .ok (.iinc 3 1, 3) := by decide +kernel
theorem d_Q_remove_40 : decode mb_Q_remove 40 = .ok (.goto (-36), 3) := by decide +kernel
theorem d_Q_remove_43 : decode mb_Q_remove 43 = .ok (.aload_n 0, 1) := by decide +kernel
theorem d_Q_remove_44 : decode mb_Q_remove 44 = .ok (.iload_n 2, 1) := by decide +kernel
theorem d_Q_remove_45 : decode mb_Q_remove 45 = .ok (.putfield 17, 3) := by decide +kernel
theorem d_Q_remove_48 : decode mb_Q_remove 48 = .ok (.return_, 1) := by decide +kernel
theorem d_K_end_0 : decode mb_K_end 0 = .ok (.aload_n 1, 1) := by decide +kernel
theorem d_K_end_1 : decode mb_K_end 1 = .ok (.aload_n 0, 1) := by decide +kernel
theorem d_K_end_2 : decode mb_K_end 2 = .ok (.getfield 41, 3) := by decide +kernel
theorem d_K_end_5 : decode mb_K_end 5 = .ok (.if_acmp .ne 8, 3) := by decide +kernel
theorem d_K_end_8 : decode mb_K_end 8 = .ok (.aload_n 0, 1) := by decide +kernel
theorem d_K_end_9 : decode mb_K_end 9 = .ok (.aconst_null, 1) := by decide +kernel
theorem d_K_end_10 : decode mb_K_end 10 = .ok (.putfield 41, 3) := by decide +kernel
theorem d_K_end_13 : decode mb_K_end 13 = .ok (.aload_n 0, 1) := by decide +kernel
theorem d_K_end_14 : decode mb_K_end 14 = .ok (.getfield 16, 3) := by decide +kernel
theorem d_K_end_17 : decode mb_K_end 17 = .ok (.aload_n 1, 1) := by decide +kernel
theorem d_K_end_18 : decode mb_K_end 18 = .ok (.invokevirtual 89, 3) := by decide +kernel
theorem d_K_end_21 : decode mb_K_end 21 = .ok (.aload_n 1, 1) := by decide +kernel
theorem d_K_end_22 : decode mb_K_end 22 = .ok (.iconst 0, 1) := by decide +kernel
theorem d_K_end_23 : decode mb_K_end 23 = .ok (.putfield 92, 3) := by decide +kernel
theorem d_K_end_26 : decode mb_K_end 26 = .ok (.aload_n 1, 1) := by decide +kernel
theorem d_K_end_27 : decode mb_K_end 27 = .ok (.iload_n 2, 1) := by decide +kernel
theorem d_K_end_28 : decode mb_K_end 28 = .ok (.putfield 95, 3) := by decide +kernel
theorem d_K_end_31 : decode mb_K_end 31 = .ok (.return_, 1) := by decide +kernel
theorem d_Q_removeFirst_0 : decode mb_Q_removeFirst 0 = .ok (.aload_n 0, 1) := by decide +kernel
theorem d_Q_removeFirst_1 : decode mb_Q_removeFirst 1 = .ok (.getfield 17, 3) := by decide +kernel
theorem d_Q_removeFirst_4 : decode mb_Q_removeFirst 4 = .ok (.ifCond .ne 5, 3) := by decide +kernel
theorem d_Q_removeFirst_7 : decode mb_Q_removeFirst 7 = .ok (.aconst_null, 1) := by decide +kernel
theorem d_Q_removeFirst_8 : decode mb_Q_removeFirst 8 = .ok (.areturn, 1) := by decide +kernel
theorem d_Q_removeFirst_9 : decode mb_Q_removeFirst 9 = .ok (.aload_n 0, 1) := by decide +kernel
theorem d_Q_removeFirst_10 : decode mb_Q_removeFirst 10 = .ok (.getfield 11, 3) := by decide +kernel
theorem d_Q_removeFirst_13 : decode mb_Q_removeFirst 13 = .ok (.iconst 0, 1) := by decide +kernel
theorem d_Q_removeFirst_14 : decode mb_Q_removeFirst 14 = .ok (.aaload, 1) := by decide +kernel
theorem d_Q_removeFirst_15 : decode mb_Q_removeFirst 15 = .ok (.astore_n 1, 1) := by decide +kernel
theorem d_Q_removeFirst_16 : decode mb_Q_removeFirst 16 = .ok (.aload_n 0, 1) := by decide +kernel
theorem d_Q_removeFirst_17 : decode mb_Q_removeFirst 17 = .ok (.aload_n 1, 1) := by decide +kernel
theorem d_Q_removeFirst_18 : decode mb_Q_removeFirst 18 = .ok (.invokevirtual 21, 3) := by decide +kernel
theorem d_Q_removeFirst_21 : decode mb_Q_removeFirst 21 = .ok (.aload_n 1, 1) := by decide +kernel
theorem d_Q_removeFirst_22 : decode mb_Q_removeFirst 22 = .ok (.areturn, 1) := by decide +kernel
theorem d_K_resume_0 : decode mb_K_resume 0 = .ok (.aload_n 0, 1) := by decide +kernel
theorem d_K_resume_1 : decode mb_K_resume 1 = .ok (.aload_n 1, 1) := by decide +kernel
theorem d_K_resume_2 : decode mb_K_resume 2 = .ok (.aload_n 0, 1) := by decide +kernel
theorem d_K_resume_3 : decode mb_K_resume 3 = .ok (.getfield 37, 3) := by decide +kernel
theorem d_K_resume_6 : decode mb_K_resume 6 = .ok (.invokevirtual 45, 3) := by decide +kernel
theorem d_K_resume_9 : decode mb_K_resume 9 = .ok (.aload_n 1, 1) := by decide +kernel
theorem d_K_resume_10 : decode mb_K_resume 10 = .ok (.iconst 1, 1) := by decide +kernel
theorem d_K_resume_11 : decode mb_K_resume 11 = .ok (.putfield 92, 3) := by decide +kernel
theorem d_K_resume_14 : decode mb_K_resume 14 = .ok (.aload_n 0, 1) := by decide +kernel
theorem d_K_resume_15 : decode mb_K_resume 15 = .ok (.aload_n 1, 1) := by decide +kernel
theorem d_K_resume_16 : decode mb_K_resume 16 = .ok (.putfield 41, 3) := by decide +kernel
theorem d_K_resume_19 : decode mb_K_resume 19 = .ok (.return_, 1) := by decide +kernel
section CLS
variable {l : Launch} {D : va_G} {w : va_W}
variable {aT aK aQ aL aA aY aB aG aS aP aC aI : Nat} {tk : Nat → Nat} {cI cT : ClassId} {kr : Option Nat} {uz : Int32} {ul : Nat → Option Nat} {ks : Nat → Int32} {kv : Nat → Int32} {kz : Nat → Int32} {ku : Nat → Int32} {cb : Nat → Int32} {ga : Int32} {gb : Int32} {gd : Int32} {gc : Int32} {gx : Int32} {gy : Int32} {gu : Int32} {gs : Int32} {gp : Int32} {qa : Int32} {qb : Int32} {qd : Int32} {qc : Int32} {qx : Int32} {qy : Int32} {qu : Int32} {qs : Int32} {qp : Int32} {py : Int32} {po : Int32} {tp : Int32} {tl : Int32} {ta : Int32} {tv : Int32} {tm : Int32} {tg : Bool}
set_option maxHeartbeats 4000000 in
set_option maxRecDepth 100000 in
theorem c_tc_G_get {x1 : Int32} {z : Int32} (hf : tc_G_get x1 ga gb gd gc gx gy gu gs gp = some z) : cs_i l my_G_get mb_G_get 2 .int rm_c_G_get D (ty_ cI cT) [.ref aG, .int x1] (cg_ aG cI cT ga gb gd gc gx gy gu gs gp) (cg_ aG cI cT ga gb gd gc gx gy gu gs gp) z := by
  refine cs_i_of (by decide) (Nat.le_of_ble_eq_true rfl) ?_
  intro p e s m below meth c A ls X hr hlk hK hP hD hS hA hZ hl
  have hx := X.1
  have hb := X.2.1
  have hl : lv_has ls 2 [(0, .ref aG), (1, .int x1)] := hl
  unfold tc_G_get at hf
  refine lv_iload_n hx hb d_G_get_0 rfl (lv_at hl 1 rfl) ?_
  by_cases hk1 : x1 = (0 : Int32)
  · replace hf := (if_pos hk1).symm.trans hf
    refine lv_tableIn (tgt := 60) (off := 59) hx hb d_G_get_1 (by rw [hk1]; decide) (by rw [hk1]; decide) (by rw [hk1]; rfl) (by decide) ?_
    refine lv_aload_n hx hb d_G_get_60 rfl (lv_at hl 0 rfl) ?_
    refine cg_g_G_a_G X hK hP d_G_get_61 ?_
    refine lv_bipush (v := (8 : Int32)) hx hb d_G_get_64 (by decide) ?_
    refine lv_ishl hx hb d_G_get_66 ?_
    refine lv_aload_n hx hb d_G_get_67 rfl (lv_at hl 0 rfl) ?_
    refine cg_g_G_b_G X hK hP d_G_get_68 ?_
    refine lv_ior hx hb d_G_get_71 ?_
    have hq := Option.some.inj hf
    subst hq
    exact rt_i (r := ((ga <<< ((8 : Int32) &&& 31)) ||| gb)) X hr hlk hK rfl hP hD hS d_G_get_72
  · replace hf := (if_neg hk1).symm.trans hf
    by_cases hk2 : x1 = (1 : Int32)
    · replace hf := (if_pos hk2).symm.trans hf
      refine lv_tableIn (tgt := 73) (off := 72) hx hb d_G_get_1 (by rw [hk2]; decide) (by rw [hk2]; decide) (by rw [hk2]; rfl) (by decide) ?_
      refine lv_aload_n hx hb d_G_get_73 rfl (lv_at hl 0 rfl) ?_
      refine cg_g_G_x_G X hK hP d_G_get_74 ?_
      have hq := Option.some.inj hf
      subst hq
      exact rt_i (r := gx) X hr hlk hK rfl hP hD hS d_G_get_77
    · replace hf := (if_neg hk2).symm.trans hf
      by_cases hk3 : x1 = (2 : Int32)
      · replace hf := (if_pos hk3).symm.trans hf
        refine lv_tableIn (tgt := 78) (off := 77) hx hb d_G_get_1 (by rw [hk3]; decide) (by rw [hk3]; decide) (by rw [hk3]; rfl) (by decide) ?_
        refine lv_aload_n hx hb d_G_get_78 rfl (lv_at hl 0 rfl) ?_
        refine cg_g_G_y_G X hK hP d_G_get_79 ?_
        have hq := Option.some.inj hf
        subst hq
        exact rt_i (r := gy) X hr hlk hK rfl hP hD hS d_G_get_82
      · replace hf := (if_neg hk3).symm.trans hf
        by_cases hk4 : x1 = (3 : Int32)
        · replace hf := (if_pos hk4).symm.trans hf
          refine lv_tableIn (tgt := 83) (off := 82) hx hb d_G_get_1 (by rw [hk4]; decide) (by rw [hk4]; decide) (by rw [hk4]; rfl) (by decide) ?_
          refine lv_aload_n hx hb d_G_get_83 rfl (lv_at hl 0 rfl) ?_
          refine cg_g_G_u_G X hK hP d_G_get_84 ?_
          have hq := Option.some.inj hf
          subst hq
          exact rt_i (r := gu) X hr hlk hK rfl hP hD hS d_G_get_87
        · replace hf := (if_neg hk4).symm.trans hf
          by_cases hk5 : x1 = (4 : Int32)
          · replace hf := (if_pos hk5).symm.trans hf
            refine lv_tableIn (tgt := 88) (off := 87) hx hb d_G_get_1 (by rw [hk5]; decide) (by rw [hk5]; decide) (by rw [hk5]; rfl) (by decide) ?_
            refine lv_aload_n hx hb d_G_get_88 rfl (lv_at hl 0 rfl) ?_
            refine cg_g_G_s_G X hK hP d_G_get_89 ?_
            have hq := Option.some.inj hf
            subst hq
            exact rt_i (r := gs) X hr hlk hK rfl hP hD hS d_G_get_92
          · replace hf := (if_neg hk5).symm.trans hf
            by_cases hk6 : x1 = (5 : Int32)
            · replace hf := (if_pos hk6).symm.trans hf
              refine lv_tableIn (tgt := 93) (off := 92) hx hb d_G_get_1 (by rw [hk6]; decide) (by rw [hk6]; decide) (by rw [hk6]; rfl) (by decide) ?_
              refine lv_aload_n hx hb d_G_get_93 rfl (lv_at hl 0 rfl) ?_
              refine cg_g_G_pc_G X hK hP d_G_get_94 ?_
              have hq := Option.some.inj hf
              subst hq
              exact rt_i (r := gp) X hr hlk hK rfl hP hD hS d_G_get_97
            · replace hf := (if_neg hk6).symm.trans hf
              by_cases hk7 : x1 = (6 : Int32)
              · replace hf := (if_pos hk7).symm.trans hf
                refine lv_tableIn (tgt := 113) (off := 112) hx hb d_G_get_1 (by rw [hk7]; decide) (by rw [hk7]; decide) (by rw [hk7]; rfl) (by decide) ?_
                refine lv_aload_n hx hb d_G_get_113 rfl (lv_at hl 0 rfl) ?_
                refine cg_g_G_dp_G X hK hP d_G_get_114 ?_
                have hq := Option.some.inj hf
                subst hq
                exact rt_i (r := gd) X hr hlk hK rfl hP hD hS d_G_get_117
              · replace hf := (if_neg hk7).symm.trans hf
                by_cases hk8 : x1 = (7 : Int32)
                · replace hf := (if_pos hk8).symm.trans hf
                  refine lv_tableIn (tgt := 113) (off := 112) hx hb d_G_get_1 (by rw [hk8]; decide) (by rw [hk8]; decide) (by rw [hk8]; rfl) (by decide) ?_
                  refine lv_aload_n hx hb d_G_get_113 rfl (lv_at hl 0 rfl) ?_
                  refine cg_g_G_dp_G X hK hP d_G_get_114 ?_
                  have hq := Option.some.inj hf
                  subst hq
                  exact rt_i (r := gd) X hr hlk hK rfl hP hD hS d_G_get_117
                · replace hf := (if_neg hk8).symm.trans hf
                  by_cases hk9 : x1 = (8 : Int32)
                  · replace hf := (if_pos hk9).symm.trans hf
                    refine lv_tableIn (tgt := 98) (off := 97) hx hb d_G_get_1 (by rw [hk9]; decide) (by rw [hk9]; decide) (by rw [hk9]; rfl) (by decide) ?_
                    refine lv_aload_n hx hb d_G_get_98 rfl (lv_at hl 0 rfl) ?_
                    refine cg_g_G_a_G X hK hP d_G_get_99 ?_
                    have hq := Option.some.inj hf
                    subst hq
                    exact rt_i (r := ga) X hr hlk hK rfl hP hD hS d_G_get_102
                  · replace hf := (if_neg hk9).symm.trans hf
                    by_cases hk10 : x1 = (9 : Int32)
                    · replace hf := (if_pos hk10).symm.trans hf
                      refine lv_tableIn (tgt := 103) (off := 102) hx hb d_G_get_1 (by rw [hk10]; decide) (by rw [hk10]; decide) (by rw [hk10]; rfl) (by decide) ?_
                      refine lv_aload_n hx hb d_G_get_103 rfl (lv_at hl 0 rfl) ?_
                      refine cg_g_G_b_G X hK hP d_G_get_104 ?_
                      have hq := Option.some.inj hf
                      subst hq
                      exact rt_i (r := gb) X hr hlk hK rfl hP hD hS d_G_get_107
                    · replace hf := (if_neg hk10).symm.trans hf
                      by_cases hk11 : x1 = (10 : Int32)
                      · replace hf := (if_pos hk11).symm.trans hf
                        refine lv_tableIn (tgt := 108) (off := 107) hx hb d_G_get_1 (by rw [hk11]; decide) (by rw [hk11]; decide) (by rw [hk11]; rfl) (by decide) ?_
                        refine lv_aload_n hx hb d_G_get_108 rfl (lv_at hl 0 rfl) ?_
                        refine cg_g_G_cc_G X hK hP d_G_get_109 ?_
                        have hq := Option.some.inj hf
                        subst hq
                        exact rt_i (r := gc) X hr hlk hK rfl hP hD hS d_G_get_112
                      · replace hf := (if_neg hk11).symm.trans hf
                        refine lv_tableOut (tgt := 113) hx hb d_G_get_1 (by have q0 := lv_neT hk1 (show Int32.toInt (0 : Int32) = 0 by decide); have q1 := lv_neT hk2 (show Int32.toInt (1 : Int32) = 1 by decide); have q2 := lv_neT hk3 (show Int32.toInt (2 : Int32) = 2 by decide); have q3 := lv_neT hk4 (show Int32.toInt (3 : Int32) = 3 by decide); have q4 := lv_neT hk5 (show Int32.toInt (4 : Int32) = 4 by decide); have q5 := lv_neT hk6 (show Int32.toInt (5 : Int32) = 5 by decide); have q6 := lv_neT hk7 (show Int32.toInt (6 : Int32) = 6 by decide); have q7 := lv_neT hk8 (show Int32.toInt (7 : Int32) = 7 by decide); have q8 := lv_neT hk9 (show Int32.toInt (8 : Int32) = 8 by decide); have q9 := lv_neT hk10 (show Int32.toInt (9 : Int32) = 9 by decide); have q10 := lv_neT hk11 (show Int32.toInt (10 : Int32) = 10 by decide); omega) (by decide) ?_
                        refine lv_aload_n hx hb d_G_get_113 rfl (lv_at hl 0 rfl) ?_
                        refine cg_g_G_dp_G X hK hP d_G_get_114 ?_
                        have hq := Option.some.inj hf
                        subst hq
                        exact rt_i (r := gd) X hr hlk hK rfl hP hD hS d_G_get_117
set_option maxHeartbeats 4000000 in
set_option maxRecDepth 100000 in
theorem c_tc_Y_load {x1 : Int32} {x2 : Int32} {z : Int32} (hf : tc_Y_load x1 x2 cb = some z) : cs_i l my_Y_load mb_Y_load 6 .int rm_c_Y_load D (ty_ cI cT) [.ref aY, .int x1, .int x2] (cy_ aY aB cI cT cb) (cy_ aY aB cI cT cb) z := by
  refine cs_i_of (by decide) (Nat.le_of_ble_eq_true rfl) ?_
  intro p e s m below meth c A ls X hr hlk hK hP hD hS hA hZ hl
  have hx := X.1
  have hb := X.2.1
  have hl : lv_has ls 6 [(0, .ref aY), (1, .int x1), (2, .int x2)] := hl
  have L5 : ∀ (n_ : Nat) (v1 : Int32) (v2 : Int32) (v3 : Int32) (v4 : Int32) (cb : Nat → Int32), tc_Y_load_l5 n_ v1 v2 v3 v4 cb = some z → ∀ (H : Heap) (locs : List Loc) (ls : Array Slot), lv_has ls 6 [(0, .ref aY), (1, .int v1), (2, .int v2), (3, .int v3), (4, .int v4)] → va_P D cz_all (cy_ aY aB cI cT cb) H → va_D A (cy_ aY aB cI cT cb) → va_S A s.heap H locs → W p l e rm_c_Y_load s m ([.ref aY, .int x1, .int x2] : List Value).toArray below meth c H locs 0 0 (MQ below (qs_i D (ty_ cI cT) (cy_ aY aB cI cT cb) z A) ([.ref aY, .int x1, .int x2] : List Value).toArray s 0 0 A) (F0 m 5 ls []) := by
    intro n_
    induction n_ with
    | zero => intro v1 v2 v3 v4 cb hf; cases hf
    | succ n_ ih =>
      have J43 : ∀ (v1 : Int32) (v2 : Int32) (v4 : Int32) (s0 : Int32) (s1 : Int32) (cb : Nat → Int32), tc_Y_load_j43 (tc_Y_load_l5 n_) v1 v2 v4 s0 s1 cb = some z → ∀ (H : Heap) (locs : List Loc) (ls : Array Slot), lv_has ls 6 [(0, .ref aY), (1, .int v1), (2, .int v2), (4, .int v4)] → va_P D cz_all (cy_ aY aB cI cT cb) H → va_D A (cy_ aY aB cI cT cb) → va_S A s.heap H locs → W p l e rm_c_Y_load s m ([.ref aY, .int x1, .int x2] : List Value).toArray below meth c H locs 0 0 (MQ below (qs_i D (ty_ cI cT) (cy_ aY aB cI cT cb) z A) ([.ref aY, .int x1, .int x2] : List Value).toArray s 0 0 A) (F0 m 43 ls [.int s0, .int s1]) := by
        intro v1 v2 v4 s0 s1 cb hf H locs ls hl hP hD hS
        unfold tc_Y_load_j43 at hf
        refine lv_ior hx hb d_Y_load_43 ?_
        refine lv_istore_n hx hb d_Y_load_44 rfl hl (by decide) rfl (fun ls hl => ?_)
        have hl : lv_has ls 6 [(3, .int (s1 ||| s0)), (0, .ref aY), (1, .int v1), (2, .int v2), (4, .int v4)] := hl
        refine lv_iinc (k := 4) hx hb d_Y_load_45 hl rfl rfl (by decide) rfl (fun ls hl => ?_)
        have hl : lv_has ls 6 [(4, .int (v4 + Int32.ofInt 1)), (3, .int (s1 ||| s0)), (0, .ref aY), (1, .int v1), (2, .int v2)] := hl
        refine lv_goto (tgt := 5) hx hb d_Y_load_48 (by decide) ?_
        exact ih v1 v2 (s1 ||| s0) (v4 + Int32.ofInt 1) cb hf _ _ _ (lv_sub hl [2, 3, 4, 1, 0] rfl) hP hD hS
      intro v1 v2 v3 v4 cb hf H locs ls hl hP hD hS
      replace hf := (tc_Y_load_l5_s n_ v1 v2 v3 v4 cb).symm.trans hf
      refine lv_iload hx hb d_Y_load_5 (lv_at hl 4 rfl) ?_
      refine lv_iload_n hx hb d_Y_load_7 rfl (lv_at hl 2 rfl) ?_
      refine lv_icmp_ge (tgt := 51) hx hb d_Y_load_8 (by decide) (fun hc => ?_) (fun hc => ?_)
      · replace hf := (if_pos hc).symm.trans hf
        refine lv_iload_n hx hb d_Y_load_51 rfl (lv_at hl 3 rfl) ?_
        have hq := Option.some.inj hf
        subst hq
        exact rt_i (r := v3) X hr hlk hK rfl hP hD hS d_Y_load_52
      · replace hf := (if_neg hc).symm.trans hf
        refine lv_iload_n hx hb d_Y_load_11 rfl (lv_at hl 1 rfl) ?_
        refine lv_iload hx hb d_Y_load_12 (lv_at hl 4 rfl) ?_
        refine lv_iadd hx hb d_Y_load_14 ?_
        refine lv_ldc (v := (65535 : Int32)) hx hb X.2.2.2.1 (X.2.2.2.2 _ ww_3) d_Y_load_15 ?_
        refine lv_iand hx hb d_Y_load_17 ?_
        refine lv_istore hx hb d_Y_load_18 hl (by decide) rfl (fun ls hl => ?_)
        have hl : lv_has ls 6 [(5, .int ((v1 + v4) &&& (65535 : Int32))), (0, .ref aY), (1, .int v1), (2, .int v2), (3, .int v3), (4, .int v4)] := hl
        refine lv_iload_n hx hb d_Y_load_20 rfl (lv_at hl 4 rfl) ?_
        refine lv_bipush (v := (8 : Int32)) hx hb d_Y_load_21 (by decide) ?_
        refine lv_ishl hx hb d_Y_load_23 ?_
        refine lv_iload hx hb d_Y_load_24 (lv_at hl 0 rfl) ?_
        refine lv_sipush (v := (512 : Int32)) hx hb d_Y_load_26 (by decide) ?_
        refine lv_icmp_ge (tgt := 42) hx hb d_Y_load_29 (by decide) (fun hc => ?_) (fun hc => ?_)
        · replace hf := (if_pos hc).symm.trans hf
          refine lv_iconst (v := (0 : Int32)) hx hb d_Y_load_42 (by decide) ?_
          exact J43 v1 v2 v4 (0 : Int32) (v3 <<< ((8 : Int32) &&& 31)) cb hf _ _ _ (lv_sub hl [1, 2, 3, 5] rfl) hP hD hS
        · replace hf := (if_neg hc).symm.trans hf
          refine lv_aload_n hx hb d_Y_load_32 rfl (lv_at hl 1 rfl) ?_
          refine cy_g_Y_bytes_Y X hK hP d_Y_load_33 ?_
          refine lv_iload hx hb d_Y_load_36 (lv_at hl 0 rfl) ?_
          obtain ⟨hi3, hf⟩ := op_c hf
          refine cy_a_B (k := (((v1 + v4) &&& (65535 : Int32)).toNatClampNeg)) X hK hP hi3 rfl d_Y_load_38 ?_
          refine lv_goto (tgt := 43) hx hb d_Y_load_39 (by decide) ?_
          exact J43 v1 v2 v4 (cb (((v1 + v4) &&& (65535 : Int32)).toNatClampNeg)) (v3 <<< ((8 : Int32) &&& 31)) cb hf _ _ _ (lv_sub hl [1, 2, 3, 5] rfl) hP hD hS
  unfold tc_Y_load at hf
  refine lv_iconst (v := (0 : Int32)) hx hb d_Y_load_0 (by decide) ?_
  refine lv_istore_n hx hb d_Y_load_1 rfl hl (by decide) rfl (fun ls hl => ?_)
  have hl : lv_has ls 6 [(3, .int (0 : Int32)), (0, .ref aY), (1, .int x1), (2, .int x2)] := hl
  refine lv_iconst (v := (0 : Int32)) hx hb d_Y_load_2 (by decide) ?_
  refine lv_istore hx hb d_Y_load_3 hl (by decide) rfl (fun ls hl => ?_)
  have hl : lv_has ls 6 [(4, .int (0 : Int32)), (3, .int (0 : Int32)), (0, .ref aY), (1, .int x1), (2, .int x2)] := hl
  exact L5 3 x1 x2 (0 : Int32) (0 : Int32) cb hf _ _ _ (lv_sub hl [2, 3, 4, 1, 0] rfl) hP hD hS
set_option maxHeartbeats 4000000 in
set_option maxRecDepth 100000 in
theorem c_tc_G_pull {x2 : Int32} {x3 : Int32} {z : Int32 × Int32 × Int32 × Int32 × Int32 × Int32 × Int32 × Int32 × Int32 × Int32} (hf : tc_G_pull x2 x3 ga gb gd gc gx gy gu gs gp cb = some z) : cs_i l my_G_pull mb_G_pull 8 .int rm_c_G_pull D (ty_ cI cT) [.ref aG, .ref aY, .int x2, .int x3] (ch_ aY aB aG cI cT ga gb gd gc gx gy gu gs gp cb) (ch_ aY aB aG cI cT z.2.1 z.2.2.1 z.2.2.2.1 z.2.2.2.2.1 z.2.2.2.2.2.1 z.2.2.2.2.2.2.1 z.2.2.2.2.2.2.2.1 z.2.2.2.2.2.2.2.2.1 z.2.2.2.2.2.2.2.2.2 cb) z.1 := by
  refine cs_i_of (by decide) (Nat.le_of_ble_eq_true rfl) ?_
  intro p e s m below meth c A ls X hr hlk hK hP hD hS hA hZ hl
  have hx := X.1
  have hb := X.2.1
  have hl : lv_has ls 8 [(0, .ref aG), (1, .ref aY), (2, .int x2), (3, .int x3)] := hl
  have L6 : ∀ (n_ : Nat) (v2 : Int32) (v3 : Int32) (v4 : Int32) (v5 : Int32) (ga : Int32) (gb : Int32) (gd : Int32) (gc : Int32) (gx : Int32) (gy : Int32) (gu : Int32) (gs : Int32) (gp : Int32) (cb : Nat → Int32), tc_G_pull_l6 n_ v2 v3 v4 v5 ga gb gd gc gx gy gu gs gp cb = some z → ∀ (H : Heap) (locs : List Loc) (ls : Array Slot), lv_has ls 8 [(0, .ref aG), (1, .ref aY), (2, .int v2), (3, .int v3), (4, .int v4), (5, .int v5)] → va_P D cz_all (ch_ aY aB aG cI cT ga gb gd gc gx gy gu gs gp cb) H → va_D A (ch_ aY aB aG cI cT ga gb gd gc gx gy gu gs gp cb) → va_S A s.heap H locs → W p l e rm_c_G_pull s m ([.ref aG, .ref aY, .int x2, .int x3] : List Value).toArray below meth c H locs 0 0 (MQ below (qs_i D (ty_ cI cT) (ch_ aY aB aG cI cT z.2.1 z.2.2.1 z.2.2.2.1 z.2.2.2.2.1 z.2.2.2.2.2.1 z.2.2.2.2.2.2.1 z.2.2.2.2.2.2.2.1 z.2.2.2.2.2.2.2.2.1 z.2.2.2.2.2.2.2.2.2 cb) z.1 A) ([.ref aG, .ref aY, .int x2, .int x3] : List Value).toArray s 0 0 A) (F0 m 6 ls []) := by
    intro n_
    induction n_ with
    | zero => intro v2 v3 v4 v5 ga gb gd gc gx gy gu gs gp cb hf; cases hf
    | succ n_ ih =>
      have J75 : ∀ (v2 : Int32) (v3 : Int32) (v4 : Int32) (v5 : Int32) (ga : Int32) (gb : Int32) (gd : Int32) (gc : Int32) (gx : Int32) (gy : Int32) (gu : Int32) (gs : Int32) (gp : Int32) (cb : Nat → Int32), tc_G_pull_j75 (tc_G_pull_l6 n_) v2 v3 v4 v5 ga gb gd gc gx gy gu gs gp cb = some z → ∀ (H : Heap) (locs : List Loc) (ls : Array Slot), lv_has ls 8 [(0, .ref aG), (1, .ref aY), (2, .int v2), (3, .int v3), (4, .int v4), (5, .int v5)] → va_P D cz_all (ch_ aY aB aG cI cT ga gb gd gc gx gy gu gs gp cb) H → va_D A (ch_ aY aB aG cI cT ga gb gd gc gx gy gu gs gp cb) → va_S A s.heap H locs → W p l e rm_c_G_pull s m ([.ref aG, .ref aY, .int x2, .int x3] : List Value).toArray below meth c H locs 0 0 (MQ below (qs_i D (ty_ cI cT) (ch_ aY aB aG cI cT z.2.1 z.2.2.1 z.2.2.2.1 z.2.2.2.2.1 z.2.2.2.2.2.1 z.2.2.2.2.2.2.1 z.2.2.2.2.2.2.2.1 z.2.2.2.2.2.2.2.2.1 z.2.2.2.2.2.2.2.2.2 cb) z.1 A) ([.ref aG, .ref aY, .int x2, .int x3] : List Value).toArray s 0 0 A) (F0 m 75 ls []) := by
        intro v2 v3 v4 v5 ga gb gd gc gx gy gu gs gp cb hf H locs ls hl hP hD hS
        unfold tc_G_pull_j75 at hf
        refine lv_iinc (k := 5) hx hb d_G_pull_75 hl rfl rfl (by decide) rfl (fun ls hl => ?_)
        have hl : lv_has ls 8 [(5, .int (v5 + Int32.ofInt 1)), (0, .ref aG), (1, .ref aY), (2, .int v2), (3, .int v3), (4, .int v4)] := hl
        refine lv_goto (tgt := 6) hx hb d_G_pull_78 (by decide) ?_
        exact ih v2 v3 v4 (v5 + Int32.ofInt 1) ga gb gd gc gx gy gu gs gp cb hf _ _ _ (lv_sub hl [1, 2, 3, 4, 5, 0] rfl) hP hD hS
      intro v2 v3 v4 v5 ga gb gd gc gx gy gu gs gp cb hf H locs ls hl hP hD hS
      replace hf := (tc_G_pull_l6_s n_ v2 v3 v4 v5 ga gb gd gc gx gy gu gs gp cb).symm.trans hf
      refine lv_iload hx hb d_G_pull_6 (lv_at hl 5 rfl) ?_
      refine lv_bipush (v := (7 : Int32)) hx hb d_G_pull_8 (by decide) ?_
      refine lv_icmp_gt (tgt := 81) hx hb d_G_pull_10 (by decide) (fun hc => ?_) (fun hc => ?_)
      · replace hf := (if_pos hc).symm.trans hf
        refine lv_iload hx hb d_G_pull_81 (lv_at hl 4 rfl) ?_
        have hq := Option.some.inj hf
        subst hq
        exact rt_i (r := v4) X hr hlk hK rfl hP hD hS d_G_pull_83
      · replace hf := (if_neg hc).symm.trans hf
        refine lv_iload_n hx hb d_G_pull_13 rfl (lv_at hl 3 rfl) ?_
        refine lv_iload hx hb d_G_pull_14 (lv_at hl 5 rfl) ?_
        refine lv_ishr hx hb d_G_pull_16 ?_
        refine lv_iconst (v := (1 : Int32)) hx hb d_G_pull_17 (by decide) ?_
        refine lv_iand hx hb d_G_pull_18 ?_
        refine lv_iconst (v := (1 : Int32)) hx hb d_G_pull_19 (by decide) ?_
        refine lv_icmp_ne (tgt := 75) hx hb d_G_pull_20 (by decide) (fun hc => ?_) (fun hc => ?_)
        · replace hf := (if_neg hc).symm.trans hf
          exact J75 v2 v3 v4 v5 ga gb gd gc gx gy gu gs gp cb hf _ _ _ hl hP hD hS
        · replace hf := (if_pos hc).symm.trans hf
          refine lv_iload hx hb d_G_pull_23 (lv_at hl 5 rfl) ?_
          refine lv_iload_n hx hb d_G_pull_25 rfl (lv_at hl 2 rfl) ?_
          obtain ⟨z15, hz15, hf⟩ := op_b hf
          refine cf_si X cx_G_40 hK hP hD hS hA hZ hl (c_tc_G_pushedAt (w := (ch_ aY aB aG cI cT ga gb gd gc gx gy gu gs gp cb)) hz15) ⟨rfl, rfl, Nat.le_of_ble_eq_true rfl, Nat.le_of_ble_eq_true rfl⟩ rfl rfl (Nat.le_of_ble_eq_true rfl) d_G_pull_26 (fun H locs hP hD hS => ?_)
          refine lv_istore hx hb d_G_pull_29 hl (by decide) rfl (fun ls hl => ?_)
          have hl : lv_has ls 8 [(6, .int z15), (0, .ref aG), (1, .ref aY), (2, .int v2), (3, .int v3), (4, .int v4), (5, .int v5)] := hl
          refine lv_iload hx hb d_G_pull_31 (lv_at hl 0 rfl) ?_
          obtain ⟨z16, hz16, hf⟩ := op_b hf
          refine cf_si X cx_G_44 hK hP hD hS hA hZ hl (c_tc_G_sizeOf (w := (ch_ aY aB aG cI cT ga gb gd gc gx gy gu gs gp cb)) hz16) ⟨rfl, rfl, Nat.le_of_ble_eq_true rfl, Nat.le_of_ble_eq_true rfl⟩ rfl rfl (Nat.le_of_ble_eq_true rfl) d_G_pull_33 (fun H locs hP hD hS => ?_)
          refine lv_istore hx hb d_G_pull_36 hl (by decide) rfl (fun ls hl => ?_)
          have hl : lv_has ls 8 [(7, .int z16), (6, .int z15), (0, .ref aG), (1, .ref aY), (2, .int v2), (3, .int v3), (4, .int v4), (5, .int v5)] := hl
          refine lv_aload_n hx hb d_G_pull_38 rfl (lv_at hl 2 rfl) ?_
          refine lv_iload hx hb d_G_pull_39 (lv_at hl 1 rfl) ?_
          refine lv_aload_n hx hb d_G_pull_41 rfl (lv_at hl 3 rfl) ?_
          refine lv_aload_n hx hb d_G_pull_42 rfl (lv_at hl 2 rfl) ?_
          refine lv_iload_n hx hb d_G_pull_43 rfl (lv_at hl 4 rfl) ?_
          obtain ⟨z17, hz17, hf⟩ := op_b hf
          refine cf_i (ws2 := (ch_ aY aB aG cI cT ga gb gd gc gx gy gu gs gp cb)) X cx_G_48 hK hP hD hS hA hZ hl (c_tc_G_get (aG := aG) (ga := ga) (gb := gb) (gd := gd) (gc := gc) (gx := gx) (gy := gy) (gu := gu) (gs := gs) (gp := gp) hz17) ⟨rfl, rfl, Nat.le_of_ble_eq_true rfl, Nat.le_of_ble_eq_true rfl⟩ [0] [1, 2] [2, 0, 1] rfl rfl rfl rfl (by decide) rfl rfl 0 rfl rfl rfl rfl rfl (Nat.le_of_ble_eq_true rfl) d_G_pull_44 (fun H locs hP hD hS => ?_)
          refine lv_iload hx hb d_G_pull_47 (lv_at hl 0 rfl) ?_
          obtain ⟨z18, hz18, hf⟩ := op_b hf
          refine cf_i (ws2 := (ch_ aY aB aG cI cT ga gb gd gc gx gy gu gs gp cb)) X cx_G_61 hK hP hD hS hA hZ hl (c_tc_Y_load (aY := aY) (aB := aB) (cb := cb) hz18) ⟨rfl, rfl, Nat.le_of_ble_eq_true rfl, Nat.le_of_ble_eq_true rfl⟩ [1, 2] [0] [0, 1, 2] rfl rfl rfl rfl (by decide) rfl rfl 0 rfl rfl rfl rfl rfl (Nat.le_of_ble_eq_true rfl) d_G_pull_49 (fun H locs hP hD hS => ?_)
          obtain ⟨z19, hz19, hf⟩ := op_b hf
          refine cf_v (ws2 := (ch_ aY aB aG cI cT z19.1 z19.2.1 z19.2.2.1 z19.2.2.2.1 z19.2.2.2.2.1 z19.2.2.2.2.2.1 z19.2.2.2.2.2.2.1 z19.2.2.2.2.2.2.2.1 z19.2.2.2.2.2.2.2.2 cb)) X cx_G_51 hK hP hD hS hA hZ hl (c_tc_G_set (aG := aG) (ga := ga) (gb := gb) (gd := gd) (gc := gc) (gx := gx) (gy := gy) (gu := gu) (gs := gs) (gp := gp) hz19) ⟨rfl, rfl, Nat.le_of_ble_eq_true rfl, Nat.le_of_ble_eq_true rfl⟩ [0] [1, 2] [2, 0, 1] rfl rfl rfl rfl (by decide) rfl rfl 0 rfl rfl rfl rfl rfl (Nat.le_of_ble_eq_true rfl) d_G_pull_52 (fun H locs hP hD hS => ?_)
          refine lv_aload_n hx hb d_G_pull_55 rfl (lv_at hl 2 rfl) ?_
          refine lv_iload_n hx hb d_G_pull_56 rfl (lv_at hl 4 rfl) ?_
          refine lv_aload_n hx hb d_G_pull_57 rfl (lv_at hl 2 rfl) ?_
          refine lv_iload_n hx hb d_G_pull_58 rfl (lv_at hl 4 rfl) ?_
          obtain ⟨z20, hz20, hf⟩ := op_b hf
          refine cf_i (ws2 := (ch_ aY aB aG cI cT z19.1 z19.2.1 z19.2.2.1 z19.2.2.2.1 z19.2.2.2.2.1 z19.2.2.2.2.2.1 z19.2.2.2.2.2.2.1 z19.2.2.2.2.2.2.2.1 z19.2.2.2.2.2.2.2.2 cb)) X cx_G_48 hK hP hD hS hA hZ hl (c_tc_G_get (aG := aG) (ga := z19.1) (gb := z19.2.1) (gd := z19.2.2.1) (gc := z19.2.2.2.1) (gx := z19.2.2.2.2.1) (gy := z19.2.2.2.2.2.1) (gu := z19.2.2.2.2.2.2.1) (gs := z19.2.2.2.2.2.2.2.1) (gp := z19.2.2.2.2.2.2.2.2) hz20) ⟨rfl, rfl, Nat.le_of_ble_eq_true rfl, Nat.le_of_ble_eq_true rfl⟩ [0] [1, 2] [2, 0, 1] rfl rfl rfl rfl (by decide) rfl rfl 0 rfl rfl rfl rfl rfl (Nat.le_of_ble_eq_true rfl) d_G_pull_59 (fun H locs hP hD hS => ?_)
          refine lv_iload hx hb d_G_pull_62 (lv_at hl 0 rfl) ?_
          refine lv_iadd hx hb d_G_pull_64 ?_
          obtain ⟨z21, hz21, hf⟩ := op_b hf
          refine cf_v (ws2 := (ch_ aY aB aG cI cT z21.1 z21.2.1 z21.2.2.1 z21.2.2.2.1 z21.2.2.2.2.1 z21.2.2.2.2.2.1 z21.2.2.2.2.2.2.1 z21.2.2.2.2.2.2.2.1 z21.2.2.2.2.2.2.2.2 cb)) X cx_G_51 hK hP hD hS hA hZ hl (c_tc_G_set (aG := aG) (ga := z19.1) (gb := z19.2.1) (gd := z19.2.2.1) (gc := z19.2.2.2.1) (gx := z19.2.2.2.2.1) (gy := z19.2.2.2.2.2.1) (gu := z19.2.2.2.2.2.2.1) (gs := z19.2.2.2.2.2.2.2.1) (gp := z19.2.2.2.2.2.2.2.2) hz21) ⟨rfl, rfl, Nat.le_of_ble_eq_true rfl, Nat.le_of_ble_eq_true rfl⟩ [0] [1, 2] [2, 0, 1] rfl rfl rfl rfl (by decide) rfl rfl 0 rfl rfl rfl rfl rfl (Nat.le_of_ble_eq_true rfl) d_G_pull_65 (fun H locs hP hD hS => ?_)
          refine lv_iload hx hb d_G_pull_68 (lv_at hl 6 rfl) ?_
          refine lv_iload hx hb d_G_pull_70 (lv_at hl 0 rfl) ?_
          refine lv_iadd hx hb d_G_pull_72 ?_
          refine lv_istore hx hb d_G_pull_73 hl (by decide) rfl (fun ls hl => ?_)
          have hl : lv_has ls 8 [(4, .int (v4 + z16)), (7, .int z16), (6, .int z15), (0, .ref aG), (1, .ref aY), (2, .int v2), (3, .int v3), (5, .int v5)] := hl
          exact J75 v2 v3 (v4 + z16) v5 z21.1 z21.2.1 z21.2.2.1 z21.2.2.2.1 z21.2.2.2.2.1 z21.2.2.2.2.2.1 z21.2.2.2.2.2.2.1 z21.2.2.2.2.2.2.2.1 z21.2.2.2.2.2.2.2.2 cb hf _ _ _ (lv_sub hl [3, 4, 5, 6, 0, 7] rfl) hP hD hS
  unfold tc_G_pull at hf
  refine lv_iconst (v := (0 : Int32)) hx hb d_G_pull_0 (by decide) ?_
  refine lv_istore hx hb d_G_pull_1 hl (by decide) rfl (fun ls hl => ?_)
  have hl : lv_has ls 8 [(4, .int (0 : Int32)), (0, .ref aG), (1, .ref aY), (2, .int x2), (3, .int x3)] := hl
  refine lv_iconst (v := (0 : Int32)) hx hb d_G_pull_3 (by decide) ?_
  refine lv_istore hx hb d_G_pull_4 hl (by decide) rfl (fun ls hl => ?_)
  have hl : lv_has ls 8 [(5, .int (0 : Int32)), (4, .int (0 : Int32)), (0, .ref aG), (1, .ref aY), (2, .int x2), (3, .int x3)] := hl
  exact L6 9 x2 x3 (0 : Int32) (0 : Int32) ga gb gd gc gx gy gu gs gp cb hf _ _ _ (lv_sub hl [2, 3, 4, 5, 1, 0] rfl) hP hD hS
set_option maxHeartbeats 4000000 in
set_option maxRecDepth 100000 in
theorem c_tc_K_take_G {x1 : Nat} {z : Int32 × Int32 × Int32 × Int32 × Int32 × Int32 × Int32 × Int32 × Int32} (hf : tc_K_take_G x1 kv cb ga gb gd gc gx gy gu gs gp = some z) : cs_v l my_K_take mb_K_take 3 rm_c_K_take_G D (ty_ cI cT) [.ref aK, .ref (tk x1), .ref aG] (ck_ aK aQ aL aA tk aY aB aG aS cI cT kr uz ul ks kv kz ku cb ga gb gd gc gx gy gu gs gp qa qb qd qc qx qy qu qs qp) (ck_ aK aQ aL aA tk aY aB aG aS cI cT kr uz ul ks kv kz ku cb z.1 z.2.1 z.2.2.1 z.2.2.2.1 z.2.2.2.2.1 z.2.2.2.2.2.1 z.2.2.2.2.2.2.1 z.2.2.2.2.2.2.2.1 z.2.2.2.2.2.2.2.2 qa qb qd qc qx qy qu qs qp) := by
  refine cs_v_of (by decide) (Nat.le_of_ble_eq_true rfl) ?_
  intro p e s m below meth c A ls X hr hlk hK hP hD hS hA hZ hl
  have hx := X.1
  have hb := X.2.1
  have hl : lv_has ls 3 [(0, .ref aK), (1, .ref (tk x1)), (2, .ref aG)] := hl
  unfold tc_K_take_G at hf
  refine lv_aload_n hx hb d_K_take_0 rfl (lv_at hl 2 rfl) ?_
  refine lv_aload_n hx hb d_K_take_1 rfl (lv_at hl 1 rfl) ?_
  obtain ⟨ht3, hf⟩ := op_t hf
  refine ck_tg_s_K X hK hP ht3 d_K_take_2 ?_
  refine ck_p_G_s_K (x := (kv x1)) X hK hP hD hS d_K_take_5 (fun H locs hP hD hS => ?_)
  refine lv_aload_n hx hb d_K_take_8 rfl (lv_at hl 2 rfl) ?_
  refine lv_aload_n hx hb d_K_take_9 rfl (lv_at hl 0 rfl) ?_
  refine ck_g_K_memory_K X hK hP d_K_take_10 ?_
  refine lv_iconst (v := (4 : Int32)) hx hb d_K_take_13 (by decide) ?_
  refine lv_sipush (v := (255 : Int32)) hx hb d_K_take_14 (by decide) ?_
  obtain ⟨z4, hz4, hf⟩ := op_b hf
  refine cf_i (ws2 := (ck_ aK aQ aL aA tk aY aB aG aS cI cT kr uz ul ks kv kz ku cb z4.2.1 z4.2.2.1 z4.2.2.2.1 z4.2.2.2.2.1 z4.2.2.2.2.2.1 z4.2.2.2.2.2.2.1 z4.2.2.2.2.2.2.2.1 z4.2.2.2.2.2.2.2.2.1 z4.2.2.2.2.2.2.2.2.2 qa qb qd qc qx qy qu qs qp)) X cx_K_163 hK hP hD hS hA hZ hl (c_tc_G_pull (aY := aY) (aB := aB) (aG := aG) (ga := ga) (gb := gb) (gd := gd) (gc := gc) (gx := gx) (gy := gy) (gu := gu) (gs := (kv x1)) (gp := gp) (cb := cb) hz4) ⟨rfl, rfl, Nat.le_of_ble_eq_true rfl, Nat.le_of_ble_eq_true rfl⟩ [10, 8, 9] [0, 1, 2, 3, 4, 5, 6, 7, 11] [0, 1, 2, 3, 4, 5, 6, 7, 10, 11, 9, 8] rfl rfl rfl rfl (by decide) rfl rfl 0 rfl rfl rfl rfl rfl (Nat.le_of_ble_eq_true rfl) d_K_take_17 (fun H locs hP hD hS => ?_)
  refine lv_pop hx hb d_K_take_20 rfl ?_
  have hq := Option.some.inj hf
  subst hq
  exact rt_v X hr hlk hK hP hD hS d_K_take_21
set_option maxHeartbeats 4000000 in
set_option maxRecDepth 100000 in
theorem c_tc_K_take_S {x1 : Nat} {z : Int32 × Int32 × Int32 × Int32 × Int32 × Int32 × Int32 × Int32 × Int32} (hf : tc_K_take_S x1 kv cb qa qb qd qc qx qy qu qs qp = some z) : cs_v l my_K_take mb_K_take 3 rm_c_K_take_S D (ty_ cI cT) [.ref aK, .ref (tk x1), .ref aS] (ck_ aK aQ aL aA tk aY aB aG aS cI cT kr uz ul ks kv kz ku cb ga gb gd gc gx gy gu gs gp qa qb qd qc qx qy qu qs qp) (ck_ aK aQ aL aA tk aY aB aG aS cI cT kr uz ul ks kv kz ku cb ga gb gd gc gx gy gu gs gp z.1 z.2.1 z.2.2.1 z.2.2.2.1 z.2.2.2.2.1 z.2.2.2.2.2.1 z.2.2.2.2.2.2.1 z.2.2.2.2.2.2.2.1 z.2.2.2.2.2.2.2.2) := by
  refine cs_v_of (by decide) (Nat.le_of_ble_eq_true rfl) ?_
  intro p e s m below meth c A ls X hr hlk hK hP hD hS hA hZ hl
  have hx := X.1
  have hb := X.2.1
  have hl : lv_has ls 3 [(0, .ref aK), (1, .ref (tk x1)), (2, .ref aS)] := hl
  unfold tc_K_take_S at hf
  refine lv_aload_n hx hb d_K_take_0 rfl (lv_at hl 2 rfl) ?_
  refine lv_aload_n hx hb d_K_take_1 rfl (lv_at hl 1 rfl) ?_
  obtain ⟨ht3, hf⟩ := op_t hf
  refine ck_tg_s_K X hK hP ht3 d_K_take_2 ?_
  refine ck_p_S_s_K (x := (kv x1)) X hK hP hD hS d_K_take_5 (fun H locs hP hD hS => ?_)
  refine lv_aload_n hx hb d_K_take_8 rfl (lv_at hl 2 rfl) ?_
  refine lv_aload_n hx hb d_K_take_9 rfl (lv_at hl 0 rfl) ?_
  refine ck_g_K_memory_K X hK hP d_K_take_10 ?_
  refine lv_iconst (v := (4 : Int32)) hx hb d_K_take_13 (by decide) ?_
  refine lv_sipush (v := (255 : Int32)) hx hb d_K_take_14 (by decide) ?_
  obtain ⟨z4, hz4, hf⟩ := op_b hf
  refine cf_i (ws2 := (ck_ aK aQ aL aA tk aY aB aG aS cI cT kr uz ul ks kv kz ku cb ga gb gd gc gx gy gu gs gp z4.2.1 z4.2.2.1 z4.2.2.2.1 z4.2.2.2.2.1 z4.2.2.2.2.2.1 z4.2.2.2.2.2.2.1 z4.2.2.2.2.2.2.2.1 z4.2.2.2.2.2.2.2.2.1 z4.2.2.2.2.2.2.2.2.2)) X cx_K_163 hK hP hD hS hA hZ hl (c_tc_G_pull (aY := aY) (aB := aB) (aG := aS) (ga := qa) (gb := qb) (gd := qd) (gc := qc) (gx := qx) (gy := qy) (gu := qu) (gs := (kv x1)) (gp := qp) (cb := cb) hz4) ⟨rfl, rfl, Nat.le_of_ble_eq_true rfl, Nat.le_of_ble_eq_true rfl⟩ [11, 8, 9] [0, 1, 2, 3, 4, 5, 6, 7, 10] [0, 1, 2, 3, 4, 5, 6, 7, 10, 11, 8, 9] rfl rfl rfl rfl (by decide) rfl rfl 0 rfl rfl rfl rfl rfl (Nat.le_of_ble_eq_true rfl) d_K_take_17 (fun H locs hP hD hS => ?_)
  refine lv_pop hx hb d_K_take_20 rfl ?_
  have hq := Option.some.inj hf
  subst hq
  exact rt_v X hr hlk hK hP hD hS d_K_take_21
set_option maxHeartbeats 4000000 in
set_option maxRecDepth 100000 in
theorem c_tc_K_registersOf {x1 : Nat} {z : Bool × Int32 × Int32 × Int32 × Int32 × Int32 × Int32 × Int32 × Int32 × Int32} (hf : tc_K_registersOf x1 kr kv cb qa qb qd qc qx qy qu qs qp = some z) : cs_q l my_K_registersOf mb_K_registersOf 2 (.object "TaskComputer$Registers") rm_c_K_registersOf D (ty_ cI cT) [.ref aK, .ref (tk x1)] (ck_ aK aQ aL aA tk aY aB aG aS cI cT kr uz ul ks kv kz ku cb ga gb gd gc gx gy gu gs gp qa qb qd qc qx qy qu qs qp) (ck_ aK aQ aL aA tk aY aB aG aS cI cT kr uz ul ks kv kz ku cb ga gb gd gc gx gy gu gs gp z.2.1 z.2.2.1 z.2.2.2.1 z.2.2.2.2.1 z.2.2.2.2.2.1 z.2.2.2.2.2.2.1 z.2.2.2.2.2.2.2.1 z.2.2.2.2.2.2.2.2.1 z.2.2.2.2.2.2.2.2.2) (some (cond z.1 aG aS)) := by
  refine cs_q_of (by decide) (Nat.le_of_ble_eq_true rfl) ?_
  intro p e s m below meth c A ls X hr hlk hK hP hD hS hA hZ hl
  have hx := X.1
  have hb := X.2.1
  have hl : lv_has ls 2 [(0, .ref aK), (1, .ref (tk x1))] := hl
  unfold tc_K_registersOf at hf
  refine lv_aload_n hx hb d_K_registersOf_0 rfl (lv_at hl 1 rfl) ?_
  refine lv_aload_n hx hb d_K_registersOf_1 rfl (lv_at hl 0 rfl) ?_
  refine ck_g_K_running_K X hK hP d_K_registersOf_2 ?_
  obtain ⟨hk2, hf⟩ := op_k hf
  obtain ⟨hk3, hf⟩ := op_k hf
  refine lv_acmp_ne (rx := Option.map tk (some x1)) (ry := Option.map tk kr) (tgt := 13) hx hb d_K_registersOf_5 (by decide) (fun hc => ?_) (fun hc => ?_)
  · replace hf := (if_neg (fun q => hc (congrArg (Option.map tk) q))).symm.trans hf
    refine lv_aload_n hx hb d_K_registersOf_13 rfl (lv_at hl 0 rfl) ?_
    refine lv_aload_n hx hb d_K_registersOf_14 rfl (lv_at hl 1 rfl) ?_
    refine lv_aload_n hx hb d_K_registersOf_15 rfl (lv_at hl 0 rfl) ?_
    refine ck_g_K_spare_K X hK hP d_K_registersOf_16 ?_
    obtain ⟨z4, hz4, hf⟩ := op_b hf
    refine cf_v (ws2 := (ck_ aK aQ aL aA tk aY aB aG aS cI cT kr uz ul ks kv kz ku cb ga gb gd gc gx gy gu gs gp z4.1 z4.2.1 z4.2.2.1 z4.2.2.2.1 z4.2.2.2.2.1 z4.2.2.2.2.2.1 z4.2.2.2.2.2.2.1 z4.2.2.2.2.2.2.2.1 z4.2.2.2.2.2.2.2.2)) X cx_K_45 hK hP hD hS hA hZ hl (c_tc_K_take_S (aK := aK) (aQ := aQ) (aL := aL) (aA := aA) (tk := tk) (aY := aY) (aB := aB) (aG := aG) (aS := aS) (kr := kr) (uz := uz) (ul := ul) (ks := ks) (kv := kv) (kz := kz) (ku := ku) (cb := cb) (ga := ga) (gb := gb) (gd := gd) (gc := gc) (gx := gx) (gy := gy) (gu := gu) (gs := gs) (gp := gp) (qa := qa) (qb := qb) (qd := qd) (qc := qc) (qx := qx) (qy := qy) (qu := qu) (qs := qs) (qp := qp) hz4) ⟨rfl, rfl, Nat.le_of_ble_eq_true rfl, Nat.le_of_ble_eq_true rfl⟩ [0, 1, 2, 3, 4, 5, 6, 7, 8, 9, 10, 11] [] [0, 1, 2, 3, 4, 5, 6, 7, 8, 9, 10, 11] rfl rfl rfl rfl (by decide) rfl rfl 0 rfl rfl rfl rfl rfl (Nat.le_of_ble_eq_true rfl) d_K_registersOf_19 (fun H locs hP hD hS => ?_)
    refine lv_aload_n hx hb d_K_registersOf_22 rfl (lv_at hl 0 rfl) ?_
    refine ck_g_K_spare_K X hK hP d_K_registersOf_23 ?_
    have hq := Option.some.inj hf
    subst hq
    exact rt_q (ro := some (cond false aG aS)) X hr hlk hK hP hD hS d_K_registersOf_26
  · replace hf := (if_pos (ck_inj hD hk2 hk3 hc)).symm.trans hf
    refine lv_aload_n hx hb d_K_registersOf_8 rfl (lv_at hl 0 rfl) ?_
    refine ck_g_K_registers_K X hK hP d_K_registersOf_9 ?_
    have hq := Option.some.inj hf
    subst hq
    exact rt_q (ro := some (cond true aG aS)) X hr hlk hK hP hD hS d_K_registersOf_12
set_option maxHeartbeats 4000000 in
set_option maxRecDepth 100000 in
theorem c_tc_Y_store {x1 : Int32} {x2 : Int32} {x3 : Int32} {z : (Nat → Int32)} (hf : tc_Y_store x1 x2 x3 cb = some z) : cs_v l my_Y_store mb_Y_store 7 rm_c_Y_store D (ty_ cI cT) [.ref aY, .int x1, .int x2, .int x3] (cy_ aY aB cI cT cb) (cy_ aY aB cI cT z) := by
  refine cs_v_of (by decide) (Nat.le_of_ble_eq_true rfl) ?_
  intro p e s m below meth c A ls X hr hlk hK hP hD hS hA hZ hl
  have hx := X.1
  have hb := X.2.1
  have hl : lv_has ls 7 [(0, .ref aY), (1, .int x1), (2, .int x2), (3, .int x3)] := hl
  have L8 : ∀ (n_ : Nat) (v1 : Int32) (v4 : Int32) (v5 : Int32) (cb : Nat → Int32), tc_Y_store_l8 n_ v1 v4 v5 cb = some z → ∀ (H : Heap) (locs : List Loc) (ls : Array Slot), lv_has ls 7 [(0, .ref aY), (1, .int v1), (4, .int v4), (5, .int v5)] → va_P D cz_all (cy_ aY aB cI cT cb) H → va_D A (cy_ aY aB cI cT cb) → va_S A s.heap H locs → W p l e rm_c_Y_store s m ([.ref aY, .int x1, .int x2, .int x3] : List Value).toArray below meth c H locs 0 0 (MQ below (qs_v D (ty_ cI cT) (cy_ aY aB cI cT z) A) ([.ref aY, .int x1, .int x2, .int x3] : List Value).toArray s 0 0 A) (F0 m 8 ls []) := by
    intro n_
    induction n_ with
    | zero => intro v1 v4 v5 cb hf; cases hf
    | succ n_ ih =>
      have J43 : ∀ (v1 : Int32) (v4 : Int32) (v5 : Int32) (cb : Nat → Int32), tc_Y_store_j43 (tc_Y_store_l8 n_) v1 v4 v5 cb = some z → ∀ (H : Heap) (locs : List Loc) (ls : Array Slot), lv_has ls 7 [(0, .ref aY), (1, .int v1), (4, .int v4), (5, .int v5)] → va_P D cz_all (cy_ aY aB cI cT cb) H → va_D A (cy_ aY aB cI cT cb) → va_S A s.heap H locs → W p l e rm_c_Y_store s m ([.ref aY, .int x1, .int x2, .int x3] : List Value).toArray below meth c H locs 0 0 (MQ below (qs_v D (ty_ cI cT) (cy_ aY aB cI cT z) A) ([.ref aY, .int x1, .int x2, .int x3] : List Value).toArray s 0 0 A) (F0 m 43 ls []) := by
        intro v1 v4 v5 cb hf H locs ls hl hP hD hS
        unfold tc_Y_store_j43 at hf
        refine lv_iload hx hb d_Y_store_43 (lv_at hl 2 rfl) ?_
        refine lv_bipush (v := (8 : Int32)) hx hb d_Y_store_45 (by decide) ?_
        refine lv_ishr hx hb d_Y_store_47 ?_
        refine lv_istore hx hb d_Y_store_48 hl (by decide) rfl (fun ls hl => ?_)
        have hl : lv_has ls 7 [(4, .int (v4 >>> ((8 : Int32) &&& 31))), (0, .ref aY), (1, .int v1), (5, .int v5)] := hl
        refine lv_iinc (k := 3) hx hb d_Y_store_50 hl rfl rfl (by decide) rfl (fun ls hl => ?_)
        have hl : lv_has ls 7 [(5, .int (v5 + Int32.ofInt (-1))), (4, .int (v4 >>> ((8 : Int32) &&& 31))), (0, .ref aY), (1, .int v1)] := hl
        refine lv_goto (tgt := 8) hx hb d_Y_store_53 (by decide) ?_
        exact ih v1 (v4 >>> ((8 : Int32) &&& 31)) (v5 + Int32.ofInt (-1)) cb hf _ _ _ (lv_sub hl [2, 3, 1, 0] rfl) hP hD hS
      intro v1 v4 v5 cb hf H locs ls hl hP hD hS
      replace hf := (tc_Y_store_l8_s n_ v1 v4 v5 cb).symm.trans hf
      refine lv_iload hx hb d_Y_store_8 (lv_at hl 3 rfl) ?_
      refine lv_if_lt (tgt := 56) hx hb d_Y_store_10 (by decide) (fun hc => ?_) (fun hc => ?_)
      · replace hf := (if_pos hc).symm.trans hf
        have hq := Option.some.inj hf
        subst hq
        exact rt_v X hr hlk hK hP hD hS d_Y_store_56
      · replace hf := (if_neg hc).symm.trans hf
        refine lv_iload_n hx hb d_Y_store_13 rfl (lv_at hl 1 rfl) ?_
        refine lv_iload hx hb d_Y_store_14 (lv_at hl 3 rfl) ?_
        refine lv_iadd hx hb d_Y_store_16 ?_
        refine lv_ldc (v := (65535 : Int32)) hx hb X.2.2.2.1 (X.2.2.2.2 _ ww_3) d_Y_store_17 ?_
        refine lv_iand hx hb d_Y_store_19 ?_
        refine lv_istore hx hb d_Y_store_20 hl (by decide) rfl (fun ls hl => ?_)
        have hl : lv_has ls 7 [(6, .int ((v1 + v5) &&& (65535 : Int32))), (0, .ref aY), (1, .int v1), (4, .int v4), (5, .int v5)] := hl
        refine lv_iload hx hb d_Y_store_22 (lv_at hl 0 rfl) ?_
        refine lv_sipush (v := (512 : Int32)) hx hb d_Y_store_24 (by decide) ?_
        refine lv_icmp_ge (tgt := 43) hx hb d_Y_store_27 (by decide) (fun hc => ?_) (fun hc => ?_)
        · replace hf := (if_pos hc).symm.trans hf
          exact J43 v1 v4 v5 cb hf _ _ _ (lv_sub hl [1, 2, 3, 4] rfl) hP hD hS
        · replace hf := (if_neg hc).symm.trans hf
          refine lv_aload_n hx hb d_Y_store_30 rfl (lv_at hl 1 rfl) ?_
          refine cy_g_Y_bytes_Y X hK hP d_Y_store_31 ?_
          refine lv_iload hx hb d_Y_store_34 (lv_at hl 0 rfl) ?_
          refine lv_iload hx hb d_Y_store_36 (lv_at hl 3 rfl) ?_
          refine lv_sipush (v := (255 : Int32)) hx hb d_Y_store_38 (by decide) ?_
          refine lv_iand hx hb d_Y_store_41 ?_
          obtain ⟨hi2, hf⟩ := op_c hf
          refine cy_s_B (k := (((v1 + v5) &&& (65535 : Int32)).toNatClampNeg)) X hK hP hD hS hi2 rfl d_Y_store_42 (fun H locs hP hD hS => ?_)
          exact J43 v1 v4 v5 (upd cb (((v1 + v5) &&& (65535 : Int32)).toNatClampNeg) (v4 &&& (255 : Int32))) hf _ _ _ (lv_sub hl [1, 2, 3, 4] rfl) hP hD hS
  unfold tc_Y_store at hf
  refine lv_iload_n hx hb d_Y_store_0 rfl (lv_at hl 2 rfl) ?_
  refine lv_istore hx hb d_Y_store_1 hl (by decide) rfl (fun ls hl => ?_)
  have hl : lv_has ls 7 [(4, .int x2), (0, .ref aY), (1, .int x1), (2, .int x2), (3, .int x3)] := hl
  refine lv_iload_n hx hb d_Y_store_3 rfl (lv_at hl 4 rfl) ?_
  refine lv_iconst (v := (1 : Int32)) hx hb d_Y_store_4 (by decide) ?_
  refine lv_isub hx hb d_Y_store_5 ?_
  refine lv_istore hx hb d_Y_store_6 hl (by decide) rfl (fun ls hl => ?_)
  have hl : lv_has ls 7 [(5, .int (x3 - (1 : Int32))), (4, .int x2), (0, .ref aY), (1, .int x1), (2, .int x2), (3, .int x3)] := hl
  exact L8 3 x1 x2 (x3 - (1 : Int32)) cb hf _ _ _ (lv_sub hl [2, 3, 1, 0] rfl) hP hD hS
set_option maxHeartbeats 4000000 in
set_option maxRecDepth 100000 in
theorem c_tc_G_push {x2 : Int32} {x3 : Int32} {z : Int32 × Int32 × Int32 × Int32 × Int32 × Int32 × Int32 × Int32 × Int32 × Int32 × (Nat → Int32)} (hf : tc_G_push x2 x3 ga gb gd gc gx gy gu gs gp cb = some z) : cs_i l my_G_push mb_G_push 8 .int rm_c_G_push D (ty_ cI cT) [.ref aG, .ref aY, .int x2, .int x3] (ch_ aY aB aG cI cT ga gb gd gc gx gy gu gs gp cb) (ch_ aY aB aG cI cT z.2.1 z.2.2.1 z.2.2.2.1 z.2.2.2.2.1 z.2.2.2.2.2.1 z.2.2.2.2.2.2.1 z.2.2.2.2.2.2.2.1 z.2.2.2.2.2.2.2.2.1 z.2.2.2.2.2.2.2.2.2.1 z.2.2.2.2.2.2.2.2.2.2) z.1 := by
  refine cs_i_of (by decide) (Nat.le_of_ble_eq_true rfl) ?_
  intro p e s m below meth c A ls X hr hlk hK hP hD hS hA hZ hl
  have hx := X.1
  have hb := X.2.1
  have hl : lv_has ls 8 [(0, .ref aG), (1, .ref aY), (2, .int x2), (3, .int x3)] := hl
  have L7 : ∀ (n_ : Nat) (v2 : Int32) (v3 : Int32) (v4 : Int32) (v5 : Int32) (ga : Int32) (gb : Int32) (gd : Int32) (gc : Int32) (gx : Int32) (gy : Int32) (gu : Int32) (gs : Int32) (gp : Int32) (cb : Nat → Int32), tc_G_push_l7 n_ v2 v3 v4 v5 ga gb gd gc gx gy gu gs gp cb = some z → ∀ (H : Heap) (locs : List Loc) (ls : Array Slot), lv_has ls 8 [(0, .ref aG), (1, .ref aY), (2, .int v2), (3, .int v3), (4, .int v4), (5, .int v5)] → va_P D cz_all (ch_ aY aB aG cI cT ga gb gd gc gx gy gu gs gp cb) H → va_D A (ch_ aY aB aG cI cT ga gb gd gc gx gy gu gs gp cb) → va_S A s.heap H locs → W p l e rm_c_G_push s m ([.ref aG, .ref aY, .int x2, .int x3] : List Value).toArray below meth c H locs 0 0 (MQ below (qs_i D (ty_ cI cT) (ch_ aY aB aG cI cT z.2.1 z.2.2.1 z.2.2.2.1 z.2.2.2.2.1 z.2.2.2.2.2.1 z.2.2.2.2.2.2.1 z.2.2.2.2.2.2.2.1 z.2.2.2.2.2.2.2.2.1 z.2.2.2.2.2.2.2.2.2.1 z.2.2.2.2.2.2.2.2.2.2) z.1 A) ([.ref aG, .ref aY, .int x2, .int x3] : List Value).toArray s 0 0 A) (F0 m 7 ls []) := by
    intro n_
    induction n_ with
    | zero => intro v2 v3 v4 v5 ga gb gd gc gx gy gu gs gp cb hf; cases hf
    | succ n_ ih =>
      have J74 : ∀ (v2 : Int32) (v3 : Int32) (v4 : Int32) (v5 : Int32) (ga : Int32) (gb : Int32) (gd : Int32) (gc : Int32) (gx : Int32) (gy : Int32) (gu : Int32) (gs : Int32) (gp : Int32) (cb : Nat → Int32), tc_G_push_j74 (tc_G_push_l7 n_) v2 v3 v4 v5 ga gb gd gc gx gy gu gs gp cb = some z → ∀ (H : Heap) (locs : List Loc) (ls : Array Slot), lv_has ls 8 [(0, .ref aG), (1, .ref aY), (2, .int v2), (3, .int v3), (4, .int v4), (5, .int v5)] → va_P D cz_all (ch_ aY aB aG cI cT ga gb gd gc gx gy gu gs gp cb) H → va_D A (ch_ aY aB aG cI cT ga gb gd gc gx gy gu gs gp cb) → va_S A s.heap H locs → W p l e rm_c_G_push s m ([.ref aG, .ref aY, .int x2, .int x3] : List Value).toArray below meth c H locs 0 0 (MQ below (qs_i D (ty_ cI cT) (ch_ aY aB aG cI cT z.2.1 z.2.2.1 z.2.2.2.1 z.2.2.2.2.1 z.2.2.2.2.2.1 z.2.2.2.2.2.2.1 z.2.2.2.2.2.2.2.1 z.2.2.2.2.2.2.2.2.1 z.2.2.2.2.2.2.2.2.2.1 z.2.2.2.2.2.2.2.2.2.2) z.1 A) ([.ref aG, .ref aY, .int x2, .int x3] : List Value).toArray s 0 0 A) (F0 m 74 ls []) := by
        intro v2 v3 v4 v5 ga gb gd gc gx gy gu gs gp cb hf H locs ls hl hP hD hS
        unfold tc_G_push_j74 at hf
        refine lv_iinc (k := 5) hx hb d_G_push_74 hl rfl rfl (by decide) rfl (fun ls hl => ?_)
        have hl : lv_has ls 8 [(5, .int (v5 + Int32.ofInt (-1))), (0, .ref aG), (1, .ref aY), (2, .int v2), (3, .int v3), (4, .int v4)] := hl
        refine lv_goto (tgt := 7) hx hb d_G_push_77 (by decide) ?_
        exact ih v2 v3 v4 (v5 + Int32.ofInt (-1)) ga gb gd gc gx gy gu gs gp cb hf _ _ _ (lv_sub hl [1, 2, 3, 4, 5, 0] rfl) hP hD hS
      intro v2 v3 v4 v5 ga gb gd gc gx gy gu gs gp cb hf H locs ls hl hP hD hS
      replace hf := (tc_G_push_l7_s n_ v2 v3 v4 v5 ga gb gd gc gx gy gu gs gp cb).symm.trans hf
      refine lv_iload hx hb d_G_push_7 (lv_at hl 5 rfl) ?_
      refine lv_if_lt (tgt := 80) hx hb d_G_push_9 (by decide) (fun hc => ?_) (fun hc => ?_)
      · replace hf := (if_pos hc).symm.trans hf
        refine lv_iload hx hb d_G_push_80 (lv_at hl 4 rfl) ?_
        have hq := Option.some.inj hf
        subst hq
        exact rt_i (r := v4) X hr hlk hK rfl hP hD hS d_G_push_82
      · replace hf := (if_neg hc).symm.trans hf
        refine lv_iload_n hx hb d_G_push_12 rfl (lv_at hl 3 rfl) ?_
        refine lv_iload hx hb d_G_push_13 (lv_at hl 5 rfl) ?_
        refine lv_ishr hx hb d_G_push_15 ?_
        refine lv_iconst (v := (1 : Int32)) hx hb d_G_push_16 (by decide) ?_
        refine lv_iand hx hb d_G_push_17 ?_
        refine lv_iconst (v := (1 : Int32)) hx hb d_G_push_18 (by decide) ?_
        refine lv_icmp_ne (tgt := 74) hx hb d_G_push_19 (by decide) (fun hc => ?_) (fun hc => ?_)
        · replace hf := (if_neg hc).symm.trans hf
          exact J74 v2 v3 v4 v5 ga gb gd gc gx gy gu gs gp cb hf _ _ _ hl hP hD hS
        · replace hf := (if_pos hc).symm.trans hf
          refine lv_iload hx hb d_G_push_22 (lv_at hl 5 rfl) ?_
          refine lv_iload_n hx hb d_G_push_24 rfl (lv_at hl 2 rfl) ?_
          obtain ⟨z15, hz15, hf⟩ := op_b hf
          refine cf_si X cx_G_40 hK hP hD hS hA hZ hl (c_tc_G_pushedAt (w := (ch_ aY aB aG cI cT ga gb gd gc gx gy gu gs gp cb)) hz15) ⟨rfl, rfl, Nat.le_of_ble_eq_true rfl, Nat.le_of_ble_eq_true rfl⟩ rfl rfl (Nat.le_of_ble_eq_true rfl) d_G_push_25 (fun H locs hP hD hS => ?_)
          refine lv_istore hx hb d_G_push_28 hl (by decide) rfl (fun ls hl => ?_)
          have hl : lv_has ls 8 [(6, .int z15), (0, .ref aG), (1, .ref aY), (2, .int v2), (3, .int v3), (4, .int v4), (5, .int v5)] := hl
          refine lv_iload hx hb d_G_push_30 (lv_at hl 0 rfl) ?_
          obtain ⟨z16, hz16, hf⟩ := op_b hf
          refine cf_si X cx_G_44 hK hP hD hS hA hZ hl (c_tc_G_sizeOf (w := (ch_ aY aB aG cI cT ga gb gd gc gx gy gu gs gp cb)) hz16) ⟨rfl, rfl, Nat.le_of_ble_eq_true rfl, Nat.le_of_ble_eq_true rfl⟩ rfl rfl (Nat.le_of_ble_eq_true rfl) d_G_push_32 (fun H locs hP hD hS => ?_)
          refine lv_istore hx hb d_G_push_35 hl (by decide) rfl (fun ls hl => ?_)
          have hl : lv_has ls 8 [(7, .int z16), (6, .int z15), (0, .ref aG), (1, .ref aY), (2, .int v2), (3, .int v3), (4, .int v4), (5, .int v5)] := hl
          refine lv_aload_n hx hb d_G_push_37 rfl (lv_at hl 2 rfl) ?_
          refine lv_iload_n hx hb d_G_push_38 rfl (lv_at hl 4 rfl) ?_
          refine lv_aload_n hx hb d_G_push_39 rfl (lv_at hl 2 rfl) ?_
          refine lv_iload_n hx hb d_G_push_40 rfl (lv_at hl 4 rfl) ?_
          obtain ⟨z17, hz17, hf⟩ := op_b hf
          refine cf_i (ws2 := (ch_ aY aB aG cI cT ga gb gd gc gx gy gu gs gp cb)) X cx_G_48 hK hP hD hS hA hZ hl (c_tc_G_get (aG := aG) (ga := ga) (gb := gb) (gd := gd) (gc := gc) (gx := gx) (gy := gy) (gu := gu) (gs := gs) (gp := gp) hz17) ⟨rfl, rfl, Nat.le_of_ble_eq_true rfl, Nat.le_of_ble_eq_true rfl⟩ [0] [1, 2] [2, 0, 1] rfl rfl rfl rfl (by decide) rfl rfl 0 rfl rfl rfl rfl rfl (Nat.le_of_ble_eq_true rfl) d_G_push_41 (fun H locs hP hD hS => ?_)
          refine lv_iload hx hb d_G_push_44 (lv_at hl 0 rfl) ?_
          refine lv_isub hx hb d_G_push_46 ?_
          obtain ⟨z18, hz18, hf⟩ := op_b hf
          refine cf_v (ws2 := (ch_ aY aB aG cI cT z18.1 z18.2.1 z18.2.2.1 z18.2.2.2.1 z18.2.2.2.2.1 z18.2.2.2.2.2.1 z18.2.2.2.2.2.2.1 z18.2.2.2.2.2.2.2.1 z18.2.2.2.2.2.2.2.2 cb)) X cx_G_51 hK hP hD hS hA hZ hl (c_tc_G_set (aG := aG) (ga := ga) (gb := gb) (gd := gd) (gc := gc) (gx := gx) (gy := gy) (gu := gu) (gs := gs) (gp := gp) hz18) ⟨rfl, rfl, Nat.le_of_ble_eq_true rfl, Nat.le_of_ble_eq_true rfl⟩ [0] [1, 2] [2, 0, 1] rfl rfl rfl rfl (by decide) rfl rfl 0 rfl rfl rfl rfl rfl (Nat.le_of_ble_eq_true rfl) d_G_push_47 (fun H locs hP hD hS => ?_)
          refine lv_aload_n hx hb d_G_push_50 rfl (lv_at hl 3 rfl) ?_
          refine lv_aload_n hx hb d_G_push_51 rfl (lv_at hl 2 rfl) ?_
          refine lv_iload_n hx hb d_G_push_52 rfl (lv_at hl 4 rfl) ?_
          obtain ⟨z19, hz19, hf⟩ := op_b hf
          refine cf_i (ws2 := (ch_ aY aB aG cI cT z18.1 z18.2.1 z18.2.2.1 z18.2.2.2.1 z18.2.2.2.2.1 z18.2.2.2.2.2.1 z18.2.2.2.2.2.2.1 z18.2.2.2.2.2.2.2.1 z18.2.2.2.2.2.2.2.2 cb)) X cx_G_48 hK hP hD hS hA hZ hl (c_tc_G_get (aG := aG) (ga := z18.1) (gb := z18.2.1) (gd := z18.2.2.1) (gc := z18.2.2.2.1) (gx := z18.2.2.2.2.1) (gy := z18.2.2.2.2.2.1) (gu := z18.2.2.2.2.2.2.1) (gs := z18.2.2.2.2.2.2.2.1) (gp := z18.2.2.2.2.2.2.2.2) hz19) ⟨rfl, rfl, Nat.le_of_ble_eq_true rfl, Nat.le_of_ble_eq_true rfl⟩ [0] [1, 2] [2, 0, 1] rfl rfl rfl rfl (by decide) rfl rfl 0 rfl rfl rfl rfl rfl (Nat.le_of_ble_eq_true rfl) d_G_push_53 (fun H locs hP hD hS => ?_)
          refine lv_aload_n hx hb d_G_push_56 rfl (lv_at hl 2 rfl) ?_
          refine lv_iload hx hb d_G_push_57 (lv_at hl 1 rfl) ?_
          obtain ⟨z20, hz20, hf⟩ := op_b hf
          refine cf_i (ws2 := (ch_ aY aB aG cI cT z18.1 z18.2.1 z18.2.2.1 z18.2.2.2.1 z18.2.2.2.2.1 z18.2.2.2.2.2.1 z18.2.2.2.2.2.2.1 z18.2.2.2.2.2.2.2.1 z18.2.2.2.2.2.2.2.2 cb)) X cx_G_48 hK hP hD hS hA hZ hl (c_tc_G_get (aG := aG) (ga := z18.1) (gb := z18.2.1) (gd := z18.2.2.1) (gc := z18.2.2.2.1) (gx := z18.2.2.2.2.1) (gy := z18.2.2.2.2.2.1) (gu := z18.2.2.2.2.2.2.1) (gs := z18.2.2.2.2.2.2.2.1) (gp := z18.2.2.2.2.2.2.2.2) hz20) ⟨rfl, rfl, Nat.le_of_ble_eq_true rfl, Nat.le_of_ble_eq_true rfl⟩ [0] [1, 2] [2, 0, 1] rfl rfl rfl rfl (by decide) rfl rfl 0 rfl rfl rfl rfl rfl (Nat.le_of_ble_eq_true rfl) d_G_push_59 (fun H locs hP hD hS => ?_)
          refine lv_iload hx hb d_G_push_62 (lv_at hl 0 rfl) ?_
          obtain ⟨z21, hz21, hf⟩ := op_b hf
          refine cf_v (ws2 := (ch_ aY aB aG cI cT z18.1 z18.2.1 z18.2.2.1 z18.2.2.2.1 z18.2.2.2.2.1 z18.2.2.2.2.2.1 z18.2.2.2.2.2.2.1 z18.2.2.2.2.2.2.2.1 z18.2.2.2.2.2.2.2.2 z21)) X cx_G_55 hK hP hD hS hA hZ hl (c_tc_Y_store (aY := aY) (aB := aB) (cb := cb) hz21) ⟨rfl, rfl, Nat.le_of_ble_eq_true rfl, Nat.le_of_ble_eq_true rfl⟩ [1, 2] [0] [0, 1, 2] rfl rfl rfl rfl (by decide) rfl rfl 0 rfl rfl rfl rfl rfl (Nat.le_of_ble_eq_true rfl) d_G_push_64 (fun H locs hP hD hS => ?_)
          refine lv_iload hx hb d_G_push_67 (lv_at hl 6 rfl) ?_
          refine lv_iload hx hb d_G_push_69 (lv_at hl 0 rfl) ?_
          refine lv_iadd hx hb d_G_push_71 ?_
          refine lv_istore hx hb d_G_push_72 hl (by decide) rfl (fun ls hl => ?_)
          have hl : lv_has ls 8 [(4, .int (v4 + z16)), (7, .int z16), (6, .int z15), (0, .ref aG), (1, .ref aY), (2, .int v2), (3, .int v3), (5, .int v5)] := hl
          exact J74 v2 v3 (v4 + z16) v5 z18.1 z18.2.1 z18.2.2.1 z18.2.2.2.1 z18.2.2.2.2.1 z18.2.2.2.2.2.1 z18.2.2.2.2.2.2.1 z18.2.2.2.2.2.2.2.1 z18.2.2.2.2.2.2.2.2 z21 hf _ _ _ (lv_sub hl [3, 4, 5, 6, 0, 7] rfl) hP hD hS
  unfold tc_G_push at hf
  refine lv_iconst (v := (0 : Int32)) hx hb d_G_push_0 (by decide) ?_
  refine lv_istore hx hb d_G_push_1 hl (by decide) rfl (fun ls hl => ?_)
  have hl : lv_has ls 8 [(4, .int (0 : Int32)), (0, .ref aG), (1, .ref aY), (2, .int x2), (3, .int x3)] := hl
  refine lv_bipush (v := (7 : Int32)) hx hb d_G_push_3 (by decide) ?_
  refine lv_istore hx hb d_G_push_5 hl (by decide) rfl (fun ls hl => ?_)
  have hl : lv_has ls 8 [(5, .int (7 : Int32)), (4, .int (0 : Int32)), (0, .ref aG), (1, .ref aY), (2, .int x2), (3, .int x3)] := hl
  exact L7 9 x2 x3 (0 : Int32) (7 : Int32) ga gb gd gc gx gy gu gs gp cb hf _ _ _ (lv_sub hl [2, 3, 4, 5, 1, 0] rfl) hP hD hS
set_option maxHeartbeats 4000000 in
set_option maxRecDepth 100000 in
theorem c_tc_K_stack_G {x1 : Nat} {z : (Nat → Int32) × (Nat → Int32) × Int32 × Int32 × Int32 × Int32 × Int32 × Int32 × Int32 × Int32 × Int32} (hf : tc_K_stack_G x1 kv cb ga gb gd gc gx gy gu gs gp = some z) : cs_v l my_K_stack mb_K_stack 3 rm_c_K_stack_G D (ty_ cI cT) [.ref aK, .ref (tk x1), .ref aG] (ck_ aK aQ aL aA tk aY aB aG aS cI cT kr uz ul ks kv kz ku cb ga gb gd gc gx gy gu gs gp qa qb qd qc qx qy qu qs qp) (ck_ aK aQ aL aA tk aY aB aG aS cI cT kr uz ul ks z.1 kz ku z.2.1 z.2.2.1 z.2.2.2.1 z.2.2.2.2.1 z.2.2.2.2.2.1 z.2.2.2.2.2.2.1 z.2.2.2.2.2.2.2.1 z.2.2.2.2.2.2.2.2.1 z.2.2.2.2.2.2.2.2.2.1 z.2.2.2.2.2.2.2.2.2.2 qa qb qd qc qx qy qu qs qp) := by
  refine cs_v_of (by decide) (Nat.le_of_ble_eq_true rfl) ?_
  intro p e s m below meth c A ls X hr hlk hK hP hD hS hA hZ hl
  have hx := X.1
  have hb := X.2.1
  have hl : lv_has ls 3 [(0, .ref aK), (1, .ref (tk x1)), (2, .ref aG)] := hl
  unfold tc_K_stack_G at hf
  refine lv_aload_n hx hb d_K_stack_0 rfl (lv_at hl 2 rfl) ?_
  refine lv_dup hx hb d_K_stack_1 rfl ?_
  refine ck_g_G_cc_K X hK hP d_K_stack_2 ?_
  refine lv_sipush (v := (128 : Int32)) hx hb d_K_stack_5 (by decide) ?_
  refine lv_ior hx hb d_K_stack_8 ?_
  refine ck_p_G_cc_K (x := (gc ||| (128 : Int32))) X hK hP hD hS d_K_stack_9 (fun H locs hP hD hS => ?_)
  refine lv_aload_n hx hb d_K_stack_12 rfl (lv_at hl 2 rfl) ?_
  refine lv_aload_n hx hb d_K_stack_13 rfl (lv_at hl 0 rfl) ?_
  refine ck_g_K_memory_K X hK hP d_K_stack_14 ?_
  refine lv_iconst (v := (4 : Int32)) hx hb d_K_stack_17 (by decide) ?_
  refine lv_sipush (v := (255 : Int32)) hx hb d_K_stack_18 (by decide) ?_
  obtain ⟨z3, hz3, hf⟩ := op_b hf
  refine cf_i (ws2 := (ck_ aK aQ aL aA tk aY aB aG aS cI cT kr uz ul ks kv kz ku z3.2.2.2.2.2.2.2.2.2.2 z3.2.1 z3.2.2.1 z3.2.2.2.1 z3.2.2.2.2.1 z3.2.2.2.2.2.1 z3.2.2.2.2.2.2.1 z3.2.2.2.2.2.2.2.1 z3.2.2.2.2.2.2.2.2.1 z3.2.2.2.2.2.2.2.2.2.1 qa qb qd qc qx qy qu qs qp)) X cx_K_159 hK hP hD hS hA hZ hl (c_tc_G_push (aY := aY) (aB := aB) (aG := aG) (ga := ga) (gb := gb) (gd := gd) (gc := (gc ||| (128 : Int32))) (gx := gx) (gy := gy) (gu := gu) (gs := gs) (gp := gp) (cb := cb) hz3) ⟨rfl, rfl, Nat.le_of_ble_eq_true rfl, Nat.le_of_ble_eq_true rfl⟩ [10, 8, 9] [0, 1, 2, 3, 4, 5, 6, 7, 11] [0, 1, 2, 3, 4, 5, 6, 7, 10, 11, 9, 8] rfl rfl rfl rfl (by decide) rfl rfl 0 rfl rfl rfl rfl rfl (Nat.le_of_ble_eq_true rfl) d_K_stack_21 (fun H locs hP hD hS => ?_)
  refine lv_pop hx hb d_K_stack_24 rfl ?_
  refine lv_aload_n hx hb d_K_stack_25 rfl (lv_at hl 1 rfl) ?_
  refine lv_aload_n hx hb d_K_stack_26 rfl (lv_at hl 2 rfl) ?_
  refine ck_g_G_s_K X hK hP d_K_stack_27 ?_
  obtain ⟨ht4, hf⟩ := op_t hf
  refine ck_tp_s_K (x := z3.2.2.2.2.2.2.2.2.1) X hK hP hD hS ht4 d_K_stack_30 (fun H locs hP hD hS => ?_)
  have hq := Option.some.inj hf
  subst hq
  exact rt_v X hr hlk hK hP hD hS d_K_stack_33
set_option maxHeartbeats 4000000 in
set_option maxRecDepth 100000 in
theorem c_tc_K_stack_S {x1 : Nat} {z : (Nat → Int32) × (Nat → Int32) × Int32 × Int32 × Int32 × Int32 × Int32 × Int32 × Int32 × Int32 × Int32} (hf : tc_K_stack_S x1 kv cb qa qb qd qc qx qy qu qs qp = some z) : cs_v l my_K_stack mb_K_stack 3 rm_c_K_stack_S D (ty_ cI cT) [.ref aK, .ref (tk x1), .ref aS] (ck_ aK aQ aL aA tk aY aB aG aS cI cT kr uz ul ks kv kz ku cb ga gb gd gc gx gy gu gs gp qa qb qd qc qx qy qu qs qp) (ck_ aK aQ aL aA tk aY aB aG aS cI cT kr uz ul ks z.1 kz ku z.2.1 ga gb gd gc gx gy gu gs gp z.2.2.1 z.2.2.2.1 z.2.2.2.2.1 z.2.2.2.2.2.1 z.2.2.2.2.2.2.1 z.2.2.2.2.2.2.2.1 z.2.2.2.2.2.2.2.2.1 z.2.2.2.2.2.2.2.2.2.1 z.2.2.2.2.2.2.2.2.2.2) := by
  refine cs_v_of (by decide) (Nat.le_of_ble_eq_true rfl) ?_
  intro p e s m below meth c A ls X hr hlk hK hP hD hS hA hZ hl
  have hx := X.1
  have hb := X.2.1
  have hl : lv_has ls 3 [(0, .ref aK), (1, .ref (tk x1)), (2, .ref aS)] := hl
  unfold tc_K_stack_S at hf
  refine lv_aload_n hx hb d_K_stack_0 rfl (lv_at hl 2 rfl) ?_
  refine lv_dup hx hb d_K_stack_1 rfl ?_
  refine ck_g_S_cc_K X hK hP d_K_stack_2 ?_
  refine lv_sipush (v := (128 : Int32)) hx hb d_K_stack_5 (by decide) ?_
  refine lv_ior hx hb d_K_stack_8 ?_
  refine ck_p_S_cc_K (x := (qc ||| (128 : Int32))) X hK hP hD hS d_K_stack_9 (fun H locs hP hD hS => ?_)
  refine lv_aload_n hx hb d_K_stack_12 rfl (lv_at hl 2 rfl) ?_
  refine lv_aload_n hx hb d_K_stack_13 rfl (lv_at hl 0 rfl) ?_
  refine ck_g_K_memory_K X hK hP d_K_stack_14 ?_
  refine lv_iconst (v := (4 : Int32)) hx hb d_K_stack_17 (by decide) ?_
  refine lv_sipush (v := (255 : Int32)) hx hb d_K_stack_18 (by decide) ?_
  obtain ⟨z3, hz3, hf⟩ := op_b hf
  refine cf_i (ws2 := (ck_ aK aQ aL aA tk aY aB aG aS cI cT kr uz ul ks kv kz ku z3.2.2.2.2.2.2.2.2.2.2 ga gb gd gc gx gy gu gs gp z3.2.1 z3.2.2.1 z3.2.2.2.1 z3.2.2.2.2.1 z3.2.2.2.2.2.1 z3.2.2.2.2.2.2.1 z3.2.2.2.2.2.2.2.1 z3.2.2.2.2.2.2.2.2.1 z3.2.2.2.2.2.2.2.2.2.1)) X cx_K_159 hK hP hD hS hA hZ hl (c_tc_G_push (aY := aY) (aB := aB) (aG := aS) (ga := qa) (gb := qb) (gd := qd) (gc := (qc ||| (128 : Int32))) (gx := qx) (gy := qy) (gu := qu) (gs := qs) (gp := qp) (cb := cb) hz3) ⟨rfl, rfl, Nat.le_of_ble_eq_true rfl, Nat.le_of_ble_eq_true rfl⟩ [11, 8, 9] [0, 1, 2, 3, 4, 5, 6, 7, 10] [0, 1, 2, 3, 4, 5, 6, 7, 10, 11, 8, 9] rfl rfl rfl rfl (by decide) rfl rfl 0 rfl rfl rfl rfl rfl (Nat.le_of_ble_eq_true rfl) d_K_stack_21 (fun H locs hP hD hS => ?_)
  refine lv_pop hx hb d_K_stack_24 rfl ?_
  refine lv_aload_n hx hb d_K_stack_25 rfl (lv_at hl 1 rfl) ?_
  refine lv_aload_n hx hb d_K_stack_26 rfl (lv_at hl 2 rfl) ?_
  refine ck_g_S_s_K X hK hP d_K_stack_27 ?_
  obtain ⟨ht4, hf⟩ := op_t hf
  refine ck_tp_s_K (x := z3.2.2.2.2.2.2.2.2.1) X hK hP hD hS ht4 d_K_stack_30 (fun H locs hP hD hS => ?_)
  have hq := Option.some.inj hf
  subst hq
  exact rt_v X hr hlk hK hP hD hS d_K_stack_33
set_option maxHeartbeats 4000000 in
set_option maxRecDepth 100000 in
theorem c_tc_Q_append {x1 : Nat} {z : Int32 × (Nat → Option Nat)} (hf : tc_Q_append x1 uz ul = some z) : cs_v l my_Q_append mb_Q_append 2 rm_c_Q_append D (ty_ cI cT) [.ref aQ, .ref (tk x1)] (cq_ aQ aL tk cI cT uz ul ks kv kz ku) (cq_ aQ aL tk cI cT z.1 z.2 ks kv kz ku) := by
  refine cs_v_of (by decide) (Nat.le_of_ble_eq_true rfl) ?_
  intro p e s m below meth c A ls X hr hlk hK hP hD hS hA hZ hl
  have hx := X.1
  have hb := X.2.1
  have hl : lv_has ls 2 [(0, .ref aQ), (1, .ref (tk x1))] := hl
  unfold tc_Q_append at hf
  refine lv_aload_n hx hb d_Q_append_0 rfl (lv_at hl 0 rfl) ?_
  refine cq_g_Q_size_Q X hK hP d_Q_append_1 ?_
  refine lv_aload_n hx hb d_Q_append_4 rfl (lv_at hl 0 rfl) ?_
  refine cq_g_Q_places_Q X hK hP d_Q_append_5 ?_
  refine cq_l_L X hK hP d_Q_append_8 ?_
  refine lv_icmp_ge (tgt := 32) hx hb d_Q_append_9 (by decide) (fun hc => ?_) (fun hc => ?_)
  · replace hf := (if_pos hc).symm.trans hf
    have hq := Option.some.inj hf
    subst hq
    exact rt_v X hr hlk hK hP hD hS d_Q_append_32
  · replace hf := (if_neg hc).symm.trans hf
    refine lv_aload_n hx hb d_Q_append_12 rfl (lv_at hl 0 rfl) ?_
    refine cq_g_Q_places_Q X hK hP d_Q_append_13 ?_
    refine lv_aload_n hx hb d_Q_append_16 rfl (lv_at hl 0 rfl) ?_
    refine cq_g_Q_size_Q X hK hP d_Q_append_17 ?_
    refine lv_aload_n hx hb d_Q_append_20 rfl (lv_at hl 1 rfl) ?_
    obtain ⟨hi3, hf⟩ := op_c hf
    obtain ⟨ht4, hf⟩ := op_t hf
    refine cq_s_L (k := (uz.toNatClampNeg)) (j := x1) X hK hP hD hS hi3 rfl ht4 d_Q_append_21 (fun H locs hP hD hS => ?_)
    refine lv_aload_n hx hb d_Q_append_22 rfl (lv_at hl 0 rfl) ?_
    refine lv_dup hx hb d_Q_append_23 rfl ?_
    refine cq_g_Q_size_Q X hK hP d_Q_append_24 ?_
    refine lv_iconst (v := (1 : Int32)) hx hb d_Q_append_27 (by decide) ?_
    refine lv_iadd hx hb d_Q_append_28 ?_
    refine cq_p_Q_size_Q (x := (uz + (1 : Int32))) X hK hP hD hS d_Q_append_29 (fun H locs hP hD hS => ?_)
    have hq := Option.some.inj hf
    subst hq
    exact rt_v X hr hlk hK hP hD hS d_Q_append_32
set_option maxHeartbeats 4000000 in
set_option maxRecDepth 100000 in
theorem c_tc_K_makeReady {x1 : Nat} {z : Int32 × (Nat → Option Nat) × (Nat → Int32)} (hf : tc_K_makeReady x1 uz ul ks = some z) : cs_v l my_K_makeReady mb_K_makeReady 2 rm_c_K_makeReady D (ty_ cI cT) [.ref aK, .ref (tk x1)] (ck_ aK aQ aL aA tk aY aB aG aS cI cT kr uz ul ks kv kz ku cb ga gb gd gc gx gy gu gs gp qa qb qd qc qx qy qu qs qp) (ck_ aK aQ aL aA tk aY aB aG aS cI cT kr z.1 z.2.1 z.2.2 kv kz ku cb ga gb gd gc gx gy gu gs gp qa qb qd qc qx qy qu qs qp) := by
  refine cs_v_of (by decide) (Nat.le_of_ble_eq_true rfl) ?_
  intro p e s m below meth c A ls X hr hlk hK hP hD hS hA hZ hl
  have hx := X.1
  have hb := X.2.1
  have hl : lv_has ls 2 [(0, .ref aK), (1, .ref (tk x1))] := hl
  unfold tc_K_makeReady at hf
  refine lv_aload_n hx hb d_K_makeReady_0 rfl (lv_at hl 1 rfl) ?_
  refine lv_iconst (v := (2 : Int32)) hx hb d_K_makeReady_1 (by decide) ?_
  obtain ⟨ht3, hf⟩ := op_t hf
  refine ck_tp_state_K (x := (2 : Int32)) X hK hP hD hS ht3 d_K_makeReady_2 (fun H locs hP hD hS => ?_)
  refine lv_aload_n hx hb d_K_makeReady_5 rfl (lv_at hl 0 rfl) ?_
  refine ck_g_K_queue_K X hK hP d_K_makeReady_6 ?_
  refine lv_aload_n hx hb d_K_makeReady_9 rfl (lv_at hl 1 rfl) ?_
  obtain ⟨z4, hz4, hf⟩ := op_b hf
  refine cf_v (ws2 := (ck_ aK aQ aL aA tk aY aB aG aS cI cT kr z4.1 z4.2 (upd ks x1 (2 : Int32)) kv kz ku cb ga gb gd gc gx gy gu gs gp qa qb qd qc qx qy qu qs qp)) X cx_K_156 hK hP hD hS hA hZ hl (c_tc_Q_append (aQ := aQ) (aL := aL) (tk := tk) (uz := uz) (ul := ul) (ks := (upd ks x1 (2 : Int32))) (kv := kv) (kz := kz) (ku := ku) hz4) ⟨rfl, rfl, Nat.le_of_ble_eq_true rfl, Nat.le_of_ble_eq_true rfl⟩ [1, 2, 4, 5, 6, 7] [0, 3, 8, 9, 10, 11] [0, 6, 7, 1, 8, 9, 10, 11, 2, 3, 4, 5] rfl rfl rfl rfl (by decide) rfl rfl 0 rfl rfl rfl rfl rfl (Nat.le_of_ble_eq_true rfl) d_K_makeReady_10 (fun H locs hP hD hS => ?_)
  have hq := Option.some.inj hf
  subst hq
  exact rt_v X hr hlk hK hP hD hS d_K_makeReady_13
set_option maxHeartbeats 4000000 in
set_option maxRecDepth 100000 in
theorem c_tc_K_begin {x1 : Nat} {x2 : Int32} {x3 : Int32} {z : Int32 × (Nat → Option Nat) × (Nat → Int32) × (Nat → Int32) × (Nat → Int32) × Int32 × Int32 × Int32 × Int32 × Int32 × Int32 × Int32 × Int32 × Int32} (hf : tc_K_begin x1 x2 x3 uz ul ks kv cb qa qb qd qc qx qy qu qs qp = some z) : cs_v l my_K_begin mb_K_begin 4 rm_c_K_begin D (ty_ cI cT) [.ref aK, .ref (tk x1), .int x2, .int x3] (ck_ aK aQ aL aA tk aY aB aG aS cI cT kr uz ul ks kv kz ku cb ga gb gd gc gx gy gu gs gp qa qb qd qc qx qy qu qs qp) (ck_ aK aQ aL aA tk aY aB aG aS cI cT kr z.1 z.2.1 z.2.2.1 z.2.2.2.1 kz ku z.2.2.2.2.1 ga gb gd gc gx gy gu gs gp z.2.2.2.2.2.1 z.2.2.2.2.2.2.1 z.2.2.2.2.2.2.2.1 z.2.2.2.2.2.2.2.2.1 z.2.2.2.2.2.2.2.2.2.1 z.2.2.2.2.2.2.2.2.2.2.1 z.2.2.2.2.2.2.2.2.2.2.2.1 z.2.2.2.2.2.2.2.2.2.2.2.2.1 z.2.2.2.2.2.2.2.2.2.2.2.2.2) := by
  refine cs_v_of (by decide) (Nat.le_of_ble_eq_true rfl) ?_
  intro p e s m below meth c A ls X hr hlk hK hP hD hS hA hZ hl
  have hx := X.1
  have hb := X.2.1
  have hl : lv_has ls 4 [(0, .ref aK), (1, .ref (tk x1)), (2, .int x2), (3, .int x3)] := hl
  unfold tc_K_begin at hf
  refine lv_aload_n hx hb d_K_begin_0 rfl (lv_at hl 0 rfl) ?_
  refine ck_g_K_spare_K X hK hP d_K_begin_1 ?_
  refine lv_iload_n hx hb d_K_begin_4 rfl (lv_at hl 3 rfl) ?_
  refine ck_p_S_a_K (x := x3) X hK hP hD hS d_K_begin_5 (fun H locs hP hD hS => ?_)
  refine lv_aload_n hx hb d_K_begin_8 rfl (lv_at hl 0 rfl) ?_
  refine ck_g_K_spare_K X hK hP d_K_begin_9 ?_
  refine lv_iconst (v := (0 : Int32)) hx hb d_K_begin_12 (by decide) ?_
  refine ck_p_S_b_K (x := (0 : Int32)) X hK hP hD hS d_K_begin_13 (fun H locs hP hD hS => ?_)
  refine lv_aload_n hx hb d_K_begin_16 rfl (lv_at hl 0 rfl) ?_
  refine ck_g_K_spare_K X hK hP d_K_begin_17 ?_
  refine lv_iconst (v := (0 : Int32)) hx hb d_K_begin_20 (by decide) ?_
  refine ck_p_S_dp_K (x := (0 : Int32)) X hK hP hD hS d_K_begin_21 (fun H locs hP hD hS => ?_)
  refine lv_aload_n hx hb d_K_begin_24 rfl (lv_at hl 0 rfl) ?_
  refine ck_g_K_spare_K X hK hP d_K_begin_25 ?_
  refine lv_iconst (v := (0 : Int32)) hx hb d_K_begin_28 (by decide) ?_
  refine ck_p_S_cc_K (x := (0 : Int32)) X hK hP hD hS d_K_begin_29 (fun H locs hP hD hS => ?_)
  refine lv_aload_n hx hb d_K_begin_32 rfl (lv_at hl 0 rfl) ?_
  refine ck_g_K_spare_K X hK hP d_K_begin_33 ?_
  refine lv_iconst (v := (0 : Int32)) hx hb d_K_begin_36 (by decide) ?_
  refine ck_p_S_x_K (x := (0 : Int32)) X hK hP hD hS d_K_begin_37 (fun H locs hP hD hS => ?_)
  refine lv_aload_n hx hb d_K_begin_40 rfl (lv_at hl 0 rfl) ?_
  refine ck_g_K_spare_K X hK hP d_K_begin_41 ?_
  refine lv_iconst (v := (0 : Int32)) hx hb d_K_begin_44 (by decide) ?_
  refine ck_p_S_y_K (x := (0 : Int32)) X hK hP hD hS d_K_begin_45 (fun H locs hP hD hS => ?_)
  refine lv_aload_n hx hb d_K_begin_48 rfl (lv_at hl 0 rfl) ?_
  refine ck_g_K_spare_K X hK hP d_K_begin_49 ?_
  refine lv_iconst (v := (0 : Int32)) hx hb d_K_begin_52 (by decide) ?_
  refine ck_p_S_u_K (x := (0 : Int32)) X hK hP hD hS d_K_begin_53 (fun H locs hP hD hS => ?_)
  refine lv_aload_n hx hb d_K_begin_56 rfl (lv_at hl 0 rfl) ?_
  refine ck_g_K_spare_K X hK hP d_K_begin_57 ?_
  refine lv_sipush (v := (128 : Int32)) hx hb d_K_begin_60 (by decide) ?_
  refine lv_aload_n hx hb d_K_begin_63 rfl (lv_at hl 1 rfl) ?_
  obtain ⟨ht4, hf⟩ := op_t hf
  refine ck_tg_number_K X hK hP ht4 d_K_begin_64 ?_
  refine lv_imul hx hb d_K_begin_67 ?_
  refine lv_sipush (v := (128 : Int32)) hx hb d_K_begin_68 (by decide) ?_
  refine lv_iadd hx hb d_K_begin_71 ?_
  refine ck_p_S_s_K (x := (((128 : Int32) * (nI x1)) + (128 : Int32))) X hK hP hD hS d_K_begin_72 (fun H locs hP hD hS => ?_)
  refine lv_aload_n hx hb d_K_begin_75 rfl (lv_at hl 0 rfl) ?_
  refine ck_g_K_spare_K X hK hP d_K_begin_76 ?_
  refine lv_iload_n hx hb d_K_begin_79 rfl (lv_at hl 2 rfl) ?_
  refine ck_p_S_pc_K (x := x2) X hK hP hD hS d_K_begin_80 (fun H locs hP hD hS => ?_)
  refine lv_aload_n hx hb d_K_begin_83 rfl (lv_at hl 0 rfl) ?_
  refine lv_aload_n hx hb d_K_begin_84 rfl (lv_at hl 1 rfl) ?_
  refine lv_aload_n hx hb d_K_begin_85 rfl (lv_at hl 0 rfl) ?_
  refine ck_g_K_spare_K X hK hP d_K_begin_86 ?_
  obtain ⟨z5, hz5, hf⟩ := op_b hf
  refine cf_v (ws2 := (ck_ aK aQ aL aA tk aY aB aG aS cI cT kr uz ul ks z5.1 kz ku z5.2.1 ga gb gd gc gx gy gu gs gp z5.2.2.1 z5.2.2.2.1 z5.2.2.2.2.1 z5.2.2.2.2.2.1 z5.2.2.2.2.2.2.1 z5.2.2.2.2.2.2.2.1 z5.2.2.2.2.2.2.2.2.1 z5.2.2.2.2.2.2.2.2.2.1 z5.2.2.2.2.2.2.2.2.2.2)) X cx_K_82 hK hP hD hS hA hZ hl (c_tc_K_stack_S (aK := aK) (aQ := aQ) (aL := aL) (aA := aA) (tk := tk) (aY := aY) (aB := aB) (aG := aG) (aS := aS) (kr := kr) (uz := uz) (ul := ul) (ks := ks) (kv := kv) (kz := kz) (ku := ku) (cb := cb) (ga := ga) (gb := gb) (gd := gd) (gc := gc) (gx := gx) (gy := gy) (gu := gu) (gs := gs) (gp := gp) (qa := x3) (qb := (0 : Int32)) (qd := (0 : Int32)) (qc := (0 : Int32)) (qx := (0 : Int32)) (qy := (0 : Int32)) (qu := (0 : Int32)) (qs := (((128 : Int32) * (nI x1)) + (128 : Int32))) (qp := x2) hz5) ⟨rfl, rfl, Nat.le_of_ble_eq_true rfl, Nat.le_of_ble_eq_true rfl⟩ [0, 1, 2, 3, 4, 5, 6, 7, 8, 9, 10, 11] [] [0, 1, 2, 3, 4, 5, 6, 7, 8, 9, 10, 11] rfl rfl rfl rfl (by decide) rfl rfl 0 rfl rfl rfl rfl rfl (Nat.le_of_ble_eq_true rfl) d_K_begin_89 (fun H locs hP hD hS => ?_)
  refine lv_aload_n hx hb d_K_begin_92 rfl (lv_at hl 0 rfl) ?_
  refine lv_aload_n hx hb d_K_begin_93 rfl (lv_at hl 1 rfl) ?_
  obtain ⟨z6, hz6, hf⟩ := op_b hf
  refine cf_v (ws2 := (ck_ aK aQ aL aA tk aY aB aG aS cI cT kr z6.1 z6.2.1 z6.2.2 z5.1 kz ku z5.2.1 ga gb gd gc gx gy gu gs gp z5.2.2.1 z5.2.2.2.1 z5.2.2.2.2.1 z5.2.2.2.2.2.1 z5.2.2.2.2.2.2.1 z5.2.2.2.2.2.2.2.1 z5.2.2.2.2.2.2.2.2.1 z5.2.2.2.2.2.2.2.2.2.1 z5.2.2.2.2.2.2.2.2.2.2)) X cx_K_85 hK hP hD hS hA hZ hl (c_tc_K_makeReady (aK := aK) (aQ := aQ) (aL := aL) (aA := aA) (tk := tk) (aY := aY) (aB := aB) (aG := aG) (aS := aS) (kr := kr) (uz := uz) (ul := ul) (ks := ks) (kv := z5.1) (kz := kz) (ku := ku) (cb := z5.2.1) (ga := ga) (gb := gb) (gd := gd) (gc := gc) (gx := gx) (gy := gy) (gu := gu) (gs := gs) (gp := gp) (qa := z5.2.2.1) (qb := z5.2.2.2.1) (qd := z5.2.2.2.2.1) (qc := z5.2.2.2.2.2.1) (qx := z5.2.2.2.2.2.2.1) (qy := z5.2.2.2.2.2.2.2.1) (qu := z5.2.2.2.2.2.2.2.2.1) (qs := z5.2.2.2.2.2.2.2.2.2.1) (qp := z5.2.2.2.2.2.2.2.2.2.2) hz6) ⟨rfl, rfl, Nat.le_of_ble_eq_true rfl, Nat.le_of_ble_eq_true rfl⟩ [0, 1, 2, 3, 4, 5, 6, 7, 8, 9, 10, 11] [] [0, 1, 2, 3, 4, 5, 6, 7, 8, 9, 10, 11] rfl rfl rfl rfl (by decide) rfl rfl 0 rfl rfl rfl rfl rfl (Nat.le_of_ble_eq_true rfl) d_K_begin_94 (fun H locs hP hD hS => ?_)
  have hq := Option.some.inj hf
  subst hq
  exact rt_v X hr hlk hK hP hD hS d_K_begin_97
set_option maxHeartbeats 4000000 in
set_option maxRecDepth 100000 in
theorem c_tc_Q_remove {x1 : Nat} {z : Int32 × (Nat → Option Nat)} (hf : tc_Q_remove x1 uz ul = some z) : cs_v l my_Q_remove mb_Q_remove 4 rm_c_Q_remove D (ty_ cI cT) [.ref aQ, .ref (tk x1)] (cq_ aQ aL tk cI cT uz ul ks kv kz ku) (cq_ aQ aL tk cI cT z.1 z.2 ks kv kz ku) := by
  refine cs_v_of (by decide) (Nat.le_of_ble_eq_true rfl) ?_
  intro p e s m below meth c A ls X hr hlk hK hP hD hS hA hZ hl
  have hx := X.1
  have hb := X.2.1
  have hl : lv_has ls 4 [(0, .ref aQ), (1, .ref (tk x1))] := hl
  have L4 : ∀ (n_ : Nat) (v1 : Nat) (v2 : Int32) (v3 : Int32) (uz : Int32) (ul : Nat → Option Nat), tc_Q_remove_l4 n_ v1 v2 v3 uz ul = some z → ∀ (H : Heap) (locs : List Loc) (ls : Array Slot), lv_has ls 4 [(0, .ref aQ), (1, .ref (tk v1)), (2, .int v2), (3, .int v3)] → va_P D cz_all (cq_ aQ aL tk cI cT uz ul ks kv kz ku) H → va_D A (cq_ aQ aL tk cI cT uz ul ks kv kz ku) → va_S A s.heap H locs → W p l e rm_c_Q_remove s m ([.ref aQ, .ref (tk x1)] : List Value).toArray below meth c H locs 0 0 (MQ below (qs_v D (ty_ cI cT) (cq_ aQ aL tk cI cT z.1 z.2 ks kv kz ku) A) ([.ref aQ, .ref (tk x1)] : List Value).toArray s 0 0 A) (F0 m 4 ls []) := by
    intro n_
    induction n_ with
    | zero => intro v1 v2 v3 uz ul hf; cases hf
    | succ n_ ih =>
      have J37 : ∀ (v1 : Nat) (v2 : Int32) (v3 : Int32) (uz : Int32) (ul : Nat → Option Nat), tc_Q_remove_j37 (tc_Q_remove_l4 n_) v1 v2 v3 uz ul = some z → ∀ (H : Heap) (locs : List Loc) (ls : Array Slot), lv_has ls 4 [(0, .ref aQ), (1, .ref (tk v1)), (2, .int v2), (3, .int v3)] → va_P D cz_all (cq_ aQ aL tk cI cT uz ul ks kv kz ku) H → va_D A (cq_ aQ aL tk cI cT uz ul ks kv kz ku) → va_S A s.heap H locs → W p l e rm_c_Q_remove s m ([.ref aQ, .ref (tk x1)] : List Value).toArray below meth c H locs 0 0 (MQ below (qs_v D (ty_ cI cT) (cq_ aQ aL tk cI cT z.1 z.2 ks kv kz ku) A) ([.ref aQ, .ref (tk x1)] : List Value).toArray s 0 0 A) (F0 m 37 ls []) := by
        intro v1 v2 v3 uz ul hf H locs ls hl hP hD hS
        unfold tc_Q_remove_j37 at hf
        refine lv_iinc (k := 3) hx hb d_Q_remove_37 hl rfl rfl (by decide) rfl (fun ls hl => ?_)
        have hl : lv_has ls 4 [(3, .int (v3 + Int32.ofInt 1)), (0, .ref aQ), (1, .ref (tk v1)), (2, .int v2)] := hl
        refine lv_goto (tgt := 4) hx hb d_Q_remove_40 (by decide) ?_
        exact ih v1 v2 (v3 + Int32.ofInt 1) uz ul hf _ _ _ (lv_sub hl [1, 2, 3, 0] rfl) hP hD hS
      intro v1 v2 v3 uz ul hf H locs ls hl hP hD hS
      replace hf := (tc_Q_remove_l4_s n_ v1 v2 v3 uz ul).symm.trans hf
      refine lv_iload_n hx hb d_Q_remove_4 rfl (lv_at hl 3 rfl) ?_
      refine lv_aload_n hx hb d_Q_remove_5 rfl (lv_at hl 0 rfl) ?_
      refine cq_g_Q_size_Q X hK hP d_Q_remove_6 ?_
      refine lv_icmp_ge (tgt := 43) hx hb d_Q_remove_9 (by decide) (fun hc => ?_) (fun hc => ?_)
      · replace hf := (if_pos hc).symm.trans hf
        refine lv_aload_n hx hb d_Q_remove_43 rfl (lv_at hl 0 rfl) ?_
        refine lv_iload_n hx hb d_Q_remove_44 rfl (lv_at hl 2 rfl) ?_
        refine cq_p_Q_size_Q (x := v2) X hK hP hD hS d_Q_remove_45 (fun H locs hP hD hS => ?_)
        have hq := Option.some.inj hf
        subst hq
        exact rt_v X hr hlk hK hP hD hS d_Q_remove_48
      · replace hf := (if_neg hc).symm.trans hf
        refine lv_aload_n hx hb d_Q_remove_12 rfl (lv_at hl 0 rfl) ?_
        refine cq_g_Q_places_Q X hK hP d_Q_remove_13 ?_
        refine lv_iload_n hx hb d_Q_remove_16 rfl (lv_at hl 3 rfl) ?_
        obtain ⟨hi8, hf⟩ := op_c hf
        refine cq_a_L (k := (v3.toNatClampNeg)) X hK hP hi8 rfl d_Q_remove_17 ?_
        refine lv_aload_n hx hb d_Q_remove_18 rfl (lv_at hl 1 rfl) ?_
        obtain ⟨hk9, hf⟩ := op_k hf
        obtain ⟨hk10, hf⟩ := op_k hf
        refine lv_acmp_eq (rx := Option.map tk (ul (v3.toNatClampNeg))) (ry := Option.map tk (some v1)) (tgt := 37) hx hb d_Q_remove_19 (by decide) (fun hc => ?_) (fun hc => ?_)
        · replace hf := (if_pos (cq_inj hD hk9 hk10 hc)).symm.trans hf
          exact J37 v1 v2 v3 uz ul hf _ _ _ hl hP hD hS
        · replace hf := (if_neg (fun q => hc (congrArg (Option.map tk) q))).symm.trans hf
          refine lv_aload_n hx hb d_Q_remove_22 rfl (lv_at hl 0 rfl) ?_
          refine cq_g_Q_places_Q X hK hP d_Q_remove_23 ?_
          refine lv_iload_n hx hb d_Q_remove_26 rfl (lv_at hl 2 rfl) ?_
          refine lv_aload_n hx hb d_Q_remove_27 rfl (lv_at hl 0 rfl) ?_
          refine cq_g_Q_places_Q X hK hP d_Q_remove_28 ?_
          refine lv_iload_n hx hb d_Q_remove_31 rfl (lv_at hl 3 rfl) ?_
          refine cq_a_L (k := (v3.toNatClampNeg)) X hK hP hi8 rfl d_Q_remove_32 ?_
          obtain ⟨i11, ho12, hf⟩ := op_f hf
          rw [show va_rf (Option.map tk (ul (v3.toNatClampNeg))) = Value.ref (tk i11) from by rw [ho12]; rfl]
          obtain ⟨hi13, hf⟩ := op_c hf
          obtain ⟨ht14, hf⟩ := op_t hf
          refine cq_s_L (k := (v2.toNatClampNeg)) (j := i11) X hK hP hD hS hi13 rfl ht14 d_Q_remove_33 (fun H locs hP hD hS => ?_)
          refine lv_iinc (k := 2) hx hb d_Q_remove_34 hl rfl rfl (by decide) rfl (fun ls hl => ?_)
          have hl : lv_has ls 4 [(2, .int (v2 + Int32.ofInt 1)), (0, .ref aQ), (1, .ref (tk v1)), (3, .int v3)] := hl
          exact J37 v1 (v2 + Int32.ofInt 1) v3 uz (va_up ul (v2.toNatClampNeg) (some i11)) hf _ _ _ (lv_sub hl [1, 2, 0, 3] rfl) hP hD hS
  unfold tc_Q_remove at hf
  refine lv_iconst (v := (0 : Int32)) hx hb d_Q_remove_0 (by decide) ?_
  refine lv_istore_n hx hb d_Q_remove_1 rfl hl (by decide) rfl (fun ls hl => ?_)
  have hl : lv_has ls 4 [(2, .int (0 : Int32)), (0, .ref aQ), (1, .ref (tk x1))] := hl
  refine lv_iconst (v := (0 : Int32)) hx hb d_Q_remove_2 (by decide) ?_
  refine lv_istore_n hx hb d_Q_remove_3 rfl hl (by decide) rfl (fun ls hl => ?_)
  have hl : lv_has ls 4 [(3, .int (0 : Int32)), (2, .int (0 : Int32)), (0, .ref aQ), (1, .ref (tk x1))] := hl
  exact L4 5 x1 (0 : Int32) (0 : Int32) uz ul hf _ _ _ (lv_sub hl [2, 3, 1, 0] rfl) hP hD hS
set_option maxHeartbeats 4000000 in
set_option maxRecDepth 100000 in
theorem c_tc_K_end {x1 : Nat} {x2 : Int32} {z : (Option Nat) × Int32 × (Nat → Option Nat) × (Nat → Int32) × (Nat → Int32)} (hf : tc_K_end x1 x2 kr uz ul ks ku = some z) : cs_v l my_K_end mb_K_end 3 rm_c_K_end D (ty_ cI cT) [.ref aK, .ref (tk x1), .int x2] (ck_ aK aQ aL aA tk aY aB aG aS cI cT kr uz ul ks kv kz ku cb ga gb gd gc gx gy gu gs gp qa qb qd qc qx qy qu qs qp) (ck_ aK aQ aL aA tk aY aB aG aS cI cT z.1 z.2.1 z.2.2.1 z.2.2.2.1 kv kz z.2.2.2.2 cb ga gb gd gc gx gy gu gs gp qa qb qd qc qx qy qu qs qp) := by
  refine cs_v_of (by decide) (Nat.le_of_ble_eq_true rfl) ?_
  intro p e s m below meth c A ls X hr hlk hK hP hD hS hA hZ hl
  have hx := X.1
  have hb := X.2.1
  have hl : lv_has ls 3 [(0, .ref aK), (1, .ref (tk x1)), (2, .int x2)] := hl
  have J13 : ∀ (v1 : Nat) (v2 : Int32) (kr : Option Nat) (uz : Int32) (ul : Nat → Option Nat) (ks : Nat → Int32) (ku : Nat → Int32), tc_K_end_j13 v1 v2 kr uz ul ks ku = some z → ∀ (H : Heap) (locs : List Loc) (ls : Array Slot), lv_has ls 3 [(0, .ref aK), (1, .ref (tk v1)), (2, .int v2)] → va_P D cz_all (ck_ aK aQ aL aA tk aY aB aG aS cI cT kr uz ul ks kv kz ku cb ga gb gd gc gx gy gu gs gp qa qb qd qc qx qy qu qs qp) H → va_D A (ck_ aK aQ aL aA tk aY aB aG aS cI cT kr uz ul ks kv kz ku cb ga gb gd gc gx gy gu gs gp qa qb qd qc qx qy qu qs qp) → va_S A s.heap H locs → W p l e rm_c_K_end s m ([.ref aK, .ref (tk x1), .int x2] : List Value).toArray below meth c H locs 0 0 (MQ below (qs_v D (ty_ cI cT) (ck_ aK aQ aL aA tk aY aB aG aS cI cT z.1 z.2.1 z.2.2.1 z.2.2.2.1 kv kz z.2.2.2.2 cb ga gb gd gc gx gy gu gs gp qa qb qd qc qx qy qu qs qp) A) ([.ref aK, .ref (tk x1), .int x2] : List Value).toArray s 0 0 A) (F0 m 13 ls []) := by
    intro v1 v2 kr uz ul ks ku hf H locs ls hl hP hD hS
    unfold tc_K_end_j13 at hf
    refine lv_aload_n hx hb d_K_end_13 rfl (lv_at hl 0 rfl) ?_
    refine ck_g_K_queue_K X hK hP d_K_end_14 ?_
    refine lv_aload_n hx hb d_K_end_17 rfl (lv_at hl 1 rfl) ?_
    obtain ⟨z3, hz3, hf⟩ := op_b hf
    refine cf_v (ws2 := (ck_ aK aQ aL aA tk aY aB aG aS cI cT kr z3.1 z3.2 ks kv kz ku cb ga gb gd gc gx gy gu gs gp qa qb qd qc qx qy qu qs qp)) X cx_K_89 hK hP hD hS hA hZ hl (c_tc_Q_remove (aQ := aQ) (aL := aL) (tk := tk) (uz := uz) (ul := ul) (ks := ks) (kv := kv) (kz := kz) (ku := ku) hz3) ⟨rfl, rfl, Nat.le_of_ble_eq_true rfl, Nat.le_of_ble_eq_true rfl⟩ [1, 2, 4, 5, 6, 7] [0, 3, 8, 9, 10, 11] [0, 6, 7, 1, 8, 9, 10, 11, 2, 3, 4, 5] rfl rfl rfl rfl (by decide) rfl rfl 0 rfl rfl rfl rfl rfl (Nat.le_of_ble_eq_true rfl) d_K_end_18 (fun H locs hP hD hS => ?_)
    refine lv_aload_n hx hb d_K_end_21 rfl (lv_at hl 1 rfl) ?_
    refine lv_iconst (v := (0 : Int32)) hx hb d_K_end_22 (by decide) ?_
    obtain ⟨ht4, hf⟩ := op_t hf
    refine ck_tp_state_K (x := (0 : Int32)) X hK hP hD hS ht4 d_K_end_23 (fun H locs hP hD hS => ?_)
    refine lv_aload_n hx hb d_K_end_26 rfl (lv_at hl 1 rfl) ?_
    refine lv_iload_n hx hb d_K_end_27 rfl (lv_at hl 2 rfl) ?_
    refine ck_tp_status_K (x := v2) X hK hP hD hS ht4 d_K_end_28 (fun H locs hP hD hS => ?_)
    have hq := Option.some.inj hf
    subst hq
    exact rt_v X hr hlk hK hP hD hS d_K_end_31
  unfold tc_K_end at hf
  refine lv_aload_n hx hb d_K_end_0 rfl (lv_at hl 1 rfl) ?_
  refine lv_aload_n hx hb d_K_end_1 rfl (lv_at hl 0 rfl) ?_
  refine ck_g_K_running_K X hK hP d_K_end_2 ?_
  obtain ⟨hk5, hf⟩ := op_k hf
  obtain ⟨hk6, hf⟩ := op_k hf
  refine lv_acmp_ne (rx := Option.map tk (some x1)) (ry := Option.map tk kr) (tgt := 13) hx hb d_K_end_5 (by decide) (fun hc => ?_) (fun hc => ?_)
  · replace hf := (if_neg (fun q => hc (congrArg (Option.map tk) q))).symm.trans hf
    exact J13 x1 x2 kr uz ul ks ku hf _ _ _ hl hP hD hS
  · replace hf := (if_pos (ck_inj hD hk5 hk6 hc)).symm.trans hf
    refine lv_aload_n hx hb d_K_end_8 rfl (lv_at hl 0 rfl) ?_
    refine lv_null hx hb d_K_end_9 ?_
    refine ck_p_K_running_K (x := none) X hK hP hD hS d_K_end_10 (fun H locs hP hD hS => ?_)
    exact J13 x1 x2 none uz ul ks ku hf _ _ _ hl hP hD hS
set_option maxHeartbeats 4000000 in
set_option maxRecDepth 100000 in
theorem c_tc_Q_removeFirst  {z : (Option Nat) × Int32 × (Nat → Option Nat)} (hf : tc_Q_removeFirst uz ul = some z) : cs_q l my_Q_removeFirst mb_Q_removeFirst 2 (.object "TaskComputer$Task") rm_c_Q_removeFirst D (ty_ cI cT) [.ref aQ] (cq_ aQ aL tk cI cT uz ul ks kv kz ku) (cq_ aQ aL tk cI cT z.2.1 z.2.2 ks kv kz ku) (Option.map tk z.1) := by
  refine cs_q_of (by decide) (Nat.le_of_ble_eq_true rfl) ?_
  intro p e s m below meth c A ls X hr hlk hK hP hD hS hA hZ hl
  have hx := X.1
  have hb := X.2.1
  have hl : lv_has ls 2 [(0, .ref aQ)] := hl
  unfold tc_Q_removeFirst at hf
  refine lv_aload_n hx hb d_Q_removeFirst_0 rfl (lv_at hl 0 rfl) ?_
  refine cq_g_Q_size_Q X hK hP d_Q_removeFirst_1 ?_
  refine lv_if_ne (tgt := 9) hx hb d_Q_removeFirst_4 (by decide) (fun hc => ?_) (fun hc => ?_)
  · replace hf := (if_neg hc).symm.trans hf
    refine lv_aload_n hx hb d_Q_removeFirst_9 rfl (lv_at hl 0 rfl) ?_
    refine cq_g_Q_places_Q X hK hP d_Q_removeFirst_10 ?_
    refine lv_iconst (v := (0 : Int32)) hx hb d_Q_removeFirst_13 (by decide) ?_
    refine cq_a_L (k := 0) X hK hP (in_b_vp (by decide)) (by decide) d_Q_removeFirst_14 ?_
    refine lo_astore_n (ro := Option.map tk (ul 0)) hx hb d_Q_removeFirst_15 rfl hl (by decide) rfl (fun ls hl => ?_)
    have hl : lv_has ls 2 [(1, va_rf (Option.map tk (ul 0))), (0, .ref aQ)] := hl
    refine lv_aload_n hx hb d_Q_removeFirst_16 rfl (lv_at hl 1 rfl) ?_
    refine lo_aload_n (ro := Option.map tk (ul 0)) hx hb d_Q_removeFirst_17 rfl (lv_at hl 0 rfl) ?_
    obtain ⟨i4, ho5, hf⟩ := op_f hf
    rw [show va_rf (Option.map tk (ul 0)) = Value.ref (tk i4) from by rw [ho5]; rfl]
    obtain ⟨z6, hz6, hf⟩ := op_b hf
    refine cf_v (ws2 := (cq_ aQ aL tk cI cT z6.1 z6.2 ks kv kz ku)) X cx_Q_21 hK hP hD hS hA hZ hl (c_tc_Q_remove (aQ := aQ) (aL := aL) (tk := tk) (uz := uz) (ul := ul) (ks := ks) (kv := kv) (kz := kz) (ku := ku) hz6) ⟨rfl, rfl, Nat.le_of_ble_eq_true rfl, Nat.le_of_ble_eq_true rfl⟩ [0, 1, 2, 3, 4, 5] [] [0, 1, 2, 3, 4, 5] rfl rfl rfl rfl (by decide) rfl rfl 0 rfl rfl rfl rfl rfl (Nat.le_of_ble_eq_true rfl) d_Q_removeFirst_18 (fun H locs hP hD hS => ?_)
    refine lo_aload_n (ro := Option.map tk (ul 0)) hx hb d_Q_removeFirst_21 rfl (lv_at hl 0 rfl) ?_
    have hq := Option.some.inj hf
    subst hq
    exact rt_q (ro := Option.map tk (ul 0)) X hr hlk hK hP hD hS d_Q_removeFirst_22
  · replace hf := (if_pos hc).symm.trans hf
    refine lv_null hx hb d_Q_removeFirst_7 ?_
    have hq := Option.some.inj hf
    subst hq
    exact rt_q (ro := Option.map tk none) X hr hlk hK hP hD hS d_Q_removeFirst_8
set_option maxHeartbeats 4000000 in
set_option maxRecDepth 100000 in
theorem c_tc_K_resume {x1 : Nat} {z : (Option Nat) × (Nat → Int32) × Int32 × Int32 × Int32 × Int32 × Int32 × Int32 × Int32 × Int32 × Int32} (hf : tc_K_resume x1 kr ks kv cb ga gb gd gc gx gy gu gs gp = some z) : cs_v l my_K_resume mb_K_resume 2 rm_c_K_resume D (ty_ cI cT) [.ref aK, .ref (tk x1)] (ck_ aK aQ aL aA tk aY aB aG aS cI cT kr uz ul ks kv kz ku cb ga gb gd gc gx gy gu gs gp qa qb qd qc qx qy qu qs qp) (ck_ aK aQ aL aA tk aY aB aG aS cI cT z.1 uz ul z.2.1 kv kz ku cb z.2.2.1 z.2.2.2.1 z.2.2.2.2.1 z.2.2.2.2.2.1 z.2.2.2.2.2.2.1 z.2.2.2.2.2.2.2.1 z.2.2.2.2.2.2.2.2.1 z.2.2.2.2.2.2.2.2.2.1 z.2.2.2.2.2.2.2.2.2.2 qa qb qd qc qx qy qu qs qp) := by
  refine cs_v_of (by decide) (Nat.le_of_ble_eq_true rfl) ?_
  intro p e s m below meth c A ls X hr hlk hK hP hD hS hA hZ hl
  have hx := X.1
  have hb := X.2.1
  have hl : lv_has ls 2 [(0, .ref aK), (1, .ref (tk x1))] := hl
  unfold tc_K_resume at hf
  refine lv_aload_n hx hb d_K_resume_0 rfl (lv_at hl 0 rfl) ?_
  refine lv_aload_n hx hb d_K_resume_1 rfl (lv_at hl 1 rfl) ?_
  refine lv_aload_n hx hb d_K_resume_2 rfl (lv_at hl 0 rfl) ?_
  refine ck_g_K_registers_K X hK hP d_K_resume_3 ?_
  obtain ⟨z3, hz3, hf⟩ := op_b hf
  refine cf_v (ws2 := (ck_ aK aQ aL aA tk aY aB aG aS cI cT kr uz ul ks kv kz ku cb z3.1 z3.2.1 z3.2.2.1 z3.2.2.2.1 z3.2.2.2.2.1 z3.2.2.2.2.2.1 z3.2.2.2.2.2.2.1 z3.2.2.2.2.2.2.2.1 z3.2.2.2.2.2.2.2.2 qa qb qd qc qx qy qu qs qp)) X cx_K_45 hK hP hD hS hA hZ hl (c_tc_K_take_G (aK := aK) (aQ := aQ) (aL := aL) (aA := aA) (tk := tk) (aY := aY) (aB := aB) (aG := aG) (aS := aS) (kr := kr) (uz := uz) (ul := ul) (ks := ks) (kv := kv) (kz := kz) (ku := ku) (cb := cb) (ga := ga) (gb := gb) (gd := gd) (gc := gc) (gx := gx) (gy := gy) (gu := gu) (gs := gs) (gp := gp) (qa := qa) (qb := qb) (qd := qd) (qc := qc) (qx := qx) (qy := qy) (qu := qu) (qs := qs) (qp := qp) hz3) ⟨rfl, rfl, Nat.le_of_ble_eq_true rfl, Nat.le_of_ble_eq_true rfl⟩ [0, 1, 2, 3, 4, 5, 6, 7, 8, 9, 10, 11] [] [0, 1, 2, 3, 4, 5, 6, 7, 8, 9, 10, 11] rfl rfl rfl rfl (by decide) rfl rfl 0 rfl rfl rfl rfl rfl (Nat.le_of_ble_eq_true rfl) d_K_resume_6 (fun H locs hP hD hS => ?_)
  refine lv_aload_n hx hb d_K_resume_9 rfl (lv_at hl 1 rfl) ?_
  refine lv_iconst (v := (1 : Int32)) hx hb d_K_resume_10 (by decide) ?_
  obtain ⟨ht4, hf⟩ := op_t hf
  refine ck_tp_state_K (x := (1 : Int32)) X hK hP hD hS ht4 d_K_resume_11 (fun H locs hP hD hS => ?_)
  refine lv_aload_n hx hb d_K_resume_14 rfl (lv_at hl 0 rfl) ?_
  refine lv_aload_n hx hb d_K_resume_15 rfl (lv_at hl 1 rfl) ?_
  refine ck_p_K_running_K (x := (some x1)) X hK hP hD hS d_K_resume_16 (fun H locs hP hD hS => ?_)
  have hq := Option.some.inj hf
  subst hq
  exact rt_v X hr hlk hK hP hD hS d_K_resume_19
end CLS

theorem d_M_signed_0 : decode mb_M_signed 0 = .ok (.iload_n 0, 1) := by decide +kernel
theorem d_M_signed_1 : decode mb_M_signed 1 = .ok (.sipush 128, 3) := by decide +kernel
theorem d_M_signed_4 : decode mb_M_signed 4 = .ok (.if_icmp .ge 7, 3) := by decide +kernel
theorem d_M_signed_7 : decode mb_M_signed 7 = .ok (.iload_n 0, 1) := by decide +kernel
theorem d_M_signed_8 : decode mb_M_signed 8 = .ok (.goto 8, 3) := by decide +kernel
theorem d_M_signed_11 : decode mb_M_signed 11 = .ok (.iload_n 0, 1) := by decide +kernel
theorem d_M_signed_12 : decode mb_M_signed 12 = .ok (.sipush 256, 3) := by decide +kernel
theorem d_M_signed_15 : decode mb_M_signed 15 = .ok (.isub, 1) := by decide +kernel
theorem d_M_signed_16 : decode mb_M_signed 16 = .ok (.ireturn, 1) := by decide +kernel
theorem d_M_at_0 : decode mb_M_at 0 = .ok (.iload_n 1, 1) := by decide +kernel
theorem d_M_at_1 : decode mb_M_at 1 = .ok (.ldc 35, 2) := by decide +kernel
theorem d_M_at_3 : decode mb_M_at 3 = .ok (.iand, 1) := by decide +kernel
theorem d_M_at_4 : decode mb_M_at 4 = .ok (.istore_n 2, 1) := by decide +kernel
theorem d_M_at_5 : decode mb_M_at 5 = .ok (.iload_n 2, 1) := by decide +kernel
theorem d_M_at_6 : decode mb_M_at 6 = .ok (.sipush 512, 3) := by decide +kernel
theorem d_M_at_9 : decode mb_M_at 9 = .ok (.if_icmp .ge 12, 3) := by decide +kernel
theorem d_M_at_12 : decode mb_M_at 12 = .ok (.aload_n 0, 1) := by decide +kernel
theorem d_M_at_13 : decode mb_M_at 13 = .ok (.getfield 7, 3) := by decide +kernel
theorem d_M_at_16 : decode mb_M_at 16 = .ok (.iload_n 2, 1) := by decide +kernel
theorem d_M_at_17 : decode mb_M_at 17 = .ok (.iaload, 1) := by decide +kernel
theorem d_M_at_18 : decode mb_M_at 18 = .ok (.goto 4, 3) := by decide +kernel
theorem d_M_at_21 : decode mb_M_at 21 = .ok (.iconst 0, 1) := by decide +kernel
theorem d_M_at_22 : decode mb_M_at 22 = .ok (.ireturn, 1) := by decide +kernel
theorem d_M_put_0 : decode mb_M_put 0 = .ok (.iload_n 1, 1) := by decide +kernel
theorem d_M_put_1 : decode mb_M_put 1 = .ok (.ldc 35, 2) := by decide +kernel
theorem d_M_put_3 : decode mb_M_put 3 = .ok (.iand, 1) := by decide +kernel
theorem d_M_put_4 : decode mb_M_put 4 = .ok (.istore_n 3, 1) := by decide +kernel
theorem d_M_put_5 : decode mb_M_put 5 = .ok (.iload_n 3, 1) := by decide +kernel
theorem d_M_put_6 : decode mb_M_put 6 = .ok (.sipush 512, 3) := by decide +kernel
theorem d_M_put_9 : decode mb_M_put 9 = .ok (.if_icmp .ge 14, 3) := by decide +kernel
theorem d_M_put_12 : decode mb_M_put 12 = .ok (.aload_n 0, 1) := by decide +kernel
theorem d_M_put_13 : decode mb_M_put 13 = .ok (.getfield 7, 3) := by decide +kernel
theorem d_M_put_16 : decode mb_M_put 16 = .ok (.iload_n 3, 1) := by decide +kernel
theorem d_M_put_17 : decode mb_M_put 17 = .ok (.iload_n 2, 1) := by decide +kernel
theorem d_M_put_18 : decode mb_M_put 18 = .ok (.sipush 255, 3) := by decide +kernel
theorem d_M_put_21 : decode mb_M_put 21 = .ok (.iand, 1) := by decide +kernel
theorem d_M_put_22 : decode mb_M_put 22 = .ok (.iastore, 1) := by decide +kernel
theorem d_M_put_23 : decode mb_M_put 23 = .ok (.return_, 1) := by decide +kernel
theorem d_M_get_0 : decode mb_M_get 0 = .ok (.iload_n 1, 1) := by decide +kernel
theorem d_M_get_1 : decode mb_M_get 1 = .ok (.ifCond .ne 25, 3) := by decide +kernel
theorem d_M_get_4 : decode mb_M_get 4 = .ok (.sipush 256, 3) := by decide +kernel
theorem d_M_get_7 : decode mb_M_get 7 = .ok (.aload_n 0, 1) := by decide +kernel
theorem d_M_get_8 : decode mb_M_get 8 = .ok (.getfield 13, 3) := by decide +kernel
theorem d_M_get_11 : decode mb_M_get 11 = .ok (.bipush 8, 2) := by decide +kernel
theorem d_M_get_13 : decode mb_M_get 13 = .ok (.iaload, 1) := by decide +kernel
theorem d_M_get_14 : decode mb_M_get 14 = .ok (.imul, 1) := by decide +kernel
theorem d_M_get_15 : decode mb_M_get 15 = .ok (.aload_n 0, 1) := by decide +kernel
theorem d_M_get_16 : decode mb_M_get 16 = .ok (.getfield 13, 3) := by decide +kernel
theorem d_M_get_19 : decode mb_M_get 19 = .ok (.bipush 9, 2) := by decide +kernel
theorem d_M_get_21 : decode mb_M_get 21 = .ok (.iaload, 1) := by decide +kernel
theorem d_M_get_22 : decode mb_M_get 22 = .ok (.iadd, 1) := by decide +kernel
theorem d_M_get_23 : decode mb_M_get 23 = .ok (.goto 9, 3) := by decide +kernel
theorem d_M_get_26 : decode mb_M_get 26 = .ok (.aload_n 0, 1) := by decide +kernel
theorem d_M_get_27 : decode mb_M_get 27 = .ok (.getfield 13, 3) := by decide +kernel
theorem d_M_get_30 : decode mb_M_get 30 = .ok (.iload_n 1, 1) := by decide +kernel
theorem d_M_get_31 : decode mb_M_get 31 = .ok (.iaload, 1) := by decide +kernel
theorem d_M_get_32 : decode mb_M_get 32 = .ok (.ireturn, 1) := by decide +kernel
theorem d_M_set_0 : decode mb_M_set 0 = .ok (.iload_n 1, 1) := by decide +kernel
theorem d_M_set_1 : decode mb_M_set 1 = .ok (.ifCond .ne 33, 3) := by decide +kernel
theorem d_M_set_4 : decode mb_M_set 4 = .ok (.aload_n 0, 1) := by decide +kernel
theorem d_M_set_5 : decode mb_M_set 5 = .ok (.getfield 13, 3) := by decide +kernel
theorem d_M_set_8 : decode mb_M_set 8 = .ok (.bipush 8, 2) := by decide +kernel
theorem d_M_set_10 : decode mb_M_set 10 = .ok (.iload_n 2, 1) := by decide +kernel
theorem d_M_set_11 : decode mb_M_set 11 = .ok (.bipush 8, 2) := by decide +kernel
theorem d_M_set_13 : decode mb_M_set 13 = .ok (.ishr, 1) := by decide +kernel
theorem d_M_set_14 : decode mb_M_set 14 = .ok (.sipush 255, 3) := by decide +kernel
theorem d_M_set_17 : decode mb_M_set 17 = .ok (.iand, 1) := by decide +kernel
theorem d_M_set_18 : decode mb_M_set 18 = .ok (.iastore, 1) := by decide +kernel
theorem d_M_set_19 : decode mb_M_set 19 = .ok (.aload_n 0, 1) := by decide +kernel
theorem d_M_set_20 : decode mb_M_set 20 = .ok (.getfield 13, 3) := by decide +kernel
theorem d_M_set_23 : decode mb_M_set 23 = .ok (.bipush 9, 2) := by decide +kernel
theorem d_M_set_25 : decode mb_M_set 25 = .ok (.iload_n 2, 1) := by decide +kernel
theorem d_M_set_26 : decode mb_M_set 26 = .ok (.sipush 255, 3) := by decide +kernel
theorem d_M_set_29 : decode mb_M_set 29 = .ok (.iand, 1) := by decide +kernel
theorem d_M_set_30 : decode mb_M_set 30 = .ok (.iastore, 1) := by decide +kernel
theorem d_M_set_31 : decode mb_M_set 31 = .ok (.goto 27, 3) := by decide +kernel
theorem d_M_set_34 : decode mb_M_set 34 = .ok (.aload_n 0, 1) := by decide +kernel
theorem d_M_set_35 : decode mb_M_set 35 = .ok (.getfield 13, 3) := by decide +kernel
theorem d_M_set_38 : decode mb_M_set 38 = .ok (.iload_n 1, 1) := by decide +kernel
theorem d_M_set_39 : decode mb_M_set 39 = .ok (.iload_n 1, 1) := by decide +kernel
theorem d_M_set_40 : decode mb_M_set 40 = .ok (.bipush 8, 2) := by decide +kernel
theorem d_M_set_42 : decode mb_M_set 42 = .ok (.if_icmp .ge 10, 3) := by decide +kernel
theorem d_M_set_45 : decode mb_M_set 45 = .ok (.iload_n 2, 1) := by decide +kernel
theorem d_M_set_46 : decode mb_M_set 46 = .ok (.ldc 35, 2) := by decide +kernel
theorem d_M_set_48 : decode mb_M_set 48 = .ok (.iand, 1) := by decide +kernel
theorem d_M_set_49 : decode mb_M_set 49 = .ok (.goto 8, 3) := by decide +kernel
theorem d_M_set_52 : decode mb_M_set 52 = .ok (.iload_n 2, 1) := by decide +kernel
theorem d_M_set_53 : decode mb_M_set 53 = .ok (.sipush 255, 3) := by decide +kernel
theorem d_M_set_56 : decode mb_M_set 56 = .ok (.iand, 1) := by decide +kernel
theorem d_M_set_57 : decode mb_M_set 57 = .ok (.iastore, 1) := by decide +kernel
theorem d_M_set_58 : decode mb_M_set 58 = .ok (.return_, 1) := by decide +kernel
theorem d_M_load_0 : decode mb_M_load 0 = .ok (.aload_n 0, 1) := by decide +kernel
theorem d_M_load_1 : decode mb_M_load 1 = .ok (.dup, 1) := by decide +kernel
theorem d_M_load_2 : decode mb_M_load 2 = .ok (.getfield 36, 3) := by decide +kernel
theorem d_M_load_5 : decode mb_M_load 5 = .ok (.iload_n 2, 1) := by decide +kernel
theorem d_M_load_6 : decode mb_M_load 6 = .ok (.ifCond .eq 7, 3) := by decide +kernel
theorem d_M_load_9 : decode mb_M_load 9 = .ok (.iconst 2, 1) := by decide +kernel
theorem d_M_load_10 : decode mb_M_load 10 = .ok (.goto 4, 3) := by decide +kernel
theorem d_M_load_13 : decode mb_M_load 13 = .ok (.iconst 1, 1) := by decide +kernel
theorem d_M_load_14 : decode mb_M_load 14 = .ok (.iadd, 1) := by decide +kernel
theorem d_M_load_15 : decode mb_M_load 15 = .ok (.putfield 36, 3) := by decide +kernel
theorem d_M_load_18 : decode mb_M_load 18 = .ok (.iload_n 2, 1) := by decide +kernel
theorem d_M_load_19 : decode mb_M_load 19 = .ok (.ifCond .eq 23, 3) := by decide +kernel
theorem d_M_load_22 : decode mb_M_load 22 = .ok (.sipush 256, 3) := by decide +kernel
theorem d_M_load_25 : decode mb_M_load 25 = .ok (.aload_n 0, 1) := by decide +kernel
theorem d_M_load_26 : decode mb_M_load 26 = .ok (.iload_n 1, 1) := by decide +kernel
theorem d_M_load_27 : decode mb_M_load 27 = .ok (.invokevirtual 39, 3) := by decide +kernel
theorem d_M_load_30 : decode mb_M_load 30 = .ok (.imul, 1) := by decide +kernel
theorem d_M_load_31 : decode mb_M_load 31 = .ok (.aload_n 0, 1) := by decide +kernel
theorem d_M_load_32 : decode mb_M_load 32 = .ok (.iload_n 1, 1) := by decide +kernel
theorem d_M_load_33 : decode mb_M_load 33 = .ok (.iconst 1, 1) := by decide +kernel
theorem d_M_load_34 : decode mb_M_load 34 = .ok (.iadd, 1) := by decide +kernel
theorem d_M_load_35 : decode mb_M_load 35 = .ok (.invokevirtual 39, 3) := by decide +kernel
theorem d_M_load_38 : decode mb_M_load 38 = .ok (.iadd, 1) := by decide +kernel
theorem d_M_load_39 : decode mb_M_load 39 = .ok (.goto 8, 3) := by decide +kernel
theorem d_M_load_42 : decode mb_M_load 42 = .ok (.aload_n 0, 1) := by decide +kernel
theorem d_M_load_43 : decode mb_M_load 43 = .ok (.iload_n 1, 1) := by decide +kernel
theorem d_M_load_44 : decode mb_M_load 44 = .ok (.invokevirtual 39, 3) := by decide +kernel
theorem d_M_load_47 : decode mb_M_load 47 = .ok (.ireturn, 1) := by decide +kernel
theorem d_M_store_0 : decode mb_M_store 0 = .ok (.aload_n 0, 1) := by decide +kernel
theorem d_M_store_1 : decode mb_M_store 1 = .ok (.dup, 1) := by decide +kernel
theorem d_M_store_2 : decode mb_M_store 2 = .ok (.getfield 36, 3) := by decide +kernel
theorem d_M_store_5 : decode mb_M_store 5 = .ok (.iload_n 3, 1) := by decide +kernel
theorem d_M_store_6 : decode mb_M_store 6 = .ok (.ifCond .eq 7, 3) := by decide +kernel
theorem d_M_store_9 : decode mb_M_store 9 = .ok (.iconst 2, 1) := by decide +kernel
theorem d_M_store_10 : decode mb_M_store 10 = .ok (.goto 4, 3) := by decide +kernel
theorem d_M_store_13 : decode mb_M_store 13 = .ok (.iconst 1, 1) := by decide +kernel
theorem d_M_store_14 : decode mb_M_store 14 = .ok (.iadd, 1) := by decide +kernel
theorem d_M_store_15 : decode mb_M_store 15 = .ok (.putfield 36, 3) := by decide +kernel
theorem d_M_store_18 : decode mb_M_store 18 = .ok (.iload_n 3, 1) := by decide +kernel
theorem d_M_store_19 : decode mb_M_store 19 = .ok (.ifCond .eq 23, 3) := by decide +kernel
theorem d_M_store_22 : decode mb_M_store 22 = .ok (.aload_n 0, 1) := by decide +kernel
theorem d_M_store_23 : decode mb_M_store 23 = .ok (.iload_n 1, 1) := by decide +kernel
theorem d_M_store_24 : decode mb_M_store 24 = .ok (.iload_n 2, 1) := by decide +kernel
theorem d_M_store_25 : decode mb_M_store 25 = .ok (.bipush 8, 2) := by decide +kernel
theorem d_M_store_27 : decode mb_M_store 27 = .ok (.ishr, 1) := by decide +kernel
theorem d_M_store_28 : decode mb_M_store 28 = .ok (.invokevirtual 43, 3) := by decide +kernel
theorem d_M_store_31 : decode mb_M_store 31 = .ok (.aload_n 0, 1) := by decide +kernel
theorem d_M_store_32 : decode mb_M_store 32 = .ok (.iload_n 1, 1) := by decide +kernel
theorem d_M_store_33 : decode mb_M_store 33 = .ok (.iconst 1, 1) := by decide +kernel
theorem d_M_store_34 : decode mb_M_store 34 = .ok (.iadd, 1) := by decide +kernel
theorem d_M_store_35 : decode mb_M_store 35 = .ok (.iload_n 2, 1) := by decide +kernel
theorem d_M_store_36 : decode mb_M_store 36 = .ok (.invokevirtual 43, 3) := by decide +kernel
theorem d_M_store_39 : decode mb_M_store 39 = .ok (.goto 9, 3) := by decide +kernel
theorem d_M_store_42 : decode mb_M_store 42 = .ok (.aload_n 0, 1) := by decide +kernel
theorem d_M_store_43 : decode mb_M_store 43 = .ok (.iload_n 1, 1) := by decide +kernel
theorem d_M_store_44 : decode mb_M_store 44 = .ok (.iload_n 2, 1) := by decide +kernel
theorem d_M_store_45 : decode mb_M_store 45 = .ok (.invokevirtual 43, 3) := by decide +kernel
theorem d_M_store_48 : decode mb_M_store 48 = .ok (.return_, 1) := by decide +kernel
theorem d_M_fetch_0 : decode mb_M_fetch 0 = .ok (.aload_n 0, 1) := by decide +kernel
theorem d_M_fetch_1 : decode mb_M_fetch 1 = .ok (.aload_n 0, 1) := by decide +kernel
theorem d_M_fetch_2 : decode mb_M_fetch 2 = .ok (.getfield 13, 3) := by decide +kernel
theorem d_M_fetch_5 : decode mb_M_fetch 5 = .ok (.iconst 5, 1) := by decide +kernel
theorem d_M_fetch_6 : decode mb_M_fetch 6 = .ok (.iaload, 1) := by decide +kernel
theorem d_M_fetch_7 : decode mb_M_fetch 7 = .ok (.iconst 0, 1) := by decide +kernel
theorem d_M_fetch_8 : decode mb_M_fetch 8 = .ok (.invokevirtual 47, 3) := by decide +kernel
theorem d_M_fetch_11 : decode mb_M_fetch 11 = .ok (.istore_n 1, 1) := by decide +kernel
theorem d_M_fetch_12 : decode mb_M_fetch 12 = .ok (.aload_n 0, 1) := by decide +kernel
theorem d_M_fetch_13 : decode mb_M_fetch 13 = .ok (.iconst 5, 1) := by decide +kernel
theorem d_M_fetch_14 : decode mb_M_fetch 14 = .ok (.aload_n 0, 1) := by decide +kernel
theorem d_M_fetch_15 : decode mb_M_fetch 15 = .ok (.getfield 13, 3) := by decide +kernel
theorem d_M_fetch_18 : decode mb_M_fetch 18 = .ok (.iconst 5, 1) := by decide +kernel
theorem d_M_fetch_19 : decode mb_M_fetch 19 = .ok (.iaload, 1) := by decide +kernel
theorem d_M_fetch_20 : decode mb_M_fetch 20 = .ok (.iconst 1, 1) := by decide +kernel
theorem d_M_fetch_21 : decode mb_M_fetch 21 = .ok (.iadd, 1) := by decide +kernel
theorem d_M_fetch_22 : decode mb_M_fetch 22 = .ok (.invokevirtual 51, 3) := by decide +kernel
theorem d_M_fetch_25 : decode mb_M_fetch 25 = .ok (.iload_n 1, 1) := by decide +kernel
theorem d_M_fetch_26 : decode mb_M_fetch 26 = .ok (.ireturn, 1) := by decide +kernel
theorem d_M_fetchWord_0 : decode mb_M_fetchWord 0 = .ok (.aload_n 0, 1) := by decide +kernel
theorem d_M_fetchWord_1 : decode mb_M_fetchWord 1 = .ok (.invokevirtual 54, 3) := by decide +kernel
theorem d_M_fetchWord_4 : decode mb_M_fetchWord 4 = .ok (.istore_n 1, 1) := by decide +kernel
theorem d_M_fetchWord_5 : decode mb_M_fetchWord 5 = .ok (.sipush 256, 3) := by decide +kernel
theorem d_M_fetchWord_8 : decode mb_M_fetchWord 8 = .ok (.iload_n 1, 1) := by decide +kernel
theorem d_M_fetchWord_9 : decode mb_M_fetchWord 9 = .ok (.imul, 1) := by decide +kernel
theorem d_M_fetchWord_10 : decode mb_M_fetchWord 10 = .ok (.aload_n 0, 1) := by decide +kernel
theorem d_M_fetchWord_11 : decode mb_M_fetchWord 11 = .ok (.invokevirtual 54, 3) := by decide +kernel
theorem d_M_fetchWord_14 : decode mb_M_fetchWord 14 = .ok (.iadd, 1) := by decide +kernel
theorem d_M_fetchWord_15 : decode mb_M_fetchWord 15 = .ok (.ireturn, 1) := by decide +kernel
theorem d_M_push_0 : decode mb_M_push 0 = .ok (.iload_n 2, 1) := by decide +kernel
theorem d_M_push_1 : decode mb_M_push 1 = .ok (.bipush 8, 2) := by decide +kernel
theorem d_M_push_3 : decode mb_M_push 3 = .ok (.if_icmp .ge 7, 3) := by decide +kernel
theorem d_M_push_6 : decode mb_M_push 6 = .ok (.iconst 1, 1) := by decide +kernel
theorem d_M_push_7 : decode mb_M_push 7 = .ok (.goto 4, 3) := by decide +kernel
theorem d_M_push_10 : decode mb_M_push 10 = .ok (.iconst 0, 1) := by decide +kernel
theorem d_M_push_11 : decode mb_M_push 11 = .ok (.istore_n 3, 1) := by decide +kernel
theorem d_M_push_12 : decode mb_M_push 12 = .ok (.aload_n 0, 1) := by decide +kernel
theorem d_M_push_13 : decode mb_M_push 13 = .ok (.iload_n 1, 1) := by decide +kernel
theorem d_M_push_14 : decode mb_M_push 14 = .ok (.aload_n 0, 1) := by decide +kernel
theorem d_M_push_15 : decode mb_M_push 15 = .ok (.getfield 13, 3) := by decide +kernel
theorem d_M_push_18 : decode mb_M_push 18 = .ok (.iload_n 1, 1) := by decide +kernel
theorem d_M_push_19 : decode mb_M_push 19 = .ok (.iaload, 1) := by decide +kernel
theorem d_M_push_20 : decode mb_M_push 20 = .ok (.iload_n 3, 1) := by decide +kernel
theorem d_M_push_21 : decode mb_M_push 21 = .ok (.ifCond .eq 7, 3) := by decide +kernel
theorem d_M_push_24 : decode mb_M_push 24 = .ok (.iconst 2, 1) := by decide +kernel
theorem d_M_push_25 : decode mb_M_push 25 = .ok (.goto 4, 3) := by decide +kernel
theorem d_M_push_28 : decode mb_M_push 28 = .ok (.iconst 1, 1) := by decide +kernel
theorem d_M_push_29 : decode mb_M_push 29 = .ok (.isub, 1) := by decide +kernel
theorem d_M_push_30 : decode mb_M_push 30 = .ok (.invokevirtual 51, 3) := by decide +kernel
theorem d_M_push_33 : decode mb_M_push 33 = .ok (.aload_n 0, 1) := by decide +kernel
theorem d_M_push_34 : decode mb_M_push 34 = .ok (.aload_n 0, 1) := by decide +kernel
theorem d_M_push_35 : decode mb_M_push 35 = .ok (.getfield 13, 3) := by decide +kernel
theorem d_M_push_38 : decode mb_M_push 38 = .ok (.iload_n 1, 1) := by decide +kernel
theorem d_M_push_39 : decode mb_M_push 39 = .ok (.iaload, 1) := by decide +kernel
theorem d_M_push_40 : decode mb_M_push 40 = .ok (.aload_n 0, 1) := by decide +kernel
theorem d_M_push_41 : decode mb_M_push 41 = .ok (.getfield 13, 3) := by decide +kernel
theorem d_M_push_44 : decode mb_M_push 44 = .ok (.iload_n 2, 1) := by decide +kernel
theorem d_M_push_45 : decode mb_M_push 45 = .ok (.iaload, 1) := by decide +kernel
theorem d_M_push_46 : decode mb_M_push 46 = .ok (.iload_n 3, 1) := by decide +kernel
theorem d_M_push_47 : decode mb_M_push 47 = .ok (.invokevirtual 58, 3) := by decide +kernel
theorem d_M_push_50 : decode mb_M_push 50 = .ok (.return_, 1) := by decide +kernel
theorem d_M_pull_0 : decode mb_M_pull 0 = .ok (.iload_n 2, 1) := by decide +kernel
theorem d_M_pull_1 : decode mb_M_pull 1 = .ok (.bipush 8, 2) := by decide +kernel
theorem d_M_pull_3 : decode mb_M_pull 3 = .ok (.if_icmp .ge 7, 3) := by decide +kernel
theorem d_M_pull_6 : decode mb_M_pull 6 = .ok (.iconst 1, 1) := by decide +kernel
theorem d_M_pull_7 : decode mb_M_pull 7 = .ok (.goto 4, 3) := by decide +kernel
theorem d_M_pull_10 : decode mb_M_pull 10 = .ok (.iconst 0, 1) := by decide +kernel
theorem d_M_pull_11 : decode mb_M_pull 11 = .ok (.istore_n 3, 1) := by decide +kernel
theorem d_M_pull_12 : decode mb_M_pull 12 = .ok (.aload_n 0, 1) := by decide +kernel
theorem d_M_pull_13 : decode mb_M_pull 13 = .ok (.aload_n 0, 1) := by decide +kernel
theorem d_M_pull_14 : decode mb_M_pull 14 = .ok (.getfield 13, 3) := by decide +kernel
theorem d_M_pull_17 : decode mb_M_pull 17 = .ok (.iload_n 1, 1) := by decide +kernel
theorem d_M_pull_18 : decode mb_M_pull 18 = .ok (.iaload, 1) := by decide +kernel
theorem d_M_pull_19 : decode mb_M_pull 19 = .ok (.iload_n 3, 1) := by decide +kernel
theorem d_M_pull_20 : decode mb_M_pull 20 = .ok (.invokevirtual 47, 3) := by decide +kernel
theorem d_M_pull_23 : decode mb_M_pull 23 = .ok (.istore 4, 2) := by decide +kernel
theorem d_M_pull_25 : decode mb_M_pull 25 = .ok (.aload_n 0, 1) := by decide +kernel
theorem d_M_pull_26 : decode mb_M_pull 26 = .ok (.iload_n 1, 1) := by decide +kernel
theorem d_M_pull_27 : decode mb_M_pull 27 = .ok (.aload_n 0, 1) := by decide +kernel
theorem d_M_pull_28 : decode mb_M_pull 28 = .ok (.getfield 13, 3) := by decide +kernel
theorem d_M_pull_31 : decode mb_M_pull 31 = .ok (.iload_n 1, 1) := by decide +kernel
theorem d_M_pull_32 : decode mb_M_pull 32 = .ok (.iaload, 1) := by decide +kernel
theorem d_M_pull_33 : decode mb_M_pull 33 = .ok (.iload_n 3, 1) := by decide +kernel
theorem d_M_pull_34 : decode mb_M_pull 34 = .ok (.ifCond .eq 7, 3) := by decide +kernel
theorem d_M_pull_37 : decode mb_M_pull 37 = .ok (.iconst 2, 1) := by decide +kernel
theorem d_M_pull_38 : decode mb_M_pull 38 = .ok (.goto 4, 3) := by decide +kernel
theorem d_M_pull_41 : decode mb_M_pull 41 = .ok (.iconst 1, 1) := by decide +kernel
theorem d_M_pull_42 : decode mb_M_pull 42 = .ok (.iadd, 1) := by decide +kernel
theorem d_M_pull_43 : decode mb_M_pull 43 = .ok (.invokevirtual 51, 3) := by decide +kernel
theorem d_M_pull_46 : decode mb_M_pull 46 = .ok (.aload_n 0, 1) := by decide +kernel
theorem d_M_pull_47 : decode mb_M_pull 47 = .ok (.iload_n 2, 1) := by decide +kernel
theorem d_M_pull_48 : decode mb_M_pull 48 = .ok (.iload 4, 2) := by decide +kernel
theorem d_M_pull_50 : decode mb_M_pull 50 = .ok (.invokevirtual 51, 3) := by decide +kernel
theorem d_M_pull_53 : decode mb_M_pull 53 = .ok (.return_, 1) := by decide +kernel
theorem d_M_flag_0 : decode mb_M_flag 0 = .ok (.aload_n 0, 1) := by decide +kernel
theorem d_M_flag_1 : decode mb_M_flag 1 = .ok (.getfield 13, 3) := by decide +kernel
theorem d_M_flag_4 : decode mb_M_flag 4 = .ok (.bipush 10, 2) := by decide +kernel
theorem d_M_flag_6 : decode mb_M_flag 6 = .ok (.iaload, 1) := by decide +kernel
theorem d_M_flag_7 : decode mb_M_flag 7 = .ok (.iload_n 1, 1) := by decide +kernel
theorem d_M_flag_8 : decode mb_M_flag 8 = .ok (.iand, 1) := by decide +kernel
theorem d_M_flag_9 : decode mb_M_flag 9 = .ok (.ifCond .eq 7, 3) := by decide +kernel
theorem d_M_flag_12 : decode mb_M_flag 12 = .ok (.iconst 1, 1) := by decide +kernel
theorem d_M_flag_13 : decode mb_M_flag 13 = .ok (.goto 4, 3) := by decide +kernel
theorem d_M_flag_16 : decode mb_M_flag 16 = .ok (.iconst 0, 1) := by decide +kernel
theorem d_M_flag_17 : decode mb_M_flag 17 = .ok (.ireturn, 1) := by decide +kernel
theorem d_M_mark_0 : decode mb_M_mark 0 = .ok (.aload_n 0, 1) := by decide +kernel
theorem d_M_mark_1 : decode mb_M_mark 1 = .ok (.getfield 13, 3) := by decide +kernel
theorem d_M_mark_4 : decode mb_M_mark 4 = .ok (.bipush 10, 2) := by decide +kernel
theorem d_M_mark_6 : decode mb_M_mark 6 = .ok (.iload_n 2, 1) := by decide +kernel
theorem d_M_mark_7 : decode mb_M_mark 7 = .ok (.ifCond .eq 15, 3) := by decide +kernel
theorem d_M_mark_10 : decode mb_M_mark 10 = .ok (.aload_n 0, 1) := by decide +kernel
theorem d_M_mark_11 : decode mb_M_mark 11 = .ok (.getfield 13, 3) := by decide +kernel
theorem d_M_mark_14 : decode mb_M_mark 14 = .ok (.bipush 10, 2) := by decide +kernel
theorem d_M_mark_16 : decode mb_M_mark 16 = .ok (.iaload, 1) := by decide +kernel
theorem d_M_mark_17 : decode mb_M_mark 17 = .ok (.iload_n 1, 1) := by decide +kernel
theorem d_M_mark_18 : decode mb_M_mark 18 = .ok (.ior, 1) := by decide +kernel
theorem d_M_mark_19 : decode mb_M_mark 19 = .ok (.goto 14, 3) := by decide +kernel
theorem d_M_mark_22 : decode mb_M_mark 22 = .ok (.aload_n 0, 1) := by decide +kernel
theorem d_M_mark_23 : decode mb_M_mark 23 = .ok (.getfield 13, 3) := by decide +kernel
theorem d_M_mark_26 : decode mb_M_mark 26 = .ok (.bipush 10, 2) := by decide +kernel
theorem d_M_mark_28 : decode mb_M_mark 28 = .ok (.iaload, 1) := by decide +kernel
theorem d_M_mark_29 : decode mb_M_mark 29 = .ok (.iload_n 1, 1) := by decide +kernel
theorem d_M_mark_30 : decode mb_M_mark 30 = .ok (.iconst (-1), 1) := by decide +kernel
theorem d_M_mark_31 : decode mb_M_mark 31 = .ok (.ixor, 1) := by decide +kernel
theorem d_M_mark_32 : decode mb_M_mark 32 = .ok (.iand, 1) := by decide +kernel
theorem d_M_mark_33 : decode mb_M_mark 33 = .ok (.iastore, 1) := by decide +kernel
theorem d_M_mark_34 : decode mb_M_mark 34 = .ok (.return_, 1) := by decide +kernel
theorem d_M_sign_0 : decode mb_M_sign 0 = .ok (.aload_n 0, 1) := by decide +kernel
theorem d_M_sign_1 : decode mb_M_sign 1 = .ok (.bipush 8, 2) := by decide +kernel
theorem d_M_sign_3 : decode mb_M_sign 3 = .ok (.iload_n 1, 1) := by decide +kernel
theorem d_M_sign_4 : decode mb_M_sign 4 = .ok (.iload_n 2, 1) := by decide +kernel
theorem d_M_sign_5 : decode mb_M_sign 5 = .ok (.iconst 1, 1) := by decide +kernel
theorem d_M_sign_6 : decode mb_M_sign 6 = .ok (.isub, 1) := by decide +kernel
theorem d_M_sign_7 : decode mb_M_sign 7 = .ok (.ishr, 1) := by decide +kernel
theorem d_M_sign_8 : decode mb_M_sign 8 = .ok (.iconst 1, 1) := by decide +kernel
theorem d_M_sign_9 : decode mb_M_sign 9 = .ok (.iand, 1) := by decide +kernel
theorem d_M_sign_10 : decode mb_M_sign 10 = .ok (.iconst 1, 1) := by decide +kernel
theorem d_M_sign_11 : decode mb_M_sign 11 = .ok (.if_icmp .ne 7, 3) := by decide +kernel
theorem d_M_sign_14 : decode mb_M_sign 14 = .ok (.iconst 1, 1) := by decide +kernel
theorem d_M_sign_15 : decode mb_M_sign 15 = .ok (.goto 4, 3) := by decide +kernel
theorem d_M_sign_18 : decode mb_M_sign 18 = .ok (.iconst 0, 1) := by decide +kernel
theorem d_M_sign_19 : decode mb_M_sign 19 = .ok (.invokevirtual 62, 3) := by decide +kernel
theorem d_M_sign_22 : decode mb_M_sign 22 = .ok (.aload_n 0, 1) := by decide +kernel
theorem d_M_sign_23 : decode mb_M_sign 23 = .ok (.iconst 4, 1) := by decide +kernel
theorem d_M_sign_24 : decode mb_M_sign 24 = .ok (.iload_n 1, 1) := by decide +kernel
theorem d_M_sign_25 : decode mb_M_sign 25 = .ok (.iconst 1, 1) := by decide +kernel
theorem d_M_sign_26 : decode mb_M_sign 26 = .ok (.iload_n 2, 1) := by decide +kernel
theorem d_M_sign_27 : decode mb_M_sign 27 = .ok (.ishl, 1) := by decide +kernel
theorem d_M_sign_28 : decode mb_M_sign 28 = .ok (.iconst 1, 1) := by decide +kernel
theorem d_M_sign_29 : decode mb_M_sign 29 = .ok (.isub, 1) := by decide +kernel
theorem d_M_sign_30 : decode mb_M_sign 30 = .ok (.iand, 1) := by decide +kernel
theorem d_M_sign_31 : decode mb_M_sign 31 = .ok (.ifCond .ne 7, 3) := by decide +kernel
theorem d_M_sign_34 : decode mb_M_sign 34 = .ok (.iconst 1, 1) := by decide +kernel
theorem d_M_sign_35 : decode mb_M_sign 35 = .ok (.goto 4, 3) := by decide +kernel
theorem d_M_sign_38 : decode mb_M_sign 38 = .ok (.iconst 0, 1) := by decide +kernel
theorem d_M_sign_39 : decode mb_M_sign 39 = .ok (.invokevirtual 62, 3) := by decide +kernel
theorem d_M_sign_42 : decode mb_M_sign 42 = .ok (.return_, 1) := by decide +kernel
theorem d_M_plain_0 : decode mb_M_plain 0 = .ok (.aload_n 0, 1) := by decide +kernel
theorem d_M_plain_1 : decode mb_M_plain 1 = .ok (.iload_n 1, 1) := by decide +kernel
theorem d_M_plain_2 : decode mb_M_plain 2 = .ok (.iload_n 2, 1) := by decide +kernel
theorem d_M_plain_3 : decode mb_M_plain 3 = .ok (.invokevirtual 66, 3) := by decide +kernel
theorem d_M_plain_6 : decode mb_M_plain 6 = .ok (.aload_n 0, 1) := by decide +kernel
theorem d_M_plain_7 : decode mb_M_plain 7 = .ok (.iconst 2, 1) := by decide +kernel
theorem d_M_plain_8 : decode mb_M_plain 8 = .ok (.iconst 0, 1) := by decide +kernel
theorem d_M_plain_9 : decode mb_M_plain 9 = .ok (.invokevirtual 62, 3) := by decide +kernel
theorem d_M_plain_12 : decode mb_M_plain 12 = .ok (.iload_n 1, 1) := by decide +kernel
theorem d_M_plain_13 : decode mb_M_plain 13 = .ok (.ireturn, 1) := by decide +kernel
theorem d_M_number_0 : decode mb_M_number 0 = .ok (.iload_n 0, 1) := by decide +kernel
theorem d_M_number_1 : decode mb_M_number 1 = .ok (.iload_n 1, 1) := by decide +kernel
theorem d_M_number_2 : decode mb_M_number 2 = .ok (.iconst 1, 1) := by decide +kernel
theorem d_M_number_3 : decode mb_M_number 3 = .ok (.isub, 1) := by decide +kernel
theorem d_M_number_4 : decode mb_M_number 4 = .ok (.ishr, 1) := by decide +kernel
theorem d_M_number_5 : decode mb_M_number 5 = .ok (.ifCond .ne 7, 3) := by decide +kernel
theorem d_M_number_8 : decode mb_M_number 8 = .ok (.iload_n 0, 1) := by decide +kernel
theorem d_M_number_9 : decode mb_M_number 9 = .ok (.goto 8, 3) := by decide +kernel
theorem d_M_number_12 : decode mb_M_number 12 = .ok (.iload_n 0, 1) := by decide +kernel
theorem d_M_number_13 : decode mb_M_number 13 = .ok (.iconst 1, 1) := by decide +kernel
theorem d_M_number_14 : decode mb_M_number 14 = .ok (.iload_n 1, 1) := by decide +kernel
theorem d_M_number_15 : decode mb_M_number 15 = .ok (.ishl, 1) := by decide +kernel
theorem d_M_number_16 : decode mb_M_number 16 = .ok (.isub, 1) := by decide +kernel
theorem d_M_number_17 : decode mb_M_number 17 = .ok (.ireturn, 1) := by decide +kernel
theorem d_M_sum_0 : decode mb_M_sum 0 = .ok (.iconst 1, 1) := by decide +kernel
theorem d_M_sum_1 : decode mb_M_sum 1 = .ok (.iload 4, 2) := by decide +kernel
theorem d_M_sum_3 : decode mb_M_sum 3 = .ok (.ishl, 1) := by decide +kernel
theorem d_M_sum_4 : decode mb_M_sum 4 = .ok (.istore 5, 2) := by decide +kernel
theorem d_M_sum_6 : decode mb_M_sum 6 = .ok (.iload_n 1, 1) := by decide +kernel
theorem d_M_sum_7 : decode mb_M_sum 7 = .ok (.iload 4, 2) := by decide +kernel
theorem d_M_sum_9 : decode mb_M_sum 9 = .ok (.invokestatic 69, 3) := by decide +kernel
theorem d_M_sum_12 : decode mb_M_sum 12 = .ok (.iload_n 2, 1) := by decide +kernel
theorem d_M_sum_13 : decode mb_M_sum 13 = .ok (.iload 4, 2) := by decide +kernel
theorem d_M_sum_15 : decode mb_M_sum 15 = .ok (.invokestatic 69, 3) := by decide +kernel
theorem d_M_sum_18 : decode mb_M_sum 18 = .ok (.iadd, 1) := by decide +kernel
theorem d_M_sum_19 : decode mb_M_sum 19 = .ok (.iload_n 3, 1) := by decide +kernel
theorem d_M_sum_20 : decode mb_M_sum 20 = .ok (.iadd, 1) := by decide +kernel
theorem d_M_sum_21 : decode mb_M_sum 21 = .ok (.istore 6, 2) := by decide +kernel
theorem d_M_sum_23 : decode mb_M_sum 23 = .ok (.iload_n 1, 1) := by decide +kernel
theorem d_M_sum_24 : decode mb_M_sum 24 = .ok (.iload_n 2, 1) := by decide +kernel
theorem d_M_sum_25 : decode mb_M_sum 25 = .ok (.iadd, 1) := by decide +kernel
theorem d_M_sum_26 : decode mb_M_sum 26 = .ok (.iload_n 3, 1) := by decide +kernel
theorem d_M_sum_27 : decode mb_M_sum 27 = .ok (.iadd, 1) := by decide +kernel
theorem d_M_sum_28 : decode mb_M_sum 28 = .ok (.iload 5, 2) := by decide +kernel
theorem d_M_sum_30 : decode mb_M_sum 30 = .ok (.irem, 1) := by decide +kernel
theorem d_M_sum_31 : decode mb_M_sum 31 = .ok (.istore 7, 2) := by decide +kernel
theorem d_M_sum_33 : decode mb_M_sum 33 = .ok (.aload_n 0, 1) := by decide +kernel
theorem d_M_sum_34 : decode mb_M_sum 34 = .ok (.iload 7, 2) := by decide +kernel
theorem d_M_sum_36 : decode mb_M_sum 36 = .ok (.iload 4, 2) := by decide +kernel
theorem d_M_sum_38 : decode mb_M_sum 38 = .ok (.invokevirtual 66, 3) := by decide +kernel
theorem d_M_sum_41 : decode mb_M_sum 41 = .ok (.aload_n 0, 1) := by decide +kernel
theorem d_M_sum_42 : decode mb_M_sum 42 = .ok (.iconst 1, 1) := by decide +kernel
theorem d_M_sum_43 : decode mb_M_sum 43 = .ok (.iload_n 1, 1) := by decide +kernel
theorem d_M_sum_44 : decode mb_M_sum 44 = .ok (.iload_n 2, 1) := by decide +kernel
theorem d_M_sum_45 : decode mb_M_sum 45 = .ok (.iadd, 1) := by decide +kernel
theorem d_M_sum_46 : decode mb_M_sum 46 = .ok (.iload_n 3, 1) := by decide +kernel
theorem d_M_sum_47 : decode mb_M_sum 47 = .ok (.iadd, 1) := by decide +kernel
theorem d_M_sum_48 : decode mb_M_sum 48 = .ok (.iload 5, 2) := by decide +kernel
theorem d_M_sum_50 : decode mb_M_sum 50 = .ok (.if_icmp .lt 7, 3) := by decide +kernel
theorem d_M_sum_53 : decode mb_M_sum 53 = .ok (.iconst 1, 1) := by decide +kernel
theorem d_M_sum_54 : decode mb_M_sum 54 = .ok (.goto 4, 3) := by decide +kernel
theorem d_M_sum_57 : decode mb_M_sum 57 = .ok (.iconst 0, 1) := by decide +kernel
theorem d_M_sum_58 : decode mb_M_sum 58 = .ok (.invokevirtual 62, 3) := by decide +kernel
theorem d_M_sum_61 : decode mb_M_sum 61 = .ok (.aload_n 0, 1) := by decide +kernel
theorem d_M_sum_62 : decode mb_M_sum 62 = .ok (.iconst 2, 1) := by decide +kernel
theorem d_M_sum_63 : decode mb_M_sum 63 = .ok (.iload 6, 2) := by decide +kernel
theorem d_M_sum_65 : decode mb_M_sum 65 = .ok (.iload 5, 2) := by decide +kernel
theorem d_M_sum_67 : decode mb_M_sum 67 = .ok (.ineg, 1) := by decide +kernel
theorem d_M_sum_68 : decode mb_M_sum 68 = .ok (.iconst 2, 1) := by decide +kernel
theorem d_M_sum_69 : decode mb_M_sum 69 = .ok (.idiv, 1) := by decide +kernel
theorem d_M_sum_70 : decode mb_M_sum 70 = .ok (.if_icmp .lt 12, 3) := by decide +kernel
theorem d_M_sum_73 : decode mb_M_sum 73 = .ok (.iload 6, 2) := by decide +kernel
theorem d_M_sum_75 : decode mb_M_sum 75 = .ok (.iload 5, 2) := by decide +kernel
theorem d_M_sum_77 : decode mb_M_sum 77 = .ok (.iconst 2, 1) := by decide +kernel
theorem d_M_sum_78 : decode mb_M_sum 78 = .ok (.idiv, 1) := by decide +kernel
theorem d_M_sum_79 : decode mb_M_sum 79 = .ok (.if_icmp .lt 7, 3) := by decide +kernel
theorem d_M_sum_82 : decode mb_M_sum 82 = .ok (.iconst 1, 1) := by decide +kernel
theorem d_M_sum_83 : decode mb_M_sum 83 = .ok (.goto 4, 3) := by decide +kernel
theorem d_M_sum_86 : decode mb_M_sum 86 = .ok (.iconst 0, 1) := by decide +kernel
theorem d_M_sum_87 : decode mb_M_sum 87 = .ok (.invokevirtual 62, 3) := by decide +kernel
theorem d_M_sum_90 : decode mb_M_sum 90 = .ok (.iload 7, 2) := by decide +kernel
theorem d_M_sum_92 : decode mb_M_sum 92 = .ok (.ireturn, 1) := by decide +kernel
section MODEL
variable {l : Launch} {D : va_G}
variable {h0 h1 h2 h3 h4 h5 h6 h7 : Nat} {cI cT : ClassId} {me : Nat → Int32} {rg : Nat → Int32} {so : Nat → Int32} {sv : Nat → Int32} {tl : Nat → Int32} {su : Nat → Int32} {qu : Nat → Int32} {wa : Int32} {ru : Int32} {pe : Int32} {re : Int32} {pn : Bool} {lo : Int32} {se : Int32} {pa : Int32} {sp : Int32} {iv : Bool}
set_option maxHeartbeats 4000000 in
set_option maxRecDepth 100000 in
theorem c_mo_signed {x1 : Int32} {z : Int32} (hf : mo_signed x1 = some z) : co_i l my_M_signed mb_M_signed 1 .int rm_m_signed D (ty_ cI cT) [.int x1] (mw_ h0 h1 h2 h3 h4 h5 h6 h7 cI me rg so sv tl su qu wa ru pe re pn lo se pa sp iv) (mw_ h0 h1 h2 h3 h4 h5 h6 h7 cI me rg so sv tl su qu wa ru pe re pn lo se pa sp iv) z := by
  refine co_i_of (by decide) (Nat.le_of_ble_eq_true rfl) ?_
  intro p e s m below meth c A ls X hr hlk hK hP hD hS hA hl
  have hx := X.1
  have hb := X.2.1
  have hl : lv_has ls 1 [(0, .int x1)] := hl
  unfold mo_signed at hf
  refine lv_iload_n hx hb d_M_signed_0 rfl (lv_at hl 0 rfl) ?_
  refine lv_sipush (v := (128 : Int32)) hx hb d_M_signed_1 (by decide) ?_
  refine lv_icmp_ge (tgt := 11) hx hb d_M_signed_4 (by decide) (fun hc => ?_) (fun hc => ?_)
  · replace hf := (if_pos hc).symm.trans hf
    refine lv_iload_n hx hb d_M_signed_11 rfl (lv_at hl 0 rfl) ?_
    refine lv_sipush (v := (256 : Int32)) hx hb d_M_signed_12 (by decide) ?_
    refine lv_isub hx hb d_M_signed_15 ?_
    have hq := Option.some.inj hf
    subst hq
    exact rt_i (r := (x1 - (256 : Int32))) X hr hlk hK rfl hP hD hS d_M_signed_16
  · replace hf := (if_neg hc).symm.trans hf
    refine lv_iload_n hx hb d_M_signed_7 rfl (lv_at hl 0 rfl) ?_
    refine lv_goto (tgt := 16) hx hb d_M_signed_8 (by decide) ?_
    have hq := Option.some.inj hf
    subst hq
    exact rt_i (r := x1) X hr hlk hK rfl hP hD hS d_M_signed_16
set_option maxHeartbeats 4000000 in
set_option maxRecDepth 100000 in
theorem c_mo_at {x1 : Int32} {z : Int32} (hf : mo_at x1 me = some z) : co_i l my_M_at mb_M_at 3 .int rm_m_at D (ty_ cI cT) [.ref h0, .int x1] (mw_ h0 h1 h2 h3 h4 h5 h6 h7 cI me rg so sv tl su qu wa ru pe re pn lo se pa sp iv) (mw_ h0 h1 h2 h3 h4 h5 h6 h7 cI me rg so sv tl su qu wa ru pe re pn lo se pa sp iv) z := by
  refine co_i_of (by decide) (Nat.le_of_ble_eq_true rfl) ?_
  intro p e s m below meth c A ls X hr hlk hK hP hD hS hA hl
  have hx := X.1
  have hb := X.2.1
  have hl : lv_has ls 3 [(0, .ref h0), (1, .int x1)] := hl
  unfold mo_at at hf
  refine lv_iload_n hx hb d_M_at_0 rfl (lv_at hl 1 rfl) ?_
  refine lv_ldc (v := (65535 : Int32)) hx hb X.2.2.2.1 (X.2.2.2.2 _ wd_0) d_M_at_1 ?_
  refine lv_iand hx hb d_M_at_3 ?_
  refine lv_istore_n hx hb d_M_at_4 rfl hl (by decide) rfl (fun ls hl => ?_)
  have hl : lv_has ls 3 [(2, .int (x1 &&& (65535 : Int32))), (0, .ref h0), (1, .int x1)] := hl
  refine lv_iload_n hx hb d_M_at_5 rfl (lv_at hl 0 rfl) ?_
  refine lv_sipush (v := (512 : Int32)) hx hb d_M_at_6 (by decide) ?_
  refine lv_icmp_ge (tgt := 21) hx hb d_M_at_9 (by decide) (fun hc => ?_) (fun hc => ?_)
  · replace hf := (if_pos hc).symm.trans hf
    refine lv_iconst (v := (0 : Int32)) hx hb d_M_at_21 (by decide) ?_
    have hq := Option.some.inj hf
    subst hq
    exact rt_i (r := (0 : Int32)) X hr hlk hK rfl hP hD hS d_M_at_22
  · replace hf := (if_neg hc).symm.trans hf
    refine lv_aload_n hx hb d_M_at_12 rfl (lv_at hl 1 rfl) ?_
    refine mg_memory X hK hP d_M_at_13 ?_
    refine lv_iload_n hx hb d_M_at_16 rfl (lv_at hl 0 rfl) ?_
    obtain ⟨hi2, hf⟩ := op_c hf
    refine ma_me (k := ((x1 &&& (65535 : Int32)).toNatClampNeg)) X hK hP hi2 rfl d_M_at_17 ?_
    refine lv_goto (tgt := 22) hx hb d_M_at_18 (by decide) ?_
    have hq := Option.some.inj hf
    subst hq
    exact rt_i (r := (me ((x1 &&& (65535 : Int32)).toNatClampNeg))) X hr hlk hK rfl hP hD hS d_M_at_22
set_option maxHeartbeats 4000000 in
set_option maxRecDepth 100000 in
theorem c_mo_put {x1 : Int32} {x2 : Int32} {z : (Nat → Int32)} (hf : mo_put x1 x2 me = some z) : co_v l my_M_put mb_M_put 4 rm_m_put D (ty_ cI cT) [.ref h0, .int x1, .int x2] (mw_ h0 h1 h2 h3 h4 h5 h6 h7 cI me rg so sv tl su qu wa ru pe re pn lo se pa sp iv) (mw_ h0 h1 h2 h3 h4 h5 h6 h7 cI z rg so sv tl su qu wa ru pe re pn lo se pa sp iv) := by
  refine co_v_of (by decide) (Nat.le_of_ble_eq_true rfl) ?_
  intro p e s m below meth c A ls X hr hlk hK hP hD hS hA hl
  have hx := X.1
  have hb := X.2.1
  have hl : lv_has ls 4 [(0, .ref h0), (1, .int x1), (2, .int x2)] := hl
  unfold mo_put at hf
  refine lv_iload_n hx hb d_M_put_0 rfl (lv_at hl 1 rfl) ?_
  refine lv_ldc (v := (65535 : Int32)) hx hb X.2.2.2.1 (X.2.2.2.2 _ wd_0) d_M_put_1 ?_
  refine lv_iand hx hb d_M_put_3 ?_
  refine lv_istore_n hx hb d_M_put_4 rfl hl (by decide) rfl (fun ls hl => ?_)
  have hl : lv_has ls 4 [(3, .int (x1 &&& (65535 : Int32))), (0, .ref h0), (1, .int x1), (2, .int x2)] := hl
  refine lv_iload_n hx hb d_M_put_5 rfl (lv_at hl 0 rfl) ?_
  refine lv_sipush (v := (512 : Int32)) hx hb d_M_put_6 (by decide) ?_
  refine lv_icmp_ge (tgt := 23) hx hb d_M_put_9 (by decide) (fun hc => ?_) (fun hc => ?_)
  · replace hf := (if_pos hc).symm.trans hf
    have hq := Option.some.inj hf
    subst hq
    exact rt_v X hr hlk hK hP hD hS d_M_put_23
  · replace hf := (if_neg hc).symm.trans hf
    refine lv_aload_n hx hb d_M_put_12 rfl (lv_at hl 1 rfl) ?_
    refine mg_memory X hK hP d_M_put_13 ?_
    refine lv_iload_n hx hb d_M_put_16 rfl (lv_at hl 0 rfl) ?_
    refine lv_iload_n hx hb d_M_put_17 rfl (lv_at hl 3 rfl) ?_
    refine lv_sipush (v := (255 : Int32)) hx hb d_M_put_18 (by decide) ?_
    refine lv_iand hx hb d_M_put_21 ?_
    obtain ⟨hi2, hf⟩ := op_c hf
    refine ms_me (k := ((x1 &&& (65535 : Int32)).toNatClampNeg)) X hK hP hD hS hi2 rfl d_M_put_22 (fun H locs hP hD hS => ?_)
    have hq := Option.some.inj hf
    subst hq
    exact rt_v X hr hlk hK hP hD hS d_M_put_23
set_option maxHeartbeats 4000000 in
set_option maxRecDepth 100000 in
theorem c_mo_get {x1 : Int32} {z : Int32} (hf : mo_get x1 rg = some z) : co_i l my_M_get mb_M_get 2 .int rm_m_get D (ty_ cI cT) [.ref h0, .int x1] (mw_ h0 h1 h2 h3 h4 h5 h6 h7 cI me rg so sv tl su qu wa ru pe re pn lo se pa sp iv) (mw_ h0 h1 h2 h3 h4 h5 h6 h7 cI me rg so sv tl su qu wa ru pe re pn lo se pa sp iv) z := by
  refine co_i_of (by decide) (Nat.le_of_ble_eq_true rfl) ?_
  intro p e s m below meth c A ls X hr hlk hK hP hD hS hA hl
  have hx := X.1
  have hb := X.2.1
  have hl : lv_has ls 2 [(0, .ref h0), (1, .int x1)] := hl
  unfold mo_get at hf
  refine lv_iload_n hx hb d_M_get_0 rfl (lv_at hl 1 rfl) ?_
  refine lv_if_ne (tgt := 26) hx hb d_M_get_1 (by decide) (fun hc => ?_) (fun hc => ?_)
  · replace hf := (if_neg hc).symm.trans hf
    refine lv_aload_n hx hb d_M_get_26 rfl (lv_at hl 0 rfl) ?_
    refine mg_reg X hK hP d_M_get_27 ?_
    refine lv_iload_n hx hb d_M_get_30 rfl (lv_at hl 1 rfl) ?_
    obtain ⟨hi2, hf⟩ := op_c hf
    refine ma_rg (k := (x1.toNatClampNeg)) X hK hP hi2 rfl d_M_get_31 ?_
    have hq := Option.some.inj hf
    subst hq
    exact rt_i (r := (rg (x1.toNatClampNeg))) X hr hlk hK rfl hP hD hS d_M_get_32
  · replace hf := (if_pos hc).symm.trans hf
    refine lv_sipush (v := (256 : Int32)) hx hb d_M_get_4 (by decide) ?_
    refine lv_aload_n hx hb d_M_get_7 rfl (lv_at hl 0 rfl) ?_
    refine mg_reg X hK hP d_M_get_8 ?_
    refine lv_bipush (v := (8 : Int32)) hx hb d_M_get_11 (by decide) ?_
    refine ma_rg (k := 8) X hK hP (in_b_vp (by decide)) (by decide) d_M_get_13 ?_
    refine lv_imul hx hb d_M_get_14 ?_
    refine lv_aload_n hx hb d_M_get_15 rfl (lv_at hl 0 rfl) ?_
    refine mg_reg X hK hP d_M_get_16 ?_
    refine lv_bipush (v := (9 : Int32)) hx hb d_M_get_19 (by decide) ?_
    refine ma_rg (k := 9) X hK hP (in_b_vp (by decide)) (by decide) d_M_get_21 ?_
    refine lv_iadd hx hb d_M_get_22 ?_
    refine lv_goto (tgt := 32) hx hb d_M_get_23 (by decide) ?_
    have hq := Option.some.inj hf
    subst hq
    exact rt_i (r := (((256 : Int32) * (rg 8)) + (rg 9))) X hr hlk hK rfl hP hD hS d_M_get_32
set_option maxHeartbeats 4000000 in
set_option maxRecDepth 100000 in
theorem c_mo_set {x1 : Int32} {x2 : Int32} {z : (Nat → Int32)} (hf : mo_set x1 x2 rg = some z) : co_v l my_M_set mb_M_set 3 rm_m_set D (ty_ cI cT) [.ref h0, .int x1, .int x2] (mw_ h0 h1 h2 h3 h4 h5 h6 h7 cI me rg so sv tl su qu wa ru pe re pn lo se pa sp iv) (mw_ h0 h1 h2 h3 h4 h5 h6 h7 cI me z so sv tl su qu wa ru pe re pn lo se pa sp iv) := by
  refine co_v_of (by decide) (Nat.le_of_ble_eq_true rfl) ?_
  intro p e s m below meth c A ls X hr hlk hK hP hD hS hA hl
  have hx := X.1
  have hb := X.2.1
  have hl : lv_has ls 3 [(0, .ref h0), (1, .int x1), (2, .int x2)] := hl
  have J57 : ∀ (s0 : Int32) (s1 : Int32) (rg : Nat → Int32), mo_set_j57 s0 s1 rg = some z → ∀ (H : Heap) (locs : List Loc) (ls : Array Slot), lv_has ls 3 [] → va_P D cz_all (mw_ h0 h1 h2 h3 h4 h5 h6 h7 cI me rg so sv tl su qu wa ru pe re pn lo se pa sp iv) H → va_D A (mw_ h0 h1 h2 h3 h4 h5 h6 h7 cI me rg so sv tl su qu wa ru pe re pn lo se pa sp iv) → va_S A s.heap H locs → W p l e rm_m_set s m ([.ref h0, .int x1, .int x2] : List Value).toArray below meth c H locs 0 0 (MQ below (qs_v D (ty_ cI cT) (mw_ h0 h1 h2 h3 h4 h5 h6 h7 cI me z so sv tl su qu wa ru pe re pn lo se pa sp iv) A) ([.ref h0, .int x1, .int x2] : List Value).toArray s 0 0 A) (F0 m 57 ls [.int s0, .int s1, .ref h2]) := by
    intro s0 s1 rg hf H locs ls hl hP hD hS
    unfold mo_set_j57 at hf
    obtain ⟨hi2, hf⟩ := op_c hf
    refine ms_rg (k := (s1.toNatClampNeg)) X hK hP hD hS hi2 rfl d_M_set_57 (fun H locs hP hD hS => ?_)
    have hq := Option.some.inj hf
    subst hq
    exact rt_v X hr hlk hK hP hD hS d_M_set_58
  unfold mo_set at hf
  refine lv_iload_n hx hb d_M_set_0 rfl (lv_at hl 1 rfl) ?_
  refine lv_if_ne (tgt := 34) hx hb d_M_set_1 (by decide) (fun hc => ?_) (fun hc => ?_)
  · replace hf := (if_neg hc).symm.trans hf
    refine lv_aload_n hx hb d_M_set_34 rfl (lv_at hl 0 rfl) ?_
    refine mg_reg X hK hP d_M_set_35 ?_
    refine lv_iload_n hx hb d_M_set_38 rfl (lv_at hl 1 rfl) ?_
    refine lv_iload_n hx hb d_M_set_39 rfl (lv_at hl 1 rfl) ?_
    refine lv_bipush (v := (8 : Int32)) hx hb d_M_set_40 (by decide) ?_
    refine lv_icmp_ge (tgt := 52) hx hb d_M_set_42 (by decide) (fun hc => ?_) (fun hc => ?_)
    · replace hf := (if_pos hc).symm.trans hf
      refine lv_iload_n hx hb d_M_set_52 rfl (lv_at hl 2 rfl) ?_
      refine lv_sipush (v := (255 : Int32)) hx hb d_M_set_53 (by decide) ?_
      refine lv_iand hx hb d_M_set_56 ?_
      exact J57 (x2 &&& (255 : Int32)) x1 rg hf _ _ _ (lv_sub hl [] rfl) hP hD hS
    · replace hf := (if_neg hc).symm.trans hf
      refine lv_iload_n hx hb d_M_set_45 rfl (lv_at hl 2 rfl) ?_
      refine lv_ldc (v := (65535 : Int32)) hx hb X.2.2.2.1 (X.2.2.2.2 _ wd_0) d_M_set_46 ?_
      refine lv_iand hx hb d_M_set_48 ?_
      refine lv_goto (tgt := 57) hx hb d_M_set_49 (by decide) ?_
      exact J57 (x2 &&& (65535 : Int32)) x1 rg hf _ _ _ (lv_sub hl [] rfl) hP hD hS
  · replace hf := (if_pos hc).symm.trans hf
    refine lv_aload_n hx hb d_M_set_4 rfl (lv_at hl 0 rfl) ?_
    refine mg_reg X hK hP d_M_set_5 ?_
    refine lv_bipush (v := (8 : Int32)) hx hb d_M_set_8 (by decide) ?_
    refine lv_iload_n hx hb d_M_set_10 rfl (lv_at hl 2 rfl) ?_
    refine lv_bipush (v := (8 : Int32)) hx hb d_M_set_11 (by decide) ?_
    refine lv_ishr hx hb d_M_set_13 ?_
    refine lv_sipush (v := (255 : Int32)) hx hb d_M_set_14 (by decide) ?_
    refine lv_iand hx hb d_M_set_17 ?_
    refine ms_rg (k := 8) X hK hP hD hS (in_b_vp (by decide)) (by decide) d_M_set_18 (fun H locs hP hD hS => ?_)
    refine lv_aload_n hx hb d_M_set_19 rfl (lv_at hl 0 rfl) ?_
    refine mg_reg X hK hP d_M_set_20 ?_
    refine lv_bipush (v := (9 : Int32)) hx hb d_M_set_23 (by decide) ?_
    refine lv_iload_n hx hb d_M_set_25 rfl (lv_at hl 2 rfl) ?_
    refine lv_sipush (v := (255 : Int32)) hx hb d_M_set_26 (by decide) ?_
    refine lv_iand hx hb d_M_set_29 ?_
    refine ms_rg (k := 9) X hK hP hD hS (in_b_vp (by decide)) (by decide) d_M_set_30 (fun H locs hP hD hS => ?_)
    refine lv_goto (tgt := 58) hx hb d_M_set_31 (by decide) ?_
    have hq := Option.some.inj hf
    subst hq
    exact rt_v X hr hlk hK hP hD hS d_M_set_58
set_option maxHeartbeats 4000000 in
set_option maxRecDepth 100000 in
theorem c_mo_load {x1 : Int32} {x2 : Bool} {z : Int32 × Int32} (hf : mo_load x1 x2 me sp = some z) : co_i l my_M_load mb_M_load 3 .int rm_m_load D (ty_ cI cT) [.ref h0, .int x1, .int (bz_i x2)] (mw_ h0 h1 h2 h3 h4 h5 h6 h7 cI me rg so sv tl su qu wa ru pe re pn lo se pa sp iv) (mw_ h0 h1 h2 h3 h4 h5 h6 h7 cI me rg so sv tl su qu wa ru pe re pn lo se pa z.2 iv) z.1 := by
  refine co_i_of (by decide) (Nat.le_of_ble_eq_true rfl) ?_
  intro p e s m below meth c A ls X hr hlk hK hP hD hS hA hl
  have hx := X.1
  have hb := X.2.1
  have hl : lv_has ls 3 [(0, .ref h0), (1, .int x1), (2, .int (bz_i x2))] := hl
  have J14 : ∀ (v1 : Int32) (v2 : Bool) (s0 : Int32) (s1 : Int32) (me : Nat → Int32) (sp : Int32), mo_load_j14 v1 v2 s0 s1 me sp = some z → ∀ (H : Heap) (locs : List Loc) (ls : Array Slot), lv_has ls 3 [(0, .ref h0), (1, .int v1), (2, .int (bz_i v2))] → va_P D cz_all (mw_ h0 h1 h2 h3 h4 h5 h6 h7 cI me rg so sv tl su qu wa ru pe re pn lo se pa sp iv) H → va_D A (mw_ h0 h1 h2 h3 h4 h5 h6 h7 cI me rg so sv tl su qu wa ru pe re pn lo se pa sp iv) → va_S A s.heap H locs → W p l e rm_m_load s m ([.ref h0, .int x1, .int (bz_i x2)] : List Value).toArray below meth c H locs 0 0 (MQ below (qs_i D (ty_ cI cT) (mw_ h0 h1 h2 h3 h4 h5 h6 h7 cI me rg so sv tl su qu wa ru pe re pn lo se pa z.2 iv) z.1 A) ([.ref h0, .int x1, .int (bz_i x2)] : List Value).toArray s 0 0 A) (F0 m 14 ls [.int s0, .int s1, .ref h0]) := by
    intro v1 v2 s0 s1 me sp hf H locs ls hl hP hD hS
    unfold mo_load_j14 at hf
    refine lv_iadd hx hb d_M_load_14 ?_
    refine mp_spent (x := (s1 + s0)) X hK hP hD hS d_M_load_15 (fun H locs hP hD hS => ?_)
    refine lv_iload_n hx hb d_M_load_18 rfl (lv_at hl 2 rfl) ?_
    refine lv_if_eq (tgt := 42) hx hb d_M_load_19 (by decide) (fun hc => ?_) (fun hc => ?_)
    · replace hf := (if_pos hc).symm.trans hf
      refine lv_aload_n hx hb d_M_load_42 rfl (lv_at hl 0 rfl) ?_
      refine lv_iload_n hx hb d_M_load_43 rfl (lv_at hl 1 rfl) ?_
      obtain ⟨z7, hz7, hf⟩ := op_b hf
      refine cl_i X cw_M_39 hK hP hD hS hA hl (c_mo_at hz7) ⟨rfl, rfl, Nat.le_of_ble_eq_true rfl, Nat.le_of_ble_eq_true rfl⟩ 0 rfl rfl rfl rfl rfl (Nat.le_of_ble_eq_true rfl) d_M_load_44 (fun H locs hP hD hS => ?_)
      have hq := Option.some.inj hf
      subst hq
      exact rt_i (r := z7) X hr hlk hK rfl hP hD hS d_M_load_47
    · replace hf := (if_neg hc).symm.trans hf
      refine lv_sipush (v := (256 : Int32)) hx hb d_M_load_22 (by decide) ?_
      refine lv_aload_n hx hb d_M_load_25 rfl (lv_at hl 0 rfl) ?_
      refine lv_iload_n hx hb d_M_load_26 rfl (lv_at hl 1 rfl) ?_
      obtain ⟨z8, hz8, hf⟩ := op_b hf
      refine cl_i X cw_M_39 hK hP hD hS hA hl (c_mo_at hz8) ⟨rfl, rfl, Nat.le_of_ble_eq_true rfl, Nat.le_of_ble_eq_true rfl⟩ 0 rfl rfl rfl rfl rfl (Nat.le_of_ble_eq_true rfl) d_M_load_27 (fun H locs hP hD hS => ?_)
      refine lv_imul hx hb d_M_load_30 ?_
      refine lv_aload_n hx hb d_M_load_31 rfl (lv_at hl 0 rfl) ?_
      refine lv_iload_n hx hb d_M_load_32 rfl (lv_at hl 1 rfl) ?_
      refine lv_iconst (v := (1 : Int32)) hx hb d_M_load_33 (by decide) ?_
      refine lv_iadd hx hb d_M_load_34 ?_
      obtain ⟨z9, hz9, hf⟩ := op_b hf
      refine cl_i X cw_M_39 hK hP hD hS hA hl (c_mo_at hz9) ⟨rfl, rfl, Nat.le_of_ble_eq_true rfl, Nat.le_of_ble_eq_true rfl⟩ 0 rfl rfl rfl rfl rfl (Nat.le_of_ble_eq_true rfl) d_M_load_35 (fun H locs hP hD hS => ?_)
      refine lv_iadd hx hb d_M_load_38 ?_
      refine lv_goto (tgt := 47) hx hb d_M_load_39 (by decide) ?_
      have hq := Option.some.inj hf
      subst hq
      exact rt_i (r := (((256 : Int32) * z8) + z9)) X hr hlk hK rfl hP hD hS d_M_load_47
  unfold mo_load at hf
  refine lv_aload_n hx hb d_M_load_0 rfl (lv_at hl 0 rfl) ?_
  refine lv_dup hx hb d_M_load_1 rfl ?_
  refine mg_spent X hK hP d_M_load_2 ?_
  refine lv_iload_n hx hb d_M_load_5 rfl (lv_at hl 2 rfl) ?_
  refine lv_if_eq (tgt := 13) hx hb d_M_load_6 (by decide) (fun hc => ?_) (fun hc => ?_)
  · replace hf := (if_pos hc).symm.trans hf
    refine lv_iconst (v := (1 : Int32)) hx hb d_M_load_13 (by decide) ?_
    exact J14 x1 x2 (1 : Int32) sp me sp hf _ _ _ hl hP hD hS
  · replace hf := (if_neg hc).symm.trans hf
    refine lv_iconst (v := (2 : Int32)) hx hb d_M_load_9 (by decide) ?_
    refine lv_goto (tgt := 14) hx hb d_M_load_10 (by decide) ?_
    exact J14 x1 x2 (2 : Int32) sp me sp hf _ _ _ hl hP hD hS
set_option maxHeartbeats 4000000 in
set_option maxRecDepth 100000 in
theorem c_mo_store {x1 : Int32} {x2 : Int32} {x3 : Bool} {z : (Nat → Int32) × Int32} (hf : mo_store x1 x2 x3 me sp = some z) : co_v l my_M_store mb_M_store 4 rm_m_store D (ty_ cI cT) [.ref h0, .int x1, .int x2, .int (bz_i x3)] (mw_ h0 h1 h2 h3 h4 h5 h6 h7 cI me rg so sv tl su qu wa ru pe re pn lo se pa sp iv) (mw_ h0 h1 h2 h3 h4 h5 h6 h7 cI z.1 rg so sv tl su qu wa ru pe re pn lo se pa z.2 iv) := by
  refine co_v_of (by decide) (Nat.le_of_ble_eq_true rfl) ?_
  intro p e s m below meth c A ls X hr hlk hK hP hD hS hA hl
  have hx := X.1
  have hb := X.2.1
  have hl : lv_has ls 4 [(0, .ref h0), (1, .int x1), (2, .int x2), (3, .int (bz_i x3))] := hl
  have J14 : ∀ (v1 : Int32) (v2 : Int32) (v3 : Bool) (s0 : Int32) (s1 : Int32) (me : Nat → Int32) (sp : Int32), mo_store_j14 v1 v2 v3 s0 s1 me sp = some z → ∀ (H : Heap) (locs : List Loc) (ls : Array Slot), lv_has ls 4 [(0, .ref h0), (1, .int v1), (2, .int v2), (3, .int (bz_i v3))] → va_P D cz_all (mw_ h0 h1 h2 h3 h4 h5 h6 h7 cI me rg so sv tl su qu wa ru pe re pn lo se pa sp iv) H → va_D A (mw_ h0 h1 h2 h3 h4 h5 h6 h7 cI me rg so sv tl su qu wa ru pe re pn lo se pa sp iv) → va_S A s.heap H locs → W p l e rm_m_store s m ([.ref h0, .int x1, .int x2, .int (bz_i x3)] : List Value).toArray below meth c H locs 0 0 (MQ below (qs_v D (ty_ cI cT) (mw_ h0 h1 h2 h3 h4 h5 h6 h7 cI z.1 rg so sv tl su qu wa ru pe re pn lo se pa z.2 iv) A) ([.ref h0, .int x1, .int x2, .int (bz_i x3)] : List Value).toArray s 0 0 A) (F0 m 14 ls [.int s0, .int s1, .ref h0]) := by
    intro v1 v2 v3 s0 s1 me sp hf H locs ls hl hP hD hS
    unfold mo_store_j14 at hf
    refine lv_iadd hx hb d_M_store_14 ?_
    refine mp_spent (x := (s1 + s0)) X hK hP hD hS d_M_store_15 (fun H locs hP hD hS => ?_)
    refine lv_iload_n hx hb d_M_store_18 rfl (lv_at hl 3 rfl) ?_
    refine lv_if_eq (tgt := 42) hx hb d_M_store_19 (by decide) (fun hc => ?_) (fun hc => ?_)
    · replace hf := (if_pos hc).symm.trans hf
      refine lv_aload_n hx hb d_M_store_42 rfl (lv_at hl 0 rfl) ?_
      refine lv_iload_n hx hb d_M_store_43 rfl (lv_at hl 1 rfl) ?_
      refine lv_iload_n hx hb d_M_store_44 rfl (lv_at hl 2 rfl) ?_
      obtain ⟨z7, hz7, hf⟩ := op_b hf
      refine cl_v X cw_M_43 hK hP hD hS hA hl (c_mo_put hz7) ⟨rfl, rfl, Nat.le_of_ble_eq_true rfl, Nat.le_of_ble_eq_true rfl⟩ 0 rfl rfl rfl rfl rfl (Nat.le_of_ble_eq_true rfl) d_M_store_45 (fun H locs hP hD hS => ?_)
      have hq := Option.some.inj hf
      subst hq
      exact rt_v X hr hlk hK hP hD hS d_M_store_48
    · replace hf := (if_neg hc).symm.trans hf
      refine lv_aload_n hx hb d_M_store_22 rfl (lv_at hl 0 rfl) ?_
      refine lv_iload_n hx hb d_M_store_23 rfl (lv_at hl 1 rfl) ?_
      refine lv_iload_n hx hb d_M_store_24 rfl (lv_at hl 2 rfl) ?_
      refine lv_bipush (v := (8 : Int32)) hx hb d_M_store_25 (by decide) ?_
      refine lv_ishr hx hb d_M_store_27 ?_
      obtain ⟨z8, hz8, hf⟩ := op_b hf
      refine cl_v X cw_M_43 hK hP hD hS hA hl (c_mo_put hz8) ⟨rfl, rfl, Nat.le_of_ble_eq_true rfl, Nat.le_of_ble_eq_true rfl⟩ 0 rfl rfl rfl rfl rfl (Nat.le_of_ble_eq_true rfl) d_M_store_28 (fun H locs hP hD hS => ?_)
      refine lv_aload_n hx hb d_M_store_31 rfl (lv_at hl 0 rfl) ?_
      refine lv_iload_n hx hb d_M_store_32 rfl (lv_at hl 1 rfl) ?_
      refine lv_iconst (v := (1 : Int32)) hx hb d_M_store_33 (by decide) ?_
      refine lv_iadd hx hb d_M_store_34 ?_
      refine lv_iload_n hx hb d_M_store_35 rfl (lv_at hl 2 rfl) ?_
      obtain ⟨z9, hz9, hf⟩ := op_b hf
      refine cl_v X cw_M_43 hK hP hD hS hA hl (c_mo_put hz9) ⟨rfl, rfl, Nat.le_of_ble_eq_true rfl, Nat.le_of_ble_eq_true rfl⟩ 0 rfl rfl rfl rfl rfl (Nat.le_of_ble_eq_true rfl) d_M_store_36 (fun H locs hP hD hS => ?_)
      refine lv_goto (tgt := 48) hx hb d_M_store_39 (by decide) ?_
      have hq := Option.some.inj hf
      subst hq
      exact rt_v X hr hlk hK hP hD hS d_M_store_48
  unfold mo_store at hf
  refine lv_aload_n hx hb d_M_store_0 rfl (lv_at hl 0 rfl) ?_
  refine lv_dup hx hb d_M_store_1 rfl ?_
  refine mg_spent X hK hP d_M_store_2 ?_
  refine lv_iload_n hx hb d_M_store_5 rfl (lv_at hl 3 rfl) ?_
  refine lv_if_eq (tgt := 13) hx hb d_M_store_6 (by decide) (fun hc => ?_) (fun hc => ?_)
  · replace hf := (if_pos hc).symm.trans hf
    refine lv_iconst (v := (1 : Int32)) hx hb d_M_store_13 (by decide) ?_
    exact J14 x1 x2 x3 (1 : Int32) sp me sp hf _ _ _ hl hP hD hS
  · replace hf := (if_neg hc).symm.trans hf
    refine lv_iconst (v := (2 : Int32)) hx hb d_M_store_9 (by decide) ?_
    refine lv_goto (tgt := 14) hx hb d_M_store_10 (by decide) ?_
    exact J14 x1 x2 x3 (2 : Int32) sp me sp hf _ _ _ hl hP hD hS
set_option maxHeartbeats 4000000 in
set_option maxRecDepth 100000 in
theorem c_mo_fetch  {z : Int32 × (Nat → Int32) × Int32} (hf : mo_fetch me rg sp = some z) : co_i l my_M_fetch mb_M_fetch 2 .int rm_m_fetch D (ty_ cI cT) [.ref h0] (mw_ h0 h1 h2 h3 h4 h5 h6 h7 cI me rg so sv tl su qu wa ru pe re pn lo se pa sp iv) (mw_ h0 h1 h2 h3 h4 h5 h6 h7 cI me z.2.1 so sv tl su qu wa ru pe re pn lo se pa z.2.2 iv) z.1 := by
  refine co_i_of (by decide) (Nat.le_of_ble_eq_true rfl) ?_
  intro p e s m below meth c A ls X hr hlk hK hP hD hS hA hl
  have hx := X.1
  have hb := X.2.1
  have hl : lv_has ls 2 [(0, .ref h0)] := hl
  unfold mo_fetch at hf
  refine lv_aload_n hx hb d_M_fetch_0 rfl (lv_at hl 0 rfl) ?_
  refine lv_aload_n hx hb d_M_fetch_1 rfl (lv_at hl 0 rfl) ?_
  refine mg_reg X hK hP d_M_fetch_2 ?_
  refine lv_iconst (v := (5 : Int32)) hx hb d_M_fetch_5 (by decide) ?_
  refine ma_rg (k := 5) X hK hP (in_b_vp (by decide)) (by decide) d_M_fetch_6 ?_
  refine lv_iconst (v := (0 : Int32)) hx hb d_M_fetch_7 (by decide) ?_
  obtain ⟨z3, hz3, hf⟩ := op_b hf
  refine cl_i X cw_M_47 hK hP hD hS hA hl (c_mo_load hz3) ⟨rfl, rfl, Nat.le_of_ble_eq_true rfl, Nat.le_of_ble_eq_true rfl⟩ 0 rfl rfl rfl rfl rfl (Nat.le_of_ble_eq_true rfl) d_M_fetch_8 (fun H locs hP hD hS => ?_)
  refine lv_istore_n hx hb d_M_fetch_11 rfl hl (by decide) rfl (fun ls hl => ?_)
  have hl : lv_has ls 2 [(1, .int z3.1), (0, .ref h0)] := hl
  refine lv_aload_n hx hb d_M_fetch_12 rfl (lv_at hl 1 rfl) ?_
  refine lv_iconst (v := (5 : Int32)) hx hb d_M_fetch_13 (by decide) ?_
  refine lv_aload_n hx hb d_M_fetch_14 rfl (lv_at hl 1 rfl) ?_
  refine mg_reg X hK hP d_M_fetch_15 ?_
  refine lv_iconst (v := (5 : Int32)) hx hb d_M_fetch_18 (by decide) ?_
  refine ma_rg (k := 5) X hK hP (in_b_vp (by decide)) (by decide) d_M_fetch_19 ?_
  refine lv_iconst (v := (1 : Int32)) hx hb d_M_fetch_20 (by decide) ?_
  refine lv_iadd hx hb d_M_fetch_21 ?_
  obtain ⟨z4, hz4, hf⟩ := op_b hf
  refine cl_v X cw_M_51 hK hP hD hS hA hl (c_mo_set hz4) ⟨rfl, rfl, Nat.le_of_ble_eq_true rfl, Nat.le_of_ble_eq_true rfl⟩ 0 rfl rfl rfl rfl rfl (Nat.le_of_ble_eq_true rfl) d_M_fetch_22 (fun H locs hP hD hS => ?_)
  refine lv_iload_n hx hb d_M_fetch_25 rfl (lv_at hl 0 rfl) ?_
  have hq := Option.some.inj hf
  subst hq
  exact rt_i (r := z3.1) X hr hlk hK rfl hP hD hS d_M_fetch_26
set_option maxHeartbeats 4000000 in
set_option maxRecDepth 100000 in
theorem c_mo_fetchWord  {z : Int32 × (Nat → Int32) × Int32} (hf : mo_fetchWord me rg sp = some z) : co_i l my_M_fetchWord mb_M_fetchWord 2 .int rm_m_fetchWord D (ty_ cI cT) [.ref h0] (mw_ h0 h1 h2 h3 h4 h5 h6 h7 cI me rg so sv tl su qu wa ru pe re pn lo se pa sp iv) (mw_ h0 h1 h2 h3 h4 h5 h6 h7 cI me z.2.1 so sv tl su qu wa ru pe re pn lo se pa z.2.2 iv) z.1 := by
  refine co_i_of (by decide) (Nat.le_of_ble_eq_true rfl) ?_
  intro p e s m below meth c A ls X hr hlk hK hP hD hS hA hl
  have hx := X.1
  have hb := X.2.1
  have hl : lv_has ls 2 [(0, .ref h0)] := hl
  unfold mo_fetchWord at hf
  refine lv_aload_n hx hb d_M_fetchWord_0 rfl (lv_at hl 0 rfl) ?_
  obtain ⟨z3, hz3, hf⟩ := op_b hf
  refine cl_i X cw_M_54 hK hP hD hS hA hl (c_mo_fetch hz3) ⟨rfl, rfl, Nat.le_of_ble_eq_true rfl, Nat.le_of_ble_eq_true rfl⟩ 0 rfl rfl rfl rfl rfl (Nat.le_of_ble_eq_true rfl) d_M_fetchWord_1 (fun H locs hP hD hS => ?_)
  refine lv_istore_n hx hb d_M_fetchWord_4 rfl hl (by decide) rfl (fun ls hl => ?_)
  have hl : lv_has ls 2 [(1, .int z3.1), (0, .ref h0)] := hl
  refine lv_sipush (v := (256 : Int32)) hx hb d_M_fetchWord_5 (by decide) ?_
  refine lv_iload_n hx hb d_M_fetchWord_8 rfl (lv_at hl 0 rfl) ?_
  refine lv_imul hx hb d_M_fetchWord_9 ?_
  refine lv_aload_n hx hb d_M_fetchWord_10 rfl (lv_at hl 1 rfl) ?_
  obtain ⟨z4, hz4, hf⟩ := op_b hf
  refine cl_i X cw_M_54 hK hP hD hS hA hl (c_mo_fetch hz4) ⟨rfl, rfl, Nat.le_of_ble_eq_true rfl, Nat.le_of_ble_eq_true rfl⟩ 0 rfl rfl rfl rfl rfl (Nat.le_of_ble_eq_true rfl) d_M_fetchWord_11 (fun H locs hP hD hS => ?_)
  refine lv_iadd hx hb d_M_fetchWord_14 ?_
  have hq := Option.some.inj hf
  subst hq
  exact rt_i (r := (((256 : Int32) * z3.1) + z4.1)) X hr hlk hK rfl hP hD hS d_M_fetchWord_15
set_option maxHeartbeats 4000000 in
set_option maxRecDepth 100000 in
theorem c_mo_push {x1 : Int32} {x2 : Int32} {z : (Nat → Int32) × (Nat → Int32) × Int32} (hf : mo_push x1 x2 me rg sp = some z) : co_v l my_M_push mb_M_push 4 rm_m_push D (ty_ cI cT) [.ref h0, .int x1, .int x2] (mw_ h0 h1 h2 h3 h4 h5 h6 h7 cI me rg so sv tl su qu wa ru pe re pn lo se pa sp iv) (mw_ h0 h1 h2 h3 h4 h5 h6 h7 cI z.1 z.2.1 so sv tl su qu wa ru pe re pn lo se pa z.2.2 iv) := by
  refine co_v_of (by decide) (Nat.le_of_ble_eq_true rfl) ?_
  intro p e s m below meth c A ls X hr hlk hK hP hD hS hA hl
  have hx := X.1
  have hb := X.2.1
  have hl : lv_has ls 4 [(0, .ref h0), (1, .int x1), (2, .int x2)] := hl
  have J29 : ∀ (v1 : Int32) (v2 : Int32) (v3 : Bool) (s0 : Int32) (s1 : Int32) (s2 : Int32) (me : Nat → Int32) (rg : Nat → Int32) (sp : Int32), mo_push_j29 v1 v2 v3 s0 s1 s2 me rg sp = some z → ∀ (H : Heap) (locs : List Loc) (ls : Array Slot), lv_has ls 4 [(0, .ref h0), (1, .int v1), (2, .int v2), (3, .int (bz_i v3))] → va_P D cz_all (mw_ h0 h1 h2 h3 h4 h5 h6 h7 cI me rg so sv tl su qu wa ru pe re pn lo se pa sp iv) H → va_D A (mw_ h0 h1 h2 h3 h4 h5 h6 h7 cI me rg so sv tl su qu wa ru pe re pn lo se pa sp iv) → va_S A s.heap H locs → W p l e rm_m_push s m ([.ref h0, .int x1, .int x2] : List Value).toArray below meth c H locs 0 0 (MQ below (qs_v D (ty_ cI cT) (mw_ h0 h1 h2 h3 h4 h5 h6 h7 cI z.1 z.2.1 so sv tl su qu wa ru pe re pn lo se pa z.2.2 iv) A) ([.ref h0, .int x1, .int x2] : List Value).toArray s 0 0 A) (F0 m 29 ls [.int s0, .int s1, .int s2, .ref h0]) := by
    intro v1 v2 v3 s0 s1 s2 me rg sp hf H locs ls hl hP hD hS
    unfold mo_push_j29 at hf
    refine lv_isub hx hb d_M_push_29 ?_
    obtain ⟨z11, hz11, hf⟩ := op_b hf
    refine cl_v X cw_M_51 hK hP hD hS hA hl (c_mo_set hz11) ⟨rfl, rfl, Nat.le_of_ble_eq_true rfl, Nat.le_of_ble_eq_true rfl⟩ 0 rfl rfl rfl rfl rfl (Nat.le_of_ble_eq_true rfl) d_M_push_30 (fun H locs hP hD hS => ?_)
    refine lv_aload_n hx hb d_M_push_33 rfl (lv_at hl 0 rfl) ?_
    refine lv_aload_n hx hb d_M_push_34 rfl (lv_at hl 0 rfl) ?_
    refine mg_reg X hK hP d_M_push_35 ?_
    refine lv_iload_n hx hb d_M_push_38 rfl (lv_at hl 1 rfl) ?_
    obtain ⟨hi12, hf⟩ := op_c hf
    refine ma_rg (k := (v1.toNatClampNeg)) X hK hP hi12 rfl d_M_push_39 ?_
    refine lv_aload_n hx hb d_M_push_40 rfl (lv_at hl 0 rfl) ?_
    refine mg_reg X hK hP d_M_push_41 ?_
    refine lv_iload_n hx hb d_M_push_44 rfl (lv_at hl 2 rfl) ?_
    obtain ⟨hi13, hf⟩ := op_c hf
    refine ma_rg (k := (v2.toNatClampNeg)) X hK hP hi13 rfl d_M_push_45 ?_
    refine lv_iload_n hx hb d_M_push_46 rfl (lv_at hl 3 rfl) ?_
    obtain ⟨z14, hz14, hf⟩ := op_b hf
    refine cl_v X cw_M_58 hK hP hD hS hA hl (c_mo_store hz14) ⟨rfl, rfl, Nat.le_of_ble_eq_true rfl, Nat.le_of_ble_eq_true rfl⟩ 0 rfl rfl rfl rfl rfl (Nat.le_of_ble_eq_true rfl) d_M_push_47 (fun H locs hP hD hS => ?_)
    have hq := Option.some.inj hf
    subst hq
    exact rt_v X hr hlk hK hP hD hS d_M_push_50
  have J11 : ∀ (v1 : Int32) (v2 : Int32) (s0 : Bool) (me : Nat → Int32) (rg : Nat → Int32) (sp : Int32), mo_push_j11 v1 v2 s0 me rg sp = some z → ∀ (H : Heap) (locs : List Loc) (ls : Array Slot), lv_has ls 4 [(0, .ref h0), (1, .int v1), (2, .int v2)] → va_P D cz_all (mw_ h0 h1 h2 h3 h4 h5 h6 h7 cI me rg so sv tl su qu wa ru pe re pn lo se pa sp iv) H → va_D A (mw_ h0 h1 h2 h3 h4 h5 h6 h7 cI me rg so sv tl su qu wa ru pe re pn lo se pa sp iv) → va_S A s.heap H locs → W p l e rm_m_push s m ([.ref h0, .int x1, .int x2] : List Value).toArray below meth c H locs 0 0 (MQ below (qs_v D (ty_ cI cT) (mw_ h0 h1 h2 h3 h4 h5 h6 h7 cI z.1 z.2.1 so sv tl su qu wa ru pe re pn lo se pa z.2.2 iv) A) ([.ref h0, .int x1, .int x2] : List Value).toArray s 0 0 A) (F0 m 11 ls [.int (bz_i s0)]) := by
    intro v1 v2 s0 me rg sp hf H locs ls hl hP hD hS
    unfold mo_push_j11 at hf
    refine lv_istore_n hx hb d_M_push_11 rfl hl (by decide) rfl (fun ls hl => ?_)
    have hl : lv_has ls 4 [(3, .int (bz_i s0)), (0, .ref h0), (1, .int v1), (2, .int v2)] := hl
    refine lv_aload_n hx hb d_M_push_12 rfl (lv_at hl 1 rfl) ?_
    refine lv_iload_n hx hb d_M_push_13 rfl (lv_at hl 2 rfl) ?_
    refine lv_aload_n hx hb d_M_push_14 rfl (lv_at hl 1 rfl) ?_
    refine mg_reg X hK hP d_M_push_15 ?_
    refine lv_iload_n hx hb d_M_push_18 rfl (lv_at hl 2 rfl) ?_
    obtain ⟨hi15, hf⟩ := op_c hf
    refine ma_rg (k := (v1.toNatClampNeg)) X hK hP hi15 rfl d_M_push_19 ?_
    refine lv_iload_n hx hb d_M_push_20 rfl (lv_at hl 0 rfl) ?_
    refine lv_if_eq (tgt := 28) hx hb d_M_push_21 (by decide) (fun hc => ?_) (fun hc => ?_)
    · replace hf := (if_pos hc).symm.trans hf
      refine lv_iconst (v := (1 : Int32)) hx hb d_M_push_28 (by decide) ?_
      exact J29 v1 v2 s0 (1 : Int32) (rg (v1.toNatClampNeg)) v1 me rg sp hf _ _ _ (lv_sub hl [1, 2, 3, 0] rfl) hP hD hS
    · replace hf := (if_neg hc).symm.trans hf
      refine lv_iconst (v := (2 : Int32)) hx hb d_M_push_24 (by decide) ?_
      refine lv_goto (tgt := 29) hx hb d_M_push_25 (by decide) ?_
      exact J29 v1 v2 s0 (2 : Int32) (rg (v1.toNatClampNeg)) v1 me rg sp hf _ _ _ (lv_sub hl [1, 2, 3, 0] rfl) hP hD hS
  unfold mo_push at hf
  refine lv_iload_n hx hb d_M_push_0 rfl (lv_at hl 2 rfl) ?_
  refine lv_bipush (v := (8 : Int32)) hx hb d_M_push_1 (by decide) ?_
  refine lv_icmp_ge (tgt := 10) hx hb d_M_push_3 (by decide) (fun hc => ?_) (fun hc => ?_)
  · replace hf := (if_pos hc).symm.trans hf
    refine lv_iconst (v := (0 : Int32)) hx hb d_M_push_10 (by decide) ?_
    exact J11 x1 x2 false me rg sp hf _ _ _ hl hP hD hS
  · replace hf := (if_neg hc).symm.trans hf
    refine lv_iconst (v := (1 : Int32)) hx hb d_M_push_6 (by decide) ?_
    refine lv_goto (tgt := 11) hx hb d_M_push_7 (by decide) ?_
    exact J11 x1 x2 true me rg sp hf _ _ _ hl hP hD hS
set_option maxHeartbeats 4000000 in
set_option maxRecDepth 100000 in
theorem c_mo_pull {x1 : Int32} {x2 : Int32} {z : (Nat → Int32) × Int32} (hf : mo_pull x1 x2 me rg sp = some z) : co_v l my_M_pull mb_M_pull 5 rm_m_pull D (ty_ cI cT) [.ref h0, .int x1, .int x2] (mw_ h0 h1 h2 h3 h4 h5 h6 h7 cI me rg so sv tl su qu wa ru pe re pn lo se pa sp iv) (mw_ h0 h1 h2 h3 h4 h5 h6 h7 cI me z.1 so sv tl su qu wa ru pe re pn lo se pa z.2 iv) := by
  refine co_v_of (by decide) (Nat.le_of_ble_eq_true rfl) ?_
  intro p e s m below meth c A ls X hr hlk hK hP hD hS hA hl
  have hx := X.1
  have hb := X.2.1
  have hl : lv_has ls 5 [(0, .ref h0), (1, .int x1), (2, .int x2)] := hl
  have J42 : ∀ (v2 : Int32) (v4 : Int32) (s0 : Int32) (s1 : Int32) (s2 : Int32) (me : Nat → Int32) (rg : Nat → Int32) (sp : Int32), mo_pull_j42 v2 v4 s0 s1 s2 me rg sp = some z → ∀ (H : Heap) (locs : List Loc) (ls : Array Slot), lv_has ls 5 [(0, .ref h0), (2, .int v2), (4, .int v4)] → va_P D cz_all (mw_ h0 h1 h2 h3 h4 h5 h6 h7 cI me rg so sv tl su qu wa ru pe re pn lo se pa sp iv) H → va_D A (mw_ h0 h1 h2 h3 h4 h5 h6 h7 cI me rg so sv tl su qu wa ru pe re pn lo se pa sp iv) → va_S A s.heap H locs → W p l e rm_m_pull s m ([.ref h0, .int x1, .int x2] : List Value).toArray below meth c H locs 0 0 (MQ below (qs_v D (ty_ cI cT) (mw_ h0 h1 h2 h3 h4 h5 h6 h7 cI me z.1 so sv tl su qu wa ru pe re pn lo se pa z.2 iv) A) ([.ref h0, .int x1, .int x2] : List Value).toArray s 0 0 A) (F0 m 42 ls [.int s0, .int s1, .int s2, .ref h0]) := by
    intro v2 v4 s0 s1 s2 me rg sp hf H locs ls hl hP hD hS
    unfold mo_pull_j42 at hf
    refine lv_iadd hx hb d_M_pull_42 ?_
    obtain ⟨z9, hz9, hf⟩ := op_b hf
    refine cl_v X cw_M_51 hK hP hD hS hA hl (c_mo_set hz9) ⟨rfl, rfl, Nat.le_of_ble_eq_true rfl, Nat.le_of_ble_eq_true rfl⟩ 0 rfl rfl rfl rfl rfl (Nat.le_of_ble_eq_true rfl) d_M_pull_43 (fun H locs hP hD hS => ?_)
    refine lv_aload_n hx hb d_M_pull_46 rfl (lv_at hl 0 rfl) ?_
    refine lv_iload_n hx hb d_M_pull_47 rfl (lv_at hl 1 rfl) ?_
    refine lv_iload hx hb d_M_pull_48 (lv_at hl 2 rfl) ?_
    obtain ⟨z10, hz10, hf⟩ := op_b hf
    refine cl_v X cw_M_51 hK hP hD hS hA hl (c_mo_set hz10) ⟨rfl, rfl, Nat.le_of_ble_eq_true rfl, Nat.le_of_ble_eq_true rfl⟩ 0 rfl rfl rfl rfl rfl (Nat.le_of_ble_eq_true rfl) d_M_pull_50 (fun H locs hP hD hS => ?_)
    have hq := Option.some.inj hf
    subst hq
    exact rt_v X hr hlk hK hP hD hS d_M_pull_53
  have J11 : ∀ (v1 : Int32) (v2 : Int32) (s0 : Bool) (me : Nat → Int32) (rg : Nat → Int32) (sp : Int32), mo_pull_j11 v1 v2 s0 me rg sp = some z → ∀ (H : Heap) (locs : List Loc) (ls : Array Slot), lv_has ls 5 [(0, .ref h0), (1, .int v1), (2, .int v2)] → va_P D cz_all (mw_ h0 h1 h2 h3 h4 h5 h6 h7 cI me rg so sv tl su qu wa ru pe re pn lo se pa sp iv) H → va_D A (mw_ h0 h1 h2 h3 h4 h5 h6 h7 cI me rg so sv tl su qu wa ru pe re pn lo se pa sp iv) → va_S A s.heap H locs → W p l e rm_m_pull s m ([.ref h0, .int x1, .int x2] : List Value).toArray below meth c H locs 0 0 (MQ below (qs_v D (ty_ cI cT) (mw_ h0 h1 h2 h3 h4 h5 h6 h7 cI me z.1 so sv tl su qu wa ru pe re pn lo se pa z.2 iv) A) ([.ref h0, .int x1, .int x2] : List Value).toArray s 0 0 A) (F0 m 11 ls [.int (bz_i s0)]) := by
    intro v1 v2 s0 me rg sp hf H locs ls hl hP hD hS
    unfold mo_pull_j11 at hf
    refine lv_istore_n hx hb d_M_pull_11 rfl hl (by decide) rfl (fun ls hl => ?_)
    have hl : lv_has ls 5 [(3, .int (bz_i s0)), (0, .ref h0), (1, .int v1), (2, .int v2)] := hl
    refine lv_aload_n hx hb d_M_pull_12 rfl (lv_at hl 1 rfl) ?_
    refine lv_aload_n hx hb d_M_pull_13 rfl (lv_at hl 1 rfl) ?_
    refine mg_reg X hK hP d_M_pull_14 ?_
    refine lv_iload_n hx hb d_M_pull_17 rfl (lv_at hl 2 rfl) ?_
    obtain ⟨hi11, hf⟩ := op_c hf
    refine ma_rg (k := (v1.toNatClampNeg)) X hK hP hi11 rfl d_M_pull_18 ?_
    refine lv_iload_n hx hb d_M_pull_19 rfl (lv_at hl 0 rfl) ?_
    obtain ⟨z12, hz12, hf⟩ := op_b hf
    refine cl_i X cw_M_47 hK hP hD hS hA hl (c_mo_load hz12) ⟨rfl, rfl, Nat.le_of_ble_eq_true rfl, Nat.le_of_ble_eq_true rfl⟩ 0 rfl rfl rfl rfl rfl (Nat.le_of_ble_eq_true rfl) d_M_pull_20 (fun H locs hP hD hS => ?_)
    refine lv_istore hx hb d_M_pull_23 hl (by decide) rfl (fun ls hl => ?_)
    have hl : lv_has ls 5 [(4, .int z12.1), (3, .int (bz_i s0)), (0, .ref h0), (1, .int v1), (2, .int v2)] := hl
    refine lv_aload_n hx hb d_M_pull_25 rfl (lv_at hl 2 rfl) ?_
    refine lv_iload_n hx hb d_M_pull_26 rfl (lv_at hl 3 rfl) ?_
    refine lv_aload_n hx hb d_M_pull_27 rfl (lv_at hl 2 rfl) ?_
    refine mg_reg X hK hP d_M_pull_28 ?_
    refine lv_iload_n hx hb d_M_pull_31 rfl (lv_at hl 3 rfl) ?_
    refine ma_rg (k := (v1.toNatClampNeg)) X hK hP hi11 rfl d_M_pull_32 ?_
    refine lv_iload_n hx hb d_M_pull_33 rfl (lv_at hl 1 rfl) ?_
    refine lv_if_eq (tgt := 41) hx hb d_M_pull_34 (by decide) (fun hc => ?_) (fun hc => ?_)
    · replace hf := (if_pos hc).symm.trans hf
      refine lv_iconst (v := (1 : Int32)) hx hb d_M_pull_41 (by decide) ?_
      exact J42 v2 z12.1 (1 : Int32) (rg (v1.toNatClampNeg)) v1 me rg z12.2 hf _ _ _ (lv_sub hl [2, 4, 0] rfl) hP hD hS
    · replace hf := (if_neg hc).symm.trans hf
      refine lv_iconst (v := (2 : Int32)) hx hb d_M_pull_37 (by decide) ?_
      refine lv_goto (tgt := 42) hx hb d_M_pull_38 (by decide) ?_
      exact J42 v2 z12.1 (2 : Int32) (rg (v1.toNatClampNeg)) v1 me rg z12.2 hf _ _ _ (lv_sub hl [2, 4, 0] rfl) hP hD hS
  unfold mo_pull at hf
  refine lv_iload_n hx hb d_M_pull_0 rfl (lv_at hl 2 rfl) ?_
  refine lv_bipush (v := (8 : Int32)) hx hb d_M_pull_1 (by decide) ?_
  refine lv_icmp_ge (tgt := 10) hx hb d_M_pull_3 (by decide) (fun hc => ?_) (fun hc => ?_)
  · replace hf := (if_pos hc).symm.trans hf
    refine lv_iconst (v := (0 : Int32)) hx hb d_M_pull_10 (by decide) ?_
    exact J11 x1 x2 false me rg sp hf _ _ _ hl hP hD hS
  · replace hf := (if_neg hc).symm.trans hf
    refine lv_iconst (v := (1 : Int32)) hx hb d_M_pull_6 (by decide) ?_
    refine lv_goto (tgt := 11) hx hb d_M_pull_7 (by decide) ?_
    exact J11 x1 x2 true me rg sp hf _ _ _ hl hP hD hS
set_option maxHeartbeats 4000000 in
set_option maxRecDepth 100000 in
theorem c_mo_flag {x1 : Int32} {z : Bool} (hf : mo_flag x1 rg = some z) : co_i l my_M_flag mb_M_flag 2 .boolean rm_m_flag D (ty_ cI cT) [.ref h0, .int x1] (mw_ h0 h1 h2 h3 h4 h5 h6 h7 cI me rg so sv tl su qu wa ru pe re pn lo se pa sp iv) (mw_ h0 h1 h2 h3 h4 h5 h6 h7 cI me rg so sv tl su qu wa ru pe re pn lo se pa sp iv) (bz_i z) := by
  refine co_i_of (by decide) (Nat.le_of_ble_eq_true rfl) ?_
  intro p e s m below meth c A ls X hr hlk hK hP hD hS hA hl
  have hx := X.1
  have hb := X.2.1
  have hl : lv_has ls 2 [(0, .ref h0), (1, .int x1)] := hl
  unfold mo_flag at hf
  refine lv_aload_n hx hb d_M_flag_0 rfl (lv_at hl 0 rfl) ?_
  refine mg_reg X hK hP d_M_flag_1 ?_
  refine lv_bipush (v := (10 : Int32)) hx hb d_M_flag_4 (by decide) ?_
  refine ma_rg (k := 10) X hK hP (in_b_vp (by decide)) (by decide) d_M_flag_6 ?_
  refine lv_iload_n hx hb d_M_flag_7 rfl (lv_at hl 1 rfl) ?_
  refine lv_iand hx hb d_M_flag_8 ?_
  refine lv_if_eq (tgt := 16) hx hb d_M_flag_9 (by decide) (fun hc => ?_) (fun hc => ?_)
  · replace hf := (if_pos hc).symm.trans hf
    refine lv_iconst (v := (0 : Int32)) hx hb d_M_flag_16 (by decide) ?_
    have hq := Option.some.inj hf
    subst hq
    exact rt_i (r := bz_i false) X hr hlk hK (bz_n _) hP hD hS d_M_flag_17
  · replace hf := (if_neg hc).symm.trans hf
    refine lv_iconst (v := (1 : Int32)) hx hb d_M_flag_12 (by decide) ?_
    refine lv_goto (tgt := 17) hx hb d_M_flag_13 (by decide) ?_
    have hq := Option.some.inj hf
    subst hq
    exact rt_i (r := bz_i true) X hr hlk hK (bz_n _) hP hD hS d_M_flag_17
set_option maxHeartbeats 4000000 in
set_option maxRecDepth 100000 in
theorem c_mo_mark {x1 : Int32} {x2 : Bool} {z : (Nat → Int32)} (hf : mo_mark x1 x2 rg = some z) : co_v l my_M_mark mb_M_mark 3 rm_m_mark D (ty_ cI cT) [.ref h0, .int x1, .int (bz_i x2)] (mw_ h0 h1 h2 h3 h4 h5 h6 h7 cI me rg so sv tl su qu wa ru pe re pn lo se pa sp iv) (mw_ h0 h1 h2 h3 h4 h5 h6 h7 cI me z so sv tl su qu wa ru pe re pn lo se pa sp iv) := by
  refine co_v_of (by decide) (Nat.le_of_ble_eq_true rfl) ?_
  intro p e s m below meth c A ls X hr hlk hK hP hD hS hA hl
  have hx := X.1
  have hb := X.2.1
  have hl : lv_has ls 3 [(0, .ref h0), (1, .int x1), (2, .int (bz_i x2))] := hl
  have J33 : ∀ (s0 : Int32) (rg : Nat → Int32), mo_mark_j33 s0 rg = some z → ∀ (H : Heap) (locs : List Loc) (ls : Array Slot), lv_has ls 3 [] → va_P D cz_all (mw_ h0 h1 h2 h3 h4 h5 h6 h7 cI me rg so sv tl su qu wa ru pe re pn lo se pa sp iv) H → va_D A (mw_ h0 h1 h2 h3 h4 h5 h6 h7 cI me rg so sv tl su qu wa ru pe re pn lo se pa sp iv) → va_S A s.heap H locs → W p l e rm_m_mark s m ([.ref h0, .int x1, .int (bz_i x2)] : List Value).toArray below meth c H locs 0 0 (MQ below (qs_v D (ty_ cI cT) (mw_ h0 h1 h2 h3 h4 h5 h6 h7 cI me z so sv tl su qu wa ru pe re pn lo se pa sp iv) A) ([.ref h0, .int x1, .int (bz_i x2)] : List Value).toArray s 0 0 A) (F0 m 33 ls [.int s0, .int (10 : Int32), .ref h2]) := by
    intro s0 rg hf H locs ls hl hP hD hS
    unfold mo_mark_j33 at hf
    refine ms_rg (k := 10) X hK hP hD hS (in_b_vp (by decide)) (by decide) d_M_mark_33 (fun H locs hP hD hS => ?_)
    have hq := Option.some.inj hf
    subst hq
    exact rt_v X hr hlk hK hP hD hS d_M_mark_34
  unfold mo_mark at hf
  refine lv_aload_n hx hb d_M_mark_0 rfl (lv_at hl 0 rfl) ?_
  refine mg_reg X hK hP d_M_mark_1 ?_
  refine lv_bipush (v := (10 : Int32)) hx hb d_M_mark_4 (by decide) ?_
  refine lv_iload_n hx hb d_M_mark_6 rfl (lv_at hl 2 rfl) ?_
  refine lv_if_eq (tgt := 22) hx hb d_M_mark_7 (by decide) (fun hc => ?_) (fun hc => ?_)
  · replace hf := (if_pos hc).symm.trans hf
    refine lv_aload_n hx hb d_M_mark_22 rfl (lv_at hl 0 rfl) ?_
    refine mg_reg X hK hP d_M_mark_23 ?_
    refine lv_bipush (v := (10 : Int32)) hx hb d_M_mark_26 (by decide) ?_
    refine ma_rg (k := 10) X hK hP (in_b_vp (by decide)) (by decide) d_M_mark_28 ?_
    refine lv_iload_n hx hb d_M_mark_29 rfl (lv_at hl 1 rfl) ?_
    refine lv_iconst (v := (-1 : Int32)) hx hb d_M_mark_30 (by decide) ?_
    refine lv_ixor hx hb d_M_mark_31 ?_
    refine lv_iand hx hb d_M_mark_32 ?_
    exact J33 ((rg 10) &&& (x1 ^^^ (-1 : Int32))) rg hf _ _ _ (lv_sub hl [] rfl) hP hD hS
  · replace hf := (if_neg hc).symm.trans hf
    refine lv_aload_n hx hb d_M_mark_10 rfl (lv_at hl 0 rfl) ?_
    refine mg_reg X hK hP d_M_mark_11 ?_
    refine lv_bipush (v := (10 : Int32)) hx hb d_M_mark_14 (by decide) ?_
    refine ma_rg (k := 10) X hK hP (in_b_vp (by decide)) (by decide) d_M_mark_16 ?_
    refine lv_iload_n hx hb d_M_mark_17 rfl (lv_at hl 1 rfl) ?_
    refine lv_ior hx hb d_M_mark_18 ?_
    refine lv_goto (tgt := 33) hx hb d_M_mark_19 (by decide) ?_
    exact J33 ((rg 10) ||| x1) rg hf _ _ _ (lv_sub hl [] rfl) hP hD hS
set_option maxHeartbeats 4000000 in
set_option maxRecDepth 100000 in
theorem c_mo_sign {x1 : Int32} {x2 : Int32} {z : (Nat → Int32)} (hf : mo_sign x1 x2 rg = some z) : co_v l my_M_sign mb_M_sign 3 rm_m_sign D (ty_ cI cT) [.ref h0, .int x1, .int x2] (mw_ h0 h1 h2 h3 h4 h5 h6 h7 cI me rg so sv tl su qu wa ru pe re pn lo se pa sp iv) (mw_ h0 h1 h2 h3 h4 h5 h6 h7 cI me z so sv tl su qu wa ru pe re pn lo se pa sp iv) := by
  refine co_v_of (by decide) (Nat.le_of_ble_eq_true rfl) ?_
  intro p e s m below meth c A ls X hr hlk hK hP hD hS hA hl
  have hx := X.1
  have hb := X.2.1
  have hl : lv_has ls 3 [(0, .ref h0), (1, .int x1), (2, .int x2)] := hl
  have J39 : ∀ (s0 : Bool) (rg : Nat → Int32), mo_sign_j39 s0 rg = some z → ∀ (H : Heap) (locs : List Loc) (ls : Array Slot), lv_has ls 3 [] → va_P D cz_all (mw_ h0 h1 h2 h3 h4 h5 h6 h7 cI me rg so sv tl su qu wa ru pe re pn lo se pa sp iv) H → va_D A (mw_ h0 h1 h2 h3 h4 h5 h6 h7 cI me rg so sv tl su qu wa ru pe re pn lo se pa sp iv) → va_S A s.heap H locs → W p l e rm_m_sign s m ([.ref h0, .int x1, .int x2] : List Value).toArray below meth c H locs 0 0 (MQ below (qs_v D (ty_ cI cT) (mw_ h0 h1 h2 h3 h4 h5 h6 h7 cI me z so sv tl su qu wa ru pe re pn lo se pa sp iv) A) ([.ref h0, .int x1, .int x2] : List Value).toArray s 0 0 A) (F0 m 39 ls [.int (bz_i s0), .int (4 : Int32), .ref h0]) := by
    intro s0 rg hf H locs ls hl hP hD hS
    unfold mo_sign_j39 at hf
    obtain ⟨z5, hz5, hf⟩ := op_b hf
    refine cl_v X cw_M_62 hK hP hD hS hA hl (c_mo_mark hz5) ⟨rfl, rfl, Nat.le_of_ble_eq_true rfl, Nat.le_of_ble_eq_true rfl⟩ 0 rfl rfl rfl rfl rfl (Nat.le_of_ble_eq_true rfl) d_M_sign_39 (fun H locs hP hD hS => ?_)
    have hq := Option.some.inj hf
    subst hq
    exact rt_v X hr hlk hK hP hD hS d_M_sign_42
  have J19 : ∀ (v1 : Int32) (v2 : Int32) (s0 : Bool) (rg : Nat → Int32), mo_sign_j19 v1 v2 s0 rg = some z → ∀ (H : Heap) (locs : List Loc) (ls : Array Slot), lv_has ls 3 [(0, .ref h0), (1, .int v1), (2, .int v2)] → va_P D cz_all (mw_ h0 h1 h2 h3 h4 h5 h6 h7 cI me rg so sv tl su qu wa ru pe re pn lo se pa sp iv) H → va_D A (mw_ h0 h1 h2 h3 h4 h5 h6 h7 cI me rg so sv tl su qu wa ru pe re pn lo se pa sp iv) → va_S A s.heap H locs → W p l e rm_m_sign s m ([.ref h0, .int x1, .int x2] : List Value).toArray below meth c H locs 0 0 (MQ below (qs_v D (ty_ cI cT) (mw_ h0 h1 h2 h3 h4 h5 h6 h7 cI me z so sv tl su qu wa ru pe re pn lo se pa sp iv) A) ([.ref h0, .int x1, .int x2] : List Value).toArray s 0 0 A) (F0 m 19 ls [.int (bz_i s0), .int (8 : Int32), .ref h0]) := by
    intro v1 v2 s0 rg hf H locs ls hl hP hD hS
    unfold mo_sign_j19 at hf
    obtain ⟨z6, hz6, hf⟩ := op_b hf
    refine cl_v X cw_M_62 hK hP hD hS hA hl (c_mo_mark hz6) ⟨rfl, rfl, Nat.le_of_ble_eq_true rfl, Nat.le_of_ble_eq_true rfl⟩ 0 rfl rfl rfl rfl rfl (Nat.le_of_ble_eq_true rfl) d_M_sign_19 (fun H locs hP hD hS => ?_)
    refine lv_aload_n hx hb d_M_sign_22 rfl (lv_at hl 0 rfl) ?_
    refine lv_iconst (v := (4 : Int32)) hx hb d_M_sign_23 (by decide) ?_
    refine lv_iload_n hx hb d_M_sign_24 rfl (lv_at hl 1 rfl) ?_
    refine lv_iconst (v := (1 : Int32)) hx hb d_M_sign_25 (by decide) ?_
    refine lv_iload_n hx hb d_M_sign_26 rfl (lv_at hl 2 rfl) ?_
    refine lv_ishl hx hb d_M_sign_27 ?_
    refine lv_iconst (v := (1 : Int32)) hx hb d_M_sign_28 (by decide) ?_
    refine lv_isub hx hb d_M_sign_29 ?_
    refine lv_iand hx hb d_M_sign_30 ?_
    refine lv_if_ne (tgt := 38) hx hb d_M_sign_31 (by decide) (fun hc => ?_) (fun hc => ?_)
    · replace hf := (if_neg hc).symm.trans hf
      refine lv_iconst (v := (0 : Int32)) hx hb d_M_sign_38 (by decide) ?_
      exact J39 false z6 hf _ _ _ (lv_sub hl [] rfl) hP hD hS
    · replace hf := (if_pos hc).symm.trans hf
      refine lv_iconst (v := (1 : Int32)) hx hb d_M_sign_34 (by decide) ?_
      refine lv_goto (tgt := 39) hx hb d_M_sign_35 (by decide) ?_
      exact J39 true z6 hf _ _ _ (lv_sub hl [] rfl) hP hD hS
  unfold mo_sign at hf
  refine lv_aload_n hx hb d_M_sign_0 rfl (lv_at hl 0 rfl) ?_
  refine lv_bipush (v := (8 : Int32)) hx hb d_M_sign_1 (by decide) ?_
  refine lv_iload_n hx hb d_M_sign_3 rfl (lv_at hl 1 rfl) ?_
  refine lv_iload_n hx hb d_M_sign_4 rfl (lv_at hl 2 rfl) ?_
  refine lv_iconst (v := (1 : Int32)) hx hb d_M_sign_5 (by decide) ?_
  refine lv_isub hx hb d_M_sign_6 ?_
  refine lv_ishr hx hb d_M_sign_7 ?_
  refine lv_iconst (v := (1 : Int32)) hx hb d_M_sign_8 (by decide) ?_
  refine lv_iand hx hb d_M_sign_9 ?_
  refine lv_iconst (v := (1 : Int32)) hx hb d_M_sign_10 (by decide) ?_
  refine lv_icmp_ne (tgt := 18) hx hb d_M_sign_11 (by decide) (fun hc => ?_) (fun hc => ?_)
  · replace hf := (if_neg hc).symm.trans hf
    refine lv_iconst (v := (0 : Int32)) hx hb d_M_sign_18 (by decide) ?_
    exact J19 x1 x2 false rg hf _ _ _ hl hP hD hS
  · replace hf := (if_pos hc).symm.trans hf
    refine lv_iconst (v := (1 : Int32)) hx hb d_M_sign_14 (by decide) ?_
    refine lv_goto (tgt := 19) hx hb d_M_sign_15 (by decide) ?_
    exact J19 x1 x2 true rg hf _ _ _ hl hP hD hS
set_option maxHeartbeats 4000000 in
set_option maxRecDepth 100000 in
theorem c_mo_plain {x1 : Int32} {x2 : Int32} {z : Int32 × (Nat → Int32)} (hf : mo_plain x1 x2 rg = some z) : co_i l my_M_plain mb_M_plain 3 .int rm_m_plain D (ty_ cI cT) [.ref h0, .int x1, .int x2] (mw_ h0 h1 h2 h3 h4 h5 h6 h7 cI me rg so sv tl su qu wa ru pe re pn lo se pa sp iv) (mw_ h0 h1 h2 h3 h4 h5 h6 h7 cI me z.2 so sv tl su qu wa ru pe re pn lo se pa sp iv) z.1 := by
  refine co_i_of (by decide) (Nat.le_of_ble_eq_true rfl) ?_
  intro p e s m below meth c A ls X hr hlk hK hP hD hS hA hl
  have hx := X.1
  have hb := X.2.1
  have hl : lv_has ls 3 [(0, .ref h0), (1, .int x1), (2, .int x2)] := hl
  unfold mo_plain at hf
  refine lv_aload_n hx hb d_M_plain_0 rfl (lv_at hl 0 rfl) ?_
  refine lv_iload_n hx hb d_M_plain_1 rfl (lv_at hl 1 rfl) ?_
  refine lv_iload_n hx hb d_M_plain_2 rfl (lv_at hl 2 rfl) ?_
  obtain ⟨z3, hz3, hf⟩ := op_b hf
  refine cl_v X cw_M_66 hK hP hD hS hA hl (c_mo_sign hz3) ⟨rfl, rfl, Nat.le_of_ble_eq_true rfl, Nat.le_of_ble_eq_true rfl⟩ 0 rfl rfl rfl rfl rfl (Nat.le_of_ble_eq_true rfl) d_M_plain_3 (fun H locs hP hD hS => ?_)
  refine lv_aload_n hx hb d_M_plain_6 rfl (lv_at hl 0 rfl) ?_
  refine lv_iconst (v := (2 : Int32)) hx hb d_M_plain_7 (by decide) ?_
  refine lv_iconst (v := (0 : Int32)) hx hb d_M_plain_8 (by decide) ?_
  obtain ⟨z4, hz4, hf⟩ := op_b hf
  refine cl_v X cw_M_62 hK hP hD hS hA hl (c_mo_mark hz4) ⟨rfl, rfl, Nat.le_of_ble_eq_true rfl, Nat.le_of_ble_eq_true rfl⟩ 0 rfl rfl rfl rfl rfl (Nat.le_of_ble_eq_true rfl) d_M_plain_9 (fun H locs hP hD hS => ?_)
  refine lv_iload_n hx hb d_M_plain_12 rfl (lv_at hl 1 rfl) ?_
  have hq := Option.some.inj hf
  subst hq
  exact rt_i (r := x1) X hr hlk hK rfl hP hD hS d_M_plain_13
set_option maxHeartbeats 4000000 in
set_option maxRecDepth 100000 in
theorem c_mo_number {x1 : Int32} {x2 : Int32} {z : Int32} (hf : mo_number x1 x2 = some z) : co_i l my_M_number mb_M_number 2 .int rm_m_number D (ty_ cI cT) [.int x1, .int x2] (mw_ h0 h1 h2 h3 h4 h5 h6 h7 cI me rg so sv tl su qu wa ru pe re pn lo se pa sp iv) (mw_ h0 h1 h2 h3 h4 h5 h6 h7 cI me rg so sv tl su qu wa ru pe re pn lo se pa sp iv) z := by
  refine co_i_of (by decide) (Nat.le_of_ble_eq_true rfl) ?_
  intro p e s m below meth c A ls X hr hlk hK hP hD hS hA hl
  have hx := X.1
  have hb := X.2.1
  have hl : lv_has ls 2 [(0, .int x1), (1, .int x2)] := hl
  unfold mo_number at hf
  refine lv_iload_n hx hb d_M_number_0 rfl (lv_at hl 0 rfl) ?_
  refine lv_iload_n hx hb d_M_number_1 rfl (lv_at hl 1 rfl) ?_
  refine lv_iconst (v := (1 : Int32)) hx hb d_M_number_2 (by decide) ?_
  refine lv_isub hx hb d_M_number_3 ?_
  refine lv_ishr hx hb d_M_number_4 ?_
  refine lv_if_ne (tgt := 12) hx hb d_M_number_5 (by decide) (fun hc => ?_) (fun hc => ?_)
  · replace hf := (if_neg hc).symm.trans hf
    refine lv_iload_n hx hb d_M_number_12 rfl (lv_at hl 0 rfl) ?_
    refine lv_iconst (v := (1 : Int32)) hx hb d_M_number_13 (by decide) ?_
    refine lv_iload_n hx hb d_M_number_14 rfl (lv_at hl 1 rfl) ?_
    refine lv_ishl hx hb d_M_number_15 ?_
    refine lv_isub hx hb d_M_number_16 ?_
    have hq := Option.some.inj hf
    subst hq
    exact rt_i (r := (x1 - ((1 : Int32) <<< (x2 &&& 31)))) X hr hlk hK rfl hP hD hS d_M_number_17
  · replace hf := (if_pos hc).symm.trans hf
    refine lv_iload_n hx hb d_M_number_8 rfl (lv_at hl 0 rfl) ?_
    refine lv_goto (tgt := 17) hx hb d_M_number_9 (by decide) ?_
    have hq := Option.some.inj hf
    subst hq
    exact rt_i (r := x1) X hr hlk hK rfl hP hD hS d_M_number_17
set_option maxHeartbeats 4000000 in
set_option maxRecDepth 100000 in
theorem c_mo_sum {x1 : Int32} {x2 : Int32} {x3 : Int32} {x4 : Int32} {z : Int32 × (Nat → Int32)} (hf : mo_sum x1 x2 x3 x4 rg = some z) : co_i l my_M_sum mb_M_sum 8 .int rm_m_sum D (ty_ cI cT) [.ref h0, .int x1, .int x2, .int x3, .int x4] (mw_ h0 h1 h2 h3 h4 h5 h6 h7 cI me rg so sv tl su qu wa ru pe re pn lo se pa sp iv) (mw_ h0 h1 h2 h3 h4 h5 h6 h7 cI me z.2 so sv tl su qu wa ru pe re pn lo se pa sp iv) z.1 := by
  refine co_i_of (by decide) (Nat.le_of_ble_eq_true rfl) ?_
  intro p e s m below meth c A ls X hr hlk hK hP hD hS hA hl
  have hx := X.1
  have hb := X.2.1
  have hl : lv_has ls 8 [(0, .ref h0), (1, .int x1), (2, .int x2), (3, .int x3), (4, .int x4)] := hl
  have J87 : ∀ (v7 : Int32) (s0 : Bool) (rg : Nat → Int32), mo_sum_j87 v7 s0 rg = some z → ∀ (H : Heap) (locs : List Loc) (ls : Array Slot), lv_has ls 8 [(7, .int v7)] → va_P D cz_all (mw_ h0 h1 h2 h3 h4 h5 h6 h7 cI me rg so sv tl su qu wa ru pe re pn lo se pa sp iv) H → va_D A (mw_ h0 h1 h2 h3 h4 h5 h6 h7 cI me rg so sv tl su qu wa ru pe re pn lo se pa sp iv) → va_S A s.heap H locs → W p l e rm_m_sum s m ([.ref h0, .int x1, .int x2, .int x3, .int x4] : List Value).toArray below meth c H locs 0 0 (MQ below (qs_i D (ty_ cI cT) (mw_ h0 h1 h2 h3 h4 h5 h6 h7 cI me z.2 so sv tl su qu wa ru pe re pn lo se pa sp iv) z.1 A) ([.ref h0, .int x1, .int x2, .int x3, .int x4] : List Value).toArray s 0 0 A) (F0 m 87 ls [.int (bz_i s0), .int (2 : Int32), .ref h0]) := by
    intro v7 s0 rg hf H locs ls hl hP hD hS
    unfold mo_sum_j87 at hf
    obtain ⟨z9, hz9, hf⟩ := op_b hf
    refine cl_v X cw_M_62 hK hP hD hS hA hl (c_mo_mark hz9) ⟨rfl, rfl, Nat.le_of_ble_eq_true rfl, Nat.le_of_ble_eq_true rfl⟩ 0 rfl rfl rfl rfl rfl (Nat.le_of_ble_eq_true rfl) d_M_sum_87 (fun H locs hP hD hS => ?_)
    refine lv_iload hx hb d_M_sum_90 (lv_at hl 0 rfl) ?_
    have hq := Option.some.inj hf
    subst hq
    exact rt_i (r := v7) X hr hlk hK rfl hP hD hS d_M_sum_92
  have J82 : ∀ (v7 : Int32) (rg : Nat → Int32), mo_sum_j82 v7 rg = some z → ∀ (H : Heap) (locs : List Loc) (ls : Array Slot), lv_has ls 8 [(7, .int v7)] → va_P D cz_all (mw_ h0 h1 h2 h3 h4 h5 h6 h7 cI me rg so sv tl su qu wa ru pe re pn lo se pa sp iv) H → va_D A (mw_ h0 h1 h2 h3 h4 h5 h6 h7 cI me rg so sv tl su qu wa ru pe re pn lo se pa sp iv) → va_S A s.heap H locs → W p l e rm_m_sum s m ([.ref h0, .int x1, .int x2, .int x3, .int x4] : List Value).toArray below meth c H locs 0 0 (MQ below (qs_i D (ty_ cI cT) (mw_ h0 h1 h2 h3 h4 h5 h6 h7 cI me z.2 so sv tl su qu wa ru pe re pn lo se pa sp iv) z.1 A) ([.ref h0, .int x1, .int x2, .int x3, .int x4] : List Value).toArray s 0 0 A) (F0 m 82 ls [.int (2 : Int32), .ref h0]) := by
    intro v7 rg hf H locs ls hl hP hD hS
    unfold mo_sum_j82 at hf
    refine lv_iconst (v := (1 : Int32)) hx hb d_M_sum_82 (by decide) ?_
    refine lv_goto (tgt := 87) hx hb d_M_sum_83 (by decide) ?_
    exact J87 v7 true rg hf _ _ _ hl hP hD hS
  have J58 : ∀ (v5 : Int32) (v6 : Int32) (v7 : Int32) (s0 : Bool) (rg : Nat → Int32), mo_sum_j58 v5 v6 v7 s0 rg = some z → ∀ (H : Heap) (locs : List Loc) (ls : Array Slot), lv_has ls 8 [(0, .ref h0), (5, .int v5), (6, .int v6), (7, .int v7)] → va_P D cz_all (mw_ h0 h1 h2 h3 h4 h5 h6 h7 cI me rg so sv tl su qu wa ru pe re pn lo se pa sp iv) H → va_D A (mw_ h0 h1 h2 h3 h4 h5 h6 h7 cI me rg so sv tl su qu wa ru pe re pn lo se pa sp iv) → va_S A s.heap H locs → W p l e rm_m_sum s m ([.ref h0, .int x1, .int x2, .int x3, .int x4] : List Value).toArray below meth c H locs 0 0 (MQ below (qs_i D (ty_ cI cT) (mw_ h0 h1 h2 h3 h4 h5 h6 h7 cI me z.2 so sv tl su qu wa ru pe re pn lo se pa sp iv) z.1 A) ([.ref h0, .int x1, .int x2, .int x3, .int x4] : List Value).toArray s 0 0 A) (F0 m 58 ls [.int (bz_i s0), .int (1 : Int32), .ref h0]) := by
    intro v5 v6 v7 s0 rg hf H locs ls hl hP hD hS
    unfold mo_sum_j58 at hf
    obtain ⟨z10, hz10, hf⟩ := op_b hf
    refine cl_v X cw_M_62 hK hP hD hS hA hl (c_mo_mark hz10) ⟨rfl, rfl, Nat.le_of_ble_eq_true rfl, Nat.le_of_ble_eq_true rfl⟩ 0 rfl rfl rfl rfl rfl (Nat.le_of_ble_eq_true rfl) d_M_sum_58 (fun H locs hP hD hS => ?_)
    refine lv_aload_n hx hb d_M_sum_61 rfl (lv_at hl 0 rfl) ?_
    refine lv_iconst (v := (2 : Int32)) hx hb d_M_sum_62 (by decide) ?_
    refine lv_iload hx hb d_M_sum_63 (lv_at hl 2 rfl) ?_
    refine lv_iload hx hb d_M_sum_65 (lv_at hl 1 rfl) ?_
    refine lv_ineg hx hb d_M_sum_67 ?_
    refine lv_iconst (v := (2 : Int32)) hx hb d_M_sum_68 (by decide) ?_
    refine lv_idiv hx hb d_M_sum_69 (by decide) ?_
    refine lv_icmp_lt (tgt := 82) hx hb d_M_sum_70 (by decide) (fun hc => ?_) (fun hc => ?_)
    · replace hf := (if_pos hc).symm.trans hf
      exact J82 v7 z10 hf _ _ _ (lv_sub hl [3] rfl) hP hD hS
    · replace hf := (if_neg hc).symm.trans hf
      refine lv_iload hx hb d_M_sum_73 (lv_at hl 2 rfl) ?_
      refine lv_iload hx hb d_M_sum_75 (lv_at hl 1 rfl) ?_
      refine lv_iconst (v := (2 : Int32)) hx hb d_M_sum_77 (by decide) ?_
      refine lv_idiv hx hb d_M_sum_78 (by decide) ?_
      refine lv_icmp_lt (tgt := 86) hx hb d_M_sum_79 (by decide) (fun hc => ?_) (fun hc => ?_)
      · replace hf := (if_pos hc).symm.trans hf
        refine lv_iconst (v := (0 : Int32)) hx hb d_M_sum_86 (by decide) ?_
        exact J87 v7 false z10 hf _ _ _ (lv_sub hl [3] rfl) hP hD hS
      · replace hf := (if_neg hc).symm.trans hf
        exact J82 v7 z10 hf _ _ _ (lv_sub hl [3] rfl) hP hD hS
  unfold mo_sum at hf
  refine lv_iconst (v := (1 : Int32)) hx hb d_M_sum_0 (by decide) ?_
  refine lv_iload hx hb d_M_sum_1 (lv_at hl 4 rfl) ?_
  refine lv_ishl hx hb d_M_sum_3 ?_
  refine lv_istore hx hb d_M_sum_4 hl (by decide) rfl (fun ls hl => ?_)
  have hl : lv_has ls 8 [(5, .int ((1 : Int32) <<< (x4 &&& 31))), (0, .ref h0), (1, .int x1), (2, .int x2), (3, .int x3), (4, .int x4)] := hl
  refine lv_iload_n hx hb d_M_sum_6 rfl (lv_at hl 2 rfl) ?_
  refine lv_iload hx hb d_M_sum_7 (lv_at hl 5 rfl) ?_
  obtain ⟨z11, hz11, hf⟩ := op_b hf
  refine cl_si X cw_M_69 hK hP hD hS hA hl (c_mo_number hz11) ⟨rfl, rfl, Nat.le_of_ble_eq_true rfl, Nat.le_of_ble_eq_true rfl⟩ rfl rfl (Nat.le_of_ble_eq_true rfl) d_M_sum_9 (fun H locs hP hD hS => ?_)
  refine lv_iload_n hx hb d_M_sum_12 rfl (lv_at hl 3 rfl) ?_
  refine lv_iload hx hb d_M_sum_13 (lv_at hl 5 rfl) ?_
  obtain ⟨z12, hz12, hf⟩ := op_b hf
  refine cl_si X cw_M_69 hK hP hD hS hA hl (c_mo_number hz12) ⟨rfl, rfl, Nat.le_of_ble_eq_true rfl, Nat.le_of_ble_eq_true rfl⟩ rfl rfl (Nat.le_of_ble_eq_true rfl) d_M_sum_15 (fun H locs hP hD hS => ?_)
  refine lv_iadd hx hb d_M_sum_18 ?_
  refine lv_iload_n hx hb d_M_sum_19 rfl (lv_at hl 4 rfl) ?_
  refine lv_iadd hx hb d_M_sum_20 ?_
  refine lv_istore hx hb d_M_sum_21 hl (by decide) rfl (fun ls hl => ?_)
  have hl : lv_has ls 8 [(6, .int ((z11 + z12) + x3)), (5, .int ((1 : Int32) <<< (x4 &&& 31))), (0, .ref h0), (1, .int x1), (2, .int x2), (3, .int x3), (4, .int x4)] := hl
  refine lv_iload_n hx hb d_M_sum_23 rfl (lv_at hl 3 rfl) ?_
  refine lv_iload_n hx hb d_M_sum_24 rfl (lv_at hl 4 rfl) ?_
  refine lv_iadd hx hb d_M_sum_25 ?_
  refine lv_iload_n hx hb d_M_sum_26 rfl (lv_at hl 5 rfl) ?_
  refine lv_iadd hx hb d_M_sum_27 ?_
  refine lv_iload hx hb d_M_sum_28 (lv_at hl 1 rfl) ?_
  obtain ⟨hz13, hf⟩ := op_z hf
  refine lv_irem hx hb d_M_sum_30 hz13 ?_
  refine lv_istore hx hb d_M_sum_31 hl (by decide) rfl (fun ls hl => ?_)
  have hl : lv_has ls 8 [(7, .int (((x1 + x2) + x3) - ((x1 + x2) + x3) / ((1 : Int32) <<< (x4 &&& 31)) * ((1 : Int32) <<< (x4 &&& 31)))), (6, .int ((z11 + z12) + x3)), (5, .int ((1 : Int32) <<< (x4 &&& 31))), (0, .ref h0), (1, .int x1), (2, .int x2), (3, .int x3), (4, .int x4)] := hl
  refine lv_aload_n hx hb d_M_sum_33 rfl (lv_at hl 3 rfl) ?_
  refine lv_iload hx hb d_M_sum_34 (lv_at hl 0 rfl) ?_
  refine lv_iload hx hb d_M_sum_36 (lv_at hl 7 rfl) ?_
  obtain ⟨z14, hz14, hf⟩ := op_b hf
  refine cl_v X cw_M_66 hK hP hD hS hA hl (c_mo_sign hz14) ⟨rfl, rfl, Nat.le_of_ble_eq_true rfl, Nat.le_of_ble_eq_true rfl⟩ 0 rfl rfl rfl rfl rfl (Nat.le_of_ble_eq_true rfl) d_M_sum_38 (fun H locs hP hD hS => ?_)
  refine lv_aload_n hx hb d_M_sum_41 rfl (lv_at hl 3 rfl) ?_
  refine lv_iconst (v := (1 : Int32)) hx hb d_M_sum_42 (by decide) ?_
  refine lv_iload_n hx hb d_M_sum_43 rfl (lv_at hl 4 rfl) ?_
  refine lv_iload_n hx hb d_M_sum_44 rfl (lv_at hl 5 rfl) ?_
  refine lv_iadd hx hb d_M_sum_45 ?_
  refine lv_iload_n hx hb d_M_sum_46 rfl (lv_at hl 6 rfl) ?_
  refine lv_iadd hx hb d_M_sum_47 ?_
  refine lv_iload hx hb d_M_sum_48 (lv_at hl 2 rfl) ?_
  refine lv_icmp_lt (tgt := 57) hx hb d_M_sum_50 (by decide) (fun hc => ?_) (fun hc => ?_)
  · replace hf := (if_pos hc).symm.trans hf
    refine lv_iconst (v := (0 : Int32)) hx hb d_M_sum_57 (by decide) ?_
    exact J58 ((1 : Int32) <<< (x4 &&& 31)) ((z11 + z12) + x3) (((x1 + x2) + x3) - ((x1 + x2) + x3) / ((1 : Int32) <<< (x4 &&& 31)) * ((1 : Int32) <<< (x4 &&& 31))) false z14 hf _ _ _ (lv_sub hl [3, 2, 1, 0] rfl) hP hD hS
  · replace hf := (if_neg hc).symm.trans hf
    refine lv_iconst (v := (1 : Int32)) hx hb d_M_sum_53 (by decide) ?_
    refine lv_goto (tgt := 58) hx hb d_M_sum_54 (by decide) ?_
    exact J58 ((1 : Int32) <<< (x4 &&& 31)) ((z11 + z12) + x3) (((x1 + x2) + x3) - ((x1 + x2) + x3) / ((1 : Int32) <<< (x4 &&& 31)) * ((1 : Int32) <<< (x4 &&& 31))) true z14 hf _ _ _ (lv_sub hl [3, 2, 1, 0] rfl) hP hD hS
end MODEL

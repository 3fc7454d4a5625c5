theorem d_M_instruction_0 : decode mb_M_instruction 0 = .ok (.aload_n 0, 1) := by decide +kernel
theorem d_M_instruction_1 : decode mb_M_instruction 1 = .ok (.iconst 0, 1) := by decide +kernel
theorem d_M_instruction_2 : decode mb_M_instruction 2 = .ok (.putfield 36, 3) := by decide +kernel
theorem d_M_instruction_5 : decode mb_M_instruction 5 = .ok (.aload_n 0, 1) := by decide +kernel
theorem d_M_instruction_6 : decode mb_M_instruction 6 = .ok (.iconst 0, 1) := by decide +kernel
theorem d_M_instruction_7 : decode mb_M_instruction 7 = .ok (.putfield 76, 3) := by decide +kernel
theorem d_M_instruction_10 : decode mb_M_instruction 10 = .ok (.aload_n 0, 1) := by decide +kernel
theorem d_M_instruction_11 : decode mb_M_instruction 11 = .ok (.getfield 31, 3) := by decide +kernel
theorem d_M_instruction_14 : decode mb_M_instruction 14 = .ok (.istore_n 1, 1) := by decide +kernel
theorem d_M_instruction_15 : decode mb_M_instruction 15 = .ok (.aload_n 0, 1) := by decide +kernel
theorem d_M_instruction_16 : decode mb_M_instruction 16 = .ok (.invokevirtual 54, 3) := by decide +kernel
theorem d_M_instruction_19 : decode mb_M_instruction 19 = .ok (.istore_n 2, 1) := by decide +kernel
theorem d_M_instruction_20 : decode mb_M_instruction 20 = .ok (.iload_n 2, 1) := by decide +kernel
theorem d_M_instruction_21 : decode mb_M_instruction 21 = .ok (.iconst 4, 1) := by decide +kernel
theorem d_M_instruction_22 : decode mb_M_instruction 22 = .ok (.ishr, 1) := by decide +kernel
theorem d_M_instruction_23 : decode mb_M_instruction 23 = .ok (.istore_n 3, 1) := by decide +kernel
theorem d_M_instruction_24 : decode mb_M_instruction 24 = .ok (.iload_n 2, 1) := by decide +kernel
theorem d_M_instruction_25 : decode mb_M_instruction 25 = .ok (.sipush 128, 3) := by decide +kernel
theorem d_M_instruction_28 : decode mb_M_instruction 28 = .ok (.if_icmp .lt 11, 3) := by decide +kernel
theorem d_M_instruction_31 : decode mb_M_instruction 31 = .ok (.aload_n 0, 1) := by decide +kernel
theorem d_M_instruction_32 : decode mb_M_instruction 32 = .ok (.iload_n 2, 1) := by decide +kernel
theorem d_M_instruction_33 : decode mb_M_instruction 33 = .ok (.invokevirtual 149, 3) := by decide +kernel
theorem d_M_instruction_36 : decode mb_M_instruction 36 = .ok (.goto 52, 3) := by decide +kernel
theorem d_M_instruction_39 : decode mb_M_instruction 39 = .ok (.iload_n 2, 1) := by decide +kernel
theorem d_M_instruction_40 : decode mb_M_instruction 40 = .ok (.bipush 16, 2) := by decide +kernel
theorem d_M_instruction_42 : decode mb_M_instruction 42 = .ok (.if_icmp .ne 10, 3) := by decide +kernel
theorem d_M_instruction_45 : decode mb_M_instruction 45 = .ok (.aload_n 0, 1) := by decide +kernel
theorem d_M_instruction_46 : decode mb_M_instruction 46 = .ok (.invokevirtual 152, 3) := by decide +kernel
theorem d_M_instruction_49 : decode mb_M_instruction 49 = .ok (.goto 39, 3) := by decide +kernel
theorem d_M_instruction_52 : decode mb_M_instruction 52 = .ok (.iload_n 3, 1) := by decide +kernel
theorem d_M_instruction_53 : decode mb_M_instruction 53 = .ok (.iconst 2, 1) := by decide +kernel
theorem d_M_instruction_54 : decode mb_M_instruction 54 = .ok (.if_icmp .ne 11, 3) := by decide +kernel
theorem d_M_instruction_57 : decode mb_M_instruction 57 = .ok (.aload_n 0, 1) := by decide +kernel
theorem d_M_instruction_58 : decode mb_M_instruction 58 = .ok (.iload_n 2, 1) := by decide +kernel
theorem d_M_instruction_59 : decode mb_M_instruction 59 = .ok (.invokevirtual 155, 3) := by decide +kernel
theorem d_M_instruction_62 : decode mb_M_instruction 62 = .ok (.goto 26, 3) := by decide +kernel
theorem d_M_instruction_65 : decode mb_M_instruction 65 = .ok (.iload_n 3, 1) := by decide +kernel
theorem d_M_instruction_66 : decode mb_M_instruction 66 = .ok (.iconst 1, 1) := by decide +kernel
theorem d_M_instruction_67 : decode mb_M_instruction 67 = .ok (.if_icmp .eq 8, 3) := by decide +kernel
theorem d_M_instruction_70 : decode mb_M_instruction 70 = .ok (.iload_n 3, 1) := by decide +kernel
theorem d_M_instruction_71 : decode mb_M_instruction 71 = .ok (.iconst 3, 1) := by decide +kernel
theorem d_M_instruction_72 : decode mb_M_instruction 72 = .ok (.if_icmp .ne 11, 3) := by decide +kernel
theorem d_M_instruction_75 : decode mb_M_instruction 75 = .ok (.aload_n 0, 1) := by decide +kernel
theorem d_M_instruction_76 : decode mb_M_instruction 76 = .ok (.iload_n 2, 1) := by decide +kernel
theorem d_M_instruction_77 : decode mb_M_instruction 77 = .ok (.invokevirtual 158, 3) := by decide +kernel
theorem d_M_instruction_80 : decode mb_M_instruction 80 = .ok (.goto 8, 3) := by decide +kernel
theorem d_M_instruction_83 : decode mb_M_instruction 83 = .ok (.aload_n 0, 1) := by decide +kernel
theorem d_M_instruction_84 : decode mb_M_instruction 84 = .ok (.iload_n 2, 1) := by decide +kernel
theorem d_M_instruction_85 : decode mb_M_instruction 85 = .ok (.invokevirtual 161, 3) := by decide +kernel
theorem d_M_instruction_88 : decode mb_M_instruction 88 = .ok (.aload_n 0, 1) := by decide +kernel
theorem d_M_instruction_89 : decode mb_M_instruction 89 = .ok (.getfield 76, 3) := by decide +kernel
theorem d_M_instruction_92 : decode mb_M_instruction 92 = .ok (.ifCond .eq 16, 3) := by decide +kernel
theorem d_M_instruction_95 : decode mb_M_instruction 95 = .ok (.aload_n 0, 1) := by decide +kernel
theorem d_M_instruction_96 : decode mb_M_instruction 96 = .ok (.iconst 1, 1) := by decide +kernel
theorem d_M_instruction_97 : decode mb_M_instruction 97 = .ok (.putfield 36, 3) := by decide +kernel
theorem d_M_instruction_100 : decode mb_M_instruction 100 = .ok (.aload_n 0, 1) := by decide +kernel
theorem d_M_instruction_101 : decode mb_M_instruction 101 = .ok (.iload_n 1, 1) := by decide +kernel
theorem d_M_instruction_102 : decode mb_M_instruction 102 = .ok (.sipush 255, 3) := by decide +kernel
theorem d_M_instruction_105 : decode mb_M_instruction 105 = .ok (.invokevirtual 164, 3) := by decide +kernel
theorem d_M_instruction_108 : decode mb_M_instruction 108 = .ok (.return_, 1) := by decide +kernel
theorem d_M_pass_0 : decode mb_M_pass 0 = .ok (.aload_n 0, 1) := by decide +kernel
theorem d_M_pass_1 : decode mb_M_pass 1 = .ok (.dup, 1) := by decide +kernel
theorem d_M_pass_2 : decode mb_M_pass 2 = .ok (.getfield 196, 3) := by decide +kernel
theorem d_M_pass_5 : decode mb_M_pass 5 = .ok (.iload_n 1, 1) := by decide +kernel
theorem d_M_pass_6 : decode mb_M_pass 6 = .ok (.iadd, 1) := by decide +kernel
theorem d_M_pass_7 : decode mb_M_pass 7 = .ok (.putfield 196, 3) := by decide +kernel
theorem d_M_pass_10 : decode mb_M_pass 10 = .ok (.aload_n 0, 1) := by decide +kernel
theorem d_M_pass_11 : decode mb_M_pass 11 = .ok (.getfield 199, 3) := by decide +kernel
theorem d_M_pass_14 : decode mb_M_pass 14 = .ok (.ifCond .ne 4, 3) := by decide +kernel
theorem d_M_pass_17 : decode mb_M_pass 17 = .ok (.return_, 1) := by decide +kernel
theorem d_M_pass_18 : decode mb_M_pass 18 = .ok (.aload_n 0, 1) := by decide +kernel
theorem d_M_pass_19 : decode mb_M_pass 19 = .ok (.dup, 1) := by decide +kernel
theorem d_M_pass_20 : decode mb_M_pass 20 = .ok (.getfield 202, 3) := by decide +kernel
theorem d_M_pass_23 : decode mb_M_pass 23 = .ok (.iload_n 1, 1) := by decide +kernel
theorem d_M_pass_24 : decode mb_M_pass 24 = .ok (.isub, 1) := by decide +kernel
theorem d_M_pass_25 : decode mb_M_pass 25 = .ok (.putfield 202, 3) := by decide +kernel
theorem d_M_pass_28 : decode mb_M_pass 28 = .ok (.aload_n 0, 1) := by decide +kernel
theorem d_M_pass_29 : decode mb_M_pass 29 = .ok (.getfield 202, 3) := by decide +kernel
theorem d_M_pass_32 : decode mb_M_pass 32 = .ok (.ifCond .le 4, 3) := by decide +kernel
theorem d_M_pass_35 : decode mb_M_pass 35 = .ok (.return_, 1) := by decide +kernel
theorem d_M_pass_36 : decode mb_M_pass 36 = .ok (.aload_n 0, 1) := by decide +kernel
theorem d_M_pass_37 : decode mb_M_pass 37 = .ok (.dup, 1) := by decide +kernel
theorem d_M_pass_38 : decode mb_M_pass 38 = .ok (.getfield 202, 3) := by decide +kernel
theorem d_M_pass_41 : decode mb_M_pass 41 = .ok (.aload_n 0, 1) := by decide +kernel
theorem d_M_pass_42 : decode mb_M_pass 42 = .ok (.getfield 199, 3) := by decide +kernel
theorem d_M_pass_45 : decode mb_M_pass 45 = .ok (.iadd, 1) := by decide +kernel
theorem d_M_pass_46 : decode mb_M_pass 46 = .ok (.putfield 202, 3) := by decide +kernel
theorem d_M_pass_49 : decode mb_M_pass 49 = .ok (.aload_n 0, 1) := by decide +kernel
theorem d_M_pass_50 : decode mb_M_pass 50 = .ok (.dup, 1) := by decide +kernel
theorem d_M_pass_51 : decode mb_M_pass 51 = .ok (.getfield 205, 3) := by decide +kernel
theorem d_M_pass_54 : decode mb_M_pass 54 = .ok (.aload_n 0, 1) := by decide +kernel
theorem d_M_pass_55 : decode mb_M_pass 55 = .ok (.getfield 208, 3) := by decide +kernel
theorem d_M_pass_58 : decode mb_M_pass 58 = .ok (.ifCond .eq 7, 3) := by decide +kernel
theorem d_M_pass_61 : decode mb_M_pass 61 = .ok (.iconst 1, 1) := by decide +kernel
theorem d_M_pass_62 : decode mb_M_pass 62 = .ok (.goto 4, 3) := by decide +kernel
theorem d_M_pass_65 : decode mb_M_pass 65 = .ok (.iconst 0, 1) := by decide +kernel
theorem d_M_pass_66 : decode mb_M_pass 66 = .ok (.iadd, 1) := by decide +kernel
theorem d_M_pass_67 : decode mb_M_pass 67 = .ok (.putfield 205, 3) := by decide +kernel
theorem d_M_pass_70 : decode mb_M_pass 70 = .ok (.aload_n 0, 1) := by decide +kernel
theorem d_M_pass_71 : decode mb_M_pass 71 = .ok (.iconst 1, 1) := by decide +kernel
theorem d_M_pass_72 : decode mb_M_pass 72 = .ok (.putfield 208, 3) := by decide +kernel
theorem d_M_pass_75 : decode mb_M_pass 75 = .ok (.return_, 1) := by decide +kernel
theorem d_M_serve_0 : decode mb_M_serve 0 = .ok (.aload_n 0, 1) := by decide +kernel
theorem d_M_serve_1 : decode mb_M_serve 1 = .ok (.getfield 31, 3) := by decide +kernel
theorem d_M_serve_4 : decode mb_M_serve 4 = .ok (.istore_n 1, 1) := by decide +kernel
theorem d_M_serve_5 : decode mb_M_serve 5 = .ok (.aload_n 0, 1) := by decide +kernel
theorem d_M_serve_6 : decode mb_M_serve 6 = .ok (.iconst 0, 1) := by decide +kernel
theorem d_M_serve_7 : decode mb_M_serve 7 = .ok (.putfield 208, 3) := by decide +kernel
theorem d_M_serve_10 : decode mb_M_serve 10 = .ok (.aload_n 0, 1) := by decide +kernel
theorem d_M_serve_11 : decode mb_M_serve 11 = .ok (.dup, 1) := by decide +kernel
theorem d_M_serve_12 : decode mb_M_serve 12 = .ok (.getfield 211, 3) := by decide +kernel
theorem d_M_serve_15 : decode mb_M_serve 15 = .ok (.iconst 1, 1) := by decide +kernel
theorem d_M_serve_16 : decode mb_M_serve 16 = .ok (.iadd, 1) := by decide +kernel
theorem d_M_serve_17 : decode mb_M_serve 17 = .ok (.putfield 211, 3) := by decide +kernel
theorem d_M_serve_20 : decode mb_M_serve 20 = .ok (.iconst 0, 1) := by decide +kernel
theorem d_M_serve_21 : decode mb_M_serve 21 = .ok (.istore_n 2, 1) := by decide +kernel
theorem d_M_serve_22 : decode mb_M_serve 22 = .ok (.iload_n 2, 1) := by decide +kernel
theorem d_M_serve_23 : decode mb_M_serve 23 = .ok (.iconst 4, 1) := by decide +kernel
theorem d_M_serve_24 : decode mb_M_serve 24 = .ok (.if_icmp .ge 43, 3) := by decide +kernel
theorem d_M_serve_27 : decode mb_M_serve 27 = .ok (.aload_n 0, 1) := by decide +kernel
theorem d_M_serve_28 : decode mb_M_serve 28 = .ok (.getfield 16, 3) := by decide +kernel
theorem d_M_serve_31 : decode mb_M_serve 31 = .ok (.iload_n 2, 1) := by decide +kernel
theorem d_M_serve_32 : decode mb_M_serve 32 = .ok (.iaload, 1) := by decide +kernel
theorem d_M_serve_33 : decode mb_M_serve 33 = .ok (.iconst 3, 1) := by decide +kernel
theorem d_M_serve_34 : decode mb_M_serve 34 = .ok (.if_icmp .ne 27, 3) := by decide +kernel
theorem d_M_serve_37 : decode mb_M_serve 37 = .ok (.aload_n 0, 1) := by decide +kernel
theorem d_M_serve_38 : decode mb_M_serve 38 = .ok (.getfield 22, 3) := by decide +kernel
theorem d_M_serve_41 : decode mb_M_serve 41 = .ok (.iload_n 2, 1) := by decide +kernel
theorem d_M_serve_42 : decode mb_M_serve 42 = .ok (.dup2, 1) := by decide +kernel
theorem d_M_serve_43 : decode mb_M_serve 43 = .ok (.iaload, 1) := by decide +kernel
theorem d_M_serve_44 : decode mb_M_serve 44 = .ok (.iconst 1, 1) := by decide +kernel
theorem d_M_serve_45 : decode mb_M_serve 45 = .ok (.isub, 1) := by decide +kernel
theorem d_M_serve_46 : decode mb_M_serve 46 = .ok (.iastore, 1) := by decide +kernel
theorem d_M_serve_47 : decode mb_M_serve 47 = .ok (.aload_n 0, 1) := by decide +kernel
theorem d_M_serve_48 : decode mb_M_serve 48 = .ok (.getfield 22, 3) := by decide +kernel
theorem d_M_serve_51 : decode mb_M_serve 51 = .ok (.iload_n 2, 1) := by decide +kernel
theorem d_M_serve_52 : decode mb_M_serve 52 = .ok (.iaload, 1) := by decide +kernel
theorem d_M_serve_53 : decode mb_M_serve 53 = .ok (.ifCond .ne 8, 3) := by decide +kernel
theorem d_M_serve_56 : decode mb_M_serve 56 = .ok (.aload_n 0, 1) := by decide +kernel
theorem d_M_serve_57 : decode mb_M_serve 57 = .ok (.iload_n 2, 1) := by decide +kernel
theorem d_M_serve_58 : decode mb_M_serve 58 = .ok (.invokevirtual 182, 3) := by decide +kernel
theorem d_M_serve_61 : decode mb_M_serve 61 = .ok (.iinc 2 1, 3) := by decide +kernel
theorem d_M_serve_64 : decode mb_M_serve 64 = .ok (.goto (-42), 3) := by decide +kernel
theorem d_M_serve_67 : decode mb_M_serve 67 = .ok (.iload_n 1, 1) := by decide +kernel
theorem d_M_serve_68 : decode mb_M_serve 68 = .ok (.ifCond .lt 12, 3) := by decide +kernel
theorem d_M_serve_71 : decode mb_M_serve 71 = .ok (.aload_n 0, 1) := by decide +kernel
theorem d_M_serve_72 : decode mb_M_serve 72 = .ok (.invokevirtual 185, 3) := by decide +kernel
theorem d_M_serve_75 : decode mb_M_serve 75 = .ok (.aload_n 0, 1) := by decide +kernel
theorem d_M_serve_76 : decode mb_M_serve 76 = .ok (.iload_n 1, 1) := by decide +kernel
theorem d_M_serve_77 : decode mb_M_serve 77 = .ok (.invokevirtual 182, 3) := by decide +kernel
theorem d_M_serve_80 : decode mb_M_serve 80 = .ok (.aload_n 0, 1) := by decide +kernel
theorem d_M_serve_81 : decode mb_M_serve 81 = .ok (.invokevirtual 179, 3) := by decide +kernel
theorem d_M_serve_84 : decode mb_M_serve 84 = .ok (.return_, 1) := by decide +kernel
theorem d_M_run_0 : decode mb_M_run 0 = .ok (.iload_n 1, 1) := by decide +kernel
theorem d_M_run_1 : decode mb_M_run 1 = .ok (.ifCond .lt 10, 3) := by decide +kernel
theorem d_M_run_4 : decode mb_M_run 4 = .ok (.iload_n 1, 1) := by decide +kernel
theorem d_M_run_5 : decode mb_M_run 5 = .ok (.sipush 400, 3) := by decide +kernel
theorem d_M_run_8 : decode mb_M_run 8 = .ok (.if_icmp .le 5, 3) := by decide +kernel
theorem d_M_run_11 : decode mb_M_run 11 = .ok (.iconst (-1), 1) := by decide +kernel
theorem d_M_run_12 : decode mb_M_run 12 = .ok (.ireturn, 1) := by decide +kernel
theorem d_M_run_13 : decode mb_M_run 13 = .ok (.iconst 0, 1) := by decide +kernel
theorem d_M_run_14 : decode mb_M_run 14 = .ok (.istore_n 2, 1) := by decide +kernel
theorem d_M_run_15 : decode mb_M_run 15 = .ok (.iconst 1, 1) := by decide +kernel
theorem d_M_run_16 : decode mb_M_run 16 = .ok (.istore_n 3, 1) := by decide +kernel
theorem d_M_run_17 : decode mb_M_run 17 = .ok (.iload_n 2, 1) := by decide +kernel
theorem d_M_run_18 : decode mb_M_run 18 = .ok (.iload_n 1, 1) := by decide +kernel
theorem d_M_run_19 : decode mb_M_run 19 = .ok (.if_icmp .ge 91, 3) := by decide +kernel
theorem d_M_run_22 : decode mb_M_run 22 = .ok (.iload_n 3, 1) := by decide +kernel
theorem d_M_run_23 : decode mb_M_run 23 = .ok (.ifCond .eq 87, 3) := by decide +kernel
theorem d_M_run_26 : decode mb_M_run 26 = .ok (.aload_n 0, 1) := by decide +kernel
theorem d_M_run_27 : decode mb_M_run 27 = .ok (.getfield 208, 3) := by decide +kernel
theorem d_M_run_30 : decode mb_M_run 30 = .ok (.ifCond .eq 23, 3) := by decide +kernel
theorem d_M_run_33 : decode mb_M_run 33 = .ok (.aload_n 0, 1) := by decide +kernel
theorem d_M_run_34 : decode mb_M_run 34 = .ok (.getfield 31, 3) := by decide +kernel
theorem d_M_run_37 : decode mb_M_run 37 = .ok (.ifCond .lt 12, 3) := by decide +kernel
theorem d_M_run_40 : decode mb_M_run 40 = .ok (.aload_n 0, 1) := by decide +kernel
theorem d_M_run_41 : decode mb_M_run 41 = .ok (.bipush 16, 2) := by decide +kernel
theorem d_M_run_43 : decode mb_M_run 43 = .ok (.invokevirtual 101, 3) := by decide +kernel
theorem d_M_run_46 : decode mb_M_run 46 = .ok (.ifCond .ne 7, 3) := by decide +kernel
theorem d_M_run_49 : decode mb_M_run 49 = .ok (.aload_n 0, 1) := by decide +kernel
theorem d_M_run_50 : decode mb_M_run 50 = .ok (.invokevirtual 214, 3) := by decide +kernel
theorem d_M_run_53 : decode mb_M_run 53 = .ok (.aload_n 0, 1) := by decide +kernel
theorem d_M_run_54 : decode mb_M_run 54 = .ok (.getfield 31, 3) := by decide +kernel
theorem d_M_run_57 : decode mb_M_run 57 = .ok (.ifCond .lt 18, 3) := by decide +kernel
theorem d_M_run_60 : decode mb_M_run 60 = .ok (.aload_n 0, 1) := by decide +kernel
theorem d_M_run_61 : decode mb_M_run 61 = .ok (.invokevirtual 217, 3) := by decide +kernel
theorem d_M_run_64 : decode mb_M_run 64 = .ok (.aload_n 0, 1) := by decide +kernel
theorem d_M_run_65 : decode mb_M_run 65 = .ok (.aload_n 0, 1) := by decide +kernel
theorem d_M_run_66 : decode mb_M_run 66 = .ok (.getfield 36, 3) := by decide +kernel
theorem d_M_run_69 : decode mb_M_run 69 = .ok (.invokevirtual 220, 3) := by decide +kernel
theorem d_M_run_72 : decode mb_M_run 72 = .ok (.goto 23, 3) := by decide +kernel
theorem d_M_run_75 : decode mb_M_run 75 = .ok (.aload_n 0, 1) := by decide +kernel
theorem d_M_run_76 : decode mb_M_run 76 = .ok (.getfield 199, 3) := by decide +kernel
theorem d_M_run_79 : decode mb_M_run 79 = .ok (.ifCond .le 14, 3) := by decide +kernel
theorem d_M_run_82 : decode mb_M_run 82 = .ok (.aload_n 0, 1) := by decide +kernel
theorem d_M_run_83 : decode mb_M_run 83 = .ok (.aload_n 0, 1) := by decide +kernel
theorem d_M_run_84 : decode mb_M_run 84 = .ok (.getfield 202, 3) := by decide +kernel
theorem d_M_run_87 : decode mb_M_run 87 = .ok (.invokevirtual 220, 3) := by decide +kernel
theorem d_M_run_90 : decode mb_M_run 90 = .ok (.goto 5, 3) := by decide +kernel
theorem d_M_run_93 : decode mb_M_run 93 = .ok (.iconst 0, 1) := by decide +kernel
theorem d_M_run_94 : decode mb_M_run 94 = .ok (.istore_n 3, 1) := by decide +kernel
theorem d_M_run_95 : decode mb_M_run 95 = .ok (.iload_n 2, 1) := by decide +kernel
theorem d_M_run_96 : decode mb_M_run 96 = .ok (.iload_n 3, 1) := by decide +kernel
theorem d_M_run_97 : decode mb_M_run 97 = .ok (.ifCond .eq 7, 3) := by decide +kernel
theorem d_M_run_100 : decode mb_M_run 100 = .ok (.iconst 1, 1) := by decide +kernel
theorem d_M_run_101 : decode mb_M_run 101 = .ok (.goto 4, 3) := by decide +kernel
theorem d_M_run_104 : decode mb_M_run 104 = .ok (.iconst 0, 1) := by decide +kernel
theorem d_M_run_105 : decode mb_M_run 105 = .ok (.iadd, 1) := by decide +kernel
theorem d_M_run_106 : decode mb_M_run 106 = .ok (.istore_n 2, 1) := by decide +kernel
theorem d_M_run_107 : decode mb_M_run 107 = .ok (.goto (-90), 3) := by decide +kernel
theorem d_M_run_110 : decode mb_M_run 110 = .ok (.iload_n 2, 1) := by decide +kernel
theorem d_M_run_111 : decode mb_M_run 111 = .ok (.ireturn, 1) := by decide +kernel
theorem d_M_poke_0 : decode mb_M_poke 0 = .ok (.iload_n 1, 1) := by decide +kernel
theorem d_M_poke_1 : decode mb_M_poke 1 = .ok (.ifCond .lt 21, 3) := by decide +kernel
theorem d_M_poke_4 : decode mb_M_poke 4 = .ok (.iload_n 1, 1) := by decide +kernel
theorem d_M_poke_5 : decode mb_M_poke 5 = .ok (.sipush 511, 3) := by decide +kernel
theorem d_M_poke_8 : decode mb_M_poke 8 = .ok (.if_icmp .gt 14, 3) := by decide +kernel
theorem d_M_poke_11 : decode mb_M_poke 11 = .ok (.iload_n 2, 1) := by decide +kernel
theorem d_M_poke_12 : decode mb_M_poke 12 = .ok (.ifCond .lt 10, 3) := by decide +kernel
theorem d_M_poke_15 : decode mb_M_poke 15 = .ok (.iload_n 2, 1) := by decide +kernel
theorem d_M_poke_16 : decode mb_M_poke 16 = .ok (.sipush 255, 3) := by decide +kernel
theorem d_M_poke_19 : decode mb_M_poke 19 = .ok (.if_icmp .le 5, 3) := by decide +kernel
theorem d_M_poke_22 : decode mb_M_poke 22 = .ok (.iconst (-1), 1) := by decide +kernel
theorem d_M_poke_23 : decode mb_M_poke 23 = .ok (.ireturn, 1) := by decide +kernel
theorem d_M_poke_24 : decode mb_M_poke 24 = .ok (.aload_n 0, 1) := by decide +kernel
theorem d_M_poke_25 : decode mb_M_poke 25 = .ok (.getfield 7, 3) := by decide +kernel
theorem d_M_poke_28 : decode mb_M_poke 28 = .ok (.iload_n 1, 1) := by decide +kernel
theorem d_M_poke_29 : decode mb_M_poke 29 = .ok (.iaload, 1) := by decide +kernel
theorem d_M_poke_30 : decode mb_M_poke 30 = .ok (.istore_n 3, 1) := by decide +kernel
theorem d_M_poke_31 : decode mb_M_poke 31 = .ok (.aload_n 0, 1) := by decide +kernel
theorem d_M_poke_32 : decode mb_M_poke 32 = .ok (.getfield 7, 3) := by decide +kernel
theorem d_M_poke_35 : decode mb_M_poke 35 = .ok (.iload_n 1, 1) := by decide +kernel
theorem d_M_poke_36 : decode mb_M_poke 36 = .ok (.iload_n 2, 1) := by decide +kernel
theorem d_M_poke_37 : decode mb_M_poke 37 = .ok (.iastore, 1) := by decide +kernel
theorem d_M_poke_38 : decode mb_M_poke 38 = .ok (.iload_n 3, 1) := by decide +kernel
theorem d_M_poke_39 : decode mb_M_poke 39 = .ok (.ireturn, 1) := by decide +kernel
theorem d_M_peek_0 : decode mb_M_peek 0 = .ok (.iload_n 1, 1) := by decide +kernel
theorem d_M_peek_1 : decode mb_M_peek 1 = .ok (.ifCond .lt 10, 3) := by decide +kernel
theorem d_M_peek_4 : decode mb_M_peek 4 = .ok (.iload_n 1, 1) := by decide +kernel
theorem d_M_peek_5 : decode mb_M_peek 5 = .ok (.sipush 511, 3) := by decide +kernel
theorem d_M_peek_8 : decode mb_M_peek 8 = .ok (.if_icmp .le 7, 3) := by decide +kernel
theorem d_M_peek_11 : decode mb_M_peek 11 = .ok (.iconst (-1), 1) := by decide +kernel
theorem d_M_peek_12 : decode mb_M_peek 12 = .ok (.goto 9, 3) := by decide +kernel
theorem d_M_peek_15 : decode mb_M_peek 15 = .ok (.aload_n 0, 1) := by decide +kernel
theorem d_M_peek_16 : decode mb_M_peek 16 = .ok (.getfield 7, 3) := by decide +kernel
theorem d_M_peek_19 : decode mb_M_peek 19 = .ok (.iload_n 1, 1) := by decide +kernel
theorem d_M_peek_20 : decode mb_M_peek 20 = .ok (.iaload, 1) := by decide +kernel
theorem d_M_peek_21 : decode mb_M_peek 21 = .ok (.ireturn, 1) := by decide +kernel
theorem d_M_noTask_0 : decode mb_M_noTask 0 = .ok (.iload_n 0, 1) := by decide +kernel
theorem d_M_noTask_1 : decode mb_M_noTask 1 = .ok (.ifCond .lt 8, 3) := by decide +kernel
theorem d_M_noTask_4 : decode mb_M_noTask 4 = .ok (.iload_n 0, 1) := by decide +kernel
theorem d_M_noTask_5 : decode mb_M_noTask 5 = .ok (.iconst 3, 1) := by decide +kernel
theorem d_M_noTask_6 : decode mb_M_noTask 6 = .ok (.if_icmp .le 7, 3) := by decide +kernel
theorem d_M_noTask_9 : decode mb_M_noTask 9 = .ok (.iconst 1, 1) := by decide +kernel
theorem d_M_noTask_10 : decode mb_M_noTask 10 = .ok (.goto 4, 3) := by decide +kernel
theorem d_M_noTask_13 : decode mb_M_noTask 13 = .ok (.iconst 0, 1) := by decide +kernel
theorem d_M_noTask_14 : decode mb_M_noTask 14 = .ok (.ireturn, 1) := by decide +kernel
theorem d_M_start_0 : decode mb_M_start 0 = .ok (.iload_n 1, 1) := by decide +kernel
theorem d_M_start_1 : decode mb_M_start 1 = .ok (.invokestatic 223, 3) := by decide +kernel
theorem d_M_start_4 : decode mb_M_start 4 = .ok (.ifCond .ne 33, 3) := by decide +kernel
theorem d_M_start_7 : decode mb_M_start 7 = .ok (.aload_n 0, 1) := by decide +kernel
theorem d_M_start_8 : decode mb_M_start 8 = .ok (.getfield 16, 3) := by decide +kernel
theorem d_M_start_11 : decode mb_M_start 11 = .ok (.iload_n 1, 1) := by decide +kernel
theorem d_M_start_12 : decode mb_M_start 12 = .ok (.iaload, 1) := by decide +kernel
theorem d_M_start_13 : decode mb_M_start 13 = .ok (.ifCond .ne 24, 3) := by decide +kernel
theorem d_M_start_16 : decode mb_M_start 16 = .ok (.iload_n 2, 1) := by decide +kernel
theorem d_M_start_17 : decode mb_M_start 17 = .ok (.ifCond .lt 20, 3) := by decide +kernel
theorem d_M_start_20 : decode mb_M_start 20 = .ok (.iload_n 2, 1) := by decide +kernel
theorem d_M_start_21 : decode mb_M_start 21 = .ok (.ldc 35, 2) := by decide +kernel
theorem d_M_start_23 : decode mb_M_start 23 = .ok (.if_icmp .gt 14, 3) := by decide +kernel
theorem d_M_start_26 : decode mb_M_start 26 = .ok (.iload_n 3, 1) := by decide +kernel
theorem d_M_start_27 : decode mb_M_start 27 = .ok (.ifCond .lt 10, 3) := by decide +kernel
theorem d_M_start_30 : decode mb_M_start 30 = .ok (.iload_n 3, 1) := by decide +kernel
theorem d_M_start_31 : decode mb_M_start 31 = .ok (.sipush 255, 3) := by decide +kernel
theorem d_M_start_34 : decode mb_M_start 34 = .ok (.if_icmp .le 5, 3) := by decide +kernel
theorem d_M_start_37 : decode mb_M_start 37 = .ok (.iconst 0, 1) := by decide +kernel
theorem d_M_start_38 : decode mb_M_start 38 = .ok (.ireturn, 1) := by decide +kernel
theorem d_M_start_39 : decode mb_M_start 39 = .ok (.aload_n 0, 1) := by decide +kernel
theorem d_M_start_40 : decode mb_M_start 40 = .ok (.iload_n 1, 1) := by decide +kernel
theorem d_M_start_41 : decode mb_M_start 41 = .ok (.iload_n 2, 1) := by decide +kernel
theorem d_M_start_42 : decode mb_M_start 42 = .ok (.iload_n 3, 1) := by decide +kernel
theorem d_M_start_43 : decode mb_M_start 43 = .ok (.invokevirtual 192, 3) := by decide +kernel
theorem d_M_start_46 : decode mb_M_start 46 = .ok (.aload_n 0, 1) := by decide +kernel
theorem d_M_start_47 : decode mb_M_start 47 = .ok (.invokevirtual 179, 3) := by decide +kernel
theorem d_M_start_50 : decode mb_M_start 50 = .ok (.iconst 1, 1) := by decide +kernel
theorem d_M_start_51 : decode mb_M_start 51 = .ok (.ireturn, 1) := by decide +kernel
theorem d_M_stop_0 : decode mb_M_stop 0 = .ok (.iload_n 1, 1) := by decide +kernel
theorem d_M_stop_1 : decode mb_M_stop 1 = .ok (.invokestatic 223, 3) := by decide +kernel
theorem d_M_stop_4 : decode mb_M_stop 4 = .ok (.ifCond .ne 12, 3) := by decide +kernel
theorem d_M_stop_7 : decode mb_M_stop 7 = .ok (.aload_n 0, 1) := by decide +kernel
theorem d_M_stop_8 : decode mb_M_stop 8 = .ok (.getfield 16, 3) := by decide +kernel
theorem d_M_stop_11 : decode mb_M_stop 11 = .ok (.iload_n 1, 1) := by decide +kernel
theorem d_M_stop_12 : decode mb_M_stop 12 = .ok (.iaload, 1) := by decide +kernel
theorem d_M_stop_13 : decode mb_M_stop 13 = .ok (.ifCond .ne 5, 3) := by decide +kernel
theorem d_M_stop_16 : decode mb_M_stop 16 = .ok (.iconst 0, 1) := by decide +kernel
theorem d_M_stop_17 : decode mb_M_stop 17 = .ok (.ireturn, 1) := by decide +kernel
theorem d_M_stop_18 : decode mb_M_stop 18 = .ok (.aload_n 0, 1) := by decide +kernel
theorem d_M_stop_19 : decode mb_M_stop 19 = .ok (.iload_n 1, 1) := by decide +kernel
theorem d_M_stop_20 : decode mb_M_stop 20 = .ok (.sipush 254, 3) := by decide +kernel
theorem d_M_stop_23 : decode mb_M_stop 23 = .ok (.invokevirtual 164, 3) := by decide +kernel
theorem d_M_stop_26 : decode mb_M_stop 26 = .ok (.iconst 1, 1) := by decide +kernel
theorem d_M_stop_27 : decode mb_M_stop 27 = .ok (.ireturn, 1) := by decide +kernel
theorem d_M_timer_0 : decode mb_M_timer 0 = .ok (.iload_n 1, 1) := by decide +kernel
theorem d_M_timer_1 : decode mb_M_timer 1 = .ok (.ifCond .eq 18, 3) := by decide +kernel
theorem d_M_timer_4 : decode mb_M_timer 4 = .ok (.iload_n 1, 1) := by decide +kernel
theorem d_M_timer_5 : decode mb_M_timer 5 = .ok (.bipush 16, 2) := by decide +kernel
theorem d_M_timer_7 : decode mb_M_timer 7 = .ok (.if_icmp .lt 10, 3) := by decide +kernel
theorem d_M_timer_10 : decode mb_M_timer 10 = .ok (.iload_n 1, 1) := by decide +kernel
theorem d_M_timer_11 : decode mb_M_timer 11 = .ok (.sipush 1000, 3) := by decide +kernel
theorem d_M_timer_14 : decode mb_M_timer 14 = .ok (.if_icmp .le 5, 3) := by decide +kernel
theorem d_M_timer_17 : decode mb_M_timer 17 = .ok (.iconst 0, 1) := by decide +kernel
theorem d_M_timer_18 : decode mb_M_timer 18 = .ok (.ireturn, 1) := by decide +kernel
theorem d_M_timer_19 : decode mb_M_timer 19 = .ok (.aload_n 0, 1) := by decide +kernel
theorem d_M_timer_20 : decode mb_M_timer 20 = .ok (.iload_n 1, 1) := by decide +kernel
theorem d_M_timer_21 : decode mb_M_timer 21 = .ok (.putfield 199, 3) := by decide +kernel
theorem d_M_timer_24 : decode mb_M_timer 24 = .ok (.aload_n 0, 1) := by decide +kernel
theorem d_M_timer_25 : decode mb_M_timer 25 = .ok (.iload_n 1, 1) := by decide +kernel
theorem d_M_timer_26 : decode mb_M_timer 26 = .ok (.putfield 202, 3) := by decide +kernel
theorem d_M_timer_29 : decode mb_M_timer 29 = .ok (.iconst 1, 1) := by decide +kernel
theorem d_M_timer_30 : decode mb_M_timer 30 = .ok (.ireturn, 1) := by decide +kernel
theorem d_M_state_0 : decode mb_M_state 0 = .ok (.iload_n 1, 1) := by decide +kernel
theorem d_M_state_1 : decode mb_M_state 1 = .ok (.invokestatic 223, 3) := by decide +kernel
theorem d_M_state_4 : decode mb_M_state 4 = .ok (.ifCond .eq 7, 3) := by decide +kernel
theorem d_M_state_7 : decode mb_M_state 7 = .ok (.iconst (-1), 1) := by decide +kernel
theorem d_M_state_8 : decode mb_M_state 8 = .ok (.goto 9, 3) := by decide +kernel
theorem d_M_state_11 : decode mb_M_state 11 = .ok (.aload_n 0, 1) := by decide +kernel
theorem d_M_state_12 : decode mb_M_state 12 = .ok (.getfield 16, 3) := by decide +kernel
theorem d_M_state_15 : decode mb_M_state 15 = .ok (.iload_n 1, 1) := by decide +kernel
theorem d_M_state_16 : decode mb_M_state 16 = .ok (.iaload, 1) := by decide +kernel
theorem d_M_state_17 : decode mb_M_state 17 = .ok (.ireturn, 1) := by decide +kernel
theorem d_M_inFrame_0 : decode mb_M_inFrame 0 = .ok (.iload_n 2, 1) := by decide +kernel
theorem d_M_inFrame_1 : decode mb_M_inFrame 1 = .ok (.bipush 10, 2) := by decide +kernel
theorem d_M_inFrame_3 : decode mb_M_inFrame 3 = .ok (.if_icmp .ne 7, 3) := by decide +kernel
theorem d_M_inFrame_6 : decode mb_M_inFrame 6 = .ok (.iconst 0, 1) := by decide +kernel
theorem d_M_inFrame_7 : decode mb_M_inFrame 7 = .ok (.goto 68, 3) := by decide +kernel
theorem d_M_inFrame_10 : decode mb_M_inFrame 10 = .ok (.iload_n 2, 1) := by decide +kernel
theorem d_M_inFrame_11 : decode mb_M_inFrame 11 = .ok (.bipush 8, 2) := by decide +kernel
theorem d_M_inFrame_13 : decode mb_M_inFrame 13 = .ok (.if_icmp .eq 7, 3) := by decide +kernel
theorem d_M_inFrame_16 : decode mb_M_inFrame 16 = .ok (.iload_n 2, 1) := by decide +kernel
theorem d_M_inFrame_17 : decode mb_M_inFrame 17 = .ok (.ifCond .ne 7, 3) := by decide +kernel
theorem d_M_inFrame_20 : decode mb_M_inFrame 20 = .ok (.iconst 1, 1) := by decide +kernel
theorem d_M_inFrame_21 : decode mb_M_inFrame 21 = .ok (.goto 54, 3) := by decide +kernel
theorem d_M_inFrame_24 : decode mb_M_inFrame 24 = .ok (.iload_n 2, 1) := by decide +kernel
theorem d_M_inFrame_25 : decode mb_M_inFrame 25 = .ok (.bipush 9, 2) := by decide +kernel
theorem d_M_inFrame_27 : decode mb_M_inFrame 27 = .ok (.if_icmp .ne 7, 3) := by decide +kernel
theorem d_M_inFrame_30 : decode mb_M_inFrame 30 = .ok (.iconst 2, 1) := by decide +kernel
theorem d_M_inFrame_31 : decode mb_M_inFrame 31 = .ok (.goto 44, 3) := by decide +kernel
theorem d_M_inFrame_34 : decode mb_M_inFrame 34 = .ok (.iload_n 2, 1) := by decide +kernel
theorem d_M_inFrame_35 : decode mb_M_inFrame 35 = .ok (.bipush 11, 2) := by decide +kernel
theorem d_M_inFrame_37 : decode mb_M_inFrame 37 = .ok (.if_icmp .ne 7, 3) := by decide +kernel
theorem d_M_inFrame_40 : decode mb_M_inFrame 40 = .ok (.iconst 3, 1) := by decide +kernel
theorem d_M_inFrame_41 : decode mb_M_inFrame 41 = .ok (.goto 34, 3) := by decide +kernel
theorem d_M_inFrame_44 : decode mb_M_inFrame 44 = .ok (.iload_n 2, 1) := by decide +kernel
theorem d_M_inFrame_45 : decode mb_M_inFrame 45 = .ok (.iconst 1, 1) := by decide +kernel
theorem d_M_inFrame_46 : decode mb_M_inFrame 46 = .ok (.if_icmp .ne 7, 3) := by decide +kernel
theorem d_M_inFrame_49 : decode mb_M_inFrame 49 = .ok (.iconst 4, 1) := by decide +kernel
theorem d_M_inFrame_50 : decode mb_M_inFrame 50 = .ok (.goto 25, 3) := by decide +kernel
theorem d_M_inFrame_53 : decode mb_M_inFrame 53 = .ok (.iload_n 2, 1) := by decide +kernel
theorem d_M_inFrame_54 : decode mb_M_inFrame 54 = .ok (.iconst 2, 1) := by decide +kernel
theorem d_M_inFrame_55 : decode mb_M_inFrame 55 = .ok (.if_icmp .ne 8, 3) := by decide +kernel
theorem d_M_inFrame_58 : decode mb_M_inFrame 58 = .ok (.bipush 6, 2) := by decide +kernel
theorem d_M_inFrame_60 : decode mb_M_inFrame 60 = .ok (.goto 15, 3) := by decide +kernel
theorem d_M_inFrame_63 : decode mb_M_inFrame 63 = .ok (.iload_n 2, 1) := by decide +kernel
theorem d_M_inFrame_64 : decode mb_M_inFrame 64 = .ok (.iconst 3, 1) := by decide +kernel
theorem d_M_inFrame_65 : decode mb_M_inFrame 65 = .ok (.if_icmp .ne 8, 3) := by decide +kernel
theorem d_M_inFrame_68 : decode mb_M_inFrame 68 = .ok (.bipush 8, 2) := by decide +kernel
theorem d_M_inFrame_70 : decode mb_M_inFrame 70 = .ok (.goto 5, 3) := by decide +kernel
theorem d_M_inFrame_73 : decode mb_M_inFrame 73 = .ok (.bipush 10, 2) := by decide +kernel
theorem d_M_inFrame_75 : decode mb_M_inFrame 75 = .ok (.istore_n 3, 1) := by decide +kernel
theorem d_M_inFrame_76 : decode mb_M_inFrame 76 = .ok (.iload_n 2, 1) := by decide +kernel
theorem d_M_inFrame_77 : decode mb_M_inFrame 77 = .ok (.bipush 8, 2) := by decide +kernel
theorem d_M_inFrame_79 : decode mb_M_inFrame 79 = .ok (.if_icmp .ge 27, 3) := by decide +kernel
theorem d_M_inFrame_82 : decode mb_M_inFrame 82 = .ok (.sipush 256, 3) := by decide +kernel
theorem d_M_inFrame_85 : decode mb_M_inFrame 85 = .ok (.aload_n 0, 1) := by decide +kernel
theorem d_M_inFrame_86 : decode mb_M_inFrame 86 = .ok (.iload_n 1, 1) := by decide +kernel
theorem d_M_inFrame_87 : decode mb_M_inFrame 87 = .ok (.iload_n 3, 1) := by decide +kernel
theorem d_M_inFrame_88 : decode mb_M_inFrame 88 = .ok (.iadd, 1) := by decide +kernel
theorem d_M_inFrame_89 : decode mb_M_inFrame 89 = .ok (.invokevirtual 39, 3) := by decide +kernel
theorem d_M_inFrame_92 : decode mb_M_inFrame 92 = .ok (.imul, 1) := by decide +kernel
theorem d_M_inFrame_93 : decode mb_M_inFrame 93 = .ok (.aload_n 0, 1) := by decide +kernel
theorem d_M_inFrame_94 : decode mb_M_inFrame 94 = .ok (.iload_n 1, 1) := by decide +kernel
theorem d_M_inFrame_95 : decode mb_M_inFrame 95 = .ok (.iload_n 3, 1) := by decide +kernel
theorem d_M_inFrame_96 : decode mb_M_inFrame 96 = .ok (.iadd, 1) := by decide +kernel
theorem d_M_inFrame_97 : decode mb_M_inFrame 97 = .ok (.iconst 1, 1) := by decide +kernel
theorem d_M_inFrame_98 : decode mb_M_inFrame 98 = .ok (.iadd, 1) := by decide +kernel
theorem d_M_inFrame_99 : decode mb_M_inFrame 99 = .ok (.invokevirtual 39, 3) := by decide +kernel
theorem d_M_inFrame_102 : decode mb_M_inFrame 102 = .ok (.iadd, 1) := by decide +kernel
theorem d_M_inFrame_103 : decode mb_M_inFrame 103 = .ok (.goto 10, 3) := by decide +kernel
theorem d_M_inFrame_106 : decode mb_M_inFrame 106 = .ok (.aload_n 0, 1) := by decide +kernel
theorem d_M_inFrame_107 : decode mb_M_inFrame 107 = .ok (.iload_n 1, 1) := by decide +kernel
theorem d_M_inFrame_108 : decode mb_M_inFrame 108 = .ok (.iload_n 3, 1) := by decide +kernel
theorem d_M_inFrame_109 : decode mb_M_inFrame 109 = .ok (.iadd, 1) := by decide +kernel
theorem d_M_inFrame_110 : decode mb_M_inFrame 110 = .ok (.invokevirtual 39, 3) := by decide +kernel
theorem d_M_inFrame_113 : decode mb_M_inFrame 113 = .ok (.ireturn, 1) := by decide +kernel
section MODEL
variable {l : Launch} {D : va_G}
variable {h0 h1 h2 h3 h4 h5 h6 h7 : Nat} {cI cT : ClassId} {me : Nat → Int32} {rg : Nat → Int32} {so : Nat → Int32} {sv : Nat → Int32} {tl : Nat → Int32} {su : Nat → Int32} {qu : Nat → Int32} {wa : Int32} {ru : Int32} {pe : Int32} {re : Int32} {pn : Bool} {lo : Int32} {se : Int32} {pa : Int32} {sp : Int32} {iv : Bool}
set_option maxHeartbeats 4000000 in
set_option maxRecDepth 100000 in
theorem c_mo_instruction  {z : (Nat → Int32) × (Nat → Int32) × (Nat → Int32) × (Nat → Int32) × (Nat → Int32) × (Nat → Int32) × (Nat → Int32) × Int32 × Int32 × Int32 × Bool} (hf : mo_instruction me rg so sv tl su qu wa ru sp iv = some z) : co_v l my_M_instruction mb_M_instruction 4 rm_m_instruction D (ty_ cI cT) [.ref h0] (mw_ h0 h1 h2 h3 h4 h5 h6 h7 cI me rg so sv tl su qu wa ru pe re pn lo se pa sp iv) (mw_ h0 h1 h2 h3 h4 h5 h6 h7 cI z.1 z.2.1 z.2.2.1 z.2.2.2.1 z.2.2.2.2.1 z.2.2.2.2.2.1 z.2.2.2.2.2.2.1 z.2.2.2.2.2.2.2.1 z.2.2.2.2.2.2.2.2.1 pe re pn lo se pa z.2.2.2.2.2.2.2.2.2.1 z.2.2.2.2.2.2.2.2.2.2) := by
  refine co_v_of (by decide) (Nat.le_of_ble_eq_true rfl) ?_
  intro p e s m below meth c A ls X hr hlk hK hP hD hS hA hl
  have hx := X.1
  have hb := X.2.1
  have hl : lv_has ls 4 [(0, .ref h0)] := hl
  have J88 : ∀ (v1 : Int32) (me : Nat → Int32) (rg : Nat → Int32) (so : Nat → Int32) (sv : Nat → Int32) (tl : Nat → Int32) (su : Nat → Int32) (qu : Nat → Int32) (wa : Int32) (ru : Int32) (sp : Int32) (iv : Bool), mo_instruction_j88 v1 me rg so sv tl su qu wa ru sp iv = some z → ∀ (H : Heap) (locs : List Loc) (ls : Array Slot), lv_has ls 4 [(0, .ref h0), (1, .int v1)] → va_P D cz_all (mw_ h0 h1 h2 h3 h4 h5 h6 h7 cI me rg so sv tl su qu wa ru pe re pn lo se pa sp iv) H → va_D A (mw_ h0 h1 h2 h3 h4 h5 h6 h7 cI me rg so sv tl su qu wa ru pe re pn lo se pa sp iv) → va_S A s.heap H locs → W p l e rm_m_instruction s m ([.ref h0] : List Value).toArray below meth c H locs 0 0 (MQ below (qs_v D (ty_ cI cT) (mw_ h0 h1 h2 h3 h4 h5 h6 h7 cI z.1 z.2.1 z.2.2.1 z.2.2.2.1 z.2.2.2.2.1 z.2.2.2.2.2.1 z.2.2.2.2.2.2.1 z.2.2.2.2.2.2.2.1 z.2.2.2.2.2.2.2.2.1 pe re pn lo se pa z.2.2.2.2.2.2.2.2.2.1 z.2.2.2.2.2.2.2.2.2.2) A) ([.ref h0] : List Value).toArray s 0 0 A) (F0 m 88 ls []) := by
    intro v1 me rg so sv tl su qu wa ru sp iv hf H locs ls hl hP hD hS
    unfold mo_instruction_j88 at hf
    refine lv_aload_n hx hb d_M_instruction_88 rfl (lv_at hl 0 rfl) ?_
    refine mg_invalid X hK hP d_M_instruction_89 ?_
    refine lv_if_eq (tgt := 108) hx hb d_M_instruction_92 (by decide) (fun hc => ?_) (fun hc => ?_)
    · replace hf := (if_pos hc).symm.trans hf
      have hq := Option.some.inj hf
      subst hq
      exact rt_v X hr hlk hK hP hD hS d_M_instruction_108
    · replace hf := (if_neg hc).symm.trans hf
      refine lv_aload_n hx hb d_M_instruction_95 rfl (lv_at hl 0 rfl) ?_
      refine lv_iconst (v := (1 : Int32)) hx hb d_M_instruction_96 (by decide) ?_
      refine mp_spent (x := (1 : Int32)) X hK hP hD hS d_M_instruction_97 (fun H locs hP hD hS => ?_)
      refine lv_aload_n hx hb d_M_instruction_100 rfl (lv_at hl 0 rfl) ?_
      refine lv_iload_n hx hb d_M_instruction_101 rfl (lv_at hl 1 rfl) ?_
      refine lv_sipush (v := (255 : Int32)) hx hb d_M_instruction_102 (by decide) ?_
      obtain ⟨z8, hz8, hf⟩ := op_b hf
      refine cl_v X cw_M_164 hK hP hD hS hA hl (c_mo_end hz8) ⟨rfl, rfl, Nat.le_of_ble_eq_true rfl, Nat.le_of_ble_eq_true rfl⟩ 0 rfl rfl rfl rfl rfl (Nat.le_of_ble_eq_true rfl) d_M_instruction_105 (fun H locs hP hD hS => ?_)
      have hq := Option.some.inj hf
      subst hq
      exact rt_v X hr hlk hK hP hD hS d_M_instruction_108
  have J75 : ∀ (v1 : Int32) (v2 : Int32) (me : Nat → Int32) (rg : Nat → Int32) (so : Nat → Int32) (sv : Nat → Int32) (tl : Nat → Int32) (su : Nat → Int32) (qu : Nat → Int32) (wa : Int32) (ru : Int32) (sp : Int32) (iv : Bool), mo_instruction_j75 v1 v2 me rg so sv tl su qu wa ru sp iv = some z → ∀ (H : Heap) (locs : List Loc) (ls : Array Slot), lv_has ls 4 [(0, .ref h0), (1, .int v1), (2, .int v2)] → va_P D cz_all (mw_ h0 h1 h2 h3 h4 h5 h6 h7 cI me rg so sv tl su qu wa ru pe re pn lo se pa sp iv) H → va_D A (mw_ h0 h1 h2 h3 h4 h5 h6 h7 cI me rg so sv tl su qu wa ru pe re pn lo se pa sp iv) → va_S A s.heap H locs → W p l e rm_m_instruction s m ([.ref h0] : List Value).toArray below meth c H locs 0 0 (MQ below (qs_v D (ty_ cI cT) (mw_ h0 h1 h2 h3 h4 h5 h6 h7 cI z.1 z.2.1 z.2.2.1 z.2.2.2.1 z.2.2.2.2.1 z.2.2.2.2.2.1 z.2.2.2.2.2.2.1 z.2.2.2.2.2.2.2.1 z.2.2.2.2.2.2.2.2.1 pe re pn lo se pa z.2.2.2.2.2.2.2.2.2.1 z.2.2.2.2.2.2.2.2.2.2) A) ([.ref h0] : List Value).toArray s 0 0 A) (F0 m 75 ls []) := by
    intro v1 v2 me rg so sv tl su qu wa ru sp iv hf H locs ls hl hP hD hS
    unfold mo_instruction_j75 at hf
    refine lv_aload_n hx hb d_M_instruction_75 rfl (lv_at hl 0 rfl) ?_
    refine lv_iload_n hx hb d_M_instruction_76 rfl (lv_at hl 2 rfl) ?_
    obtain ⟨z9, hz9, hf⟩ := op_b hf
    refine cl_v X cw_M_158 hK hP hD hS hA hl (c_mo_single hz9) ⟨rfl, rfl, Nat.le_of_ble_eq_true rfl, Nat.le_of_ble_eq_true rfl⟩ 0 rfl rfl rfl rfl rfl (Nat.le_of_ble_eq_true rfl) d_M_instruction_77 (fun H locs hP hD hS => ?_)
    refine lv_goto (tgt := 88) hx hb d_M_instruction_80 (by decide) ?_
    exact J88 v1 z9.1 z9.2.1 z9.2.2.1 z9.2.2.2.1 z9.2.2.2.2.1 z9.2.2.2.2.2.1 z9.2.2.2.2.2.2.1 z9.2.2.2.2.2.2.2.1 z9.2.2.2.2.2.2.2.2.1 z9.2.2.2.2.2.2.2.2.2.1 z9.2.2.2.2.2.2.2.2.2.2 hf _ _ _ (lv_sub hl [0, 1] rfl) hP hD hS
  unfold mo_instruction at hf
  refine lv_aload_n hx hb d_M_instruction_0 rfl (lv_at hl 0 rfl) ?_
  refine lv_iconst (v := (0 : Int32)) hx hb d_M_instruction_1 (by decide) ?_
  refine mp_spent (x := (0 : Int32)) X hK hP hD hS d_M_instruction_2 (fun H locs hP hD hS => ?_)
  refine lv_aload_n hx hb d_M_instruction_5 rfl (lv_at hl 0 rfl) ?_
  refine lv_iconst (v := (0 : Int32)) hx hb d_M_instruction_6 (by decide) ?_
  refine mp_invalid (x := false) X hK hP hD hS d_M_instruction_7 (fun H locs hP hD hS => ?_)
  refine lv_aload_n hx hb d_M_instruction_10 rfl (lv_at hl 0 rfl) ?_
  refine mg_running X hK hP d_M_instruction_11 ?_
  refine lv_istore_n hx hb d_M_instruction_14 rfl hl (by decide) rfl (fun ls hl => ?_)
  have hl : lv_has ls 4 [(1, .int ru), (0, .ref h0)] := hl
  refine lv_aload_n hx hb d_M_instruction_15 rfl (lv_at hl 1 rfl) ?_
  obtain ⟨z10, hz10, hf⟩ := op_b hf
  refine cl_i X cw_M_54 hK hP hD hS hA hl (c_mo_fetch hz10) ⟨rfl, rfl, Nat.le_of_ble_eq_true rfl, Nat.le_of_ble_eq_true rfl⟩ 0 rfl rfl rfl rfl rfl (Nat.le_of_ble_eq_true rfl) d_M_instruction_16 (fun H locs hP hD hS => ?_)
  refine lv_istore_n hx hb d_M_instruction_19 rfl hl (by decide) rfl (fun ls hl => ?_)
  have hl : lv_has ls 4 [(2, .int z10.1), (1, .int ru), (0, .ref h0)] := hl
  refine lv_iload_n hx hb d_M_instruction_20 rfl (lv_at hl 0 rfl) ?_
  refine lv_iconst (v := (4 : Int32)) hx hb d_M_instruction_21 (by decide) ?_
  refine lv_ishr hx hb d_M_instruction_22 ?_
  refine lv_istore_n hx hb d_M_instruction_23 rfl hl (by decide) rfl (fun ls hl => ?_)
  have hl : lv_has ls 4 [(3, .int (z10.1 >>> ((4 : Int32) &&& 31))), (2, .int z10.1), (1, .int ru), (0, .ref h0)] := hl
  refine lv_iload_n hx hb d_M_instruction_24 rfl (lv_at hl 1 rfl) ?_
  refine lv_sipush (v := (128 : Int32)) hx hb d_M_instruction_25 (by decide) ?_
  refine lv_icmp_lt (tgt := 39) hx hb d_M_instruction_28 (by decide) (fun hc => ?_) (fun hc => ?_)
  · replace hf := (if_pos hc).symm.trans hf
    refine lv_iload_n hx hb d_M_instruction_39 rfl (lv_at hl 1 rfl) ?_
    refine lv_bipush (v := (16 : Int32)) hx hb d_M_instruction_40 (by decide) ?_
    refine lv_icmp_ne (tgt := 52) hx hb d_M_instruction_42 (by decide) (fun hc => ?_) (fun hc => ?_)
    · replace hf := (if_neg hc).symm.trans hf
      refine lv_iload_n hx hb d_M_instruction_52 rfl (lv_at hl 0 rfl) ?_
      refine lv_iconst (v := (2 : Int32)) hx hb d_M_instruction_53 (by decide) ?_
      refine lv_icmp_ne (tgt := 65) hx hb d_M_instruction_54 (by decide) (fun hc => ?_) (fun hc => ?_)
      · replace hf := (if_neg hc).symm.trans hf
        refine lv_iload_n hx hb d_M_instruction_65 rfl (lv_at hl 0 rfl) ?_
        refine lv_iconst (v := (1 : Int32)) hx hb d_M_instruction_66 (by decide) ?_
        refine lv_icmp_eq (tgt := 75) hx hb d_M_instruction_67 (by decide) (fun hc => ?_) (fun hc => ?_)
        · replace hf := (if_pos hc).symm.trans hf
          exact J75 ru z10.1 me z10.2.1 so sv tl su qu wa ru z10.2.2 false hf _ _ _ (lv_sub hl [3, 2, 1] rfl) hP hD hS
        · replace hf := (if_neg hc).symm.trans hf
          refine lv_iload_n hx hb d_M_instruction_70 rfl (lv_at hl 0 rfl) ?_
          refine lv_iconst (v := (3 : Int32)) hx hb d_M_instruction_71 (by decide) ?_
          refine lv_icmp_ne (tgt := 83) hx hb d_M_instruction_72 (by decide) (fun hc => ?_) (fun hc => ?_)
          · replace hf := (if_neg hc).symm.trans hf
            refine lv_aload_n hx hb d_M_instruction_83 rfl (lv_at hl 3 rfl) ?_
            refine lv_iload_n hx hb d_M_instruction_84 rfl (lv_at hl 1 rfl) ?_
            obtain ⟨z11, hz11, hf⟩ := op_b hf
            refine cl_v X cw_M_161 hK hP hD hS hA hl (c_mo_lower hz11) ⟨rfl, rfl, Nat.le_of_ble_eq_true rfl, Nat.le_of_ble_eq_true rfl⟩ 0 rfl rfl rfl rfl rfl (Nat.le_of_ble_eq_true rfl) d_M_instruction_85 (fun H locs hP hD hS => ?_)
            exact J88 ru z11.1 z11.2.1 so sv tl su qu wa ru z11.2.2.1 z11.2.2.2 hf _ _ _ (lv_sub hl [3, 2] rfl) hP hD hS
          · replace hf := (if_pos hc).symm.trans hf
            exact J75 ru z10.1 me z10.2.1 so sv tl su qu wa ru z10.2.2 false hf _ _ _ (lv_sub hl [3, 2, 1] rfl) hP hD hS
      · replace hf := (if_pos hc).symm.trans hf
        refine lv_aload_n hx hb d_M_instruction_57 rfl (lv_at hl 3 rfl) ?_
        refine lv_iload_n hx hb d_M_instruction_58 rfl (lv_at hl 1 rfl) ?_
        obtain ⟨z12, hz12, hf⟩ := op_b hf
        refine cl_v X cw_M_155 hK hP hD hS hA hl (c_mo_branch hz12) ⟨rfl, rfl, Nat.le_of_ble_eq_true rfl, Nat.le_of_ble_eq_true rfl⟩ 0 rfl rfl rfl rfl rfl (Nat.le_of_ble_eq_true rfl) d_M_instruction_59 (fun H locs hP hD hS => ?_)
        refine lv_goto (tgt := 88) hx hb d_M_instruction_62 (by decide) ?_
        exact J88 ru me z12.1 so sv tl su qu wa ru z12.2 false hf _ _ _ (lv_sub hl [3, 2] rfl) hP hD hS
    · replace hf := (if_pos hc).symm.trans hf
      refine lv_aload_n hx hb d_M_instruction_45 rfl (lv_at hl 3 rfl) ?_
      obtain ⟨z13, hz13, hf⟩ := op_b hf
      refine cl_v X cw_M_152 hK hP hD hS hA hl (c_mo_second hz13) ⟨rfl, rfl, Nat.le_of_ble_eq_true rfl, Nat.le_of_ble_eq_true rfl⟩ 0 rfl rfl rfl rfl rfl (Nat.le_of_ble_eq_true rfl) d_M_instruction_46 (fun H locs hP hD hS => ?_)
      refine lv_goto (tgt := 88) hx hb d_M_instruction_49 (by decide) ?_
      exact J88 ru z13.1 z13.2.1 so sv tl su qu wa ru z13.2.2.1 z13.2.2.2 hf _ _ _ (lv_sub hl [3, 2] rfl) hP hD hS
  · replace hf := (if_neg hc).symm.trans hf
    refine lv_aload_n hx hb d_M_instruction_31 rfl (lv_at hl 3 rfl) ?_
    refine lv_iload_n hx hb d_M_instruction_32 rfl (lv_at hl 1 rfl) ?_
    obtain ⟨z14, hz14, hf⟩ := op_b hf
    refine cl_v X cw_M_149 hK hP hD hS hA hl (c_mo_upper hz14) ⟨rfl, rfl, Nat.le_of_ble_eq_true rfl, Nat.le_of_ble_eq_true rfl⟩ 0 rfl rfl rfl rfl rfl (Nat.le_of_ble_eq_true rfl) d_M_instruction_33 (fun H locs hP hD hS => ?_)
    refine lv_goto (tgt := 88) hx hb d_M_instruction_36 (by decide) ?_
    exact J88 ru z14.1 z14.2.1 so sv tl su qu wa ru z14.2.2.1 z14.2.2.2 hf _ _ _ (lv_sub hl [3, 2] rfl) hP hD hS
set_option maxHeartbeats 4000000 in
set_option maxRecDepth 100000 in
theorem c_mo_pass {x1 : Int32} {z : Int32 × Bool × Int32 × Int32} (hf : mo_pass x1 pe re pn lo pa = some z) : co_v l my_M_pass mb_M_pass 2 rm_m_pass D (ty_ cI cT) [.ref h0, .int x1] (mw_ h0 h1 h2 h3 h4 h5 h6 h7 cI me rg so sv tl su qu wa ru pe re pn lo se pa sp iv) (mw_ h0 h1 h2 h3 h4 h5 h6 h7 cI me rg so sv tl su qu wa ru pe z.1 z.2.1 z.2.2.1 se z.2.2.2 sp iv) := by
  refine co_v_of (by decide) (Nat.le_of_ble_eq_true rfl) ?_
  intro p e s m below meth c A ls X hr hlk hK hP hD hS hA hl
  have hx := X.1
  have hb := X.2.1
  have hl : lv_has ls 2 [(0, .ref h0), (1, .int x1)] := hl
  have J66 : ∀ (s0 : Bool) (s1 : Int32) (pe : Int32) (re : Int32) (pn : Bool) (lo : Int32) (pa : Int32), mo_pass_j66 s0 s1 pe re pn lo pa = some z → ∀ (H : Heap) (locs : List Loc) (ls : Array Slot), lv_has ls 2 [(0, .ref h0)] → va_P D cz_all (mw_ h0 h1 h2 h3 h4 h5 h6 h7 cI me rg so sv tl su qu wa ru pe re pn lo se pa sp iv) H → va_D A (mw_ h0 h1 h2 h3 h4 h5 h6 h7 cI me rg so sv tl su qu wa ru pe re pn lo se pa sp iv) → va_S A s.heap H locs → W p l e rm_m_pass s m ([.ref h0, .int x1] : List Value).toArray below meth c H locs 0 0 (MQ below (qs_v D (ty_ cI cT) (mw_ h0 h1 h2 h3 h4 h5 h6 h7 cI me rg so sv tl su qu wa ru pe z.1 z.2.1 z.2.2.1 se z.2.2.2 sp iv) A) ([.ref h0, .int x1] : List Value).toArray s 0 0 A) (F0 m 66 ls [.int (bz_i s0), .int s1, .ref h0]) := by
    intro s0 s1 pe re pn lo pa hf H locs ls hl hP hD hS
    unfold mo_pass_j66 at hf
    refine lv_iadd hx hb d_M_pass_66 ?_
    refine mp_lostTicks (x := (s1 + (bz_i s0))) X hK hP hD hS d_M_pass_67 (fun H locs hP hD hS => ?_)
    refine lv_aload_n hx hb d_M_pass_70 rfl (lv_at hl 0 rfl) ?_
    refine lv_iconst (v := (1 : Int32)) hx hb d_M_pass_71 (by decide) ?_
    refine mp_pending (x := true) X hK hP hD hS d_M_pass_72 (fun H locs hP hD hS => ?_)
    have hq := Option.some.inj hf
    subst hq
    exact rt_v X hr hlk hK hP hD hS d_M_pass_75
  unfold mo_pass at hf
  refine lv_aload_n hx hb d_M_pass_0 rfl (lv_at hl 0 rfl) ?_
  refine lv_dup hx hb d_M_pass_1 rfl ?_
  refine mg_passed X hK hP d_M_pass_2 ?_
  refine lv_iload_n hx hb d_M_pass_5 rfl (lv_at hl 1 rfl) ?_
  refine lv_iadd hx hb d_M_pass_6 ?_
  refine mp_passed (x := (pa + x1)) X hK hP hD hS d_M_pass_7 (fun H locs hP hD hS => ?_)
  refine lv_aload_n hx hb d_M_pass_10 rfl (lv_at hl 0 rfl) ?_
  refine mg_period X hK hP d_M_pass_11 ?_
  refine lv_if_ne (tgt := 18) hx hb d_M_pass_14 (by decide) (fun hc => ?_) (fun hc => ?_)
  · replace hf := (if_neg hc).symm.trans hf
    refine lv_aload_n hx hb d_M_pass_18 rfl (lv_at hl 0 rfl) ?_
    refine lv_dup hx hb d_M_pass_19 rfl ?_
    refine mg_rest X hK hP d_M_pass_20 ?_
    refine lv_iload_n hx hb d_M_pass_23 rfl (lv_at hl 1 rfl) ?_
    refine lv_isub hx hb d_M_pass_24 ?_
    refine mp_rest (x := (re - x1)) X hK hP hD hS d_M_pass_25 (fun H locs hP hD hS => ?_)
    refine lv_aload_n hx hb d_M_pass_28 rfl (lv_at hl 0 rfl) ?_
    refine mg_rest X hK hP d_M_pass_29 ?_
    refine lv_if_le (tgt := 36) hx hb d_M_pass_32 (by decide) (fun hc => ?_) (fun hc => ?_)
    · replace hf := (if_pos hc).symm.trans hf
      refine lv_aload_n hx hb d_M_pass_36 rfl (lv_at hl 0 rfl) ?_
      refine lv_dup hx hb d_M_pass_37 rfl ?_
      refine mg_rest X hK hP d_M_pass_38 ?_
      refine lv_aload_n hx hb d_M_pass_41 rfl (lv_at hl 0 rfl) ?_
      refine mg_period X hK hP d_M_pass_42 ?_
      refine lv_iadd hx hb d_M_pass_45 ?_
      refine mp_rest (x := ((re - x1) + pe)) X hK hP hD hS d_M_pass_46 (fun H locs hP hD hS => ?_)
      refine lv_aload_n hx hb d_M_pass_49 rfl (lv_at hl 0 rfl) ?_
      refine lv_dup hx hb d_M_pass_50 rfl ?_
      refine mg_lostTicks X hK hP d_M_pass_51 ?_
      refine lv_aload_n hx hb d_M_pass_54 rfl (lv_at hl 0 rfl) ?_
      refine mg_pending X hK hP d_M_pass_55 ?_
      refine lv_if_eq (tgt := 65) hx hb d_M_pass_58 (by decide) (fun hc => ?_) (fun hc => ?_)
      · replace hf := (if_pos hc).symm.trans hf
        refine lv_iconst (v := (0 : Int32)) hx hb d_M_pass_65 (by decide) ?_
        exact J66 false lo pe ((re - x1) + pe) pn lo (pa + x1) hf _ _ _ (lv_sub hl [0] rfl) hP hD hS
      · replace hf := (if_neg hc).symm.trans hf
        refine lv_iconst (v := (1 : Int32)) hx hb d_M_pass_61 (by decide) ?_
        refine lv_goto (tgt := 66) hx hb d_M_pass_62 (by decide) ?_
        exact J66 true lo pe ((re - x1) + pe) pn lo (pa + x1) hf _ _ _ (lv_sub hl [0] rfl) hP hD hS
    · replace hf := (if_neg hc).symm.trans hf
      have hq := Option.some.inj hf
      subst hq
      exact rt_v X hr hlk hK hP hD hS d_M_pass_35
  · replace hf := (if_pos hc).symm.trans hf
    have hq := Option.some.inj hf
    subst hq
    exact rt_v X hr hlk hK hP hD hS d_M_pass_17
set_option maxHeartbeats 4000000 in
set_option maxRecDepth 100000 in
theorem c_mo_serve  {z : (Nat → Int32) × (Nat → Int32) × (Nat → Int32) × (Nat → Int32) × (Nat → Int32) × (Nat → Int32) × Int32 × Int32 × Bool × Int32 × Int32} (hf : mo_serve me rg so sv tl qu wa ru pn se sp = some z) : co_v l my_M_serve mb_M_serve 3 rm_m_serve D (ty_ cI cT) [.ref h0] (mw_ h0 h1 h2 h3 h4 h5 h6 h7 cI me rg so sv tl su qu wa ru pe re pn lo se pa sp iv) (mw_ h0 h1 h2 h3 h4 h5 h6 h7 cI z.1 z.2.1 z.2.2.1 z.2.2.2.1 z.2.2.2.2.1 su z.2.2.2.2.2.1 z.2.2.2.2.2.2.1 z.2.2.2.2.2.2.2.1 pe re z.2.2.2.2.2.2.2.2.1 lo z.2.2.2.2.2.2.2.2.2.1 pa z.2.2.2.2.2.2.2.2.2.2 iv) := by
  refine co_v_of (by decide) (Nat.le_of_ble_eq_true rfl) ?_
  intro p e s m below meth c A ls X hr hlk hK hP hD hS hA hl
  have hx := X.1
  have hb := X.2.1
  have hl : lv_has ls 3 [(0, .ref h0)] := hl
  have J80 : ∀ (me : Nat → Int32) (rg : Nat → Int32) (so : Nat → Int32) (sv : Nat → Int32) (tl : Nat → Int32) (qu : Nat → Int32) (wa : Int32) (ru : Int32) (pn : Bool) (se : Int32) (sp : Int32), mo_serve_j80 me rg so sv tl qu wa ru pn se sp = some z → ∀ (H : Heap) (locs : List Loc) (ls : Array Slot), lv_has ls 3 [(0, .ref h0)] → va_P D cz_all (mw_ h0 h1 h2 h3 h4 h5 h6 h7 cI me rg so sv tl su qu wa ru pe re pn lo se pa sp iv) H → va_D A (mw_ h0 h1 h2 h3 h4 h5 h6 h7 cI me rg so sv tl su qu wa ru pe re pn lo se pa sp iv) → va_S A s.heap H locs → W p l e rm_m_serve s m ([.ref h0] : List Value).toArray below meth c H locs 0 0 (MQ below (qs_v D (ty_ cI cT) (mw_ h0 h1 h2 h3 h4 h5 h6 h7 cI z.1 z.2.1 z.2.2.1 z.2.2.2.1 z.2.2.2.2.1 su z.2.2.2.2.2.1 z.2.2.2.2.2.2.1 z.2.2.2.2.2.2.2.1 pe re z.2.2.2.2.2.2.2.2.1 lo z.2.2.2.2.2.2.2.2.2.1 pa z.2.2.2.2.2.2.2.2.2.2 iv) A) ([.ref h0] : List Value).toArray s 0 0 A) (F0 m 80 ls []) := by
    intro me rg so sv tl qu wa ru pn se sp hf H locs ls hl hP hD hS
    unfold mo_serve_j80 at hf
    refine lv_aload_n hx hb d_M_serve_80 rfl (lv_at hl 0 rfl) ?_
    obtain ⟨z9, hz9, hf⟩ := op_b hf
    refine cl_v X cw_M_179 hK hP hD hS hA hl (c_mo_next hz9) ⟨rfl, rfl, Nat.le_of_ble_eq_true rfl, Nat.le_of_ble_eq_true rfl⟩ 0 rfl rfl rfl rfl rfl (Nat.le_of_ble_eq_true rfl) d_M_serve_81 (fun H locs hP hD hS => ?_)
    have hq := Option.some.inj hf
    subst hq
    exact rt_v X hr hlk hK hP hD hS d_M_serve_84
  have L22 : ∀ (n_ : Nat) (v1 : Int32) (v2 : Int32) (me : Nat → Int32) (rg : Nat → Int32) (so : Nat → Int32) (sv : Nat → Int32) (tl : Nat → Int32) (qu : Nat → Int32) (wa : Int32) (ru : Int32) (pn : Bool) (se : Int32) (sp : Int32), mo_serve_l22 n_ v1 v2 me rg so sv tl qu wa ru pn se sp = some z → ∀ (H : Heap) (locs : List Loc) (ls : Array Slot), lv_has ls 3 [(0, .ref h0), (1, .int v1), (2, .int v2)] → va_P D cz_all (mw_ h0 h1 h2 h3 h4 h5 h6 h7 cI me rg so sv tl su qu wa ru pe re pn lo se pa sp iv) H → va_D A (mw_ h0 h1 h2 h3 h4 h5 h6 h7 cI me rg so sv tl su qu wa ru pe re pn lo se pa sp iv) → va_S A s.heap H locs → W p l e rm_m_serve s m ([.ref h0] : List Value).toArray below meth c H locs 0 0 (MQ below (qs_v D (ty_ cI cT) (mw_ h0 h1 h2 h3 h4 h5 h6 h7 cI z.1 z.2.1 z.2.2.1 z.2.2.2.1 z.2.2.2.2.1 su z.2.2.2.2.2.1 z.2.2.2.2.2.2.1 z.2.2.2.2.2.2.2.1 pe re z.2.2.2.2.2.2.2.2.1 lo z.2.2.2.2.2.2.2.2.2.1 pa z.2.2.2.2.2.2.2.2.2.2 iv) A) ([.ref h0] : List Value).toArray s 0 0 A) (F0 m 22 ls []) := by
    intro n_
    induction n_ with
    | zero => intro v1 v2 me rg so sv tl qu wa ru pn se sp hf; cases hf
    | succ n_ ih =>
      have J61 : ∀ (v1 : Int32) (v2 : Int32) (me : Nat → Int32) (rg : Nat → Int32) (so : Nat → Int32) (sv : Nat → Int32) (tl : Nat → Int32) (qu : Nat → Int32) (wa : Int32) (ru : Int32) (pn : Bool) (se : Int32) (sp : Int32), mo_serve_j61 (mo_serve_l22 n_) v1 v2 me rg so sv tl qu wa ru pn se sp = some z → ∀ (H : Heap) (locs : List Loc) (ls : Array Slot), lv_has ls 3 [(0, .ref h0), (1, .int v1), (2, .int v2)] → va_P D cz_all (mw_ h0 h1 h2 h3 h4 h5 h6 h7 cI me rg so sv tl su qu wa ru pe re pn lo se pa sp iv) H → va_D A (mw_ h0 h1 h2 h3 h4 h5 h6 h7 cI me rg so sv tl su qu wa ru pe re pn lo se pa sp iv) → va_S A s.heap H locs → W p l e rm_m_serve s m ([.ref h0] : List Value).toArray below meth c H locs 0 0 (MQ below (qs_v D (ty_ cI cT) (mw_ h0 h1 h2 h3 h4 h5 h6 h7 cI z.1 z.2.1 z.2.2.1 z.2.2.2.1 z.2.2.2.2.1 su z.2.2.2.2.2.1 z.2.2.2.2.2.2.1 z.2.2.2.2.2.2.2.1 pe re z.2.2.2.2.2.2.2.2.1 lo z.2.2.2.2.2.2.2.2.2.1 pa z.2.2.2.2.2.2.2.2.2.2 iv) A) ([.ref h0] : List Value).toArray s 0 0 A) (F0 m 61 ls []) := by
        intro v1 v2 me rg so sv tl qu wa ru pn se sp hf H locs ls hl hP hD hS
        unfold mo_serve_j61 at hf
        refine lv_iinc (k := 2) hx hb d_M_serve_61 hl rfl rfl (by decide) rfl (fun ls hl => ?_)
        have hl : lv_has ls 3 [(2, .int (v2 + Int32.ofInt 1)), (0, .ref h0), (1, .int v1)] := hl
        refine lv_goto (tgt := 22) hx hb d_M_serve_64 (by decide) ?_
        exact ih v1 (v2 + Int32.ofInt 1) me rg so sv tl qu wa ru pn se sp hf _ _ _ (lv_sub hl [1, 2, 0] rfl) hP hD hS
      intro v1 v2 me rg so sv tl qu wa ru pn se sp hf H locs ls hl hP hD hS
      replace hf := (mo_serve_l22_s n_ v1 v2 me rg so sv tl qu wa ru pn se sp).symm.trans hf
      refine lv_iload_n hx hb d_M_serve_22 rfl (lv_at hl 2 rfl) ?_
      refine lv_iconst (v := (4 : Int32)) hx hb d_M_serve_23 (by decide) ?_
      refine lv_icmp_ge (tgt := 67) hx hb d_M_serve_24 (by decide) (fun hc => ?_) (fun hc => ?_)
      · replace hf := (if_pos hc).symm.trans hf
        refine lv_iload_n hx hb d_M_serve_67 rfl (lv_at hl 1 rfl) ?_
        refine lv_if_lt (tgt := 80) hx hb d_M_serve_68 (by decide) (fun hc => ?_) (fun hc => ?_)
        · replace hf := (if_pos hc).symm.trans hf
          exact J80 me rg so sv tl qu wa ru pn se sp hf _ _ _ (lv_sub hl [0] rfl) hP hD hS
        · replace hf := (if_neg hc).symm.trans hf
          refine lv_aload_n hx hb d_M_serve_71 rfl (lv_at hl 0 rfl) ?_
          obtain ⟨z10, hz10, hf⟩ := op_b hf
          refine cl_v X cw_M_185 hK hP hD hS hA hl (c_mo_stack hz10) ⟨rfl, rfl, Nat.le_of_ble_eq_true rfl, Nat.le_of_ble_eq_true rfl⟩ 0 rfl rfl rfl rfl rfl (Nat.le_of_ble_eq_true rfl) d_M_serve_72 (fun H locs hP hD hS => ?_)
          refine lv_aload_n hx hb d_M_serve_75 rfl (lv_at hl 0 rfl) ?_
          refine lv_iload_n hx hb d_M_serve_76 rfl (lv_at hl 1 rfl) ?_
          obtain ⟨z11, hz11, hf⟩ := op_b hf
          refine cl_v X cw_M_182 hK hP hD hS hA hl (c_mo_comeLast hz11) ⟨rfl, rfl, Nat.le_of_ble_eq_true rfl, Nat.le_of_ble_eq_true rfl⟩ 0 rfl rfl rfl rfl rfl (Nat.le_of_ble_eq_true rfl) d_M_serve_77 (fun H locs hP hD hS => ?_)
          exact J80 z10.1 z10.2.1 z11.1 z10.2.2.1 tl z11.2.1 z11.2.2 z10.2.2.2.1 pn se z10.2.2.2.2 hf _ _ _ (lv_sub hl [0] rfl) hP hD hS
      · replace hf := (if_neg hc).symm.trans hf
        refine lv_aload_n hx hb d_M_serve_27 rfl (lv_at hl 0 rfl) ?_
        refine mg_stateOf X hK hP d_M_serve_28 ?_
        refine lv_iload_n hx hb d_M_serve_31 rfl (lv_at hl 2 rfl) ?_
        obtain ⟨hi12, hf⟩ := op_c hf
        refine ma_so (k := (v2.toNatClampNeg)) X hK hP hi12 rfl d_M_serve_32 ?_
        refine lv_iconst (v := (3 : Int32)) hx hb d_M_serve_33 (by decide) ?_
        refine lv_icmp_ne (tgt := 61) hx hb d_M_serve_34 (by decide) (fun hc => ?_) (fun hc => ?_)
        · replace hf := (if_neg hc).symm.trans hf
          exact J61 v1 v2 me rg so sv tl qu wa ru pn se sp hf _ _ _ hl hP hD hS
        · replace hf := (if_pos hc).symm.trans hf
          refine lv_aload_n hx hb d_M_serve_37 rfl (lv_at hl 0 rfl) ?_
          refine mg_toSleep X hK hP d_M_serve_38 ?_
          refine lv_iload_n hx hb d_M_serve_41 rfl (lv_at hl 2 rfl) ?_
          refine lv_dup2_11 hx hb d_M_serve_42 rfl rfl ?_
          refine ma_tl (k := (v2.toNatClampNeg)) X hK hP hi12 rfl d_M_serve_43 ?_
          refine lv_iconst (v := (1 : Int32)) hx hb d_M_serve_44 (by decide) ?_
          refine lv_isub hx hb d_M_serve_45 ?_
          refine ms_tl (k := (v2.toNatClampNeg)) X hK hP hD hS hi12 rfl d_M_serve_46 (fun H locs hP hD hS => ?_)
          refine lv_aload_n hx hb d_M_serve_47 rfl (lv_at hl 0 rfl) ?_
          refine mg_toSleep X hK hP d_M_serve_48 ?_
          refine lv_iload_n hx hb d_M_serve_51 rfl (lv_at hl 2 rfl) ?_
          refine ma_tl (k := (v2.toNatClampNeg)) X hK hP hi12 rfl d_M_serve_52 ?_
          refine lv_if_ne (tgt := 61) hx hb d_M_serve_53 (by decide) (fun hc => ?_) (fun hc => ?_)
          · replace hf := (if_neg hc).symm.trans hf
            exact J61 v1 v2 me rg so sv (upd tl (v2.toNatClampNeg) ((tl (v2.toNatClampNeg)) - (1 : Int32))) qu wa ru pn se sp hf _ _ _ hl hP hD hS
          · replace hf := (if_pos hc).symm.trans hf
            refine lv_aload_n hx hb d_M_serve_56 rfl (lv_at hl 0 rfl) ?_
            refine lv_iload_n hx hb d_M_serve_57 rfl (lv_at hl 2 rfl) ?_
            obtain ⟨z13, hz13, hf⟩ := op_b hf
            refine cl_v X cw_M_182 hK hP hD hS hA hl (c_mo_comeLast hz13) ⟨rfl, rfl, Nat.le_of_ble_eq_true rfl, Nat.le_of_ble_eq_true rfl⟩ 0 rfl rfl rfl rfl rfl (Nat.le_of_ble_eq_true rfl) d_M_serve_58 (fun H locs hP hD hS => ?_)
            exact J61 v1 v2 me rg z13.1 sv (upd tl (v2.toNatClampNeg) ((tl (v2.toNatClampNeg)) - (1 : Int32))) z13.2.1 z13.2.2 ru pn se sp hf _ _ _ hl hP hD hS
  unfold mo_serve at hf
  refine lv_aload_n hx hb d_M_serve_0 rfl (lv_at hl 0 rfl) ?_
  refine mg_running X hK hP d_M_serve_1 ?_
  refine lv_istore_n hx hb d_M_serve_4 rfl hl (by decide) rfl (fun ls hl => ?_)
  have hl : lv_has ls 3 [(1, .int ru), (0, .ref h0)] := hl
  refine lv_aload_n hx hb d_M_serve_5 rfl (lv_at hl 1 rfl) ?_
  refine lv_iconst (v := (0 : Int32)) hx hb d_M_serve_6 (by decide) ?_
  refine mp_pending (x := false) X hK hP hD hS d_M_serve_7 (fun H locs hP hD hS => ?_)
  refine lv_aload_n hx hb d_M_serve_10 rfl (lv_at hl 1 rfl) ?_
  refine lv_dup hx hb d_M_serve_11 rfl ?_
  refine mg_served X hK hP d_M_serve_12 ?_
  refine lv_iconst (v := (1 : Int32)) hx hb d_M_serve_15 (by decide) ?_
  refine lv_iadd hx hb d_M_serve_16 ?_
  refine mp_served (x := (se + (1 : Int32))) X hK hP hD hS d_M_serve_17 (fun H locs hP hD hS => ?_)
  refine lv_iconst (v := (0 : Int32)) hx hb d_M_serve_20 (by decide) ?_
  refine lv_istore_n hx hb d_M_serve_21 rfl hl (by decide) rfl (fun ls hl => ?_)
  have hl : lv_has ls 3 [(2, .int (0 : Int32)), (1, .int ru), (0, .ref h0)] := hl
  exact L22 5 ru (0 : Int32) me rg so sv tl qu wa ru false (se + (1 : Int32)) sp hf _ _ _ (lv_sub hl [2, 1, 0] rfl) hP hD hS
set_option maxHeartbeats 4000000 in
set_option maxRecDepth 100000 in
theorem c_mo_run {x1 : Int32} {z : Int32 × (Nat → Int32) × (Nat → Int32) × (Nat → Int32) × (Nat → Int32) × (Nat → Int32) × (Nat → Int32) × (Nat → Int32) × Int32 × Int32 × Int32 × Bool × Int32 × Int32 × Int32 × Int32 × Bool} (hf : mo_run x1 me rg so sv tl su qu wa ru pe re pn lo se pa sp iv = some z) : co_i l my_M_run mb_M_run 4 .int rm_m_run D (ty_ cI cT) [.ref h0, .int x1] (mw_ h0 h1 h2 h3 h4 h5 h6 h7 cI me rg so sv tl su qu wa ru pe re pn lo se pa sp iv) (mw_ h0 h1 h2 h3 h4 h5 h6 h7 cI z.2.1 z.2.2.1 z.2.2.2.1 z.2.2.2.2.1 z.2.2.2.2.2.1 z.2.2.2.2.2.2.1 z.2.2.2.2.2.2.2.1 z.2.2.2.2.2.2.2.2.1 z.2.2.2.2.2.2.2.2.2.1 pe z.2.2.2.2.2.2.2.2.2.2.1 z.2.2.2.2.2.2.2.2.2.2.2.1 z.2.2.2.2.2.2.2.2.2.2.2.2.1 z.2.2.2.2.2.2.2.2.2.2.2.2.2.1 z.2.2.2.2.2.2.2.2.2.2.2.2.2.2.1 z.2.2.2.2.2.2.2.2.2.2.2.2.2.2.2.1 z.2.2.2.2.2.2.2.2.2.2.2.2.2.2.2.2) z.1 := by
  refine co_i_of (by decide) (Nat.le_of_ble_eq_true rfl) ?_
  intro p e s m below meth c A ls X hr hlk hK hP hD hS hA hl
  have hx := X.1
  have hb := X.2.1
  have hl : lv_has ls 4 [(0, .ref h0), (1, .int x1)] := hl
  have L17 : ∀ (n_ : Nat) (v1 : Int32) (v2 : Int32) (v3 : Bool) (me : Nat → Int32) (rg : Nat → Int32) (so : Nat → Int32) (sv : Nat → Int32) (tl : Nat → Int32) (su : Nat → Int32) (qu : Nat → Int32) (wa : Int32) (ru : Int32) (pe : Int32) (re : Int32) (pn : Bool) (lo : Int32) (se : Int32) (pa : Int32) (sp : Int32) (iv : Bool), mo_run_l17 n_ v1 v2 v3 me rg so sv tl su qu wa ru pe re pn lo se pa sp iv = some z → ∀ (H : Heap) (locs : List Loc) (ls : Array Slot), lv_has ls 4 [(0, .ref h0), (1, .int v1), (2, .int v2), (3, .int (bz_i v3))] → va_P D cz_all (mw_ h0 h1 h2 h3 h4 h5 h6 h7 cI me rg so sv tl su qu wa ru pe re pn lo se pa sp iv) H → va_D A (mw_ h0 h1 h2 h3 h4 h5 h6 h7 cI me rg so sv tl su qu wa ru pe re pn lo se pa sp iv) → va_S A s.heap H locs → W p l e rm_m_run s m ([.ref h0, .int x1] : List Value).toArray below meth c H locs 0 0 (MQ below (qs_i D (ty_ cI cT) (mw_ h0 h1 h2 h3 h4 h5 h6 h7 cI z.2.1 z.2.2.1 z.2.2.2.1 z.2.2.2.2.1 z.2.2.2.2.2.1 z.2.2.2.2.2.2.1 z.2.2.2.2.2.2.2.1 z.2.2.2.2.2.2.2.2.1 z.2.2.2.2.2.2.2.2.2.1 pe z.2.2.2.2.2.2.2.2.2.2.1 z.2.2.2.2.2.2.2.2.2.2.2.1 z.2.2.2.2.2.2.2.2.2.2.2.2.1 z.2.2.2.2.2.2.2.2.2.2.2.2.2.1 z.2.2.2.2.2.2.2.2.2.2.2.2.2.2.1 z.2.2.2.2.2.2.2.2.2.2.2.2.2.2.2.1 z.2.2.2.2.2.2.2.2.2.2.2.2.2.2.2.2) z.1 A) ([.ref h0, .int x1] : List Value).toArray s 0 0 A) (F0 m 17 ls []) := by
    intro n_
    induction n_ with
    | zero => intro v1 v2 v3 me rg so sv tl su qu wa ru pe re pn lo se pa sp iv hf; cases hf
    | succ n_ ih =>
      have J105 : ∀ (v1 : Int32) (v3 : Bool) (s0 : Bool) (s1 : Int32) (me : Nat → Int32) (rg : Nat → Int32) (so : Nat → Int32) (sv : Nat → Int32) (tl : Nat → Int32) (su : Nat → Int32) (qu : Nat → Int32) (wa : Int32) (ru : Int32) (pe : Int32) (re : Int32) (pn : Bool) (lo : Int32) (se : Int32) (pa : Int32) (sp : Int32) (iv : Bool), mo_run_j105 (mo_run_l17 n_) v1 v3 s0 s1 me rg so sv tl su qu wa ru pe re pn lo se pa sp iv = some z → ∀ (H : Heap) (locs : List Loc) (ls : Array Slot), lv_has ls 4 [(0, .ref h0), (1, .int v1), (3, .int (bz_i v3))] → va_P D cz_all (mw_ h0 h1 h2 h3 h4 h5 h6 h7 cI me rg so sv tl su qu wa ru pe re pn lo se pa sp iv) H → va_D A (mw_ h0 h1 h2 h3 h4 h5 h6 h7 cI me rg so sv tl su qu wa ru pe re pn lo se pa sp iv) → va_S A s.heap H locs → W p l e rm_m_run s m ([.ref h0, .int x1] : List Value).toArray below meth c H locs 0 0 (MQ below (qs_i D (ty_ cI cT) (mw_ h0 h1 h2 h3 h4 h5 h6 h7 cI z.2.1 z.2.2.1 z.2.2.2.1 z.2.2.2.2.1 z.2.2.2.2.2.1 z.2.2.2.2.2.2.1 z.2.2.2.2.2.2.2.1 z.2.2.2.2.2.2.2.2.1 z.2.2.2.2.2.2.2.2.2.1 pe z.2.2.2.2.2.2.2.2.2.2.1 z.2.2.2.2.2.2.2.2.2.2.2.1 z.2.2.2.2.2.2.2.2.2.2.2.2.1 z.2.2.2.2.2.2.2.2.2.2.2.2.2.1 z.2.2.2.2.2.2.2.2.2.2.2.2.2.2.1 z.2.2.2.2.2.2.2.2.2.2.2.2.2.2.2.1 z.2.2.2.2.2.2.2.2.2.2.2.2.2.2.2.2) z.1 A) ([.ref h0, .int x1] : List Value).toArray s 0 0 A) (F0 m 105 ls [.int (bz_i s0), .int s1]) := by
        intro v1 v3 s0 s1 me rg so sv tl su qu wa ru pe re pn lo se pa sp iv hf H locs ls hl hP hD hS
        unfold mo_run_j105 at hf
        refine lv_iadd hx hb d_M_run_105 ?_
        refine lv_istore_n hx hb d_M_run_106 rfl hl (by decide) rfl (fun ls hl => ?_)
        have hl : lv_has ls 4 [(2, .int (s1 + (bz_i s0))), (0, .ref h0), (1, .int v1), (3, .int (bz_i v3))] := hl
        refine lv_goto (tgt := 17) hx hb d_M_run_107 (by decide) ?_
        exact ih v1 (s1 + (bz_i s0)) v3 me rg so sv tl su qu wa ru pe re pn lo se pa sp iv hf _ _ _ (lv_sub hl [1, 2, 0, 3] rfl) hP hD hS
      have J95 : ∀ (v1 : Int32) (v2 : Int32) (v3 : Bool) (me : Nat → Int32) (rg : Nat → Int32) (so : Nat → Int32) (sv : Nat → Int32) (tl : Nat → Int32) (su : Nat → Int32) (qu : Nat → Int32) (wa : Int32) (ru : Int32) (pe : Int32) (re : Int32) (pn : Bool) (lo : Int32) (se : Int32) (pa : Int32) (sp : Int32) (iv : Bool), mo_run_j95 (mo_run_l17 n_) v1 v2 v3 me rg so sv tl su qu wa ru pe re pn lo se pa sp iv = some z → ∀ (H : Heap) (locs : List Loc) (ls : Array Slot), lv_has ls 4 [(0, .ref h0), (1, .int v1), (2, .int v2), (3, .int (bz_i v3))] → va_P D cz_all (mw_ h0 h1 h2 h3 h4 h5 h6 h7 cI me rg so sv tl su qu wa ru pe re pn lo se pa sp iv) H → va_D A (mw_ h0 h1 h2 h3 h4 h5 h6 h7 cI me rg so sv tl su qu wa ru pe re pn lo se pa sp iv) → va_S A s.heap H locs → W p l e rm_m_run s m ([.ref h0, .int x1] : List Value).toArray below meth c H locs 0 0 (MQ below (qs_i D (ty_ cI cT) (mw_ h0 h1 h2 h3 h4 h5 h6 h7 cI z.2.1 z.2.2.1 z.2.2.2.1 z.2.2.2.2.1 z.2.2.2.2.2.1 z.2.2.2.2.2.2.1 z.2.2.2.2.2.2.2.1 z.2.2.2.2.2.2.2.2.1 z.2.2.2.2.2.2.2.2.2.1 pe z.2.2.2.2.2.2.2.2.2.2.1 z.2.2.2.2.2.2.2.2.2.2.2.1 z.2.2.2.2.2.2.2.2.2.2.2.2.1 z.2.2.2.2.2.2.2.2.2.2.2.2.2.1 z.2.2.2.2.2.2.2.2.2.2.2.2.2.2.1 z.2.2.2.2.2.2.2.2.2.2.2.2.2.2.2.1 z.2.2.2.2.2.2.2.2.2.2.2.2.2.2.2.2) z.1 A) ([.ref h0, .int x1] : List Value).toArray s 0 0 A) (F0 m 95 ls []) := by
        intro v1 v2 v3 me rg so sv tl su qu wa ru pe re pn lo se pa sp iv hf H locs ls hl hP hD hS
        unfold mo_run_j95 at hf
        refine lv_iload_n hx hb d_M_run_95 rfl (lv_at hl 2 rfl) ?_
        refine lv_iload_n hx hb d_M_run_96 rfl (lv_at hl 3 rfl) ?_
        refine lv_if_eq (tgt := 104) hx hb d_M_run_97 (by decide) (fun hc => ?_) (fun hc => ?_)
        · replace hf := (if_pos hc).symm.trans hf
          refine lv_iconst (v := (0 : Int32)) hx hb d_M_run_104 (by decide) ?_
          exact J105 v1 v3 false v2 me rg so sv tl su qu wa ru pe re pn lo se pa sp iv hf _ _ _ (lv_sub hl [0, 1, 3] rfl) hP hD hS
        · replace hf := (if_neg hc).symm.trans hf
          refine lv_iconst (v := (1 : Int32)) hx hb d_M_run_100 (by decide) ?_
          refine lv_goto (tgt := 105) hx hb d_M_run_101 (by decide) ?_
          exact J105 v1 v3 true v2 me rg so sv tl su qu wa ru pe re pn lo se pa sp iv hf _ _ _ (lv_sub hl [0, 1, 3] rfl) hP hD hS
      have J53 : ∀ (v1 : Int32) (v2 : Int32) (v3 : Bool) (me : Nat → Int32) (rg : Nat → Int32) (so : Nat → Int32) (sv : Nat → Int32) (tl : Nat → Int32) (su : Nat → Int32) (qu : Nat → Int32) (wa : Int32) (ru : Int32) (pe : Int32) (re : Int32) (pn : Bool) (lo : Int32) (se : Int32) (pa : Int32) (sp : Int32) (iv : Bool), mo_run_j53 (mo_run_l17 n_) v1 v2 v3 me rg so sv tl su qu wa ru pe re pn lo se pa sp iv = some z → ∀ (H : Heap) (locs : List Loc) (ls : Array Slot), lv_has ls 4 [(0, .ref h0), (1, .int v1), (2, .int v2), (3, .int (bz_i v3))] → va_P D cz_all (mw_ h0 h1 h2 h3 h4 h5 h6 h7 cI me rg so sv tl su qu wa ru pe re pn lo se pa sp iv) H → va_D A (mw_ h0 h1 h2 h3 h4 h5 h6 h7 cI me rg so sv tl su qu wa ru pe re pn lo se pa sp iv) → va_S A s.heap H locs → W p l e rm_m_run s m ([.ref h0, .int x1] : List Value).toArray below meth c H locs 0 0 (MQ below (qs_i D (ty_ cI cT) (mw_ h0 h1 h2 h3 h4 h5 h6 h7 cI z.2.1 z.2.2.1 z.2.2.2.1 z.2.2.2.2.1 z.2.2.2.2.2.1 z.2.2.2.2.2.2.1 z.2.2.2.2.2.2.2.1 z.2.2.2.2.2.2.2.2.1 z.2.2.2.2.2.2.2.2.2.1 pe z.2.2.2.2.2.2.2.2.2.2.1 z.2.2.2.2.2.2.2.2.2.2.2.1 z.2.2.2.2.2.2.2.2.2.2.2.2.1 z.2.2.2.2.2.2.2.2.2.2.2.2.2.1 z.2.2.2.2.2.2.2.2.2.2.2.2.2.2.1 z.2.2.2.2.2.2.2.2.2.2.2.2.2.2.2.1 z.2.2.2.2.2.2.2.2.2.2.2.2.2.2.2.2) z.1 A) ([.ref h0, .int x1] : List Value).toArray s 0 0 A) (F0 m 53 ls []) := by
        intro v1 v2 v3 me rg so sv tl su qu wa ru pe re pn lo se pa sp iv hf H locs ls hl hP hD hS
        unfold mo_run_j53 at hf
        refine lv_aload_n hx hb d_M_run_53 rfl (lv_at hl 0 rfl) ?_
        refine mg_running X hK hP d_M_run_54 ?_
        refine lv_if_lt (tgt := 75) hx hb d_M_run_57 (by decide) (fun hc => ?_) (fun hc => ?_)
        · replace hf := (if_pos hc).symm.trans hf
          refine lv_aload_n hx hb d_M_run_75 rfl (lv_at hl 0 rfl) ?_
          refine mg_period X hK hP d_M_run_76 ?_
          refine lv_if_le (tgt := 93) hx hb d_M_run_79 (by decide) (fun hc => ?_) (fun hc => ?_)
          · replace hf := (if_pos hc).symm.trans hf
            refine lv_iconst (v := (0 : Int32)) hx hb d_M_run_93 (by decide) ?_
            refine lv_istore_n hx hb d_M_run_94 rfl hl (by decide) rfl (fun ls hl => ?_)
            have hl : lv_has ls 4 [(3, .int (0 : Int32)), (0, .ref h0), (1, .int v1), (2, .int v2)] := hl
            exact J95 v1 v2 false me rg so sv tl su qu wa ru pe re pn lo se pa sp iv hf _ _ _ (lv_sub hl [1, 2, 3, 0] rfl) hP hD hS
          · replace hf := (if_neg hc).symm.trans hf
            refine lv_aload_n hx hb d_M_run_82 rfl (lv_at hl 0 rfl) ?_
            refine lv_aload_n hx hb d_M_run_83 rfl (lv_at hl 0 rfl) ?_
            refine mg_rest X hK hP d_M_run_84 ?_
            obtain ⟨z11, hz11, hf⟩ := op_b hf
            refine cl_v X cw_M_220 hK hP hD hS hA hl (c_mo_pass hz11) ⟨rfl, rfl, Nat.le_of_ble_eq_true rfl, Nat.le_of_ble_eq_true rfl⟩ 0 rfl rfl rfl rfl rfl (Nat.le_of_ble_eq_true rfl) d_M_run_87 (fun H locs hP hD hS => ?_)
            refine lv_goto (tgt := 95) hx hb d_M_run_90 (by decide) ?_
            exact J95 v1 v2 v3 me rg so sv tl su qu wa ru pe z11.1 z11.2.1 z11.2.2.1 se z11.2.2.2 sp iv hf _ _ _ hl hP hD hS
        · replace hf := (if_neg hc).symm.trans hf
          refine lv_aload_n hx hb d_M_run_60 rfl (lv_at hl 0 rfl) ?_
          obtain ⟨z12, hz12, hf⟩ := op_b hf
          refine cl_v X cw_M_217 hK hP hD hS hA hl (c_mo_instruction hz12) ⟨rfl, rfl, Nat.le_of_ble_eq_true rfl, Nat.le_of_ble_eq_true rfl⟩ 0 rfl rfl rfl rfl rfl (Nat.le_of_ble_eq_true rfl) d_M_run_61 (fun H locs hP hD hS => ?_)
          refine lv_aload_n hx hb d_M_run_64 rfl (lv_at hl 0 rfl) ?_
          refine lv_aload_n hx hb d_M_run_65 rfl (lv_at hl 0 rfl) ?_
          refine mg_spent X hK hP d_M_run_66 ?_
          obtain ⟨z13, hz13, hf⟩ := op_b hf
          refine cl_v X cw_M_220 hK hP hD hS hA hl (c_mo_pass hz13) ⟨rfl, rfl, Nat.le_of_ble_eq_true rfl, Nat.le_of_ble_eq_true rfl⟩ 0 rfl rfl rfl rfl rfl (Nat.le_of_ble_eq_true rfl) d_M_run_69 (fun H locs hP hD hS => ?_)
          refine lv_goto (tgt := 95) hx hb d_M_run_72 (by decide) ?_
          exact J95 v1 v2 v3 z12.1 z12.2.1 z12.2.2.1 z12.2.2.2.1 z12.2.2.2.2.1 z12.2.2.2.2.2.1 z12.2.2.2.2.2.2.1 z12.2.2.2.2.2.2.2.1 z12.2.2.2.2.2.2.2.2.1 pe z13.1 z13.2.1 z13.2.2.1 se z13.2.2.2 z12.2.2.2.2.2.2.2.2.2.1 z12.2.2.2.2.2.2.2.2.2.2 hf _ _ _ hl hP hD hS
      have J49 : ∀ (v1 : Int32) (v2 : Int32) (v3 : Bool) (me : Nat → Int32) (rg : Nat → Int32) (so : Nat → Int32) (sv : Nat → Int32) (tl : Nat → Int32) (su : Nat → Int32) (qu : Nat → Int32) (wa : Int32) (ru : Int32) (pe : Int32) (re : Int32) (pn : Bool) (lo : Int32) (se : Int32) (pa : Int32) (sp : Int32) (iv : Bool), mo_run_j49 (mo_run_l17 n_) v1 v2 v3 me rg so sv tl su qu wa ru pe re pn lo se pa sp iv = some z → ∀ (H : Heap) (locs : List Loc) (ls : Array Slot), lv_has ls 4 [(0, .ref h0), (1, .int v1), (2, .int v2), (3, .int (bz_i v3))] → va_P D cz_all (mw_ h0 h1 h2 h3 h4 h5 h6 h7 cI me rg so sv tl su qu wa ru pe re pn lo se pa sp iv) H → va_D A (mw_ h0 h1 h2 h3 h4 h5 h6 h7 cI me rg so sv tl su qu wa ru pe re pn lo se pa sp iv) → va_S A s.heap H locs → W p l e rm_m_run s m ([.ref h0, .int x1] : List Value).toArray below meth c H locs 0 0 (MQ below (qs_i D (ty_ cI cT) (mw_ h0 h1 h2 h3 h4 h5 h6 h7 cI z.2.1 z.2.2.1 z.2.2.2.1 z.2.2.2.2.1 z.2.2.2.2.2.1 z.2.2.2.2.2.2.1 z.2.2.2.2.2.2.2.1 z.2.2.2.2.2.2.2.2.1 z.2.2.2.2.2.2.2.2.2.1 pe z.2.2.2.2.2.2.2.2.2.2.1 z.2.2.2.2.2.2.2.2.2.2.2.1 z.2.2.2.2.2.2.2.2.2.2.2.2.1 z.2.2.2.2.2.2.2.2.2.2.2.2.2.1 z.2.2.2.2.2.2.2.2.2.2.2.2.2.2.1 z.2.2.2.2.2.2.2.2.2.2.2.2.2.2.2.1 z.2.2.2.2.2.2.2.2.2.2.2.2.2.2.2.2) z.1 A) ([.ref h0, .int x1] : List Value).toArray s 0 0 A) (F0 m 49 ls []) := by
        intro v1 v2 v3 me rg so sv tl su qu wa ru pe re pn lo se pa sp iv hf H locs ls hl hP hD hS
        unfold mo_run_j49 at hf
        refine lv_aload_n hx hb d_M_run_49 rfl (lv_at hl 0 rfl) ?_
        obtain ⟨z14, hz14, hf⟩ := op_b hf
        refine cl_v X cw_M_214 hK hP hD hS hA hl (c_mo_serve hz14) ⟨rfl, rfl, Nat.le_of_ble_eq_true rfl, Nat.le_of_ble_eq_true rfl⟩ 0 rfl rfl rfl rfl rfl (Nat.le_of_ble_eq_true rfl) d_M_run_50 (fun H locs hP hD hS => ?_)
        exact J53 v1 v2 v3 z14.1 z14.2.1 z14.2.2.1 z14.2.2.2.1 z14.2.2.2.2.1 su z14.2.2.2.2.2.1 z14.2.2.2.2.2.2.1 z14.2.2.2.2.2.2.2.1 pe re z14.2.2.2.2.2.2.2.2.1 lo z14.2.2.2.2.2.2.2.2.2.1 pa z14.2.2.2.2.2.2.2.2.2.2 iv hf _ _ _ hl hP hD hS
      intro v1 v2 v3 me rg so sv tl su qu wa ru pe re pn lo se pa sp iv hf H locs ls hl hP hD hS
      replace hf := (mo_run_l17_s n_ v1 v2 v3 me rg so sv tl su qu wa ru pe re pn lo se pa sp iv).symm.trans hf
      refine lv_iload_n hx hb d_M_run_17 rfl (lv_at hl 2 rfl) ?_
      refine lv_iload_n hx hb d_M_run_18 rfl (lv_at hl 1 rfl) ?_
      refine lv_icmp_ge (tgt := 110) hx hb d_M_run_19 (by decide) (fun hc => ?_) (fun hc => ?_)
      · replace hf := (if_pos hc).symm.trans hf
        refine lv_iload_n hx hb d_M_run_110 rfl (lv_at hl 2 rfl) ?_
        have hq := Option.some.inj hf
        subst hq
        exact rt_i (r := v2) X hr hlk hK rfl hP hD hS d_M_run_111
      · replace hf := (if_neg hc).symm.trans hf
        refine lv_iload_n hx hb d_M_run_22 rfl (lv_at hl 3 rfl) ?_
        refine lv_if_eq (tgt := 110) hx hb d_M_run_23 (by decide) (fun hc => ?_) (fun hc => ?_)
        · replace hf := (if_pos hc).symm.trans hf
          refine lv_iload_n hx hb d_M_run_110 rfl (lv_at hl 2 rfl) ?_
          have hq := Option.some.inj hf
          subst hq
          exact rt_i (r := v2) X hr hlk hK rfl hP hD hS d_M_run_111
        · replace hf := (if_neg hc).symm.trans hf
          refine lv_aload_n hx hb d_M_run_26 rfl (lv_at hl 0 rfl) ?_
          refine mg_pending X hK hP d_M_run_27 ?_
          refine lv_if_eq (tgt := 53) hx hb d_M_run_30 (by decide) (fun hc => ?_) (fun hc => ?_)
          · replace hf := (if_pos hc).symm.trans hf
            exact J53 v1 v2 v3 me rg so sv tl su qu wa ru pe re pn lo se pa sp iv hf _ _ _ hl hP hD hS
          · replace hf := (if_neg hc).symm.trans hf
            refine lv_aload_n hx hb d_M_run_33 rfl (lv_at hl 0 rfl) ?_
            refine mg_running X hK hP d_M_run_34 ?_
            refine lv_if_lt (tgt := 49) hx hb d_M_run_37 (by decide) (fun hc => ?_) (fun hc => ?_)
            · replace hf := (if_pos hc).symm.trans hf
              exact J49 v1 v2 v3 me rg so sv tl su qu wa ru pe re pn lo se pa sp iv hf _ _ _ hl hP hD hS
            · replace hf := (if_neg hc).symm.trans hf
              refine lv_aload_n hx hb d_M_run_40 rfl (lv_at hl 0 rfl) ?_
              refine lv_bipush (v := (16 : Int32)) hx hb d_M_run_41 (by decide) ?_
              obtain ⟨z15, hz15, hf⟩ := op_b hf
              refine cl_i X cw_M_101 hK hP hD hS hA hl (c_mo_flag hz15) ⟨rfl, rfl, Nat.le_of_ble_eq_true rfl, Nat.le_of_ble_eq_true rfl⟩ 0 rfl rfl rfl rfl rfl (Nat.le_of_ble_eq_true rfl) d_M_run_43 (fun H locs hP hD hS => ?_)
              refine lv_if_ne (tgt := 53) hx hb d_M_run_46 (by decide) (fun hc => ?_) (fun hc => ?_)
              · replace hf := (if_neg hc).symm.trans hf
                exact J53 v1 v2 v3 me rg so sv tl su qu wa ru pe re pn lo se pa sp iv hf _ _ _ hl hP hD hS
              · replace hf := (if_pos hc).symm.trans hf
                exact J49 v1 v2 v3 me rg so sv tl su qu wa ru pe re pn lo se pa sp iv hf _ _ _ hl hP hD hS
  unfold mo_run at hf
  refine lv_iload_n hx hb d_M_run_0 rfl (lv_at hl 1 rfl) ?_
  refine lv_if_lt (tgt := 11) hx hb d_M_run_1 (by decide) (fun hc => ?_) (fun hc => ?_)
  · replace hf := (if_pos hc).symm.trans hf
    refine lv_iconst (v := (-1 : Int32)) hx hb d_M_run_11 (by decide) ?_
    have hq := Option.some.inj hf
    subst hq
    exact rt_i (r := (-1 : Int32)) X hr hlk hK rfl hP hD hS d_M_run_12
  · replace hf := (if_neg hc).symm.trans hf
    refine lv_iload_n hx hb d_M_run_4 rfl (lv_at hl 1 rfl) ?_
    refine lv_sipush (v := (400 : Int32)) hx hb d_M_run_5 (by decide) ?_
    refine lv_icmp_le (tgt := 13) hx hb d_M_run_8 (by decide) (fun hc => ?_) (fun hc => ?_)
    · replace hf := (if_pos hc).symm.trans hf
      refine lv_iconst (v := (0 : Int32)) hx hb d_M_run_13 (by decide) ?_
      refine lv_istore_n hx hb d_M_run_14 rfl hl (by decide) rfl (fun ls hl => ?_)
      have hl : lv_has ls 4 [(2, .int (0 : Int32)), (0, .ref h0), (1, .int x1)] := hl
      refine lv_iconst (v := (1 : Int32)) hx hb d_M_run_15 (by decide) ?_
      refine lv_istore_n hx hb d_M_run_16 rfl hl (by decide) rfl (fun ls hl => ?_)
      have hl : lv_has ls 4 [(3, .int (1 : Int32)), (2, .int (0 : Int32)), (0, .ref h0), (1, .int x1)] := hl
      exact L17 401 x1 (0 : Int32) true me rg so sv tl su qu wa ru pe re pn lo se pa sp iv hf _ _ _ (lv_sub hl [2, 3, 1, 0] rfl) hP hD hS
    · replace hf := (if_neg hc).symm.trans hf
      refine lv_iconst (v := (-1 : Int32)) hx hb d_M_run_11 (by decide) ?_
      have hq := Option.some.inj hf
      subst hq
      exact rt_i (r := (-1 : Int32)) X hr hlk hK rfl hP hD hS d_M_run_12
set_option maxHeartbeats 4000000 in
set_option maxRecDepth 100000 in
theorem c_mo_poke {x1 : Int32} {x2 : Int32} {z : Int32 × (Nat → Int32)} (hf : mo_poke x1 x2 me = some z) : co_i l my_M_poke mb_M_poke 4 .int rm_m_poke D (ty_ cI cT) [.ref h0, .int x1, .int x2] (mw_ h0 h1 h2 h3 h4 h5 h6 h7 cI me rg so sv tl su qu wa ru pe re pn lo se pa sp iv) (mw_ h0 h1 h2 h3 h4 h5 h6 h7 cI z.2 rg so sv tl su qu wa ru pe re pn lo se pa sp iv) z.1 := by
  refine co_i_of (by decide) (Nat.le_of_ble_eq_true rfl) ?_
  intro p e s m below meth c A ls X hr hlk hK hP hD hS hA hl
  have hx := X.1
  have hb := X.2.1
  have hl : lv_has ls 4 [(0, .ref h0), (1, .int x1), (2, .int x2)] := hl
  unfold mo_poke at hf
  refine lv_iload_n hx hb d_M_poke_0 rfl (lv_at hl 1 rfl) ?_
  refine lv_if_lt (tgt := 22) hx hb d_M_poke_1 (by decide) (fun hc => ?_) (fun hc => ?_)
  · replace hf := (if_pos hc).symm.trans hf
    refine lv_iconst (v := (-1 : Int32)) hx hb d_M_poke_22 (by decide) ?_
    have hq := Option.some.inj hf
    subst hq
    exact rt_i (r := (-1 : Int32)) X hr hlk hK rfl hP hD hS d_M_poke_23
  · replace hf := (if_neg hc).symm.trans hf
    refine lv_iload_n hx hb d_M_poke_4 rfl (lv_at hl 1 rfl) ?_
    refine lv_sipush (v := (511 : Int32)) hx hb d_M_poke_5 (by decide) ?_
    refine lv_icmp_gt (tgt := 22) hx hb d_M_poke_8 (by decide) (fun hc => ?_) (fun hc => ?_)
    · replace hf := (if_pos hc).symm.trans hf
      refine lv_iconst (v := (-1 : Int32)) hx hb d_M_poke_22 (by decide) ?_
      have hq := Option.some.inj hf
      subst hq
      exact rt_i (r := (-1 : Int32)) X hr hlk hK rfl hP hD hS d_M_poke_23
    · replace hf := (if_neg hc).symm.trans hf
      refine lv_iload_n hx hb d_M_poke_11 rfl (lv_at hl 2 rfl) ?_
      refine lv_if_lt (tgt := 22) hx hb d_M_poke_12 (by decide) (fun hc => ?_) (fun hc => ?_)
      · replace hf := (if_pos hc).symm.trans hf
        refine lv_iconst (v := (-1 : Int32)) hx hb d_M_poke_22 (by decide) ?_
        have hq := Option.some.inj hf
        subst hq
        exact rt_i (r := (-1 : Int32)) X hr hlk hK rfl hP hD hS d_M_poke_23
      · replace hf := (if_neg hc).symm.trans hf
        refine lv_iload_n hx hb d_M_poke_15 rfl (lv_at hl 2 rfl) ?_
        refine lv_sipush (v := (255 : Int32)) hx hb d_M_poke_16 (by decide) ?_
        refine lv_icmp_le (tgt := 24) hx hb d_M_poke_19 (by decide) (fun hc => ?_) (fun hc => ?_)
        · replace hf := (if_pos hc).symm.trans hf
          refine lv_aload_n hx hb d_M_poke_24 rfl (lv_at hl 0 rfl) ?_
          refine mg_memory X hK hP d_M_poke_25 ?_
          refine lv_iload_n hx hb d_M_poke_28 rfl (lv_at hl 1 rfl) ?_
          obtain ⟨hi2, hf⟩ := op_c hf
          refine ma_me (k := (x1.toNatClampNeg)) X hK hP hi2 rfl d_M_poke_29 ?_
          refine lv_istore_n hx hb d_M_poke_30 rfl hl (by decide) rfl (fun ls hl => ?_)
          have hl : lv_has ls 4 [(3, .int (me (x1.toNatClampNeg))), (0, .ref h0), (1, .int x1), (2, .int x2)] := hl
          refine lv_aload_n hx hb d_M_poke_31 rfl (lv_at hl 1 rfl) ?_
          refine mg_memory X hK hP d_M_poke_32 ?_
          refine lv_iload_n hx hb d_M_poke_35 rfl (lv_at hl 2 rfl) ?_
          refine lv_iload_n hx hb d_M_poke_36 rfl (lv_at hl 3 rfl) ?_
          refine ms_me (k := (x1.toNatClampNeg)) X hK hP hD hS hi2 rfl d_M_poke_37 (fun H locs hP hD hS => ?_)
          refine lv_iload_n hx hb d_M_poke_38 rfl (lv_at hl 0 rfl) ?_
          have hq := Option.some.inj hf
          subst hq
          exact rt_i (r := (me (x1.toNatClampNeg))) X hr hlk hK rfl hP hD hS d_M_poke_39
        · replace hf := (if_neg hc).symm.trans hf
          refine lv_iconst (v := (-1 : Int32)) hx hb d_M_poke_22 (by decide) ?_
          have hq := Option.some.inj hf
          subst hq
          exact rt_i (r := (-1 : Int32)) X hr hlk hK rfl hP hD hS d_M_poke_23
set_option maxHeartbeats 4000000 in
set_option maxRecDepth 100000 in
theorem c_mo_peek {x1 : Int32} {z : Int32} (hf : mo_peek x1 me = some z) : co_i l my_M_peek mb_M_peek 2 .int rm_m_peek D (ty_ cI cT) [.ref h0, .int x1] (mw_ h0 h1 h2 h3 h4 h5 h6 h7 cI me rg so sv tl su qu wa ru pe re pn lo se pa sp iv) (mw_ h0 h1 h2 h3 h4 h5 h6 h7 cI me rg so sv tl su qu wa ru pe re pn lo se pa sp iv) z := by
  refine co_i_of (by decide) (Nat.le_of_ble_eq_true rfl) ?_
  intro p e s m below meth c A ls X hr hlk hK hP hD hS hA hl
  have hx := X.1
  have hb := X.2.1
  have hl : lv_has ls 2 [(0, .ref h0), (1, .int x1)] := hl
  have J11 : ∀ (me : Nat → Int32), mo_peek_j11 me = some z → ∀ (H : Heap) (locs : List Loc) (ls : Array Slot), lv_has ls 2 [] → va_P D cz_all (mw_ h0 h1 h2 h3 h4 h5 h6 h7 cI me rg so sv tl su qu wa ru pe re pn lo se pa sp iv) H → va_D A (mw_ h0 h1 h2 h3 h4 h5 h6 h7 cI me rg so sv tl su qu wa ru pe re pn lo se pa sp iv) → va_S A s.heap H locs → W p l e rm_m_peek s m ([.ref h0, .int x1] : List Value).toArray below meth c H locs 0 0 (MQ below (qs_i D (ty_ cI cT) (mw_ h0 h1 h2 h3 h4 h5 h6 h7 cI me rg so sv tl su qu wa ru pe re pn lo se pa sp iv) z A) ([.ref h0, .int x1] : List Value).toArray s 0 0 A) (F0 m 11 ls []) := by
    intro me hf H locs ls hl hP hD hS
    unfold mo_peek_j11 at hf
    refine lv_iconst (v := (-1 : Int32)) hx hb d_M_peek_11 (by decide) ?_
    refine lv_goto (tgt := 21) hx hb d_M_peek_12 (by decide) ?_
    have hq := Option.some.inj hf
    subst hq
    exact rt_i (r := (-1 : Int32)) X hr hlk hK rfl hP hD hS d_M_peek_21
  unfold mo_peek at hf
  refine lv_iload_n hx hb d_M_peek_0 rfl (lv_at hl 1 rfl) ?_
  refine lv_if_lt (tgt := 11) hx hb d_M_peek_1 (by decide) (fun hc => ?_) (fun hc => ?_)
  · replace hf := (if_pos hc).symm.trans hf
    exact J11 me hf _ _ _ (lv_sub hl [] rfl) hP hD hS
  · replace hf := (if_neg hc).symm.trans hf
    refine lv_iload_n hx hb d_M_peek_4 rfl (lv_at hl 1 rfl) ?_
    refine lv_sipush (v := (511 : Int32)) hx hb d_M_peek_5 (by decide) ?_
    refine lv_icmp_le (tgt := 15) hx hb d_M_peek_8 (by decide) (fun hc => ?_) (fun hc => ?_)
    · replace hf := (if_pos hc).symm.trans hf
      refine lv_aload_n hx hb d_M_peek_15 rfl (lv_at hl 0 rfl) ?_
      refine mg_memory X hK hP d_M_peek_16 ?_
      refine lv_iload_n hx hb d_M_peek_19 rfl (lv_at hl 1 rfl) ?_
      obtain ⟨hi2, hf⟩ := op_c hf
      refine ma_me (k := (x1.toNatClampNeg)) X hK hP hi2 rfl d_M_peek_20 ?_
      have hq := Option.some.inj hf
      subst hq
      exact rt_i (r := (me (x1.toNatClampNeg))) X hr hlk hK rfl hP hD hS d_M_peek_21
    · replace hf := (if_neg hc).symm.trans hf
      exact J11 me hf _ _ _ (lv_sub hl [] rfl) hP hD hS
set_option maxHeartbeats 4000000 in
set_option maxRecDepth 100000 in
theorem c_mo_noTask {x1 : Int32} {z : Bool} (hf : mo_noTask x1 = some z) : co_i l my_M_noTask mb_M_noTask 1 .boolean rm_m_noTask D (ty_ cI cT) [.int x1] (mw_ h0 h1 h2 h3 h4 h5 h6 h7 cI me rg so sv tl su qu wa ru pe re pn lo se pa sp iv) (mw_ h0 h1 h2 h3 h4 h5 h6 h7 cI me rg so sv tl su qu wa ru pe re pn lo se pa sp iv) (bz_i z) := by
  refine co_i_of (by decide) (Nat.le_of_ble_eq_true rfl) ?_
  intro p e s m below meth c A ls X hr hlk hK hP hD hS hA hl
  have hx := X.1
  have hb := X.2.1
  have hl : lv_has ls 1 [(0, .int x1)] := hl
  have J9 : ∀ (_ : True), mo_noTask_j9  = some z → ∀ (H : Heap) (locs : List Loc) (ls : Array Slot), lv_has ls 1 [] → va_P D cz_all (mw_ h0 h1 h2 h3 h4 h5 h6 h7 cI me rg so sv tl su qu wa ru pe re pn lo se pa sp iv) H → va_D A (mw_ h0 h1 h2 h3 h4 h5 h6 h7 cI me rg so sv tl su qu wa ru pe re pn lo se pa sp iv) → va_S A s.heap H locs → W p l e rm_m_noTask s m ([.int x1] : List Value).toArray below meth c H locs 0 0 (MQ below (qs_i D (ty_ cI cT) (mw_ h0 h1 h2 h3 h4 h5 h6 h7 cI me rg so sv tl su qu wa ru pe re pn lo se pa sp iv) (bz_i z) A) ([.int x1] : List Value).toArray s 0 0 A) (F0 m 9 ls []) := by
    intro _ hf H locs ls hl hP hD hS
    unfold mo_noTask_j9 at hf
    refine lv_iconst (v := (1 : Int32)) hx hb d_M_noTask_9 (by decide) ?_
    refine lv_goto (tgt := 14) hx hb d_M_noTask_10 (by decide) ?_
    have hq := Option.some.inj hf
    subst hq
    exact rt_i (r := bz_i true) X hr hlk hK (bz_n _) hP hD hS d_M_noTask_14
  unfold mo_noTask at hf
  refine lv_iload_n hx hb d_M_noTask_0 rfl (lv_at hl 0 rfl) ?_
  refine lv_if_lt (tgt := 9) hx hb d_M_noTask_1 (by decide) (fun hc => ?_) (fun hc => ?_)
  · replace hf := (if_pos hc).symm.trans hf
    exact J9 trivial hf _ _ _ (lv_sub hl [] rfl) hP hD hS
  · replace hf := (if_neg hc).symm.trans hf
    refine lv_iload_n hx hb d_M_noTask_4 rfl (lv_at hl 0 rfl) ?_
    refine lv_iconst (v := (3 : Int32)) hx hb d_M_noTask_5 (by decide) ?_
    refine lv_icmp_le (tgt := 13) hx hb d_M_noTask_6 (by decide) (fun hc => ?_) (fun hc => ?_)
    · replace hf := (if_pos hc).symm.trans hf
      refine lv_iconst (v := (0 : Int32)) hx hb d_M_noTask_13 (by decide) ?_
      have hq := Option.some.inj hf
      subst hq
      exact rt_i (r := bz_i false) X hr hlk hK (bz_n _) hP hD hS d_M_noTask_14
    · replace hf := (if_neg hc).symm.trans hf
      exact J9 trivial hf _ _ _ (lv_sub hl [] rfl) hP hD hS
set_option maxHeartbeats 4000000 in
set_option maxRecDepth 100000 in
theorem c_mo_start {x1 : Int32} {x2 : Int32} {x3 : Int32} {z : Bool × (Nat → Int32) × (Nat → Int32) × (Nat → Int32) × (Nat → Int32) × (Nat → Int32) × Int32 × Int32 × Int32} (hf : mo_start x1 x2 x3 me rg so sv qu wa ru sp = some z) : co_i l my_M_start mb_M_start 4 .boolean rm_m_start D (ty_ cI cT) [.ref h0, .int x1, .int x2, .int x3] (mw_ h0 h1 h2 h3 h4 h5 h6 h7 cI me rg so sv tl su qu wa ru pe re pn lo se pa sp iv) (mw_ h0 h1 h2 h3 h4 h5 h6 h7 cI z.2.1 z.2.2.1 z.2.2.2.1 z.2.2.2.2.1 tl su z.2.2.2.2.2.1 z.2.2.2.2.2.2.1 z.2.2.2.2.2.2.2.1 pe re pn lo se pa z.2.2.2.2.2.2.2.2 iv) (bz_i z.1) := by
  refine co_i_of (by decide) (Nat.le_of_ble_eq_true rfl) ?_
  intro p e s m below meth c A ls X hr hlk hK hP hD hS hA hl
  have hx := X.1
  have hb := X.2.1
  have hl : lv_has ls 4 [(0, .ref h0), (1, .int x1), (2, .int x2), (3, .int x3)] := hl
  unfold mo_start at hf
  refine lv_iload_n hx hb d_M_start_0 rfl (lv_at hl 1 rfl) ?_
  obtain ⟨z5, hz5, hf⟩ := op_b hf
  refine cl_si X cw_M_223 hK hP hD hS hA hl (c_mo_noTask hz5) ⟨rfl, rfl, Nat.le_of_ble_eq_true rfl, Nat.le_of_ble_eq_true rfl⟩ rfl rfl (Nat.le_of_ble_eq_true rfl) d_M_start_1 (fun H locs hP hD hS => ?_)
  refine lv_if_ne (tgt := 37) hx hb d_M_start_4 (by decide) (fun hc => ?_) (fun hc => ?_)
  · replace hf := (if_neg hc).symm.trans hf
    refine lv_iconst (v := (0 : Int32)) hx hb d_M_start_37 (by decide) ?_
    have hq := Option.some.inj hf
    subst hq
    exact rt_i (r := bz_i false) X hr hlk hK (bz_n _) hP hD hS d_M_start_38
  · replace hf := (if_pos hc).symm.trans hf
    refine lv_aload_n hx hb d_M_start_7 rfl (lv_at hl 0 rfl) ?_
    refine mg_stateOf X hK hP d_M_start_8 ?_
    refine lv_iload_n hx hb d_M_start_11 rfl (lv_at hl 1 rfl) ?_
    obtain ⟨hi6, hf⟩ := op_c hf
    refine ma_so (k := (x1.toNatClampNeg)) X hK hP hi6 rfl d_M_start_12 ?_
    refine lv_if_ne (tgt := 37) hx hb d_M_start_13 (by decide) (fun hc => ?_) (fun hc => ?_)
    · replace hf := (if_neg hc).symm.trans hf
      refine lv_iconst (v := (0 : Int32)) hx hb d_M_start_37 (by decide) ?_
      have hq := Option.some.inj hf
      subst hq
      exact rt_i (r := bz_i false) X hr hlk hK (bz_n _) hP hD hS d_M_start_38
    · replace hf := (if_pos hc).symm.trans hf
      refine lv_iload_n hx hb d_M_start_16 rfl (lv_at hl 2 rfl) ?_
      refine lv_if_lt (tgt := 37) hx hb d_M_start_17 (by decide) (fun hc => ?_) (fun hc => ?_)
      · replace hf := (if_pos hc).symm.trans hf
        refine lv_iconst (v := (0 : Int32)) hx hb d_M_start_37 (by decide) ?_
        have hq := Option.some.inj hf
        subst hq
        exact rt_i (r := bz_i false) X hr hlk hK (bz_n _) hP hD hS d_M_start_38
      · replace hf := (if_neg hc).symm.trans hf
        refine lv_iload_n hx hb d_M_start_20 rfl (lv_at hl 2 rfl) ?_
        refine lv_ldc (v := (65535 : Int32)) hx hb X.2.2.2.1 (X.2.2.2.2 _ wd_0) d_M_start_21 ?_
        refine lv_icmp_gt (tgt := 37) hx hb d_M_start_23 (by decide) (fun hc => ?_) (fun hc => ?_)
        · replace hf := (if_pos hc).symm.trans hf
          refine lv_iconst (v := (0 : Int32)) hx hb d_M_start_37 (by decide) ?_
          have hq := Option.some.inj hf
          subst hq
          exact rt_i (r := bz_i false) X hr hlk hK (bz_n _) hP hD hS d_M_start_38
        · replace hf := (if_neg hc).symm.trans hf
          refine lv_iload_n hx hb d_M_start_26 rfl (lv_at hl 3 rfl) ?_
          refine lv_if_lt (tgt := 37) hx hb d_M_start_27 (by decide) (fun hc => ?_) (fun hc => ?_)
          · replace hf := (if_pos hc).symm.trans hf
            refine lv_iconst (v := (0 : Int32)) hx hb d_M_start_37 (by decide) ?_
            have hq := Option.some.inj hf
            subst hq
            exact rt_i (r := bz_i false) X hr hlk hK (bz_n _) hP hD hS d_M_start_38
          · replace hf := (if_neg hc).symm.trans hf
            refine lv_iload_n hx hb d_M_start_30 rfl (lv_at hl 3 rfl) ?_
            refine lv_sipush (v := (255 : Int32)) hx hb d_M_start_31 (by decide) ?_
            refine lv_icmp_le (tgt := 39) hx hb d_M_start_34 (by decide) (fun hc => ?_) (fun hc => ?_)
            · replace hf := (if_pos hc).symm.trans hf
              refine lv_aload_n hx hb d_M_start_39 rfl (lv_at hl 0 rfl) ?_
              refine lv_iload_n hx hb d_M_start_40 rfl (lv_at hl 1 rfl) ?_
              refine lv_iload_n hx hb d_M_start_41 rfl (lv_at hl 2 rfl) ?_
              refine lv_iload_n hx hb d_M_start_42 rfl (lv_at hl 3 rfl) ?_
              obtain ⟨z7, hz7, hf⟩ := op_b hf
              refine cl_v X cw_M_192 hK hP hD hS hA hl (c_mo_begin hz7) ⟨rfl, rfl, Nat.le_of_ble_eq_true rfl, Nat.le_of_ble_eq_true rfl⟩ 0 rfl rfl rfl rfl rfl (Nat.le_of_ble_eq_true rfl) d_M_start_43 (fun H locs hP hD hS => ?_)
              refine lv_aload_n hx hb d_M_start_46 rfl (lv_at hl 0 rfl) ?_
              obtain ⟨z8, hz8, hf⟩ := op_b hf
              refine cl_v X cw_M_179 hK hP hD hS hA hl (c_mo_next hz8) ⟨rfl, rfl, Nat.le_of_ble_eq_true rfl, Nat.le_of_ble_eq_true rfl⟩ 0 rfl rfl rfl rfl rfl (Nat.le_of_ble_eq_true rfl) d_M_start_47 (fun H locs hP hD hS => ?_)
              refine lv_iconst (v := (1 : Int32)) hx hb d_M_start_50 (by decide) ?_
              have hq := Option.some.inj hf
              subst hq
              exact rt_i (r := bz_i true) X hr hlk hK (bz_n _) hP hD hS d_M_start_51
            · replace hf := (if_neg hc).symm.trans hf
              refine lv_iconst (v := (0 : Int32)) hx hb d_M_start_37 (by decide) ?_
              have hq := Option.some.inj hf
              subst hq
              exact rt_i (r := bz_i false) X hr hlk hK (bz_n _) hP hD hS d_M_start_38
set_option maxHeartbeats 4000000 in
set_option maxRecDepth 100000 in
theorem c_mo_stop {x1 : Int32} {z : Bool × (Nat → Int32) × (Nat → Int32) × (Nat → Int32) × (Nat → Int32) × (Nat → Int32) × Int32 × Int32 × Int32} (hf : mo_stop x1 me rg so sv tl su qu wa ru sp = some z) : co_i l my_M_stop mb_M_stop 2 .boolean rm_m_stop D (ty_ cI cT) [.ref h0, .int x1] (mw_ h0 h1 h2 h3 h4 h5 h6 h7 cI me rg so sv tl su qu wa ru pe re pn lo se pa sp iv) (mw_ h0 h1 h2 h3 h4 h5 h6 h7 cI me z.2.1 z.2.2.1 sv z.2.2.2.1 z.2.2.2.2.1 z.2.2.2.2.2.1 z.2.2.2.2.2.2.1 z.2.2.2.2.2.2.2.1 pe re pn lo se pa z.2.2.2.2.2.2.2.2 iv) (bz_i z.1) := by
  refine co_i_of (by decide) (Nat.le_of_ble_eq_true rfl) ?_
  intro p e s m below meth c A ls X hr hlk hK hP hD hS hA hl
  have hx := X.1
  have hb := X.2.1
  have hl : lv_has ls 2 [(0, .ref h0), (1, .int x1)] := hl
  unfold mo_stop at hf
  refine lv_iload_n hx hb d_M_stop_0 rfl (lv_at hl 1 rfl) ?_
  obtain ⟨z4, hz4, hf⟩ := op_b hf
  refine cl_si X cw_M_223 hK hP hD hS hA hl (c_mo_noTask hz4) ⟨rfl, rfl, Nat.le_of_ble_eq_true rfl, Nat.le_of_ble_eq_true rfl⟩ rfl rfl (Nat.le_of_ble_eq_true rfl) d_M_stop_1 (fun H locs hP hD hS => ?_)
  refine lv_if_ne (tgt := 16) hx hb d_M_stop_4 (by decide) (fun hc => ?_) (fun hc => ?_)
  · replace hf := (if_neg hc).symm.trans hf
    refine lv_iconst (v := (0 : Int32)) hx hb d_M_stop_16 (by decide) ?_
    have hq := Option.some.inj hf
    subst hq
    exact rt_i (r := bz_i false) X hr hlk hK (bz_n _) hP hD hS d_M_stop_17
  · replace hf := (if_pos hc).symm.trans hf
    refine lv_aload_n hx hb d_M_stop_7 rfl (lv_at hl 0 rfl) ?_
    refine mg_stateOf X hK hP d_M_stop_8 ?_
    refine lv_iload_n hx hb d_M_stop_11 rfl (lv_at hl 1 rfl) ?_
    obtain ⟨hi5, hf⟩ := op_c hf
    refine ma_so (k := (x1.toNatClampNeg)) X hK hP hi5 rfl d_M_stop_12 ?_
    refine lv_if_ne (tgt := 18) hx hb d_M_stop_13 (by decide) (fun hc => ?_) (fun hc => ?_)
    · replace hf := (if_neg hc).symm.trans hf
      refine lv_aload_n hx hb d_M_stop_18 rfl (lv_at hl 0 rfl) ?_
      refine lv_iload_n hx hb d_M_stop_19 rfl (lv_at hl 1 rfl) ?_
      refine lv_sipush (v := (254 : Int32)) hx hb d_M_stop_20 (by decide) ?_
      obtain ⟨z6, hz6, hf⟩ := op_b hf
      refine cl_v X cw_M_164 hK hP hD hS hA hl (c_mo_end hz6) ⟨rfl, rfl, Nat.le_of_ble_eq_true rfl, Nat.le_of_ble_eq_true rfl⟩ 0 rfl rfl rfl rfl rfl (Nat.le_of_ble_eq_true rfl) d_M_stop_23 (fun H locs hP hD hS => ?_)
      refine lv_iconst (v := (1 : Int32)) hx hb d_M_stop_26 (by decide) ?_
      have hq := Option.some.inj hf
      subst hq
      exact rt_i (r := bz_i true) X hr hlk hK (bz_n _) hP hD hS d_M_stop_27
    · replace hf := (if_pos hc).symm.trans hf
      refine lv_iconst (v := (0 : Int32)) hx hb d_M_stop_16 (by decide) ?_
      have hq := Option.some.inj hf
      subst hq
      exact rt_i (r := bz_i false) X hr hlk hK (bz_n _) hP hD hS d_M_stop_17
set_option maxHeartbeats 4000000 in
set_option maxRecDepth 100000 in
theorem c_mo_timer {x1 : Int32} {z : Bool × Int32 × Int32} (hf : mo_timer x1 pe re = some z) : co_i l my_M_timer mb_M_timer 2 .boolean rm_m_timer D (ty_ cI cT) [.ref h0, .int x1] (mw_ h0 h1 h2 h3 h4 h5 h6 h7 cI me rg so sv tl su qu wa ru pe re pn lo se pa sp iv) (mw_ h0 h1 h2 h3 h4 h5 h6 h7 cI me rg so sv tl su qu wa ru z.2.1 z.2.2 pn lo se pa sp iv) (bz_i z.1) := by
  refine co_i_of (by decide) (Nat.le_of_ble_eq_true rfl) ?_
  intro p e s m below meth c A ls X hr hlk hK hP hD hS hA hl
  have hx := X.1
  have hb := X.2.1
  have hl : lv_has ls 2 [(0, .ref h0), (1, .int x1)] := hl
  have J19 : ∀ (v1 : Int32) (pe : Int32) (re : Int32), mo_timer_j19 v1 pe re = some z → ∀ (H : Heap) (locs : List Loc) (ls : Array Slot), lv_has ls 2 [(0, .ref h0), (1, .int v1)] → va_P D cz_all (mw_ h0 h1 h2 h3 h4 h5 h6 h7 cI me rg so sv tl su qu wa ru pe re pn lo se pa sp iv) H → va_D A (mw_ h0 h1 h2 h3 h4 h5 h6 h7 cI me rg so sv tl su qu wa ru pe re pn lo se pa sp iv) → va_S A s.heap H locs → W p l e rm_m_timer s m ([.ref h0, .int x1] : List Value).toArray below meth c H locs 0 0 (MQ below (qs_i D (ty_ cI cT) (mw_ h0 h1 h2 h3 h4 h5 h6 h7 cI me rg so sv tl su qu wa ru z.2.1 z.2.2 pn lo se pa sp iv) (bz_i z.1) A) ([.ref h0, .int x1] : List Value).toArray s 0 0 A) (F0 m 19 ls []) := by
    intro v1 pe re hf H locs ls hl hP hD hS
    unfold mo_timer_j19 at hf
    refine lv_aload_n hx hb d_M_timer_19 rfl (lv_at hl 0 rfl) ?_
    refine lv_iload_n hx hb d_M_timer_20 rfl (lv_at hl 1 rfl) ?_
    refine mp_period (x := v1) X hK hP hD hS d_M_timer_21 (fun H locs hP hD hS => ?_)
    refine lv_aload_n hx hb d_M_timer_24 rfl (lv_at hl 0 rfl) ?_
    refine lv_iload_n hx hb d_M_timer_25 rfl (lv_at hl 1 rfl) ?_
    refine mp_rest (x := v1) X hK hP hD hS d_M_timer_26 (fun H locs hP hD hS => ?_)
    refine lv_iconst (v := (1 : Int32)) hx hb d_M_timer_29 (by decide) ?_
    have hq := Option.some.inj hf
    subst hq
    exact rt_i (r := bz_i true) X hr hlk hK (bz_n _) hP hD hS d_M_timer_30
  unfold mo_timer at hf
  refine lv_iload_n hx hb d_M_timer_0 rfl (lv_at hl 1 rfl) ?_
  refine lv_if_eq (tgt := 19) hx hb d_M_timer_1 (by decide) (fun hc => ?_) (fun hc => ?_)
  · replace hf := (if_pos hc).symm.trans hf
    exact J19 x1 pe re hf _ _ _ hl hP hD hS
  · replace hf := (if_neg hc).symm.trans hf
    refine lv_iload_n hx hb d_M_timer_4 rfl (lv_at hl 1 rfl) ?_
    refine lv_bipush (v := (16 : Int32)) hx hb d_M_timer_5 (by decide) ?_
    refine lv_icmp_lt (tgt := 17) hx hb d_M_timer_7 (by decide) (fun hc => ?_) (fun hc => ?_)
    · replace hf := (if_pos hc).symm.trans hf
      refine lv_iconst (v := (0 : Int32)) hx hb d_M_timer_17 (by decide) ?_
      have hq := Option.some.inj hf
      subst hq
      exact rt_i (r := bz_i false) X hr hlk hK (bz_n _) hP hD hS d_M_timer_18
    · replace hf := (if_neg hc).symm.trans hf
      refine lv_iload_n hx hb d_M_timer_10 rfl (lv_at hl 1 rfl) ?_
      refine lv_sipush (v := (1000 : Int32)) hx hb d_M_timer_11 (by decide) ?_
      refine lv_icmp_le (tgt := 19) hx hb d_M_timer_14 (by decide) (fun hc => ?_) (fun hc => ?_)
      · replace hf := (if_pos hc).symm.trans hf
        exact J19 x1 pe re hf _ _ _ hl hP hD hS
      · replace hf := (if_neg hc).symm.trans hf
        refine lv_iconst (v := (0 : Int32)) hx hb d_M_timer_17 (by decide) ?_
        have hq := Option.some.inj hf
        subst hq
        exact rt_i (r := bz_i false) X hr hlk hK (bz_n _) hP hD hS d_M_timer_18
set_option maxHeartbeats 4000000 in
set_option maxRecDepth 100000 in
theorem c_mo_state {x1 : Int32} {z : Int32} (hf : mo_state x1 so = some z) : co_i l my_M_state mb_M_state 2 .int rm_m_state D (ty_ cI cT) [.ref h0, .int x1] (mw_ h0 h1 h2 h3 h4 h5 h6 h7 cI me rg so sv tl su qu wa ru pe re pn lo se pa sp iv) (mw_ h0 h1 h2 h3 h4 h5 h6 h7 cI me rg so sv tl su qu wa ru pe re pn lo se pa sp iv) z := by
  refine co_i_of (by decide) (Nat.le_of_ble_eq_true rfl) ?_
  intro p e s m below meth c A ls X hr hlk hK hP hD hS hA hl
  have hx := X.1
  have hb := X.2.1
  have hl : lv_has ls 2 [(0, .ref h0), (1, .int x1)] := hl
  unfold mo_state at hf
  refine lv_iload_n hx hb d_M_state_0 rfl (lv_at hl 1 rfl) ?_
  obtain ⟨z3, hz3, hf⟩ := op_b hf
  refine cl_si X cw_M_223 hK hP hD hS hA hl (c_mo_noTask hz3) ⟨rfl, rfl, Nat.le_of_ble_eq_true rfl, Nat.le_of_ble_eq_true rfl⟩ rfl rfl (Nat.le_of_ble_eq_true rfl) d_M_state_1 (fun H locs hP hD hS => ?_)
  refine lv_if_eq (tgt := 11) hx hb d_M_state_4 (by decide) (fun hc => ?_) (fun hc => ?_)
  · replace hf := (if_pos hc).symm.trans hf
    refine lv_aload_n hx hb d_M_state_11 rfl (lv_at hl 0 rfl) ?_
    refine mg_stateOf X hK hP d_M_state_12 ?_
    refine lv_iload_n hx hb d_M_state_15 rfl (lv_at hl 1 rfl) ?_
    obtain ⟨hi4, hf⟩ := op_c hf
    refine ma_so (k := (x1.toNatClampNeg)) X hK hP hi4 rfl d_M_state_16 ?_
    have hq := Option.some.inj hf
    subst hq
    exact rt_i (r := (so (x1.toNatClampNeg))) X hr hlk hK rfl hP hD hS d_M_state_17
  · replace hf := (if_neg hc).symm.trans hf
    refine lv_iconst (v := (-1 : Int32)) hx hb d_M_state_7 (by decide) ?_
    refine lv_goto (tgt := 17) hx hb d_M_state_8 (by decide) ?_
    have hq := Option.some.inj hf
    subst hq
    exact rt_i (r := (-1 : Int32)) X hr hlk hK rfl hP hD hS d_M_state_17
set_option maxHeartbeats 4000000 in
set_option maxRecDepth 100000 in
theorem c_mo_inFrame {x1 : Int32} {x2 : Int32} {z : Int32} (hf : mo_inFrame x1 x2 me = some z) : co_i l my_M_inFrame mb_M_inFrame 4 .int rm_m_inFrame D (ty_ cI cT) [.ref h0, .int x1, .int x2] (mw_ h0 h1 h2 h3 h4 h5 h6 h7 cI me rg so sv tl su qu wa ru pe re pn lo se pa sp iv) (mw_ h0 h1 h2 h3 h4 h5 h6 h7 cI me rg so sv tl su qu wa ru pe re pn lo se pa sp iv) z := by
  refine co_i_of (by decide) (Nat.le_of_ble_eq_true rfl) ?_
  intro p e s m below meth c A ls X hr hlk hK hP hD hS hA hl
  have hx := X.1
  have hb := X.2.1
  have hl : lv_has ls 4 [(0, .ref h0), (1, .int x1), (2, .int x2)] := hl
  have J75 : ∀ (v1 : Int32) (v2 : Int32) (s0 : Int32) (me : Nat → Int32), mo_inFrame_j75 v1 v2 s0 me = some z → ∀ (H : Heap) (locs : List Loc) (ls : Array Slot), lv_has ls 4 [(0, .ref h0), (1, .int v1), (2, .int v2)] → va_P D cz_all (mw_ h0 h1 h2 h3 h4 h5 h6 h7 cI me rg so sv tl su qu wa ru pe re pn lo se pa sp iv) H → va_D A (mw_ h0 h1 h2 h3 h4 h5 h6 h7 cI me rg so sv tl su qu wa ru pe re pn lo se pa sp iv) → va_S A s.heap H locs → W p l e rm_m_inFrame s m ([.ref h0, .int x1, .int x2] : List Value).toArray below meth c H locs 0 0 (MQ below (qs_i D (ty_ cI cT) (mw_ h0 h1 h2 h3 h4 h5 h6 h7 cI me rg so sv tl su qu wa ru pe re pn lo se pa sp iv) z A) ([.ref h0, .int x1, .int x2] : List Value).toArray s 0 0 A) (F0 m 75 ls [.int s0]) := by
    intro v1 v2 s0 me hf H locs ls hl hP hD hS
    unfold mo_inFrame_j75 at hf
    refine lv_istore_n hx hb d_M_inFrame_75 rfl hl (by decide) rfl (fun ls hl => ?_)
    have hl : lv_has ls 4 [(3, .int s0), (0, .ref h0), (1, .int v1), (2, .int v2)] := hl
    refine lv_iload_n hx hb d_M_inFrame_76 rfl (lv_at hl 3 rfl) ?_
    refine lv_bipush (v := (8 : Int32)) hx hb d_M_inFrame_77 (by decide) ?_
    refine lv_icmp_ge (tgt := 106) hx hb d_M_inFrame_79 (by decide) (fun hc => ?_) (fun hc => ?_)
    · replace hf := (if_pos hc).symm.trans hf
      refine lv_aload_n hx hb d_M_inFrame_106 rfl (lv_at hl 1 rfl) ?_
      refine lv_iload_n hx hb d_M_inFrame_107 rfl (lv_at hl 2 rfl) ?_
      refine lv_iload_n hx hb d_M_inFrame_108 rfl (lv_at hl 0 rfl) ?_
      refine lv_iadd hx hb d_M_inFrame_109 ?_
      obtain ⟨z7, hz7, hf⟩ := op_b hf
      refine cl_i X cw_M_39 hK hP hD hS hA hl (c_mo_at hz7) ⟨rfl, rfl, Nat.le_of_ble_eq_true rfl, Nat.le_of_ble_eq_true rfl⟩ 0 rfl rfl rfl rfl rfl (Nat.le_of_ble_eq_true rfl) d_M_inFrame_110 (fun H locs hP hD hS => ?_)
      have hq := Option.some.inj hf
      subst hq
      exact rt_i (r := z7) X hr hlk hK rfl hP hD hS d_M_inFrame_113
    · replace hf := (if_neg hc).symm.trans hf
      refine lv_sipush (v := (256 : Int32)) hx hb d_M_inFrame_82 (by decide) ?_
      refine lv_aload_n hx hb d_M_inFrame_85 rfl (lv_at hl 1 rfl) ?_
      refine lv_iload_n hx hb d_M_inFrame_86 rfl (lv_at hl 2 rfl) ?_
      refine lv_iload_n hx hb d_M_inFrame_87 rfl (lv_at hl 0 rfl) ?_
      refine lv_iadd hx hb d_M_inFrame_88 ?_
      obtain ⟨z8, hz8, hf⟩ := op_b hf
      refine cl_i X cw_M_39 hK hP hD hS hA hl (c_mo_at hz8) ⟨rfl, rfl, Nat.le_of_ble_eq_true rfl, Nat.le_of_ble_eq_true rfl⟩ 0 rfl rfl rfl rfl rfl (Nat.le_of_ble_eq_true rfl) d_M_inFrame_89 (fun H locs hP hD hS => ?_)
      refine lv_imul hx hb d_M_inFrame_92 ?_
      refine lv_aload_n hx hb d_M_inFrame_93 rfl (lv_at hl 1 rfl) ?_
      refine lv_iload_n hx hb d_M_inFrame_94 rfl (lv_at hl 2 rfl) ?_
      refine lv_iload_n hx hb d_M_inFrame_95 rfl (lv_at hl 0 rfl) ?_
      refine lv_iadd hx hb d_M_inFrame_96 ?_
      refine lv_iconst (v := (1 : Int32)) hx hb d_M_inFrame_97 (by decide) ?_
      refine lv_iadd hx hb d_M_inFrame_98 ?_
      obtain ⟨z9, hz9, hf⟩ := op_b hf
      refine cl_i X cw_M_39 hK hP hD hS hA hl (c_mo_at hz9) ⟨rfl, rfl, Nat.le_of_ble_eq_true rfl, Nat.le_of_ble_eq_true rfl⟩ 0 rfl rfl rfl rfl rfl (Nat.le_of_ble_eq_true rfl) d_M_inFrame_99 (fun H locs hP hD hS => ?_)
      refine lv_iadd hx hb d_M_inFrame_102 ?_
      refine lv_goto (tgt := 113) hx hb d_M_inFrame_103 (by decide) ?_
      have hq := Option.some.inj hf
      subst hq
      exact rt_i (r := (((256 : Int32) * z8) + z9)) X hr hlk hK rfl hP hD hS d_M_inFrame_113
  have J20 : ∀ (v1 : Int32) (v2 : Int32) (me : Nat → Int32), mo_inFrame_j20 v1 v2 me = some z → ∀ (H : Heap) (locs : List Loc) (ls : Array Slot), lv_has ls 4 [(0, .ref h0), (1, .int v1), (2, .int v2)] → va_P D cz_all (mw_ h0 h1 h2 h3 h4 h5 h6 h7 cI me rg so sv tl su qu wa ru pe re pn lo se pa sp iv) H → va_D A (mw_ h0 h1 h2 h3 h4 h5 h6 h7 cI me rg so sv tl su qu wa ru pe re pn lo se pa sp iv) → va_S A s.heap H locs → W p l e rm_m_inFrame s m ([.ref h0, .int x1, .int x2] : List Value).toArray below meth c H locs 0 0 (MQ below (qs_i D (ty_ cI cT) (mw_ h0 h1 h2 h3 h4 h5 h6 h7 cI me rg so sv tl su qu wa ru pe re pn lo se pa sp iv) z A) ([.ref h0, .int x1, .int x2] : List Value).toArray s 0 0 A) (F0 m 20 ls []) := by
    intro v1 v2 me hf H locs ls hl hP hD hS
    unfold mo_inFrame_j20 at hf
    refine lv_iconst (v := (1 : Int32)) hx hb d_M_inFrame_20 (by decide) ?_
    refine lv_goto (tgt := 75) hx hb d_M_inFrame_21 (by decide) ?_
    exact J75 v1 v2 (1 : Int32) me hf _ _ _ hl hP hD hS
  unfold mo_inFrame at hf
  refine lv_iload_n hx hb d_M_inFrame_0 rfl (lv_at hl 2 rfl) ?_
  refine lv_bipush (v := (10 : Int32)) hx hb d_M_inFrame_1 (by decide) ?_
  refine lv_icmp_ne (tgt := 10) hx hb d_M_inFrame_3 (by decide) (fun hc => ?_) (fun hc => ?_)
  · replace hf := (if_neg hc).symm.trans hf
    refine lv_iload_n hx hb d_M_inFrame_10 rfl (lv_at hl 2 rfl) ?_
    refine lv_bipush (v := (8 : Int32)) hx hb d_M_inFrame_11 (by decide) ?_
    refine lv_icmp_eq (tgt := 20) hx hb d_M_inFrame_13 (by decide) (fun hc => ?_) (fun hc => ?_)
    · replace hf := (if_pos hc).symm.trans hf
      exact J20 x1 x2 me hf _ _ _ hl hP hD hS
    · replace hf := (if_neg hc).symm.trans hf
      refine lv_iload_n hx hb d_M_inFrame_16 rfl (lv_at hl 2 rfl) ?_
      refine lv_if_ne (tgt := 24) hx hb d_M_inFrame_17 (by decide) (fun hc => ?_) (fun hc => ?_)
      · replace hf := (if_neg hc).symm.trans hf
        refine lv_iload_n hx hb d_M_inFrame_24 rfl (lv_at hl 2 rfl) ?_
        refine lv_bipush (v := (9 : Int32)) hx hb d_M_inFrame_25 (by decide) ?_
        refine lv_icmp_ne (tgt := 34) hx hb d_M_inFrame_27 (by decide) (fun hc => ?_) (fun hc => ?_)
        · replace hf := (if_neg hc).symm.trans hf
          refine lv_iload_n hx hb d_M_inFrame_34 rfl (lv_at hl 2 rfl) ?_
          refine lv_bipush (v := (11 : Int32)) hx hb d_M_inFrame_35 (by decide) ?_
          refine lv_icmp_ne (tgt := 44) hx hb d_M_inFrame_37 (by decide) (fun hc => ?_) (fun hc => ?_)
          · replace hf := (if_neg hc).symm.trans hf
            refine lv_iload_n hx hb d_M_inFrame_44 rfl (lv_at hl 2 rfl) ?_
            refine lv_iconst (v := (1 : Int32)) hx hb d_M_inFrame_45 (by decide) ?_
            refine lv_icmp_ne (tgt := 53) hx hb d_M_inFrame_46 (by decide) (fun hc => ?_) (fun hc => ?_)
            · replace hf := (if_neg hc).symm.trans hf
              refine lv_iload_n hx hb d_M_inFrame_53 rfl (lv_at hl 2 rfl) ?_
              refine lv_iconst (v := (2 : Int32)) hx hb d_M_inFrame_54 (by decide) ?_
              refine lv_icmp_ne (tgt := 63) hx hb d_M_inFrame_55 (by decide) (fun hc => ?_) (fun hc => ?_)
              · replace hf := (if_neg hc).symm.trans hf
                refine lv_iload_n hx hb d_M_inFrame_63 rfl (lv_at hl 2 rfl) ?_
                refine lv_iconst (v := (3 : Int32)) hx hb d_M_inFrame_64 (by decide) ?_
                refine lv_icmp_ne (tgt := 73) hx hb d_M_inFrame_65 (by decide) (fun hc => ?_) (fun hc => ?_)
                · replace hf := (if_neg hc).symm.trans hf
                  refine lv_bipush (v := (10 : Int32)) hx hb d_M_inFrame_73 (by decide) ?_
                  exact J75 x1 x2 (10 : Int32) me hf _ _ _ hl hP hD hS
                · replace hf := (if_pos hc).symm.trans hf
                  refine lv_bipush (v := (8 : Int32)) hx hb d_M_inFrame_68 (by decide) ?_
                  refine lv_goto (tgt := 75) hx hb d_M_inFrame_70 (by decide) ?_
                  exact J75 x1 x2 (8 : Int32) me hf _ _ _ hl hP hD hS
              · replace hf := (if_pos hc).symm.trans hf
                refine lv_bipush (v := (6 : Int32)) hx hb d_M_inFrame_58 (by decide) ?_
                refine lv_goto (tgt := 75) hx hb d_M_inFrame_60 (by decide) ?_
                exact J75 x1 x2 (6 : Int32) me hf _ _ _ hl hP hD hS
            · replace hf := (if_pos hc).symm.trans hf
              refine lv_iconst (v := (4 : Int32)) hx hb d_M_inFrame_49 (by decide) ?_
              refine lv_goto (tgt := 75) hx hb d_M_inFrame_50 (by decide) ?_
              exact J75 x1 x2 (4 : Int32) me hf _ _ _ hl hP hD hS
          · replace hf := (if_pos hc).symm.trans hf
            refine lv_iconst (v := (3 : Int32)) hx hb d_M_inFrame_40 (by decide) ?_
            refine lv_goto (tgt := 75) hx hb d_M_inFrame_41 (by decide) ?_
            exact J75 x1 x2 (3 : Int32) me hf _ _ _ hl hP hD hS
        · replace hf := (if_pos hc).symm.trans hf
          refine lv_iconst (v := (2 : Int32)) hx hb d_M_inFrame_30 (by decide) ?_
          refine lv_goto (tgt := 75) hx hb d_M_inFrame_31 (by decide) ?_
          exact J75 x1 x2 (2 : Int32) me hf _ _ _ hl hP hD hS
      · replace hf := (if_pos hc).symm.trans hf
        exact J20 x1 x2 me hf _ _ _ hl hP hD hS
  · replace hf := (if_pos hc).symm.trans hf
    refine lv_iconst (v := (0 : Int32)) hx hb d_M_inFrame_6 (by decide) ?_
    refine lv_goto (tgt := 75) hx hb d_M_inFrame_7 (by decide) ?_
    exact J75 x1 x2 (0 : Int32) me hf _ _ _ hl hP hD hS
end MODEL

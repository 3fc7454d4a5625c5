theorem d_M_trade_0 : decode mb_M_trade 0 = .ok (.aload_n 0, 1) := by decide +kernel
theorem d_M_trade_1 : decode mb_M_trade 1 = .ok (.invokevirtual 54, 3) := by decide +kernel
theorem d_M_trade_4 : decode mb_M_trade 4 = .ok (.istore_n 2, 1) := by decide +kernel
theorem d_M_trade_5 : decode mb_M_trade 5 = .ok (.iload_n 2, 1) := by decide +kernel
theorem d_M_trade_6 : decode mb_M_trade 6 = .ok (.iconst 4, 1) := by decide +kernel
theorem d_M_trade_7 : decode mb_M_trade 7 = .ok (.ishr, 1) := by decide +kernel
theorem d_M_trade_8 : decode mb_M_trade 8 = .ok (.istore_n 3, 1) := by decide +kernel
theorem d_M_trade_9 : decode mb_M_trade 9 = .ok (.iload_n 2, 1) := by decide +kernel
theorem d_M_trade_10 : decode mb_M_trade 10 = .ok (.bipush 15, 2) := by decide +kernel
theorem d_M_trade_12 : decode mb_M_trade 12 = .ok (.iand, 1) := by decide +kernel
theorem d_M_trade_13 : decode mb_M_trade 13 = .ok (.istore 4, 2) := by decide +kernel
theorem d_M_trade_15 : decode mb_M_trade 15 = .ok (.aload_n 0, 1) := by decide +kernel
theorem d_M_trade_16 : decode mb_M_trade 16 = .ok (.iload_n 3, 1) := by decide +kernel
theorem d_M_trade_17 : decode mb_M_trade 17 = .ok (.bipush 6, 2) := by decide +kernel
theorem d_M_trade_19 : decode mb_M_trade 19 = .ok (.if_icmp .eq 62, 3) := by decide +kernel
theorem d_M_trade_22 : decode mb_M_trade 22 = .ok (.iload_n 3, 1) := by decide +kernel
theorem d_M_trade_23 : decode mb_M_trade 23 = .ok (.bipush 7, 2) := by decide +kernel
theorem d_M_trade_25 : decode mb_M_trade 25 = .ok (.if_icmp .eq 56, 3) := by decide +kernel
theorem d_M_trade_28 : decode mb_M_trade 28 = .ok (.iload_n 3, 1) := by decide +kernel
theorem d_M_trade_29 : decode mb_M_trade 29 = .ok (.bipush 11, 2) := by decide +kernel
theorem d_M_trade_31 : decode mb_M_trade 31 = .ok (.if_icmp .gt 50, 3) := by decide +kernel
theorem d_M_trade_34 : decode mb_M_trade 34 = .ok (.iload 4, 2) := by decide +kernel
theorem d_M_trade_36 : decode mb_M_trade 36 = .ok (.bipush 6, 2) := by decide +kernel
theorem d_M_trade_38 : decode mb_M_trade 38 = .ok (.if_icmp .eq 43, 3) := by decide +kernel
theorem d_M_trade_41 : decode mb_M_trade 41 = .ok (.iload 4, 2) := by decide +kernel
theorem d_M_trade_43 : decode mb_M_trade 43 = .ok (.bipush 7, 2) := by decide +kernel
theorem d_M_trade_45 : decode mb_M_trade 45 = .ok (.if_icmp .eq 36, 3) := by decide +kernel
theorem d_M_trade_48 : decode mb_M_trade 48 = .ok (.iload 4, 2) := by decide +kernel
theorem d_M_trade_50 : decode mb_M_trade 50 = .ok (.bipush 11, 2) := by decide +kernel
theorem d_M_trade_52 : decode mb_M_trade 52 = .ok (.if_icmp .gt 29, 3) := by decide +kernel
theorem d_M_trade_55 : decode mb_M_trade 55 = .ok (.iload_n 3, 1) := by decide +kernel
theorem d_M_trade_56 : decode mb_M_trade 56 = .ok (.bipush 8, 2) := by decide +kernel
theorem d_M_trade_58 : decode mb_M_trade 58 = .ok (.if_icmp .ge 7, 3) := by decide +kernel
theorem d_M_trade_61 : decode mb_M_trade 61 = .ok (.iconst 1, 1) := by decide +kernel
theorem d_M_trade_62 : decode mb_M_trade 62 = .ok (.goto 4, 3) := by decide +kernel
theorem d_M_trade_65 : decode mb_M_trade 65 = .ok (.iconst 0, 1) := by decide +kernel
theorem d_M_trade_66 : decode mb_M_trade 66 = .ok (.iload 4, 2) := by decide +kernel
theorem d_M_trade_68 : decode mb_M_trade 68 = .ok (.bipush 8, 2) := by decide +kernel
theorem d_M_trade_70 : decode mb_M_trade 70 = .ok (.if_icmp .ge 7, 3) := by decide +kernel
theorem d_M_trade_73 : decode mb_M_trade 73 = .ok (.iconst 1, 1) := by decide +kernel
theorem d_M_trade_74 : decode mb_M_trade 74 = .ok (.goto 4, 3) := by decide +kernel
theorem d_M_trade_77 : decode mb_M_trade 77 = .ok (.iconst 0, 1) := by decide +kernel
theorem d_M_trade_78 : decode mb_M_trade 78 = .ok (.if_icmp .eq 7, 3) := by decide +kernel
theorem d_M_trade_81 : decode mb_M_trade 81 = .ok (.iconst 1, 1) := by decide +kernel
theorem d_M_trade_82 : decode mb_M_trade 82 = .ok (.goto 4, 3) := by decide +kernel
theorem d_M_trade_85 : decode mb_M_trade 85 = .ok (.iconst 0, 1) := by decide +kernel
theorem d_M_trade_86 : decode mb_M_trade 86 = .ok (.putfield 76, 3) := by decide +kernel
theorem d_M_trade_89 : decode mb_M_trade 89 = .ok (.aload_n 0, 1) := by decide +kernel
theorem d_M_trade_90 : decode mb_M_trade 90 = .ok (.getfield 76, 3) := by decide +kernel
theorem d_M_trade_93 : decode mb_M_trade 93 = .ok (.ifCond .eq 4, 3) := by decide +kernel
theorem d_M_trade_96 : decode mb_M_trade 96 = .ok (.return_, 1) := by decide +kernel
theorem d_M_trade_97 : decode mb_M_trade 97 = .ok (.aload_n 0, 1) := by decide +kernel
theorem d_M_trade_98 : decode mb_M_trade 98 = .ok (.iload_n 3, 1) := by decide +kernel
theorem d_M_trade_99 : decode mb_M_trade 99 = .ok (.invokevirtual 89, 3) := by decide +kernel
theorem d_M_trade_102 : decode mb_M_trade 102 = .ok (.istore 5, 2) := by decide +kernel
theorem d_M_trade_104 : decode mb_M_trade 104 = .ok (.aload_n 0, 1) := by decide +kernel
theorem d_M_trade_105 : decode mb_M_trade 105 = .ok (.iload 4, 2) := by decide +kernel
theorem d_M_trade_107 : decode mb_M_trade 107 = .ok (.invokevirtual 89, 3) := by decide +kernel
theorem d_M_trade_110 : decode mb_M_trade 110 = .ok (.istore 6, 2) := by decide +kernel
theorem d_M_trade_112 : decode mb_M_trade 112 = .ok (.aload_n 0, 1) := by decide +kernel
theorem d_M_trade_113 : decode mb_M_trade 113 = .ok (.iload 4, 2) := by decide +kernel
theorem d_M_trade_115 : decode mb_M_trade 115 = .ok (.iload 5, 2) := by decide +kernel
theorem d_M_trade_117 : decode mb_M_trade 117 = .ok (.invokevirtual 51, 3) := by decide +kernel
theorem d_M_trade_120 : decode mb_M_trade 120 = .ok (.iload_n 1, 1) := by decide +kernel
theorem d_M_trade_121 : decode mb_M_trade 121 = .ok (.bipush 30, 2) := by decide +kernel
theorem d_M_trade_123 : decode mb_M_trade 123 = .ok (.if_icmp .ne 10, 3) := by decide +kernel
theorem d_M_trade_126 : decode mb_M_trade 126 = .ok (.aload_n 0, 1) := by decide +kernel
theorem d_M_trade_127 : decode mb_M_trade 127 = .ok (.iload_n 3, 1) := by decide +kernel
theorem d_M_trade_128 : decode mb_M_trade 128 = .ok (.iload 6, 2) := by decide +kernel
theorem d_M_trade_130 : decode mb_M_trade 130 = .ok (.invokevirtual 51, 3) := by decide +kernel
theorem d_M_trade_133 : decode mb_M_trade 133 = .ok (.return_, 1) := by decide +kernel
theorem d_M_listed_0 : decode mb_M_listed 0 = .ok (.iload_n 0, 1) := by decide +kernel
theorem d_M_listed_1 : decode mb_M_listed 1 = .ok (.ifCond .ne 8, 3) := by decide +kernel
theorem d_M_listed_4 : decode mb_M_listed 4 = .ok (.bipush 10, 2) := by decide +kernel
theorem d_M_listed_6 : decode mb_M_listed 6 = .ok (.goto 71, 3) := by decide +kernel
theorem d_M_listed_9 : decode mb_M_listed 9 = .ok (.iload_n 0, 1) := by decide +kernel
theorem d_M_listed_10 : decode mb_M_listed 10 = .ok (.iconst 1, 1) := by decide +kernel
theorem d_M_listed_11 : decode mb_M_listed 11 = .ok (.if_icmp .ne 8, 3) := by decide +kernel
theorem d_M_listed_14 : decode mb_M_listed 14 = .ok (.bipush 8, 2) := by decide +kernel
theorem d_M_listed_16 : decode mb_M_listed 16 = .ok (.goto 61, 3) := by decide +kernel
theorem d_M_listed_19 : decode mb_M_listed 19 = .ok (.iload_n 0, 1) := by decide +kernel
theorem d_M_listed_20 : decode mb_M_listed 20 = .ok (.iconst 2, 1) := by decide +kernel
theorem d_M_listed_21 : decode mb_M_listed 21 = .ok (.if_icmp .ne 8, 3) := by decide +kernel
theorem d_M_listed_24 : decode mb_M_listed 24 = .ok (.bipush 9, 2) := by decide +kernel
theorem d_M_listed_26 : decode mb_M_listed 26 = .ok (.goto 51, 3) := by decide +kernel
theorem d_M_listed_29 : decode mb_M_listed 29 = .ok (.iload_n 0, 1) := by decide +kernel
theorem d_M_listed_30 : decode mb_M_listed 30 = .ok (.iconst 3, 1) := by decide +kernel
theorem d_M_listed_31 : decode mb_M_listed 31 = .ok (.if_icmp .ne 8, 3) := by decide +kernel
theorem d_M_listed_34 : decode mb_M_listed 34 = .ok (.bipush 11, 2) := by decide +kernel
theorem d_M_listed_36 : decode mb_M_listed 36 = .ok (.goto 41, 3) := by decide +kernel
theorem d_M_listed_39 : decode mb_M_listed 39 = .ok (.iload_n 0, 1) := by decide +kernel
theorem d_M_listed_40 : decode mb_M_listed 40 = .ok (.iconst 4, 1) := by decide +kernel
theorem d_M_listed_41 : decode mb_M_listed 41 = .ok (.if_icmp .ne 7, 3) := by decide +kernel
theorem d_M_listed_44 : decode mb_M_listed 44 = .ok (.iconst 1, 1) := by decide +kernel
theorem d_M_listed_45 : decode mb_M_listed 45 = .ok (.goto 32, 3) := by decide +kernel
theorem d_M_listed_48 : decode mb_M_listed 48 = .ok (.iload_n 0, 1) := by decide +kernel
theorem d_M_listed_49 : decode mb_M_listed 49 = .ok (.iconst 5, 1) := by decide +kernel
theorem d_M_listed_50 : decode mb_M_listed 50 = .ok (.if_icmp .ne 7, 3) := by decide +kernel
theorem d_M_listed_53 : decode mb_M_listed 53 = .ok (.iconst 2, 1) := by decide +kernel
theorem d_M_listed_54 : decode mb_M_listed 54 = .ok (.goto 23, 3) := by decide +kernel
theorem d_M_listed_57 : decode mb_M_listed 57 = .ok (.iload_n 0, 1) := by decide +kernel
theorem d_M_listed_58 : decode mb_M_listed 58 = .ok (.bipush 7, 2) := by decide +kernel
theorem d_M_listed_60 : decode mb_M_listed 60 = .ok (.if_icmp .ne 7, 3) := by decide +kernel
theorem d_M_listed_63 : decode mb_M_listed 63 = .ok (.iconst 5, 1) := by decide +kernel
theorem d_M_listed_64 : decode mb_M_listed 64 = .ok (.goto 13, 3) := by decide +kernel
theorem d_M_listed_67 : decode mb_M_listed 67 = .ok (.iload_n 1, 1) := by decide +kernel
theorem d_M_listed_68 : decode mb_M_listed 68 = .ok (.iconst 4, 1) := by decide +kernel
theorem d_M_listed_69 : decode mb_M_listed 69 = .ok (.if_icmp .ne 7, 3) := by decide +kernel
theorem d_M_listed_72 : decode mb_M_listed 72 = .ok (.iconst 3, 1) := by decide +kernel
theorem d_M_listed_73 : decode mb_M_listed 73 = .ok (.goto 4, 3) := by decide +kernel
theorem d_M_listed_76 : decode mb_M_listed 76 = .ok (.iconst 4, 1) := by decide +kernel
theorem d_M_listed_77 : decode mb_M_listed 77 = .ok (.ireturn, 1) := by decide +kernel
theorem d_M_many_0 : decode mb_M_many 0 = .ok (.aload_n 0, 1) := by decide +kernel
theorem d_M_many_1 : decode mb_M_many 1 = .ok (.invokevirtual 54, 3) := by decide +kernel
theorem d_M_many_4 : decode mb_M_many 4 = .ok (.istore_n 2, 1) := by decide +kernel
theorem d_M_many_5 : decode mb_M_many 5 = .ok (.iload_n 1, 1) := by decide +kernel
theorem d_M_many_6 : decode mb_M_many 6 = .ok (.bipush 54, 2) := by decide +kernel
theorem d_M_many_8 : decode mb_M_many 8 = .ok (.if_icmp .ge 7, 3) := by decide +kernel
theorem d_M_many_11 : decode mb_M_many 11 = .ok (.iconst 4, 1) := by decide +kernel
theorem d_M_many_12 : decode mb_M_many 12 = .ok (.goto 4, 3) := by decide +kernel
theorem d_M_many_15 : decode mb_M_many 15 = .ok (.iconst 3, 1) := by decide +kernel
theorem d_M_many_16 : decode mb_M_many 16 = .ok (.istore_n 3, 1) := by decide +kernel
theorem d_M_many_17 : decode mb_M_many 17 = .ok (.bipush 7, 2) := by decide +kernel
theorem d_M_many_19 : decode mb_M_many 19 = .ok (.istore 4, 2) := by decide +kernel
theorem d_M_many_21 : decode mb_M_many 21 = .ok (.iload 4, 2) := by decide +kernel
theorem d_M_many_23 : decode mb_M_many 23 = .ok (.ifCond .lt 36, 3) := by decide +kernel
theorem d_M_many_26 : decode mb_M_many 26 = .ok (.iload_n 1, 1) := by decide +kernel
theorem d_M_many_27 : decode mb_M_many 27 = .ok (.iconst 2, 1) := by decide +kernel
theorem d_M_many_28 : decode mb_M_many 28 = .ok (.irem, 1) := by decide +kernel
theorem d_M_many_29 : decode mb_M_many 29 = .ok (.ifCond .ne 30, 3) := by decide +kernel
theorem d_M_many_32 : decode mb_M_many 32 = .ok (.iload_n 2, 1) := by decide +kernel
theorem d_M_many_33 : decode mb_M_many 33 = .ok (.iload 4, 2) := by decide +kernel
theorem d_M_many_35 : decode mb_M_many 35 = .ok (.ishr, 1) := by decide +kernel
theorem d_M_many_36 : decode mb_M_many 36 = .ok (.iconst 1, 1) := by decide +kernel
theorem d_M_many_37 : decode mb_M_many 37 = .ok (.iand, 1) := by decide +kernel
theorem d_M_many_38 : decode mb_M_many 38 = .ok (.iconst 1, 1) := by decide +kernel
theorem d_M_many_39 : decode mb_M_many 39 = .ok (.if_icmp .ne 14, 3) := by decide +kernel
theorem d_M_many_42 : decode mb_M_many 42 = .ok (.aload_n 0, 1) := by decide +kernel
theorem d_M_many_43 : decode mb_M_many 43 = .ok (.iload_n 3, 1) := by decide +kernel
theorem d_M_many_44 : decode mb_M_many 44 = .ok (.iload 4, 2) := by decide +kernel
theorem d_M_many_46 : decode mb_M_many 46 = .ok (.iload_n 3, 1) := by decide +kernel
theorem d_M_many_47 : decode mb_M_many 47 = .ok (.invokestatic 134, 3) := by decide +kernel
theorem d_M_many_50 : decode mb_M_many 50 = .ok (.invokevirtual 112, 3) := by decide +kernel
theorem d_M_many_53 : decode mb_M_many 53 = .ok (.iinc 4 (-1), 3) := by decide +kernel
theorem d_M_many_56 : decode mb_M_many 56 = .ok (.goto (-35), 3) := by decide +kernel
theorem d_M_many_59 : decode mb_M_many 59 = .ok (.iconst 0, 1) := by decide +kernel
theorem d_M_many_60 : decode mb_M_many 60 = .ok (.istore 4, 2) := by decide +kernel
theorem d_M_many_62 : decode mb_M_many 62 = .ok (.iload 4, 2) := by decide +kernel
theorem d_M_many_64 : decode mb_M_many 64 = .ok (.bipush 8, 2) := by decide +kernel
theorem d_M_many_66 : decode mb_M_many 66 = .ok (.if_icmp .ge 37, 3) := by decide +kernel
theorem d_M_many_69 : decode mb_M_many 69 = .ok (.iload_n 1, 1) := by decide +kernel
theorem d_M_many_70 : decode mb_M_many 70 = .ok (.iconst 2, 1) := by decide +kernel
theorem d_M_many_71 : decode mb_M_many 71 = .ok (.irem, 1) := by decide +kernel
theorem d_M_many_72 : decode mb_M_many 72 = .ok (.iconst 1, 1) := by decide +kernel
theorem d_M_many_73 : decode mb_M_many 73 = .ok (.if_icmp .ne 30, 3) := by decide +kernel
theorem d_M_many_76 : decode mb_M_many 76 = .ok (.iload_n 2, 1) := by decide +kernel
theorem d_M_many_77 : decode mb_M_many 77 = .ok (.iload 4, 2) := by decide +kernel
theorem d_M_many_79 : decode mb_M_many 79 = .ok (.ishr, 1) := by decide +kernel
theorem d_M_many_80 : decode mb_M_many 80 = .ok (.iconst 1, 1) := by decide +kernel
theorem d_M_many_81 : decode mb_M_many 81 = .ok (.iand, 1) := by decide +kernel
theorem d_M_many_82 : decode mb_M_many 82 = .ok (.iconst 1, 1) := by decide +kernel
theorem d_M_many_83 : decode mb_M_many 83 = .ok (.if_icmp .ne 14, 3) := by decide +kernel
theorem d_M_many_86 : decode mb_M_many 86 = .ok (.aload_n 0, 1) := by decide +kernel
theorem d_M_many_87 : decode mb_M_many 87 = .ok (.iload_n 3, 1) := by decide +kernel
theorem d_M_many_88 : decode mb_M_many 88 = .ok (.iload 4, 2) := by decide +kernel
theorem d_M_many_90 : decode mb_M_many 90 = .ok (.iload_n 3, 1) := by decide +kernel
theorem d_M_many_91 : decode mb_M_many 91 = .ok (.invokestatic 134, 3) := by decide +kernel
theorem d_M_many_94 : decode mb_M_many 94 = .ok (.invokevirtual 137, 3) := by decide +kernel
theorem d_M_many_97 : decode mb_M_many 97 = .ok (.iinc 4 1, 3) := by decide +kernel
theorem d_M_many_100 : decode mb_M_many 100 = .ok (.goto (-38), 3) := by decide +kernel
theorem d_M_many_103 : decode mb_M_many 103 = .ok (.return_, 1) := by decide +kernel
theorem d_M_framed_0 : decode mb_M_framed 0 = .ok (.iload_n 0, 1) := by decide +kernel
theorem d_M_framed_1 : decode mb_M_framed 1 = .ok (.ifCond .ne 8, 3) := by decide +kernel
theorem d_M_framed_4 : decode mb_M_framed 4 = .ok (.bipush 10, 2) := by decide +kernel
theorem d_M_framed_6 : decode mb_M_framed 6 = .ok (.goto 62, 3) := by decide +kernel
theorem d_M_framed_9 : decode mb_M_framed 9 = .ok (.iload_n 0, 1) := by decide +kernel
theorem d_M_framed_10 : decode mb_M_framed 10 = .ok (.iconst 1, 1) := by decide +kernel
theorem d_M_framed_11 : decode mb_M_framed 11 = .ok (.if_icmp .ne 8, 3) := by decide +kernel
theorem d_M_framed_14 : decode mb_M_framed 14 = .ok (.bipush 8, 2) := by decide +kernel
theorem d_M_framed_16 : decode mb_M_framed 16 = .ok (.goto 52, 3) := by decide +kernel
theorem d_M_framed_19 : decode mb_M_framed 19 = .ok (.iload_n 0, 1) := by decide +kernel
theorem d_M_framed_20 : decode mb_M_framed 20 = .ok (.iconst 2, 1) := by decide +kernel
theorem d_M_framed_21 : decode mb_M_framed 21 = .ok (.if_icmp .ne 8, 3) := by decide +kernel
theorem d_M_framed_24 : decode mb_M_framed 24 = .ok (.bipush 9, 2) := by decide +kernel
theorem d_M_framed_26 : decode mb_M_framed 26 = .ok (.goto 42, 3) := by decide +kernel
theorem d_M_framed_29 : decode mb_M_framed 29 = .ok (.iload_n 0, 1) := by decide +kernel
theorem d_M_framed_30 : decode mb_M_framed 30 = .ok (.iconst 3, 1) := by decide +kernel
theorem d_M_framed_31 : decode mb_M_framed 31 = .ok (.if_icmp .ne 8, 3) := by decide +kernel
theorem d_M_framed_34 : decode mb_M_framed 34 = .ok (.bipush 11, 2) := by decide +kernel
theorem d_M_framed_36 : decode mb_M_framed 36 = .ok (.goto 32, 3) := by decide +kernel
theorem d_M_framed_39 : decode mb_M_framed 39 = .ok (.iload_n 0, 1) := by decide +kernel
theorem d_M_framed_40 : decode mb_M_framed 40 = .ok (.iconst 4, 1) := by decide +kernel
theorem d_M_framed_41 : decode mb_M_framed 41 = .ok (.if_icmp .ne 7, 3) := by decide +kernel
theorem d_M_framed_44 : decode mb_M_framed 44 = .ok (.iconst 1, 1) := by decide +kernel
theorem d_M_framed_45 : decode mb_M_framed 45 = .ok (.goto 23, 3) := by decide +kernel
theorem d_M_framed_48 : decode mb_M_framed 48 = .ok (.iload_n 0, 1) := by decide +kernel
theorem d_M_framed_49 : decode mb_M_framed 49 = .ok (.iconst 5, 1) := by decide +kernel
theorem d_M_framed_50 : decode mb_M_framed 50 = .ok (.if_icmp .ne 7, 3) := by decide +kernel
theorem d_M_framed_53 : decode mb_M_framed 53 = .ok (.iconst 2, 1) := by decide +kernel
theorem d_M_framed_54 : decode mb_M_framed 54 = .ok (.goto 14, 3) := by decide +kernel
theorem d_M_framed_57 : decode mb_M_framed 57 = .ok (.iload_n 0, 1) := by decide +kernel
theorem d_M_framed_58 : decode mb_M_framed 58 = .ok (.bipush 6, 2) := by decide +kernel
theorem d_M_framed_60 : decode mb_M_framed 60 = .ok (.if_icmp .ne 7, 3) := by decide +kernel
theorem d_M_framed_63 : decode mb_M_framed 63 = .ok (.iconst 3, 1) := by decide +kernel
theorem d_M_framed_64 : decode mb_M_framed 64 = .ok (.goto 4, 3) := by decide +kernel
theorem d_M_framed_67 : decode mb_M_framed 67 = .ok (.iconst 5, 1) := by decide +kernel
theorem d_M_framed_68 : decode mb_M_framed 68 = .ok (.ireturn, 1) := by decide +kernel
theorem d_M_stack_0 : decode mb_M_stack 0 = .ok (.aload_n 0, 1) := by decide +kernel
theorem d_M_stack_1 : decode mb_M_stack 1 = .ok (.getfield 36, 3) := by decide +kernel
theorem d_M_stack_4 : decode mb_M_stack 4 = .ok (.istore_n 1, 1) := by decide +kernel
theorem d_M_stack_5 : decode mb_M_stack 5 = .ok (.aload_n 0, 1) := by decide +kernel
theorem d_M_stack_6 : decode mb_M_stack 6 = .ok (.sipush 128, 3) := by decide +kernel
theorem d_M_stack_9 : decode mb_M_stack 9 = .ok (.iconst 1, 1) := by decide +kernel
theorem d_M_stack_10 : decode mb_M_stack 10 = .ok (.invokevirtual 62, 3) := by decide +kernel
theorem d_M_stack_13 : decode mb_M_stack 13 = .ok (.bipush 7, 2) := by decide +kernel
theorem d_M_stack_15 : decode mb_M_stack 15 = .ok (.istore_n 2, 1) := by decide +kernel
theorem d_M_stack_16 : decode mb_M_stack 16 = .ok (.iload_n 2, 1) := by decide +kernel
theorem d_M_stack_17 : decode mb_M_stack 17 = .ok (.ifCond .lt 18, 3) := by decide +kernel
theorem d_M_stack_20 : decode mb_M_stack 20 = .ok (.aload_n 0, 1) := by decide +kernel
theorem d_M_stack_21 : decode mb_M_stack 21 = .ok (.iconst 4, 1) := by decide +kernel
theorem d_M_stack_22 : decode mb_M_stack 22 = .ok (.iload_n 2, 1) := by decide +kernel
theorem d_M_stack_23 : decode mb_M_stack 23 = .ok (.invokestatic 167, 3) := by decide +kernel
theorem d_M_stack_26 : decode mb_M_stack 26 = .ok (.invokevirtual 112, 3) := by decide +kernel
theorem d_M_stack_29 : decode mb_M_stack 29 = .ok (.iinc 2 (-1), 3) := by decide +kernel
theorem d_M_stack_32 : decode mb_M_stack 32 = .ok (.goto (-16), 3) := by decide +kernel
theorem d_M_stack_35 : decode mb_M_stack 35 = .ok (.aload_n 0, 1) := by decide +kernel
theorem d_M_stack_36 : decode mb_M_stack 36 = .ok (.getfield 19, 3) := by decide +kernel
theorem d_M_stack_39 : decode mb_M_stack 39 = .ok (.aload_n 0, 1) := by decide +kernel
theorem d_M_stack_40 : decode mb_M_stack 40 = .ok (.getfield 31, 3) := by decide +kernel
theorem d_M_stack_43 : decode mb_M_stack 43 = .ok (.aload_n 0, 1) := by decide +kernel
theorem d_M_stack_44 : decode mb_M_stack 44 = .ok (.getfield 13, 3) := by decide +kernel
theorem d_M_stack_47 : decode mb_M_stack 47 = .ok (.iconst 4, 1) := by decide +kernel
theorem d_M_stack_48 : decode mb_M_stack 48 = .ok (.iaload, 1) := by decide +kernel
theorem d_M_stack_49 : decode mb_M_stack 49 = .ok (.iastore, 1) := by decide +kernel
theorem d_M_stack_50 : decode mb_M_stack 50 = .ok (.aload_n 0, 1) := by decide +kernel
theorem d_M_stack_51 : decode mb_M_stack 51 = .ok (.iconst (-1), 1) := by decide +kernel
theorem d_M_stack_52 : decode mb_M_stack 52 = .ok (.putfield 31, 3) := by decide +kernel
theorem d_M_stack_55 : decode mb_M_stack 55 = .ok (.aload_n 0, 1) := by decide +kernel
theorem d_M_stack_56 : decode mb_M_stack 56 = .ok (.iload_n 1, 1) := by decide +kernel
theorem d_M_stack_57 : decode mb_M_stack 57 = .ok (.putfield 36, 3) := by decide +kernel
theorem d_M_stack_60 : decode mb_M_stack 60 = .ok (.return_, 1) := by decide +kernel
theorem d_M_leave_0 : decode mb_M_leave 0 = .ok (.iconst 0, 1) := by decide +kernel
theorem d_M_leave_1 : decode mb_M_leave 1 = .ok (.istore_n 2, 1) := by decide +kernel
theorem d_M_leave_2 : decode mb_M_leave 2 = .ok (.iconst 0, 1) := by decide +kernel
theorem d_M_leave_3 : decode mb_M_leave 3 = .ok (.istore_n 3, 1) := by decide +kernel
theorem d_M_leave_4 : decode mb_M_leave 4 = .ok (.iload_n 3, 1) := by decide +kernel
theorem d_M_leave_5 : decode mb_M_leave 5 = .ok (.aload_n 0, 1) := by decide +kernel
theorem d_M_leave_6 : decode mb_M_leave 6 = .ok (.getfield 170, 3) := by decide +kernel
theorem d_M_leave_9 : decode mb_M_leave 9 = .ok (.if_icmp .ge 34, 3) := by decide +kernel
theorem d_M_leave_12 : decode mb_M_leave 12 = .ok (.aload_n 0, 1) := by decide +kernel
theorem d_M_leave_13 : decode mb_M_leave 13 = .ok (.getfield 28, 3) := by decide +kernel
theorem d_M_leave_16 : decode mb_M_leave 16 = .ok (.iload_n 3, 1) := by decide +kernel
theorem d_M_leave_17 : decode mb_M_leave 17 = .ok (.iaload, 1) := by decide +kernel
theorem d_M_leave_18 : decode mb_M_leave 18 = .ok (.iload_n 1, 1) := by decide +kernel
theorem d_M_leave_19 : decode mb_M_leave 19 = .ok (.if_icmp .eq 18, 3) := by decide +kernel
theorem d_M_leave_22 : decode mb_M_leave 22 = .ok (.aload_n 0, 1) := by decide +kernel
theorem d_M_leave_23 : decode mb_M_leave 23 = .ok (.getfield 28, 3) := by decide +kernel
theorem d_M_leave_26 : decode mb_M_leave 26 = .ok (.iload_n 2, 1) := by decide +kernel
theorem d_M_leave_27 : decode mb_M_leave 27 = .ok (.aload_n 0, 1) := by decide +kernel
theorem d_M_leave_28 : decode mb_M_leave 28 = .ok (.getfield 28, 3) := by decide +kernel
theorem d_M_leave_31 : decode mb_M_leave 31 = .ok (.iload_n 3, 1) := by decide +kernel
theorem d_M_leave_32 : decode mb_M_leave 32 = .ok (.iaload, 1) := by decide +kernel
theorem d_M_leave_33 : decode mb_M_leave 33 = .ok (.iastore, 1) := by decide +kernel
theorem d_M_leave_34 : decode mb_M_leave 34 = .ok (.iinc 2 1, 3) := by decide +kernel
theorem d_M_leave_37 : decode mb_M_leave 37 = .ok (.iinc 3 1, 3) := by decide +kernel
theorem d_M_leave_40 : decode mb_M_leave 40 = .ok (.goto (-36), 3) := by decide +kernel
theorem d_M_leave_43 : decode mb_M_leave 43 = .ok (.aload_n 0, 1) := by decide +kernel
theorem d_M_leave_44 : decode mb_M_leave 44 = .ok (.iload_n 2, 1) := by decide +kernel
theorem d_M_leave_45 : decode mb_M_leave 45 = .ok (.putfield 170, 3) := by decide +kernel
theorem d_M_leave_48 : decode mb_M_leave 48 = .ok (.return_, 1) := by decide +kernel
theorem d_M_take_0 : decode mb_M_take 0 = .ok (.aload_n 0, 1) := by decide +kernel
theorem d_M_take_1 : decode mb_M_take 1 = .ok (.getfield 36, 3) := by decide +kernel
theorem d_M_take_4 : decode mb_M_take 4 = .ok (.istore_n 2, 1) := by decide +kernel
theorem d_M_take_5 : decode mb_M_take 5 = .ok (.aload_n 0, 1) := by decide +kernel
theorem d_M_take_6 : decode mb_M_take 6 = .ok (.getfield 13, 3) := by decide +kernel
theorem d_M_take_9 : decode mb_M_take 9 = .ok (.iconst 4, 1) := by decide +kernel
theorem d_M_take_10 : decode mb_M_take 10 = .ok (.aload_n 0, 1) := by decide +kernel
theorem d_M_take_11 : decode mb_M_take 11 = .ok (.getfield 19, 3) := by decide +kernel
theorem d_M_take_14 : decode mb_M_take 14 = .ok (.iload_n 1, 1) := by decide +kernel
theorem d_M_take_15 : decode mb_M_take 15 = .ok (.iaload, 1) := by decide +kernel
theorem d_M_take_16 : decode mb_M_take 16 = .ok (.iastore, 1) := by decide +kernel
theorem d_M_take_17 : decode mb_M_take 17 = .ok (.iconst 0, 1) := by decide +kernel
theorem d_M_take_18 : decode mb_M_take 18 = .ok (.istore_n 3, 1) := by decide +kernel
theorem d_M_take_19 : decode mb_M_take 19 = .ok (.iload_n 3, 1) := by decide +kernel
theorem d_M_take_20 : decode mb_M_take 20 = .ok (.bipush 8, 2) := by decide +kernel
theorem d_M_take_22 : decode mb_M_take 22 = .ok (.if_icmp .ge 18, 3) := by decide +kernel
theorem d_M_take_25 : decode mb_M_take 25 = .ok (.aload_n 0, 1) := by decide +kernel
theorem d_M_take_26 : decode mb_M_take 26 = .ok (.iconst 4, 1) := by decide +kernel
theorem d_M_take_27 : decode mb_M_take 27 = .ok (.iload_n 3, 1) := by decide +kernel
theorem d_M_take_28 : decode mb_M_take 28 = .ok (.invokestatic 167, 3) := by decide +kernel
theorem d_M_take_31 : decode mb_M_take 31 = .ok (.invokevirtual 137, 3) := by decide +kernel
theorem d_M_take_34 : decode mb_M_take 34 = .ok (.iinc 3 1, 3) := by decide +kernel
theorem d_M_take_37 : decode mb_M_take 37 = .ok (.goto (-18), 3) := by decide +kernel
theorem d_M_take_40 : decode mb_M_take 40 = .ok (.aload_n 0, 1) := by decide +kernel
theorem d_M_take_41 : decode mb_M_take 41 = .ok (.iload_n 1, 1) := by decide +kernel
theorem d_M_take_42 : decode mb_M_take 42 = .ok (.putfield 31, 3) := by decide +kernel
theorem d_M_take_45 : decode mb_M_take 45 = .ok (.aload_n 0, 1) := by decide +kernel
theorem d_M_take_46 : decode mb_M_take 46 = .ok (.getfield 16, 3) := by decide +kernel
theorem d_M_take_49 : decode mb_M_take 49 = .ok (.iload_n 1, 1) := by decide +kernel
theorem d_M_take_50 : decode mb_M_take 50 = .ok (.iconst 1, 1) := by decide +kernel
theorem d_M_take_51 : decode mb_M_take 51 = .ok (.iastore, 1) := by decide +kernel
theorem d_M_take_52 : decode mb_M_take 52 = .ok (.aload_n 0, 1) := by decide +kernel
theorem d_M_take_53 : decode mb_M_take 53 = .ok (.iload_n 2, 1) := by decide +kernel
theorem d_M_take_54 : decode mb_M_take 54 = .ok (.putfield 36, 3) := by decide +kernel
theorem d_M_take_57 : decode mb_M_take 57 = .ok (.return_, 1) := by decide +kernel
theorem d_M_next_0 : decode mb_M_next 0 = .ok (.aload_n 0, 1) := by decide +kernel
theorem d_M_next_1 : decode mb_M_next 1 = .ok (.getfield 31, 3) := by decide +kernel
theorem d_M_next_4 : decode mb_M_next 4 = .ok (.ifCond .ge 10, 3) := by decide +kernel
theorem d_M_next_7 : decode mb_M_next 7 = .ok (.aload_n 0, 1) := by decide +kernel
theorem d_M_next_8 : decode mb_M_next 8 = .ok (.getfield 170, 3) := by decide +kernel
theorem d_M_next_11 : decode mb_M_next 11 = .ok (.ifCond .ne 4, 3) := by decide +kernel
theorem d_M_next_14 : decode mb_M_next 14 = .ok (.return_, 1) := by decide +kernel
theorem d_M_next_15 : decode mb_M_next 15 = .ok (.aload_n 0, 1) := by decide +kernel
theorem d_M_next_16 : decode mb_M_next 16 = .ok (.getfield 28, 3) := by decide +kernel
theorem d_M_next_19 : decode mb_M_next 19 = .ok (.iconst 0, 1) := by decide +kernel
theorem d_M_next_20 : decode mb_M_next 20 = .ok (.iaload, 1) := by decide +kernel
theorem d_M_next_21 : decode mb_M_next 21 = .ok (.istore_n 1, 1) := by decide +kernel
theorem d_M_next_22 : decode mb_M_next 22 = .ok (.aload_n 0, 1) := by decide +kernel
theorem d_M_next_23 : decode mb_M_next 23 = .ok (.iload_n 1, 1) := by decide +kernel
theorem d_M_next_24 : decode mb_M_next 24 = .ok (.invokevirtual 173, 3) := by decide +kernel
theorem d_M_next_27 : decode mb_M_next 27 = .ok (.aload_n 0, 1) := by decide +kernel
theorem d_M_next_28 : decode mb_M_next 28 = .ok (.iload_n 1, 1) := by decide +kernel
theorem d_M_next_29 : decode mb_M_next 29 = .ok (.invokevirtual 176, 3) := by decide +kernel
theorem d_M_next_32 : decode mb_M_next 32 = .ok (.return_, 1) := by decide +kernel
theorem d_M_end_0 : decode mb_M_end 0 = .ok (.aload_n 0, 1) := by decide +kernel
theorem d_M_end_1 : decode mb_M_end 1 = .ok (.iload_n 1, 1) := by decide +kernel
theorem d_M_end_2 : decode mb_M_end 2 = .ok (.invokevirtual 173, 3) := by decide +kernel
theorem d_M_end_5 : decode mb_M_end 5 = .ok (.aload_n 0, 1) := by decide +kernel
theorem d_M_end_6 : decode mb_M_end 6 = .ok (.getfield 16, 3) := by decide +kernel
theorem d_M_end_9 : decode mb_M_end 9 = .ok (.iload_n 1, 1) := by decide +kernel
theorem d_M_end_10 : decode mb_M_end 10 = .ok (.iconst 0, 1) := by decide +kernel
theorem d_M_end_11 : decode mb_M_end 11 = .ok (.iastore, 1) := by decide +kernel
theorem d_M_end_12 : decode mb_M_end 12 = .ok (.aload_n 0, 1) := by decide +kernel
theorem d_M_end_13 : decode mb_M_end 13 = .ok (.getfield 22, 3) := by decide +kernel
theorem d_M_end_16 : decode mb_M_end 16 = .ok (.iload_n 1, 1) := by decide +kernel
theorem d_M_end_17 : decode mb_M_end 17 = .ok (.iconst 0, 1) := by decide +kernel
theorem d_M_end_18 : decode mb_M_end 18 = .ok (.iastore, 1) := by decide +kernel
theorem d_M_end_19 : decode mb_M_end 19 = .ok (.aload_n 0, 1) := by decide +kernel
theorem d_M_end_20 : decode mb_M_end 20 = .ok (.getfield 25, 3) := by decide +kernel
theorem d_M_end_23 : decode mb_M_end 23 = .ok (.iload_n 1, 1) := by decide +kernel
theorem d_M_end_24 : decode mb_M_end 24 = .ok (.iload_n 2, 1) := by decide +kernel
theorem d_M_end_25 : decode mb_M_end 25 = .ok (.iastore, 1) := by decide +kernel
theorem d_M_end_26 : decode mb_M_end 26 = .ok (.aload_n 0, 1) := by decide +kernel
theorem d_M_end_27 : decode mb_M_end 27 = .ok (.aload_n 0, 1) := by decide +kernel
theorem d_M_end_28 : decode mb_M_end 28 = .ok (.getfield 31, 3) := by decide +kernel
theorem d_M_end_31 : decode mb_M_end 31 = .ok (.iload_n 1, 1) := by decide +kernel
theorem d_M_end_32 : decode mb_M_end 32 = .ok (.if_icmp .ne 7, 3) := by decide +kernel
theorem d_M_end_35 : decode mb_M_end 35 = .ok (.iconst (-1), 1) := by decide +kernel
theorem d_M_end_36 : decode mb_M_end 36 = .ok (.goto 7, 3) := by decide +kernel
theorem d_M_end_39 : decode mb_M_end 39 = .ok (.aload_n 0, 1) := by decide +kernel
theorem d_M_end_40 : decode mb_M_end 40 = .ok (.getfield 31, 3) := by decide +kernel
theorem d_M_end_43 : decode mb_M_end 43 = .ok (.putfield 31, 3) := by decide +kernel
theorem d_M_end_46 : decode mb_M_end 46 = .ok (.aload_n 0, 1) := by decide +kernel
theorem d_M_end_47 : decode mb_M_end 47 = .ok (.invokevirtual 179, 3) := by decide +kernel
theorem d_M_end_50 : decode mb_M_end 50 = .ok (.return_, 1) := by decide +kernel
theorem d_M_comeLast_0 : decode mb_M_comeLast 0 = .ok (.aload_n 0, 1) := by decide +kernel
theorem d_M_comeLast_1 : decode mb_M_comeLast 1 = .ok (.getfield 16, 3) := by decide +kernel
theorem d_M_comeLast_4 : decode mb_M_comeLast 4 = .ok (.iload_n 1, 1) := by decide +kernel
theorem d_M_comeLast_5 : decode mb_M_comeLast 5 = .ok (.iconst 2, 1) := by decide +kernel
theorem d_M_comeLast_6 : decode mb_M_comeLast 6 = .ok (.iastore, 1) := by decide +kernel
theorem d_M_comeLast_7 : decode mb_M_comeLast 7 = .ok (.aload_n 0, 1) := by decide +kernel
theorem d_M_comeLast_8 : decode mb_M_comeLast 8 = .ok (.getfield 28, 3) := by decide +kernel
theorem d_M_comeLast_11 : decode mb_M_comeLast 11 = .ok (.aload_n 0, 1) := by decide +kernel
theorem d_M_comeLast_12 : decode mb_M_comeLast 12 = .ok (.getfield 170, 3) := by decide +kernel
theorem d_M_comeLast_15 : decode mb_M_comeLast 15 = .ok (.iload_n 1, 1) := by decide +kernel
theorem d_M_comeLast_16 : decode mb_M_comeLast 16 = .ok (.iastore, 1) := by decide +kernel
theorem d_M_comeLast_17 : decode mb_M_comeLast 17 = .ok (.aload_n 0, 1) := by decide +kernel
theorem d_M_comeLast_18 : decode mb_M_comeLast 18 = .ok (.dup, 1) := by decide +kernel
theorem d_M_comeLast_19 : decode mb_M_comeLast 19 = .ok (.getfield 170, 3) := by decide +kernel
theorem d_M_comeLast_22 : decode mb_M_comeLast 22 = .ok (.iconst 1, 1) := by decide +kernel
theorem d_M_comeLast_23 : decode mb_M_comeLast 23 = .ok (.iadd, 1) := by decide +kernel
theorem d_M_comeLast_24 : decode mb_M_comeLast 24 = .ok (.putfield 170, 3) := by decide +kernel
theorem d_M_comeLast_27 : decode mb_M_comeLast 27 = .ok (.return_, 1) := by decide +kernel
theorem d_M_answer_0 : decode mb_M_answer 0 = .ok (.aload_n 0, 1) := by decide +kernel
theorem d_M_answer_1 : decode mb_M_answer 1 = .ok (.getfield 19, 3) := by decide +kernel
theorem d_M_answer_4 : decode mb_M_answer 4 = .ok (.iload_n 1, 1) := by decide +kernel
theorem d_M_answer_5 : decode mb_M_answer 5 = .ok (.iaload, 1) := by decide +kernel
theorem d_M_answer_6 : decode mb_M_answer 6 = .ok (.istore 5, 2) := by decide +kernel
theorem d_M_answer_8 : decode mb_M_answer 8 = .ok (.aload_n 0, 1) := by decide +kernel
theorem d_M_answer_9 : decode mb_M_answer 9 = .ok (.iload 5, 2) := by decide +kernel
theorem d_M_answer_11 : decode mb_M_answer 11 = .ok (.iload_n 2, 1) := by decide +kernel
theorem d_M_answer_12 : decode mb_M_answer 12 = .ok (.bipush 8, 2) := by decide +kernel
theorem d_M_answer_14 : decode mb_M_answer 14 = .ok (.if_icmp .ne 7, 3) := by decide +kernel
theorem d_M_answer_17 : decode mb_M_answer 17 = .ok (.iconst 1, 1) := by decide +kernel
theorem d_M_answer_18 : decode mb_M_answer 18 = .ok (.goto 4, 3) := by decide +kernel
theorem d_M_answer_21 : decode mb_M_answer 21 = .ok (.iconst 2, 1) := by decide +kernel
theorem d_M_answer_22 : decode mb_M_answer 22 = .ok (.iadd, 1) := by decide +kernel
theorem d_M_answer_23 : decode mb_M_answer 23 = .ok (.iload_n 3, 1) := by decide +kernel
theorem d_M_answer_24 : decode mb_M_answer 24 = .ok (.invokevirtual 43, 3) := by decide +kernel
theorem d_M_answer_27 : decode mb_M_answer 27 = .ok (.aload_n 0, 1) := by decide +kernel
theorem d_M_answer_28 : decode mb_M_answer 28 = .ok (.iload 5, 2) := by decide +kernel
theorem d_M_answer_30 : decode mb_M_answer 30 = .ok (.invokevirtual 39, 3) := by decide +kernel
theorem d_M_answer_33 : decode mb_M_answer 33 = .ok (.istore 6, 2) := by decide +kernel
theorem d_M_answer_35 : decode mb_M_answer 35 = .ok (.aload_n 0, 1) := by decide +kernel
theorem d_M_answer_36 : decode mb_M_answer 36 = .ok (.iload 5, 2) := by decide +kernel
theorem d_M_answer_38 : decode mb_M_answer 38 = .ok (.iload 4, 2) := by decide +kernel
theorem d_M_answer_40 : decode mb_M_answer 40 = .ok (.ifCond .eq 10, 3) := by decide +kernel
theorem d_M_answer_43 : decode mb_M_answer 43 = .ok (.iload 6, 2) := by decide +kernel
theorem d_M_answer_45 : decode mb_M_answer 45 = .ok (.iconst 1, 1) := by decide +kernel
theorem d_M_answer_46 : decode mb_M_answer 46 = .ok (.ior, 1) := by decide +kernel
theorem d_M_answer_47 : decode mb_M_answer 47 = .ok (.goto 9, 3) := by decide +kernel
theorem d_M_answer_50 : decode mb_M_answer 50 = .ok (.iload 6, 2) := by decide +kernel
theorem d_M_answer_52 : decode mb_M_answer 52 = .ok (.sipush 254, 3) := by decide +kernel
theorem d_M_answer_55 : decode mb_M_answer 55 = .ok (.iand, 1) := by decide +kernel
theorem d_M_answer_56 : decode mb_M_answer 56 = .ok (.invokevirtual 43, 3) := by decide +kernel
theorem d_M_answer_59 : decode mb_M_answer 59 = .ok (.return_, 1) := by decide +kernel
section MODEL
variable {l : Launch} {D : va_G}
variable {h0 h1 h2 h3 h4 h5 h6 h7 : Nat} {cI cT : ClassId} {me : Nat → Int32} {rg : Nat → Int32} {so : Nat → Int32} {sv : Nat → Int32} {tl : Nat → Int32} {su : Nat → Int32} {qu : Nat → Int32} {wa : Int32} {ru : Int32} {pe : Int32} {re : Int32} {pn : Bool} {lo : Int32} {se : Int32} {pa : Int32} {sp : Int32} {iv : Bool}
set_option maxHeartbeats 4000000 in
set_option maxRecDepth 100000 in
theorem c_mo_trade {x1 : Int32} {z : (Nat → Int32) × Int32 × Bool} (hf : mo_trade x1 me rg sp iv = some z) : co_v l my_M_trade mb_M_trade 7 rm_m_trade D (ty_ cI cT) [.ref h0, .int x1] (mw_ h0 h1 h2 h3 h4 h5 h6 h7 cI me rg so sv tl su qu wa ru pe re pn lo se pa sp iv) (mw_ h0 h1 h2 h3 h4 h5 h6 h7 cI me z.1 so sv tl su qu wa ru pe re pn lo se pa z.2.1 z.2.2) := by
  refine co_v_of (by decide) (Nat.le_of_ble_eq_true rfl) ?_
  intro p e s m below meth c A ls X hr hlk hK hP hD hS hA hl
  have hx := X.1
  have hb := X.2.1
  have hl : lv_has ls 7 [(0, .ref h0), (1, .int x1)] := hl
  have J86 : ∀ (v1 : Int32) (v3 : Int32) (v4 : Int32) (s0 : Bool) (me : Nat → Int32) (rg : Nat → Int32) (sp : Int32) (iv : Bool), mo_trade_j86 v1 v3 v4 s0 me rg sp iv = some z → ∀ (H : Heap) (locs : List Loc) (ls : Array Slot), lv_has ls 7 [(0, .ref h0), (1, .int v1), (3, .int v3), (4, .int v4)] → va_P D cz_all (mw_ h0 h1 h2 h3 h4 h5 h6 h7 cI me rg so sv tl su qu wa ru pe re pn lo se pa sp iv) H → va_D A (mw_ h0 h1 h2 h3 h4 h5 h6 h7 cI me rg so sv tl su qu wa ru pe re pn lo se pa sp iv) → va_S A s.heap H locs → W p l e rm_m_trade s m ([.ref h0, .int x1] : List Value).toArray below meth c H locs 0 0 (MQ below (qs_v D (ty_ cI cT) (mw_ h0 h1 h2 h3 h4 h5 h6 h7 cI me z.1 so sv tl su qu wa ru pe re pn lo se pa z.2.1 z.2.2) A) ([.ref h0, .int x1] : List Value).toArray s 0 0 A) (F0 m 86 ls [.int (bz_i s0), .ref h0]) := by
    intro v1 v3 v4 s0 me rg sp iv hf H locs ls hl hP hD hS
    unfold mo_trade_j86 at hf
    refine mp_invalid (x := s0) X hK hP hD hS d_M_trade_86 (fun H locs hP hD hS => ?_)
    refine lv_aload_n hx hb d_M_trade_89 rfl (lv_at hl 0 rfl) ?_
    refine mg_invalid X hK hP d_M_trade_90 ?_
    refine lv_if_eq (tgt := 97) hx hb d_M_trade_93 (by decide) (fun hc => ?_) (fun hc => ?_)
    · replace hf := (if_pos hc).symm.trans hf
      refine lv_aload_n hx hb d_M_trade_97 rfl (lv_at hl 0 rfl) ?_
      refine lv_iload_n hx hb d_M_trade_98 rfl (lv_at hl 2 rfl) ?_
      obtain ⟨z10, hz10, hf⟩ := op_b hf
      refine cl_i X cw_M_89 hK hP hD hS hA hl (c_mo_get hz10) ⟨rfl, rfl, Nat.le_of_ble_eq_true rfl, Nat.le_of_ble_eq_true rfl⟩ 0 rfl rfl rfl rfl rfl (Nat.le_of_ble_eq_true rfl) d_M_trade_99 (fun H locs hP hD hS => ?_)
      refine lv_istore hx hb d_M_trade_102 hl (by decide) rfl (fun ls hl => ?_)
      have hl : lv_has ls 7 [(5, .int z10), (0, .ref h0), (1, .int v1), (3, .int v3), (4, .int v4)] := hl
      refine lv_aload_n hx hb d_M_trade_104 rfl (lv_at hl 1 rfl) ?_
      refine lv_iload hx hb d_M_trade_105 (lv_at hl 4 rfl) ?_
      obtain ⟨z11, hz11, hf⟩ := op_b hf
      refine cl_i X cw_M_89 hK hP hD hS hA hl (c_mo_get hz11) ⟨rfl, rfl, Nat.le_of_ble_eq_true rfl, Nat.le_of_ble_eq_true rfl⟩ 0 rfl rfl rfl rfl rfl (Nat.le_of_ble_eq_true rfl) d_M_trade_107 (fun H locs hP hD hS => ?_)
      refine lv_istore hx hb d_M_trade_110 hl (by decide) rfl (fun ls hl => ?_)
      have hl : lv_has ls 7 [(6, .int z11), (5, .int z10), (0, .ref h0), (1, .int v1), (3, .int v3), (4, .int v4)] := hl
      refine lv_aload_n hx hb d_M_trade_112 rfl (lv_at hl 2 rfl) ?_
      refine lv_iload hx hb d_M_trade_113 (lv_at hl 5 rfl) ?_
      refine lv_iload hx hb d_M_trade_115 (lv_at hl 1 rfl) ?_
      obtain ⟨z12, hz12, hf⟩ := op_b hf
      refine cl_v X cw_M_51 hK hP hD hS hA hl (c_mo_set hz12) ⟨rfl, rfl, Nat.le_of_ble_eq_true rfl, Nat.le_of_ble_eq_true rfl⟩ 0 rfl rfl rfl rfl rfl (Nat.le_of_ble_eq_true rfl) d_M_trade_117 (fun H locs hP hD hS => ?_)
      refine lv_iload_n hx hb d_M_trade_120 rfl (lv_at hl 3 rfl) ?_
      refine lv_bipush (v := (30 : Int32)) hx hb d_M_trade_121 (by decide) ?_
      refine lv_icmp_ne (tgt := 133) hx hb d_M_trade_123 (by decide) (fun hc => ?_) (fun hc => ?_)
      · replace hf := (if_neg hc).symm.trans hf
        have hq := Option.some.inj hf
        subst hq
        exact rt_v X hr hlk hK hP hD hS d_M_trade_133
      · replace hf := (if_pos hc).symm.trans hf
        refine lv_aload_n hx hb d_M_trade_126 rfl (lv_at hl 2 rfl) ?_
        refine lv_iload_n hx hb d_M_trade_127 rfl (lv_at hl 4 rfl) ?_
        refine lv_iload hx hb d_M_trade_128 (lv_at hl 0 rfl) ?_
        obtain ⟨z13, hz13, hf⟩ := op_b hf
        refine cl_v X cw_M_51 hK hP hD hS hA hl (c_mo_set hz13) ⟨rfl, rfl, Nat.le_of_ble_eq_true rfl, Nat.le_of_ble_eq_true rfl⟩ 0 rfl rfl rfl rfl rfl (Nat.le_of_ble_eq_true rfl) d_M_trade_130 (fun H locs hP hD hS => ?_)
        have hq := Option.some.inj hf
        subst hq
        exact rt_v X hr hlk hK hP hD hS d_M_trade_133
    · replace hf := (if_neg hc).symm.trans hf
      have hq := Option.some.inj hf
      subst hq
      exact rt_v X hr hlk hK hP hD hS d_M_trade_96
  have J81 : ∀ (v1 : Int32) (v3 : Int32) (v4 : Int32) (me : Nat → Int32) (rg : Nat → Int32) (sp : Int32) (iv : Bool), mo_trade_j81 v1 v3 v4 me rg sp iv = some z → ∀ (H : Heap) (locs : List Loc) (ls : Array Slot), lv_has ls 7 [(0, .ref h0), (1, .int v1), (3, .int v3), (4, .int v4)] → va_P D cz_all (mw_ h0 h1 h2 h3 h4 h5 h6 h7 cI me rg so sv tl su qu wa ru pe re pn lo se pa sp iv) H → va_D A (mw_ h0 h1 h2 h3 h4 h5 h6 h7 cI me rg so sv tl su qu wa ru pe re pn lo se pa sp iv) → va_S A s.heap H locs → W p l e rm_m_trade s m ([.ref h0, .int x1] : List Value).toArray below meth c H locs 0 0 (MQ below (qs_v D (ty_ cI cT) (mw_ h0 h1 h2 h3 h4 h5 h6 h7 cI me z.1 so sv tl su qu wa ru pe re pn lo se pa z.2.1 z.2.2) A) ([.ref h0, .int x1] : List Value).toArray s 0 0 A) (F0 m 81 ls [.ref h0]) := by
    intro v1 v3 v4 me rg sp iv hf H locs ls hl hP hD hS
    unfold mo_trade_j81 at hf
    refine lv_iconst (v := (1 : Int32)) hx hb d_M_trade_81 (by decide) ?_
    refine lv_goto (tgt := 86) hx hb d_M_trade_82 (by decide) ?_
    exact J86 v1 v3 v4 true me rg sp iv hf _ _ _ hl hP hD hS
  have J78 : ∀ (v1 : Int32) (v3 : Int32) (v4 : Int32) (s0 : Bool) (s1 : Bool) (me : Nat → Int32) (rg : Nat → Int32) (sp : Int32) (iv : Bool), mo_trade_j78 v1 v3 v4 s0 s1 me rg sp iv = some z → ∀ (H : Heap) (locs : List Loc) (ls : Array Slot), lv_has ls 7 [(0, .ref h0), (1, .int v1), (3, .int v3), (4, .int v4)] → va_P D cz_all (mw_ h0 h1 h2 h3 h4 h5 h6 h7 cI me rg so sv tl su qu wa ru pe re pn lo se pa sp iv) H → va_D A (mw_ h0 h1 h2 h3 h4 h5 h6 h7 cI me rg so sv tl su qu wa ru pe re pn lo se pa sp iv) → va_S A s.heap H locs → W p l e rm_m_trade s m ([.ref h0, .int x1] : List Value).toArray below meth c H locs 0 0 (MQ below (qs_v D (ty_ cI cT) (mw_ h0 h1 h2 h3 h4 h5 h6 h7 cI me z.1 so sv tl su qu wa ru pe re pn lo se pa z.2.1 z.2.2) A) ([.ref h0, .int x1] : List Value).toArray s 0 0 A) (F0 m 78 ls [.int (bz_i s0), .int (bz_i s1), .ref h0]) := by
    intro v1 v3 v4 s0 s1 me rg sp iv hf H locs ls hl hP hD hS
    unfold mo_trade_j78 at hf
    refine lv_icmp_eq (tgt := 85) hx hb d_M_trade_78 (by decide) (fun hc => ?_) (fun hc => ?_)
    · replace hf := (if_pos hc).symm.trans hf
      refine lv_iconst (v := (0 : Int32)) hx hb d_M_trade_85 (by decide) ?_
      exact J86 v1 v3 v4 false me rg sp iv hf _ _ _ hl hP hD hS
    · replace hf := (if_neg hc).symm.trans hf
      exact J81 v1 v3 v4 me rg sp iv hf _ _ _ hl hP hD hS
  have J66 : ∀ (v1 : Int32) (v3 : Int32) (v4 : Int32) (s0 : Bool) (me : Nat → Int32) (rg : Nat → Int32) (sp : Int32) (iv : Bool), mo_trade_j66 v1 v3 v4 s0 me rg sp iv = some z → ∀ (H : Heap) (locs : List Loc) (ls : Array Slot), lv_has ls 7 [(0, .ref h0), (1, .int v1), (3, .int v3), (4, .int v4)] → va_P D cz_all (mw_ h0 h1 h2 h3 h4 h5 h6 h7 cI me rg so sv tl su qu wa ru pe re pn lo se pa sp iv) H → va_D A (mw_ h0 h1 h2 h3 h4 h5 h6 h7 cI me rg so sv tl su qu wa ru pe re pn lo se pa sp iv) → va_S A s.heap H locs → W p l e rm_m_trade s m ([.ref h0, .int x1] : List Value).toArray below meth c H locs 0 0 (MQ below (qs_v D (ty_ cI cT) (mw_ h0 h1 h2 h3 h4 h5 h6 h7 cI me z.1 so sv tl su qu wa ru pe re pn lo se pa z.2.1 z.2.2) A) ([.ref h0, .int x1] : List Value).toArray s 0 0 A) (F0 m 66 ls [.int (bz_i s0), .ref h0]) := by
    intro v1 v3 v4 s0 me rg sp iv hf H locs ls hl hP hD hS
    unfold mo_trade_j66 at hf
    refine lv_iload hx hb d_M_trade_66 (lv_at hl 3 rfl) ?_
    refine lv_bipush (v := (8 : Int32)) hx hb d_M_trade_68 (by decide) ?_
    refine lv_icmp_ge (tgt := 77) hx hb d_M_trade_70 (by decide) (fun hc => ?_) (fun hc => ?_)
    · replace hf := (if_pos hc).symm.trans hf
      refine lv_iconst (v := (0 : Int32)) hx hb d_M_trade_77 (by decide) ?_
      exact J78 v1 v3 v4 false s0 me rg sp iv hf _ _ _ hl hP hD hS
    · replace hf := (if_neg hc).symm.trans hf
      refine lv_iconst (v := (1 : Int32)) hx hb d_M_trade_73 (by decide) ?_
      refine lv_goto (tgt := 78) hx hb d_M_trade_74 (by decide) ?_
      exact J78 v1 v3 v4 true s0 me rg sp iv hf _ _ _ hl hP hD hS
  unfold mo_trade at hf
  refine lv_aload_n hx hb d_M_trade_0 rfl (lv_at hl 0 rfl) ?_
  obtain ⟨z14, hz14, hf⟩ := op_b hf
  refine cl_i X cw_M_54 hK hP hD hS hA hl (c_mo_fetch hz14) ⟨rfl, rfl, Nat.le_of_ble_eq_true rfl, Nat.le_of_ble_eq_true rfl⟩ 0 rfl rfl rfl rfl rfl (Nat.le_of_ble_eq_true rfl) d_M_trade_1 (fun H locs hP hD hS => ?_)
  refine lv_istore_n hx hb d_M_trade_4 rfl hl (by decide) rfl (fun ls hl => ?_)
  have hl : lv_has ls 7 [(2, .int z14.1), (0, .ref h0), (1, .int x1)] := hl
  refine lv_iload_n hx hb d_M_trade_5 rfl (lv_at hl 0 rfl) ?_
  refine lv_iconst (v := (4 : Int32)) hx hb d_M_trade_6 (by decide) ?_
  refine lv_ishr hx hb d_M_trade_7 ?_
  refine lv_istore_n hx hb d_M_trade_8 rfl hl (by decide) rfl (fun ls hl => ?_)
  have hl : lv_has ls 7 [(3, .int (z14.1 >>> ((4 : Int32) &&& 31))), (2, .int z14.1), (0, .ref h0), (1, .int x1)] := hl
  refine lv_iload_n hx hb d_M_trade_9 rfl (lv_at hl 1 rfl) ?_
  refine lv_bipush (v := (15 : Int32)) hx hb d_M_trade_10 (by decide) ?_
  refine lv_iand hx hb d_M_trade_12 ?_
  refine lv_istore hx hb d_M_trade_13 hl (by decide) rfl (fun ls hl => ?_)
  have hl : lv_has ls 7 [(4, .int (z14.1 &&& (15 : Int32))), (3, .int (z14.1 >>> ((4 : Int32) &&& 31))), (2, .int z14.1), (0, .ref h0), (1, .int x1)] := hl
  refine lv_aload_n hx hb d_M_trade_15 rfl (lv_at hl 3 rfl) ?_
  refine lv_iload_n hx hb d_M_trade_16 rfl (lv_at hl 1 rfl) ?_
  refine lv_bipush (v := (6 : Int32)) hx hb d_M_trade_17 (by decide) ?_
  refine lv_icmp_eq (tgt := 81) hx hb d_M_trade_19 (by decide) (fun hc => ?_) (fun hc => ?_)
  · replace hf := (if_pos hc).symm.trans hf
    exact J81 x1 (z14.1 >>> ((4 : Int32) &&& 31)) (z14.1 &&& (15 : Int32)) me z14.2.1 z14.2.2 iv hf _ _ _ (lv_sub hl [3, 4, 1, 0] rfl) hP hD hS
  · replace hf := (if_neg hc).symm.trans hf
    refine lv_iload_n hx hb d_M_trade_22 rfl (lv_at hl 1 rfl) ?_
    refine lv_bipush (v := (7 : Int32)) hx hb d_M_trade_23 (by decide) ?_
    refine lv_icmp_eq (tgt := 81) hx hb d_M_trade_25 (by decide) (fun hc => ?_) (fun hc => ?_)
    · replace hf := (if_pos hc).symm.trans hf
      exact J81 x1 (z14.1 >>> ((4 : Int32) &&& 31)) (z14.1 &&& (15 : Int32)) me z14.2.1 z14.2.2 iv hf _ _ _ (lv_sub hl [3, 4, 1, 0] rfl) hP hD hS
    · replace hf := (if_neg hc).symm.trans hf
      refine lv_iload_n hx hb d_M_trade_28 rfl (lv_at hl 1 rfl) ?_
      refine lv_bipush (v := (11 : Int32)) hx hb d_M_trade_29 (by decide) ?_
      refine lv_icmp_gt (tgt := 81) hx hb d_M_trade_31 (by decide) (fun hc => ?_) (fun hc => ?_)
      · replace hf := (if_pos hc).symm.trans hf
        exact J81 x1 (z14.1 >>> ((4 : Int32) &&& 31)) (z14.1 &&& (15 : Int32)) me z14.2.1 z14.2.2 iv hf _ _ _ (lv_sub hl [3, 4, 1, 0] rfl) hP hD hS
      · replace hf := (if_neg hc).symm.trans hf
        refine lv_iload hx hb d_M_trade_34 (lv_at hl 0 rfl) ?_
        refine lv_bipush (v := (6 : Int32)) hx hb d_M_trade_36 (by decide) ?_
        refine lv_icmp_eq (tgt := 81) hx hb d_M_trade_38 (by decide) (fun hc => ?_) (fun hc => ?_)
        · replace hf := (if_pos hc).symm.trans hf
          exact J81 x1 (z14.1 >>> ((4 : Int32) &&& 31)) (z14.1 &&& (15 : Int32)) me z14.2.1 z14.2.2 iv hf _ _ _ (lv_sub hl [3, 4, 1, 0] rfl) hP hD hS
        · replace hf := (if_neg hc).symm.trans hf
          refine lv_iload hx hb d_M_trade_41 (lv_at hl 0 rfl) ?_
          refine lv_bipush (v := (7 : Int32)) hx hb d_M_trade_43 (by decide) ?_
          refine lv_icmp_eq (tgt := 81) hx hb d_M_trade_45 (by decide) (fun hc => ?_) (fun hc => ?_)
          · replace hf := (if_pos hc).symm.trans hf
            exact J81 x1 (z14.1 >>> ((4 : Int32) &&& 31)) (z14.1 &&& (15 : Int32)) me z14.2.1 z14.2.2 iv hf _ _ _ (lv_sub hl [3, 4, 1, 0] rfl) hP hD hS
          · replace hf := (if_neg hc).symm.trans hf
            refine lv_iload hx hb d_M_trade_48 (lv_at hl 0 rfl) ?_
            refine lv_bipush (v := (11 : Int32)) hx hb d_M_trade_50 (by decide) ?_
            refine lv_icmp_gt (tgt := 81) hx hb d_M_trade_52 (by decide) (fun hc => ?_) (fun hc => ?_)
            · replace hf := (if_pos hc).symm.trans hf
              exact J81 x1 (z14.1 >>> ((4 : Int32) &&& 31)) (z14.1 &&& (15 : Int32)) me z14.2.1 z14.2.2 iv hf _ _ _ (lv_sub hl [3, 4, 1, 0] rfl) hP hD hS
            · replace hf := (if_neg hc).symm.trans hf
              refine lv_iload_n hx hb d_M_trade_55 rfl (lv_at hl 1 rfl) ?_
              refine lv_bipush (v := (8 : Int32)) hx hb d_M_trade_56 (by decide) ?_
              refine lv_icmp_ge (tgt := 65) hx hb d_M_trade_58 (by decide) (fun hc => ?_) (fun hc => ?_)
              · replace hf := (if_pos hc).symm.trans hf
                refine lv_iconst (v := (0 : Int32)) hx hb d_M_trade_65 (by decide) ?_
                exact J66 x1 (z14.1 >>> ((4 : Int32) &&& 31)) (z14.1 &&& (15 : Int32)) false me z14.2.1 z14.2.2 iv hf _ _ _ (lv_sub hl [3, 4, 1, 0] rfl) hP hD hS
              · replace hf := (if_neg hc).symm.trans hf
                refine lv_iconst (v := (1 : Int32)) hx hb d_M_trade_61 (by decide) ?_
                refine lv_goto (tgt := 66) hx hb d_M_trade_62 (by decide) ?_
                exact J66 x1 (z14.1 >>> ((4 : Int32) &&& 31)) (z14.1 &&& (15 : Int32)) true me z14.2.1 z14.2.2 iv hf _ _ _ (lv_sub hl [3, 4, 1, 0] rfl) hP hD hS
set_option maxHeartbeats 4000000 in
set_option maxRecDepth 100000 in
theorem c_mo_listed {x1 : Int32} {x2 : Int32} {z : Int32} (hf : mo_listed x1 x2 = some z) : co_i l my_M_listed mb_M_listed 2 .int rm_m_listed D (ty_ cI cT) [.int x1, .int x2] (mw_ h0 h1 h2 h3 h4 h5 h6 h7 cI me rg so sv tl su qu wa ru pe re pn lo se pa sp iv) (mw_ h0 h1 h2 h3 h4 h5 h6 h7 cI me rg so sv tl su qu wa ru pe re pn lo se pa sp iv) z := by
  refine co_i_of (by decide) (Nat.le_of_ble_eq_true rfl) ?_
  intro p e s m below meth c A ls X hr hlk hK hP hD hS hA hl
  have hx := X.1
  have hb := X.2.1
  have hl : lv_has ls 2 [(0, .int x1), (1, .int x2)] := hl
  unfold mo_listed at hf
  refine lv_iload_n hx hb d_M_listed_0 rfl (lv_at hl 0 rfl) ?_
  refine lv_if_ne (tgt := 9) hx hb d_M_listed_1 (by decide) (fun hc => ?_) (fun hc => ?_)
  · replace hf := (if_neg hc).symm.trans hf
    refine lv_iload_n hx hb d_M_listed_9 rfl (lv_at hl 0 rfl) ?_
    refine lv_iconst (v := (1 : Int32)) hx hb d_M_listed_10 (by decide) ?_
    refine lv_icmp_ne (tgt := 19) hx hb d_M_listed_11 (by decide) (fun hc => ?_) (fun hc => ?_)
    · replace hf := (if_neg hc).symm.trans hf
      refine lv_iload_n hx hb d_M_listed_19 rfl (lv_at hl 0 rfl) ?_
      refine lv_iconst (v := (2 : Int32)) hx hb d_M_listed_20 (by decide) ?_
      refine lv_icmp_ne (tgt := 29) hx hb d_M_listed_21 (by decide) (fun hc => ?_) (fun hc => ?_)
      · replace hf := (if_neg hc).symm.trans hf
        refine lv_iload_n hx hb d_M_listed_29 rfl (lv_at hl 0 rfl) ?_
        refine lv_iconst (v := (3 : Int32)) hx hb d_M_listed_30 (by decide) ?_
        refine lv_icmp_ne (tgt := 39) hx hb d_M_listed_31 (by decide) (fun hc => ?_) (fun hc => ?_)
        · replace hf := (if_neg hc).symm.trans hf
          refine lv_iload_n hx hb d_M_listed_39 rfl (lv_at hl 0 rfl) ?_
          refine lv_iconst (v := (4 : Int32)) hx hb d_M_listed_40 (by decide) ?_
          refine lv_icmp_ne (tgt := 48) hx hb d_M_listed_41 (by decide) (fun hc => ?_) (fun hc => ?_)
          · replace hf := (if_neg hc).symm.trans hf
            refine lv_iload_n hx hb d_M_listed_48 rfl (lv_at hl 0 rfl) ?_
            refine lv_iconst (v := (5 : Int32)) hx hb d_M_listed_49 (by decide) ?_
            refine lv_icmp_ne (tgt := 57) hx hb d_M_listed_50 (by decide) (fun hc => ?_) (fun hc => ?_)
            · replace hf := (if_neg hc).symm.trans hf
              refine lv_iload_n hx hb d_M_listed_57 rfl (lv_at hl 0 rfl) ?_
              refine lv_bipush (v := (7 : Int32)) hx hb d_M_listed_58 (by decide) ?_
              refine lv_icmp_ne (tgt := 67) hx hb d_M_listed_60 (by decide) (fun hc => ?_) (fun hc => ?_)
              · replace hf := (if_neg hc).symm.trans hf
                refine lv_iload_n hx hb d_M_listed_67 rfl (lv_at hl 1 rfl) ?_
                refine lv_iconst (v := (4 : Int32)) hx hb d_M_listed_68 (by decide) ?_
                refine lv_icmp_ne (tgt := 76) hx hb d_M_listed_69 (by decide) (fun hc => ?_) (fun hc => ?_)
                · replace hf := (if_neg hc).symm.trans hf
                  refine lv_iconst (v := (4 : Int32)) hx hb d_M_listed_76 (by decide) ?_
                  have hq := Option.some.inj hf
                  subst hq
                  exact rt_i (r := (4 : Int32)) X hr hlk hK rfl hP hD hS d_M_listed_77
                · replace hf := (if_pos hc).symm.trans hf
                  refine lv_iconst (v := (3 : Int32)) hx hb d_M_listed_72 (by decide) ?_
                  refine lv_goto (tgt := 77) hx hb d_M_listed_73 (by decide) ?_
                  have hq := Option.some.inj hf
                  subst hq
                  exact rt_i (r := (3 : Int32)) X hr hlk hK rfl hP hD hS d_M_listed_77
              · replace hf := (if_pos hc).symm.trans hf
                refine lv_iconst (v := (5 : Int32)) hx hb d_M_listed_63 (by decide) ?_
                refine lv_goto (tgt := 77) hx hb d_M_listed_64 (by decide) ?_
                have hq := Option.some.inj hf
                subst hq
                exact rt_i (r := (5 : Int32)) X hr hlk hK rfl hP hD hS d_M_listed_77
            · replace hf := (if_pos hc).symm.trans hf
              refine lv_iconst (v := (2 : Int32)) hx hb d_M_listed_53 (by decide) ?_
              refine lv_goto (tgt := 77) hx hb d_M_listed_54 (by decide) ?_
              have hq := Option.some.inj hf
              subst hq
              exact rt_i (r := (2 : Int32)) X hr hlk hK rfl hP hD hS d_M_listed_77
          · replace hf := (if_pos hc).symm.trans hf
            refine lv_iconst (v := (1 : Int32)) hx hb d_M_listed_44 (by decide) ?_
            refine lv_goto (tgt := 77) hx hb d_M_listed_45 (by decide) ?_
            have hq := Option.some.inj hf
            subst hq
            exact rt_i (r := (1 : Int32)) X hr hlk hK rfl hP hD hS d_M_listed_77
        · replace hf := (if_pos hc).symm.trans hf
          refine lv_bipush (v := (11 : Int32)) hx hb d_M_listed_34 (by decide) ?_
          refine lv_goto (tgt := 77) hx hb d_M_listed_36 (by decide) ?_
          have hq := Option.some.inj hf
          subst hq
          exact rt_i (r := (11 : Int32)) X hr hlk hK rfl hP hD hS d_M_listed_77
      · replace hf := (if_pos hc).symm.trans hf
        refine lv_bipush (v := (9 : Int32)) hx hb d_M_listed_24 (by decide) ?_
        refine lv_goto (tgt := 77) hx hb d_M_listed_26 (by decide) ?_
        have hq := Option.some.inj hf
        subst hq
        exact rt_i (r := (9 : Int32)) X hr hlk hK rfl hP hD hS d_M_listed_77
    · replace hf := (if_pos hc).symm.trans hf
      refine lv_bipush (v := (8 : Int32)) hx hb d_M_listed_14 (by decide) ?_
      refine lv_goto (tgt := 77) hx hb d_M_listed_16 (by decide) ?_
      have hq := Option.some.inj hf
      subst hq
      exact rt_i (r := (8 : Int32)) X hr hlk hK rfl hP hD hS d_M_listed_77
  · replace hf := (if_pos hc).symm.trans hf
    refine lv_bipush (v := (10 : Int32)) hx hb d_M_listed_4 (by decide) ?_
    refine lv_goto (tgt := 77) hx hb d_M_listed_6 (by decide) ?_
    have hq := Option.some.inj hf
    subst hq
    exact rt_i (r := (10 : Int32)) X hr hlk hK rfl hP hD hS d_M_listed_77
set_option maxHeartbeats 4000000 in
set_option maxRecDepth 100000 in
theorem c_mo_many {x1 : Int32} {z : (Nat → Int32) × (Nat → Int32) × Int32} (hf : mo_many x1 me rg sp = some z) : co_v l my_M_many mb_M_many 5 rm_m_many D (ty_ cI cT) [.ref h0, .int x1] (mw_ h0 h1 h2 h3 h4 h5 h6 h7 cI me rg so sv tl su qu wa ru pe re pn lo se pa sp iv) (mw_ h0 h1 h2 h3 h4 h5 h6 h7 cI z.1 z.2.1 so sv tl su qu wa ru pe re pn lo se pa z.2.2 iv) := by
  refine co_v_of (by decide) (Nat.le_of_ble_eq_true rfl) ?_
  intro p e s m below meth c A ls X hr hlk hK hP hD hS hA hl
  have hx := X.1
  have hb := X.2.1
  have hl : lv_has ls 5 [(0, .ref h0), (1, .int x1)] := hl
  have L62 : ∀ (n_ : Nat) (v1 : Int32) (v2 : Int32) (v3 : Int32) (v4 : Int32) (me : Nat → Int32) (rg : Nat → Int32) (sp : Int32), mo_many_l62 n_ v1 v2 v3 v4 me rg sp = some z → ∀ (H : Heap) (locs : List Loc) (ls : Array Slot), lv_has ls 5 [(0, .ref h0), (1, .int v1), (2, .int v2), (3, .int v3), (4, .int v4)] → va_P D cz_all (mw_ h0 h1 h2 h3 h4 h5 h6 h7 cI me rg so sv tl su qu wa ru pe re pn lo se pa sp iv) H → va_D A (mw_ h0 h1 h2 h3 h4 h5 h6 h7 cI me rg so sv tl su qu wa ru pe re pn lo se pa sp iv) → va_S A s.heap H locs → W p l e rm_m_many s m ([.ref h0, .int x1] : List Value).toArray below meth c H locs 0 0 (MQ below (qs_v D (ty_ cI cT) (mw_ h0 h1 h2 h3 h4 h5 h6 h7 cI z.1 z.2.1 so sv tl su qu wa ru pe re pn lo se pa z.2.2 iv) A) ([.ref h0, .int x1] : List Value).toArray s 0 0 A) (F0 m 62 ls []) := by
    intro n_
    induction n_ with
    | zero => intro v1 v2 v3 v4 me rg sp hf; cases hf
    | succ n_ ih =>
      have J97 : ∀ (v1 : Int32) (v2 : Int32) (v3 : Int32) (v4 : Int32) (me : Nat → Int32) (rg : Nat → Int32) (sp : Int32), mo_many_j97 (mo_many_l62 n_) v1 v2 v3 v4 me rg sp = some z → ∀ (H : Heap) (locs : List Loc) (ls : Array Slot), lv_has ls 5 [(0, .ref h0), (1, .int v1), (2, .int v2), (3, .int v3), (4, .int v4)] → va_P D cz_all (mw_ h0 h1 h2 h3 h4 h5 h6 h7 cI me rg so sv tl su qu wa ru pe re pn lo se pa sp iv) H → va_D A (mw_ h0 h1 h2 h3 h4 h5 h6 h7 cI me rg so sv tl su qu wa ru pe re pn lo se pa sp iv) → va_S A s.heap H locs → W p l e rm_m_many s m ([.ref h0, .int x1] : List Value).toArray below meth c H locs 0 0 (MQ below (qs_v D (ty_ cI cT) (mw_ h0 h1 h2 h3 h4 h5 h6 h7 cI z.1 z.2.1 so sv tl su qu wa ru pe re pn lo se pa z.2.2 iv) A) ([.ref h0, .int x1] : List Value).toArray s 0 0 A) (F0 m 97 ls []) := by
        intro v1 v2 v3 v4 me rg sp hf H locs ls hl hP hD hS
        unfold mo_many_j97 at hf
        refine lv_iinc (k := 4) hx hb d_M_many_97 hl rfl rfl (by decide) rfl (fun ls hl => ?_)
        have hl : lv_has ls 5 [(4, .int (v4 + Int32.ofInt 1)), (0, .ref h0), (1, .int v1), (2, .int v2), (3, .int v3)] := hl
        refine lv_goto (tgt := 62) hx hb d_M_many_100 (by decide) ?_
        exact ih v1 v2 v3 (v4 + Int32.ofInt 1) me rg sp hf _ _ _ (lv_sub hl [1, 2, 3, 4, 0] rfl) hP hD hS
      intro v1 v2 v3 v4 me rg sp hf H locs ls hl hP hD hS
      replace hf := (mo_many_l62_s n_ v1 v2 v3 v4 me rg sp).symm.trans hf
      refine lv_iload hx hb d_M_many_62 (lv_at hl 4 rfl) ?_
      refine lv_bipush (v := (8 : Int32)) hx hb d_M_many_64 (by decide) ?_
      refine lv_icmp_ge (tgt := 103) hx hb d_M_many_66 (by decide) (fun hc => ?_) (fun hc => ?_)
      · replace hf := (if_pos hc).symm.trans hf
        have hq := Option.some.inj hf
        subst hq
        exact rt_v X hr hlk hK hP hD hS d_M_many_103
      · replace hf := (if_neg hc).symm.trans hf
        refine lv_iload_n hx hb d_M_many_69 rfl (lv_at hl 1 rfl) ?_
        refine lv_iconst (v := (2 : Int32)) hx hb d_M_many_70 (by decide) ?_
        refine lv_irem hx hb d_M_many_71 (by decide) ?_
        refine lv_iconst (v := (1 : Int32)) hx hb d_M_many_72 (by decide) ?_
        refine lv_icmp_ne (tgt := 103) hx hb d_M_many_73 (by decide) (fun hc => ?_) (fun hc => ?_)
        · replace hf := (if_neg hc).symm.trans hf
          have hq := Option.some.inj hf
          subst hq
          exact rt_v X hr hlk hK hP hD hS d_M_many_103
        · replace hf := (if_pos hc).symm.trans hf
          refine lv_iload_n hx hb d_M_many_76 rfl (lv_at hl 2 rfl) ?_
          refine lv_iload hx hb d_M_many_77 (lv_at hl 4 rfl) ?_
          refine lv_ishr hx hb d_M_many_79 ?_
          refine lv_iconst (v := (1 : Int32)) hx hb d_M_many_80 (by decide) ?_
          refine lv_iand hx hb d_M_many_81 ?_
          refine lv_iconst (v := (1 : Int32)) hx hb d_M_many_82 (by decide) ?_
          refine lv_icmp_ne (tgt := 97) hx hb d_M_many_83 (by decide) (fun hc => ?_) (fun hc => ?_)
          · replace hf := (if_neg hc).symm.trans hf
            exact J97 v1 v2 v3 v4 me rg sp hf _ _ _ hl hP hD hS
          · replace hf := (if_pos hc).symm.trans hf
            refine lv_aload_n hx hb d_M_many_86 rfl (lv_at hl 0 rfl) ?_
            refine lv_iload_n hx hb d_M_many_87 rfl (lv_at hl 3 rfl) ?_
            refine lv_iload hx hb d_M_many_88 (lv_at hl 4 rfl) ?_
            refine lv_iload_n hx hb d_M_many_90 rfl (lv_at hl 3 rfl) ?_
            obtain ⟨z10, hz10, hf⟩ := op_b hf
            refine cl_si X cw_M_134 hK hP hD hS hA hl (c_mo_listed hz10) ⟨rfl, rfl, Nat.le_of_ble_eq_true rfl, Nat.le_of_ble_eq_true rfl⟩ rfl rfl (Nat.le_of_ble_eq_true rfl) d_M_many_91 (fun H locs hP hD hS => ?_)
            obtain ⟨z11, hz11, hf⟩ := op_b hf
            refine cl_v X cw_M_137 hK hP hD hS hA hl (c_mo_pull hz11) ⟨rfl, rfl, Nat.le_of_ble_eq_true rfl, Nat.le_of_ble_eq_true rfl⟩ 0 rfl rfl rfl rfl rfl (Nat.le_of_ble_eq_true rfl) d_M_many_94 (fun H locs hP hD hS => ?_)
            exact J97 v1 v2 v3 v4 me z11.1 z11.2 hf _ _ _ hl hP hD hS
  have J59 : ∀ (v1 : Int32) (v2 : Int32) (v3 : Int32) (me : Nat → Int32) (rg : Nat → Int32) (sp : Int32), mo_many_j59 v1 v2 v3 me rg sp = some z → ∀ (H : Heap) (locs : List Loc) (ls : Array Slot), lv_has ls 5 [(0, .ref h0), (1, .int v1), (2, .int v2), (3, .int v3)] → va_P D cz_all (mw_ h0 h1 h2 h3 h4 h5 h6 h7 cI me rg so sv tl su qu wa ru pe re pn lo se pa sp iv) H → va_D A (mw_ h0 h1 h2 h3 h4 h5 h6 h7 cI me rg so sv tl su qu wa ru pe re pn lo se pa sp iv) → va_S A s.heap H locs → W p l e rm_m_many s m ([.ref h0, .int x1] : List Value).toArray below meth c H locs 0 0 (MQ below (qs_v D (ty_ cI cT) (mw_ h0 h1 h2 h3 h4 h5 h6 h7 cI z.1 z.2.1 so sv tl su qu wa ru pe re pn lo se pa z.2.2 iv) A) ([.ref h0, .int x1] : List Value).toArray s 0 0 A) (F0 m 59 ls []) := by
    intro v1 v2 v3 me rg sp hf H locs ls hl hP hD hS
    unfold mo_many_j59 at hf
    refine lv_iconst (v := (0 : Int32)) hx hb d_M_many_59 (by decide) ?_
    refine lv_istore hx hb d_M_many_60 hl (by decide) rfl (fun ls hl => ?_)
    have hl : lv_has ls 5 [(4, .int (0 : Int32)), (0, .ref h0), (1, .int v1), (2, .int v2), (3, .int v3)] := hl
    exact L62 9 v1 v2 v3 (0 : Int32) me rg sp hf _ _ _ (lv_sub hl [1, 2, 3, 4, 0] rfl) hP hD hS
  have L21 : ∀ (n_ : Nat) (v1 : Int32) (v2 : Int32) (v3 : Int32) (v4 : Int32) (me : Nat → Int32) (rg : Nat → Int32) (sp : Int32), mo_many_l21 n_ v1 v2 v3 v4 me rg sp = some z → ∀ (H : Heap) (locs : List Loc) (ls : Array Slot), lv_has ls 5 [(0, .ref h0), (1, .int v1), (2, .int v2), (3, .int v3), (4, .int v4)] → va_P D cz_all (mw_ h0 h1 h2 h3 h4 h5 h6 h7 cI me rg so sv tl su qu wa ru pe re pn lo se pa sp iv) H → va_D A (mw_ h0 h1 h2 h3 h4 h5 h6 h7 cI me rg so sv tl su qu wa ru pe re pn lo se pa sp iv) → va_S A s.heap H locs → W p l e rm_m_many s m ([.ref h0, .int x1] : List Value).toArray below meth c H locs 0 0 (MQ below (qs_v D (ty_ cI cT) (mw_ h0 h1 h2 h3 h4 h5 h6 h7 cI z.1 z.2.1 so sv tl su qu wa ru pe re pn lo se pa z.2.2 iv) A) ([.ref h0, .int x1] : List Value).toArray s 0 0 A) (F0 m 21 ls []) := by
    intro n_
    induction n_ with
    | zero => intro v1 v2 v3 v4 me rg sp hf; cases hf
    | succ n_ ih =>
      have J53 : ∀ (v1 : Int32) (v2 : Int32) (v3 : Int32) (v4 : Int32) (me : Nat → Int32) (rg : Nat → Int32) (sp : Int32), mo_many_j53 (mo_many_l21 n_) v1 v2 v3 v4 me rg sp = some z → ∀ (H : Heap) (locs : List Loc) (ls : Array Slot), lv_has ls 5 [(0, .ref h0), (1, .int v1), (2, .int v2), (3, .int v3), (4, .int v4)] → va_P D cz_all (mw_ h0 h1 h2 h3 h4 h5 h6 h7 cI me rg so sv tl su qu wa ru pe re pn lo se pa sp iv) H → va_D A (mw_ h0 h1 h2 h3 h4 h5 h6 h7 cI me rg so sv tl su qu wa ru pe re pn lo se pa sp iv) → va_S A s.heap H locs → W p l e rm_m_many s m ([.ref h0, .int x1] : List Value).toArray below meth c H locs 0 0 (MQ below (qs_v D (ty_ cI cT) (mw_ h0 h1 h2 h3 h4 h5 h6 h7 cI z.1 z.2.1 so sv tl su qu wa ru pe re pn lo se pa z.2.2 iv) A) ([.ref h0, .int x1] : List Value).toArray s 0 0 A) (F0 m 53 ls []) := by
        intro v1 v2 v3 v4 me rg sp hf H locs ls hl hP hD hS
        unfold mo_many_j53 at hf
        refine lv_iinc (k := 4) hx hb d_M_many_53 hl rfl rfl (by decide) rfl (fun ls hl => ?_)
        have hl : lv_has ls 5 [(4, .int (v4 + Int32.ofInt (-1))), (0, .ref h0), (1, .int v1), (2, .int v2), (3, .int v3)] := hl
        refine lv_goto (tgt := 21) hx hb d_M_many_56 (by decide) ?_
        exact ih v1 v2 v3 (v4 + Int32.ofInt (-1)) me rg sp hf _ _ _ (lv_sub hl [1, 2, 3, 4, 0] rfl) hP hD hS
      intro v1 v2 v3 v4 me rg sp hf H locs ls hl hP hD hS
      replace hf := (mo_many_l21_s n_ v1 v2 v3 v4 me rg sp).symm.trans hf
      refine lv_iload hx hb d_M_many_21 (lv_at hl 4 rfl) ?_
      refine lv_if_lt (tgt := 59) hx hb d_M_many_23 (by decide) (fun hc => ?_) (fun hc => ?_)
      · replace hf := (if_pos hc).symm.trans hf
        exact J59 v1 v2 v3 me rg sp hf _ _ _ (lv_sub hl [0, 1, 2, 3] rfl) hP hD hS
      · replace hf := (if_neg hc).symm.trans hf
        refine lv_iload_n hx hb d_M_many_26 rfl (lv_at hl 1 rfl) ?_
        refine lv_iconst (v := (2 : Int32)) hx hb d_M_many_27 (by decide) ?_
        refine lv_irem hx hb d_M_many_28 (by decide) ?_
        refine lv_if_ne (tgt := 59) hx hb d_M_many_29 (by decide) (fun hc => ?_) (fun hc => ?_)
        · replace hf := (if_neg hc).symm.trans hf
          exact J59 v1 v2 v3 me rg sp hf _ _ _ (lv_sub hl [0, 1, 2, 3] rfl) hP hD hS
        · replace hf := (if_pos hc).symm.trans hf
          refine lv_iload_n hx hb d_M_many_32 rfl (lv_at hl 2 rfl) ?_
          refine lv_iload hx hb d_M_many_33 (lv_at hl 4 rfl) ?_
          refine lv_ishr hx hb d_M_many_35 ?_
          refine lv_iconst (v := (1 : Int32)) hx hb d_M_many_36 (by decide) ?_
          refine lv_iand hx hb d_M_many_37 ?_
          refine lv_iconst (v := (1 : Int32)) hx hb d_M_many_38 (by decide) ?_
          refine lv_icmp_ne (tgt := 53) hx hb d_M_many_39 (by decide) (fun hc => ?_) (fun hc => ?_)
          · replace hf := (if_neg hc).symm.trans hf
            exact J53 v1 v2 v3 v4 me rg sp hf _ _ _ hl hP hD hS
          · replace hf := (if_pos hc).symm.trans hf
            refine lv_aload_n hx hb d_M_many_42 rfl (lv_at hl 0 rfl) ?_
            refine lv_iload_n hx hb d_M_many_43 rfl (lv_at hl 3 rfl) ?_
            refine lv_iload hx hb d_M_many_44 (lv_at hl 4 rfl) ?_
            refine lv_iload_n hx hb d_M_many_46 rfl (lv_at hl 3 rfl) ?_
            obtain ⟨z12, hz12, hf⟩ := op_b hf
            refine cl_si X cw_M_134 hK hP hD hS hA hl (c_mo_listed hz12) ⟨rfl, rfl, Nat.le_of_ble_eq_true rfl, Nat.le_of_ble_eq_true rfl⟩ rfl rfl (Nat.le_of_ble_eq_true rfl) d_M_many_47 (fun H locs hP hD hS => ?_)
            obtain ⟨z13, hz13, hf⟩ := op_b hf
            refine cl_v X cw_M_112 hK hP hD hS hA hl (c_mo_push hz13) ⟨rfl, rfl, Nat.le_of_ble_eq_true rfl, Nat.le_of_ble_eq_true rfl⟩ 0 rfl rfl rfl rfl rfl (Nat.le_of_ble_eq_true rfl) d_M_many_50 (fun H locs hP hD hS => ?_)
            exact J53 v1 v2 v3 v4 z13.1 z13.2.1 z13.2.2 hf _ _ _ hl hP hD hS
  have J16 : ∀ (v1 : Int32) (v2 : Int32) (s0 : Int32) (me : Nat → Int32) (rg : Nat → Int32) (sp : Int32), mo_many_j16 v1 v2 s0 me rg sp = some z → ∀ (H : Heap) (locs : List Loc) (ls : Array Slot), lv_has ls 5 [(0, .ref h0), (1, .int v1), (2, .int v2)] → va_P D cz_all (mw_ h0 h1 h2 h3 h4 h5 h6 h7 cI me rg so sv tl su qu wa ru pe re pn lo se pa sp iv) H → va_D A (mw_ h0 h1 h2 h3 h4 h5 h6 h7 cI me rg so sv tl su qu wa ru pe re pn lo se pa sp iv) → va_S A s.heap H locs → W p l e rm_m_many s m ([.ref h0, .int x1] : List Value).toArray below meth c H locs 0 0 (MQ below (qs_v D (ty_ cI cT) (mw_ h0 h1 h2 h3 h4 h5 h6 h7 cI z.1 z.2.1 so sv tl su qu wa ru pe re pn lo se pa z.2.2 iv) A) ([.ref h0, .int x1] : List Value).toArray s 0 0 A) (F0 m 16 ls [.int s0]) := by
    intro v1 v2 s0 me rg sp hf H locs ls hl hP hD hS
    unfold mo_many_j16 at hf
    refine lv_istore_n hx hb d_M_many_16 rfl hl (by decide) rfl (fun ls hl => ?_)
    have hl : lv_has ls 5 [(3, .int s0), (0, .ref h0), (1, .int v1), (2, .int v2)] := hl
    refine lv_bipush (v := (7 : Int32)) hx hb d_M_many_17 (by decide) ?_
    refine lv_istore hx hb d_M_many_19 hl (by decide) rfl (fun ls hl => ?_)
    have hl : lv_has ls 5 [(4, .int (7 : Int32)), (3, .int s0), (0, .ref h0), (1, .int v1), (2, .int v2)] := hl
    exact L21 9 v1 v2 s0 (7 : Int32) me rg sp hf _ _ _ (lv_sub hl [2, 3, 4, 1, 0] rfl) hP hD hS
  unfold mo_many at hf
  refine lv_aload_n hx hb d_M_many_0 rfl (lv_at hl 0 rfl) ?_
  obtain ⟨z14, hz14, hf⟩ := op_b hf
  refine cl_i X cw_M_54 hK hP hD hS hA hl (c_mo_fetch hz14) ⟨rfl, rfl, Nat.le_of_ble_eq_true rfl, Nat.le_of_ble_eq_true rfl⟩ 0 rfl rfl rfl rfl rfl (Nat.le_of_ble_eq_true rfl) d_M_many_1 (fun H locs hP hD hS => ?_)
  refine lv_istore_n hx hb d_M_many_4 rfl hl (by decide) rfl (fun ls hl => ?_)
  have hl : lv_has ls 5 [(2, .int z14.1), (0, .ref h0), (1, .int x1)] := hl
  refine lv_iload_n hx hb d_M_many_5 rfl (lv_at hl 2 rfl) ?_
  refine lv_bipush (v := (54 : Int32)) hx hb d_M_many_6 (by decide) ?_
  refine lv_icmp_ge (tgt := 15) hx hb d_M_many_8 (by decide) (fun hc => ?_) (fun hc => ?_)
  · replace hf := (if_pos hc).symm.trans hf
    refine lv_iconst (v := (3 : Int32)) hx hb d_M_many_15 (by decide) ?_
    exact J16 x1 z14.1 (3 : Int32) me z14.2.1 z14.2.2 hf _ _ _ (lv_sub hl [1, 2, 0] rfl) hP hD hS
  · replace hf := (if_neg hc).symm.trans hf
    refine lv_iconst (v := (4 : Int32)) hx hb d_M_many_11 (by decide) ?_
    refine lv_goto (tgt := 16) hx hb d_M_many_12 (by decide) ?_
    exact J16 x1 z14.1 (4 : Int32) me z14.2.1 z14.2.2 hf _ _ _ (lv_sub hl [1, 2, 0] rfl) hP hD hS
set_option maxHeartbeats 4000000 in
set_option maxRecDepth 100000 in
theorem c_mo_framed {x1 : Int32} {z : Int32} (hf : mo_framed x1 = some z) : co_i l my_M_framed mb_M_framed 1 .int rm_m_framed D (ty_ cI cT) [.int x1] (mw_ h0 h1 h2 h3 h4 h5 h6 h7 cI me rg so sv tl su qu wa ru pe re pn lo se pa sp iv) (mw_ h0 h1 h2 h3 h4 h5 h6 h7 cI me rg so sv tl su qu wa ru pe re pn lo se pa sp iv) z := by
  refine co_i_of (by decide) (Nat.le_of_ble_eq_true rfl) ?_
  intro p e s m below meth c A ls X hr hlk hK hP hD hS hA hl
  have hx := X.1
  have hb := X.2.1
  have hl : lv_has ls 1 [(0, .int x1)] := hl
  unfold mo_framed at hf
  refine lv_iload_n hx hb d_M_framed_0 rfl (lv_at hl 0 rfl) ?_
  refine lv_if_ne (tgt := 9) hx hb d_M_framed_1 (by decide) (fun hc => ?_) (fun hc => ?_)
  · replace hf := (if_neg hc).symm.trans hf
    refine lv_iload_n hx hb d_M_framed_9 rfl (lv_at hl 0 rfl) ?_
    refine lv_iconst (v := (1 : Int32)) hx hb d_M_framed_10 (by decide) ?_
    refine lv_icmp_ne (tgt := 19) hx hb d_M_framed_11 (by decide) (fun hc => ?_) (fun hc => ?_)
    · replace hf := (if_neg hc).symm.trans hf
      refine lv_iload_n hx hb d_M_framed_19 rfl (lv_at hl 0 rfl) ?_
      refine lv_iconst (v := (2 : Int32)) hx hb d_M_framed_20 (by decide) ?_
      refine lv_icmp_ne (tgt := 29) hx hb d_M_framed_21 (by decide) (fun hc => ?_) (fun hc => ?_)
      · replace hf := (if_neg hc).symm.trans hf
        refine lv_iload_n hx hb d_M_framed_29 rfl (lv_at hl 0 rfl) ?_
        refine lv_iconst (v := (3 : Int32)) hx hb d_M_framed_30 (by decide) ?_
        refine lv_icmp_ne (tgt := 39) hx hb d_M_framed_31 (by decide) (fun hc => ?_) (fun hc => ?_)
        · replace hf := (if_neg hc).symm.trans hf
          refine lv_iload_n hx hb d_M_framed_39 rfl (lv_at hl 0 rfl) ?_
          refine lv_iconst (v := (4 : Int32)) hx hb d_M_framed_40 (by decide) ?_
          refine lv_icmp_ne (tgt := 48) hx hb d_M_framed_41 (by decide) (fun hc => ?_) (fun hc => ?_)
          · replace hf := (if_neg hc).symm.trans hf
            refine lv_iload_n hx hb d_M_framed_48 rfl (lv_at hl 0 rfl) ?_
            refine lv_iconst (v := (5 : Int32)) hx hb d_M_framed_49 (by decide) ?_
            refine lv_icmp_ne (tgt := 57) hx hb d_M_framed_50 (by decide) (fun hc => ?_) (fun hc => ?_)
            · replace hf := (if_neg hc).symm.trans hf
              refine lv_iload_n hx hb d_M_framed_57 rfl (lv_at hl 0 rfl) ?_
              refine lv_bipush (v := (6 : Int32)) hx hb d_M_framed_58 (by decide) ?_
              refine lv_icmp_ne (tgt := 67) hx hb d_M_framed_60 (by decide) (fun hc => ?_) (fun hc => ?_)
              · replace hf := (if_neg hc).symm.trans hf
                refine lv_iconst (v := (5 : Int32)) hx hb d_M_framed_67 (by decide) ?_
                have hq := Option.some.inj hf
                subst hq
                exact rt_i (r := (5 : Int32)) X hr hlk hK rfl hP hD hS d_M_framed_68
              · replace hf := (if_pos hc).symm.trans hf
                refine lv_iconst (v := (3 : Int32)) hx hb d_M_framed_63 (by decide) ?_
                refine lv_goto (tgt := 68) hx hb d_M_framed_64 (by decide) ?_
                have hq := Option.some.inj hf
                subst hq
                exact rt_i (r := (3 : Int32)) X hr hlk hK rfl hP hD hS d_M_framed_68
            · replace hf := (if_pos hc).symm.trans hf
              refine lv_iconst (v := (2 : Int32)) hx hb d_M_framed_53 (by decide) ?_
              refine lv_goto (tgt := 68) hx hb d_M_framed_54 (by decide) ?_
              have hq := Option.some.inj hf
              subst hq
              exact rt_i (r := (2 : Int32)) X hr hlk hK rfl hP hD hS d_M_framed_68
          · replace hf := (if_pos hc).symm.trans hf
            refine lv_iconst (v := (1 : Int32)) hx hb d_M_framed_44 (by decide) ?_
            refine lv_goto (tgt := 68) hx hb d_M_framed_45 (by decide) ?_
            have hq := Option.some.inj hf
            subst hq
            exact rt_i (r := (1 : Int32)) X hr hlk hK rfl hP hD hS d_M_framed_68
        · replace hf := (if_pos hc).symm.trans hf
          refine lv_bipush (v := (11 : Int32)) hx hb d_M_framed_34 (by decide) ?_
          refine lv_goto (tgt := 68) hx hb d_M_framed_36 (by decide) ?_
          have hq := Option.some.inj hf
          subst hq
          exact rt_i (r := (11 : Int32)) X hr hlk hK rfl hP hD hS d_M_framed_68
      · replace hf := (if_pos hc).symm.trans hf
        refine lv_bipush (v := (9 : Int32)) hx hb d_M_framed_24 (by decide) ?_
        refine lv_goto (tgt := 68) hx hb d_M_framed_26 (by decide) ?_
        have hq := Option.some.inj hf
        subst hq
        exact rt_i (r := (9 : Int32)) X hr hlk hK rfl hP hD hS d_M_framed_68
    · replace hf := (if_pos hc).symm.trans hf
      refine lv_bipush (v := (8 : Int32)) hx hb d_M_framed_14 (by decide) ?_
      refine lv_goto (tgt := 68) hx hb d_M_framed_16 (by decide) ?_
      have hq := Option.some.inj hf
      subst hq
      exact rt_i (r := (8 : Int32)) X hr hlk hK rfl hP hD hS d_M_framed_68
  · replace hf := (if_pos hc).symm.trans hf
    refine lv_bipush (v := (10 : Int32)) hx hb d_M_framed_4 (by decide) ?_
    refine lv_goto (tgt := 68) hx hb d_M_framed_6 (by decide) ?_
    have hq := Option.some.inj hf
    subst hq
    exact rt_i (r := (10 : Int32)) X hr hlk hK rfl hP hD hS d_M_framed_68
set_option maxHeartbeats 4000000 in
set_option maxRecDepth 100000 in
theorem c_mo_stack  {z : (Nat → Int32) × (Nat → Int32) × (Nat → Int32) × Int32 × Int32} (hf : mo_stack me rg sv ru sp = some z) : co_v l my_M_stack mb_M_stack 3 rm_m_stack D (ty_ cI cT) [.ref h0] (mw_ h0 h1 h2 h3 h4 h5 h6 h7 cI me rg so sv tl su qu wa ru pe re pn lo se pa sp iv) (mw_ h0 h1 h2 h3 h4 h5 h6 h7 cI z.1 z.2.1 so z.2.2.1 tl su qu wa z.2.2.2.1 pe re pn lo se pa z.2.2.2.2 iv) := by
  refine co_v_of (by decide) (Nat.le_of_ble_eq_true rfl) ?_
  intro p e s m below meth c A ls X hr hlk hK hP hD hS hA hl
  have hx := X.1
  have hb := X.2.1
  have hl : lv_has ls 3 [(0, .ref h0)] := hl
  have L16 : ∀ (n_ : Nat) (v1 : Int32) (v2 : Int32) (me : Nat → Int32) (rg : Nat → Int32) (sv : Nat → Int32) (ru : Int32) (sp : Int32), mo_stack_l16 n_ v1 v2 me rg sv ru sp = some z → ∀ (H : Heap) (locs : List Loc) (ls : Array Slot), lv_has ls 3 [(0, .ref h0), (1, .int v1), (2, .int v2)] → va_P D cz_all (mw_ h0 h1 h2 h3 h4 h5 h6 h7 cI me rg so sv tl su qu wa ru pe re pn lo se pa sp iv) H → va_D A (mw_ h0 h1 h2 h3 h4 h5 h6 h7 cI me rg so sv tl su qu wa ru pe re pn lo se pa sp iv) → va_S A s.heap H locs → W p l e rm_m_stack s m ([.ref h0] : List Value).toArray below meth c H locs 0 0 (MQ below (qs_v D (ty_ cI cT) (mw_ h0 h1 h2 h3 h4 h5 h6 h7 cI z.1 z.2.1 so z.2.2.1 tl su qu wa z.2.2.2.1 pe re pn lo se pa z.2.2.2.2 iv) A) ([.ref h0] : List Value).toArray s 0 0 A) (F0 m 16 ls []) := by
    intro n_
    induction n_ with
    | zero => intro v1 v2 me rg sv ru sp hf; cases hf
    | succ n_ ih =>
      intro v1 v2 me rg sv ru sp hf H locs ls hl hP hD hS
      replace hf := (mo_stack_l16_s n_ v1 v2 me rg sv ru sp).symm.trans hf
      refine lv_iload_n hx hb d_M_stack_16 rfl (lv_at hl 2 rfl) ?_
      refine lv_if_lt (tgt := 35) hx hb d_M_stack_17 (by decide) (fun hc => ?_) (fun hc => ?_)
      · replace hf := (if_pos hc).symm.trans hf
        refine lv_aload_n hx hb d_M_stack_35 rfl (lv_at hl 0 rfl) ?_
        refine mg_savedS X hK hP d_M_stack_36 ?_
        refine lv_aload_n hx hb d_M_stack_39 rfl (lv_at hl 0 rfl) ?_
        refine mg_running X hK hP d_M_stack_40 ?_
        refine lv_aload_n hx hb d_M_stack_43 rfl (lv_at hl 0 rfl) ?_
        refine mg_reg X hK hP d_M_stack_44 ?_
        refine lv_iconst (v := (4 : Int32)) hx hb d_M_stack_47 (by decide) ?_
        refine ma_rg (k := 4) X hK hP (in_b_vp (by decide)) (by decide) d_M_stack_48 ?_
        obtain ⟨hi8, hf⟩ := op_c hf
        refine ms_sv (k := (ru.toNatClampNeg)) X hK hP hD hS hi8 rfl d_M_stack_49 (fun H locs hP hD hS => ?_)
        refine lv_aload_n hx hb d_M_stack_50 rfl (lv_at hl 0 rfl) ?_
        refine lv_iconst (v := (-1 : Int32)) hx hb d_M_stack_51 (by decide) ?_
        refine mp_running (x := (-1 : Int32)) X hK hP hD hS d_M_stack_52 (fun H locs hP hD hS => ?_)
        refine lv_aload_n hx hb d_M_stack_55 rfl (lv_at hl 0 rfl) ?_
        refine lv_iload_n hx hb d_M_stack_56 rfl (lv_at hl 1 rfl) ?_
        refine mp_spent (x := v1) X hK hP hD hS d_M_stack_57 (fun H locs hP hD hS => ?_)
        have hq := Option.some.inj hf
        subst hq
        exact rt_v X hr hlk hK hP hD hS d_M_stack_60
      · replace hf := (if_neg hc).symm.trans hf
        refine lv_aload_n hx hb d_M_stack_20 rfl (lv_at hl 0 rfl) ?_
        refine lv_iconst (v := (4 : Int32)) hx hb d_M_stack_21 (by decide) ?_
        refine lv_iload_n hx hb d_M_stack_22 rfl (lv_at hl 2 rfl) ?_
        obtain ⟨z9, hz9, hf⟩ := op_b hf
        refine cl_si X cw_M_167 hK hP hD hS hA hl (c_mo_framed hz9) ⟨rfl, rfl, Nat.le_of_ble_eq_true rfl, Nat.le_of_ble_eq_true rfl⟩ rfl rfl (Nat.le_of_ble_eq_true rfl) d_M_stack_23 (fun H locs hP hD hS => ?_)
        obtain ⟨z10, hz10, hf⟩ := op_b hf
        refine cl_v X cw_M_112 hK hP hD hS hA hl (c_mo_push hz10) ⟨rfl, rfl, Nat.le_of_ble_eq_true rfl, Nat.le_of_ble_eq_true rfl⟩ 0 rfl rfl rfl rfl rfl (Nat.le_of_ble_eq_true rfl) d_M_stack_26 (fun H locs hP hD hS => ?_)
        refine lv_iinc (k := 2) hx hb d_M_stack_29 hl rfl rfl (by decide) rfl (fun ls hl => ?_)
        have hl : lv_has ls 3 [(2, .int (v2 + Int32.ofInt (-1))), (0, .ref h0), (1, .int v1)] := hl
        refine lv_goto (tgt := 16) hx hb d_M_stack_32 (by decide) ?_
        exact ih v1 (v2 + Int32.ofInt (-1)) z10.1 z10.2.1 sv ru z10.2.2 hf _ _ _ (lv_sub hl [1, 2, 0] rfl) hP hD hS
  unfold mo_stack at hf
  refine lv_aload_n hx hb d_M_stack_0 rfl (lv_at hl 0 rfl) ?_
  refine mg_spent X hK hP d_M_stack_1 ?_
  refine lv_istore_n hx hb d_M_stack_4 rfl hl (by decide) rfl (fun ls hl => ?_)
  have hl : lv_has ls 3 [(1, .int sp), (0, .ref h0)] := hl
  refine lv_aload_n hx hb d_M_stack_5 rfl (lv_at hl 1 rfl) ?_
  refine lv_sipush (v := (128 : Int32)) hx hb d_M_stack_6 (by decide) ?_
  refine lv_iconst (v := (1 : Int32)) hx hb d_M_stack_9 (by decide) ?_
  obtain ⟨z11, hz11, hf⟩ := op_b hf
  refine cl_v X cw_M_62 hK hP hD hS hA hl (c_mo_mark hz11) ⟨rfl, rfl, Nat.le_of_ble_eq_true rfl, Nat.le_of_ble_eq_true rfl⟩ 0 rfl rfl rfl rfl rfl (Nat.le_of_ble_eq_true rfl) d_M_stack_10 (fun H locs hP hD hS => ?_)
  refine lv_bipush (v := (7 : Int32)) hx hb d_M_stack_13 (by decide) ?_
  refine lv_istore_n hx hb d_M_stack_15 rfl hl (by decide) rfl (fun ls hl => ?_)
  have hl : lv_has ls 3 [(2, .int (7 : Int32)), (1, .int sp), (0, .ref h0)] := hl
  exact L16 9 sp (7 : Int32) me z11 sv ru sp hf _ _ _ (lv_sub hl [2, 1, 0] rfl) hP hD hS
set_option maxHeartbeats 4000000 in
set_option maxRecDepth 100000 in
theorem c_mo_leave {x1 : Int32} {z : (Nat → Int32) × Int32} (hf : mo_leave x1 qu wa = some z) : co_v l my_M_leave mb_M_leave 4 rm_m_leave D (ty_ cI cT) [.ref h0, .int x1] (mw_ h0 h1 h2 h3 h4 h5 h6 h7 cI me rg so sv tl su qu wa ru pe re pn lo se pa sp iv) (mw_ h0 h1 h2 h3 h4 h5 h6 h7 cI me rg so sv tl su z.1 z.2 ru pe re pn lo se pa sp iv) := by
  refine co_v_of (by decide) (Nat.le_of_ble_eq_true rfl) ?_
  intro p e s m below meth c A ls X hr hlk hK hP hD hS hA hl
  have hx := X.1
  have hb := X.2.1
  have hl : lv_has ls 4 [(0, .ref h0), (1, .int x1)] := hl
  have L4 : ∀ (n_ : Nat) (v1 : Int32) (v2 : Int32) (v3 : Int32) (qu : Nat → Int32) (wa : Int32), mo_leave_l4 n_ v1 v2 v3 qu wa = some z → ∀ (H : Heap) (locs : List Loc) (ls : Array Slot), lv_has ls 4 [(0, .ref h0), (1, .int v1), (2, .int v2), (3, .int v3)] → va_P D cz_all (mw_ h0 h1 h2 h3 h4 h5 h6 h7 cI me rg so sv tl su qu wa ru pe re pn lo se pa sp iv) H → va_D A (mw_ h0 h1 h2 h3 h4 h5 h6 h7 cI me rg so sv tl su qu wa ru pe re pn lo se pa sp iv) → va_S A s.heap H locs → W p l e rm_m_leave s m ([.ref h0, .int x1] : List Value).toArray below meth c H locs 0 0 (MQ below (qs_v D (ty_ cI cT) (mw_ h0 h1 h2 h3 h4 h5 h6 h7 cI me rg so sv tl su z.1 z.2 ru pe re pn lo se pa sp iv) A) ([.ref h0, .int x1] : List Value).toArray s 0 0 A) (F0 m 4 ls []) := by
    intro n_
    induction n_ with
    | zero => intro v1 v2 v3 qu wa hf; cases hf
    | succ n_ ih =>
      have J37 : ∀ (v1 : Int32) (v2 : Int32) (v3 : Int32) (qu : Nat → Int32) (wa : Int32), mo_leave_j37 (mo_leave_l4 n_) v1 v2 v3 qu wa = some z → ∀ (H : Heap) (locs : List Loc) (ls : Array Slot), lv_has ls 4 [(0, .ref h0), (1, .int v1), (2, .int v2), (3, .int v3)] → va_P D cz_all (mw_ h0 h1 h2 h3 h4 h5 h6 h7 cI me rg so sv tl su qu wa ru pe re pn lo se pa sp iv) H → va_D A (mw_ h0 h1 h2 h3 h4 h5 h6 h7 cI me rg so sv tl su qu wa ru pe re pn lo se pa sp iv) → va_S A s.heap H locs → W p l e rm_m_leave s m ([.ref h0, .int x1] : List Value).toArray below meth c H locs 0 0 (MQ below (qs_v D (ty_ cI cT) (mw_ h0 h1 h2 h3 h4 h5 h6 h7 cI me rg so sv tl su z.1 z.2 ru pe re pn lo se pa sp iv) A) ([.ref h0, .int x1] : List Value).toArray s 0 0 A) (F0 m 37 ls []) := by
        intro v1 v2 v3 qu wa hf H locs ls hl hP hD hS
        unfold mo_leave_j37 at hf
        refine lv_iinc (k := 3) hx hb d_M_leave_37 hl rfl rfl (by decide) rfl (fun ls hl => ?_)
        have hl : lv_has ls 4 [(3, .int (v3 + Int32.ofInt 1)), (0, .ref h0), (1, .int v1), (2, .int v2)] := hl
        refine lv_goto (tgt := 4) hx hb d_M_leave_40 (by decide) ?_
        exact ih v1 v2 (v3 + Int32.ofInt 1) qu wa hf _ _ _ (lv_sub hl [1, 2, 3, 0] rfl) hP hD hS
      intro v1 v2 v3 qu wa hf H locs ls hl hP hD hS
      replace hf := (mo_leave_l4_s n_ v1 v2 v3 qu wa).symm.trans hf
      refine lv_iload_n hx hb d_M_leave_4 rfl (lv_at hl 3 rfl) ?_
      refine lv_aload_n hx hb d_M_leave_5 rfl (lv_at hl 0 rfl) ?_
      refine mg_waits X hK hP d_M_leave_6 ?_
      refine lv_icmp_ge (tgt := 43) hx hb d_M_leave_9 (by decide) (fun hc => ?_) (fun hc => ?_)
      · replace hf := (if_pos hc).symm.trans hf
        refine lv_aload_n hx hb d_M_leave_43 rfl (lv_at hl 0 rfl) ?_
        refine lv_iload_n hx hb d_M_leave_44 rfl (lv_at hl 2 rfl) ?_
        refine mp_waits (x := v2) X hK hP hD hS d_M_leave_45 (fun H locs hP hD hS => ?_)
        have hq := Option.some.inj hf
        subst hq
        exact rt_v X hr hlk hK hP hD hS d_M_leave_48
      · replace hf := (if_neg hc).symm.trans hf
        refine lv_aload_n hx hb d_M_leave_12 rfl (lv_at hl 0 rfl) ?_
        refine mg_queue X hK hP d_M_leave_13 ?_
        refine lv_iload_n hx hb d_M_leave_16 rfl (lv_at hl 3 rfl) ?_
        obtain ⟨hi2, hf⟩ := op_c hf
        refine ma_qu (k := (v3.toNatClampNeg)) X hK hP hi2 rfl d_M_leave_17 ?_
        refine lv_iload_n hx hb d_M_leave_18 rfl (lv_at hl 1 rfl) ?_
        refine lv_icmp_eq (tgt := 37) hx hb d_M_leave_19 (by decide) (fun hc => ?_) (fun hc => ?_)
        · replace hf := (if_pos hc).symm.trans hf
          exact J37 v1 v2 v3 qu wa hf _ _ _ hl hP hD hS
        · replace hf := (if_neg hc).symm.trans hf
          refine lv_aload_n hx hb d_M_leave_22 rfl (lv_at hl 0 rfl) ?_
          refine mg_queue X hK hP d_M_leave_23 ?_
          refine lv_iload_n hx hb d_M_leave_26 rfl (lv_at hl 2 rfl) ?_
          refine lv_aload_n hx hb d_M_leave_27 rfl (lv_at hl 0 rfl) ?_
          refine mg_queue X hK hP d_M_leave_28 ?_
          refine lv_iload_n hx hb d_M_leave_31 rfl (lv_at hl 3 rfl) ?_
          refine ma_qu (k := (v3.toNatClampNeg)) X hK hP hi2 rfl d_M_leave_32 ?_
          obtain ⟨hi3, hf⟩ := op_c hf
          refine ms_qu (k := (v2.toNatClampNeg)) X hK hP hD hS hi3 rfl d_M_leave_33 (fun H locs hP hD hS => ?_)
          refine lv_iinc (k := 2) hx hb d_M_leave_34 hl rfl rfl (by decide) rfl (fun ls hl => ?_)
          have hl : lv_has ls 4 [(2, .int (v2 + Int32.ofInt 1)), (0, .ref h0), (1, .int v1), (3, .int v3)] := hl
          exact J37 v1 (v2 + Int32.ofInt 1) v3 (upd qu (v2.toNatClampNeg) (qu (v3.toNatClampNeg))) wa hf _ _ _ (lv_sub hl [1, 2, 0, 3] rfl) hP hD hS
  unfold mo_leave at hf
  refine lv_iconst (v := (0 : Int32)) hx hb d_M_leave_0 (by decide) ?_
  refine lv_istore_n hx hb d_M_leave_1 rfl hl (by decide) rfl (fun ls hl => ?_)
  have hl : lv_has ls 4 [(2, .int (0 : Int32)), (0, .ref h0), (1, .int x1)] := hl
  refine lv_iconst (v := (0 : Int32)) hx hb d_M_leave_2 (by decide) ?_
  refine lv_istore_n hx hb d_M_leave_3 rfl hl (by decide) rfl (fun ls hl => ?_)
  have hl : lv_has ls 4 [(3, .int (0 : Int32)), (2, .int (0 : Int32)), (0, .ref h0), (1, .int x1)] := hl
  exact L4 5 x1 (0 : Int32) (0 : Int32) qu wa hf _ _ _ (lv_sub hl [2, 3, 1, 0] rfl) hP hD hS
set_option maxHeartbeats 4000000 in
set_option maxRecDepth 100000 in
theorem c_mo_take {x1 : Int32} {z : (Nat → Int32) × (Nat → Int32) × Int32 × Int32} (hf : mo_take x1 me rg so sv ru sp = some z) : co_v l my_M_take mb_M_take 4 rm_m_take D (ty_ cI cT) [.ref h0, .int x1] (mw_ h0 h1 h2 h3 h4 h5 h6 h7 cI me rg so sv tl su qu wa ru pe re pn lo se pa sp iv) (mw_ h0 h1 h2 h3 h4 h5 h6 h7 cI me z.1 z.2.1 sv tl su qu wa z.2.2.1 pe re pn lo se pa z.2.2.2 iv) := by
  refine co_v_of (by decide) (Nat.le_of_ble_eq_true rfl) ?_
  intro p e s m below meth c A ls X hr hlk hK hP hD hS hA hl
  have hx := X.1
  have hb := X.2.1
  have hl : lv_has ls 4 [(0, .ref h0), (1, .int x1)] := hl
  have L19 : ∀ (n_ : Nat) (v1 : Int32) (v2 : Int32) (v3 : Int32) (me : Nat → Int32) (rg : Nat → Int32) (so : Nat → Int32) (sv : Nat → Int32) (ru : Int32) (sp : Int32), mo_take_l19 n_ v1 v2 v3 me rg so sv ru sp = some z → ∀ (H : Heap) (locs : List Loc) (ls : Array Slot), lv_has ls 4 [(0, .ref h0), (1, .int v1), (2, .int v2), (3, .int v3)] → va_P D cz_all (mw_ h0 h1 h2 h3 h4 h5 h6 h7 cI me rg so sv tl su qu wa ru pe re pn lo se pa sp iv) H → va_D A (mw_ h0 h1 h2 h3 h4 h5 h6 h7 cI me rg so sv tl su qu wa ru pe re pn lo se pa sp iv) → va_S A s.heap H locs → W p l e rm_m_take s m ([.ref h0, .int x1] : List Value).toArray below meth c H locs 0 0 (MQ below (qs_v D (ty_ cI cT) (mw_ h0 h1 h2 h3 h4 h5 h6 h7 cI me z.1 z.2.1 sv tl su qu wa z.2.2.1 pe re pn lo se pa z.2.2.2 iv) A) ([.ref h0, .int x1] : List Value).toArray s 0 0 A) (F0 m 19 ls []) := by
    intro n_
    induction n_ with
    | zero => intro v1 v2 v3 me rg so sv ru sp hf; cases hf
    | succ n_ ih =>
      intro v1 v2 v3 me rg so sv ru sp hf H locs ls hl hP hD hS
      replace hf := (mo_take_l19_s n_ v1 v2 v3 me rg so sv ru sp).symm.trans hf
      refine lv_iload_n hx hb d_M_take_19 rfl (lv_at hl 3 rfl) ?_
      refine lv_bipush (v := (8 : Int32)) hx hb d_M_take_20 (by decide) ?_
      refine lv_icmp_ge (tgt := 40) hx hb d_M_take_22 (by decide) (fun hc => ?_) (fun hc => ?_)
      · replace hf := (if_pos hc).symm.trans hf
        refine lv_aload_n hx hb d_M_take_40 rfl (lv_at hl 0 rfl) ?_
        refine lv_iload_n hx hb d_M_take_41 rfl (lv_at hl 1 rfl) ?_
        refine mp_running (x := v1) X hK hP hD hS d_M_take_42 (fun H locs hP hD hS => ?_)
        refine lv_aload_n hx hb d_M_take_45 rfl (lv_at hl 0 rfl) ?_
        refine mg_stateOf X hK hP d_M_take_46 ?_
        refine lv_iload_n hx hb d_M_take_49 rfl (lv_at hl 1 rfl) ?_
        refine lv_iconst (v := (1 : Int32)) hx hb d_M_take_50 (by decide) ?_
        obtain ⟨hi8, hf⟩ := op_c hf
        refine ms_so (k := (v1.toNatClampNeg)) X hK hP hD hS hi8 rfl d_M_take_51 (fun H locs hP hD hS => ?_)
        refine lv_aload_n hx hb d_M_take_52 rfl (lv_at hl 0 rfl) ?_
        refine lv_iload_n hx hb d_M_take_53 rfl (lv_at hl 2 rfl) ?_
        refine mp_spent (x := v2) X hK hP hD hS d_M_take_54 (fun H locs hP hD hS => ?_)
        have hq := Option.some.inj hf
        subst hq
        exact rt_v X hr hlk hK hP hD hS d_M_take_57
      · replace hf := (if_neg hc).symm.trans hf
        refine lv_aload_n hx hb d_M_take_25 rfl (lv_at hl 0 rfl) ?_
        refine lv_iconst (v := (4 : Int32)) hx hb d_M_take_26 (by decide) ?_
        refine lv_iload_n hx hb d_M_take_27 rfl (lv_at hl 3 rfl) ?_
        obtain ⟨z9, hz9, hf⟩ := op_b hf
        refine cl_si X cw_M_167 hK hP hD hS hA hl (c_mo_framed hz9) ⟨rfl, rfl, Nat.le_of_ble_eq_true rfl, Nat.le_of_ble_eq_true rfl⟩ rfl rfl (Nat.le_of_ble_eq_true rfl) d_M_take_28 (fun H locs hP hD hS => ?_)
        obtain ⟨z10, hz10, hf⟩ := op_b hf
        refine cl_v X cw_M_137 hK hP hD hS hA hl (c_mo_pull hz10) ⟨rfl, rfl, Nat.le_of_ble_eq_true rfl, Nat.le_of_ble_eq_true rfl⟩ 0 rfl rfl rfl rfl rfl (Nat.le_of_ble_eq_true rfl) d_M_take_31 (fun H locs hP hD hS => ?_)
        refine lv_iinc (k := 3) hx hb d_M_take_34 hl rfl rfl (by decide) rfl (fun ls hl => ?_)
        have hl : lv_has ls 4 [(3, .int (v3 + Int32.ofInt 1)), (0, .ref h0), (1, .int v1), (2, .int v2)] := hl
        refine lv_goto (tgt := 19) hx hb d_M_take_37 (by decide) ?_
        exact ih v1 v2 (v3 + Int32.ofInt 1) me z10.1 so sv ru z10.2 hf _ _ _ (lv_sub hl [1, 2, 3, 0] rfl) hP hD hS
  unfold mo_take at hf
  refine lv_aload_n hx hb d_M_take_0 rfl (lv_at hl 0 rfl) ?_
  refine mg_spent X hK hP d_M_take_1 ?_
  refine lv_istore_n hx hb d_M_take_4 rfl hl (by decide) rfl (fun ls hl => ?_)
  have hl : lv_has ls 4 [(2, .int sp), (0, .ref h0), (1, .int x1)] := hl
  refine lv_aload_n hx hb d_M_take_5 rfl (lv_at hl 1 rfl) ?_
  refine mg_reg X hK hP d_M_take_6 ?_
  refine lv_iconst (v := (4 : Int32)) hx hb d_M_take_9 (by decide) ?_
  refine lv_aload_n hx hb d_M_take_10 rfl (lv_at hl 1 rfl) ?_
  refine mg_savedS X hK hP d_M_take_11 ?_
  refine lv_iload_n hx hb d_M_take_14 rfl (lv_at hl 2 rfl) ?_
  obtain ⟨hi11, hf⟩ := op_c hf
  refine ma_sv (k := (x1.toNatClampNeg)) X hK hP hi11 rfl d_M_take_15 ?_
  refine ms_rg (k := 4) X hK hP hD hS (in_b_vp (by decide)) (by decide) d_M_take_16 (fun H locs hP hD hS => ?_)
  refine lv_iconst (v := (0 : Int32)) hx hb d_M_take_17 (by decide) ?_
  refine lv_istore_n hx hb d_M_take_18 rfl hl (by decide) rfl (fun ls hl => ?_)
  have hl : lv_has ls 4 [(3, .int (0 : Int32)), (2, .int sp), (0, .ref h0), (1, .int x1)] := hl
  exact L19 9 x1 sp (0 : Int32) me (upd rg 4 (sv (x1.toNatClampNeg))) so sv ru sp hf _ _ _ (lv_sub hl [2, 3, 1, 0] rfl) hP hD hS
set_option maxHeartbeats 4000000 in
set_option maxRecDepth 100000 in
theorem c_mo_next  {z : (Nat → Int32) × (Nat → Int32) × (Nat → Int32) × Int32 × Int32 × Int32} (hf : mo_next me rg so sv qu wa ru sp = some z) : co_v l my_M_next mb_M_next 2 rm_m_next D (ty_ cI cT) [.ref h0] (mw_ h0 h1 h2 h3 h4 h5 h6 h7 cI me rg so sv tl su qu wa ru pe re pn lo se pa sp iv) (mw_ h0 h1 h2 h3 h4 h5 h6 h7 cI me z.1 z.2.1 sv tl su z.2.2.1 z.2.2.2.1 z.2.2.2.2.1 pe re pn lo se pa z.2.2.2.2.2 iv) := by
  refine co_v_of (by decide) (Nat.le_of_ble_eq_true rfl) ?_
  intro p e s m below meth c A ls X hr hlk hK hP hD hS hA hl
  have hx := X.1
  have hb := X.2.1
  have hl : lv_has ls 2 [(0, .ref h0)] := hl
  unfold mo_next at hf
  refine lv_aload_n hx hb d_M_next_0 rfl (lv_at hl 0 rfl) ?_
  refine mg_running X hK hP d_M_next_1 ?_
  refine lv_if_ge (tgt := 14) hx hb d_M_next_4 (by decide) (fun hc => ?_) (fun hc => ?_)
  · replace hf := (if_pos hc).symm.trans hf
    have hq := Option.some.inj hf
    subst hq
    exact rt_v X hr hlk hK hP hD hS d_M_next_14
  · replace hf := (if_neg hc).symm.trans hf
    refine lv_aload_n hx hb d_M_next_7 rfl (lv_at hl 0 rfl) ?_
    refine mg_waits X hK hP d_M_next_8 ?_
    refine lv_if_ne (tgt := 15) hx hb d_M_next_11 (by decide) (fun hc => ?_) (fun hc => ?_)
    · replace hf := (if_neg hc).symm.trans hf
      refine lv_aload_n hx hb d_M_next_15 rfl (lv_at hl 0 rfl) ?_
      refine mg_queue X hK hP d_M_next_16 ?_
      refine lv_iconst (v := (0 : Int32)) hx hb d_M_next_19 (by decide) ?_
      refine ma_qu (k := 0) X hK hP (in_b_vp (by decide)) (by decide) d_M_next_20 ?_
      refine lv_istore_n hx hb d_M_next_21 rfl hl (by decide) rfl (fun ls hl => ?_)
      have hl : lv_has ls 2 [(1, .int (qu 0)), (0, .ref h0)] := hl
      refine lv_aload_n hx hb d_M_next_22 rfl (lv_at hl 1 rfl) ?_
      refine lv_iload_n hx hb d_M_next_23 rfl (lv_at hl 0 rfl) ?_
      obtain ⟨z3, hz3, hf⟩ := op_b hf
      refine cl_v X cw_M_173 hK hP hD hS hA hl (c_mo_leave hz3) ⟨rfl, rfl, Nat.le_of_ble_eq_true rfl, Nat.le_of_ble_eq_true rfl⟩ 0 rfl rfl rfl rfl rfl (Nat.le_of_ble_eq_true rfl) d_M_next_24 (fun H locs hP hD hS => ?_)
      refine lv_aload_n hx hb d_M_next_27 rfl (lv_at hl 1 rfl) ?_
      refine lv_iload_n hx hb d_M_next_28 rfl (lv_at hl 0 rfl) ?_
      obtain ⟨z4, hz4, hf⟩ := op_b hf
      refine cl_v X cw_M_176 hK hP hD hS hA hl (c_mo_take hz4) ⟨rfl, rfl, Nat.le_of_ble_eq_true rfl, Nat.le_of_ble_eq_true rfl⟩ 0 rfl rfl rfl rfl rfl (Nat.le_of_ble_eq_true rfl) d_M_next_29 (fun H locs hP hD hS => ?_)
      have hq := Option.some.inj hf
      subst hq
      exact rt_v X hr hlk hK hP hD hS d_M_next_32
    · replace hf := (if_pos hc).symm.trans hf
      have hq := Option.some.inj hf
      subst hq
      exact rt_v X hr hlk hK hP hD hS d_M_next_14
set_option maxHeartbeats 4000000 in
set_option maxRecDepth 100000 in
theorem c_mo_end {x1 : Int32} {x2 : Int32} {z : (Nat → Int32) × (Nat → Int32) × (Nat → Int32) × (Nat → Int32) × (Nat → Int32) × Int32 × Int32 × Int32} (hf : mo_end x1 x2 me rg so sv tl su qu wa ru sp = some z) : co_v l my_M_end mb_M_end 3 rm_m_end D (ty_ cI cT) [.ref h0, .int x1, .int x2] (mw_ h0 h1 h2 h3 h4 h5 h6 h7 cI me rg so sv tl su qu wa ru pe re pn lo se pa sp iv) (mw_ h0 h1 h2 h3 h4 h5 h6 h7 cI me z.1 z.2.1 sv z.2.2.1 z.2.2.2.1 z.2.2.2.2.1 z.2.2.2.2.2.1 z.2.2.2.2.2.2.1 pe re pn lo se pa z.2.2.2.2.2.2.2 iv) := by
  refine co_v_of (by decide) (Nat.le_of_ble_eq_true rfl) ?_
  intro p e s m below meth c A ls X hr hlk hK hP hD hS hA hl
  have hx := X.1
  have hb := X.2.1
  have hl : lv_has ls 3 [(0, .ref h0), (1, .int x1), (2, .int x2)] := hl
  have J43 : ∀ (s0 : Int32) (me : Nat → Int32) (rg : Nat → Int32) (so : Nat → Int32) (sv : Nat → Int32) (tl : Nat → Int32) (su : Nat → Int32) (qu : Nat → Int32) (wa : Int32) (ru : Int32) (sp : Int32), mo_end_j43 s0 me rg so sv tl su qu wa ru sp = some z → ∀ (H : Heap) (locs : List Loc) (ls : Array Slot), lv_has ls 3 [(0, .ref h0)] → va_P D cz_all (mw_ h0 h1 h2 h3 h4 h5 h6 h7 cI me rg so sv tl su qu wa ru pe re pn lo se pa sp iv) H → va_D A (mw_ h0 h1 h2 h3 h4 h5 h6 h7 cI me rg so sv tl su qu wa ru pe re pn lo se pa sp iv) → va_S A s.heap H locs → W p l e rm_m_end s m ([.ref h0, .int x1, .int x2] : List Value).toArray below meth c H locs 0 0 (MQ below (qs_v D (ty_ cI cT) (mw_ h0 h1 h2 h3 h4 h5 h6 h7 cI me z.1 z.2.1 sv z.2.2.1 z.2.2.2.1 z.2.2.2.2.1 z.2.2.2.2.2.1 z.2.2.2.2.2.2.1 pe re pn lo se pa z.2.2.2.2.2.2.2 iv) A) ([.ref h0, .int x1, .int x2] : List Value).toArray s 0 0 A) (F0 m 43 ls [.int s0, .ref h0]) := by
    intro s0 me rg so sv tl su qu wa ru sp hf H locs ls hl hP hD hS
    unfold mo_end_j43 at hf
    refine mp_running (x := s0) X hK hP hD hS d_M_end_43 (fun H locs hP hD hS => ?_)
    refine lv_aload_n hx hb d_M_end_46 rfl (lv_at hl 0 rfl) ?_
    obtain ⟨z4, hz4, hf⟩ := op_b hf
    refine cl_v X cw_M_179 hK hP hD hS hA hl (c_mo_next hz4) ⟨rfl, rfl, Nat.le_of_ble_eq_true rfl, Nat.le_of_ble_eq_true rfl⟩ 0 rfl rfl rfl rfl rfl (Nat.le_of_ble_eq_true rfl) d_M_end_47 (fun H locs hP hD hS => ?_)
    have hq := Option.some.inj hf
    subst hq
    exact rt_v X hr hlk hK hP hD hS d_M_end_50
  unfold mo_end at hf
  refine lv_aload_n hx hb d_M_end_0 rfl (lv_at hl 0 rfl) ?_
  refine lv_iload_n hx hb d_M_end_1 rfl (lv_at hl 1 rfl) ?_
  obtain ⟨z5, hz5, hf⟩ := op_b hf
  refine cl_v X cw_M_173 hK hP hD hS hA hl (c_mo_leave hz5) ⟨rfl, rfl, Nat.le_of_ble_eq_true rfl, Nat.le_of_ble_eq_true rfl⟩ 0 rfl rfl rfl rfl rfl (Nat.le_of_ble_eq_true rfl) d_M_end_2 (fun H locs hP hD hS => ?_)
  refine lv_aload_n hx hb d_M_end_5 rfl (lv_at hl 0 rfl) ?_
  refine mg_stateOf X hK hP d_M_end_6 ?_
  refine lv_iload_n hx hb d_M_end_9 rfl (lv_at hl 1 rfl) ?_
  refine lv_iconst (v := (0 : Int32)) hx hb d_M_end_10 (by decide) ?_
  obtain ⟨hi6, hf⟩ := op_c hf
  refine ms_so (k := (x1.toNatClampNeg)) X hK hP hD hS hi6 rfl d_M_end_11 (fun H locs hP hD hS => ?_)
  refine lv_aload_n hx hb d_M_end_12 rfl (lv_at hl 0 rfl) ?_
  refine mg_toSleep X hK hP d_M_end_13 ?_
  refine lv_iload_n hx hb d_M_end_16 rfl (lv_at hl 1 rfl) ?_
  refine lv_iconst (v := (0 : Int32)) hx hb d_M_end_17 (by decide) ?_
  refine ms_tl (k := (x1.toNatClampNeg)) X hK hP hD hS hi6 rfl d_M_end_18 (fun H locs hP hD hS => ?_)
  refine lv_aload_n hx hb d_M_end_19 rfl (lv_at hl 0 rfl) ?_
  refine mg_statusOf X hK hP d_M_end_20 ?_
  refine lv_iload_n hx hb d_M_end_23 rfl (lv_at hl 1 rfl) ?_
  refine lv_iload_n hx hb d_M_end_24 rfl (lv_at hl 2 rfl) ?_
  refine ms_su (k := (x1.toNatClampNeg)) X hK hP hD hS hi6 rfl d_M_end_25 (fun H locs hP hD hS => ?_)
  refine lv_aload_n hx hb d_M_end_26 rfl (lv_at hl 0 rfl) ?_
  refine lv_aload_n hx hb d_M_end_27 rfl (lv_at hl 0 rfl) ?_
  refine mg_running X hK hP d_M_end_28 ?_
  refine lv_iload_n hx hb d_M_end_31 rfl (lv_at hl 1 rfl) ?_
  refine lv_icmp_ne (tgt := 39) hx hb d_M_end_32 (by decide) (fun hc => ?_) (fun hc => ?_)
  · replace hf := (if_neg hc).symm.trans hf
    refine lv_aload_n hx hb d_M_end_39 rfl (lv_at hl 0 rfl) ?_
    refine mg_running X hK hP d_M_end_40 ?_
    exact J43 ru me rg (upd so (x1.toNatClampNeg) (0 : Int32)) sv (upd tl (x1.toNatClampNeg) (0 : Int32)) (upd su (x1.toNatClampNeg) x2) z5.1 z5.2 ru sp hf _ _ _ (lv_sub hl [0] rfl) hP hD hS
  · replace hf := (if_pos hc).symm.trans hf
    refine lv_iconst (v := (-1 : Int32)) hx hb d_M_end_35 (by decide) ?_
    refine lv_goto (tgt := 43) hx hb d_M_end_36 (by decide) ?_
    exact J43 (-1 : Int32) me rg (upd so (x1.toNatClampNeg) (0 : Int32)) sv (upd tl (x1.toNatClampNeg) (0 : Int32)) (upd su (x1.toNatClampNeg) x2) z5.1 z5.2 ru sp hf _ _ _ (lv_sub hl [0] rfl) hP hD hS
set_option maxHeartbeats 4000000 in
set_option maxRecDepth 100000 in
theorem c_mo_comeLast {x1 : Int32} {z : (Nat → Int32) × (Nat → Int32) × Int32} (hf : mo_comeLast x1 so qu wa = some z) : co_v l my_M_comeLast mb_M_comeLast 2 rm_m_comeLast D (ty_ cI cT) [.ref h0, .int x1] (mw_ h0 h1 h2 h3 h4 h5 h6 h7 cI me rg so sv tl su qu wa ru pe re pn lo se pa sp iv) (mw_ h0 h1 h2 h3 h4 h5 h6 h7 cI me rg z.1 sv tl su z.2.1 z.2.2 ru pe re pn lo se pa sp iv) := by
  refine co_v_of (by decide) (Nat.le_of_ble_eq_true rfl) ?_
  intro p e s m below meth c A ls X hr hlk hK hP hD hS hA hl
  have hx := X.1
  have hb := X.2.1
  have hl : lv_has ls 2 [(0, .ref h0), (1, .int x1)] := hl
  unfold mo_comeLast at hf
  refine lv_aload_n hx hb d_M_comeLast_0 rfl (lv_at hl 0 rfl) ?_
  refine mg_stateOf X hK hP d_M_comeLast_1 ?_
  refine lv_iload_n hx hb d_M_comeLast_4 rfl (lv_at hl 1 rfl) ?_
  refine lv_iconst (v := (2 : Int32)) hx hb d_M_comeLast_5 (by decide) ?_
  obtain ⟨hi3, hf⟩ := op_c hf
  refine ms_so (k := (x1.toNatClampNeg)) X hK hP hD hS hi3 rfl d_M_comeLast_6 (fun H locs hP hD hS => ?_)
  refine lv_aload_n hx hb d_M_comeLast_7 rfl (lv_at hl 0 rfl) ?_
  refine mg_queue X hK hP d_M_comeLast_8 ?_
  refine lv_aload_n hx hb d_M_comeLast_11 rfl (lv_at hl 0 rfl) ?_
  refine mg_waits X hK hP d_M_comeLast_12 ?_
  refine lv_iload_n hx hb d_M_comeLast_15 rfl (lv_at hl 1 rfl) ?_
  obtain ⟨hi4, hf⟩ := op_c hf
  refine ms_qu (k := (wa.toNatClampNeg)) X hK hP hD hS hi4 rfl d_M_comeLast_16 (fun H locs hP hD hS => ?_)
  refine lv_aload_n hx hb d_M_comeLast_17 rfl (lv_at hl 0 rfl) ?_
  refine lv_dup hx hb d_M_comeLast_18 rfl ?_
  refine mg_waits X hK hP d_M_comeLast_19 ?_
  refine lv_iconst (v := (1 : Int32)) hx hb d_M_comeLast_22 (by decide) ?_
  refine lv_iadd hx hb d_M_comeLast_23 ?_
  refine mp_waits (x := (wa + (1 : Int32))) X hK hP hD hS d_M_comeLast_24 (fun H locs hP hD hS => ?_)
  have hq := Option.some.inj hf
  subst hq
  exact rt_v X hr hlk hK hP hD hS d_M_comeLast_27
set_option maxHeartbeats 4000000 in
set_option maxRecDepth 100000 in
theorem c_mo_answer {x1 : Int32} {x2 : Int32} {x3 : Int32} {x4 : Bool} {z : (Nat → Int32)} (hf : mo_answer x1 x2 x3 x4 me sv = some z) : co_v l my_M_answer mb_M_answer 7 rm_m_answer D (ty_ cI cT) [.ref h0, .int x1, .int x2, .int x3, .int (bz_i x4)] (mw_ h0 h1 h2 h3 h4 h5 h6 h7 cI me rg so sv tl su qu wa ru pe re pn lo se pa sp iv) (mw_ h0 h1 h2 h3 h4 h5 h6 h7 cI z rg so sv tl su qu wa ru pe re pn lo se pa sp iv) := by
  refine co_v_of (by decide) (Nat.le_of_ble_eq_true rfl) ?_
  intro p e s m below meth c A ls X hr hlk hK hP hD hS hA hl
  have hx := X.1
  have hb := X.2.1
  have hl : lv_has ls 7 [(0, .ref h0), (1, .int x1), (2, .int x2), (3, .int x3), (4, .int (bz_i x4))] := hl
  have J56 : ∀ (s0 : Int32) (s1 : Int32) (me : Nat → Int32) (sv : Nat → Int32), mo_answer_j56 s0 s1 me sv = some z → ∀ (H : Heap) (locs : List Loc) (ls : Array Slot), lv_has ls 7 [] → va_P D cz_all (mw_ h0 h1 h2 h3 h4 h5 h6 h7 cI me rg so sv tl su qu wa ru pe re pn lo se pa sp iv) H → va_D A (mw_ h0 h1 h2 h3 h4 h5 h6 h7 cI me rg so sv tl su qu wa ru pe re pn lo se pa sp iv) → va_S A s.heap H locs → W p l e rm_m_answer s m ([.ref h0, .int x1, .int x2, .int x3, .int (bz_i x4)] : List Value).toArray below meth c H locs 0 0 (MQ below (qs_v D (ty_ cI cT) (mw_ h0 h1 h2 h3 h4 h5 h6 h7 cI z rg so sv tl su qu wa ru pe re pn lo se pa sp iv) A) ([.ref h0, .int x1, .int x2, .int x3, .int (bz_i x4)] : List Value).toArray s 0 0 A) (F0 m 56 ls [.int s0, .int s1, .ref h0]) := by
    intro s0 s1 me sv hf H locs ls hl hP hD hS
    unfold mo_answer_j56 at hf
    obtain ⟨z7, hz7, hf⟩ := op_b hf
    refine cl_v X cw_M_43 hK hP hD hS hA hl (c_mo_put hz7) ⟨rfl, rfl, Nat.le_of_ble_eq_true rfl, Nat.le_of_ble_eq_true rfl⟩ 0 rfl rfl rfl rfl rfl (Nat.le_of_ble_eq_true rfl) d_M_answer_56 (fun H locs hP hD hS => ?_)
    have hq := Option.some.inj hf
    subst hq
    exact rt_v X hr hlk hK hP hD hS d_M_answer_59
  have J22 : ∀ (v3 : Int32) (v4 : Bool) (v5 : Int32) (s0 : Int32) (s1 : Int32) (me : Nat → Int32) (sv : Nat → Int32), mo_answer_j22 v3 v4 v5 s0 s1 me sv = some z → ∀ (H : Heap) (locs : List Loc) (ls : Array Slot), lv_has ls 7 [(0, .ref h0), (3, .int v3), (4, .int (bz_i v4)), (5, .int v5)] → va_P D cz_all (mw_ h0 h1 h2 h3 h4 h5 h6 h7 cI me rg so sv tl su qu wa ru pe re pn lo se pa sp iv) H → va_D A (mw_ h0 h1 h2 h3 h4 h5 h6 h7 cI me rg so sv tl su qu wa ru pe re pn lo se pa sp iv) → va_S A s.heap H locs → W p l e rm_m_answer s m ([.ref h0, .int x1, .int x2, .int x3, .int (bz_i x4)] : List Value).toArray below meth c H locs 0 0 (MQ below (qs_v D (ty_ cI cT) (mw_ h0 h1 h2 h3 h4 h5 h6 h7 cI z rg so sv tl su qu wa ru pe re pn lo se pa sp iv) A) ([.ref h0, .int x1, .int x2, .int x3, .int (bz_i x4)] : List Value).toArray s 0 0 A) (F0 m 22 ls [.int s0, .int s1, .ref h0]) := by
    intro v3 v4 v5 s0 s1 me sv hf H locs ls hl hP hD hS
    unfold mo_answer_j22 at hf
    refine lv_iadd hx hb d_M_answer_22 ?_
    refine lv_iload_n hx hb d_M_answer_23 rfl (lv_at hl 1 rfl) ?_
    obtain ⟨z8, hz8, hf⟩ := op_b hf
    refine cl_v X cw_M_43 hK hP hD hS hA hl (c_mo_put hz8) ⟨rfl, rfl, Nat.le_of_ble_eq_true rfl, Nat.le_of_ble_eq_true rfl⟩ 0 rfl rfl rfl rfl rfl (Nat.le_of_ble_eq_true rfl) d_M_answer_24 (fun H locs hP hD hS => ?_)
    refine lv_aload_n hx hb d_M_answer_27 rfl (lv_at hl 0 rfl) ?_
    refine lv_iload hx hb d_M_answer_28 (lv_at hl 3 rfl) ?_
    obtain ⟨z9, hz9, hf⟩ := op_b hf
    refine cl_i X cw_M_39 hK hP hD hS hA hl (c_mo_at hz9) ⟨rfl, rfl, Nat.le_of_ble_eq_true rfl, Nat.le_of_ble_eq_true rfl⟩ 0 rfl rfl rfl rfl rfl (Nat.le_of_ble_eq_true rfl) d_M_answer_30 (fun H locs hP hD hS => ?_)
    refine lv_istore hx hb d_M_answer_33 hl (by decide) rfl (fun ls hl => ?_)
    have hl : lv_has ls 7 [(6, .int z9), (0, .ref h0), (3, .int v3), (4, .int (bz_i v4)), (5, .int v5)] := hl
    refine lv_aload_n hx hb d_M_answer_35 rfl (lv_at hl 1 rfl) ?_
    refine lv_iload hx hb d_M_answer_36 (lv_at hl 4 rfl) ?_
    refine lv_iload hx hb d_M_answer_38 (lv_at hl 3 rfl) ?_
    refine lv_if_eq (tgt := 50) hx hb d_M_answer_40 (by decide) (fun hc => ?_) (fun hc => ?_)
    · replace hf := (if_pos hc).symm.trans hf
      refine lv_iload hx hb d_M_answer_50 (lv_at hl 0 rfl) ?_
      refine lv_sipush (v := (254 : Int32)) hx hb d_M_answer_52 (by decide) ?_
      refine lv_iand hx hb d_M_answer_55 ?_
      exact J56 (z9 &&& (254 : Int32)) v5 z8 sv hf _ _ _ (lv_sub hl [] rfl) hP hD hS
    · replace hf := (if_neg hc).symm.trans hf
      refine lv_iload hx hb d_M_answer_43 (lv_at hl 0 rfl) ?_
      refine lv_iconst (v := (1 : Int32)) hx hb d_M_answer_45 (by decide) ?_
      refine lv_ior hx hb d_M_answer_46 ?_
      refine lv_goto (tgt := 56) hx hb d_M_answer_47 (by decide) ?_
      exact J56 (z9 ||| (1 : Int32)) v5 z8 sv hf _ _ _ (lv_sub hl [] rfl) hP hD hS
  unfold mo_answer at hf
  refine lv_aload_n hx hb d_M_answer_0 rfl (lv_at hl 0 rfl) ?_
  refine mg_savedS X hK hP d_M_answer_1 ?_
  refine lv_iload_n hx hb d_M_answer_4 rfl (lv_at hl 1 rfl) ?_
  obtain ⟨hi10, hf⟩ := op_c hf
  refine ma_sv (k := (x1.toNatClampNeg)) X hK hP hi10 rfl d_M_answer_5 ?_
  refine lv_istore hx hb d_M_answer_6 hl (by decide) rfl (fun ls hl => ?_)
  have hl : lv_has ls 7 [(5, .int (sv (x1.toNatClampNeg))), (0, .ref h0), (1, .int x1), (2, .int x2), (3, .int x3), (4, .int (bz_i x4))] := hl
  refine lv_aload_n hx hb d_M_answer_8 rfl (lv_at hl 1 rfl) ?_
  refine lv_iload hx hb d_M_answer_9 (lv_at hl 0 rfl) ?_
  refine lv_iload_n hx hb d_M_answer_11 rfl (lv_at hl 3 rfl) ?_
  refine lv_bipush (v := (8 : Int32)) hx hb d_M_answer_12 (by decide) ?_
  refine lv_icmp_ne (tgt := 21) hx hb d_M_answer_14 (by decide) (fun hc => ?_) (fun hc => ?_)
  · replace hf := (if_neg hc).symm.trans hf
    refine lv_iconst (v := (2 : Int32)) hx hb d_M_answer_21 (by decide) ?_
    exact J22 x3 x4 (sv (x1.toNatClampNeg)) (2 : Int32) (sv (x1.toNatClampNeg)) me sv hf _ _ _ (lv_sub hl [1, 4, 5, 0] rfl) hP hD hS
  · replace hf := (if_pos hc).symm.trans hf
    refine lv_iconst (v := (1 : Int32)) hx hb d_M_answer_17 (by decide) ?_
    refine lv_goto (tgt := 22) hx hb d_M_answer_18 (by decide) ?_
    exact J22 x3 x4 (sv (x1.toNatClampNeg)) (1 : Int32) (sv (x1.toNatClampNeg)) me sv hf _ _ _ (lv_sub hl [1, 4, 5, 0] rfl) hP hD hS
end MODEL

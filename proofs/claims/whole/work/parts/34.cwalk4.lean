theorem d_P_operate_0 : decode mb_P_operate 0 = .ok (.iload_n 2, 1) := by decide +kernel
theorem d_P_operate_1 : decode mb_P_operate 1 = .ok (.invokestatic 94, 3) := by decide +kernel
theorem d_P_operate_4 : decode mb_P_operate 4 = .ok (.istore 4, 2) := by decide +kernel
theorem d_P_operate_6 : decode mb_P_operate 6 = .ok (.iload_n 1, 1) := by decide +kernel
theorem d_P_operate_7 : decode mb_P_operate 7 = .ok (.bipush 7, 2) := by decide +kernel
theorem d_P_operate_9 : decode mb_P_operate 9 = .ok (.if_icmp .ne 14, 3) := by decide +kernel
theorem d_P_operate_12 : decode mb_P_operate 12 = .ok (.iload_n 3, 1) := by decide +kernel
theorem d_P_operate_13 : decode mb_P_operate 13 = .ok (.ifCond .ne 10, 3) := by decide +kernel
theorem d_P_operate_16 : decode mb_P_operate 16 = .ok (.aload_n 0, 1) := by decide +kernel
theorem d_P_operate_17 : decode mb_P_operate 17 = .ok (.bipush (-2), 2) := by decide +kernel
theorem d_P_operate_19 : decode mb_P_operate 19 = .ok (.putfield 32, 3) := by decide +kernel
theorem d_P_operate_22 : decode mb_P_operate 22 = .ok (.return_, 1) := by decide +kernel
theorem d_P_operate_23 : decode mb_P_operate 23 = .ok (.aload_n 0, 1) := by decide +kernel
theorem d_P_operate_24 : decode mb_P_operate 24 = .ok (.iload_n 3, 1) := by decide +kernel
theorem d_P_operate_25 : decode mb_P_operate 25 = .ok (.iload 4, 2) := by decide +kernel
theorem d_P_operate_27 : decode mb_P_operate 27 = .ok (.invokevirtual 97, 3) := by decide +kernel
theorem d_P_operate_30 : decode mb_P_operate 30 = .ok (.istore 5, 2) := by decide +kernel
theorem d_P_operate_32 : decode mb_P_operate 32 = .ok (.aload_n 0, 1) := by decide +kernel
theorem d_P_operate_33 : decode mb_P_operate 33 = .ok (.getfield 32, 3) := by decide +kernel
theorem d_P_operate_36 : decode mb_P_operate 36 = .ok (.bipush (-2), 2) := by decide +kernel
theorem d_P_operate_38 : decode mb_P_operate 38 = .ok (.if_icmp .ne 4, 3) := by decide +kernel
theorem d_P_operate_41 : decode mb_P_operate 41 = .ok (.return_, 1) := by decide +kernel
theorem d_P_operate_42 : decode mb_P_operate 42 = .ok (.iload_n 1, 1) := by decide +kernel
theorem d_P_operate_43 : decode mb_P_operate 43 = .ok (.bipush 7, 2) := by decide +kernel
theorem d_P_operate_45 : decode mb_P_operate 45 = .ok (.if_icmp .ne 29, 3) := by decide +kernel
theorem d_P_operate_48 : decode mb_P_operate 48 = .ok (.aload_n 0, 1) := by decide +kernel
theorem d_P_operate_49 : decode mb_P_operate 49 = .ok (.iload 5, 2) := by decide +kernel
theorem d_P_operate_51 : decode mb_P_operate 51 = .ok (.aload_n 0, 1) := by decide +kernel
theorem d_P_operate_52 : decode mb_P_operate 52 = .ok (.getfield 24, 3) := by decide +kernel
theorem d_P_operate_55 : decode mb_P_operate 55 = .ok (.aload_n 0, 1) := by decide +kernel
theorem d_P_operate_56 : decode mb_P_operate 56 = .ok (.getfield 15, 3) := by decide +kernel
theorem d_P_operate_59 : decode mb_P_operate 59 = .ok (.iload_n 2, 1) := by decide +kernel
theorem d_P_operate_60 : decode mb_P_operate 60 = .ok (.invokevirtual 100, 3) := by decide +kernel
theorem d_P_operate_63 : decode mb_P_operate 63 = .ok (.iload 4, 2) := by decide +kernel
theorem d_P_operate_65 : decode mb_P_operate 65 = .ok (.invokevirtual 103, 3) := by decide +kernel
theorem d_P_operate_68 : decode mb_P_operate 68 = .ok (.iload 4, 2) := by decide +kernel
theorem d_P_operate_70 : decode mb_P_operate 70 = .ok (.invokevirtual 106, 3) := by decide +kernel
theorem d_P_operate_73 : decode mb_P_operate 73 = .ok (.return_, 1) := by decide +kernel
theorem d_P_operate_74 : decode mb_P_operate 74 = .ok (.aload_n 0, 1) := by decide +kernel
theorem d_P_operate_75 : decode mb_P_operate 75 = .ok (.iload 5, 2) := by decide +kernel
theorem d_P_operate_77 : decode mb_P_operate 77 = .ok (.iload 4, 2) := by decide +kernel
theorem d_P_operate_79 : decode mb_P_operate 79 = .ok (.invokevirtual 107, 3) := by decide +kernel
theorem d_P_operate_82 : decode mb_P_operate 82 = .ok (.istore 6, 2) := by decide +kernel
theorem d_P_operate_84 : decode mb_P_operate 84 = .ok (.aload_n 0, 1) := by decide +kernel
theorem d_P_operate_85 : decode mb_P_operate 85 = .ok (.iload_n 1, 1) := by decide +kernel
theorem d_P_operate_86 : decode mb_P_operate 86 = .ok (.aload_n 0, 1) := by decide +kernel
theorem d_P_operate_87 : decode mb_P_operate 87 = .ok (.getfield 15, 3) := by decide +kernel
theorem d_P_operate_90 : decode mb_P_operate 90 = .ok (.iload_n 2, 1) := by decide +kernel
theorem d_P_operate_91 : decode mb_P_operate 91 = .ok (.invokevirtual 100, 3) := by decide +kernel
theorem d_P_operate_94 : decode mb_P_operate 94 = .ok (.iload 6, 2) := by decide +kernel
theorem d_P_operate_96 : decode mb_P_operate 96 = .ok (.iload 4, 2) := by decide +kernel
theorem d_P_operate_98 : decode mb_P_operate 98 = .ok (.invokevirtual 108, 3) := by decide +kernel
theorem d_P_operate_101 : decode mb_P_operate 101 = .ok (.istore 7, 2) := by decide +kernel
theorem d_P_operate_103 : decode mb_P_operate 103 = .ok (.iload_n 1, 1) := by decide +kernel
theorem d_P_operate_104 : decode mb_P_operate 104 = .ok (.iconst 1, 1) := by decide +kernel
theorem d_P_operate_105 : decode mb_P_operate 105 = .ok (.if_icmp .eq 18, 3) := by decide +kernel
theorem d_P_operate_108 : decode mb_P_operate 108 = .ok (.iload_n 1, 1) := by decide +kernel
theorem d_P_operate_109 : decode mb_P_operate 109 = .ok (.iconst 5, 1) := by decide +kernel
theorem d_P_operate_110 : decode mb_P_operate 110 = .ok (.if_icmp .eq 13, 3) := by decide +kernel
theorem d_P_operate_113 : decode mb_P_operate 113 = .ok (.aload_n 0, 1) := by decide +kernel
theorem d_P_operate_114 : decode mb_P_operate 114 = .ok (.getfield 15, 3) := by decide +kernel
theorem d_P_operate_117 : decode mb_P_operate 117 = .ok (.iload_n 2, 1) := by decide +kernel
theorem d_P_operate_118 : decode mb_P_operate 118 = .ok (.iload 7, 2) := by decide +kernel
theorem d_P_operate_120 : decode mb_P_operate 120 = .ok (.invokevirtual 112, 3) := by decide +kernel
theorem d_P_operate_123 : decode mb_P_operate 123 = .ok (.return_, 1) := by decide +kernel
theorem d_P_doSecondPage_0 : decode mb_P_doSecondPage 0 = .ok (.iload_n 1, 1) := by decide +kernel
theorem d_P_doSecondPage_1 : decode mb_P_doSecondPage 1 = .ok (.iconst 4, 1) := by decide +kernel
theorem d_P_doSecondPage_2 : decode mb_P_doSecondPage 2 = .ok (.ishr, 1) := by decide +kernel
theorem d_P_doSecondPage_3 : decode mb_P_doSecondPage 3 = .ok (.iconst 3, 1) := by decide +kernel
theorem d_P_doSecondPage_4 : decode mb_P_doSecondPage 4 = .ok (.iand, 1) := by decide +kernel
theorem d_P_doSecondPage_5 : decode mb_P_doSecondPage 5 = .ok (.istore_n 2, 1) := by decide +kernel
theorem d_P_doSecondPage_6 : decode mb_P_doSecondPage 6 = .ok (.iload_n 1, 1) := by decide +kernel
theorem d_P_doSecondPage_7 : decode mb_P_doSecondPage 7 = .ok (.sipush 192, 3) := by decide +kernel
theorem d_P_doSecondPage_10 : decode mb_P_doSecondPage 10 = .ok (.if_icmp .lt 7, 3) := by decide +kernel
theorem d_P_doSecondPage_13 : decode mb_P_doSecondPage 13 = .ok (.iconst 1, 1) := by decide +kernel
theorem d_P_doSecondPage_14 : decode mb_P_doSecondPage 14 = .ok (.goto 4, 3) := by decide +kernel
theorem d_P_doSecondPage_17 : decode mb_P_doSecondPage 17 = .ok (.iconst 0, 1) := by decide +kernel
theorem d_P_doSecondPage_18 : decode mb_P_doSecondPage 18 = .ok (.istore_n 3, 1) := by decide +kernel
theorem d_P_doSecondPage_19 : decode mb_P_doSecondPage 19 = .ok (.iload_n 1, 1) := by decide +kernel
theorem d_P_doSecondPage_20 : decode mb_P_doSecondPage 20 = .ok (.bipush 15, 2) := by decide +kernel
theorem d_P_doSecondPage_22 : decode mb_P_doSecondPage 22 = .ok (.iand, 1) := by decide +kernel
theorem d_P_doSecondPage_23 : decode mb_P_doSecondPage 23 = .ok (.istore 4, 2) := by decide +kernel
theorem d_P_doSecondPage_25 : decode mb_P_doSecondPage 25 = .ok (.iload_n 1, 1) := by decide +kernel
theorem d_P_doSecondPage_26 : decode mb_P_doSecondPage 26 = .ok (.sipush 128, 3) := by decide +kernel
theorem d_P_doSecondPage_29 : decode mb_P_doSecondPage 29 = .ok (.if_icmp .lt 14, 3) := by decide +kernel
theorem d_P_doSecondPage_32 : decode mb_P_doSecondPage 32 = .ok (.iload_n 3, 1) := by decide +kernel
theorem d_P_doSecondPage_33 : decode mb_P_doSecondPage 33 = .ok (.ifCond .eq 17, 3) := by decide +kernel
theorem d_P_doSecondPage_36 : decode mb_P_doSecondPage 36 = .ok (.iload 4, 2) := by decide +kernel
theorem d_P_doSecondPage_38 : decode mb_P_doSecondPage 38 = .ok (.bipush 14, 2) := by decide +kernel
theorem d_P_doSecondPage_40 : decode mb_P_doSecondPage 40 = .ok (.if_icmp .ge 10, 3) := by decide +kernel
theorem d_P_doSecondPage_43 : decode mb_P_doSecondPage 43 = .ok (.aload_n 0, 1) := by decide +kernel
theorem d_P_doSecondPage_44 : decode mb_P_doSecondPage 44 = .ok (.bipush (-2), 2) := by decide +kernel
theorem d_P_doSecondPage_46 : decode mb_P_doSecondPage 46 = .ok (.putfield 32, 3) := by decide +kernel
theorem d_P_doSecondPage_49 : decode mb_P_doSecondPage 49 = .ok (.return_, 1) := by decide +kernel
theorem d_P_doSecondPage_50 : decode mb_P_doSecondPage 50 = .ok (.iload 4, 2) := by decide +kernel
theorem d_P_doSecondPage_52 : decode mb_P_doSecondPage 52 = .ok (.lookupswitch 102 #[(3, 44), (12, 54), (14, 64), (15, 83)], 44) := by decide +kernel
theorem d_P_doSecondPage_96 : decode mb_P_doSecondPage 96 = .ok (.aload_n 0, 1) := by decide +kernel
theorem d_P_doSecondPage_97 : decode mb_P_doSecondPage 97 = .ok (.iconst 1, 1) := by decide +kernel
theorem d_P_doSecondPage_98 : decode mb_P_doSecondPage 98 = .ok (.iconst 0, 1) := by decide +kernel
theorem d_P_doSecondPage_99 : decode mb_P_doSecondPage 99 = .ok (.iload_n 2, 1) := by decide +kernel
theorem d_P_doSecondPage_100 : decode mb_P_doSecondPage 100 = .ok (.invokevirtual 88, 3) := by decide +kernel
theorem d_P_doSecondPage_103 : decode mb_P_doSecondPage 103 = .ok (.goto 57, 3) := by decide +kernel
theorem d_P_doSecondPage_106 : decode mb_P_doSecondPage 106 = .ok (.aload_n 0, 1) := by decide +kernel
theorem d_P_doSecondPage_107 : decode mb_P_doSecondPage 107 = .ok (.iconst 1, 1) := by decide +kernel
theorem d_P_doSecondPage_108 : decode mb_P_doSecondPage 108 = .ok (.iconst 2, 1) := by decide +kernel
theorem d_P_doSecondPage_109 : decode mb_P_doSecondPage 109 = .ok (.iload_n 2, 1) := by decide +kernel
theorem d_P_doSecondPage_110 : decode mb_P_doSecondPage 110 = .ok (.invokevirtual 88, 3) := by decide +kernel
theorem d_P_doSecondPage_113 : decode mb_P_doSecondPage 113 = .ok (.goto 47, 3) := by decide +kernel
theorem d_P_doSecondPage_116 : decode mb_P_doSecondPage 116 = .ok (.aload_n 0, 1) := by decide +kernel
theorem d_P_doSecondPage_117 : decode mb_P_doSecondPage 117 = .ok (.bipush 6, 2) := by decide +kernel
theorem d_P_doSecondPage_119 : decode mb_P_doSecondPage 119 = .ok (.iload_n 3, 1) := by decide +kernel
theorem d_P_doSecondPage_120 : decode mb_P_doSecondPage 120 = .ok (.ifCond .eq 7, 3) := by decide +kernel
theorem d_P_doSecondPage_123 : decode mb_P_doSecondPage 123 = .ok (.iconst 4, 1) := by decide +kernel
theorem d_P_doSecondPage_124 : decode mb_P_doSecondPage 124 = .ok (.goto 4, 3) := by decide +kernel
theorem d_P_doSecondPage_127 : decode mb_P_doSecondPage 127 = .ok (.iconst 2, 1) := by decide +kernel
theorem d_P_doSecondPage_128 : decode mb_P_doSecondPage 128 = .ok (.iload_n 2, 1) := by decide +kernel
theorem d_P_doSecondPage_129 : decode mb_P_doSecondPage 129 = .ok (.invokevirtual 88, 3) := by decide +kernel
theorem d_P_doSecondPage_132 : decode mb_P_doSecondPage 132 = .ok (.goto 28, 3) := by decide +kernel
theorem d_P_doSecondPage_135 : decode mb_P_doSecondPage 135 = .ok (.aload_n 0, 1) := by decide +kernel
theorem d_P_doSecondPage_136 : decode mb_P_doSecondPage 136 = .ok (.bipush 7, 2) := by decide +kernel
theorem d_P_doSecondPage_138 : decode mb_P_doSecondPage 138 = .ok (.iload_n 3, 1) := by decide +kernel
theorem d_P_doSecondPage_139 : decode mb_P_doSecondPage 139 = .ok (.ifCond .eq 7, 3) := by decide +kernel
theorem d_P_doSecondPage_142 : decode mb_P_doSecondPage 142 = .ok (.iconst 4, 1) := by decide +kernel
theorem d_P_doSecondPage_143 : decode mb_P_doSecondPage 143 = .ok (.goto 4, 3) := by decide +kernel
theorem d_P_doSecondPage_146 : decode mb_P_doSecondPage 146 = .ok (.iconst 2, 1) := by decide +kernel
theorem d_P_doSecondPage_147 : decode mb_P_doSecondPage 147 = .ok (.iload_n 2, 1) := by decide +kernel
theorem d_P_doSecondPage_148 : decode mb_P_doSecondPage 148 = .ok (.invokevirtual 88, 3) := by decide +kernel
theorem d_P_doSecondPage_151 : decode mb_P_doSecondPage 151 = .ok (.goto 9, 3) := by decide +kernel
theorem d_P_doSecondPage_154 : decode mb_P_doSecondPage 154 = .ok (.aload_n 0, 1) := by decide +kernel
theorem d_P_doSecondPage_155 : decode mb_P_doSecondPage 155 = .ok (.bipush (-2), 2) := by decide +kernel
theorem d_P_doSecondPage_157 : decode mb_P_doSecondPage 157 = .ok (.putfield 32, 3) := by decide +kernel
theorem d_P_doSecondPage_160 : decode mb_P_doSecondPage 160 = .ok (.return_, 1) := by decide +kernel
theorem d_G_exists_0 : decode mb_G_exists 0 = .ok (.iload_n 0, 1) := by decide +kernel
theorem d_G_exists_1 : decode mb_G_exists 1 = .ok (.ifCond .lt 8, 3) := by decide +kernel
theorem d_G_exists_4 : decode mb_G_exists 4 = .ok (.iload_n 0, 1) := by decide +kernel
theorem d_G_exists_5 : decode mb_G_exists 5 = .ok (.iconst 5, 1) := by decide +kernel
theorem d_G_exists_6 : decode mb_G_exists 6 = .ok (.if_icmp .le 15, 3) := by decide +kernel
theorem d_G_exists_9 : decode mb_G_exists 9 = .ok (.iload_n 0, 1) := by decide +kernel
theorem d_G_exists_10 : decode mb_G_exists 10 = .ok (.bipush 8, 2) := by decide +kernel
theorem d_G_exists_12 : decode mb_G_exists 12 = .ok (.if_icmp .lt 13, 3) := by decide +kernel
theorem d_G_exists_15 : decode mb_G_exists 15 = .ok (.iload_n 0, 1) := by decide +kernel
theorem d_G_exists_16 : decode mb_G_exists 16 = .ok (.bipush 11, 2) := by decide +kernel
theorem d_G_exists_18 : decode mb_G_exists 18 = .ok (.if_icmp .gt 7, 3) := by decide +kernel
theorem d_G_exists_21 : decode mb_G_exists 21 = .ok (.iconst 1, 1) := by decide +kernel
theorem d_G_exists_22 : decode mb_G_exists 22 = .ok (.goto 4, 3) := by decide +kernel
theorem d_G_exists_25 : decode mb_G_exists 25 = .ok (.iconst 0, 1) := by decide +kernel
theorem d_G_exists_26 : decode mb_G_exists 26 = .ok (.ireturn, 1) := by decide +kernel
theorem d_P_moveRegister_0 : decode mb_P_moveRegister 0 = .ok (.aload_n 0, 1) := by decide +kernel
theorem d_P_moveRegister_1 : decode mb_P_moveRegister 1 = .ok (.iconst 1, 1) := by decide +kernel
theorem d_P_moveRegister_2 : decode mb_P_moveRegister 2 = .ok (.invokevirtual 35, 3) := by decide +kernel
theorem d_P_moveRegister_5 : decode mb_P_moveRegister 5 = .ok (.istore_n 2, 1) := by decide +kernel
theorem d_P_moveRegister_6 : decode mb_P_moveRegister 6 = .ok (.iload_n 2, 1) := by decide +kernel
theorem d_P_moveRegister_7 : decode mb_P_moveRegister 7 = .ok (.iconst 4, 1) := by decide +kernel
theorem d_P_moveRegister_8 : decode mb_P_moveRegister 8 = .ok (.ishr, 1) := by decide +kernel
theorem d_P_moveRegister_9 : decode mb_P_moveRegister 9 = .ok (.istore_n 3, 1) := by decide +kernel
theorem d_P_moveRegister_10 : decode mb_P_moveRegister 10 = .ok (.iload_n 2, 1) := by decide +kernel
theorem d_P_moveRegister_11 : decode mb_P_moveRegister 11 = .ok (.bipush 15, 2) := by decide +kernel
theorem d_P_moveRegister_13 : decode mb_P_moveRegister 13 = .ok (.iand, 1) := by decide +kernel
theorem d_P_moveRegister_14 : decode mb_P_moveRegister 14 = .ok (.istore 4, 2) := by decide +kernel
theorem d_P_moveRegister_16 : decode mb_P_moveRegister 16 = .ok (.iload_n 3, 1) := by decide +kernel
theorem d_P_moveRegister_17 : decode mb_P_moveRegister 17 = .ok (.invokestatic 184, 3) := by decide +kernel
theorem d_P_moveRegister_20 : decode mb_P_moveRegister 20 = .ok (.ifCond .eq 23, 3) := by decide +kernel
theorem d_P_moveRegister_23 : decode mb_P_moveRegister 23 = .ok (.iload 4, 2) := by decide +kernel
theorem d_P_moveRegister_25 : decode mb_P_moveRegister 25 = .ok (.invokestatic 184, 3) := by decide +kernel
theorem d_P_moveRegister_28 : decode mb_P_moveRegister 28 = .ok (.ifCond .eq 15, 3) := by decide +kernel
theorem d_P_moveRegister_31 : decode mb_P_moveRegister 31 = .ok (.iload_n 3, 1) := by decide +kernel
theorem d_P_moveRegister_32 : decode mb_P_moveRegister 32 = .ok (.invokestatic 94, 3) := by decide +kernel
theorem d_P_moveRegister_35 : decode mb_P_moveRegister 35 = .ok (.iload 4, 2) := by decide +kernel
theorem d_P_moveRegister_37 : decode mb_P_moveRegister 37 = .ok (.invokestatic 94, 3) := by decide +kernel
theorem d_P_moveRegister_40 : decode mb_P_moveRegister 40 = .ok (.if_icmp .eq 10, 3) := by decide +kernel
theorem d_P_moveRegister_43 : decode mb_P_moveRegister 43 = .ok (.aload_n 0, 1) := by decide +kernel
theorem d_P_moveRegister_44 : decode mb_P_moveRegister 44 = .ok (.bipush (-2), 2) := by decide +kernel
theorem d_P_moveRegister_46 : decode mb_P_moveRegister 46 = .ok (.putfield 32, 3) := by decide +kernel
theorem d_P_moveRegister_49 : decode mb_P_moveRegister 49 = .ok (.return_, 1) := by decide +kernel
theorem d_P_moveRegister_50 : decode mb_P_moveRegister 50 = .ok (.aload_n 0, 1) := by decide +kernel
theorem d_P_moveRegister_51 : decode mb_P_moveRegister 51 = .ok (.getfield 15, 3) := by decide +kernel
theorem d_P_moveRegister_54 : decode mb_P_moveRegister 54 = .ok (.iload 4, 2) := by decide +kernel
theorem d_P_moveRegister_56 : decode mb_P_moveRegister 56 = .ok (.invokevirtual 100, 3) := by decide +kernel
theorem d_P_moveRegister_59 : decode mb_P_moveRegister 59 = .ok (.istore 5, 2) := by decide +kernel
theorem d_P_moveRegister_61 : decode mb_P_moveRegister 61 = .ok (.aload_n 0, 1) := by decide +kernel
theorem d_P_moveRegister_62 : decode mb_P_moveRegister 62 = .ok (.getfield 15, 3) := by decide +kernel
theorem d_P_moveRegister_65 : decode mb_P_moveRegister 65 = .ok (.iload 4, 2) := by decide +kernel
theorem d_P_moveRegister_67 : decode mb_P_moveRegister 67 = .ok (.aload_n 0, 1) := by decide +kernel
theorem d_P_moveRegister_68 : decode mb_P_moveRegister 68 = .ok (.getfield 15, 3) := by decide +kernel
theorem d_P_moveRegister_71 : decode mb_P_moveRegister 71 = .ok (.iload_n 3, 1) := by decide +kernel
theorem d_P_moveRegister_72 : decode mb_P_moveRegister 72 = .ok (.invokevirtual 100, 3) := by decide +kernel
theorem d_P_moveRegister_75 : decode mb_P_moveRegister 75 = .ok (.invokevirtual 112, 3) := by decide +kernel
theorem d_P_moveRegister_78 : decode mb_P_moveRegister 78 = .ok (.iload_n 1, 1) := by decide +kernel
theorem d_P_moveRegister_79 : decode mb_P_moveRegister 79 = .ok (.ifCond .eq 13, 3) := by decide +kernel
theorem d_P_moveRegister_82 : decode mb_P_moveRegister 82 = .ok (.aload_n 0, 1) := by decide +kernel
theorem d_P_moveRegister_83 : decode mb_P_moveRegister 83 = .ok (.getfield 15, 3) := by decide +kernel
theorem d_P_moveRegister_86 : decode mb_P_moveRegister 86 = .ok (.iload_n 3, 1) := by decide +kernel
theorem d_P_moveRegister_87 : decode mb_P_moveRegister 87 = .ok (.iload 5, 2) := by decide +kernel
theorem d_P_moveRegister_89 : decode mb_P_moveRegister 89 = .ok (.invokevirtual 112, 3) := by decide +kernel
theorem d_P_moveRegister_92 : decode mb_P_moveRegister 92 = .ok (.return_, 1) := by decide +kernel
theorem d_P_doGroup1_0 : decode mb_P_doGroup1 0 = .ok (.iload_n 1, 1) := by decide +kernel
theorem d_P_doGroup1_1 : decode mb_P_doGroup1 1 = .ok (.tableswitch 140 18 31 #[71, 140, 140, 140, 140, 140, 140, 140, 74, 140, 94, 114, 124, 132], 71) := by decide +kernel
theorem d_P_doGroup1_72 : decode mb_P_doGroup1 72 = .ok (.goto 75, 3) := by decide +kernel
theorem d_P_doGroup1_75 : decode mb_P_doGroup1 75 = .ok (.aload_n 0, 1) := by decide +kernel
theorem d_P_doGroup1_76 : decode mb_P_doGroup1 76 = .ok (.getfield 15, 3) := by decide +kernel
theorem d_P_doGroup1_79 : decode mb_P_doGroup1 79 = .ok (.dup, 1) := by decide +kernel
theorem d_P_doGroup1_80 : decode mb_P_doGroup1 80 = .ok (.getfield 174, 3) := by decide +kernel
theorem d_P_doGroup1_83 : decode mb_P_doGroup1 83 = .ok (.aload_n 0, 1) := by decide +kernel
theorem d_P_doGroup1_84 : decode mb_P_doGroup1 84 = .ok (.iconst 1, 1) := by decide +kernel
theorem d_P_doGroup1_85 : decode mb_P_doGroup1 85 = .ok (.invokevirtual 35, 3) := by decide +kernel
theorem d_P_doGroup1_88 : decode mb_P_doGroup1 88 = .ok (.ior, 1) := by decide +kernel
theorem d_P_doGroup1_89 : decode mb_P_doGroup1 89 = .ok (.putfield 174, 3) := by decide +kernel
theorem d_P_doGroup1_92 : decode mb_P_doGroup1 92 = .ok (.goto 55, 3) := by decide +kernel
theorem d_P_doGroup1_95 : decode mb_P_doGroup1 95 = .ok (.aload_n 0, 1) := by decide +kernel
theorem d_P_doGroup1_96 : decode mb_P_doGroup1 96 = .ok (.getfield 15, 3) := by decide +kernel
theorem d_P_doGroup1_99 : decode mb_P_doGroup1 99 = .ok (.dup, 1) := by decide +kernel
theorem d_P_doGroup1_100 : decode mb_P_doGroup1 100 = .ok (.getfield 174, 3) := by decide +kernel
theorem d_P_doGroup1_103 : decode mb_P_doGroup1 103 = .ok (.aload_n 0, 1) := by decide +kernel
theorem d_P_doGroup1_104 : decode mb_P_doGroup1 104 = .ok (.iconst 1, 1) := by decide +kernel
theorem d_P_doGroup1_105 : decode mb_P_doGroup1 105 = .ok (.invokevirtual 35, 3) := by decide +kernel
theorem d_P_doGroup1_108 : decode mb_P_doGroup1 108 = .ok (.iand, 1) := by decide +kernel
theorem d_P_doGroup1_109 : decode mb_P_doGroup1 109 = .ok (.putfield 174, 3) := by decide +kernel
theorem d_P_doGroup1_112 : decode mb_P_doGroup1 112 = .ok (.goto 35, 3) := by decide +kernel
theorem d_P_doGroup1_115 : decode mb_P_doGroup1 115 = .ok (.aload_n 0, 1) := by decide +kernel
theorem d_P_doGroup1_116 : decode mb_P_doGroup1 116 = .ok (.getfield 24, 3) := by decide +kernel
theorem d_P_doGroup1_119 : decode mb_P_doGroup1 119 = .ok (.invokevirtual 177, 3) := by decide +kernel
theorem d_P_doGroup1_122 : decode mb_P_doGroup1 122 = .ok (.goto 25, 3) := by decide +kernel
theorem d_P_doGroup1_125 : decode mb_P_doGroup1 125 = .ok (.aload_n 0, 1) := by decide +kernel
theorem d_P_doGroup1_126 : decode mb_P_doGroup1 126 = .ok (.iconst 1, 1) := by decide +kernel
theorem d_P_doGroup1_127 : decode mb_P_doGroup1 127 = .ok (.invokevirtual 180, 3) := by decide +kernel
theorem d_P_doGroup1_130 : decode mb_P_doGroup1 130 = .ok (.goto 17, 3) := by decide +kernel
theorem d_P_doGroup1_133 : decode mb_P_doGroup1 133 = .ok (.aload_n 0, 1) := by decide +kernel
theorem d_P_doGroup1_134 : decode mb_P_doGroup1 134 = .ok (.iconst 0, 1) := by decide +kernel
theorem d_P_doGroup1_135 : decode mb_P_doGroup1 135 = .ok (.invokevirtual 180, 3) := by decide +kernel
theorem d_P_doGroup1_138 : decode mb_P_doGroup1 138 = .ok (.goto 9, 3) := by decide +kernel
theorem d_P_doGroup1_141 : decode mb_P_doGroup1 141 = .ok (.aload_n 0, 1) := by decide +kernel
theorem d_P_doGroup1_142 : decode mb_P_doGroup1 142 = .ok (.bipush (-2), 2) := by decide +kernel
theorem d_P_doGroup1_144 : decode mb_P_doGroup1 144 = .ok (.putfield 32, 3) := by decide +kernel
theorem d_P_doGroup1_147 : decode mb_P_doGroup1 147 = .ok (.return_, 1) := by decide +kernel
theorem d_P_holds_0 : decode mb_P_holds 0 = .ok (.aload_n 0, 1) := by decide +kernel
theorem d_P_holds_1 : decode mb_P_holds 1 = .ok (.getfield 15, 3) := by decide +kernel
theorem d_P_holds_4 : decode mb_P_holds 4 = .ok (.iconst 1, 1) := by decide +kernel
theorem d_P_holds_5 : decode mb_P_holds 5 = .ok (.invokevirtual 171, 3) := by decide +kernel
theorem d_P_holds_8 : decode mb_P_holds 8 = .ok (.istore_n 2, 1) := by decide +kernel
theorem d_P_holds_9 : decode mb_P_holds 9 = .ok (.aload_n 0, 1) := by decide +kernel
theorem d_P_holds_10 : decode mb_P_holds 10 = .ok (.getfield 15, 3) := by decide +kernel
theorem d_P_holds_13 : decode mb_P_holds 13 = .ok (.iconst 2, 1) := by decide +kernel
theorem d_P_holds_14 : decode mb_P_holds 14 = .ok (.invokevirtual 171, 3) := by decide +kernel
theorem d_P_holds_17 : decode mb_P_holds 17 = .ok (.istore_n 3, 1) := by decide +kernel
theorem d_P_holds_18 : decode mb_P_holds 18 = .ok (.aload_n 0, 1) := by decide +kernel
theorem d_P_holds_19 : decode mb_P_holds 19 = .ok (.getfield 15, 3) := by decide +kernel
theorem d_P_holds_22 : decode mb_P_holds 22 = .ok (.iconst 4, 1) := by decide +kernel
theorem d_P_holds_23 : decode mb_P_holds 23 = .ok (.invokevirtual 171, 3) := by decide +kernel
theorem d_P_holds_26 : decode mb_P_holds 26 = .ok (.istore 4, 2) := by decide +kernel
theorem d_P_holds_28 : decode mb_P_holds 28 = .ok (.aload_n 0, 1) := by decide +kernel
theorem d_P_holds_29 : decode mb_P_holds 29 = .ok (.getfield 15, 3) := by decide +kernel
theorem d_P_holds_32 : decode mb_P_holds 32 = .ok (.bipush 8, 2) := by decide +kernel
theorem d_P_holds_34 : decode mb_P_holds 34 = .ok (.invokevirtual 171, 3) := by decide +kernel
theorem d_P_holds_37 : decode mb_P_holds 37 = .ok (.istore 5, 2) := by decide +kernel
theorem d_P_holds_39 : decode mb_P_holds 39 = .ok (.iload_n 1, 1) := by decide +kernel
theorem d_P_holds_40 : decode mb_P_holds 40 = .ok (.iconst 1, 1) := by decide +kernel
theorem d_P_holds_41 : decode mb_P_holds 41 = .ok (.iand, 1) := by decide +kernel
theorem d_P_holds_42 : decode mb_P_holds 42 = .ok (.ifCond .ne 7, 3) := by decide +kernel
theorem d_P_holds_45 : decode mb_P_holds 45 = .ok (.iconst 1, 1) := by decide +kernel
theorem d_P_holds_46 : decode mb_P_holds 46 = .ok (.goto 4, 3) := by decide +kernel
theorem d_P_holds_49 : decode mb_P_holds 49 = .ok (.iconst 0, 1) := by decide +kernel
theorem d_P_holds_50 : decode mb_P_holds 50 = .ok (.istore 6, 2) := by decide +kernel
theorem d_P_holds_52 : decode mb_P_holds 52 = .ok (.iload_n 1, 1) := by decide +kernel
theorem d_P_holds_53 : decode mb_P_holds 53 = .ok (.iconst 1, 1) := by decide +kernel
theorem d_P_holds_54 : decode mb_P_holds 54 = .ok (.ishr, 1) := by decide +kernel
theorem d_P_holds_55 : decode mb_P_holds 55 = .ok (.tableswitch 173 0 6 #[41, 44, 69, 89, 110, 130, 151], 41) := by decide +kernel
theorem d_P_holds_96 : decode mb_P_holds 96 = .ok (.iload 6, 2) := by decide +kernel
theorem d_P_holds_98 : decode mb_P_holds 98 = .ok (.ireturn, 1) := by decide +kernel
theorem d_P_holds_99 : decode mb_P_holds 99 = .ok (.iload 6, 2) := by decide +kernel
theorem d_P_holds_101 : decode mb_P_holds 101 = .ok (.iload_n 2, 1) := by decide +kernel
theorem d_P_holds_102 : decode mb_P_holds 102 = .ok (.ifCond .ne 12, 3) := by decide +kernel
theorem d_P_holds_105 : decode mb_P_holds 105 = .ok (.iload 4, 2) := by decide +kernel
theorem d_P_holds_107 : decode mb_P_holds 107 = .ok (.ifCond .ne 7, 3) := by decide +kernel
theorem d_P_holds_110 : decode mb_P_holds 110 = .ok (.iconst 1, 1) := by decide +kernel
theorem d_P_holds_111 : decode mb_P_holds 111 = .ok (.goto 4, 3) := by decide +kernel
theorem d_P_holds_114 : decode mb_P_holds 114 = .ok (.iconst 0, 1) := by decide +kernel
theorem d_P_holds_115 : decode mb_P_holds 115 = .ok (.if_icmp .ne 7, 3) := by decide +kernel
theorem d_P_holds_118 : decode mb_P_holds 118 = .ok (.iconst 1, 1) := by decide +kernel
theorem d_P_holds_119 : decode mb_P_holds 119 = .ok (.goto 4, 3) := by decide +kernel
theorem d_P_holds_122 : decode mb_P_holds 122 = .ok (.iconst 0, 1) := by decide +kernel
theorem d_P_holds_123 : decode mb_P_holds 123 = .ok (.ireturn, 1) := by decide +kernel
theorem d_P_holds_124 : decode mb_P_holds 124 = .ok (.iload 6, 2) := by decide +kernel
theorem d_P_holds_126 : decode mb_P_holds 126 = .ok (.iload_n 2, 1) := by decide +kernel
theorem d_P_holds_127 : decode mb_P_holds 127 = .ok (.ifCond .ne 7, 3) := by decide +kernel
theorem d_P_holds_130 : decode mb_P_holds 130 = .ok (.iconst 1, 1) := by decide +kernel
theorem d_P_holds_131 : decode mb_P_holds 131 = .ok (.goto 4, 3) := by decide +kernel
theorem d_P_holds_134 : decode mb_P_holds 134 = .ok (.iconst 0, 1) := by decide +kernel
theorem d_P_holds_135 : decode mb_P_holds 135 = .ok (.if_icmp .ne 7, 3) := by decide +kernel
theorem d_P_holds_138 : decode mb_P_holds 138 = .ok (.iconst 1, 1) := by decide +kernel
theorem d_P_holds_139 : decode mb_P_holds 139 = .ok (.goto 4, 3) := by decide +kernel
theorem d_P_holds_142 : decode mb_P_holds 142 = .ok (.iconst 0, 1) := by decide +kernel
theorem d_P_holds_143 : decode mb_P_holds 143 = .ok (.ireturn, 1) := by decide +kernel
theorem d_P_holds_144 : decode mb_P_holds 144 = .ok (.iload 6, 2) := by decide +kernel
theorem d_P_holds_146 : decode mb_P_holds 146 = .ok (.iload 4, 2) := by decide +kernel
theorem d_P_holds_148 : decode mb_P_holds 148 = .ok (.ifCond .ne 7, 3) := by decide +kernel
theorem d_P_holds_151 : decode mb_P_holds 151 = .ok (.iconst 1, 1) := by decide +kernel
theorem d_P_holds_152 : decode mb_P_holds 152 = .ok (.goto 4, 3) := by decide +kernel
theorem d_P_holds_155 : decode mb_P_holds 155 = .ok (.iconst 0, 1) := by decide +kernel
theorem d_P_holds_156 : decode mb_P_holds 156 = .ok (.if_icmp .ne 7, 3) := by decide +kernel
theorem d_P_holds_159 : decode mb_P_holds 159 = .ok (.iconst 1, 1) := by decide +kernel
theorem d_P_holds_160 : decode mb_P_holds 160 = .ok (.goto 4, 3) := by decide +kernel
theorem d_P_holds_163 : decode mb_P_holds 163 = .ok (.iconst 0, 1) := by decide +kernel
theorem d_P_holds_164 : decode mb_P_holds 164 = .ok (.ireturn, 1) := by decide +kernel
theorem d_P_holds_165 : decode mb_P_holds 165 = .ok (.iload 6, 2) := by decide +kernel
theorem d_P_holds_167 : decode mb_P_holds 167 = .ok (.iload_n 3, 1) := by decide +kernel
theorem d_P_holds_168 : decode mb_P_holds 168 = .ok (.ifCond .ne 7, 3) := by decide +kernel
theorem d_P_holds_171 : decode mb_P_holds 171 = .ok (.iconst 1, 1) := by decide +kernel
theorem d_P_holds_172 : decode mb_P_holds 172 = .ok (.goto 4, 3) := by decide +kernel
theorem d_P_holds_175 : decode mb_P_holds 175 = .ok (.iconst 0, 1) := by decide +kernel
theorem d_P_holds_176 : decode mb_P_holds 176 = .ok (.if_icmp .ne 7, 3) := by decide +kernel
theorem d_P_holds_179 : decode mb_P_holds 179 = .ok (.iconst 1, 1) := by decide +kernel
theorem d_P_holds_180 : decode mb_P_holds 180 = .ok (.goto 4, 3) := by decide +kernel
theorem d_P_holds_183 : decode mb_P_holds 183 = .ok (.iconst 0, 1) := by decide +kernel
theorem d_P_holds_184 : decode mb_P_holds 184 = .ok (.ireturn, 1) := by decide +kernel
theorem d_P_holds_185 : decode mb_P_holds 185 = .ok (.iload 6, 2) := by decide +kernel
theorem d_P_holds_187 : decode mb_P_holds 187 = .ok (.iload 5, 2) := by decide +kernel
theorem d_P_holds_189 : decode mb_P_holds 189 = .ok (.ifCond .ne 7, 3) := by decide +kernel
theorem d_P_holds_192 : decode mb_P_holds 192 = .ok (.iconst 1, 1) := by decide +kernel
theorem d_P_holds_193 : decode mb_P_holds 193 = .ok (.goto 4, 3) := by decide +kernel
theorem d_P_holds_196 : decode mb_P_holds 196 = .ok (.iconst 0, 1) := by decide +kernel
theorem d_P_holds_197 : decode mb_P_holds 197 = .ok (.if_icmp .ne 7, 3) := by decide +kernel
theorem d_P_holds_200 : decode mb_P_holds 200 = .ok (.iconst 1, 1) := by decide +kernel
theorem d_P_holds_201 : decode mb_P_holds 201 = .ok (.goto 4, 3) := by decide +kernel
theorem d_P_holds_204 : decode mb_P_holds 204 = .ok (.iconst 0, 1) := by decide +kernel
theorem d_P_holds_205 : decode mb_P_holds 205 = .ok (.ireturn, 1) := by decide +kernel
theorem d_P_holds_206 : decode mb_P_holds 206 = .ok (.iload 6, 2) := by decide +kernel
theorem d_P_holds_208 : decode mb_P_holds 208 = .ok (.iload 5, 2) := by decide +kernel
theorem d_P_holds_210 : decode mb_P_holds 210 = .ok (.iload_n 3, 1) := by decide +kernel
theorem d_P_holds_211 : decode mb_P_holds 211 = .ok (.if_icmp .ne 7, 3) := by decide +kernel
theorem d_P_holds_214 : decode mb_P_holds 214 = .ok (.iconst 1, 1) := by decide +kernel
theorem d_P_holds_215 : decode mb_P_holds 215 = .ok (.goto 4, 3) := by decide +kernel
theorem d_P_holds_218 : decode mb_P_holds 218 = .ok (.iconst 0, 1) := by decide +kernel
theorem d_P_holds_219 : decode mb_P_holds 219 = .ok (.if_icmp .ne 7, 3) := by decide +kernel
theorem d_P_holds_222 : decode mb_P_holds 222 = .ok (.iconst 1, 1) := by decide +kernel
theorem d_P_holds_223 : decode mb_P_holds 223 = .ok (.goto 4, 3) := by decide +kernel
theorem d_P_holds_226 : decode mb_P_holds 226 = .ok (.iconst 0, 1) := by decide +kernel
theorem d_P_holds_227 : decode mb_P_holds 227 = .ok (.ireturn, 1) := by decide +kernel
theorem d_P_holds_228 : decode mb_P_holds 228 = .ok (.iload 6, 2) := by decide +kernel
theorem d_P_holds_230 : decode mb_P_holds 230 = .ok (.iload 5, 2) := by decide +kernel
theorem d_P_holds_232 : decode mb_P_holds 232 = .ok (.iload_n 3, 1) := by decide +kernel
theorem d_P_holds_233 : decode mb_P_holds 233 = .ok (.if_icmp .ne 12, 3) := by decide +kernel
theorem d_P_holds_236 : decode mb_P_holds 236 = .ok (.iload 4, 2) := by decide +kernel
theorem d_P_holds_238 : decode mb_P_holds 238 = .ok (.ifCond .ne 7, 3) := by decide +kernel
theorem d_P_holds_241 : decode mb_P_holds 241 = .ok (.iconst 1, 1) := by decide +kernel
theorem d_P_holds_242 : decode mb_P_holds 242 = .ok (.goto 4, 3) := by decide +kernel
theorem d_P_holds_245 : decode mb_P_holds 245 = .ok (.iconst 0, 1) := by decide +kernel
theorem d_P_holds_246 : decode mb_P_holds 246 = .ok (.if_icmp .ne 7, 3) := by decide +kernel
theorem d_P_holds_249 : decode mb_P_holds 249 = .ok (.iconst 1, 1) := by decide +kernel
theorem d_P_holds_250 : decode mb_P_holds 250 = .ok (.goto 4, 3) := by decide +kernel
theorem d_P_holds_253 : decode mb_P_holds 253 = .ok (.iconst 0, 1) := by decide +kernel
theorem d_P_holds_254 : decode mb_P_holds 254 = .ok (.ireturn, 1) := by decide +kernel
theorem d_P_branch_0 : decode mb_P_branch 0 = .ok (.aload_n 0, 1) := by decide +kernel
theorem d_P_branch_1 : decode mb_P_branch 1 = .ok (.iconst 1, 1) := by decide +kernel
theorem d_P_branch_2 : decode mb_P_branch 2 = .ok (.invokevirtual 35, 3) := by decide +kernel
theorem d_P_branch_5 : decode mb_P_branch 5 = .ok (.iconst 1, 1) := by decide +kernel
theorem d_P_branch_6 : decode mb_P_branch 6 = .ok (.invokestatic 138, 3) := by decide +kernel
theorem d_P_branch_9 : decode mb_P_branch 9 = .ok (.istore_n 2, 1) := by decide +kernel
theorem d_P_branch_10 : decode mb_P_branch 10 = .ok (.aload_n 0, 1) := by decide +kernel
theorem d_P_branch_11 : decode mb_P_branch 11 = .ok (.iload_n 1, 1) := by decide +kernel
theorem d_P_branch_12 : decode mb_P_branch 12 = .ok (.invokevirtual 168, 3) := by decide +kernel
theorem d_P_branch_15 : decode mb_P_branch 15 = .ok (.ifCond .eq 22, 3) := by decide +kernel
theorem d_P_branch_18 : decode mb_P_branch 18 = .ok (.aload_n 0, 1) := by decide +kernel
theorem d_P_branch_19 : decode mb_P_branch 19 = .ok (.getfield 15, 3) := by decide +kernel
theorem d_P_branch_22 : decode mb_P_branch 22 = .ok (.aload_n 0, 1) := by decide +kernel
theorem d_P_branch_23 : decode mb_P_branch 23 = .ok (.getfield 15, 3) := by decide +kernel
theorem d_P_branch_26 : decode mb_P_branch 26 = .ok (.getfield 64, 3) := by decide +kernel
theorem d_P_branch_29 : decode mb_P_branch 29 = .ok (.iload_n 2, 1) := by decide +kernel
theorem d_P_branch_30 : decode mb_P_branch 30 = .ok (.iadd, 1) := by decide +kernel
theorem d_P_branch_31 : decode mb_P_branch 31 = .ok (.ldc 76, 2) := by decide +kernel
theorem d_P_branch_33 : decode mb_P_branch 33 = .ok (.iand, 1) := by decide +kernel
theorem d_P_branch_34 : decode mb_P_branch 34 = .ok (.putfield 64, 3) := by decide +kernel
theorem d_P_branch_37 : decode mb_P_branch 37 = .ok (.return_, 1) := by decide +kernel
theorem d_P_loadAddress_0 : decode mb_P_loadAddress 0 = .ok (.aload_n 0, 1) := by decide +kernel
theorem d_P_loadAddress_1 : decode mb_P_loadAddress 1 = .ok (.invokevirtual 128, 3) := by decide +kernel
theorem d_P_loadAddress_4 : decode mb_P_loadAddress 4 = .ok (.istore_n 2, 1) := by decide +kernel
theorem d_P_loadAddress_5 : decode mb_P_loadAddress 5 = .ok (.aload_n 0, 1) := by decide +kernel
theorem d_P_loadAddress_6 : decode mb_P_loadAddress 6 = .ok (.getfield 15, 3) := by decide +kernel
theorem d_P_loadAddress_9 : decode mb_P_loadAddress 9 = .ok (.iload_n 1, 1) := by decide +kernel
theorem d_P_loadAddress_10 : decode mb_P_loadAddress 10 = .ok (.iload_n 2, 1) := by decide +kernel
theorem d_P_loadAddress_11 : decode mb_P_loadAddress 11 = .ok (.invokevirtual 112, 3) := by decide +kernel
theorem d_P_loadAddress_14 : decode mb_P_loadAddress 14 = .ok (.iload_n 1, 1) := by decide +kernel
theorem d_P_loadAddress_15 : decode mb_P_loadAddress 15 = .ok (.iconst 1, 1) := by decide +kernel
theorem d_P_loadAddress_16 : decode mb_P_loadAddress 16 = .ok (.if_icmp .eq 8, 3) := by decide +kernel
theorem d_P_loadAddress_19 : decode mb_P_loadAddress 19 = .ok (.iload_n 1, 1) := by decide +kernel
theorem d_P_loadAddress_20 : decode mb_P_loadAddress 20 = .ok (.iconst 2, 1) := by decide +kernel
theorem d_P_loadAddress_21 : decode mb_P_loadAddress 21 = .ok (.if_icmp .ne 20, 3) := by decide +kernel
theorem d_P_loadAddress_24 : decode mb_P_loadAddress 24 = .ok (.aload_n 0, 1) := by decide +kernel
theorem d_P_loadAddress_25 : decode mb_P_loadAddress 25 = .ok (.getfield 15, 3) := by decide +kernel
theorem d_P_loadAddress_28 : decode mb_P_loadAddress 28 = .ok (.iconst 4, 1) := by decide +kernel
theorem d_P_loadAddress_29 : decode mb_P_loadAddress 29 = .ok (.iload_n 2, 1) := by decide +kernel
theorem d_P_loadAddress_30 : decode mb_P_loadAddress 30 = .ok (.ifCond .ne 7, 3) := by decide +kernel
theorem d_P_loadAddress_33 : decode mb_P_loadAddress 33 = .ok (.iconst 4, 1) := by decide +kernel
theorem d_P_loadAddress_34 : decode mb_P_loadAddress 34 = .ok (.goto 4, 3) := by decide +kernel
theorem d_P_loadAddress_37 : decode mb_P_loadAddress 37 = .ok (.iconst 0, 1) := by decide +kernel
theorem d_P_loadAddress_38 : decode mb_P_loadAddress 38 = .ok (.invokevirtual 198, 3) := by decide +kernel
theorem d_P_loadAddress_41 : decode mb_P_loadAddress 41 = .ok (.return_, 1) := by decide +kernel
theorem d_P_push_0 : decode mb_P_push 0 = .ok (.aload_n 0, 1) := by decide +kernel
theorem d_P_push_1 : decode mb_P_push 1 = .ok (.dup, 1) := by decide +kernel
theorem d_P_push_2 : decode mb_P_push 2 = .ok (.getfield 28, 3) := by decide +kernel
theorem d_P_push_5 : decode mb_P_push 5 = .ok (.aload_n 0, 1) := by decide +kernel
theorem d_P_push_6 : decode mb_P_push 6 = .ok (.getfield 15, 3) := by decide +kernel
theorem d_P_push_9 : decode mb_P_push 9 = .ok (.aload_n 0, 1) := by decide +kernel
theorem d_P_push_10 : decode mb_P_push 10 = .ok (.getfield 9, 3) := by decide +kernel
theorem d_P_push_13 : decode mb_P_push 13 = .ok (.iload_n 1, 1) := by decide +kernel
theorem d_P_push_14 : decode mb_P_push 14 = .ok (.iload_n 2, 1) := by decide +kernel
theorem d_P_push_15 : decode mb_P_push 15 = .ok (.invokevirtual 81, 3) := by decide +kernel
theorem d_P_push_18 : decode mb_P_push 18 = .ok (.iadd, 1) := by decide +kernel
theorem d_P_push_19 : decode mb_P_push 19 = .ok (.putfield 28, 3) := by decide +kernel
theorem d_P_push_22 : decode mb_P_push 22 = .ok (.return_, 1) := by decide +kernel
section CLS
variable {l : Launch} {D : va_G} {w : va_W}
variable {aT aK aQ aL aA aY aB aG aS aP aC aI : Nat} {tk : Nat → Nat} {cI cT : ClassId} {kr : Option Nat} {uz : Int32} {ul : Nat → Option Nat} {ks : Nat → Int32} {kv : Nat → Int32} {kz : Nat → Int32} {ku : Nat → Int32} {cb : Nat → Int32} {ga : Int32} {gb : Int32} {gd : Int32} {gc : Int32} {gx : Int32} {gy : Int32} {gu : Int32} {gs : Int32} {gp : Int32} {qa : Int32} {qb : Int32} {qd : Int32} {qc : Int32} {qx : Int32} {qy : Int32} {qu : Int32} {qs : Int32} {qp : Int32} {py : Int32} {po : Int32} {tp : Int32} {tl : Int32} {ta : Int32} {tv : Int32} {tm : Int32} {tg : Bool}
set_option maxHeartbeats 4000000 in
set_option maxRecDepth 100000 in
theorem c_tc_P_operate {x1 : Int32} {x2 : Int32} {x3 : Int32} {z : Int32 × Int32 × (Nat → Int32) × Int32 × Int32 × Int32 × Int32 × Int32 × Int32 × Int32 × Int32 × Int32} (hf : tc_P_operate x1 x2 x3 py po cb ga gb gd gc gx gy gu gs gp = some z) : cs_v l my_P_operate mb_P_operate 8 rm_c_P_operate D (ty_ cI cT) [.ref aP, .int x1, .int x2, .int x3] (cp_ aY aB aG aP aC cI cT py po cb ga gb gd gc gx gy gu gs gp) (cp_ aY aB aG aP aC cI cT z.1 z.2.1 z.2.2.1 z.2.2.2.1 z.2.2.2.2.1 z.2.2.2.2.2.1 z.2.2.2.2.2.2.1 z.2.2.2.2.2.2.2.1 z.2.2.2.2.2.2.2.2.1 z.2.2.2.2.2.2.2.2.2.1 z.2.2.2.2.2.2.2.2.2.2.1 z.2.2.2.2.2.2.2.2.2.2.2) := by
  refine cs_v_of (by decide) (Nat.le_of_ble_eq_true rfl) ?_
  intro p e s m below meth c A ls X hr hlk hK hP hD hS hA hZ hl
  have hx := X.1
  have hb := X.2.1
  have hl : lv_has ls 8 [(0, .ref aP), (1, .int x1), (2, .int x2), (3, .int x3)] := hl
  have J23 : ∀ (v1 : Int32) (v2 : Int32) (v3 : Int32) (v4 : Int32) (py : Int32) (po : Int32) (cb : Nat → Int32) (ga : Int32) (gb : Int32) (gd : Int32) (gc : Int32) (gx : Int32) (gy : Int32) (gu : Int32) (gs : Int32) (gp : Int32), tc_P_operate_j23 v1 v2 v3 v4 py po cb ga gb gd gc gx gy gu gs gp = some z → ∀ (H : Heap) (locs : List Loc) (ls : Array Slot), lv_has ls 8 [(0, .ref aP), (1, .int v1), (2, .int v2), (3, .int v3), (4, .int v4)] → va_P D cz_all (cp_ aY aB aG aP aC cI cT py po cb ga gb gd gc gx gy gu gs gp) H → va_D A (cp_ aY aB aG aP aC cI cT py po cb ga gb gd gc gx gy gu gs gp) → va_S A s.heap H locs → W p l e rm_c_P_operate s m ([.ref aP, .int x1, .int x2, .int x3] : List Value).toArray below meth c H locs 0 0 (MQ below (qs_v D (ty_ cI cT) (cp_ aY aB aG aP aC cI cT z.1 z.2.1 z.2.2.1 z.2.2.2.1 z.2.2.2.2.1 z.2.2.2.2.2.1 z.2.2.2.2.2.2.1 z.2.2.2.2.2.2.2.1 z.2.2.2.2.2.2.2.2.1 z.2.2.2.2.2.2.2.2.2.1 z.2.2.2.2.2.2.2.2.2.2.1 z.2.2.2.2.2.2.2.2.2.2.2) A) ([.ref aP, .int x1, .int x2, .int x3] : List Value).toArray s 0 0 A) (F0 m 23 ls []) := by
    intro v1 v2 v3 v4 py po cb ga gb gd gc gx gy gu gs gp hf H locs ls hl hP hD hS
    unfold tc_P_operate_j23 at hf
    refine lv_aload_n hx hb d_P_operate_23 rfl (lv_at hl 0 rfl) ?_
    refine lv_iload_n hx hb d_P_operate_24 rfl (lv_at hl 3 rfl) ?_
    refine lv_iload hx hb d_P_operate_25 (lv_at hl 4 rfl) ?_
    obtain ⟨z10, hz10, hf⟩ := op_b hf
    refine cf_i (ws2 := (cp_ aY aB aG aP aC cI cT z10.2.1 z10.2.2.1 cb z10.2.2.2.1 z10.2.2.2.2.1 z10.2.2.2.2.2.1 z10.2.2.2.2.2.2.1 z10.2.2.2.2.2.2.2.1 z10.2.2.2.2.2.2.2.2.1 z10.2.2.2.2.2.2.2.2.2.1 z10.2.2.2.2.2.2.2.2.2.2.1 z10.2.2.2.2.2.2.2.2.2.2.2)) X cx_P_97 hK hP hD hS hA hZ hl (c_tc_P_operandAddress (aY := aY) (aB := aB) (aG := aG) (aP := aP) (aC := aC) (py := py) (po := po) (cb := cb) (ga := ga) (gb := gb) (gd := gd) (gc := gc) (gx := gx) (gy := gy) (gu := gu) (gs := gs) (gp := gp) hz10) ⟨rfl, rfl, Nat.le_of_ble_eq_true rfl, Nat.le_of_ble_eq_true rfl⟩ [0, 1, 2, 3, 4] [] [0, 1, 2, 3, 4] rfl rfl rfl rfl (by decide) rfl rfl 0 rfl rfl rfl rfl rfl (Nat.le_of_ble_eq_true rfl) d_P_operate_27 (fun H locs hP hD hS => ?_)
    refine lv_istore hx hb d_P_operate_30 hl (by decide) rfl (fun ls hl => ?_)
    have hl : lv_has ls 8 [(5, .int z10.1), (0, .ref aP), (1, .int v1), (2, .int v2), (3, .int v3), (4, .int v4)] := hl
    refine lv_aload_n hx hb d_P_operate_32 rfl (lv_at hl 1 rfl) ?_
    refine cp_g_P_outcome_P X hK hP d_P_operate_33 ?_
    refine lv_bipush (v := (-2 : Int32)) hx hb d_P_operate_36 (by decide) ?_
    refine lv_icmp_ne (tgt := 42) hx hb d_P_operate_38 (by decide) (fun hc => ?_) (fun hc => ?_)
    · replace hf := (if_neg hc).symm.trans hf
      refine lv_iload_n hx hb d_P_operate_42 rfl (lv_at hl 2 rfl) ?_
      refine lv_bipush (v := (7 : Int32)) hx hb d_P_operate_43 (by decide) ?_
      refine lv_icmp_ne (tgt := 74) hx hb d_P_operate_45 (by decide) (fun hc => ?_) (fun hc => ?_)
      · replace hf := (if_neg hc).symm.trans hf
        refine lv_aload_n hx hb d_P_operate_74 rfl (lv_at hl 1 rfl) ?_
        refine lv_iload hx hb d_P_operate_75 (lv_at hl 0 rfl) ?_
        refine lv_iload hx hb d_P_operate_77 (lv_at hl 5 rfl) ?_
        obtain ⟨z11, hz11, hf⟩ := op_b hf
        refine cf_i (ws2 := (cp_ aY aB aG aP aC cI cT z11.2 z10.2.2.1 cb z10.2.2.2.1 z10.2.2.2.2.1 z10.2.2.2.2.2.1 z10.2.2.2.2.2.2.1 z10.2.2.2.2.2.2.2.1 z10.2.2.2.2.2.2.2.2.1 z10.2.2.2.2.2.2.2.2.2.1 z10.2.2.2.2.2.2.2.2.2.2.1 z10.2.2.2.2.2.2.2.2.2.2.2)) X cx_P_107 hK hP hD hS hA hZ hl (c_tc_P_load (aY := aY) (aB := aB) (aG := aG) (aP := aP) (aC := aC) (py := z10.2.1) (po := z10.2.2.1) (cb := cb) (ga := z10.2.2.2.1) (gb := z10.2.2.2.2.1) (gd := z10.2.2.2.2.2.1) (gc := z10.2.2.2.2.2.2.1) (gx := z10.2.2.2.2.2.2.2.1) (gy := z10.2.2.2.2.2.2.2.2.1) (gu := z10.2.2.2.2.2.2.2.2.2.1) (gs := z10.2.2.2.2.2.2.2.2.2.2.1) (gp := z10.2.2.2.2.2.2.2.2.2.2.2) hz11) ⟨rfl, rfl, Nat.le_of_ble_eq_true rfl, Nat.le_of_ble_eq_true rfl⟩ [0, 1, 2, 3, 4] [] [0, 1, 2, 3, 4] rfl rfl rfl rfl (by decide) rfl rfl 0 rfl rfl rfl rfl rfl (Nat.le_of_ble_eq_true rfl) d_P_operate_79 (fun H locs hP hD hS => ?_)
        refine lv_istore hx hb d_P_operate_82 hl (by decide) rfl (fun ls hl => ?_)
        have hl : lv_has ls 8 [(6, .int z11.1), (5, .int z10.1), (0, .ref aP), (1, .int v1), (2, .int v2), (3, .int v3), (4, .int v4)] := hl
        refine lv_aload_n hx hb d_P_operate_84 rfl (lv_at hl 2 rfl) ?_
        refine lv_iload_n hx hb d_P_operate_85 rfl (lv_at hl 3 rfl) ?_
        refine lv_aload_n hx hb d_P_operate_86 rfl (lv_at hl 2 rfl) ?_
        refine cp_g_P_registers_P X hK hP d_P_operate_87 ?_
        refine lv_iload_n hx hb d_P_operate_90 rfl (lv_at hl 4 rfl) ?_
        obtain ⟨z12, hz12, hf⟩ := op_b hf
        refine cf_i (ws2 := (cp_ aY aB aG aP aC cI cT z11.2 z10.2.2.1 cb z10.2.2.2.1 z10.2.2.2.2.1 z10.2.2.2.2.2.1 z10.2.2.2.2.2.2.1 z10.2.2.2.2.2.2.2.1 z10.2.2.2.2.2.2.2.2.1 z10.2.2.2.2.2.2.2.2.2.1 z10.2.2.2.2.2.2.2.2.2.2.1 z10.2.2.2.2.2.2.2.2.2.2.2)) X cx_P_100 hK hP hD hS hA hZ hl (c_tc_G_get (aG := aG) (ga := z10.2.2.2.1) (gb := z10.2.2.2.2.1) (gd := z10.2.2.2.2.2.1) (gc := z10.2.2.2.2.2.2.1) (gx := z10.2.2.2.2.2.2.2.1) (gy := z10.2.2.2.2.2.2.2.2.1) (gu := z10.2.2.2.2.2.2.2.2.2.1) (gs := z10.2.2.2.2.2.2.2.2.2.2.1) (gp := z10.2.2.2.2.2.2.2.2.2.2.2) hz12) ⟨rfl, rfl, Nat.le_of_ble_eq_true rfl, Nat.le_of_ble_eq_true rfl⟩ [3] [0, 1, 2, 4] [0, 1, 2, 4, 3] rfl rfl rfl rfl (by decide) rfl rfl 0 rfl rfl rfl rfl rfl (Nat.le_of_ble_eq_true rfl) d_P_operate_91 (fun H locs hP hD hS => ?_)
        refine lv_iload hx hb d_P_operate_94 (lv_at hl 0 rfl) ?_
        refine lv_iload hx hb d_P_operate_96 (lv_at hl 6 rfl) ?_
        obtain ⟨z13, hz13, hf⟩ := op_b hf
        refine cf_i (ws2 := (cp_ aY aB aG aP aC cI cT z11.2 z10.2.2.1 cb z10.2.2.2.1 z10.2.2.2.2.1 z10.2.2.2.2.2.1 z13.2 z10.2.2.2.2.2.2.2.1 z10.2.2.2.2.2.2.2.2.1 z10.2.2.2.2.2.2.2.2.2.1 z10.2.2.2.2.2.2.2.2.2.2.1 z10.2.2.2.2.2.2.2.2.2.2.2)) X cx_P_108 hK hP hD hS hA hZ hl (c_tc_P_calculate (aY := aY) (aB := aB) (aG := aG) (aP := aP) (aC := aC) (py := z11.2) (po := z10.2.2.1) (cb := cb) (ga := z10.2.2.2.1) (gb := z10.2.2.2.2.1) (gd := z10.2.2.2.2.2.1) (gc := z10.2.2.2.2.2.2.1) (gx := z10.2.2.2.2.2.2.2.1) (gy := z10.2.2.2.2.2.2.2.2.1) (gu := z10.2.2.2.2.2.2.2.2.2.1) (gs := z10.2.2.2.2.2.2.2.2.2.2.1) (gp := z10.2.2.2.2.2.2.2.2.2.2.2) hz13) ⟨rfl, rfl, Nat.le_of_ble_eq_true rfl, Nat.le_of_ble_eq_true rfl⟩ [0, 1, 2, 3, 4] [] [0, 1, 2, 3, 4] rfl rfl rfl rfl (by decide) rfl rfl 0 rfl rfl rfl rfl rfl (Nat.le_of_ble_eq_true rfl) d_P_operate_98 (fun H locs hP hD hS => ?_)
        refine lv_istore hx hb d_P_operate_101 hl (by decide) rfl (fun ls hl => ?_)
        have hl : lv_has ls 8 [(7, .int z13.1), (6, .int z11.1), (5, .int z10.1), (0, .ref aP), (1, .int v1), (2, .int v2), (3, .int v3), (4, .int v4)] := hl
        refine lv_iload_n hx hb d_P_operate_103 rfl (lv_at hl 4 rfl) ?_
        refine lv_iconst (v := (1 : Int32)) hx hb d_P_operate_104 (by decide) ?_
        refine lv_icmp_eq (tgt := 123) hx hb d_P_operate_105 (by decide) (fun hc => ?_) (fun hc => ?_)
        · replace hf := (if_pos hc).symm.trans hf
          have hq := Option.some.inj hf
          subst hq
          exact rt_v X hr hlk hK hP hD hS d_P_operate_123
        · replace hf := (if_neg hc).symm.trans hf
          refine lv_iload_n hx hb d_P_operate_108 rfl (lv_at hl 4 rfl) ?_
          refine lv_iconst (v := (5 : Int32)) hx hb d_P_operate_109 (by decide) ?_
          refine lv_icmp_eq (tgt := 123) hx hb d_P_operate_110 (by decide) (fun hc => ?_) (fun hc => ?_)
          · replace hf := (if_pos hc).symm.trans hf
            have hq := Option.some.inj hf
            subst hq
            exact rt_v X hr hlk hK hP hD hS d_P_operate_123
          · replace hf := (if_neg hc).symm.trans hf
            refine lv_aload_n hx hb d_P_operate_113 rfl (lv_at hl 3 rfl) ?_
            refine cp_g_P_registers_P X hK hP d_P_operate_114 ?_
            refine lv_iload_n hx hb d_P_operate_117 rfl (lv_at hl 5 rfl) ?_
            refine lv_iload hx hb d_P_operate_118 (lv_at hl 0 rfl) ?_
            obtain ⟨z14, hz14, hf⟩ := op_b hf
            refine cf_v (ws2 := (cp_ aY aB aG aP aC cI cT z11.2 z10.2.2.1 cb z14.1 z14.2.1 z14.2.2.1 z14.2.2.2.1 z14.2.2.2.2.1 z14.2.2.2.2.2.1 z14.2.2.2.2.2.2.1 z14.2.2.2.2.2.2.2.1 z14.2.2.2.2.2.2.2.2)) X cx_P_112 hK hP hD hS hA hZ hl (c_tc_G_set (aG := aG) (ga := z10.2.2.2.1) (gb := z10.2.2.2.2.1) (gd := z10.2.2.2.2.2.1) (gc := z13.2) (gx := z10.2.2.2.2.2.2.2.1) (gy := z10.2.2.2.2.2.2.2.2.1) (gu := z10.2.2.2.2.2.2.2.2.2.1) (gs := z10.2.2.2.2.2.2.2.2.2.2.1) (gp := z10.2.2.2.2.2.2.2.2.2.2.2) hz14) ⟨rfl, rfl, Nat.le_of_ble_eq_true rfl, Nat.le_of_ble_eq_true rfl⟩ [3] [0, 1, 2, 4] [0, 1, 2, 4, 3] rfl rfl rfl rfl (by decide) rfl rfl 0 rfl rfl rfl rfl rfl (Nat.le_of_ble_eq_true rfl) d_P_operate_120 (fun H locs hP hD hS => ?_)
            have hq := Option.some.inj hf
            subst hq
            exact rt_v X hr hlk hK hP hD hS d_P_operate_123
      · replace hf := (if_pos hc).symm.trans hf
        refine lv_aload_n hx hb d_P_operate_48 rfl (lv_at hl 1 rfl) ?_
        refine lv_iload hx hb d_P_operate_49 (lv_at hl 0 rfl) ?_
        refine lv_aload_n hx hb d_P_operate_51 rfl (lv_at hl 1 rfl) ?_
        refine cp_g_P_calculator_P X hK hP d_P_operate_52 ?_
        refine lv_aload_n hx hb d_P_operate_55 rfl (lv_at hl 1 rfl) ?_
        refine cp_g_P_registers_P X hK hP d_P_operate_56 ?_
        refine lv_iload_n hx hb d_P_operate_59 rfl (lv_at hl 3 rfl) ?_
        obtain ⟨z15, hz15, hf⟩ := op_b hf
        refine cf_i (ws2 := (cp_ aY aB aG aP aC cI cT z10.2.1 z10.2.2.1 cb z10.2.2.2.1 z10.2.2.2.2.1 z10.2.2.2.2.2.1 z10.2.2.2.2.2.2.1 z10.2.2.2.2.2.2.2.1 z10.2.2.2.2.2.2.2.2.1 z10.2.2.2.2.2.2.2.2.2.1 z10.2.2.2.2.2.2.2.2.2.2.1 z10.2.2.2.2.2.2.2.2.2.2.2)) X cx_P_100 hK hP hD hS hA hZ hl (c_tc_G_get (aG := aG) (ga := z10.2.2.2.1) (gb := z10.2.2.2.2.1) (gd := z10.2.2.2.2.2.1) (gc := z10.2.2.2.2.2.2.1) (gx := z10.2.2.2.2.2.2.2.1) (gy := z10.2.2.2.2.2.2.2.2.1) (gu := z10.2.2.2.2.2.2.2.2.2.1) (gs := z10.2.2.2.2.2.2.2.2.2.2.1) (gp := z10.2.2.2.2.2.2.2.2.2.2.2) hz15) ⟨rfl, rfl, Nat.le_of_ble_eq_true rfl, Nat.le_of_ble_eq_true rfl⟩ [3] [0, 1, 2, 4] [0, 1, 2, 4, 3] rfl rfl rfl rfl (by decide) rfl rfl 0 rfl rfl rfl rfl rfl (Nat.le_of_ble_eq_true rfl) d_P_operate_60 (fun H locs hP hD hS => ?_)
        refine lv_iload hx hb d_P_operate_63 (lv_at hl 5 rfl) ?_
        obtain ⟨z16, hz16, hf⟩ := op_b hf
        refine cf_i (ws2 := (cp_ aY aB aG aP aC cI cT z10.2.1 z10.2.2.1 cb z10.2.2.2.1 z10.2.2.2.2.1 z10.2.2.2.2.2.1 z16.2 z10.2.2.2.2.2.2.2.1 z10.2.2.2.2.2.2.2.2.1 z10.2.2.2.2.2.2.2.2.2.1 z10.2.2.2.2.2.2.2.2.2.2.1 z10.2.2.2.2.2.2.2.2.2.2.2)) X cx_P_103 hK hP hD hS hA hZ hl (c_tc_C_plain (aG := aG) (aC := aC) (ga := z10.2.2.2.1) (gb := z10.2.2.2.2.1) (gd := z10.2.2.2.2.2.1) (gc := z10.2.2.2.2.2.2.1) (gx := z10.2.2.2.2.2.2.2.1) (gy := z10.2.2.2.2.2.2.2.2.1) (gu := z10.2.2.2.2.2.2.2.2.2.1) (gs := z10.2.2.2.2.2.2.2.2.2.2.1) (gp := z10.2.2.2.2.2.2.2.2.2.2.2) hz16) ⟨rfl, rfl, Nat.le_of_ble_eq_true rfl, Nat.le_of_ble_eq_true rfl⟩ [4, 3] [0, 1, 2] [0, 1, 2, 4, 3] rfl rfl rfl rfl (by decide) rfl rfl 0 rfl rfl rfl rfl rfl (Nat.le_of_ble_eq_true rfl) d_P_operate_65 (fun H locs hP hD hS => ?_)
        refine lv_iload hx hb d_P_operate_68 (lv_at hl 5 rfl) ?_
        obtain ⟨z17, hz17, hf⟩ := op_b hf
        refine cf_v (ws2 := (cp_ aY aB aG aP aC cI cT z17.1 z10.2.2.1 z17.2 z10.2.2.2.1 z10.2.2.2.2.1 z10.2.2.2.2.2.1 z16.2 z10.2.2.2.2.2.2.2.1 z10.2.2.2.2.2.2.2.2.1 z10.2.2.2.2.2.2.2.2.2.1 z10.2.2.2.2.2.2.2.2.2.2.1 z10.2.2.2.2.2.2.2.2.2.2.2)) X cx_P_106 hK hP hD hS hA hZ hl (c_tc_P_store (aY := aY) (aB := aB) (aG := aG) (aP := aP) (aC := aC) (py := z10.2.1) (po := z10.2.2.1) (cb := cb) (ga := z10.2.2.2.1) (gb := z10.2.2.2.2.1) (gd := z10.2.2.2.2.2.1) (gc := z16.2) (gx := z10.2.2.2.2.2.2.2.1) (gy := z10.2.2.2.2.2.2.2.2.1) (gu := z10.2.2.2.2.2.2.2.2.2.1) (gs := z10.2.2.2.2.2.2.2.2.2.2.1) (gp := z10.2.2.2.2.2.2.2.2.2.2.2) hz17) ⟨rfl, rfl, Nat.le_of_ble_eq_true rfl, Nat.le_of_ble_eq_true rfl⟩ [0, 1, 2, 3, 4] [] [0, 1, 2, 3, 4] rfl rfl rfl rfl (by decide) rfl rfl 0 rfl rfl rfl rfl rfl (Nat.le_of_ble_eq_true rfl) d_P_operate_70 (fun H locs hP hD hS => ?_)
        have hq := Option.some.inj hf
        subst hq
        exact rt_v X hr hlk hK hP hD hS d_P_operate_73
    · replace hf := (if_pos hc).symm.trans hf
      have hq := Option.some.inj hf
      subst hq
      exact rt_v X hr hlk hK hP hD hS d_P_operate_41
  unfold tc_P_operate at hf
  refine lv_iload_n hx hb d_P_operate_0 rfl (lv_at hl 2 rfl) ?_
  obtain ⟨z18, hz18, hf⟩ := op_b hf
  refine cf_si X cx_P_94 hK hP hD hS hA hZ hl (c_tc_G_sizeOf (w := (cp_ aY aB aG aP aC cI cT py po cb ga gb gd gc gx gy gu gs gp)) hz18) ⟨rfl, rfl, Nat.le_of_ble_eq_true rfl, Nat.le_of_ble_eq_true rfl⟩ rfl rfl (Nat.le_of_ble_eq_true rfl) d_P_operate_1 (fun H locs hP hD hS => ?_)
  refine lv_istore hx hb d_P_operate_4 hl (by decide) rfl (fun ls hl => ?_)
  have hl : lv_has ls 8 [(4, .int z18), (0, .ref aP), (1, .int x1), (2, .int x2), (3, .int x3)] := hl
  refine lv_iload_n hx hb d_P_operate_6 rfl (lv_at hl 2 rfl) ?_
  refine lv_bipush (v := (7 : Int32)) hx hb d_P_operate_7 (by decide) ?_
  refine lv_icmp_ne (tgt := 23) hx hb d_P_operate_9 (by decide) (fun hc => ?_) (fun hc => ?_)
  · replace hf := (if_neg hc).symm.trans hf
    exact J23 x1 x2 x3 z18 py po cb ga gb gd gc gx gy gu gs gp hf _ _ _ (lv_sub hl [1, 2, 3, 4, 0] rfl) hP hD hS
  · replace hf := (if_pos hc).symm.trans hf
    refine lv_iload_n hx hb d_P_operate_12 rfl (lv_at hl 4 rfl) ?_
    refine lv_if_ne (tgt := 23) hx hb d_P_operate_13 (by decide) (fun hc => ?_) (fun hc => ?_)
    · replace hf := (if_neg hc).symm.trans hf
      exact J23 x1 x2 x3 z18 py po cb ga gb gd gc gx gy gu gs gp hf _ _ _ (lv_sub hl [1, 2, 3, 4, 0] rfl) hP hD hS
    · replace hf := (if_pos hc).symm.trans hf
      refine lv_aload_n hx hb d_P_operate_16 rfl (lv_at hl 1 rfl) ?_
      refine lv_bipush (v := (-2 : Int32)) hx hb d_P_operate_17 (by decide) ?_
      refine cp_p_P_outcome_P (x := (-2 : Int32)) X hK hP hD hS d_P_operate_19 (fun H locs hP hD hS => ?_)
      have hq := Option.some.inj hf
      subst hq
      exact rt_v X hr hlk hK hP hD hS d_P_operate_22
set_option maxHeartbeats 4000000 in
set_option maxRecDepth 100000 in
theorem c_tc_P_doSecondPage {x1 : Int32} {z : Int32 × Int32 × (Nat → Int32) × Int32 × Int32 × Int32 × Int32 × Int32 × Int32 × Int32 × Int32 × Int32} (hf : tc_P_doSecondPage x1 py po cb ga gb gd gc gx gy gu gs gp = some z) : cs_v l my_P_doSecondPage mb_P_doSecondPage 5 rm_c_P_doSecondPage D (ty_ cI cT) [.ref aP, .int x1] (cp_ aY aB aG aP aC cI cT py po cb ga gb gd gc gx gy gu gs gp) (cp_ aY aB aG aP aC cI cT z.1 z.2.1 z.2.2.1 z.2.2.2.1 z.2.2.2.2.1 z.2.2.2.2.2.1 z.2.2.2.2.2.2.1 z.2.2.2.2.2.2.2.1 z.2.2.2.2.2.2.2.2.1 z.2.2.2.2.2.2.2.2.2.1 z.2.2.2.2.2.2.2.2.2.2.1 z.2.2.2.2.2.2.2.2.2.2.2) := by
  refine cs_v_of (by decide) (Nat.le_of_ble_eq_true rfl) ?_
  intro p e s m below meth c A ls X hr hlk hK hP hD hS hA hZ hl
  have hx := X.1
  have hb := X.2.1
  have hl : lv_has ls 5 [(0, .ref aP), (1, .int x1)] := hl
  have J147 : ∀ (v2 : Int32) (s0 : Int32) (py : Int32) (po : Int32) (cb : Nat → Int32) (ga : Int32) (gb : Int32) (gd : Int32) (gc : Int32) (gx : Int32) (gy : Int32) (gu : Int32) (gs : Int32) (gp : Int32), tc_P_doSecondPage_j147 v2 s0 py po cb ga gb gd gc gx gy gu gs gp = some z → ∀ (H : Heap) (locs : List Loc) (ls : Array Slot), lv_has ls 5 [(2, .int v2)] → va_P D cz_all (cp_ aY aB aG aP aC cI cT py po cb ga gb gd gc gx gy gu gs gp) H → va_D A (cp_ aY aB aG aP aC cI cT py po cb ga gb gd gc gx gy gu gs gp) → va_S A s.heap H locs → W p l e rm_c_P_doSecondPage s m ([.ref aP, .int x1] : List Value).toArray below meth c H locs 0 0 (MQ below (qs_v D (ty_ cI cT) (cp_ aY aB aG aP aC cI cT z.1 z.2.1 z.2.2.1 z.2.2.2.1 z.2.2.2.2.1 z.2.2.2.2.2.1 z.2.2.2.2.2.2.1 z.2.2.2.2.2.2.2.1 z.2.2.2.2.2.2.2.2.1 z.2.2.2.2.2.2.2.2.2.1 z.2.2.2.2.2.2.2.2.2.2.1 z.2.2.2.2.2.2.2.2.2.2.2) A) ([.ref aP, .int x1] : List Value).toArray s 0 0 A) (F0 m 147 ls [.int s0, .int (7 : Int32), .ref aP]) := by
    intro v2 s0 py po cb ga gb gd gc gx gy gu gs gp hf H locs ls hl hP hD hS
    unfold tc_P_doSecondPage_j147 at hf
    refine lv_iload_n hx hb d_P_doSecondPage_147 rfl (lv_at hl 0 rfl) ?_
    obtain ⟨z7, hz7, hf⟩ := op_b hf
    refine cf_v (ws2 := (cp_ aY aB aG aP aC cI cT z7.1 z7.2.1 z7.2.2.1 z7.2.2.2.1 z7.2.2.2.2.1 z7.2.2.2.2.2.1 z7.2.2.2.2.2.2.1 z7.2.2.2.2.2.2.2.1 z7.2.2.2.2.2.2.2.2.1 z7.2.2.2.2.2.2.2.2.2.1 z7.2.2.2.2.2.2.2.2.2.2.1 z7.2.2.2.2.2.2.2.2.2.2.2)) X cx_P_88 hK hP hD hS hA hZ hl (c_tc_P_operate (aY := aY) (aB := aB) (aG := aG) (aP := aP) (aC := aC) (py := py) (po := po) (cb := cb) (ga := ga) (gb := gb) (gd := gd) (gc := gc) (gx := gx) (gy := gy) (gu := gu) (gs := gs) (gp := gp) hz7) ⟨rfl, rfl, Nat.le_of_ble_eq_true rfl, Nat.le_of_ble_eq_true rfl⟩ [0, 1, 2, 3, 4] [] [0, 1, 2, 3, 4] rfl rfl rfl rfl (by decide) rfl rfl 0 rfl rfl rfl rfl rfl (Nat.le_of_ble_eq_true rfl) d_P_doSecondPage_148 (fun H locs hP hD hS => ?_)
    refine lv_goto (tgt := 160) hx hb d_P_doSecondPage_151 (by decide) ?_
    have hq := Option.some.inj hf
    subst hq
    exact rt_v X hr hlk hK hP hD hS d_P_doSecondPage_160
  have J128 : ∀ (v2 : Int32) (s0 : Int32) (py : Int32) (po : Int32) (cb : Nat → Int32) (ga : Int32) (gb : Int32) (gd : Int32) (gc : Int32) (gx : Int32) (gy : Int32) (gu : Int32) (gs : Int32) (gp : Int32), tc_P_doSecondPage_j128 v2 s0 py po cb ga gb gd gc gx gy gu gs gp = some z → ∀ (H : Heap) (locs : List Loc) (ls : Array Slot), lv_has ls 5 [(2, .int v2)] → va_P D cz_all (cp_ aY aB aG aP aC cI cT py po cb ga gb gd gc gx gy gu gs gp) H → va_D A (cp_ aY aB aG aP aC cI cT py po cb ga gb gd gc gx gy gu gs gp) → va_S A s.heap H locs → W p l e rm_c_P_doSecondPage s m ([.ref aP, .int x1] : List Value).toArray below meth c H locs 0 0 (MQ below (qs_v D (ty_ cI cT) (cp_ aY aB aG aP aC cI cT z.1 z.2.1 z.2.2.1 z.2.2.2.1 z.2.2.2.2.1 z.2.2.2.2.2.1 z.2.2.2.2.2.2.1 z.2.2.2.2.2.2.2.1 z.2.2.2.2.2.2.2.2.1 z.2.2.2.2.2.2.2.2.2.1 z.2.2.2.2.2.2.2.2.2.2.1 z.2.2.2.2.2.2.2.2.2.2.2) A) ([.ref aP, .int x1] : List Value).toArray s 0 0 A) (F0 m 128 ls [.int s0, .int (6 : Int32), .ref aP]) := by
    intro v2 s0 py po cb ga gb gd gc gx gy gu gs gp hf H locs ls hl hP hD hS
    unfold tc_P_doSecondPage_j128 at hf
    refine lv_iload_n hx hb d_P_doSecondPage_128 rfl (lv_at hl 0 rfl) ?_
    obtain ⟨z8, hz8, hf⟩ := op_b hf
    refine cf_v (ws2 := (cp_ aY aB aG aP aC cI cT z8.1 z8.2.1 z8.2.2.1 z8.2.2.2.1 z8.2.2.2.2.1 z8.2.2.2.2.2.1 z8.2.2.2.2.2.2.1 z8.2.2.2.2.2.2.2.1 z8.2.2.2.2.2.2.2.2.1 z8.2.2.2.2.2.2.2.2.2.1 z8.2.2.2.2.2.2.2.2.2.2.1 z8.2.2.2.2.2.2.2.2.2.2.2)) X cx_P_88 hK hP hD hS hA hZ hl (c_tc_P_operate (aY := aY) (aB := aB) (aG := aG) (aP := aP) (aC := aC) (py := py) (po := po) (cb := cb) (ga := ga) (gb := gb) (gd := gd) (gc := gc) (gx := gx) (gy := gy) (gu := gu) (gs := gs) (gp := gp) hz8) ⟨rfl, rfl, Nat.le_of_ble_eq_true rfl, Nat.le_of_ble_eq_true rfl⟩ [0, 1, 2, 3, 4] [] [0, 1, 2, 3, 4] rfl rfl rfl rfl (by decide) rfl rfl 0 rfl rfl rfl rfl rfl (Nat.le_of_ble_eq_true rfl) d_P_doSecondPage_129 (fun H locs hP hD hS => ?_)
    refine lv_goto (tgt := 160) hx hb d_P_doSecondPage_132 (by decide) ?_
    have hq := Option.some.inj hf
    subst hq
    exact rt_v X hr hlk hK hP hD hS d_P_doSecondPage_160
  have J50 : ∀ (v2 : Int32) (v3 : Bool) (v4 : Int32) (py : Int32) (po : Int32) (cb : Nat → Int32) (ga : Int32) (gb : Int32) (gd : Int32) (gc : Int32) (gx : Int32) (gy : Int32) (gu : Int32) (gs : Int32) (gp : Int32), tc_P_doSecondPage_j50 v2 v3 v4 py po cb ga gb gd gc gx gy gu gs gp = some z → ∀ (H : Heap) (locs : List Loc) (ls : Array Slot), lv_has ls 5 [(0, .ref aP), (2, .int v2), (3, .int (bz_i v3)), (4, .int v4)] → va_P D cz_all (cp_ aY aB aG aP aC cI cT py po cb ga gb gd gc gx gy gu gs gp) H → va_D A (cp_ aY aB aG aP aC cI cT py po cb ga gb gd gc gx gy gu gs gp) → va_S A s.heap H locs → W p l e rm_c_P_doSecondPage s m ([.ref aP, .int x1] : List Value).toArray below meth c H locs 0 0 (MQ below (qs_v D (ty_ cI cT) (cp_ aY aB aG aP aC cI cT z.1 z.2.1 z.2.2.1 z.2.2.2.1 z.2.2.2.2.1 z.2.2.2.2.2.1 z.2.2.2.2.2.2.1 z.2.2.2.2.2.2.2.1 z.2.2.2.2.2.2.2.2.1 z.2.2.2.2.2.2.2.2.2.1 z.2.2.2.2.2.2.2.2.2.2.1 z.2.2.2.2.2.2.2.2.2.2.2) A) ([.ref aP, .int x1] : List Value).toArray s 0 0 A) (F0 m 50 ls []) := by
    intro v2 v3 v4 py po cb ga gb gd gc gx gy gu gs gp hf H locs ls hl hP hD hS
    unfold tc_P_doSecondPage_j50 at hf
    refine lv_iload hx hb d_P_doSecondPage_50 (lv_at hl 3 rfl) ?_
    by_cases hk9 : v4 = (3 : Int32)
    · replace hf := (if_pos hk9).symm.trans hf
      refine lv_lookup (tgt := 96) (off := 44) hx hb d_P_doSecondPage_52 (by decide) (by rw [hk9]; rfl) (by decide) ?_
      refine lv_aload_n hx hb d_P_doSecondPage_96 rfl (lv_at hl 0 rfl) ?_
      refine lv_iconst (v := (1 : Int32)) hx hb d_P_doSecondPage_97 (by decide) ?_
      refine lv_iconst (v := (0 : Int32)) hx hb d_P_doSecondPage_98 (by decide) ?_
      refine lv_iload_n hx hb d_P_doSecondPage_99 rfl (lv_at hl 1 rfl) ?_
      obtain ⟨z10, hz10, hf⟩ := op_b hf
      refine cf_v (ws2 := (cp_ aY aB aG aP aC cI cT z10.1 z10.2.1 z10.2.2.1 z10.2.2.2.1 z10.2.2.2.2.1 z10.2.2.2.2.2.1 z10.2.2.2.2.2.2.1 z10.2.2.2.2.2.2.2.1 z10.2.2.2.2.2.2.2.2.1 z10.2.2.2.2.2.2.2.2.2.1 z10.2.2.2.2.2.2.2.2.2.2.1 z10.2.2.2.2.2.2.2.2.2.2.2)) X cx_P_88 hK hP hD hS hA hZ hl (c_tc_P_operate (aY := aY) (aB := aB) (aG := aG) (aP := aP) (aC := aC) (py := py) (po := po) (cb := cb) (ga := ga) (gb := gb) (gd := gd) (gc := gc) (gx := gx) (gy := gy) (gu := gu) (gs := gs) (gp := gp) hz10) ⟨rfl, rfl, Nat.le_of_ble_eq_true rfl, Nat.le_of_ble_eq_true rfl⟩ [0, 1, 2, 3, 4] [] [0, 1, 2, 3, 4] rfl rfl rfl rfl (by decide) rfl rfl 0 rfl rfl rfl rfl rfl (Nat.le_of_ble_eq_true rfl) d_P_doSecondPage_100 (fun H locs hP hD hS => ?_)
      refine lv_goto (tgt := 160) hx hb d_P_doSecondPage_103 (by decide) ?_
      have hq := Option.some.inj hf
      subst hq
      exact rt_v X hr hlk hK hP hD hS d_P_doSecondPage_160
    · replace hf := (if_neg hk9).symm.trans hf
      by_cases hk11 : v4 = (12 : Int32)
      · replace hf := (if_pos hk11).symm.trans hf
        refine lv_lookup (tgt := 106) (off := 54) hx hb d_P_doSecondPage_52 (by decide) (by rw [hk11]; rfl) (by decide) ?_
        refine lv_aload_n hx hb d_P_doSecondPage_106 rfl (lv_at hl 0 rfl) ?_
        refine lv_iconst (v := (1 : Int32)) hx hb d_P_doSecondPage_107 (by decide) ?_
        refine lv_iconst (v := (2 : Int32)) hx hb d_P_doSecondPage_108 (by decide) ?_
        refine lv_iload_n hx hb d_P_doSecondPage_109 rfl (lv_at hl 1 rfl) ?_
        obtain ⟨z12, hz12, hf⟩ := op_b hf
        refine cf_v (ws2 := (cp_ aY aB aG aP aC cI cT z12.1 z12.2.1 z12.2.2.1 z12.2.2.2.1 z12.2.2.2.2.1 z12.2.2.2.2.2.1 z12.2.2.2.2.2.2.1 z12.2.2.2.2.2.2.2.1 z12.2.2.2.2.2.2.2.2.1 z12.2.2.2.2.2.2.2.2.2.1 z12.2.2.2.2.2.2.2.2.2.2.1 z12.2.2.2.2.2.2.2.2.2.2.2)) X cx_P_88 hK hP hD hS hA hZ hl (c_tc_P_operate (aY := aY) (aB := aB) (aG := aG) (aP := aP) (aC := aC) (py := py) (po := po) (cb := cb) (ga := ga) (gb := gb) (gd := gd) (gc := gc) (gx := gx) (gy := gy) (gu := gu) (gs := gs) (gp := gp) hz12) ⟨rfl, rfl, Nat.le_of_ble_eq_true rfl, Nat.le_of_ble_eq_true rfl⟩ [0, 1, 2, 3, 4] [] [0, 1, 2, 3, 4] rfl rfl rfl rfl (by decide) rfl rfl 0 rfl rfl rfl rfl rfl (Nat.le_of_ble_eq_true rfl) d_P_doSecondPage_110 (fun H locs hP hD hS => ?_)
        refine lv_goto (tgt := 160) hx hb d_P_doSecondPage_113 (by decide) ?_
        have hq := Option.some.inj hf
        subst hq
        exact rt_v X hr hlk hK hP hD hS d_P_doSecondPage_160
      · replace hf := (if_neg hk11).symm.trans hf
        by_cases hk13 : v4 = (14 : Int32)
        · replace hf := (if_pos hk13).symm.trans hf
          refine lv_lookup (tgt := 116) (off := 64) hx hb d_P_doSecondPage_52 (by decide) (by rw [hk13]; rfl) (by decide) ?_
          refine lv_aload_n hx hb d_P_doSecondPage_116 rfl (lv_at hl 0 rfl) ?_
          refine lv_bipush (v := (6 : Int32)) hx hb d_P_doSecondPage_117 (by decide) ?_
          refine lv_iload_n hx hb d_P_doSecondPage_119 rfl (lv_at hl 2 rfl) ?_
          refine lv_if_eq (tgt := 127) hx hb d_P_doSecondPage_120 (by decide) (fun hc => ?_) (fun hc => ?_)
          · replace hf := (if_pos hc).symm.trans hf
            refine lv_iconst (v := (2 : Int32)) hx hb d_P_doSecondPage_127 (by decide) ?_
            exact J128 v2 (2 : Int32) py po cb ga gb gd gc gx gy gu gs gp hf _ _ _ (lv_sub hl [1] rfl) hP hD hS
          · replace hf := (if_neg hc).symm.trans hf
            refine lv_iconst (v := (4 : Int32)) hx hb d_P_doSecondPage_123 (by decide) ?_
            refine lv_goto (tgt := 128) hx hb d_P_doSecondPage_124 (by decide) ?_
            exact J128 v2 (4 : Int32) py po cb ga gb gd gc gx gy gu gs gp hf _ _ _ (lv_sub hl [1] rfl) hP hD hS
        · replace hf := (if_neg hk13).symm.trans hf
          by_cases hk14 : v4 = (15 : Int32)
          · replace hf := (if_pos hk14).symm.trans hf
            refine lv_lookup (tgt := 135) (off := 83) hx hb d_P_doSecondPage_52 (by decide) (by rw [hk14]; rfl) (by decide) ?_
            refine lv_aload_n hx hb d_P_doSecondPage_135 rfl (lv_at hl 0 rfl) ?_
            refine lv_bipush (v := (7 : Int32)) hx hb d_P_doSecondPage_136 (by decide) ?_
            refine lv_iload_n hx hb d_P_doSecondPage_138 rfl (lv_at hl 2 rfl) ?_
            refine lv_if_eq (tgt := 146) hx hb d_P_doSecondPage_139 (by decide) (fun hc => ?_) (fun hc => ?_)
            · replace hf := (if_pos hc).symm.trans hf
              refine lv_iconst (v := (2 : Int32)) hx hb d_P_doSecondPage_146 (by decide) ?_
              exact J147 v2 (2 : Int32) py po cb ga gb gd gc gx gy gu gs gp hf _ _ _ (lv_sub hl [1] rfl) hP hD hS
            · replace hf := (if_neg hc).symm.trans hf
              refine lv_iconst (v := (4 : Int32)) hx hb d_P_doSecondPage_142 (by decide) ?_
              refine lv_goto (tgt := 147) hx hb d_P_doSecondPage_143 (by decide) ?_
              exact J147 v2 (4 : Int32) py po cb ga gb gd gc gx gy gu gs gp hf _ _ _ (lv_sub hl [1] rfl) hP hD hS
          · replace hf := (if_neg hk14).symm.trans hf
            refine lv_lookup (tgt := 154) (off := 102) hx hb d_P_doSecondPage_52 (by decide) (by show Op.lookupswitch.offset [(3, 44), (12, 54), (14, 64), (15, 83)] _ _ = _; rw [lv_osw hk9 (by decide), lv_osw hk11 (by decide), lv_osw hk13 (by decide), lv_osw hk14 (by decide)]; rfl) (by decide) ?_
            refine lv_aload_n hx hb d_P_doSecondPage_154 rfl (lv_at hl 0 rfl) ?_
            refine lv_bipush (v := (-2 : Int32)) hx hb d_P_doSecondPage_155 (by decide) ?_
            refine cp_p_P_outcome_P (x := (-2 : Int32)) X hK hP hD hS d_P_doSecondPage_157 (fun H locs hP hD hS => ?_)
            have hq := Option.some.inj hf
            subst hq
            exact rt_v X hr hlk hK hP hD hS d_P_doSecondPage_160
  have J43 : ∀ (py : Int32) (po : Int32) (cb : Nat → Int32) (ga : Int32) (gb : Int32) (gd : Int32) (gc : Int32) (gx : Int32) (gy : Int32) (gu : Int32) (gs : Int32) (gp : Int32), tc_P_doSecondPage_j43 py po cb ga gb gd gc gx gy gu gs gp = some z → ∀ (H : Heap) (locs : List Loc) (ls : Array Slot), lv_has ls 5 [(0, .ref aP)] → va_P D cz_all (cp_ aY aB aG aP aC cI cT py po cb ga gb gd gc gx gy gu gs gp) H → va_D A (cp_ aY aB aG aP aC cI cT py po cb ga gb gd gc gx gy gu gs gp) → va_S A s.heap H locs → W p l e rm_c_P_doSecondPage s m ([.ref aP, .int x1] : List Value).toArray below meth c H locs 0 0 (MQ below (qs_v D (ty_ cI cT) (cp_ aY aB aG aP aC cI cT z.1 z.2.1 z.2.2.1 z.2.2.2.1 z.2.2.2.2.1 z.2.2.2.2.2.1 z.2.2.2.2.2.2.1 z.2.2.2.2.2.2.2.1 z.2.2.2.2.2.2.2.2.1 z.2.2.2.2.2.2.2.2.2.1 z.2.2.2.2.2.2.2.2.2.2.1 z.2.2.2.2.2.2.2.2.2.2.2) A) ([.ref aP, .int x1] : List Value).toArray s 0 0 A) (F0 m 43 ls []) := by
    intro py po cb ga gb gd gc gx gy gu gs gp hf H locs ls hl hP hD hS
    unfold tc_P_doSecondPage_j43 at hf
    refine lv_aload_n hx hb d_P_doSecondPage_43 rfl (lv_at hl 0 rfl) ?_
    refine lv_bipush (v := (-2 : Int32)) hx hb d_P_doSecondPage_44 (by decide) ?_
    refine cp_p_P_outcome_P (x := (-2 : Int32)) X hK hP hD hS d_P_doSecondPage_46 (fun H locs hP hD hS => ?_)
    have hq := Option.some.inj hf
    subst hq
    exact rt_v X hr hlk hK hP hD hS d_P_doSecondPage_49
  have J18 : ∀ (v1 : Int32) (v2 : Int32) (s0 : Bool) (py : Int32) (po : Int32) (cb : Nat → Int32) (ga : Int32) (gb : Int32) (gd : Int32) (gc : Int32) (gx : Int32) (gy : Int32) (gu : Int32) (gs : Int32) (gp : Int32), tc_P_doSecondPage_j18 v1 v2 s0 py po cb ga gb gd gc gx gy gu gs gp = some z → ∀ (H : Heap) (locs : List Loc) (ls : Array Slot), lv_has ls 5 [(0, .ref aP), (1, .int v1), (2, .int v2)] → va_P D cz_all (cp_ aY aB aG aP aC cI cT py po cb ga gb gd gc gx gy gu gs gp) H → va_D A (cp_ aY aB aG aP aC cI cT py po cb ga gb gd gc gx gy gu gs gp) → va_S A s.heap H locs → W p l e rm_c_P_doSecondPage s m ([.ref aP, .int x1] : List Value).toArray below meth c H locs 0 0 (MQ below (qs_v D (ty_ cI cT) (cp_ aY aB aG aP aC cI cT z.1 z.2.1 z.2.2.1 z.2.2.2.1 z.2.2.2.2.1 z.2.2.2.2.2.1 z.2.2.2.2.2.2.1 z.2.2.2.2.2.2.2.1 z.2.2.2.2.2.2.2.2.1 z.2.2.2.2.2.2.2.2.2.1 z.2.2.2.2.2.2.2.2.2.2.1 z.2.2.2.2.2.2.2.2.2.2.2) A) ([.ref aP, .int x1] : List Value).toArray s 0 0 A) (F0 m 18 ls [.int (bz_i s0)]) := by
    intro v1 v2 s0 py po cb ga gb gd gc gx gy gu gs gp hf H locs ls hl hP hD hS
    unfold tc_P_doSecondPage_j18 at hf
    refine lv_istore_n hx hb d_P_doSecondPage_18 rfl hl (by decide) rfl (fun ls hl => ?_)
    have hl : lv_has ls 5 [(3, .int (bz_i s0)), (0, .ref aP), (1, .int v1), (2, .int v2)] := hl
    refine lv_iload_n hx hb d_P_doSecondPage_19 rfl (lv_at hl 2 rfl) ?_
    refine lv_bipush (v := (15 : Int32)) hx hb d_P_doSecondPage_20 (by decide) ?_
    refine lv_iand hx hb d_P_doSecondPage_22 ?_
    refine lv_istore hx hb d_P_doSecondPage_23 hl (by decide) rfl (fun ls hl => ?_)
    have hl : lv_has ls 5 [(4, .int (v1 &&& (15 : Int32))), (3, .int (bz_i s0)), (0, .ref aP), (1, .int v1), (2, .int v2)] := hl
    refine lv_iload_n hx hb d_P_doSecondPage_25 rfl (lv_at hl 3 rfl) ?_
    refine lv_sipush (v := (128 : Int32)) hx hb d_P_doSecondPage_26 (by decide) ?_
    refine lv_icmp_lt (tgt := 43) hx hb d_P_doSecondPage_29 (by decide) (fun hc => ?_) (fun hc => ?_)
    · replace hf := (if_pos hc).symm.trans hf
      exact J43 py po cb ga gb gd gc gx gy gu gs gp hf _ _ _ (lv_sub hl [2] rfl) hP hD hS
    · replace hf := (if_neg hc).symm.trans hf
      refine lv_iload_n hx hb d_P_doSecondPage_32 rfl (lv_at hl 1 rfl) ?_
      refine lv_if_eq (tgt := 50) hx hb d_P_doSecondPage_33 (by decide) (fun hc => ?_) (fun hc => ?_)
      · replace hf := (if_pos hc).symm.trans hf
        exact J50 v2 s0 (v1 &&& (15 : Int32)) py po cb ga gb gd gc gx gy gu gs gp hf _ _ _ (lv_sub hl [2, 4, 1, 0] rfl) hP hD hS
      · replace hf := (if_neg hc).symm.trans hf
        refine lv_iload hx hb d_P_doSecondPage_36 (lv_at hl 0 rfl) ?_
        refine lv_bipush (v := (14 : Int32)) hx hb d_P_doSecondPage_38 (by decide) ?_
        refine lv_icmp_ge (tgt := 50) hx hb d_P_doSecondPage_40 (by decide) (fun hc => ?_) (fun hc => ?_)
        · replace hf := (if_pos hc).symm.trans hf
          exact J50 v2 s0 (v1 &&& (15 : Int32)) py po cb ga gb gd gc gx gy gu gs gp hf _ _ _ (lv_sub hl [2, 4, 1, 0] rfl) hP hD hS
        · replace hf := (if_neg hc).symm.trans hf
          exact J43 py po cb ga gb gd gc gx gy gu gs gp hf _ _ _ (lv_sub hl [2] rfl) hP hD hS
  unfold tc_P_doSecondPage at hf
  refine lv_iload_n hx hb d_P_doSecondPage_0 rfl (lv_at hl 1 rfl) ?_
  refine lv_iconst (v := (4 : Int32)) hx hb d_P_doSecondPage_1 (by decide) ?_
  refine lv_ishr hx hb d_P_doSecondPage_2 ?_
  refine lv_iconst (v := (3 : Int32)) hx hb d_P_doSecondPage_3 (by decide) ?_
  refine lv_iand hx hb d_P_doSecondPage_4 ?_
  refine lv_istore_n hx hb d_P_doSecondPage_5 rfl hl (by decide) rfl (fun ls hl => ?_)
  have hl : lv_has ls 5 [(2, .int ((x1 >>> ((4 : Int32) &&& 31)) &&& (3 : Int32))), (0, .ref aP), (1, .int x1)] := hl
  refine lv_iload_n hx hb d_P_doSecondPage_6 rfl (lv_at hl 2 rfl) ?_
  refine lv_sipush (v := (192 : Int32)) hx hb d_P_doSecondPage_7 (by decide) ?_
  refine lv_icmp_lt (tgt := 17) hx hb d_P_doSecondPage_10 (by decide) (fun hc => ?_) (fun hc => ?_)
  · replace hf := (if_pos hc).symm.trans hf
    refine lv_iconst (v := (0 : Int32)) hx hb d_P_doSecondPage_17 (by decide) ?_
    exact J18 x1 ((x1 >>> ((4 : Int32) &&& 31)) &&& (3 : Int32)) false py po cb ga gb gd gc gx gy gu gs gp hf _ _ _ (lv_sub hl [1, 2, 0] rfl) hP hD hS
  · replace hf := (if_neg hc).symm.trans hf
    refine lv_iconst (v := (1 : Int32)) hx hb d_P_doSecondPage_13 (by decide) ?_
    refine lv_goto (tgt := 18) hx hb d_P_doSecondPage_14 (by decide) ?_
    exact J18 x1 ((x1 >>> ((4 : Int32) &&& 31)) &&& (3 : Int32)) true py po cb ga gb gd gc gx gy gu gs gp hf _ _ _ (lv_sub hl [1, 2, 0] rfl) hP hD hS
set_option maxHeartbeats 4000000 in
set_option maxRecDepth 100000 in
theorem c_tc_G_exists {x1 : Int32} {z : Bool} (hf : tc_G_exists x1 = some z) : cs_i l my_G_exists mb_G_exists 1 .boolean rm_c_G_exists D (ty_ cI cT) [.int x1] w w (bz_i z) := by
  refine cs_i_of (by decide) (Nat.le_of_ble_eq_true rfl) ?_
  intro p e s m below meth c A ls X hr hlk hK hP hD hS hA hZ hl
  have hx := X.1
  have hb := X.2.1
  have hl : lv_has ls 1 [(0, .int x1)] := hl
  have J21 : ∀ (_ : True), tc_G_exists_j21  = some z → ∀ (H : Heap) (locs : List Loc) (ls : Array Slot), lv_has ls 1 [] → va_P D cz_all w H → va_D A w → va_S A s.heap H locs → W p l e rm_c_G_exists s m ([.int x1] : List Value).toArray below meth c H locs 0 0 (MQ below (qs_i D (ty_ cI cT) w (bz_i z) A) ([.int x1] : List Value).toArray s 0 0 A) (F0 m 21 ls []) := by
    intro _ hf H locs ls hl hP hD hS
    unfold tc_G_exists_j21 at hf
    refine lv_iconst (v := (1 : Int32)) hx hb d_G_exists_21 (by decide) ?_
    refine lv_goto (tgt := 26) hx hb d_G_exists_22 (by decide) ?_
    have hq := Option.some.inj hf
    subst hq
    exact rt_i (r := bz_i true) X hr hlk hK (bz_n _) hP hD hS d_G_exists_26
  have J9 : ∀ (v0 : Int32), tc_G_exists_j9 v0 = some z → ∀ (H : Heap) (locs : List Loc) (ls : Array Slot), lv_has ls 1 [(0, .int v0)] → va_P D cz_all w H → va_D A w → va_S A s.heap H locs → W p l e rm_c_G_exists s m ([.int x1] : List Value).toArray below meth c H locs 0 0 (MQ below (qs_i D (ty_ cI cT) w (bz_i z) A) ([.int x1] : List Value).toArray s 0 0 A) (F0 m 9 ls []) := by
    intro v0 hf H locs ls hl hP hD hS
    unfold tc_G_exists_j9 at hf
    refine lv_iload_n hx hb d_G_exists_9 rfl (lv_at hl 0 rfl) ?_
    refine lv_bipush (v := (8 : Int32)) hx hb d_G_exists_10 (by decide) ?_
    refine lv_icmp_lt (tgt := 25) hx hb d_G_exists_12 (by decide) (fun hc => ?_) (fun hc => ?_)
    · replace hf := (if_pos hc).symm.trans hf
      refine lv_iconst (v := (0 : Int32)) hx hb d_G_exists_25 (by decide) ?_
      have hq := Option.some.inj hf
      subst hq
      exact rt_i (r := bz_i false) X hr hlk hK (bz_n _) hP hD hS d_G_exists_26
    · replace hf := (if_neg hc).symm.trans hf
      refine lv_iload_n hx hb d_G_exists_15 rfl (lv_at hl 0 rfl) ?_
      refine lv_bipush (v := (11 : Int32)) hx hb d_G_exists_16 (by decide) ?_
      refine lv_icmp_gt (tgt := 25) hx hb d_G_exists_18 (by decide) (fun hc => ?_) (fun hc => ?_)
      · replace hf := (if_pos hc).symm.trans hf
        refine lv_iconst (v := (0 : Int32)) hx hb d_G_exists_25 (by decide) ?_
        have hq := Option.some.inj hf
        subst hq
        exact rt_i (r := bz_i false) X hr hlk hK (bz_n _) hP hD hS d_G_exists_26
      · replace hf := (if_neg hc).symm.trans hf
        exact J21 trivial hf _ _ _ (lv_sub hl [] rfl) hP hD hS
  unfold tc_G_exists at hf
  refine lv_iload_n hx hb d_G_exists_0 rfl (lv_at hl 0 rfl) ?_
  refine lv_if_lt (tgt := 9) hx hb d_G_exists_1 (by decide) (fun hc => ?_) (fun hc => ?_)
  · replace hf := (if_pos hc).symm.trans hf
    exact J9 x1 hf _ _ _ hl hP hD hS
  · replace hf := (if_neg hc).symm.trans hf
    refine lv_iload_n hx hb d_G_exists_4 rfl (lv_at hl 0 rfl) ?_
    refine lv_iconst (v := (5 : Int32)) hx hb d_G_exists_5 (by decide) ?_
    refine lv_icmp_le (tgt := 21) hx hb d_G_exists_6 (by decide) (fun hc => ?_) (fun hc => ?_)
    · replace hf := (if_pos hc).symm.trans hf
      exact J21 trivial hf _ _ _ (lv_sub hl [] rfl) hP hD hS
    · replace hf := (if_neg hc).symm.trans hf
      exact J9 x1 hf _ _ _ hl hP hD hS
set_option maxHeartbeats 4000000 in
set_option maxRecDepth 100000 in
theorem c_tc_P_moveRegister {x1 : Bool} {z : Int32 × Int32 × Int32 × Int32 × Int32 × Int32 × Int32 × Int32 × Int32 × Int32 × Int32} (hf : tc_P_moveRegister x1 py po cb ga gb gd gc gx gy gu gs gp = some z) : cs_v l my_P_moveRegister mb_P_moveRegister 6 rm_c_P_moveRegister D (ty_ cI cT) [.ref aP, .int (bz_i x1)] (cp_ aY aB aG aP aC cI cT py po cb ga gb gd gc gx gy gu gs gp) (cp_ aY aB aG aP aC cI cT z.1 z.2.1 cb z.2.2.1 z.2.2.2.1 z.2.2.2.2.1 z.2.2.2.2.2.1 z.2.2.2.2.2.2.1 z.2.2.2.2.2.2.2.1 z.2.2.2.2.2.2.2.2.1 z.2.2.2.2.2.2.2.2.2.1 z.2.2.2.2.2.2.2.2.2.2) := by
  refine cs_v_of (by decide) (Nat.le_of_ble_eq_true rfl) ?_
  intro p e s m below meth c A ls X hr hlk hK hP hD hS hA hZ hl
  have hx := X.1
  have hb := X.2.1
  have hl : lv_has ls 6 [(0, .ref aP), (1, .int (bz_i x1))] := hl
  have J43 : ∀ (py : Int32) (po : Int32) (cb : Nat → Int32) (ga : Int32) (gb : Int32) (gd : Int32) (gc : Int32) (gx : Int32) (gy : Int32) (gu : Int32) (gs : Int32) (gp : Int32), tc_P_moveRegister_j43 py po cb ga gb gd gc gx gy gu gs gp = some z → ∀ (H : Heap) (locs : List Loc) (ls : Array Slot), lv_has ls 6 [(0, .ref aP)] → va_P D cz_all (cp_ aY aB aG aP aC cI cT py po cb ga gb gd gc gx gy gu gs gp) H → va_D A (cp_ aY aB aG aP aC cI cT py po cb ga gb gd gc gx gy gu gs gp) → va_S A s.heap H locs → W p l e rm_c_P_moveRegister s m ([.ref aP, .int (bz_i x1)] : List Value).toArray below meth c H locs 0 0 (MQ below (qs_v D (ty_ cI cT) (cp_ aY aB aG aP aC cI cT z.1 z.2.1 cb z.2.2.1 z.2.2.2.1 z.2.2.2.2.1 z.2.2.2.2.2.1 z.2.2.2.2.2.2.1 z.2.2.2.2.2.2.2.1 z.2.2.2.2.2.2.2.2.1 z.2.2.2.2.2.2.2.2.2.1 z.2.2.2.2.2.2.2.2.2.2) A) ([.ref aP, .int (bz_i x1)] : List Value).toArray s 0 0 A) (F0 m 43 ls []) := by
    intro py po cb ga gb gd gc gx gy gu gs gp hf H locs ls hl hP hD hS
    unfold tc_P_moveRegister_j43 at hf
    refine lv_aload_n hx hb d_P_moveRegister_43 rfl (lv_at hl 0 rfl) ?_
    refine lv_bipush (v := (-2 : Int32)) hx hb d_P_moveRegister_44 (by decide) ?_
    refine cp_p_P_outcome_P (x := (-2 : Int32)) X hK hP hD hS d_P_moveRegister_46 (fun H locs hP hD hS => ?_)
    have hq := Option.some.inj hf
    subst hq
    exact rt_v X hr hlk hK hP hD hS d_P_moveRegister_49
  unfold tc_P_moveRegister at hf
  refine lv_aload_n hx hb d_P_moveRegister_0 rfl (lv_at hl 0 rfl) ?_
  refine lv_iconst (v := (1 : Int32)) hx hb d_P_moveRegister_1 (by decide) ?_
  obtain ⟨z10, hz10, hf⟩ := op_b hf
  refine cf_i (ws2 := (cp_ aY aB aG aP aC cI cT z10.2.1 po cb ga gb gd gc gx gy gu gs z10.2.2)) X cx_P_35 hK hP hD hS hA hZ hl (c_tc_P_fetch (aY := aY) (aB := aB) (aG := aG) (aP := aP) (aC := aC) (py := py) (po := po) (cb := cb) (ga := ga) (gb := gb) (gd := gd) (gc := gc) (gx := gx) (gy := gy) (gu := gu) (gs := gs) (gp := gp) hz10) ⟨rfl, rfl, Nat.le_of_ble_eq_true rfl, Nat.le_of_ble_eq_true rfl⟩ [0, 1, 2, 3, 4] [] [0, 1, 2, 3, 4] rfl rfl rfl rfl (by decide) rfl rfl 0 rfl rfl rfl rfl rfl (Nat.le_of_ble_eq_true rfl) d_P_moveRegister_2 (fun H locs hP hD hS => ?_)
  refine lv_istore_n hx hb d_P_moveRegister_5 rfl hl (by decide) rfl (fun ls hl => ?_)
  have hl : lv_has ls 6 [(2, .int z10.1), (0, .ref aP), (1, .int (bz_i x1))] := hl
  refine lv_iload_n hx hb d_P_moveRegister_6 rfl (lv_at hl 0 rfl) ?_
  refine lv_iconst (v := (4 : Int32)) hx hb d_P_moveRegister_7 (by decide) ?_
  refine lv_ishr hx hb d_P_moveRegister_8 ?_
  refine lv_istore_n hx hb d_P_moveRegister_9 rfl hl (by decide) rfl (fun ls hl => ?_)
  have hl : lv_has ls 6 [(3, .int (z10.1 >>> ((4 : Int32) &&& 31))), (2, .int z10.1), (0, .ref aP), (1, .int (bz_i x1))] := hl
  refine lv_iload_n hx hb d_P_moveRegister_10 rfl (lv_at hl 1 rfl) ?_
  refine lv_bipush (v := (15 : Int32)) hx hb d_P_moveRegister_11 (by decide) ?_
  refine lv_iand hx hb d_P_moveRegister_13 ?_
  refine lv_istore hx hb d_P_moveRegister_14 hl (by decide) rfl (fun ls hl => ?_)
  have hl : lv_has ls 6 [(4, .int (z10.1 &&& (15 : Int32))), (3, .int (z10.1 >>> ((4 : Int32) &&& 31))), (2, .int z10.1), (0, .ref aP), (1, .int (bz_i x1))] := hl
  refine lv_iload_n hx hb d_P_moveRegister_16 rfl (lv_at hl 1 rfl) ?_
  obtain ⟨z11, hz11, hf⟩ := op_b hf
  refine cf_si X cx_P_184 hK hP hD hS hA hZ hl (c_tc_G_exists (w := (cp_ aY aB aG aP aC cI cT z10.2.1 po cb ga gb gd gc gx gy gu gs z10.2.2)) hz11) ⟨rfl, rfl, Nat.le_of_ble_eq_true rfl, Nat.le_of_ble_eq_true rfl⟩ rfl rfl (Nat.le_of_ble_eq_true rfl) d_P_moveRegister_17 (fun H locs hP hD hS => ?_)
  refine lv_if_eq (tgt := 43) hx hb d_P_moveRegister_20 (by decide) (fun hc => ?_) (fun hc => ?_)
  · replace hf := (if_pos hc).symm.trans hf
    exact J43 z10.2.1 po cb ga gb gd gc gx gy gu gs z10.2.2 hf _ _ _ (lv_sub hl [3] rfl) hP hD hS
  · replace hf := (if_neg hc).symm.trans hf
    refine lv_iload hx hb d_P_moveRegister_23 (lv_at hl 0 rfl) ?_
    obtain ⟨z12, hz12, hf⟩ := op_b hf
    refine cf_si X cx_P_184 hK hP hD hS hA hZ hl (c_tc_G_exists (w := (cp_ aY aB aG aP aC cI cT z10.2.1 po cb ga gb gd gc gx gy gu gs z10.2.2)) hz12) ⟨rfl, rfl, Nat.le_of_ble_eq_true rfl, Nat.le_of_ble_eq_true rfl⟩ rfl rfl (Nat.le_of_ble_eq_true rfl) d_P_moveRegister_25 (fun H locs hP hD hS => ?_)
    refine lv_if_eq (tgt := 43) hx hb d_P_moveRegister_28 (by decide) (fun hc => ?_) (fun hc => ?_)
    · replace hf := (if_pos hc).symm.trans hf
      exact J43 z10.2.1 po cb ga gb gd gc gx gy gu gs z10.2.2 hf _ _ _ (lv_sub hl [3] rfl) hP hD hS
    · replace hf := (if_neg hc).symm.trans hf
      refine lv_iload_n hx hb d_P_moveRegister_31 rfl (lv_at hl 1 rfl) ?_
      obtain ⟨z13, hz13, hf⟩ := op_b hf
      refine cf_si X cx_P_94 hK hP hD hS hA hZ hl (c_tc_G_sizeOf (w := (cp_ aY aB aG aP aC cI cT z10.2.1 po cb ga gb gd gc gx gy gu gs z10.2.2)) hz13) ⟨rfl, rfl, Nat.le_of_ble_eq_true rfl, Nat.le_of_ble_eq_true rfl⟩ rfl rfl (Nat.le_of_ble_eq_true rfl) d_P_moveRegister_32 (fun H locs hP hD hS => ?_)
      refine lv_iload hx hb d_P_moveRegister_35 (lv_at hl 0 rfl) ?_
      obtain ⟨z14, hz14, hf⟩ := op_b hf
      refine cf_si X cx_P_94 hK hP hD hS hA hZ hl (c_tc_G_sizeOf (w := (cp_ aY aB aG aP aC cI cT z10.2.1 po cb ga gb gd gc gx gy gu gs z10.2.2)) hz14) ⟨rfl, rfl, Nat.le_of_ble_eq_true rfl, Nat.le_of_ble_eq_true rfl⟩ rfl rfl (Nat.le_of_ble_eq_true rfl) d_P_moveRegister_37 (fun H locs hP hD hS => ?_)
      refine lv_icmp_eq (tgt := 50) hx hb d_P_moveRegister_40 (by decide) (fun hc => ?_) (fun hc => ?_)
      · replace hf := (if_pos hc).symm.trans hf
        refine lv_aload_n hx hb d_P_moveRegister_50 rfl (lv_at hl 3 rfl) ?_
        refine cp_g_P_registers_P X hK hP d_P_moveRegister_51 ?_
        refine lv_iload hx hb d_P_moveRegister_54 (lv_at hl 0 rfl) ?_
        obtain ⟨z15, hz15, hf⟩ := op_b hf
        refine cf_i (ws2 := (cp_ aY aB aG aP aC cI cT z10.2.1 po cb ga gb gd gc gx gy gu gs z10.2.2)) X cx_P_100 hK hP hD hS hA hZ hl (c_tc_G_get (aG := aG) (ga := ga) (gb := gb) (gd := gd) (gc := gc) (gx := gx) (gy := gy) (gu := gu) (gs := gs) (gp := z10.2.2) hz15) ⟨rfl, rfl, Nat.le_of_ble_eq_true rfl, Nat.le_of_ble_eq_true rfl⟩ [3] [0, 1, 2, 4] [0, 1, 2, 4, 3] rfl rfl rfl rfl (by decide) rfl rfl 0 rfl rfl rfl rfl rfl (Nat.le_of_ble_eq_true rfl) d_P_moveRegister_56 (fun H locs hP hD hS => ?_)
        refine lv_istore hx hb d_P_moveRegister_59 hl (by decide) rfl (fun ls hl => ?_)
        have hl : lv_has ls 6 [(5, .int z15), (4, .int (z10.1 &&& (15 : Int32))), (3, .int (z10.1 >>> ((4 : Int32) &&& 31))), (2, .int z10.1), (0, .ref aP), (1, .int (bz_i x1))] := hl
        refine lv_aload_n hx hb d_P_moveRegister_61 rfl (lv_at hl 4 rfl) ?_
        refine cp_g_P_registers_P X hK hP d_P_moveRegister_62 ?_
        refine lv_iload hx hb d_P_moveRegister_65 (lv_at hl 1 rfl) ?_
        refine lv_aload_n hx hb d_P_moveRegister_67 rfl (lv_at hl 4 rfl) ?_
        refine cp_g_P_registers_P X hK hP d_P_moveRegister_68 ?_
        refine lv_iload_n hx hb d_P_moveRegister_71 rfl (lv_at hl 2 rfl) ?_
        obtain ⟨z16, hz16, hf⟩ := op_b hf
        refine cf_i (ws2 := (cp_ aY aB aG aP aC cI cT z10.2.1 po cb ga gb gd gc gx gy gu gs z10.2.2)) X cx_P_100 hK hP hD hS hA hZ hl (c_tc_G_get (aG := aG) (ga := ga) (gb := gb) (gd := gd) (gc := gc) (gx := gx) (gy := gy) (gu := gu) (gs := gs) (gp := z10.2.2) hz16) ⟨rfl, rfl, Nat.le_of_ble_eq_true rfl, Nat.le_of_ble_eq_true rfl⟩ [3] [0, 1, 2, 4] [0, 1, 2, 4, 3] rfl rfl rfl rfl (by decide) rfl rfl 0 rfl rfl rfl rfl rfl (Nat.le_of_ble_eq_true rfl) d_P_moveRegister_72 (fun H locs hP hD hS => ?_)
        obtain ⟨z17, hz17, hf⟩ := op_b hf
        refine cf_v (ws2 := (cp_ aY aB aG aP aC cI cT z10.2.1 po cb z17.1 z17.2.1 z17.2.2.1 z17.2.2.2.1 z17.2.2.2.2.1 z17.2.2.2.2.2.1 z17.2.2.2.2.2.2.1 z17.2.2.2.2.2.2.2.1 z17.2.2.2.2.2.2.2.2)) X cx_P_112 hK hP hD hS hA hZ hl (c_tc_G_set (aG := aG) (ga := ga) (gb := gb) (gd := gd) (gc := gc) (gx := gx) (gy := gy) (gu := gu) (gs := gs) (gp := z10.2.2) hz17) ⟨rfl, rfl, Nat.le_of_ble_eq_true rfl, Nat.le_of_ble_eq_true rfl⟩ [3] [0, 1, 2, 4] [0, 1, 2, 4, 3] rfl rfl rfl rfl (by decide) rfl rfl 0 rfl rfl rfl rfl rfl (Nat.le_of_ble_eq_true rfl) d_P_moveRegister_75 (fun H locs hP hD hS => ?_)
        refine lv_iload_n hx hb d_P_moveRegister_78 rfl (lv_at hl 5 rfl) ?_
        refine lv_if_eq (tgt := 92) hx hb d_P_moveRegister_79 (by decide) (fun hc => ?_) (fun hc => ?_)
        · replace hf := (if_pos hc).symm.trans hf
          have hq := Option.some.inj hf
          subst hq
          exact rt_v X hr hlk hK hP hD hS d_P_moveRegister_92
        · replace hf := (if_neg hc).symm.trans hf
          refine lv_aload_n hx hb d_P_moveRegister_82 rfl (lv_at hl 4 rfl) ?_
          refine cp_g_P_registers_P X hK hP d_P_moveRegister_83 ?_
          refine lv_iload_n hx hb d_P_moveRegister_86 rfl (lv_at hl 2 rfl) ?_
          refine lv_iload hx hb d_P_moveRegister_87 (lv_at hl 0 rfl) ?_
          obtain ⟨z18, hz18, hf⟩ := op_b hf
          refine cf_v (ws2 := (cp_ aY aB aG aP aC cI cT z10.2.1 po cb z18.1 z18.2.1 z18.2.2.1 z18.2.2.2.1 z18.2.2.2.2.1 z18.2.2.2.2.2.1 z18.2.2.2.2.2.2.1 z18.2.2.2.2.2.2.2.1 z18.2.2.2.2.2.2.2.2)) X cx_P_112 hK hP hD hS hA hZ hl (c_tc_G_set (aG := aG) (ga := z17.1) (gb := z17.2.1) (gd := z17.2.2.1) (gc := z17.2.2.2.1) (gx := z17.2.2.2.2.1) (gy := z17.2.2.2.2.2.1) (gu := z17.2.2.2.2.2.2.1) (gs := z17.2.2.2.2.2.2.2.1) (gp := z17.2.2.2.2.2.2.2.2) hz18) ⟨rfl, rfl, Nat.le_of_ble_eq_true rfl, Nat.le_of_ble_eq_true rfl⟩ [3] [0, 1, 2, 4] [0, 1, 2, 4, 3] rfl rfl rfl rfl (by decide) rfl rfl 0 rfl rfl rfl rfl rfl (Nat.le_of_ble_eq_true rfl) d_P_moveRegister_89 (fun H locs hP hD hS => ?_)
          have hq := Option.some.inj hf
          subst hq
          exact rt_v X hr hlk hK hP hD hS d_P_moveRegister_92
      · replace hf := (if_neg hc).symm.trans hf
        exact J43 z10.2.1 po cb ga gb gd gc gx gy gu gs z10.2.2 hf _ _ _ (lv_sub hl [3] rfl) hP hD hS
set_option maxHeartbeats 4000000 in
set_option maxRecDepth 100000 in
theorem c_tc_P_doGroup1 {x1 : Int32} {z : Int32 × Int32 × Int32 × Int32 × Int32 × Int32 × Int32 × Int32 × Int32 × Int32 × Int32} (hf : tc_P_doGroup1 x1 py po cb ga gb gd gc gx gy gu gs gp = some z) : cs_v l my_P_doGroup1 mb_P_doGroup1 2 rm_c_P_doGroup1 D (ty_ cI cT) [.ref aP, .int x1] (cp_ aY aB aG aP aC cI cT py po cb ga gb gd gc gx gy gu gs gp) (cp_ aY aB aG aP aC cI cT z.1 z.2.1 cb z.2.2.1 z.2.2.2.1 z.2.2.2.2.1 z.2.2.2.2.2.1 z.2.2.2.2.2.2.1 z.2.2.2.2.2.2.2.1 z.2.2.2.2.2.2.2.2.1 z.2.2.2.2.2.2.2.2.2.1 z.2.2.2.2.2.2.2.2.2.2) := by
  refine cs_v_of (by decide) (Nat.le_of_ble_eq_true rfl) ?_
  intro p e s m below meth c A ls X hr hlk hK hP hD hS hA hZ hl
  have hx := X.1
  have hb := X.2.1
  have hl : lv_has ls 2 [(0, .ref aP), (1, .int x1)] := hl
  have J141 : ∀ (py : Int32) (po : Int32) (cb : Nat → Int32) (ga : Int32) (gb : Int32) (gd : Int32) (gc : Int32) (gx : Int32) (gy : Int32) (gu : Int32) (gs : Int32) (gp : Int32), tc_P_doGroup1_j141 py po cb ga gb gd gc gx gy gu gs gp = some z → ∀ (H : Heap) (locs : List Loc) (ls : Array Slot), lv_has ls 2 [(0, .ref aP)] → va_P D cz_all (cp_ aY aB aG aP aC cI cT py po cb ga gb gd gc gx gy gu gs gp) H → va_D A (cp_ aY aB aG aP aC cI cT py po cb ga gb gd gc gx gy gu gs gp) → va_S A s.heap H locs → W p l e rm_c_P_doGroup1 s m ([.ref aP, .int x1] : List Value).toArray below meth c H locs 0 0 (MQ below (qs_v D (ty_ cI cT) (cp_ aY aB aG aP aC cI cT z.1 z.2.1 cb z.2.2.1 z.2.2.2.1 z.2.2.2.2.1 z.2.2.2.2.2.1 z.2.2.2.2.2.2.1 z.2.2.2.2.2.2.2.1 z.2.2.2.2.2.2.2.2.1 z.2.2.2.2.2.2.2.2.2.1 z.2.2.2.2.2.2.2.2.2.2) A) ([.ref aP, .int x1] : List Value).toArray s 0 0 A) (F0 m 141 ls []) := by
    intro py po cb ga gb gd gc gx gy gu gs gp hf H locs ls hl hP hD hS
    unfold tc_P_doGroup1_j141 at hf
    refine lv_aload_n hx hb d_P_doGroup1_141 rfl (lv_at hl 0 rfl) ?_
    refine lv_bipush (v := (-2 : Int32)) hx hb d_P_doGroup1_142 (by decide) ?_
    refine cp_p_P_outcome_P (x := (-2 : Int32)) X hK hP hD hS d_P_doGroup1_144 (fun H locs hP hD hS => ?_)
    have hq := Option.some.inj hf
    subst hq
    exact rt_v X hr hlk hK hP hD hS d_P_doGroup1_147
  unfold tc_P_doGroup1 at hf
  refine lv_iload_n hx hb d_P_doGroup1_0 rfl (lv_at hl 1 rfl) ?_
  by_cases hk6 : x1 = (18 : Int32)
  · replace hf := (if_pos hk6).symm.trans hf
    refine lv_tableIn (tgt := 72) (off := 71) hx hb d_P_doGroup1_1 (by rw [hk6]; decide) (by rw [hk6]; decide) (by rw [hk6]; rfl) (by decide) ?_
    refine lv_goto (tgt := 147) hx hb d_P_doGroup1_72 (by decide) ?_
    have hq := Option.some.inj hf
    subst hq
    exact rt_v X hr hlk hK hP hD hS d_P_doGroup1_147
  · replace hf := (if_neg hk6).symm.trans hf
    by_cases hk7 : x1 = (19 : Int32)
    · replace hf := (if_pos hk7).symm.trans hf
      refine lv_tableIn (tgt := 141) (off := 140) hx hb d_P_doGroup1_1 (by rw [hk7]; decide) (by rw [hk7]; decide) (by rw [hk7]; rfl) (by decide) ?_
      exact J141 py po cb ga gb gd gc gx gy gu gs gp hf _ _ _ (lv_sub hl [0] rfl) hP hD hS
    · replace hf := (if_neg hk7).symm.trans hf
      by_cases hk8 : x1 = (20 : Int32)
      · replace hf := (if_pos hk8).symm.trans hf
        refine lv_tableIn (tgt := 141) (off := 140) hx hb d_P_doGroup1_1 (by rw [hk8]; decide) (by rw [hk8]; decide) (by rw [hk8]; rfl) (by decide) ?_
        exact J141 py po cb ga gb gd gc gx gy gu gs gp hf _ _ _ (lv_sub hl [0] rfl) hP hD hS
      · replace hf := (if_neg hk8).symm.trans hf
        by_cases hk9 : x1 = (21 : Int32)
        · replace hf := (if_pos hk9).symm.trans hf
          refine lv_tableIn (tgt := 141) (off := 140) hx hb d_P_doGroup1_1 (by rw [hk9]; decide) (by rw [hk9]; decide) (by rw [hk9]; rfl) (by decide) ?_
          exact J141 py po cb ga gb gd gc gx gy gu gs gp hf _ _ _ (lv_sub hl [0] rfl) hP hD hS
        · replace hf := (if_neg hk9).symm.trans hf
          by_cases hk10 : x1 = (22 : Int32)
          · replace hf := (if_pos hk10).symm.trans hf
            refine lv_tableIn (tgt := 141) (off := 140) hx hb d_P_doGroup1_1 (by rw [hk10]; decide) (by rw [hk10]; decide) (by rw [hk10]; rfl) (by decide) ?_
            exact J141 py po cb ga gb gd gc gx gy gu gs gp hf _ _ _ (lv_sub hl [0] rfl) hP hD hS
          · replace hf := (if_neg hk10).symm.trans hf
            by_cases hk11 : x1 = (23 : Int32)
            · replace hf := (if_pos hk11).symm.trans hf
              refine lv_tableIn (tgt := 141) (off := 140) hx hb d_P_doGroup1_1 (by rw [hk11]; decide) (by rw [hk11]; decide) (by rw [hk11]; rfl) (by decide) ?_
              exact J141 py po cb ga gb gd gc gx gy gu gs gp hf _ _ _ (lv_sub hl [0] rfl) hP hD hS
            · replace hf := (if_neg hk11).symm.trans hf
              by_cases hk12 : x1 = (24 : Int32)
              · replace hf := (if_pos hk12).symm.trans hf
                refine lv_tableIn (tgt := 141) (off := 140) hx hb d_P_doGroup1_1 (by rw [hk12]; decide) (by rw [hk12]; decide) (by rw [hk12]; rfl) (by decide) ?_
                exact J141 py po cb ga gb gd gc gx gy gu gs gp hf _ _ _ (lv_sub hl [0] rfl) hP hD hS
              · replace hf := (if_neg hk12).symm.trans hf
                by_cases hk13 : x1 = (25 : Int32)
                · replace hf := (if_pos hk13).symm.trans hf
                  refine lv_tableIn (tgt := 141) (off := 140) hx hb d_P_doGroup1_1 (by rw [hk13]; decide) (by rw [hk13]; decide) (by rw [hk13]; rfl) (by decide) ?_
                  exact J141 py po cb ga gb gd gc gx gy gu gs gp hf _ _ _ (lv_sub hl [0] rfl) hP hD hS
                · replace hf := (if_neg hk13).symm.trans hf
                  by_cases hk14 : x1 = (26 : Int32)
                  · replace hf := (if_pos hk14).symm.trans hf
                    refine lv_tableIn (tgt := 75) (off := 74) hx hb d_P_doGroup1_1 (by rw [hk14]; decide) (by rw [hk14]; decide) (by rw [hk14]; rfl) (by decide) ?_
                    refine lv_aload_n hx hb d_P_doGroup1_75 rfl (lv_at hl 0 rfl) ?_
                    refine cp_g_P_registers_P X hK hP d_P_doGroup1_76 ?_
                    refine lv_dup hx hb d_P_doGroup1_79 rfl ?_
                    refine cp_g_G_cc_P X hK hP d_P_doGroup1_80 ?_
                    refine lv_aload_n hx hb d_P_doGroup1_83 rfl (lv_at hl 0 rfl) ?_
                    refine lv_iconst (v := (1 : Int32)) hx hb d_P_doGroup1_84 (by decide) ?_
                    obtain ⟨z15, hz15, hf⟩ := op_b hf
                    refine cf_i (ws2 := (cp_ aY aB aG aP aC cI cT z15.2.1 po cb ga gb gd gc gx gy gu gs z15.2.2)) X cx_P_35 hK hP hD hS hA hZ hl (c_tc_P_fetch (aY := aY) (aB := aB) (aG := aG) (aP := aP) (aC := aC) (py := py) (po := po) (cb := cb) (ga := ga) (gb := gb) (gd := gd) (gc := gc) (gx := gx) (gy := gy) (gu := gu) (gs := gs) (gp := gp) hz15) ⟨rfl, rfl, Nat.le_of_ble_eq_true rfl, Nat.le_of_ble_eq_true rfl⟩ [0, 1, 2, 3, 4] [] [0, 1, 2, 3, 4] rfl rfl rfl rfl (by decide) rfl rfl 0 rfl rfl rfl rfl rfl (Nat.le_of_ble_eq_true rfl) d_P_doGroup1_85 (fun H locs hP hD hS => ?_)
                    refine lv_ior hx hb d_P_doGroup1_88 ?_
                    refine cp_p_G_cc_P (x := (gc ||| z15.1)) X hK hP hD hS d_P_doGroup1_89 (fun H locs hP hD hS => ?_)
                    refine lv_goto (tgt := 147) hx hb d_P_doGroup1_92 (by decide) ?_
                    have hq := Option.some.inj hf
                    subst hq
                    exact rt_v X hr hlk hK hP hD hS d_P_doGroup1_147
                  · replace hf := (if_neg hk14).symm.trans hf
                    by_cases hk16 : x1 = (27 : Int32)
                    · replace hf := (if_pos hk16).symm.trans hf
                      refine lv_tableIn (tgt := 141) (off := 140) hx hb d_P_doGroup1_1 (by rw [hk16]; decide) (by rw [hk16]; decide) (by rw [hk16]; rfl) (by decide) ?_
                      exact J141 py po cb ga gb gd gc gx gy gu gs gp hf _ _ _ (lv_sub hl [0] rfl) hP hD hS
                    · replace hf := (if_neg hk16).symm.trans hf
                      by_cases hk17 : x1 = (28 : Int32)
                      · replace hf := (if_pos hk17).symm.trans hf
                        refine lv_tableIn (tgt := 95) (off := 94) hx hb d_P_doGroup1_1 (by rw [hk17]; decide) (by rw [hk17]; decide) (by rw [hk17]; rfl) (by decide) ?_
                        refine lv_aload_n hx hb d_P_doGroup1_95 rfl (lv_at hl 0 rfl) ?_
                        refine cp_g_P_registers_P X hK hP d_P_doGroup1_96 ?_
                        refine lv_dup hx hb d_P_doGroup1_99 rfl ?_
                        refine cp_g_G_cc_P X hK hP d_P_doGroup1_100 ?_
                        refine lv_aload_n hx hb d_P_doGroup1_103 rfl (lv_at hl 0 rfl) ?_
                        refine lv_iconst (v := (1 : Int32)) hx hb d_P_doGroup1_104 (by decide) ?_
                        obtain ⟨z18, hz18, hf⟩ := op_b hf
                        refine cf_i (ws2 := (cp_ aY aB aG aP aC cI cT z18.2.1 po cb ga gb gd gc gx gy gu gs z18.2.2)) X cx_P_35 hK hP hD hS hA hZ hl (c_tc_P_fetch (aY := aY) (aB := aB) (aG := aG) (aP := aP) (aC := aC) (py := py) (po := po) (cb := cb) (ga := ga) (gb := gb) (gd := gd) (gc := gc) (gx := gx) (gy := gy) (gu := gu) (gs := gs) (gp := gp) hz18) ⟨rfl, rfl, Nat.le_of_ble_eq_true rfl, Nat.le_of_ble_eq_true rfl⟩ [0, 1, 2, 3, 4] [] [0, 1, 2, 3, 4] rfl rfl rfl rfl (by decide) rfl rfl 0 rfl rfl rfl rfl rfl (Nat.le_of_ble_eq_true rfl) d_P_doGroup1_105 (fun H locs hP hD hS => ?_)
                        refine lv_iand hx hb d_P_doGroup1_108 ?_
                        refine cp_p_G_cc_P (x := (gc &&& z18.1)) X hK hP hD hS d_P_doGroup1_109 (fun H locs hP hD hS => ?_)
                        refine lv_goto (tgt := 147) hx hb d_P_doGroup1_112 (by decide) ?_
                        have hq := Option.some.inj hf
                        subst hq
                        exact rt_v X hr hlk hK hP hD hS d_P_doGroup1_147
                      · replace hf := (if_neg hk17).symm.trans hf
                        by_cases hk19 : x1 = (29 : Int32)
                        · replace hf := (if_pos hk19).symm.trans hf
                          refine lv_tableIn (tgt := 115) (off := 114) hx hb d_P_doGroup1_1 (by rw [hk19]; decide) (by rw [hk19]; decide) (by rw [hk19]; rfl) (by decide) ?_
                          refine lv_aload_n hx hb d_P_doGroup1_115 rfl (lv_at hl 0 rfl) ?_
                          refine cp_g_P_calculator_P X hK hP d_P_doGroup1_116 ?_
                          obtain ⟨z20, hz20, hf⟩ := op_b hf
                          refine cf_v (ws2 := (cp_ aY aB aG aP aC cI cT py po cb z20.1 z20.2.1 z20.2.2.1 z20.2.2.2.1 z20.2.2.2.2.1 z20.2.2.2.2.2.1 z20.2.2.2.2.2.2.1 z20.2.2.2.2.2.2.2.1 z20.2.2.2.2.2.2.2.2)) X cx_P_177 hK hP hD hS hA hZ hl (c_tc_C_extendB (aG := aG) (aC := aC) (ga := ga) (gb := gb) (gd := gd) (gc := gc) (gx := gx) (gy := gy) (gu := gu) (gs := gs) (gp := gp) hz20) ⟨rfl, rfl, Nat.le_of_ble_eq_true rfl, Nat.le_of_ble_eq_true rfl⟩ [4, 3] [0, 1, 2] [0, 1, 2, 4, 3] rfl rfl rfl rfl (by decide) rfl rfl 0 rfl rfl rfl rfl rfl (Nat.le_of_ble_eq_true rfl) d_P_doGroup1_119 (fun H locs hP hD hS => ?_)
                          refine lv_goto (tgt := 147) hx hb d_P_doGroup1_122 (by decide) ?_
                          have hq := Option.some.inj hf
                          subst hq
                          exact rt_v X hr hlk hK hP hD hS d_P_doGroup1_147
                        · replace hf := (if_neg hk19).symm.trans hf
                          by_cases hk21 : x1 = (30 : Int32)
                          · replace hf := (if_pos hk21).symm.trans hf
                            refine lv_tableIn (tgt := 125) (off := 124) hx hb d_P_doGroup1_1 (by rw [hk21]; decide) (by rw [hk21]; decide) (by rw [hk21]; rfl) (by decide) ?_
                            refine lv_aload_n hx hb d_P_doGroup1_125 rfl (lv_at hl 0 rfl) ?_
                            refine lv_iconst (v := (1 : Int32)) hx hb d_P_doGroup1_126 (by decide) ?_
                            obtain ⟨z22, hz22, hf⟩ := op_b hf
                            refine cf_v (ws2 := (cp_ aY aB aG aP aC cI cT z22.1 z22.2.1 cb z22.2.2.1 z22.2.2.2.1 z22.2.2.2.2.1 z22.2.2.2.2.2.1 z22.2.2.2.2.2.2.1 z22.2.2.2.2.2.2.2.1 z22.2.2.2.2.2.2.2.2.1 z22.2.2.2.2.2.2.2.2.2.1 z22.2.2.2.2.2.2.2.2.2.2)) X cx_P_180 hK hP hD hS hA hZ hl (c_tc_P_moveRegister (aY := aY) (aB := aB) (aG := aG) (aP := aP) (aC := aC) (py := py) (po := po) (cb := cb) (ga := ga) (gb := gb) (gd := gd) (gc := gc) (gx := gx) (gy := gy) (gu := gu) (gs := gs) (gp := gp) hz22) ⟨rfl, rfl, Nat.le_of_ble_eq_true rfl, Nat.le_of_ble_eq_true rfl⟩ [0, 1, 2, 3, 4] [] [0, 1, 2, 3, 4] rfl rfl rfl rfl (by decide) rfl rfl 0 rfl rfl rfl rfl rfl (Nat.le_of_ble_eq_true rfl) d_P_doGroup1_127 (fun H locs hP hD hS => ?_)
                            refine lv_goto (tgt := 147) hx hb d_P_doGroup1_130 (by decide) ?_
                            have hq := Option.some.inj hf
                            subst hq
                            exact rt_v X hr hlk hK hP hD hS d_P_doGroup1_147
                          · replace hf := (if_neg hk21).symm.trans hf
                            by_cases hk23 : x1 = (31 : Int32)
                            · replace hf := (if_pos hk23).symm.trans hf
                              refine lv_tableIn (tgt := 133) (off := 132) hx hb d_P_doGroup1_1 (by rw [hk23]; decide) (by rw [hk23]; decide) (by rw [hk23]; rfl) (by decide) ?_
                              refine lv_aload_n hx hb d_P_doGroup1_133 rfl (lv_at hl 0 rfl) ?_
                              refine lv_iconst (v := (0 : Int32)) hx hb d_P_doGroup1_134 (by decide) ?_
                              obtain ⟨z24, hz24, hf⟩ := op_b hf
                              refine cf_v (ws2 := (cp_ aY aB aG aP aC cI cT z24.1 z24.2.1 cb z24.2.2.1 z24.2.2.2.1 z24.2.2.2.2.1 z24.2.2.2.2.2.1 z24.2.2.2.2.2.2.1 z24.2.2.2.2.2.2.2.1 z24.2.2.2.2.2.2.2.2.1 z24.2.2.2.2.2.2.2.2.2.1 z24.2.2.2.2.2.2.2.2.2.2)) X cx_P_180 hK hP hD hS hA hZ hl (c_tc_P_moveRegister (aY := aY) (aB := aB) (aG := aG) (aP := aP) (aC := aC) (py := py) (po := po) (cb := cb) (ga := ga) (gb := gb) (gd := gd) (gc := gc) (gx := gx) (gy := gy) (gu := gu) (gs := gs) (gp := gp) hz24) ⟨rfl, rfl, Nat.le_of_ble_eq_true rfl, Nat.le_of_ble_eq_true rfl⟩ [0, 1, 2, 3, 4] [] [0, 1, 2, 3, 4] rfl rfl rfl rfl (by decide) rfl rfl 0 rfl rfl rfl rfl rfl (Nat.le_of_ble_eq_true rfl) d_P_doGroup1_135 (fun H locs hP hD hS => ?_)
                              refine lv_goto (tgt := 147) hx hb d_P_doGroup1_138 (by decide) ?_
                              have hq := Option.some.inj hf
                              subst hq
                              exact rt_v X hr hlk hK hP hD hS d_P_doGroup1_147
                            · replace hf := (if_neg hk23).symm.trans hf
                              refine lv_tableOut (tgt := 141) hx hb d_P_doGroup1_1 (by have q0 := lv_neT hk6 (show Int32.toInt (18 : Int32) = 18 by decide); have q1 := lv_neT hk7 (show Int32.toInt (19 : Int32) = 19 by decide); have q2 := lv_neT hk8 (show Int32.toInt (20 : Int32) = 20 by decide); have q3 := lv_neT hk9 (show Int32.toInt (21 : Int32) = 21 by decide); have q4 := lv_neT hk10 (show Int32.toInt (22 : Int32) = 22 by decide); have q5 := lv_neT hk11 (show Int32.toInt (23 : Int32) = 23 by decide); have q6 := lv_neT hk12 (show Int32.toInt (24 : Int32) = 24 by decide); have q7 := lv_neT hk13 (show Int32.toInt (25 : Int32) = 25 by decide); have q8 := lv_neT hk14 (show Int32.toInt (26 : Int32) = 26 by decide); have q9 := lv_neT hk16 (show Int32.toInt (27 : Int32) = 27 by decide); have q10 := lv_neT hk17 (show Int32.toInt (28 : Int32) = 28 by decide); have q11 := lv_neT hk19 (show Int32.toInt (29 : Int32) = 29 by decide); have q12 := lv_neT hk21 (show Int32.toInt (30 : Int32) = 30 by decide); have q13 := lv_neT hk23 (show Int32.toInt (31 : Int32) = 31 by decide); omega) (by decide) ?_
                              exact J141 py po cb ga gb gd gc gx gy gu gs gp hf _ _ _ (lv_sub hl [0] rfl) hP hD hS
set_option maxHeartbeats 4000000 in
set_option maxRecDepth 100000 in
theorem c_tc_P_holds {x1 : Int32} {z : Bool} (hf : tc_P_holds x1 gc = some z) : cs_i l my_P_holds mb_P_holds 7 .boolean rm_c_P_holds D (ty_ cI cT) [.ref aP, .int x1] (cp_ aY aB aG aP aC cI cT py po cb ga gb gd gc gx gy gu gs gp) (cp_ aY aB aG aP aC cI cT py po cb ga gb gd gc gx gy gu gs gp) (bz_i z) := by
  refine cs_i_of (by decide) (Nat.le_of_ble_eq_true rfl) ?_
  intro p e s m below meth c A ls X hr hlk hK hP hD hS hA hZ hl
  have hx := X.1
  have hb := X.2.1
  have hl : lv_has ls 7 [(0, .ref aP), (1, .int x1)] := hl
  have J246 : ∀ (s0 : Bool) (s1 : Bool) (gc : Int32), tc_P_holds_j246 s0 s1 gc = some z → ∀ (H : Heap) (locs : List Loc) (ls : Array Slot), lv_has ls 7 [] → va_P D cz_all (cp_ aY aB aG aP aC cI cT py po cb ga gb gd gc gx gy gu gs gp) H → va_D A (cp_ aY aB aG aP aC cI cT py po cb ga gb gd gc gx gy gu gs gp) → va_S A s.heap H locs → W p l e rm_c_P_holds s m ([.ref aP, .int x1] : List Value).toArray below meth c H locs 0 0 (MQ below (qs_i D (ty_ cI cT) (cp_ aY aB aG aP aC cI cT py po cb ga gb gd gc gx gy gu gs gp) (bz_i z) A) ([.ref aP, .int x1] : List Value).toArray s 0 0 A) (F0 m 246 ls [.int (bz_i s0), .int (bz_i s1)]) := by
    intro s0 s1 gc hf H locs ls hl hP hD hS
    unfold tc_P_holds_j246 at hf
    refine lv_icmp_ne (tgt := 253) hx hb d_P_holds_246 (by decide) (fun hc => ?_) (fun hc => ?_)
    · replace hf := (if_neg hc).symm.trans hf
      refine lv_iconst (v := (0 : Int32)) hx hb d_P_holds_253 (by decide) ?_
      have hq := Option.some.inj hf
      subst hq
      exact rt_i (r := bz_i false) X hr hlk hK (bz_n _) hP hD hS d_P_holds_254
    · replace hf := (if_pos hc).symm.trans hf
      refine lv_iconst (v := (1 : Int32)) hx hb d_P_holds_249 (by decide) ?_
      refine lv_goto (tgt := 254) hx hb d_P_holds_250 (by decide) ?_
      have hq := Option.some.inj hf
      subst hq
      exact rt_i (r := bz_i true) X hr hlk hK (bz_n _) hP hD hS d_P_holds_254
  have J245 : ∀ (s0 : Bool) (gc : Int32), tc_P_holds_j245 s0 gc = some z → ∀ (H : Heap) (locs : List Loc) (ls : Array Slot), lv_has ls 7 [] → va_P D cz_all (cp_ aY aB aG aP aC cI cT py po cb ga gb gd gc gx gy gu gs gp) H → va_D A (cp_ aY aB aG aP aC cI cT py po cb ga gb gd gc gx gy gu gs gp) → va_S A s.heap H locs → W p l e rm_c_P_holds s m ([.ref aP, .int x1] : List Value).toArray below meth c H locs 0 0 (MQ below (qs_i D (ty_ cI cT) (cp_ aY aB aG aP aC cI cT py po cb ga gb gd gc gx gy gu gs gp) (bz_i z) A) ([.ref aP, .int x1] : List Value).toArray s 0 0 A) (F0 m 245 ls [.int (bz_i s0)]) := by
    intro s0 gc hf H locs ls hl hP hD hS
    unfold tc_P_holds_j245 at hf
    refine lv_iconst (v := (0 : Int32)) hx hb d_P_holds_245 (by decide) ?_
    exact J246 false s0 gc hf _ _ _ hl hP hD hS
  have J219 : ∀ (s0 : Bool) (s1 : Bool) (gc : Int32), tc_P_holds_j219 s0 s1 gc = some z → ∀ (H : Heap) (locs : List Loc) (ls : Array Slot), lv_has ls 7 [] → va_P D cz_all (cp_ aY aB aG aP aC cI cT py po cb ga gb gd gc gx gy gu gs gp) H → va_D A (cp_ aY aB aG aP aC cI cT py po cb ga gb gd gc gx gy gu gs gp) → va_S A s.heap H locs → W p l e rm_c_P_holds s m ([.ref aP, .int x1] : List Value).toArray below meth c H locs 0 0 (MQ below (qs_i D (ty_ cI cT) (cp_ aY aB aG aP aC cI cT py po cb ga gb gd gc gx gy gu gs gp) (bz_i z) A) ([.ref aP, .int x1] : List Value).toArray s 0 0 A) (F0 m 219 ls [.int (bz_i s0), .int (bz_i s1)]) := by
    intro s0 s1 gc hf H locs ls hl hP hD hS
    unfold tc_P_holds_j219 at hf
    refine lv_icmp_ne (tgt := 226) hx hb d_P_holds_219 (by decide) (fun hc => ?_) (fun hc => ?_)
    · replace hf := (if_neg hc).symm.trans hf
      refine lv_iconst (v := (0 : Int32)) hx hb d_P_holds_226 (by decide) ?_
      have hq := Option.some.inj hf
      subst hq
      exact rt_i (r := bz_i false) X hr hlk hK (bz_n _) hP hD hS d_P_holds_227
    · replace hf := (if_pos hc).symm.trans hf
      refine lv_iconst (v := (1 : Int32)) hx hb d_P_holds_222 (by decide) ?_
      refine lv_goto (tgt := 227) hx hb d_P_holds_223 (by decide) ?_
      have hq := Option.some.inj hf
      subst hq
      exact rt_i (r := bz_i true) X hr hlk hK (bz_n _) hP hD hS d_P_holds_227
  have J197 : ∀ (s0 : Bool) (s1 : Bool) (gc : Int32), tc_P_holds_j197 s0 s1 gc = some z → ∀ (H : Heap) (locs : List Loc) (ls : Array Slot), lv_has ls 7 [] → va_P D cz_all (cp_ aY aB aG aP aC cI cT py po cb ga gb gd gc gx gy gu gs gp) H → va_D A (cp_ aY aB aG aP aC cI cT py po cb ga gb gd gc gx gy gu gs gp) → va_S A s.heap H locs → W p l e rm_c_P_holds s m ([.ref aP, .int x1] : List Value).toArray below meth c H locs 0 0 (MQ below (qs_i D (ty_ cI cT) (cp_ aY aB aG aP aC cI cT py po cb ga gb gd gc gx gy gu gs gp) (bz_i z) A) ([.ref aP, .int x1] : List Value).toArray s 0 0 A) (F0 m 197 ls [.int (bz_i s0), .int (bz_i s1)]) := by
    intro s0 s1 gc hf H locs ls hl hP hD hS
    unfold tc_P_holds_j197 at hf
    refine lv_icmp_ne (tgt := 204) hx hb d_P_holds_197 (by decide) (fun hc => ?_) (fun hc => ?_)
    · replace hf := (if_neg hc).symm.trans hf
      refine lv_iconst (v := (0 : Int32)) hx hb d_P_holds_204 (by decide) ?_
      have hq := Option.some.inj hf
      subst hq
      exact rt_i (r := bz_i false) X hr hlk hK (bz_n _) hP hD hS d_P_holds_205
    · replace hf := (if_pos hc).symm.trans hf
      refine lv_iconst (v := (1 : Int32)) hx hb d_P_holds_200 (by decide) ?_
      refine lv_goto (tgt := 205) hx hb d_P_holds_201 (by decide) ?_
      have hq := Option.some.inj hf
      subst hq
      exact rt_i (r := bz_i true) X hr hlk hK (bz_n _) hP hD hS d_P_holds_205
  have J176 : ∀ (s0 : Bool) (s1 : Bool) (gc : Int32), tc_P_holds_j176 s0 s1 gc = some z → ∀ (H : Heap) (locs : List Loc) (ls : Array Slot), lv_has ls 7 [] → va_P D cz_all (cp_ aY aB aG aP aC cI cT py po cb ga gb gd gc gx gy gu gs gp) H → va_D A (cp_ aY aB aG aP aC cI cT py po cb ga gb gd gc gx gy gu gs gp) → va_S A s.heap H locs → W p l e rm_c_P_holds s m ([.ref aP, .int x1] : List Value).toArray below meth c H locs 0 0 (MQ below (qs_i D (ty_ cI cT) (cp_ aY aB aG aP aC cI cT py po cb ga gb gd gc gx gy gu gs gp) (bz_i z) A) ([.ref aP, .int x1] : List Value).toArray s 0 0 A) (F0 m 176 ls [.int (bz_i s0), .int (bz_i s1)]) := by
    intro s0 s1 gc hf H locs ls hl hP hD hS
    unfold tc_P_holds_j176 at hf
    refine lv_icmp_ne (tgt := 183) hx hb d_P_holds_176 (by decide) (fun hc => ?_) (fun hc => ?_)
    · replace hf := (if_neg hc).symm.trans hf
      refine lv_iconst (v := (0 : Int32)) hx hb d_P_holds_183 (by decide) ?_
      have hq := Option.some.inj hf
      subst hq
      exact rt_i (r := bz_i false) X hr hlk hK (bz_n _) hP hD hS d_P_holds_184
    · replace hf := (if_pos hc).symm.trans hf
      refine lv_iconst (v := (1 : Int32)) hx hb d_P_holds_179 (by decide) ?_
      refine lv_goto (tgt := 184) hx hb d_P_holds_180 (by decide) ?_
      have hq := Option.some.inj hf
      subst hq
      exact rt_i (r := bz_i true) X hr hlk hK (bz_n _) hP hD hS d_P_holds_184
  have J156 : ∀ (s0 : Bool) (s1 : Bool) (gc : Int32), tc_P_holds_j156 s0 s1 gc = some z → ∀ (H : Heap) (locs : List Loc) (ls : Array Slot), lv_has ls 7 [] → va_P D cz_all (cp_ aY aB aG aP aC cI cT py po cb ga gb gd gc gx gy gu gs gp) H → va_D A (cp_ aY aB aG aP aC cI cT py po cb ga gb gd gc gx gy gu gs gp) → va_S A s.heap H locs → W p l e rm_c_P_holds s m ([.ref aP, .int x1] : List Value).toArray below meth c H locs 0 0 (MQ below (qs_i D (ty_ cI cT) (cp_ aY aB aG aP aC cI cT py po cb ga gb gd gc gx gy gu gs gp) (bz_i z) A) ([.ref aP, .int x1] : List Value).toArray s 0 0 A) (F0 m 156 ls [.int (bz_i s0), .int (bz_i s1)]) := by
    intro s0 s1 gc hf H locs ls hl hP hD hS
    unfold tc_P_holds_j156 at hf
    refine lv_icmp_ne (tgt := 163) hx hb d_P_holds_156 (by decide) (fun hc => ?_) (fun hc => ?_)
    · replace hf := (if_neg hc).symm.trans hf
      refine lv_iconst (v := (0 : Int32)) hx hb d_P_holds_163 (by decide) ?_
      have hq := Option.some.inj hf
      subst hq
      exact rt_i (r := bz_i false) X hr hlk hK (bz_n _) hP hD hS d_P_holds_164
    · replace hf := (if_pos hc).symm.trans hf
      refine lv_iconst (v := (1 : Int32)) hx hb d_P_holds_159 (by decide) ?_
      refine lv_goto (tgt := 164) hx hb d_P_holds_160 (by decide) ?_
      have hq := Option.some.inj hf
      subst hq
      exact rt_i (r := bz_i true) X hr hlk hK (bz_n _) hP hD hS d_P_holds_164
  have J135 : ∀ (s0 : Bool) (s1 : Bool) (gc : Int32), tc_P_holds_j135 s0 s1 gc = some z → ∀ (H : Heap) (locs : List Loc) (ls : Array Slot), lv_has ls 7 [] → va_P D cz_all (cp_ aY aB aG aP aC cI cT py po cb ga gb gd gc gx gy gu gs gp) H → va_D A (cp_ aY aB aG aP aC cI cT py po cb ga gb gd gc gx gy gu gs gp) → va_S A s.heap H locs → W p l e rm_c_P_holds s m ([.ref aP, .int x1] : List Value).toArray below meth c H locs 0 0 (MQ below (qs_i D (ty_ cI cT) (cp_ aY aB aG aP aC cI cT py po cb ga gb gd gc gx gy gu gs gp) (bz_i z) A) ([.ref aP, .int x1] : List Value).toArray s 0 0 A) (F0 m 135 ls [.int (bz_i s0), .int (bz_i s1)]) := by
    intro s0 s1 gc hf H locs ls hl hP hD hS
    unfold tc_P_holds_j135 at hf
    refine lv_icmp_ne (tgt := 142) hx hb d_P_holds_135 (by decide) (fun hc => ?_) (fun hc => ?_)
    · replace hf := (if_neg hc).symm.trans hf
      refine lv_iconst (v := (0 : Int32)) hx hb d_P_holds_142 (by decide) ?_
      have hq := Option.some.inj hf
      subst hq
      exact rt_i (r := bz_i false) X hr hlk hK (bz_n _) hP hD hS d_P_holds_143
    · replace hf := (if_pos hc).symm.trans hf
      refine lv_iconst (v := (1 : Int32)) hx hb d_P_holds_138 (by decide) ?_
      refine lv_goto (tgt := 143) hx hb d_P_holds_139 (by decide) ?_
      have hq := Option.some.inj hf
      subst hq
      exact rt_i (r := bz_i true) X hr hlk hK (bz_n _) hP hD hS d_P_holds_143
  have J115 : ∀ (s0 : Bool) (s1 : Bool) (gc : Int32), tc_P_holds_j115 s0 s1 gc = some z → ∀ (H : Heap) (locs : List Loc) (ls : Array Slot), lv_has ls 7 [] → va_P D cz_all (cp_ aY aB aG aP aC cI cT py po cb ga gb gd gc gx gy gu gs gp) H → va_D A (cp_ aY aB aG aP aC cI cT py po cb ga gb gd gc gx gy gu gs gp) → va_S A s.heap H locs → W p l e rm_c_P_holds s m ([.ref aP, .int x1] : List Value).toArray below meth c H locs 0 0 (MQ below (qs_i D (ty_ cI cT) (cp_ aY aB aG aP aC cI cT py po cb ga gb gd gc gx gy gu gs gp) (bz_i z) A) ([.ref aP, .int x1] : List Value).toArray s 0 0 A) (F0 m 115 ls [.int (bz_i s0), .int (bz_i s1)]) := by
    intro s0 s1 gc hf H locs ls hl hP hD hS
    unfold tc_P_holds_j115 at hf
    refine lv_icmp_ne (tgt := 122) hx hb d_P_holds_115 (by decide) (fun hc => ?_) (fun hc => ?_)
    · replace hf := (if_neg hc).symm.trans hf
      refine lv_iconst (v := (0 : Int32)) hx hb d_P_holds_122 (by decide) ?_
      have hq := Option.some.inj hf
      subst hq
      exact rt_i (r := bz_i false) X hr hlk hK (bz_n _) hP hD hS d_P_holds_123
    · replace hf := (if_pos hc).symm.trans hf
      refine lv_iconst (v := (1 : Int32)) hx hb d_P_holds_118 (by decide) ?_
      refine lv_goto (tgt := 123) hx hb d_P_holds_119 (by decide) ?_
      have hq := Option.some.inj hf
      subst hq
      exact rt_i (r := bz_i true) X hr hlk hK (bz_n _) hP hD hS d_P_holds_123
  have J114 : ∀ (s0 : Bool) (gc : Int32), tc_P_holds_j114 s0 gc = some z → ∀ (H : Heap) (locs : List Loc) (ls : Array Slot), lv_has ls 7 [] → va_P D cz_all (cp_ aY aB aG aP aC cI cT py po cb ga gb gd gc gx gy gu gs gp) H → va_D A (cp_ aY aB aG aP aC cI cT py po cb ga gb gd gc gx gy gu gs gp) → va_S A s.heap H locs → W p l e rm_c_P_holds s m ([.ref aP, .int x1] : List Value).toArray below meth c H locs 0 0 (MQ below (qs_i D (ty_ cI cT) (cp_ aY aB aG aP aC cI cT py po cb ga gb gd gc gx gy gu gs gp) (bz_i z) A) ([.ref aP, .int x1] : List Value).toArray s 0 0 A) (F0 m 114 ls [.int (bz_i s0)]) := by
    intro s0 gc hf H locs ls hl hP hD hS
    unfold tc_P_holds_j114 at hf
    refine lv_iconst (v := (0 : Int32)) hx hb d_P_holds_114 (by decide) ?_
    exact J115 false s0 gc hf _ _ _ hl hP hD hS
  have J50 : ∀ (v1 : Int32) (v2 : Bool) (v3 : Bool) (v4 : Bool) (v5 : Bool) (s0 : Bool) (gc : Int32), tc_P_holds_j50 v1 v2 v3 v4 v5 s0 gc = some z → ∀ (H : Heap) (locs : List Loc) (ls : Array Slot), lv_has ls 7 [(1, .int v1), (2, .int (bz_i v2)), (3, .int (bz_i v3)), (4, .int (bz_i v4)), (5, .int (bz_i v5))] → va_P D cz_all (cp_ aY aB aG aP aC cI cT py po cb ga gb gd gc gx gy gu gs gp) H → va_D A (cp_ aY aB aG aP aC cI cT py po cb ga gb gd gc gx gy gu gs gp) → va_S A s.heap H locs → W p l e rm_c_P_holds s m ([.ref aP, .int x1] : List Value).toArray below meth c H locs 0 0 (MQ below (qs_i D (ty_ cI cT) (cp_ aY aB aG aP aC cI cT py po cb ga gb gd gc gx gy gu gs gp) (bz_i z) A) ([.ref aP, .int x1] : List Value).toArray s 0 0 A) (F0 m 50 ls [.int (bz_i s0)]) := by
    intro v1 v2 v3 v4 v5 s0 gc hf H locs ls hl hP hD hS
    unfold tc_P_holds_j50 at hf
    refine lv_istore hx hb d_P_holds_50 hl (by decide) rfl (fun ls hl => ?_)
    have hl : lv_has ls 7 [(6, .int (bz_i s0)), (1, .int v1), (2, .int (bz_i v2)), (3, .int (bz_i v3)), (4, .int (bz_i v4)), (5, .int (bz_i v5))] := hl
    refine lv_iload_n hx hb d_P_holds_52 rfl (lv_at hl 1 rfl) ?_
    refine lv_iconst (v := (1 : Int32)) hx hb d_P_holds_53 (by decide) ?_
    refine lv_ishr hx hb d_P_holds_54 ?_
    by_cases hk5 : (v1 >>> ((1 : Int32) &&& 31)) = (0 : Int32)
    · replace hf := (if_pos hk5).symm.trans hf
      refine lv_tableIn (tgt := 96) (off := 41) hx hb d_P_holds_55 (by rw [hk5]; decide) (by rw [hk5]; decide) (by rw [hk5]; rfl) (by decide) ?_
      refine lv_iload hx hb d_P_holds_96 (lv_at hl 0 rfl) ?_
      have hq := Option.some.inj hf
      subst hq
      exact rt_i (r := bz_i s0) X hr hlk hK (bz_n _) hP hD hS d_P_holds_98
    · replace hf := (if_neg hk5).symm.trans hf
      by_cases hk6 : (v1 >>> ((1 : Int32) &&& 31)) = (1 : Int32)
      · replace hf := (if_pos hk6).symm.trans hf
        refine lv_tableIn (tgt := 99) (off := 44) hx hb d_P_holds_55 (by rw [hk6]; decide) (by rw [hk6]; decide) (by rw [hk6]; rfl) (by decide) ?_
        refine lv_iload hx hb d_P_holds_99 (lv_at hl 0 rfl) ?_
        refine lv_iload_n hx hb d_P_holds_101 rfl (lv_at hl 2 rfl) ?_
        refine lv_if_ne (tgt := 114) hx hb d_P_holds_102 (by decide) (fun hc => ?_) (fun hc => ?_)
        · replace hf := (if_neg hc).symm.trans hf
          exact J114 s0 gc hf _ _ _ (lv_sub hl [] rfl) hP hD hS
        · replace hf := (if_pos hc).symm.trans hf
          refine lv_iload hx hb d_P_holds_105 (lv_at hl 4 rfl) ?_
          refine lv_if_ne (tgt := 114) hx hb d_P_holds_107 (by decide) (fun hc => ?_) (fun hc => ?_)
          · replace hf := (if_neg hc).symm.trans hf
            exact J114 s0 gc hf _ _ _ (lv_sub hl [] rfl) hP hD hS
          · replace hf := (if_pos hc).symm.trans hf
            refine lv_iconst (v := (1 : Int32)) hx hb d_P_holds_110 (by decide) ?_
            refine lv_goto (tgt := 115) hx hb d_P_holds_111 (by decide) ?_
            exact J115 true s0 gc hf _ _ _ (lv_sub hl [] rfl) hP hD hS
      · replace hf := (if_neg hk6).symm.trans hf
        by_cases hk7 : (v1 >>> ((1 : Int32) &&& 31)) = (2 : Int32)
        · replace hf := (if_pos hk7).symm.trans hf
          refine lv_tableIn (tgt := 124) (off := 69) hx hb d_P_holds_55 (by rw [hk7]; decide) (by rw [hk7]; decide) (by rw [hk7]; rfl) (by decide) ?_
          refine lv_iload hx hb d_P_holds_124 (lv_at hl 0 rfl) ?_
          refine lv_iload_n hx hb d_P_holds_126 rfl (lv_at hl 2 rfl) ?_
          refine lv_if_ne (tgt := 134) hx hb d_P_holds_127 (by decide) (fun hc => ?_) (fun hc => ?_)
          · replace hf := (if_neg hc).symm.trans hf
            refine lv_iconst (v := (0 : Int32)) hx hb d_P_holds_134 (by decide) ?_
            exact J135 false s0 gc hf _ _ _ (lv_sub hl [] rfl) hP hD hS
          · replace hf := (if_pos hc).symm.trans hf
            refine lv_iconst (v := (1 : Int32)) hx hb d_P_holds_130 (by decide) ?_
            refine lv_goto (tgt := 135) hx hb d_P_holds_131 (by decide) ?_
            exact J135 true s0 gc hf _ _ _ (lv_sub hl [] rfl) hP hD hS
        · replace hf := (if_neg hk7).symm.trans hf
          by_cases hk8 : (v1 >>> ((1 : Int32) &&& 31)) = (3 : Int32)
          · replace hf := (if_pos hk8).symm.trans hf
            refine lv_tableIn (tgt := 144) (off := 89) hx hb d_P_holds_55 (by rw [hk8]; decide) (by rw [hk8]; decide) (by rw [hk8]; rfl) (by decide) ?_
            refine lv_iload hx hb d_P_holds_144 (lv_at hl 0 rfl) ?_
            refine lv_iload hx hb d_P_holds_146 (lv_at hl 4 rfl) ?_
            refine lv_if_ne (tgt := 155) hx hb d_P_holds_148 (by decide) (fun hc => ?_) (fun hc => ?_)
            · replace hf := (if_neg hc).symm.trans hf
              refine lv_iconst (v := (0 : Int32)) hx hb d_P_holds_155 (by decide) ?_
              exact J156 false s0 gc hf _ _ _ (lv_sub hl [] rfl) hP hD hS
            · replace hf := (if_pos hc).symm.trans hf
              refine lv_iconst (v := (1 : Int32)) hx hb d_P_holds_151 (by decide) ?_
              refine lv_goto (tgt := 156) hx hb d_P_holds_152 (by decide) ?_
              exact J156 true s0 gc hf _ _ _ (lv_sub hl [] rfl) hP hD hS
          · replace hf := (if_neg hk8).symm.trans hf
            by_cases hk9 : (v1 >>> ((1 : Int32) &&& 31)) = (4 : Int32)
            · replace hf := (if_pos hk9).symm.trans hf
              refine lv_tableIn (tgt := 165) (off := 110) hx hb d_P_holds_55 (by rw [hk9]; decide) (by rw [hk9]; decide) (by rw [hk9]; rfl) (by decide) ?_
              refine lv_iload hx hb d_P_holds_165 (lv_at hl 0 rfl) ?_
              refine lv_iload_n hx hb d_P_holds_167 rfl (lv_at hl 3 rfl) ?_
              refine lv_if_ne (tgt := 175) hx hb d_P_holds_168 (by decide) (fun hc => ?_) (fun hc => ?_)
              · replace hf := (if_neg hc).symm.trans hf
                refine lv_iconst (v := (0 : Int32)) hx hb d_P_holds_175 (by decide) ?_
                exact J176 false s0 gc hf _ _ _ (lv_sub hl [] rfl) hP hD hS
              · replace hf := (if_pos hc).symm.trans hf
                refine lv_iconst (v := (1 : Int32)) hx hb d_P_holds_171 (by decide) ?_
                refine lv_goto (tgt := 176) hx hb d_P_holds_172 (by decide) ?_
                exact J176 true s0 gc hf _ _ _ (lv_sub hl [] rfl) hP hD hS
            · replace hf := (if_neg hk9).symm.trans hf
              by_cases hk10 : (v1 >>> ((1 : Int32) &&& 31)) = (5 : Int32)
              · replace hf := (if_pos hk10).symm.trans hf
                refine lv_tableIn (tgt := 185) (off := 130) hx hb d_P_holds_55 (by rw [hk10]; decide) (by rw [hk10]; decide) (by rw [hk10]; rfl) (by decide) ?_
                refine lv_iload hx hb d_P_holds_185 (lv_at hl 0 rfl) ?_
                refine lv_iload hx hb d_P_holds_187 (lv_at hl 5 rfl) ?_
                refine lv_if_ne (tgt := 196) hx hb d_P_holds_189 (by decide) (fun hc => ?_) (fun hc => ?_)
                · replace hf := (if_neg hc).symm.trans hf
                  refine lv_iconst (v := (0 : Int32)) hx hb d_P_holds_196 (by decide) ?_
                  exact J197 false s0 gc hf _ _ _ (lv_sub hl [] rfl) hP hD hS
                · replace hf := (if_pos hc).symm.trans hf
                  refine lv_iconst (v := (1 : Int32)) hx hb d_P_holds_192 (by decide) ?_
                  refine lv_goto (tgt := 197) hx hb d_P_holds_193 (by decide) ?_
                  exact J197 true s0 gc hf _ _ _ (lv_sub hl [] rfl) hP hD hS
              · replace hf := (if_neg hk10).symm.trans hf
                by_cases hk11 : (v1 >>> ((1 : Int32) &&& 31)) = (6 : Int32)
                · replace hf := (if_pos hk11).symm.trans hf
                  refine lv_tableIn (tgt := 206) (off := 151) hx hb d_P_holds_55 (by rw [hk11]; decide) (by rw [hk11]; decide) (by rw [hk11]; rfl) (by decide) ?_
                  refine lv_iload hx hb d_P_holds_206 (lv_at hl 0 rfl) ?_
                  refine lv_iload hx hb d_P_holds_208 (lv_at hl 5 rfl) ?_
                  refine lv_iload_n hx hb d_P_holds_210 rfl (lv_at hl 3 rfl) ?_
                  refine lv_icmp_ne (tgt := 218) hx hb d_P_holds_211 (by decide) (fun hc => ?_) (fun hc => ?_)
                  · replace hf := (if_neg hc).symm.trans hf
                    refine lv_iconst (v := (0 : Int32)) hx hb d_P_holds_218 (by decide) ?_
                    exact J219 false s0 gc hf _ _ _ (lv_sub hl [] rfl) hP hD hS
                  · replace hf := (if_pos hc).symm.trans hf
                    refine lv_iconst (v := (1 : Int32)) hx hb d_P_holds_214 (by decide) ?_
                    refine lv_goto (tgt := 219) hx hb d_P_holds_215 (by decide) ?_
                    exact J219 true s0 gc hf _ _ _ (lv_sub hl [] rfl) hP hD hS
                · replace hf := (if_neg hk11).symm.trans hf
                  refine lv_tableOut (tgt := 228) hx hb d_P_holds_55 (by have q0 := lv_neT hk5 (show Int32.toInt (0 : Int32) = 0 by decide); have q1 := lv_neT hk6 (show Int32.toInt (1 : Int32) = 1 by decide); have q2 := lv_neT hk7 (show Int32.toInt (2 : Int32) = 2 by decide); have q3 := lv_neT hk8 (show Int32.toInt (3 : Int32) = 3 by decide); have q4 := lv_neT hk9 (show Int32.toInt (4 : Int32) = 4 by decide); have q5 := lv_neT hk10 (show Int32.toInt (5 : Int32) = 5 by decide); have q6 := lv_neT hk11 (show Int32.toInt (6 : Int32) = 6 by decide); omega) (by decide) ?_
                  refine lv_iload hx hb d_P_holds_228 (lv_at hl 0 rfl) ?_
                  refine lv_iload hx hb d_P_holds_230 (lv_at hl 5 rfl) ?_
                  refine lv_iload_n hx hb d_P_holds_232 rfl (lv_at hl 3 rfl) ?_
                  refine lv_icmp_ne (tgt := 245) hx hb d_P_holds_233 (by decide) (fun hc => ?_) (fun hc => ?_)
                  · replace hf := (if_neg hc).symm.trans hf
                    exact J245 s0 gc hf _ _ _ (lv_sub hl [] rfl) hP hD hS
                  · replace hf := (if_pos hc).symm.trans hf
                    refine lv_iload hx hb d_P_holds_236 (lv_at hl 4 rfl) ?_
                    refine lv_if_ne (tgt := 245) hx hb d_P_holds_238 (by decide) (fun hc => ?_) (fun hc => ?_)
                    · replace hf := (if_neg hc).symm.trans hf
                      exact J245 s0 gc hf _ _ _ (lv_sub hl [] rfl) hP hD hS
                    · replace hf := (if_pos hc).symm.trans hf
                      refine lv_iconst (v := (1 : Int32)) hx hb d_P_holds_241 (by decide) ?_
                      refine lv_goto (tgt := 246) hx hb d_P_holds_242 (by decide) ?_
                      exact J246 true s0 gc hf _ _ _ (lv_sub hl [] rfl) hP hD hS
  unfold tc_P_holds at hf
  refine lv_aload_n hx hb d_P_holds_0 rfl (lv_at hl 0 rfl) ?_
  refine cp_g_P_registers_P X hK hP d_P_holds_1 ?_
  refine lv_iconst (v := (1 : Int32)) hx hb d_P_holds_4 (by decide) ?_
  obtain ⟨z12, hz12, hf⟩ := op_b hf
  refine cf_i (ws2 := (cp_ aY aB aG aP aC cI cT py po cb ga gb gd gc gx gy gu gs gp)) X cx_P_171 hK hP hD hS hA hZ hl (c_tc_G_has (aG := aG) (ga := ga) (gb := gb) (gd := gd) (gc := gc) (gx := gx) (gy := gy) (gu := gu) (gs := gs) (gp := gp) hz12) ⟨rfl, rfl, Nat.le_of_ble_eq_true rfl, Nat.le_of_ble_eq_true rfl⟩ [3] [0, 1, 2, 4] [0, 1, 2, 4, 3] rfl rfl rfl rfl (by decide) rfl rfl 0 rfl rfl rfl rfl rfl (Nat.le_of_ble_eq_true rfl) d_P_holds_5 (fun H locs hP hD hS => ?_)
  refine lv_istore_n hx hb d_P_holds_8 rfl hl (by decide) rfl (fun ls hl => ?_)
  have hl : lv_has ls 7 [(2, .int (bz_i z12)), (0, .ref aP), (1, .int x1)] := hl
  refine lv_aload_n hx hb d_P_holds_9 rfl (lv_at hl 1 rfl) ?_
  refine cp_g_P_registers_P X hK hP d_P_holds_10 ?_
  refine lv_iconst (v := (2 : Int32)) hx hb d_P_holds_13 (by decide) ?_
  obtain ⟨z13, hz13, hf⟩ := op_b hf
  refine cf_i (ws2 := (cp_ aY aB aG aP aC cI cT py po cb ga gb gd gc gx gy gu gs gp)) X cx_P_171 hK hP hD hS hA hZ hl (c_tc_G_has (aG := aG) (ga := ga) (gb := gb) (gd := gd) (gc := gc) (gx := gx) (gy := gy) (gu := gu) (gs := gs) (gp := gp) hz13) ⟨rfl, rfl, Nat.le_of_ble_eq_true rfl, Nat.le_of_ble_eq_true rfl⟩ [3] [0, 1, 2, 4] [0, 1, 2, 4, 3] rfl rfl rfl rfl (by decide) rfl rfl 0 rfl rfl rfl rfl rfl (Nat.le_of_ble_eq_true rfl) d_P_holds_14 (fun H locs hP hD hS => ?_)
  refine lv_istore_n hx hb d_P_holds_17 rfl hl (by decide) rfl (fun ls hl => ?_)
  have hl : lv_has ls 7 [(3, .int (bz_i z13)), (2, .int (bz_i z12)), (0, .ref aP), (1, .int x1)] := hl
  refine lv_aload_n hx hb d_P_holds_18 rfl (lv_at hl 2 rfl) ?_
  refine cp_g_P_registers_P X hK hP d_P_holds_19 ?_
  refine lv_iconst (v := (4 : Int32)) hx hb d_P_holds_22 (by decide) ?_
  obtain ⟨z14, hz14, hf⟩ := op_b hf
  refine cf_i (ws2 := (cp_ aY aB aG aP aC cI cT py po cb ga gb gd gc gx gy gu gs gp)) X cx_P_171 hK hP hD hS hA hZ hl (c_tc_G_has (aG := aG) (ga := ga) (gb := gb) (gd := gd) (gc := gc) (gx := gx) (gy := gy) (gu := gu) (gs := gs) (gp := gp) hz14) ⟨rfl, rfl, Nat.le_of_ble_eq_true rfl, Nat.le_of_ble_eq_true rfl⟩ [3] [0, 1, 2, 4] [0, 1, 2, 4, 3] rfl rfl rfl rfl (by decide) rfl rfl 0 rfl rfl rfl rfl rfl (Nat.le_of_ble_eq_true rfl) d_P_holds_23 (fun H locs hP hD hS => ?_)
  refine lv_istore hx hb d_P_holds_26 hl (by decide) rfl (fun ls hl => ?_)
  have hl : lv_has ls 7 [(4, .int (bz_i z14)), (3, .int (bz_i z13)), (2, .int (bz_i z12)), (0, .ref aP), (1, .int x1)] := hl
  refine lv_aload_n hx hb d_P_holds_28 rfl (lv_at hl 3 rfl) ?_
  refine cp_g_P_registers_P X hK hP d_P_holds_29 ?_
  refine lv_bipush (v := (8 : Int32)) hx hb d_P_holds_32 (by decide) ?_
  obtain ⟨z15, hz15, hf⟩ := op_b hf
  refine cf_i (ws2 := (cp_ aY aB aG aP aC cI cT py po cb ga gb gd gc gx gy gu gs gp)) X cx_P_171 hK hP hD hS hA hZ hl (c_tc_G_has (aG := aG) (ga := ga) (gb := gb) (gd := gd) (gc := gc) (gx := gx) (gy := gy) (gu := gu) (gs := gs) (gp := gp) hz15) ⟨rfl, rfl, Nat.le_of_ble_eq_true rfl, Nat.le_of_ble_eq_true rfl⟩ [3] [0, 1, 2, 4] [0, 1, 2, 4, 3] rfl rfl rfl rfl (by decide) rfl rfl 0 rfl rfl rfl rfl rfl (Nat.le_of_ble_eq_true rfl) d_P_holds_34 (fun H locs hP hD hS => ?_)
  refine lv_istore hx hb d_P_holds_37 hl (by decide) rfl (fun ls hl => ?_)
  have hl : lv_has ls 7 [(5, .int (bz_i z15)), (4, .int (bz_i z14)), (3, .int (bz_i z13)), (2, .int (bz_i z12)), (0, .ref aP), (1, .int x1)] := hl
  refine lv_iload_n hx hb d_P_holds_39 rfl (lv_at hl 5 rfl) ?_
  refine lv_iconst (v := (1 : Int32)) hx hb d_P_holds_40 (by decide) ?_
  refine lv_iand hx hb d_P_holds_41 ?_
  refine lv_if_ne (tgt := 49) hx hb d_P_holds_42 (by decide) (fun hc => ?_) (fun hc => ?_)
  · replace hf := (if_neg hc).symm.trans hf
    refine lv_iconst (v := (0 : Int32)) hx hb d_P_holds_49 (by decide) ?_
    exact J50 x1 z12 z13 z14 z15 false gc hf _ _ _ (lv_sub hl [5, 3, 2, 1, 0] rfl) hP hD hS
  · replace hf := (if_pos hc).symm.trans hf
    refine lv_iconst (v := (1 : Int32)) hx hb d_P_holds_45 (by decide) ?_
    refine lv_goto (tgt := 50) hx hb d_P_holds_46 (by decide) ?_
    exact J50 x1 z12 z13 z14 z15 true gc hf _ _ _ (lv_sub hl [5, 3, 2, 1, 0] rfl) hP hD hS
set_option maxHeartbeats 4000000 in
set_option maxRecDepth 100000 in
theorem c_tc_P_branch {x1 : Int32} {z : Int32 × Int32} (hf : tc_P_branch x1 py cb gc gp = some z) : cs_v l my_P_branch mb_P_branch 3 rm_c_P_branch D (ty_ cI cT) [.ref aP, .int x1] (cp_ aY aB aG aP aC cI cT py po cb ga gb gd gc gx gy gu gs gp) (cp_ aY aB aG aP aC cI cT z.1 po cb ga gb gd gc gx gy gu gs z.2) := by
  refine cs_v_of (by decide) (Nat.le_of_ble_eq_true rfl) ?_
  intro p e s m below meth c A ls X hr hlk hK hP hD hS hA hZ hl
  have hx := X.1
  have hb := X.2.1
  have hl : lv_has ls 3 [(0, .ref aP), (1, .int x1)] := hl
  unfold tc_P_branch at hf
  refine lv_aload_n hx hb d_P_branch_0 rfl (lv_at hl 0 rfl) ?_
  refine lv_iconst (v := (1 : Int32)) hx hb d_P_branch_1 (by decide) ?_
  obtain ⟨z4, hz4, hf⟩ := op_b hf
  refine cf_i (ws2 := (cp_ aY aB aG aP aC cI cT z4.2.1 po cb ga gb gd gc gx gy gu gs z4.2.2)) X cx_P_35 hK hP hD hS hA hZ hl (c_tc_P_fetch (aY := aY) (aB := aB) (aG := aG) (aP := aP) (aC := aC) (py := py) (po := po) (cb := cb) (ga := ga) (gb := gb) (gd := gd) (gc := gc) (gx := gx) (gy := gy) (gu := gu) (gs := gs) (gp := gp) hz4) ⟨rfl, rfl, Nat.le_of_ble_eq_true rfl, Nat.le_of_ble_eq_true rfl⟩ [0, 1, 2, 3, 4] [] [0, 1, 2, 3, 4] rfl rfl rfl rfl (by decide) rfl rfl 0 rfl rfl rfl rfl rfl (Nat.le_of_ble_eq_true rfl) d_P_branch_2 (fun H locs hP hD hS => ?_)
  refine lv_iconst (v := (1 : Int32)) hx hb d_P_branch_5 (by decide) ?_
  obtain ⟨z5, hz5, hf⟩ := op_b hf
  refine cf_si X cx_P_138 hK hP hD hS hA hZ hl (c_tc_C_signed (w := (cp_ aY aB aG aP aC cI cT z4.2.1 po cb ga gb gd gc gx gy gu gs z4.2.2)) hz5) ⟨rfl, rfl, Nat.le_of_ble_eq_true rfl, Nat.le_of_ble_eq_true rfl⟩ rfl rfl (Nat.le_of_ble_eq_true rfl) d_P_branch_6 (fun H locs hP hD hS => ?_)
  refine lv_istore_n hx hb d_P_branch_9 rfl hl (by decide) rfl (fun ls hl => ?_)
  have hl : lv_has ls 3 [(2, .int z5), (0, .ref aP), (1, .int x1)] := hl
  refine lv_aload_n hx hb d_P_branch_10 rfl (lv_at hl 1 rfl) ?_
  refine lv_iload_n hx hb d_P_branch_11 rfl (lv_at hl 2 rfl) ?_
  obtain ⟨z6, hz6, hf⟩ := op_b hf
  refine cf_i (ws2 := (cp_ aY aB aG aP aC cI cT z4.2.1 po cb ga gb gd gc gx gy gu gs z4.2.2)) X cx_P_168 hK hP hD hS hA hZ hl (c_tc_P_holds (aY := aY) (aB := aB) (aG := aG) (aP := aP) (aC := aC) (py := z4.2.1) (po := po) (cb := cb) (ga := ga) (gb := gb) (gd := gd) (gc := gc) (gx := gx) (gy := gy) (gu := gu) (gs := gs) (gp := z4.2.2) hz6) ⟨rfl, rfl, Nat.le_of_ble_eq_true rfl, Nat.le_of_ble_eq_true rfl⟩ [0, 1, 2, 3, 4] [] [0, 1, 2, 3, 4] rfl rfl rfl rfl (by decide) rfl rfl 0 rfl rfl rfl rfl rfl (Nat.le_of_ble_eq_true rfl) d_P_branch_12 (fun H locs hP hD hS => ?_)
  refine lv_if_eq (tgt := 37) hx hb d_P_branch_15 (by decide) (fun hc => ?_) (fun hc => ?_)
  · replace hf := (if_pos hc).symm.trans hf
    have hq := Option.some.inj hf
    subst hq
    exact rt_v X hr hlk hK hP hD hS d_P_branch_37
  · replace hf := (if_neg hc).symm.trans hf
    refine lv_aload_n hx hb d_P_branch_18 rfl (lv_at hl 1 rfl) ?_
    refine cp_g_P_registers_P X hK hP d_P_branch_19 ?_
    refine lv_aload_n hx hb d_P_branch_22 rfl (lv_at hl 1 rfl) ?_
    refine cp_g_P_registers_P X hK hP d_P_branch_23 ?_
    refine cp_g_G_pc_P X hK hP d_P_branch_26 ?_
    refine lv_iload_n hx hb d_P_branch_29 rfl (lv_at hl 0 rfl) ?_
    refine lv_iadd hx hb d_P_branch_30 ?_
    refine lv_ldc (v := (65535 : Int32)) hx hb X.2.2.2.1 (X.2.2.2.2 _ ww_4) d_P_branch_31 ?_
    refine lv_iand hx hb d_P_branch_33 ?_
    refine cp_p_G_pc_P (x := ((z4.2.2 + z5) &&& (65535 : Int32))) X hK hP hD hS d_P_branch_34 (fun H locs hP hD hS => ?_)
    have hq := Option.some.inj hf
    subst hq
    exact rt_v X hr hlk hK hP hD hS d_P_branch_37
set_option maxHeartbeats 4000000 in
set_option maxRecDepth 100000 in
theorem c_tc_P_loadAddress {x1 : Int32} {z : Int32 × Int32 × Int32 × Int32 × Int32 × Int32 × Int32 × Int32 × Int32 × Int32 × Int32} (hf : tc_P_loadAddress x1 py po cb ga gb gd gc gx gy gu gs gp = some z) : cs_v l my_P_loadAddress mb_P_loadAddress 3 rm_c_P_loadAddress D (ty_ cI cT) [.ref aP, .int x1] (cp_ aY aB aG aP aC cI cT py po cb ga gb gd gc gx gy gu gs gp) (cp_ aY aB aG aP aC cI cT z.1 z.2.1 cb z.2.2.1 z.2.2.2.1 z.2.2.2.2.1 z.2.2.2.2.2.1 z.2.2.2.2.2.2.1 z.2.2.2.2.2.2.2.1 z.2.2.2.2.2.2.2.2.1 z.2.2.2.2.2.2.2.2.2.1 z.2.2.2.2.2.2.2.2.2.2) := by
  refine cs_v_of (by decide) (Nat.le_of_ble_eq_true rfl) ?_
  intro p e s m below meth c A ls X hr hlk hK hP hD hS hA hZ hl
  have hx := X.1
  have hb := X.2.1
  have hl : lv_has ls 3 [(0, .ref aP), (1, .int x1)] := hl
  have J38 : ∀ (s0 : Int32) (py : Int32) (po : Int32) (cb : Nat → Int32) (ga : Int32) (gb : Int32) (gd : Int32) (gc : Int32) (gx : Int32) (gy : Int32) (gu : Int32) (gs : Int32) (gp : Int32), tc_P_loadAddress_j38 s0 py po cb ga gb gd gc gx gy gu gs gp = some z → ∀ (H : Heap) (locs : List Loc) (ls : Array Slot), lv_has ls 3 [] → va_P D cz_all (cp_ aY aB aG aP aC cI cT py po cb ga gb gd gc gx gy gu gs gp) H → va_D A (cp_ aY aB aG aP aC cI cT py po cb ga gb gd gc gx gy gu gs gp) → va_S A s.heap H locs → W p l e rm_c_P_loadAddress s m ([.ref aP, .int x1] : List Value).toArray below meth c H locs 0 0 (MQ below (qs_v D (ty_ cI cT) (cp_ aY aB aG aP aC cI cT z.1 z.2.1 cb z.2.2.1 z.2.2.2.1 z.2.2.2.2.1 z.2.2.2.2.2.1 z.2.2.2.2.2.2.1 z.2.2.2.2.2.2.2.1 z.2.2.2.2.2.2.2.2.1 z.2.2.2.2.2.2.2.2.2.1 z.2.2.2.2.2.2.2.2.2.2) A) ([.ref aP, .int x1] : List Value).toArray s 0 0 A) (F0 m 38 ls [.int s0, .int (4 : Int32), .ref aG]) := by
    intro s0 py po cb ga gb gd gc gx gy gu gs gp hf H locs ls hl hP hD hS
    unfold tc_P_loadAddress_j38 at hf
    obtain ⟨z5, hz5, hf⟩ := op_b hf
    refine cf_v (ws2 := (cp_ aY aB aG aP aC cI cT py po cb ga gb gd z5 gx gy gu gs gp)) X cx_P_198 hK hP hD hS hA hZ hl (c_tc_G_setFlags (aG := aG) (ga := ga) (gb := gb) (gd := gd) (gc := gc) (gx := gx) (gy := gy) (gu := gu) (gs := gs) (gp := gp) hz5) ⟨rfl, rfl, Nat.le_of_ble_eq_true rfl, Nat.le_of_ble_eq_true rfl⟩ [3] [0, 1, 2, 4] [0, 1, 2, 4, 3] rfl rfl rfl rfl (by decide) rfl rfl 0 rfl rfl rfl rfl rfl (Nat.le_of_ble_eq_true rfl) d_P_loadAddress_38 (fun H locs hP hD hS => ?_)
    have hq := Option.some.inj hf
    subst hq
    exact rt_v X hr hlk hK hP hD hS d_P_loadAddress_41
  have J24 : ∀ (v2 : Int32) (py : Int32) (po : Int32) (cb : Nat → Int32) (ga : Int32) (gb : Int32) (gd : Int32) (gc : Int32) (gx : Int32) (gy : Int32) (gu : Int32) (gs : Int32) (gp : Int32), tc_P_loadAddress_j24 v2 py po cb ga gb gd gc gx gy gu gs gp = some z → ∀ (H : Heap) (locs : List Loc) (ls : Array Slot), lv_has ls 3 [(0, .ref aP), (2, .int v2)] → va_P D cz_all (cp_ aY aB aG aP aC cI cT py po cb ga gb gd gc gx gy gu gs gp) H → va_D A (cp_ aY aB aG aP aC cI cT py po cb ga gb gd gc gx gy gu gs gp) → va_S A s.heap H locs → W p l e rm_c_P_loadAddress s m ([.ref aP, .int x1] : List Value).toArray below meth c H locs 0 0 (MQ below (qs_v D (ty_ cI cT) (cp_ aY aB aG aP aC cI cT z.1 z.2.1 cb z.2.2.1 z.2.2.2.1 z.2.2.2.2.1 z.2.2.2.2.2.1 z.2.2.2.2.2.2.1 z.2.2.2.2.2.2.2.1 z.2.2.2.2.2.2.2.2.1 z.2.2.2.2.2.2.2.2.2.1 z.2.2.2.2.2.2.2.2.2.2) A) ([.ref aP, .int x1] : List Value).toArray s 0 0 A) (F0 m 24 ls []) := by
    intro v2 py po cb ga gb gd gc gx gy gu gs gp hf H locs ls hl hP hD hS
    unfold tc_P_loadAddress_j24 at hf
    refine lv_aload_n hx hb d_P_loadAddress_24 rfl (lv_at hl 0 rfl) ?_
    refine cp_g_P_registers_P X hK hP d_P_loadAddress_25 ?_
    refine lv_iconst (v := (4 : Int32)) hx hb d_P_loadAddress_28 (by decide) ?_
    refine lv_iload_n hx hb d_P_loadAddress_29 rfl (lv_at hl 1 rfl) ?_
    refine lv_if_ne (tgt := 37) hx hb d_P_loadAddress_30 (by decide) (fun hc => ?_) (fun hc => ?_)
    · replace hf := (if_neg hc).symm.trans hf
      refine lv_iconst (v := (0 : Int32)) hx hb d_P_loadAddress_37 (by decide) ?_
      exact J38 (0 : Int32) py po cb ga gb gd gc gx gy gu gs gp hf _ _ _ (lv_sub hl [] rfl) hP hD hS
    · replace hf := (if_pos hc).symm.trans hf
      refine lv_iconst (v := (4 : Int32)) hx hb d_P_loadAddress_33 (by decide) ?_
      refine lv_goto (tgt := 38) hx hb d_P_loadAddress_34 (by decide) ?_
      exact J38 (4 : Int32) py po cb ga gb gd gc gx gy gu gs gp hf _ _ _ (lv_sub hl [] rfl) hP hD hS
  unfold tc_P_loadAddress at hf
  refine lv_aload_n hx hb d_P_loadAddress_0 rfl (lv_at hl 0 rfl) ?_
  obtain ⟨z6, hz6, hf⟩ := op_b hf
  refine cf_i (ws2 := (cp_ aY aB aG aP aC cI cT z6.2.1 z6.2.2.1 cb z6.2.2.2.1 z6.2.2.2.2.1 z6.2.2.2.2.2.1 z6.2.2.2.2.2.2.1 z6.2.2.2.2.2.2.2.1 z6.2.2.2.2.2.2.2.2.1 z6.2.2.2.2.2.2.2.2.2.1 z6.2.2.2.2.2.2.2.2.2.2.1 z6.2.2.2.2.2.2.2.2.2.2.2)) X cx_P_128 hK hP hD hS hA hZ hl (c_tc_P_indexedAddress (aY := aY) (aB := aB) (aG := aG) (aP := aP) (aC := aC) (py := py) (po := po) (cb := cb) (ga := ga) (gb := gb) (gd := gd) (gc := gc) (gx := gx) (gy := gy) (gu := gu) (gs := gs) (gp := gp) hz6) ⟨rfl, rfl, Nat.le_of_ble_eq_true rfl, Nat.le_of_ble_eq_true rfl⟩ [0, 1, 2, 3, 4] [] [0, 1, 2, 3, 4] rfl rfl rfl rfl (by decide) rfl rfl 0 rfl rfl rfl rfl rfl (Nat.le_of_ble_eq_true rfl) d_P_loadAddress_1 (fun H locs hP hD hS => ?_)
  refine lv_istore_n hx hb d_P_loadAddress_4 rfl hl (by decide) rfl (fun ls hl => ?_)
  have hl : lv_has ls 3 [(2, .int z6.1), (0, .ref aP), (1, .int x1)] := hl
  refine lv_aload_n hx hb d_P_loadAddress_5 rfl (lv_at hl 1 rfl) ?_
  refine cp_g_P_registers_P X hK hP d_P_loadAddress_6 ?_
  refine lv_iload_n hx hb d_P_loadAddress_9 rfl (lv_at hl 2 rfl) ?_
  refine lv_iload_n hx hb d_P_loadAddress_10 rfl (lv_at hl 0 rfl) ?_
  obtain ⟨z7, hz7, hf⟩ := op_b hf
  refine cf_v (ws2 := (cp_ aY aB aG aP aC cI cT z6.2.1 z6.2.2.1 cb z7.1 z7.2.1 z7.2.2.1 z7.2.2.2.1 z7.2.2.2.2.1 z7.2.2.2.2.2.1 z7.2.2.2.2.2.2.1 z7.2.2.2.2.2.2.2.1 z7.2.2.2.2.2.2.2.2)) X cx_P_112 hK hP hD hS hA hZ hl (c_tc_G_set (aG := aG) (ga := z6.2.2.2.1) (gb := z6.2.2.2.2.1) (gd := z6.2.2.2.2.2.1) (gc := z6.2.2.2.2.2.2.1) (gx := z6.2.2.2.2.2.2.2.1) (gy := z6.2.2.2.2.2.2.2.2.1) (gu := z6.2.2.2.2.2.2.2.2.2.1) (gs := z6.2.2.2.2.2.2.2.2.2.2.1) (gp := z6.2.2.2.2.2.2.2.2.2.2.2) hz7) ⟨rfl, rfl, Nat.le_of_ble_eq_true rfl, Nat.le_of_ble_eq_true rfl⟩ [3] [0, 1, 2, 4] [0, 1, 2, 4, 3] rfl rfl rfl rfl (by decide) rfl rfl 0 rfl rfl rfl rfl rfl (Nat.le_of_ble_eq_true rfl) d_P_loadAddress_11 (fun H locs hP hD hS => ?_)
  refine lv_iload_n hx hb d_P_loadAddress_14 rfl (lv_at hl 2 rfl) ?_
  refine lv_iconst (v := (1 : Int32)) hx hb d_P_loadAddress_15 (by decide) ?_
  refine lv_icmp_eq (tgt := 24) hx hb d_P_loadAddress_16 (by decide) (fun hc => ?_) (fun hc => ?_)
  · replace hf := (if_pos hc).symm.trans hf
    exact J24 z6.1 z6.2.1 z6.2.2.1 cb z7.1 z7.2.1 z7.2.2.1 z7.2.2.2.1 z7.2.2.2.2.1 z7.2.2.2.2.2.1 z7.2.2.2.2.2.2.1 z7.2.2.2.2.2.2.2.1 z7.2.2.2.2.2.2.2.2 hf _ _ _ (lv_sub hl [1, 0] rfl) hP hD hS
  · replace hf := (if_neg hc).symm.trans hf
    refine lv_iload_n hx hb d_P_loadAddress_19 rfl (lv_at hl 2 rfl) ?_
    refine lv_iconst (v := (2 : Int32)) hx hb d_P_loadAddress_20 (by decide) ?_
    refine lv_icmp_ne (tgt := 41) hx hb d_P_loadAddress_21 (by decide) (fun hc => ?_) (fun hc => ?_)
    · replace hf := (if_neg hc).symm.trans hf
      have hq := Option.some.inj hf
      subst hq
      exact rt_v X hr hlk hK hP hD hS d_P_loadAddress_41
    · replace hf := (if_pos hc).symm.trans hf
      exact J24 z6.1 z6.2.1 z6.2.2.1 cb z7.1 z7.2.1 z7.2.2.1 z7.2.2.2.1 z7.2.2.2.2.1 z7.2.2.2.2.2.1 z7.2.2.2.2.2.2.1 z7.2.2.2.2.2.2.2.1 z7.2.2.2.2.2.2.2.2 hf _ _ _ (lv_sub hl [1, 0] rfl) hP hD hS
set_option maxHeartbeats 4000000 in
set_option maxRecDepth 100000 in
theorem c_tc_P_push {x1 : Int32} {x2 : Int32} {z : Int32 × (Nat → Int32) × Int32 × Int32 × Int32 × Int32 × Int32 × Int32 × Int32 × Int32 × Int32} (hf : tc_P_push x1 x2 py cb ga gb gd gc gx gy gu gs gp = some z) : cs_v l my_P_push mb_P_push 3 rm_c_P_push D (ty_ cI cT) [.ref aP, .int x1, .int x2] (cp_ aY aB aG aP aC cI cT py po cb ga gb gd gc gx gy gu gs gp) (cp_ aY aB aG aP aC cI cT z.1 po z.2.1 z.2.2.1 z.2.2.2.1 z.2.2.2.2.1 z.2.2.2.2.2.1 z.2.2.2.2.2.2.1 z.2.2.2.2.2.2.2.1 z.2.2.2.2.2.2.2.2.1 z.2.2.2.2.2.2.2.2.2.1 z.2.2.2.2.2.2.2.2.2.2) := by
  refine cs_v_of (by decide) (Nat.le_of_ble_eq_true rfl) ?_
  intro p e s m below meth c A ls X hr hlk hK hP hD hS hA hZ hl
  have hx := X.1
  have hb := X.2.1
  have hl : lv_has ls 3 [(0, .ref aP), (1, .int x1), (2, .int x2)] := hl
  unfold tc_P_push at hf
  refine lv_aload_n hx hb d_P_push_0 rfl (lv_at hl 0 rfl) ?_
  refine lv_dup hx hb d_P_push_1 rfl ?_
  refine cp_g_P_cycles_P X hK hP d_P_push_2 ?_
  refine lv_aload_n hx hb d_P_push_5 rfl (lv_at hl 0 rfl) ?_
  refine cp_g_P_registers_P X hK hP d_P_push_6 ?_
  refine lv_aload_n hx hb d_P_push_9 rfl (lv_at hl 0 rfl) ?_
  refine cp_g_P_memory_P X hK hP d_P_push_10 ?_
  refine lv_iload_n hx hb d_P_push_13 rfl (lv_at hl 1 rfl) ?_
  refine lv_iload_n hx hb d_P_push_14 rfl (lv_at hl 2 rfl) ?_
  obtain ⟨z2, hz2, hf⟩ := op_b hf
  refine cf_i (ws2 := (cp_ aY aB aG aP aC cI cT py po z2.2.2.2.2.2.2.2.2.2.2 z2.2.1 z2.2.2.1 z2.2.2.2.1 z2.2.2.2.2.1 z2.2.2.2.2.2.1 z2.2.2.2.2.2.2.1 z2.2.2.2.2.2.2.2.1 z2.2.2.2.2.2.2.2.2.1 z2.2.2.2.2.2.2.2.2.2.1)) X cx_P_81 hK hP hD hS hA hZ hl (c_tc_G_push (aY := aY) (aB := aB) (aG := aG) (ga := ga) (gb := gb) (gd := gd) (gc := gc) (gx := gx) (gy := gy) (gu := gu) (gs := gs) (gp := gp) (cb := cb) hz2) ⟨rfl, rfl, Nat.le_of_ble_eq_true rfl, Nat.le_of_ble_eq_true rfl⟩ [3, 1, 2] [0, 4] [0, 3, 4, 2, 1] rfl rfl rfl rfl (by decide) rfl rfl 0 rfl rfl rfl rfl rfl (Nat.le_of_ble_eq_true rfl) d_P_push_15 (fun H locs hP hD hS => ?_)
  refine lv_iadd hx hb d_P_push_18 ?_
  refine cp_p_P_cycles_P (x := (py + z2.1)) X hK hP hD hS d_P_push_19 (fun H locs hP hD hS => ?_)
  have hq := Option.some.inj hf
  subst hq
  exact rt_v X hr hlk hK hP hD hS d_P_push_22
end CLS

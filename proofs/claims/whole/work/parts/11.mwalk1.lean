theorem d_M_difference_0 : decode mb_M_difference 0 = .ok (.iconst 1, 1) := by decide +kernel
theorem d_M_difference_1 : decode mb_M_difference 1 = .ok (.iload 4, 2) := by decide +kernel
theorem d_M_difference_3 : decode mb_M_difference 3 = .ok (.ishl, 1) := by decide +kernel
theorem d_M_difference_4 : decode mb_M_difference 4 = .ok (.istore 5, 2) := by decide +kernel
theorem d_M_difference_6 : decode mb_M_difference 6 = .ok (.iload_n 1, 1) := by decide +kernel
theorem d_M_difference_7 : decode mb_M_difference 7 = .ok (.iload 4, 2) := by decide +kernel
theorem d_M_difference_9 : decode mb_M_difference 9 = .ok (.invokestatic 69, 3) := by decide +kernel
theorem d_M_difference_12 : decode mb_M_difference 12 = .ok (.iload_n 2, 1) := by decide +kernel
theorem d_M_difference_13 : decode mb_M_difference 13 = .ok (.iload 4, 2) := by decide +kernel
theorem d_M_difference_15 : decode mb_M_difference 15 = .ok (.invokestatic 69, 3) := by decide +kernel
theorem d_M_difference_18 : decode mb_M_difference 18 = .ok (.isub, 1) := by decide +kernel
theorem d_M_difference_19 : decode mb_M_difference 19 = .ok (.iload_n 3, 1) := by decide +kernel
theorem d_M_difference_20 : decode mb_M_difference 20 = .ok (.isub, 1) := by decide +kernel
theorem d_M_difference_21 : decode mb_M_difference 21 = .ok (.istore 6, 2) := by decide +kernel
theorem d_M_difference_23 : decode mb_M_difference 23 = .ok (.iload_n 1, 1) := by decide +kernel
theorem d_M_difference_24 : decode mb_M_difference 24 = .ok (.iload_n 2, 1) := by decide +kernel
theorem d_M_difference_25 : decode mb_M_difference 25 = .ok (.isub, 1) := by decide +kernel
theorem d_M_difference_26 : decode mb_M_difference 26 = .ok (.iload_n 3, 1) := by decide +kernel
theorem d_M_difference_27 : decode mb_M_difference 27 = .ok (.isub, 1) := by decide +kernel
theorem d_M_difference_28 : decode mb_M_difference 28 = .ok (.iconst 2, 1) := by decide +kernel
theorem d_M_difference_29 : decode mb_M_difference 29 = .ok (.iload 5, 2) := by decide +kernel
theorem d_M_difference_31 : decode mb_M_difference 31 = .ok (.imul, 1) := by decide +kernel
theorem d_M_difference_32 : decode mb_M_difference 32 = .ok (.iadd, 1) := by decide +kernel
theorem d_M_difference_33 : decode mb_M_difference 33 = .ok (.iload 5, 2) := by decide +kernel
theorem d_M_difference_35 : decode mb_M_difference 35 = .ok (.irem, 1) := by decide +kernel
theorem d_M_difference_36 : decode mb_M_difference 36 = .ok (.istore 7, 2) := by decide +kernel
theorem d_M_difference_38 : decode mb_M_difference 38 = .ok (.aload_n 0, 1) := by decide +kernel
theorem d_M_difference_39 : decode mb_M_difference 39 = .ok (.iload 7, 2) := by decide +kernel
theorem d_M_difference_41 : decode mb_M_difference 41 = .ok (.iload 4, 2) := by decide +kernel
theorem d_M_difference_43 : decode mb_M_difference 43 = .ok (.invokevirtual 66, 3) := by decide +kernel
theorem d_M_difference_46 : decode mb_M_difference 46 = .ok (.aload_n 0, 1) := by decide +kernel
theorem d_M_difference_47 : decode mb_M_difference 47 = .ok (.iconst 1, 1) := by decide +kernel
theorem d_M_difference_48 : decode mb_M_difference 48 = .ok (.iload_n 2, 1) := by decide +kernel
theorem d_M_difference_49 : decode mb_M_difference 49 = .ok (.iload_n 3, 1) := by decide +kernel
theorem d_M_difference_50 : decode mb_M_difference 50 = .ok (.iadd, 1) := by decide +kernel
theorem d_M_difference_51 : decode mb_M_difference 51 = .ok (.iload_n 1, 1) := by decide +kernel
theorem d_M_difference_52 : decode mb_M_difference 52 = .ok (.if_icmp .le 7, 3) := by decide +kernel
theorem d_M_difference_55 : decode mb_M_difference 55 = .ok (.iconst 1, 1) := by decide +kernel
theorem d_M_difference_56 : decode mb_M_difference 56 = .ok (.goto 4, 3) := by decide +kernel
theorem d_M_difference_59 : decode mb_M_difference 59 = .ok (.iconst 0, 1) := by decide +kernel
theorem d_M_difference_60 : decode mb_M_difference 60 = .ok (.invokevirtual 62, 3) := by decide +kernel
theorem d_M_difference_63 : decode mb_M_difference 63 = .ok (.aload_n 0, 1) := by decide +kernel
theorem d_M_difference_64 : decode mb_M_difference 64 = .ok (.iconst 2, 1) := by decide +kernel
theorem d_M_difference_65 : decode mb_M_difference 65 = .ok (.iload 6, 2) := by decide +kernel
theorem d_M_difference_67 : decode mb_M_difference 67 = .ok (.iload 5, 2) := by decide +kernel
theorem d_M_difference_69 : decode mb_M_difference 69 = .ok (.ineg, 1) := by decide +kernel
theorem d_M_difference_70 : decode mb_M_difference 70 = .ok (.iconst 2, 1) := by decide +kernel
theorem d_M_difference_71 : decode mb_M_difference 71 = .ok (.idiv, 1) := by decide +kernel
theorem d_M_difference_72 : decode mb_M_difference 72 = .ok (.if_icmp .lt 12, 3) := by decide +kernel
theorem d_M_difference_75 : decode mb_M_difference 75 = .ok (.iload 6, 2) := by decide +kernel
theorem d_M_difference_77 : decode mb_M_difference 77 = .ok (.iload 5, 2) := by decide +kernel
theorem d_M_difference_79 : decode mb_M_difference 79 = .ok (.iconst 2, 1) := by decide +kernel
theorem d_M_difference_80 : decode mb_M_difference 80 = .ok (.idiv, 1) := by decide +kernel
theorem d_M_difference_81 : decode mb_M_difference 81 = .ok (.if_icmp .lt 7, 3) := by decide +kernel
theorem d_M_difference_84 : decode mb_M_difference 84 = .ok (.iconst 1, 1) := by decide +kernel
theorem d_M_difference_85 : decode mb_M_difference 85 = .ok (.goto 4, 3) := by decide +kernel
theorem d_M_difference_88 : decode mb_M_difference 88 = .ok (.iconst 0, 1) := by decide +kernel
theorem d_M_difference_89 : decode mb_M_difference 89 = .ok (.invokevirtual 62, 3) := by decide +kernel
theorem d_M_difference_92 : decode mb_M_difference 92 = .ok (.iload 7, 2) := by decide +kernel
theorem d_M_difference_94 : decode mb_M_difference 94 = .ok (.ireturn, 1) := by decide +kernel
theorem d_M_stepping_0 : decode mb_M_stepping 0 = .ok (.iconst 1, 1) := by decide +kernel
theorem d_M_stepping_1 : decode mb_M_stepping 1 = .ok (.iload_n 2, 1) := by decide +kernel
theorem d_M_stepping_2 : decode mb_M_stepping 2 = .ok (.iconst 1, 1) := by decide +kernel
theorem d_M_stepping_3 : decode mb_M_stepping 3 = .ok (.iand, 1) := by decide +kernel
theorem d_M_stepping_4 : decode mb_M_stepping 4 = .ok (.iadd, 1) := by decide +kernel
theorem d_M_stepping_5 : decode mb_M_stepping 5 = .ok (.istore_n 3, 1) := by decide +kernel
theorem d_M_stepping_6 : decode mb_M_stepping 6 = .ok (.aload_n 0, 1) := by decide +kernel
theorem d_M_stepping_7 : decode mb_M_stepping 7 = .ok (.getfield 13, 3) := by decide +kernel
theorem d_M_stepping_10 : decode mb_M_stepping 10 = .ok (.iload_n 1, 1) := by decide +kernel
theorem d_M_stepping_11 : decode mb_M_stepping 11 = .ok (.iaload, 1) := by decide +kernel
theorem d_M_stepping_12 : decode mb_M_stepping 12 = .ok (.istore 4, 2) := by decide +kernel
theorem d_M_stepping_14 : decode mb_M_stepping 14 = .ok (.aload_n 0, 1) := by decide +kernel
theorem d_M_stepping_15 : decode mb_M_stepping 15 = .ok (.iload_n 1, 1) := by decide +kernel
theorem d_M_stepping_16 : decode mb_M_stepping 16 = .ok (.iload_n 2, 1) := by decide +kernel
theorem d_M_stepping_17 : decode mb_M_stepping 17 = .ok (.iconst 2, 1) := by decide +kernel
theorem d_M_stepping_18 : decode mb_M_stepping 18 = .ok (.if_icmp .ge 10, 3) := by decide +kernel
theorem d_M_stepping_21 : decode mb_M_stepping 21 = .ok (.iload 4, 2) := by decide +kernel
theorem d_M_stepping_23 : decode mb_M_stepping 23 = .ok (.iload_n 3, 1) := by decide +kernel
theorem d_M_stepping_24 : decode mb_M_stepping 24 = .ok (.iadd, 1) := by decide +kernel
theorem d_M_stepping_25 : decode mb_M_stepping 25 = .ok (.goto 7, 3) := by decide +kernel
theorem d_M_stepping_28 : decode mb_M_stepping 28 = .ok (.iload 4, 2) := by decide +kernel
theorem d_M_stepping_30 : decode mb_M_stepping 30 = .ok (.iload_n 3, 1) := by decide +kernel
theorem d_M_stepping_31 : decode mb_M_stepping 31 = .ok (.isub, 1) := by decide +kernel
theorem d_M_stepping_32 : decode mb_M_stepping 32 = .ok (.invokevirtual 51, 3) := by decide +kernel
theorem d_M_stepping_35 : decode mb_M_stepping 35 = .ok (.iload_n 2, 1) := by decide +kernel
theorem d_M_stepping_36 : decode mb_M_stepping 36 = .ok (.iconst 2, 1) := by decide +kernel
theorem d_M_stepping_37 : decode mb_M_stepping 37 = .ok (.if_icmp .ge 8, 3) := by decide +kernel
theorem d_M_stepping_40 : decode mb_M_stepping 40 = .ok (.iload 4, 2) := by decide +kernel
theorem d_M_stepping_42 : decode mb_M_stepping 42 = .ok (.goto 9, 3) := by decide +kernel
theorem d_M_stepping_45 : decode mb_M_stepping 45 = .ok (.aload_n 0, 1) := by decide +kernel
theorem d_M_stepping_46 : decode mb_M_stepping 46 = .ok (.getfield 13, 3) := by decide +kernel
theorem d_M_stepping_49 : decode mb_M_stepping 49 = .ok (.iload_n 1, 1) := by decide +kernel
theorem d_M_stepping_50 : decode mb_M_stepping 50 = .ok (.iaload, 1) := by decide +kernel
theorem d_M_stepping_51 : decode mb_M_stepping 51 = .ok (.ireturn, 1) := by decide +kernel
theorem d_M_offset_0 : decode mb_M_offset 0 = .ok (.aload_n 0, 1) := by decide +kernel
theorem d_M_offset_1 : decode mb_M_offset 1 = .ok (.getfield 13, 3) := by decide +kernel
theorem d_M_offset_4 : decode mb_M_offset 4 = .ok (.iload_n 1, 1) := by decide +kernel
theorem d_M_offset_5 : decode mb_M_offset 5 = .ok (.iaload, 1) := by decide +kernel
theorem d_M_offset_6 : decode mb_M_offset 6 = .ok (.istore_n 3, 1) := by decide +kernel
theorem d_M_offset_7 : decode mb_M_offset 7 = .ok (.iload_n 2, 1) := by decide +kernel
theorem d_M_offset_8 : decode mb_M_offset 8 = .ok (.tableswitch 151 5 15 #[60, 73, 151, 86, 96, 151, 103, 111, 130, 151, 146], 60) := by decide +kernel
theorem d_M_offset_68 : decode mb_M_offset 68 = .ok (.iload_n 3, 1) := by decide +kernel
theorem d_M_offset_69 : decode mb_M_offset 69 = .ok (.aload_n 0, 1) := by decide +kernel
theorem d_M_offset_70 : decode mb_M_offset 70 = .ok (.getfield 13, 3) := by decide +kernel
theorem d_M_offset_73 : decode mb_M_offset 73 = .ok (.bipush 9, 2) := by decide +kernel
theorem d_M_offset_75 : decode mb_M_offset 75 = .ok (.iaload, 1) := by decide +kernel
theorem d_M_offset_76 : decode mb_M_offset 76 = .ok (.invokestatic 86, 3) := by decide +kernel
theorem d_M_offset_79 : decode mb_M_offset 79 = .ok (.iadd, 1) := by decide +kernel
theorem d_M_offset_80 : decode mb_M_offset 80 = .ok (.ireturn, 1) := by decide +kernel
theorem d_M_offset_81 : decode mb_M_offset 81 = .ok (.iload_n 3, 1) := by decide +kernel
theorem d_M_offset_82 : decode mb_M_offset 82 = .ok (.aload_n 0, 1) := by decide +kernel
theorem d_M_offset_83 : decode mb_M_offset 83 = .ok (.getfield 13, 3) := by decide +kernel
theorem d_M_offset_86 : decode mb_M_offset 86 = .ok (.bipush 8, 2) := by decide +kernel
theorem d_M_offset_88 : decode mb_M_offset 88 = .ok (.iaload, 1) := by decide +kernel
theorem d_M_offset_89 : decode mb_M_offset 89 = .ok (.invokestatic 86, 3) := by decide +kernel
theorem d_M_offset_92 : decode mb_M_offset 92 = .ok (.iadd, 1) := by decide +kernel
theorem d_M_offset_93 : decode mb_M_offset 93 = .ok (.ireturn, 1) := by decide +kernel
theorem d_M_offset_94 : decode mb_M_offset 94 = .ok (.iload_n 3, 1) := by decide +kernel
theorem d_M_offset_95 : decode mb_M_offset 95 = .ok (.aload_n 0, 1) := by decide +kernel
theorem d_M_offset_96 : decode mb_M_offset 96 = .ok (.invokevirtual 54, 3) := by decide +kernel
theorem d_M_offset_99 : decode mb_M_offset 99 = .ok (.invokestatic 86, 3) := by decide +kernel
theorem d_M_offset_102 : decode mb_M_offset 102 = .ok (.iadd, 1) := by decide +kernel
theorem d_M_offset_103 : decode mb_M_offset 103 = .ok (.ireturn, 1) := by decide +kernel
theorem d_M_offset_104 : decode mb_M_offset 104 = .ok (.iload_n 3, 1) := by decide +kernel
theorem d_M_offset_105 : decode mb_M_offset 105 = .ok (.aload_n 0, 1) := by decide +kernel
theorem d_M_offset_106 : decode mb_M_offset 106 = .ok (.invokevirtual 73, 3) := by decide +kernel
theorem d_M_offset_109 : decode mb_M_offset 109 = .ok (.iadd, 1) := by decide +kernel
theorem d_M_offset_110 : decode mb_M_offset 110 = .ok (.ireturn, 1) := by decide +kernel
theorem d_M_offset_111 : decode mb_M_offset 111 = .ok (.iload_n 3, 1) := by decide +kernel
theorem d_M_offset_112 : decode mb_M_offset 112 = .ok (.aload_n 0, 1) := by decide +kernel
theorem d_M_offset_113 : decode mb_M_offset 113 = .ok (.iconst 0, 1) := by decide +kernel
theorem d_M_offset_114 : decode mb_M_offset 114 = .ok (.invokevirtual 89, 3) := by decide +kernel
theorem d_M_offset_117 : decode mb_M_offset 117 = .ok (.iadd, 1) := by decide +kernel
theorem d_M_offset_118 : decode mb_M_offset 118 = .ok (.ireturn, 1) := by decide +kernel
theorem d_M_offset_119 : decode mb_M_offset 119 = .ok (.aload_n 0, 1) := by decide +kernel
theorem d_M_offset_120 : decode mb_M_offset 120 = .ok (.invokevirtual 54, 3) := by decide +kernel
theorem d_M_offset_123 : decode mb_M_offset 123 = .ok (.invokestatic 86, 3) := by decide +kernel
theorem d_M_offset_126 : decode mb_M_offset 126 = .ok (.istore 4, 2) := by decide +kernel
theorem d_M_offset_128 : decode mb_M_offset 128 = .ok (.aload_n 0, 1) := by decide +kernel
theorem d_M_offset_129 : decode mb_M_offset 129 = .ok (.getfield 13, 3) := by decide +kernel
theorem d_M_offset_132 : decode mb_M_offset 132 = .ok (.iconst 5, 1) := by decide +kernel
theorem d_M_offset_133 : decode mb_M_offset 133 = .ok (.iaload, 1) := by decide +kernel
theorem d_M_offset_134 : decode mb_M_offset 134 = .ok (.iload 4, 2) := by decide +kernel
theorem d_M_offset_136 : decode mb_M_offset 136 = .ok (.iadd, 1) := by decide +kernel
theorem d_M_offset_137 : decode mb_M_offset 137 = .ok (.ireturn, 1) := by decide +kernel
theorem d_M_offset_138 : decode mb_M_offset 138 = .ok (.aload_n 0, 1) := by decide +kernel
theorem d_M_offset_139 : decode mb_M_offset 139 = .ok (.invokevirtual 73, 3) := by decide +kernel
theorem d_M_offset_142 : decode mb_M_offset 142 = .ok (.istore 4, 2) := by decide +kernel
theorem d_M_offset_144 : decode mb_M_offset 144 = .ok (.aload_n 0, 1) := by decide +kernel
theorem d_M_offset_145 : decode mb_M_offset 145 = .ok (.getfield 13, 3) := by decide +kernel
theorem d_M_offset_148 : decode mb_M_offset 148 = .ok (.iconst 5, 1) := by decide +kernel
theorem d_M_offset_149 : decode mb_M_offset 149 = .ok (.iaload, 1) := by decide +kernel
theorem d_M_offset_150 : decode mb_M_offset 150 = .ok (.iload 4, 2) := by decide +kernel
theorem d_M_offset_152 : decode mb_M_offset 152 = .ok (.iadd, 1) := by decide +kernel
theorem d_M_offset_153 : decode mb_M_offset 153 = .ok (.ireturn, 1) := by decide +kernel
theorem d_M_offset_154 : decode mb_M_offset 154 = .ok (.aload_n 0, 1) := by decide +kernel
theorem d_M_offset_155 : decode mb_M_offset 155 = .ok (.invokevirtual 73, 3) := by decide +kernel
theorem d_M_offset_158 : decode mb_M_offset 158 = .ok (.ireturn, 1) := by decide +kernel
theorem d_M_offset_159 : decode mb_M_offset 159 = .ok (.iload_n 3, 1) := by decide +kernel
theorem d_M_offset_160 : decode mb_M_offset 160 = .ok (.ireturn, 1) := by decide +kernel
theorem d_M_address_0 : decode mb_M_address 0 = .ok (.iload_n 1, 1) := by decide +kernel
theorem d_M_address_1 : decode mb_M_address 1 = .ok (.iconst 1, 1) := by decide +kernel
theorem d_M_address_2 : decode mb_M_address 2 = .ok (.if_icmp .ne 20, 3) := by decide +kernel
theorem d_M_address_5 : decode mb_M_address 5 = .ok (.sipush 256, 3) := by decide +kernel
theorem d_M_address_8 : decode mb_M_address 8 = .ok (.aload_n 0, 1) := by decide +kernel
theorem d_M_address_9 : decode mb_M_address 9 = .ok (.getfield 13, 3) := by decide +kernel
theorem d_M_address_12 : decode mb_M_address 12 = .ok (.bipush 11, 2) := by decide +kernel
theorem d_M_address_14 : decode mb_M_address 14 = .ok (.iaload, 1) := by decide +kernel
theorem d_M_address_15 : decode mb_M_address 15 = .ok (.imul, 1) := by decide +kernel
theorem d_M_address_16 : decode mb_M_address 16 = .ok (.aload_n 0, 1) := by decide +kernel
theorem d_M_address_17 : decode mb_M_address 17 = .ok (.invokevirtual 54, 3) := by decide +kernel
theorem d_M_address_20 : decode mb_M_address 20 = .ok (.iadd, 1) := by decide +kernel
theorem d_M_address_21 : decode mb_M_address 21 = .ok (.ireturn, 1) := by decide +kernel
theorem d_M_address_22 : decode mb_M_address 22 = .ok (.iload_n 1, 1) := by decide +kernel
theorem d_M_address_23 : decode mb_M_address 23 = .ok (.iconst 3, 1) := by decide +kernel
theorem d_M_address_24 : decode mb_M_address 24 = .ok (.if_icmp .ne 8, 3) := by decide +kernel
theorem d_M_address_27 : decode mb_M_address 27 = .ok (.aload_n 0, 1) := by decide +kernel
theorem d_M_address_28 : decode mb_M_address 28 = .ok (.invokevirtual 73, 3) := by decide +kernel
theorem d_M_address_31 : decode mb_M_address 31 = .ok (.ireturn, 1) := by decide +kernel
theorem d_M_address_32 : decode mb_M_address 32 = .ok (.aload_n 0, 1) := by decide +kernel
theorem d_M_address_33 : decode mb_M_address 33 = .ok (.invokevirtual 54, 3) := by decide +kernel
theorem d_M_address_36 : decode mb_M_address 36 = .ok (.istore_n 2, 1) := by decide +kernel
theorem d_M_address_37 : decode mb_M_address 37 = .ok (.iconst 1, 1) := by decide +kernel
theorem d_M_address_38 : decode mb_M_address 38 = .ok (.iload_n 2, 1) := by decide +kernel
theorem d_M_address_39 : decode mb_M_address 39 = .ok (.iconst 5, 1) := by decide +kernel
theorem d_M_address_40 : decode mb_M_address 40 = .ok (.ishr, 1) := by decide +kernel
theorem d_M_address_41 : decode mb_M_address 41 = .ok (.iconst 3, 1) := by decide +kernel
theorem d_M_address_42 : decode mb_M_address 42 = .ok (.iand, 1) := by decide +kernel
theorem d_M_address_43 : decode mb_M_address 43 = .ok (.iadd, 1) := by decide +kernel
theorem d_M_address_44 : decode mb_M_address 44 = .ok (.istore_n 3, 1) := by decide +kernel
theorem d_M_address_45 : decode mb_M_address 45 = .ok (.iload_n 2, 1) := by decide +kernel
theorem d_M_address_46 : decode mb_M_address 46 = .ok (.sipush 128, 3) := by decide +kernel
theorem d_M_address_49 : decode mb_M_address 49 = .ok (.if_icmp .ge 32, 3) := by decide +kernel
theorem d_M_address_52 : decode mb_M_address 52 = .ok (.aload_n 0, 1) := by decide +kernel
theorem d_M_address_53 : decode mb_M_address 53 = .ok (.getfield 13, 3) := by decide +kernel
theorem d_M_address_56 : decode mb_M_address 56 = .ok (.iload_n 3, 1) := by decide +kernel
theorem d_M_address_57 : decode mb_M_address 57 = .ok (.iaload, 1) := by decide +kernel
theorem d_M_address_58 : decode mb_M_address 58 = .ok (.iload_n 2, 1) := by decide +kernel
theorem d_M_address_59 : decode mb_M_address 59 = .ok (.bipush 31, 2) := by decide +kernel
theorem d_M_address_61 : decode mb_M_address 61 = .ok (.iand, 1) := by decide +kernel
theorem d_M_address_62 : decode mb_M_address 62 = .ok (.iadd, 1) := by decide +kernel
theorem d_M_address_63 : decode mb_M_address 63 = .ok (.iload_n 2, 1) := by decide +kernel
theorem d_M_address_64 : decode mb_M_address 64 = .ok (.bipush 16, 2) := by decide +kernel
theorem d_M_address_66 : decode mb_M_address 66 = .ok (.iand, 1) := by decide +kernel
theorem d_M_address_67 : decode mb_M_address 67 = .ok (.ifCond .eq 8, 3) := by decide +kernel
theorem d_M_address_70 : decode mb_M_address 70 = .ok (.bipush 32, 2) := by decide +kernel
theorem d_M_address_72 : decode mb_M_address 72 = .ok (.goto 4, 3) := by decide +kernel
theorem d_M_address_75 : decode mb_M_address 75 = .ok (.iconst 0, 1) := by decide +kernel
theorem d_M_address_76 : decode mb_M_address 76 = .ok (.isub, 1) := by decide +kernel
theorem d_M_address_77 : decode mb_M_address 77 = .ok (.ldc 35, 2) := by decide +kernel
theorem d_M_address_79 : decode mb_M_address 79 = .ok (.iand, 1) := by decide +kernel
theorem d_M_address_80 : decode mb_M_address 80 = .ok (.ireturn, 1) := by decide +kernel
theorem d_M_address_81 : decode mb_M_address 81 = .ok (.iload_n 2, 1) := by decide +kernel
theorem d_M_address_82 : decode mb_M_address 82 = .ok (.bipush 15, 2) := by decide +kernel
theorem d_M_address_84 : decode mb_M_address 84 = .ok (.iand, 1) := by decide +kernel
theorem d_M_address_85 : decode mb_M_address 85 = .ok (.istore 4, 2) := by decide +kernel
theorem d_M_address_87 : decode mb_M_address 87 = .ok (.iload_n 2, 1) := by decide +kernel
theorem d_M_address_88 : decode mb_M_address 88 = .ok (.bipush 16, 2) := by decide +kernel
theorem d_M_address_90 : decode mb_M_address 90 = .ok (.iand, 1) := by decide +kernel
theorem d_M_address_91 : decode mb_M_address 91 = .ok (.ifCond .eq 7, 3) := by decide +kernel
theorem d_M_address_94 : decode mb_M_address 94 = .ok (.iconst 1, 1) := by decide +kernel
theorem d_M_address_95 : decode mb_M_address 95 = .ok (.goto 4, 3) := by decide +kernel
theorem d_M_address_98 : decode mb_M_address 98 = .ok (.iconst 0, 1) := by decide +kernel
theorem d_M_address_99 : decode mb_M_address 99 = .ok (.istore 5, 2) := by decide +kernel
theorem d_M_address_101 : decode mb_M_address 101 = .ok (.aload_n 0, 1) := by decide +kernel
theorem d_M_address_102 : decode mb_M_address 102 = .ok (.iload 4, 2) := by decide +kernel
theorem d_M_address_104 : decode mb_M_address 104 = .ok (.bipush 7, 2) := by decide +kernel
theorem d_M_address_106 : decode mb_M_address 106 = .ok (.if_icmp .eq 45, 3) := by decide +kernel
theorem d_M_address_109 : decode mb_M_address 109 = .ok (.iload 4, 2) := by decide +kernel
theorem d_M_address_111 : decode mb_M_address 111 = .ok (.bipush 10, 2) := by decide +kernel
theorem d_M_address_113 : decode mb_M_address 113 = .ok (.if_icmp .eq 38, 3) := by decide +kernel
theorem d_M_address_116 : decode mb_M_address 116 = .ok (.iload 4, 2) := by decide +kernel
theorem d_M_address_118 : decode mb_M_address 118 = .ok (.bipush 14, 2) := by decide +kernel
theorem d_M_address_120 : decode mb_M_address 120 = .ok (.if_icmp .eq 31, 3) := by decide +kernel
theorem d_M_address_123 : decode mb_M_address 123 = .ok (.iload 5, 2) := by decide +kernel
theorem d_M_address_125 : decode mb_M_address 125 = .ok (.ifCond .eq 14, 3) := by decide +kernel
theorem d_M_address_128 : decode mb_M_address 128 = .ok (.iload 4, 2) := by decide +kernel
theorem d_M_address_130 : decode mb_M_address 130 = .ok (.ifCond .eq 21, 3) := by decide +kernel
theorem d_M_address_133 : decode mb_M_address 133 = .ok (.iload 4, 2) := by decide +kernel
theorem d_M_address_135 : decode mb_M_address 135 = .ok (.iconst 2, 1) := by decide +kernel
theorem d_M_address_136 : decode mb_M_address 136 = .ok (.if_icmp .eq 15, 3) := by decide +kernel
theorem d_M_address_139 : decode mb_M_address 139 = .ok (.iload 5, 2) := by decide +kernel
theorem d_M_address_141 : decode mb_M_address 141 = .ok (.ifCond .ne 14, 3) := by decide +kernel
theorem d_M_address_144 : decode mb_M_address 144 = .ok (.iload 4, 2) := by decide +kernel
theorem d_M_address_146 : decode mb_M_address 146 = .ok (.bipush 15, 2) := by decide +kernel
theorem d_M_address_148 : decode mb_M_address 148 = .ok (.if_icmp .ne 7, 3) := by decide +kernel
theorem d_M_address_151 : decode mb_M_address 151 = .ok (.iconst 1, 1) := by decide +kernel
theorem d_M_address_152 : decode mb_M_address 152 = .ok (.goto 4, 3) := by decide +kernel
theorem d_M_address_155 : decode mb_M_address 155 = .ok (.iconst 0, 1) := by decide +kernel
theorem d_M_address_156 : decode mb_M_address 156 = .ok (.putfield 76, 3) := by decide +kernel
theorem d_M_address_159 : decode mb_M_address 159 = .ok (.aload_n 0, 1) := by decide +kernel
theorem d_M_address_160 : decode mb_M_address 160 = .ok (.getfield 76, 3) := by decide +kernel
theorem d_M_address_163 : decode mb_M_address 163 = .ok (.ifCond .eq 5, 3) := by decide +kernel
theorem d_M_address_166 : decode mb_M_address 166 = .ok (.iconst (-1), 1) := by decide +kernel
theorem d_M_address_167 : decode mb_M_address 167 = .ok (.ireturn, 1) := by decide +kernel
theorem d_M_address_168 : decode mb_M_address 168 = .ok (.iload 4, 2) := by decide +kernel
theorem d_M_address_170 : decode mb_M_address 170 = .ok (.iconst 4, 1) := by decide +kernel
theorem d_M_address_171 : decode mb_M_address 171 = .ok (.if_icmp .ge 13, 3) := by decide +kernel
theorem d_M_address_174 : decode mb_M_address 174 = .ok (.aload_n 0, 1) := by decide +kernel
theorem d_M_address_175 : decode mb_M_address 175 = .ok (.iload_n 3, 1) := by decide +kernel
theorem d_M_address_176 : decode mb_M_address 176 = .ok (.iload 4, 2) := by decide +kernel
theorem d_M_address_178 : decode mb_M_address 178 = .ok (.invokevirtual 80, 3) := by decide +kernel
theorem d_M_address_181 : decode mb_M_address 181 = .ok (.goto 10, 3) := by decide +kernel
theorem d_M_address_184 : decode mb_M_address 184 = .ok (.aload_n 0, 1) := by decide +kernel
theorem d_M_address_185 : decode mb_M_address 185 = .ok (.iload_n 3, 1) := by decide +kernel
theorem d_M_address_186 : decode mb_M_address 186 = .ok (.iload 4, 2) := by decide +kernel
theorem d_M_address_188 : decode mb_M_address 188 = .ok (.invokevirtual 83, 3) := by decide +kernel
theorem d_M_address_191 : decode mb_M_address 191 = .ok (.ldc 35, 2) := by decide +kernel
theorem d_M_address_193 : decode mb_M_address 193 = .ok (.iand, 1) := by decide +kernel
theorem d_M_address_194 : decode mb_M_address 194 = .ok (.istore 6, 2) := by decide +kernel
theorem d_M_address_196 : decode mb_M_address 196 = .ok (.iload 5, 2) := by decide +kernel
theorem d_M_address_198 : decode mb_M_address 198 = .ok (.ifCond .eq 13, 3) := by decide +kernel
theorem d_M_address_201 : decode mb_M_address 201 = .ok (.aload_n 0, 1) := by decide +kernel
theorem d_M_address_202 : decode mb_M_address 202 = .ok (.iload 6, 2) := by decide +kernel
theorem d_M_address_204 : decode mb_M_address 204 = .ok (.iconst 1, 1) := by decide +kernel
theorem d_M_address_205 : decode mb_M_address 205 = .ok (.invokevirtual 47, 3) := by decide +kernel
theorem d_M_address_208 : decode mb_M_address 208 = .ok (.goto 5, 3) := by decide +kernel
theorem d_M_address_211 : decode mb_M_address 211 = .ok (.iload 6, 2) := by decide +kernel
theorem d_M_address_213 : decode mb_M_address 213 = .ok (.ireturn, 1) := by decide +kernel
theorem d_M_operand_0 : decode mb_M_operand 0 = .ok (.iload_n 1, 1) := by decide +kernel
theorem d_M_operand_1 : decode mb_M_operand 1 = .ok (.ifCond .ne 19, 3) := by decide +kernel
theorem d_M_operand_4 : decode mb_M_operand 4 = .ok (.iload_n 2, 1) := by decide +kernel
theorem d_M_operand_5 : decode mb_M_operand 5 = .ok (.ifCond .eq 10, 3) := by decide +kernel
theorem d_M_operand_8 : decode mb_M_operand 8 = .ok (.aload_n 0, 1) := by decide +kernel
theorem d_M_operand_9 : decode mb_M_operand 9 = .ok (.invokevirtual 73, 3) := by decide +kernel
theorem d_M_operand_12 : decode mb_M_operand 12 = .ok (.goto 7, 3) := by decide +kernel
theorem d_M_operand_15 : decode mb_M_operand 15 = .ok (.aload_n 0, 1) := by decide +kernel
theorem d_M_operand_16 : decode mb_M_operand 16 = .ok (.invokevirtual 54, 3) := by decide +kernel
theorem d_M_operand_19 : decode mb_M_operand 19 = .ok (.ireturn, 1) := by decide +kernel
theorem d_M_operand_20 : decode mb_M_operand 20 = .ok (.aload_n 0, 1) := by decide +kernel
theorem d_M_operand_21 : decode mb_M_operand 21 = .ok (.iload_n 1, 1) := by decide +kernel
theorem d_M_operand_22 : decode mb_M_operand 22 = .ok (.invokevirtual 92, 3) := by decide +kernel
theorem d_M_operand_25 : decode mb_M_operand 25 = .ok (.istore_n 3, 1) := by decide +kernel
theorem d_M_operand_26 : decode mb_M_operand 26 = .ok (.aload_n 0, 1) := by decide +kernel
theorem d_M_operand_27 : decode mb_M_operand 27 = .ok (.getfield 76, 3) := by decide +kernel
theorem d_M_operand_30 : decode mb_M_operand 30 = .ok (.ifCond .eq 7, 3) := by decide +kernel
theorem d_M_operand_33 : decode mb_M_operand 33 = .ok (.iconst 0, 1) := by decide +kernel
theorem d_M_operand_34 : decode mb_M_operand 34 = .ok (.goto 9, 3) := by decide +kernel
theorem d_M_operand_37 : decode mb_M_operand 37 = .ok (.aload_n 0, 1) := by decide +kernel
theorem d_M_operand_38 : decode mb_M_operand 38 = .ok (.iload_n 3, 1) := by decide +kernel
theorem d_M_operand_39 : decode mb_M_operand 39 = .ok (.iload_n 2, 1) := by decide +kernel
theorem d_M_operand_40 : decode mb_M_operand 40 = .ok (.invokevirtual 47, 3) := by decide +kernel
theorem d_M_operand_43 : decode mb_M_operand 43 = .ok (.ireturn, 1) := by decide +kernel
theorem d_M_save_0 : decode mb_M_save 0 = .ok (.aload_n 0, 1) := by decide +kernel
theorem d_M_save_1 : decode mb_M_save 1 = .ok (.aload_n 0, 1) := by decide +kernel
theorem d_M_save_2 : decode mb_M_save 2 = .ok (.getfield 76, 3) := by decide +kernel
theorem d_M_save_5 : decode mb_M_save 5 = .ok (.ifCond .ne 7, 3) := by decide +kernel
theorem d_M_save_8 : decode mb_M_save 8 = .ok (.iload_n 1, 1) := by decide +kernel
theorem d_M_save_9 : decode mb_M_save 9 = .ok (.ifCond .ne 7, 3) := by decide +kernel
theorem d_M_save_12 : decode mb_M_save 12 = .ok (.iconst 1, 1) := by decide +kernel
theorem d_M_save_13 : decode mb_M_save 13 = .ok (.goto 4, 3) := by decide +kernel
theorem d_M_save_16 : decode mb_M_save 16 = .ok (.iconst 0, 1) := by decide +kernel
theorem d_M_save_17 : decode mb_M_save 17 = .ok (.putfield 76, 3) := by decide +kernel
theorem d_M_save_20 : decode mb_M_save 20 = .ok (.aload_n 0, 1) := by decide +kernel
theorem d_M_save_21 : decode mb_M_save 21 = .ok (.getfield 76, 3) := by decide +kernel
theorem d_M_save_24 : decode mb_M_save 24 = .ok (.ifCond .eq 7, 3) := by decide +kernel
theorem d_M_save_27 : decode mb_M_save 27 = .ok (.iconst 0, 1) := by decide +kernel
theorem d_M_save_28 : decode mb_M_save 28 = .ok (.goto 8, 3) := by decide +kernel
theorem d_M_save_31 : decode mb_M_save 31 = .ok (.aload_n 0, 1) := by decide +kernel
theorem d_M_save_32 : decode mb_M_save 32 = .ok (.iload_n 1, 1) := by decide +kernel
theorem d_M_save_33 : decode mb_M_save 33 = .ok (.invokevirtual 92, 3) := by decide +kernel
theorem d_M_save_36 : decode mb_M_save 36 = .ok (.istore_n 3, 1) := by decide +kernel
theorem d_M_save_37 : decode mb_M_save 37 = .ok (.aload_n 0, 1) := by decide +kernel
theorem d_M_save_38 : decode mb_M_save 38 = .ok (.getfield 76, 3) := by decide +kernel
theorem d_M_save_41 : decode mb_M_save 41 = .ok (.ifCond .eq 4, 3) := by decide +kernel
theorem d_M_save_44 : decode mb_M_save 44 = .ok (.return_, 1) := by decide +kernel
theorem d_M_save_45 : decode mb_M_save 45 = .ok (.aload_n 0, 1) := by decide +kernel
theorem d_M_save_46 : decode mb_M_save 46 = .ok (.iload_n 2, 1) := by decide +kernel
theorem d_M_save_47 : decode mb_M_save 47 = .ok (.invokevirtual 89, 3) := by decide +kernel
theorem d_M_save_50 : decode mb_M_save 50 = .ok (.istore 4, 2) := by decide +kernel
theorem d_M_save_52 : decode mb_M_save 52 = .ok (.aload_n 0, 1) := by decide +kernel
theorem d_M_save_53 : decode mb_M_save 53 = .ok (.iload_n 3, 1) := by decide +kernel
theorem d_M_save_54 : decode mb_M_save 54 = .ok (.iload 4, 2) := by decide +kernel
theorem d_M_save_56 : decode mb_M_save 56 = .ok (.iload_n 2, 1) := by decide +kernel
theorem d_M_save_57 : decode mb_M_save 57 = .ok (.bipush 8, 2) := by decide +kernel
theorem d_M_save_59 : decode mb_M_save 59 = .ok (.if_icmp .ge 7, 3) := by decide +kernel
theorem d_M_save_62 : decode mb_M_save 62 = .ok (.iconst 1, 1) := by decide +kernel
theorem d_M_save_63 : decode mb_M_save 63 = .ok (.goto 4, 3) := by decide +kernel
theorem d_M_save_66 : decode mb_M_save 66 = .ok (.iconst 0, 1) := by decide +kernel
theorem d_M_save_67 : decode mb_M_save 67 = .ok (.invokevirtual 58, 3) := by decide +kernel
theorem d_M_save_70 : decode mb_M_save 70 = .ok (.aload_n 0, 1) := by decide +kernel
theorem d_M_save_71 : decode mb_M_save 71 = .ok (.iload 4, 2) := by decide +kernel
theorem d_M_save_73 : decode mb_M_save 73 = .ok (.iload_n 2, 1) := by decide +kernel
theorem d_M_save_74 : decode mb_M_save 74 = .ok (.bipush 8, 2) := by decide +kernel
theorem d_M_save_76 : decode mb_M_save 76 = .ok (.if_icmp .ge 8, 3) := by decide +kernel
theorem d_M_save_79 : decode mb_M_save 79 = .ok (.bipush 16, 2) := by decide +kernel
theorem d_M_save_81 : decode mb_M_save 81 = .ok (.goto 5, 3) := by decide +kernel
theorem d_M_save_84 : decode mb_M_save 84 = .ok (.bipush 8, 2) := by decide +kernel
theorem d_M_save_86 : decode mb_M_save 86 = .ok (.invokevirtual 95, 3) := by decide +kernel
theorem d_M_save_89 : decode mb_M_save 89 = .ok (.pop, 1) := by decide +kernel
theorem d_M_save_90 : decode mb_M_save 90 = .ok (.return_, 1) := by decide +kernel
section MODEL
variable {l : Launch} {D : va_G}
variable {h0 h1 h2 h3 h4 h5 h6 h7 : Nat} {cI cT : ClassId} {me : Nat → Int32} {rg : Nat → Int32} {so : Nat → Int32} {sv : Nat → Int32} {tl : Nat → Int32} {su : Nat → Int32} {qu : Nat → Int32} {wa : Int32} {ru : Int32} {pe : Int32} {re : Int32} {pn : Bool} {lo : Int32} {se : Int32} {pa : Int32} {sp : Int32} {iv : Bool}
set_option maxHeartbeats 4000000 in
set_option maxRecDepth 100000 in
theorem c_mo_difference {x1 : Int32} {x2 : Int32} {x3 : Int32} {x4 : Int32} {z : Int32 × (Nat → Int32)} (hf : mo_difference x1 x2 x3 x4 rg = some z) : co_i l my_M_difference mb_M_difference 8 .int rm_m_difference D (ty_ cI cT) [.ref h0, .int x1, .int x2, .int x3, .int x4] (mw_ h0 h1 h2 h3 h4 h5 h6 h7 cI me rg so sv tl su qu wa ru pe re pn lo se pa sp iv) (mw_ h0 h1 h2 h3 h4 h5 h6 h7 cI me z.2 so sv tl su qu wa ru pe re pn lo se pa sp iv) z.1 := by
  refine co_i_of (by decide) (Nat.le_of_ble_eq_true rfl) ?_
  intro p e s m below meth c A ls X hr hlk hK hP hD hS hA hl
  have hx := X.1
  have hb := X.2.1
  have hl : lv_has ls 8 [(0, .ref h0), (1, .int x1), (2, .int x2), (3, .int x3), (4, .int x4)] := hl
  have J89 : ∀ (v7 : Int32) (s0 : Bool) (rg : Nat → Int32), mo_difference_j89 v7 s0 rg = some z → ∀ (H : Heap) (locs : List Loc) (ls : Array Slot), lv_has ls 8 [(7, .int v7)] → va_P D cz_all (mw_ h0 h1 h2 h3 h4 h5 h6 h7 cI me rg so sv tl su qu wa ru pe re pn lo se pa sp iv) H → va_D A (mw_ h0 h1 h2 h3 h4 h5 h6 h7 cI me rg so sv tl su qu wa ru pe re pn lo se pa sp iv) → va_S A s.heap H locs → W p l e rm_m_difference s m ([.ref h0, .int x1, .int x2, .int x3, .int x4] : List Value).toArray below meth c H locs 0 0 (MQ below (qs_i D (ty_ cI cT) (mw_ h0 h1 h2 h3 h4 h5 h6 h7 cI me z.2 so sv tl su qu wa ru pe re pn lo se pa sp iv) z.1 A) ([.ref h0, .int x1, .int x2, .int x3, .int x4] : List Value).toArray s 0 0 A) (F0 m 89 ls [.int (bz_i s0), .int (2 : Int32), .ref h0]) := by
    intro v7 s0 rg hf H locs ls hl hP hD hS
    unfold mo_difference_j89 at hf
    obtain ⟨z9, hz9, hf⟩ := op_b hf
    refine cl_v X cw_M_62 hK hP hD hS hA hl (c_mo_mark hz9) ⟨rfl, rfl, Nat.le_of_ble_eq_true rfl, Nat.le_of_ble_eq_true rfl⟩ 0 rfl rfl rfl rfl rfl (Nat.le_of_ble_eq_true rfl) d_M_difference_89 (fun H locs hP hD hS => ?_)
    refine lv_iload hx hb d_M_difference_92 (lv_at hl 0 rfl) ?_
    have hq := Option.some.inj hf
    subst hq
    exact rt_i (r := v7) X hr hlk hK rfl hP hD hS d_M_difference_94
  have J84 : ∀ (v7 : Int32) (rg : Nat → Int32), mo_difference_j84 v7 rg = some z → ∀ (H : Heap) (locs : List Loc) (ls : Array Slot), lv_has ls 8 [(7, .int v7)] → va_P D cz_all (mw_ h0 h1 h2 h3 h4 h5 h6 h7 cI me rg so sv tl su qu wa ru pe re pn lo se pa sp iv) H → va_D A (mw_ h0 h1 h2 h3 h4 h5 h6 h7 cI me rg so sv tl su qu wa ru pe re pn lo se pa sp iv) → va_S A s.heap H locs → W p l e rm_m_difference s m ([.ref h0, .int x1, .int x2, .int x3, .int x4] : List Value).toArray below meth c H locs 0 0 (MQ below (qs_i D (ty_ cI cT) (mw_ h0 h1 h2 h3 h4 h5 h6 h7 cI me z.2 so sv tl su qu wa ru pe re pn lo se pa sp iv) z.1 A) ([.ref h0, .int x1, .int x2, .int x3, .int x4] : List Value).toArray s 0 0 A) (F0 m 84 ls [.int (2 : Int32), .ref h0]) := by
    intro v7 rg hf H locs ls hl hP hD hS
    unfold mo_difference_j84 at hf
    refine lv_iconst (v := (1 : Int32)) hx hb d_M_difference_84 (by decide) ?_
    refine lv_goto (tgt := 89) hx hb d_M_difference_85 (by decide) ?_
    exact J89 v7 true rg hf _ _ _ hl hP hD hS
  have J60 : ∀ (v5 : Int32) (v6 : Int32) (v7 : Int32) (s0 : Bool) (rg : Nat → Int32), mo_difference_j60 v5 v6 v7 s0 rg = some z → ∀ (H : Heap) (locs : List Loc) (ls : Array Slot), lv_has ls 8 [(0, .ref h0), (5, .int v5), (6, .int v6), (7, .int v7)] → va_P D cz_all (mw_ h0 h1 h2 h3 h4 h5 h6 h7 cI me rg so sv tl su qu wa ru pe re pn lo se pa sp iv) H → va_D A (mw_ h0 h1 h2 h3 h4 h5 h6 h7 cI me rg so sv tl su qu wa ru pe re pn lo se pa sp iv) → va_S A s.heap H locs → W p l e rm_m_difference s m ([.ref h0, .int x1, .int x2, .int x3, .int x4] : List Value).toArray below meth c H locs 0 0 (MQ below (qs_i D (ty_ cI cT) (mw_ h0 h1 h2 h3 h4 h5 h6 h7 cI me z.2 so sv tl su qu wa ru pe re pn lo se pa sp iv) z.1 A) ([.ref h0, .int x1, .int x2, .int x3, .int x4] : List Value).toArray s 0 0 A) (F0 m 60 ls [.int (bz_i s0), .int (1 : Int32), .ref h0]) := by
    intro v5 v6 v7 s0 rg hf H locs ls hl hP hD hS
    unfold mo_difference_j60 at hf
    obtain ⟨z10, hz10, hf⟩ := op_b hf
    refine cl_v X cw_M_62 hK hP hD hS hA hl (c_mo_mark hz10) ⟨rfl, rfl, Nat.le_of_ble_eq_true rfl, Nat.le_of_ble_eq_true rfl⟩ 0 rfl rfl rfl rfl rfl (Nat.le_of_ble_eq_true rfl) d_M_difference_60 (fun H locs hP hD hS => ?_)
    refine lv_aload_n hx hb d_M_difference_63 rfl (lv_at hl 0 rfl) ?_
    refine lv_iconst (v := (2 : Int32)) hx hb d_M_difference_64 (by decide) ?_
    refine lv_iload hx hb d_M_difference_65 (lv_at hl 2 rfl) ?_
    refine lv_iload hx hb d_M_difference_67 (lv_at hl 1 rfl) ?_
    refine lv_ineg hx hb d_M_difference_69 ?_
    refine lv_iconst (v := (2 : Int32)) hx hb d_M_difference_70 (by decide) ?_
    refine lv_idiv hx hb d_M_difference_71 (by decide) ?_
    refine lv_icmp_lt (tgt := 84) hx hb d_M_difference_72 (by decide) (fun hc => ?_) (fun hc => ?_)
    · replace hf := (if_pos hc).symm.trans hf
      exact J84 v7 z10 hf _ _ _ (lv_sub hl [3] rfl) hP hD hS
    · replace hf := (if_neg hc).symm.trans hf
      refine lv_iload hx hb d_M_difference_75 (lv_at hl 2 rfl) ?_
      refine lv_iload hx hb d_M_difference_77 (lv_at hl 1 rfl) ?_
      refine lv_iconst (v := (2 : Int32)) hx hb d_M_difference_79 (by decide) ?_
      refine lv_idiv hx hb d_M_difference_80 (by decide) ?_
      refine lv_icmp_lt (tgt := 88) hx hb d_M_difference_81 (by decide) (fun hc => ?_) (fun hc => ?_)
      · replace hf := (if_pos hc).symm.trans hf
        refine lv_iconst (v := (0 : Int32)) hx hb d_M_difference_88 (by decide) ?_
        exact J89 v7 false z10 hf _ _ _ (lv_sub hl [3] rfl) hP hD hS
      · replace hf := (if_neg hc).symm.trans hf
        exact J84 v7 z10 hf _ _ _ (lv_sub hl [3] rfl) hP hD hS
  unfold mo_difference at hf
  refine lv_iconst (v := (1 : Int32)) hx hb d_M_difference_0 (by decide) ?_
  refine lv_iload hx hb d_M_difference_1 (lv_at hl 4 rfl) ?_
  refine lv_ishl hx hb d_M_difference_3 ?_
  refine lv_istore hx hb d_M_difference_4 hl (by decide) rfl (fun ls hl => ?_)
  have hl : lv_has ls 8 [(5, .int ((1 : Int32) <<< (x4 &&& 31))), (0, .ref h0), (1, .int x1), (2, .int x2), (3, .int x3), (4, .int x4)] := hl
  refine lv_iload_n hx hb d_M_difference_6 rfl (lv_at hl 2 rfl) ?_
  refine lv_iload hx hb d_M_difference_7 (lv_at hl 5 rfl) ?_
  obtain ⟨z11, hz11, hf⟩ := op_b hf
  refine cl_si X cw_M_69 hK hP hD hS hA hl (c_mo_number hz11) ⟨rfl, rfl, Nat.le_of_ble_eq_true rfl, Nat.le_of_ble_eq_true rfl⟩ rfl rfl (Nat.le_of_ble_eq_true rfl) d_M_difference_9 (fun H locs hP hD hS => ?_)
  refine lv_iload_n hx hb d_M_difference_12 rfl (lv_at hl 3 rfl) ?_
  refine lv_iload hx hb d_M_difference_13 (lv_at hl 5 rfl) ?_
  obtain ⟨z12, hz12, hf⟩ := op_b hf
  refine cl_si X cw_M_69 hK hP hD hS hA hl (c_mo_number hz12) ⟨rfl, rfl, Nat.le_of_ble_eq_true rfl, Nat.le_of_ble_eq_true rfl⟩ rfl rfl (Nat.le_of_ble_eq_true rfl) d_M_difference_15 (fun H locs hP hD hS => ?_)
  refine lv_isub hx hb d_M_difference_18 ?_
  refine lv_iload_n hx hb d_M_difference_19 rfl (lv_at hl 4 rfl) ?_
  refine lv_isub hx hb d_M_difference_20 ?_
  refine lv_istore hx hb d_M_difference_21 hl (by decide) rfl (fun ls hl => ?_)
  have hl : lv_has ls 8 [(6, .int ((z11 - z12) - x3)), (5, .int ((1 : Int32) <<< (x4 &&& 31))), (0, .ref h0), (1, .int x1), (2, .int x2), (3, .int x3), (4, .int x4)] := hl
  refine lv_iload_n hx hb d_M_difference_23 rfl (lv_at hl 3 rfl) ?_
  refine lv_iload_n hx hb d_M_difference_24 rfl (lv_at hl 4 rfl) ?_
  refine lv_isub hx hb d_M_difference_25 ?_
  refine lv_iload_n hx hb d_M_difference_26 rfl (lv_at hl 5 rfl) ?_
  refine lv_isub hx hb d_M_difference_27 ?_
  refine lv_iconst (v := (2 : Int32)) hx hb d_M_difference_28 (by decide) ?_
  refine lv_iload hx hb d_M_difference_29 (lv_at hl 1 rfl) ?_
  refine lv_imul hx hb d_M_difference_31 ?_
  refine lv_iadd hx hb d_M_difference_32 ?_
  refine lv_iload hx hb d_M_difference_33 (lv_at hl 1 rfl) ?_
  obtain ⟨hz13, hf⟩ := op_z hf
  refine lv_irem hx hb d_M_difference_35 hz13 ?_
  refine lv_istore hx hb d_M_difference_36 hl (by decide) rfl (fun ls hl => ?_)
  have hl : lv_has ls 8 [(7, .int ((((x1 - x2) - x3) + ((2 : Int32) * ((1 : Int32) <<< (x4 &&& 31)))) - (((x1 - x2) - x3) + ((2 : Int32) * ((1 : Int32) <<< (x4 &&& 31)))) / ((1 : Int32) <<< (x4 &&& 31)) * ((1 : Int32) <<< (x4 &&& 31)))), (6, .int ((z11 - z12) - x3)), (5, .int ((1 : Int32) <<< (x4 &&& 31))), (0, .ref h0), (1, .int x1), (2, .int x2), (3, .int x3), (4, .int x4)] := hl
  refine lv_aload_n hx hb d_M_difference_38 rfl (lv_at hl 3 rfl) ?_
  refine lv_iload hx hb d_M_difference_39 (lv_at hl 0 rfl) ?_
  refine lv_iload hx hb d_M_difference_41 (lv_at hl 7 rfl) ?_
  obtain ⟨z14, hz14, hf⟩ := op_b hf
  refine cl_v X cw_M_66 hK hP hD hS hA hl (c_mo_sign hz14) ⟨rfl, rfl, Nat.le_of_ble_eq_true rfl, Nat.le_of_ble_eq_true rfl⟩ 0 rfl rfl rfl rfl rfl (Nat.le_of_ble_eq_true rfl) d_M_difference_43 (fun H locs hP hD hS => ?_)
  refine lv_aload_n hx hb d_M_difference_46 rfl (lv_at hl 3 rfl) ?_
  refine lv_iconst (v := (1 : Int32)) hx hb d_M_difference_47 (by decide) ?_
  refine lv_iload_n hx hb d_M_difference_48 rfl (lv_at hl 5 rfl) ?_
  refine lv_iload_n hx hb d_M_difference_49 rfl (lv_at hl 6 rfl) ?_
  refine lv_iadd hx hb d_M_difference_50 ?_
  refine lv_iload_n hx hb d_M_difference_51 rfl (lv_at hl 4 rfl) ?_
  refine lv_icmp_le (tgt := 59) hx hb d_M_difference_52 (by decide) (fun hc => ?_) (fun hc => ?_)
  · replace hf := (if_pos hc).symm.trans hf
    refine lv_iconst (v := (0 : Int32)) hx hb d_M_difference_59 (by decide) ?_
    exact J60 ((1 : Int32) <<< (x4 &&& 31)) ((z11 - z12) - x3) ((((x1 - x2) - x3) + ((2 : Int32) * ((1 : Int32) <<< (x4 &&& 31)))) - (((x1 - x2) - x3) + ((2 : Int32) * ((1 : Int32) <<< (x4 &&& 31)))) / ((1 : Int32) <<< (x4 &&& 31)) * ((1 : Int32) <<< (x4 &&& 31))) false z14 hf _ _ _ (lv_sub hl [3, 2, 1, 0] rfl) hP hD hS
  · replace hf := (if_neg hc).symm.trans hf
    refine lv_iconst (v := (1 : Int32)) hx hb d_M_difference_55 (by decide) ?_
    refine lv_goto (tgt := 60) hx hb d_M_difference_56 (by decide) ?_
    exact J60 ((1 : Int32) <<< (x4 &&& 31)) ((z11 - z12) - x3) ((((x1 - x2) - x3) + ((2 : Int32) * ((1 : Int32) <<< (x4 &&& 31)))) - (((x1 - x2) - x3) + ((2 : Int32) * ((1 : Int32) <<< (x4 &&& 31)))) / ((1 : Int32) <<< (x4 &&& 31)) * ((1 : Int32) <<< (x4 &&& 31))) true z14 hf _ _ _ (lv_sub hl [3, 2, 1, 0] rfl) hP hD hS
set_option maxHeartbeats 4000000 in
set_option maxRecDepth 100000 in
theorem c_mo_stepping {x1 : Int32} {x2 : Int32} {z : Int32 × (Nat → Int32)} (hf : mo_stepping x1 x2 rg = some z) : co_i l my_M_stepping mb_M_stepping 5 .int rm_m_stepping D (ty_ cI cT) [.ref h0, .int x1, .int x2] (mw_ h0 h1 h2 h3 h4 h5 h6 h7 cI me rg so sv tl su qu wa ru pe re pn lo se pa sp iv) (mw_ h0 h1 h2 h3 h4 h5 h6 h7 cI me z.2 so sv tl su qu wa ru pe re pn lo se pa sp iv) z.1 := by
  refine co_i_of (by decide) (Nat.le_of_ble_eq_true rfl) ?_
  intro p e s m below meth c A ls X hr hlk hK hP hD hS hA hl
  have hx := X.1
  have hb := X.2.1
  have hl : lv_has ls 5 [(0, .ref h0), (1, .int x1), (2, .int x2)] := hl
  have J32 : ∀ (v1 : Int32) (v2 : Int32) (v4 : Int32) (s0 : Int32) (s1 : Int32) (rg : Nat → Int32), mo_stepping_j32 v1 v2 v4 s0 s1 rg = some z → ∀ (H : Heap) (locs : List Loc) (ls : Array Slot), lv_has ls 5 [(0, .ref h0), (1, .int v1), (2, .int v2), (4, .int v4)] → va_P D cz_all (mw_ h0 h1 h2 h3 h4 h5 h6 h7 cI me rg so sv tl su qu wa ru pe re pn lo se pa sp iv) H → va_D A (mw_ h0 h1 h2 h3 h4 h5 h6 h7 cI me rg so sv tl su qu wa ru pe re pn lo se pa sp iv) → va_S A s.heap H locs → W p l e rm_m_stepping s m ([.ref h0, .int x1, .int x2] : List Value).toArray below meth c H locs 0 0 (MQ below (qs_i D (ty_ cI cT) (mw_ h0 h1 h2 h3 h4 h5 h6 h7 cI me z.2 so sv tl su qu wa ru pe re pn lo se pa sp iv) z.1 A) ([.ref h0, .int x1, .int x2] : List Value).toArray s 0 0 A) (F0 m 32 ls [.int s0, .int s1, .ref h0]) := by
    intro v1 v2 v4 s0 s1 rg hf H locs ls hl hP hD hS
    unfold mo_stepping_j32 at hf
    obtain ⟨z4, hz4, hf⟩ := op_b hf
    refine cl_v X cw_M_51 hK hP hD hS hA hl (c_mo_set hz4) ⟨rfl, rfl, Nat.le_of_ble_eq_true rfl, Nat.le_of_ble_eq_true rfl⟩ 0 rfl rfl rfl rfl rfl (Nat.le_of_ble_eq_true rfl) d_M_stepping_32 (fun H locs hP hD hS => ?_)
    refine lv_iload_n hx hb d_M_stepping_35 rfl (lv_at hl 2 rfl) ?_
    refine lv_iconst (v := (2 : Int32)) hx hb d_M_stepping_36 (by decide) ?_
    refine lv_icmp_ge (tgt := 45) hx hb d_M_stepping_37 (by decide) (fun hc => ?_) (fun hc => ?_)
    · replace hf := (if_pos hc).symm.trans hf
      refine lv_aload_n hx hb d_M_stepping_45 rfl (lv_at hl 0 rfl) ?_
      refine mg_reg X hK hP d_M_stepping_46 ?_
      refine lv_iload_n hx hb d_M_stepping_49 rfl (lv_at hl 1 rfl) ?_
      obtain ⟨hi5, hf⟩ := op_c hf
      refine ma_rg (k := (v1.toNatClampNeg)) X hK hP hi5 rfl d_M_stepping_50 ?_
      have hq := Option.some.inj hf
      subst hq
      exact rt_i (r := (z4 (v1.toNatClampNeg))) X hr hlk hK rfl hP hD hS d_M_stepping_51
    · replace hf := (if_neg hc).symm.trans hf
      refine lv_iload hx hb d_M_stepping_40 (lv_at hl 3 rfl) ?_
      refine lv_goto (tgt := 51) hx hb d_M_stepping_42 (by decide) ?_
      have hq := Option.some.inj hf
      subst hq
      exact rt_i (r := v4) X hr hlk hK rfl hP hD hS d_M_stepping_51
  unfold mo_stepping at hf
  refine lv_iconst (v := (1 : Int32)) hx hb d_M_stepping_0 (by decide) ?_
  refine lv_iload_n hx hb d_M_stepping_1 rfl (lv_at hl 2 rfl) ?_
  refine lv_iconst (v := (1 : Int32)) hx hb d_M_stepping_2 (by decide) ?_
  refine lv_iand hx hb d_M_stepping_3 ?_
  refine lv_iadd hx hb d_M_stepping_4 ?_
  refine lv_istore_n hx hb d_M_stepping_5 rfl hl (by decide) rfl (fun ls hl => ?_)
  have hl : lv_has ls 5 [(3, .int ((1 : Int32) + (x2 &&& (1 : Int32)))), (0, .ref h0), (1, .int x1), (2, .int x2)] := hl
  refine lv_aload_n hx hb d_M_stepping_6 rfl (lv_at hl 1 rfl) ?_
  refine mg_reg X hK hP d_M_stepping_7 ?_
  refine lv_iload_n hx hb d_M_stepping_10 rfl (lv_at hl 2 rfl) ?_
  obtain ⟨hi6, hf⟩ := op_c hf
  refine ma_rg (k := (x1.toNatClampNeg)) X hK hP hi6 rfl d_M_stepping_11 ?_
  refine lv_istore hx hb d_M_stepping_12 hl (by decide) rfl (fun ls hl => ?_)
  have hl : lv_has ls 5 [(4, .int (rg (x1.toNatClampNeg))), (3, .int ((1 : Int32) + (x2 &&& (1 : Int32)))), (0, .ref h0), (1, .int x1), (2, .int x2)] := hl
  refine lv_aload_n hx hb d_M_stepping_14 rfl (lv_at hl 2 rfl) ?_
  refine lv_iload_n hx hb d_M_stepping_15 rfl (lv_at hl 3 rfl) ?_
  refine lv_iload_n hx hb d_M_stepping_16 rfl (lv_at hl 4 rfl) ?_
  refine lv_iconst (v := (2 : Int32)) hx hb d_M_stepping_17 (by decide) ?_
  refine lv_icmp_ge (tgt := 28) hx hb d_M_stepping_18 (by decide) (fun hc => ?_) (fun hc => ?_)
  · replace hf := (if_pos hc).symm.trans hf
    refine lv_iload hx hb d_M_stepping_28 (lv_at hl 0 rfl) ?_
    refine lv_iload_n hx hb d_M_stepping_30 rfl (lv_at hl 1 rfl) ?_
    refine lv_isub hx hb d_M_stepping_31 ?_
    exact J32 x1 x2 (rg (x1.toNatClampNeg)) ((rg (x1.toNatClampNeg)) - ((1 : Int32) + (x2 &&& (1 : Int32)))) x1 rg hf _ _ _ (lv_sub hl [2, 3, 4, 0] rfl) hP hD hS
  · replace hf := (if_neg hc).symm.trans hf
    refine lv_iload hx hb d_M_stepping_21 (lv_at hl 0 rfl) ?_
    refine lv_iload_n hx hb d_M_stepping_23 rfl (lv_at hl 1 rfl) ?_
    refine lv_iadd hx hb d_M_stepping_24 ?_
    refine lv_goto (tgt := 32) hx hb d_M_stepping_25 (by decide) ?_
    exact J32 x1 x2 (rg (x1.toNatClampNeg)) ((rg (x1.toNatClampNeg)) + ((1 : Int32) + (x2 &&& (1 : Int32)))) x1 rg hf _ _ _ (lv_sub hl [2, 3, 4, 0] rfl) hP hD hS
set_option maxHeartbeats 4000000 in
set_option maxRecDepth 100000 in
theorem c_mo_offset {x1 : Int32} {x2 : Int32} {z : Int32 × (Nat → Int32) × Int32} (hf : mo_offset x1 x2 me rg sp = some z) : co_i l my_M_offset mb_M_offset 5 .int rm_m_offset D (ty_ cI cT) [.ref h0, .int x1, .int x2] (mw_ h0 h1 h2 h3 h4 h5 h6 h7 cI me rg so sv tl su qu wa ru pe re pn lo se pa sp iv) (mw_ h0 h1 h2 h3 h4 h5 h6 h7 cI me z.2.1 so sv tl su qu wa ru pe re pn lo se pa z.2.2 iv) z.1 := by
  refine co_i_of (by decide) (Nat.le_of_ble_eq_true rfl) ?_
  intro p e s m below meth c A ls X hr hlk hK hP hD hS hA hl
  have hx := X.1
  have hb := X.2.1
  have hl : lv_has ls 5 [(0, .ref h0), (1, .int x1), (2, .int x2)] := hl
  unfold mo_offset at hf
  refine lv_aload_n hx hb d_M_offset_0 rfl (lv_at hl 0 rfl) ?_
  refine mg_reg X hK hP d_M_offset_1 ?_
  refine lv_iload_n hx hb d_M_offset_4 rfl (lv_at hl 1 rfl) ?_
  obtain ⟨hi12, hf⟩ := op_c hf
  refine ma_rg (k := (x1.toNatClampNeg)) X hK hP hi12 rfl d_M_offset_5 ?_
  refine lv_istore_n hx hb d_M_offset_6 rfl hl (by decide) rfl (fun ls hl => ?_)
  have hl : lv_has ls 5 [(3, .int (rg (x1.toNatClampNeg))), (0, .ref h0), (1, .int x1), (2, .int x2)] := hl
  refine lv_iload_n hx hb d_M_offset_7 rfl (lv_at hl 3 rfl) ?_
  by_cases hk13 : x2 = (5 : Int32)
  · replace hf := (if_pos hk13).symm.trans hf
    refine lv_tableIn (tgt := 68) (off := 60) hx hb d_M_offset_8 (by rw [hk13]; decide) (by rw [hk13]; decide) (by rw [hk13]; rfl) (by decide) ?_
    refine lv_iload_n hx hb d_M_offset_68 rfl (lv_at hl 0 rfl) ?_
    refine lv_aload_n hx hb d_M_offset_69 rfl (lv_at hl 1 rfl) ?_
    refine mg_reg X hK hP d_M_offset_70 ?_
    refine lv_bipush (v := (9 : Int32)) hx hb d_M_offset_73 (by decide) ?_
    refine ma_rg (k := 9) X hK hP (in_b_vp (by decide)) (by decide) d_M_offset_75 ?_
    obtain ⟨z14, hz14, hf⟩ := op_b hf
    refine cl_si X cw_M_86 hK hP hD hS hA hl (c_mo_signed hz14) ⟨rfl, rfl, Nat.le_of_ble_eq_true rfl, Nat.le_of_ble_eq_true rfl⟩ rfl rfl (Nat.le_of_ble_eq_true rfl) d_M_offset_76 (fun H locs hP hD hS => ?_)
    refine lv_iadd hx hb d_M_offset_79 ?_
    have hq := Option.some.inj hf
    subst hq
    exact rt_i (r := ((rg (x1.toNatClampNeg)) + z14)) X hr hlk hK rfl hP hD hS d_M_offset_80
  · replace hf := (if_neg hk13).symm.trans hf
    by_cases hk15 : x2 = (6 : Int32)
    · replace hf := (if_pos hk15).symm.trans hf
      refine lv_tableIn (tgt := 81) (off := 73) hx hb d_M_offset_8 (by rw [hk15]; decide) (by rw [hk15]; decide) (by rw [hk15]; rfl) (by decide) ?_
      refine lv_iload_n hx hb d_M_offset_81 rfl (lv_at hl 0 rfl) ?_
      refine lv_aload_n hx hb d_M_offset_82 rfl (lv_at hl 1 rfl) ?_
      refine mg_reg X hK hP d_M_offset_83 ?_
      refine lv_bipush (v := (8 : Int32)) hx hb d_M_offset_86 (by decide) ?_
      refine ma_rg (k := 8) X hK hP (in_b_vp (by decide)) (by decide) d_M_offset_88 ?_
      obtain ⟨z16, hz16, hf⟩ := op_b hf
      refine cl_si X cw_M_86 hK hP hD hS hA hl (c_mo_signed hz16) ⟨rfl, rfl, Nat.le_of_ble_eq_true rfl, Nat.le_of_ble_eq_true rfl⟩ rfl rfl (Nat.le_of_ble_eq_true rfl) d_M_offset_89 (fun H locs hP hD hS => ?_)
      refine lv_iadd hx hb d_M_offset_92 ?_
      have hq := Option.some.inj hf
      subst hq
      exact rt_i (r := ((rg (x1.toNatClampNeg)) + z16)) X hr hlk hK rfl hP hD hS d_M_offset_93
    · replace hf := (if_neg hk15).symm.trans hf
      by_cases hk17 : x2 = (7 : Int32)
      · replace hf := (if_pos hk17).symm.trans hf
        refine lv_tableIn (tgt := 159) (off := 151) hx hb d_M_offset_8 (by rw [hk17]; decide) (by rw [hk17]; decide) (by rw [hk17]; rfl) (by decide) ?_
        refine lv_iload_n hx hb d_M_offset_159 rfl (lv_at hl 0 rfl) ?_
        have hq := Option.some.inj hf
        subst hq
        exact rt_i (r := (rg (x1.toNatClampNeg))) X hr hlk hK rfl hP hD hS d_M_offset_160
      · replace hf := (if_neg hk17).symm.trans hf
        by_cases hk18 : x2 = (8 : Int32)
        · replace hf := (if_pos hk18).symm.trans hf
          refine lv_tableIn (tgt := 94) (off := 86) hx hb d_M_offset_8 (by rw [hk18]; decide) (by rw [hk18]; decide) (by rw [hk18]; rfl) (by decide) ?_
          refine lv_iload_n hx hb d_M_offset_94 rfl (lv_at hl 0 rfl) ?_
          refine lv_aload_n hx hb d_M_offset_95 rfl (lv_at hl 1 rfl) ?_
          obtain ⟨z19, hz19, hf⟩ := op_b hf
          refine cl_i X cw_M_54 hK hP hD hS hA hl (c_mo_fetch hz19) ⟨rfl, rfl, Nat.le_of_ble_eq_true rfl, Nat.le_of_ble_eq_true rfl⟩ 0 rfl rfl rfl rfl rfl (Nat.le_of_ble_eq_true rfl) d_M_offset_96 (fun H locs hP hD hS => ?_)
          obtain ⟨z20, hz20, hf⟩ := op_b hf
          refine cl_si X cw_M_86 hK hP hD hS hA hl (c_mo_signed hz20) ⟨rfl, rfl, Nat.le_of_ble_eq_true rfl, Nat.le_of_ble_eq_true rfl⟩ rfl rfl (Nat.le_of_ble_eq_true rfl) d_M_offset_99 (fun H locs hP hD hS => ?_)
          refine lv_iadd hx hb d_M_offset_102 ?_
          have hq := Option.some.inj hf
          subst hq
          exact rt_i (r := ((rg (x1.toNatClampNeg)) + z20)) X hr hlk hK rfl hP hD hS d_M_offset_103
        · replace hf := (if_neg hk18).symm.trans hf
          by_cases hk21 : x2 = (9 : Int32)
          · replace hf := (if_pos hk21).symm.trans hf
            refine lv_tableIn (tgt := 104) (off := 96) hx hb d_M_offset_8 (by rw [hk21]; decide) (by rw [hk21]; decide) (by rw [hk21]; rfl) (by decide) ?_
            refine lv_iload_n hx hb d_M_offset_104 rfl (lv_at hl 0 rfl) ?_
            refine lv_aload_n hx hb d_M_offset_105 rfl (lv_at hl 1 rfl) ?_
            obtain ⟨z22, hz22, hf⟩ := op_b hf
            refine cl_i X cw_M_73 hK hP hD hS hA hl (c_mo_fetchWord hz22) ⟨rfl, rfl, Nat.le_of_ble_eq_true rfl, Nat.le_of_ble_eq_true rfl⟩ 0 rfl rfl rfl rfl rfl (Nat.le_of_ble_eq_true rfl) d_M_offset_106 (fun H locs hP hD hS => ?_)
            refine lv_iadd hx hb d_M_offset_109 ?_
            have hq := Option.some.inj hf
            subst hq
            exact rt_i (r := ((rg (x1.toNatClampNeg)) + z22.1)) X hr hlk hK rfl hP hD hS d_M_offset_110
          · replace hf := (if_neg hk21).symm.trans hf
            by_cases hk23 : x2 = (10 : Int32)
            · replace hf := (if_pos hk23).symm.trans hf
              refine lv_tableIn (tgt := 159) (off := 151) hx hb d_M_offset_8 (by rw [hk23]; decide) (by rw [hk23]; decide) (by rw [hk23]; rfl) (by decide) ?_
              refine lv_iload_n hx hb d_M_offset_159 rfl (lv_at hl 0 rfl) ?_
              have hq := Option.some.inj hf
              subst hq
              exact rt_i (r := (rg (x1.toNatClampNeg))) X hr hlk hK rfl hP hD hS d_M_offset_160
            · replace hf := (if_neg hk23).symm.trans hf
              by_cases hk24 : x2 = (11 : Int32)
              · replace hf := (if_pos hk24).symm.trans hf
                refine lv_tableIn (tgt := 111) (off := 103) hx hb d_M_offset_8 (by rw [hk24]; decide) (by rw [hk24]; decide) (by rw [hk24]; rfl) (by decide) ?_
                refine lv_iload_n hx hb d_M_offset_111 rfl (lv_at hl 0 rfl) ?_
                refine lv_aload_n hx hb d_M_offset_112 rfl (lv_at hl 1 rfl) ?_
                refine lv_iconst (v := (0 : Int32)) hx hb d_M_offset_113 (by decide) ?_
                obtain ⟨z25, hz25, hf⟩ := op_b hf
                refine cl_i X cw_M_89 hK hP hD hS hA hl (c_mo_get hz25) ⟨rfl, rfl, Nat.le_of_ble_eq_true rfl, Nat.le_of_ble_eq_true rfl⟩ 0 rfl rfl rfl rfl rfl (Nat.le_of_ble_eq_true rfl) d_M_offset_114 (fun H locs hP hD hS => ?_)
                refine lv_iadd hx hb d_M_offset_117 ?_
                have hq := Option.some.inj hf
                subst hq
                exact rt_i (r := ((rg (x1.toNatClampNeg)) + z25)) X hr hlk hK rfl hP hD hS d_M_offset_118
              · replace hf := (if_neg hk24).symm.trans hf
                by_cases hk26 : x2 = (12 : Int32)
                · replace hf := (if_pos hk26).symm.trans hf
                  refine lv_tableIn (tgt := 119) (off := 111) hx hb d_M_offset_8 (by rw [hk26]; decide) (by rw [hk26]; decide) (by rw [hk26]; rfl) (by decide) ?_
                  refine lv_aload_n hx hb d_M_offset_119 rfl (lv_at hl 1 rfl) ?_
                  obtain ⟨z27, hz27, hf⟩ := op_b hf
                  refine cl_i X cw_M_54 hK hP hD hS hA hl (c_mo_fetch hz27) ⟨rfl, rfl, Nat.le_of_ble_eq_true rfl, Nat.le_of_ble_eq_true rfl⟩ 0 rfl rfl rfl rfl rfl (Nat.le_of_ble_eq_true rfl) d_M_offset_120 (fun H locs hP hD hS => ?_)
                  obtain ⟨z28, hz28, hf⟩ := op_b hf
                  refine cl_si X cw_M_86 hK hP hD hS hA hl (c_mo_signed hz28) ⟨rfl, rfl, Nat.le_of_ble_eq_true rfl, Nat.le_of_ble_eq_true rfl⟩ rfl rfl (Nat.le_of_ble_eq_true rfl) d_M_offset_123 (fun H locs hP hD hS => ?_)
                  refine lv_istore hx hb d_M_offset_126 hl (by decide) rfl (fun ls hl => ?_)
                  have hl : lv_has ls 5 [(4, .int z28), (3, .int (rg (x1.toNatClampNeg))), (0, .ref h0), (1, .int x1), (2, .int x2)] := hl
                  refine lv_aload_n hx hb d_M_offset_128 rfl (lv_at hl 2 rfl) ?_
                  refine mg_reg X hK hP d_M_offset_129 ?_
                  refine lv_iconst (v := (5 : Int32)) hx hb d_M_offset_132 (by decide) ?_
                  refine ma_rg (k := 5) X hK hP (in_b_vp (by decide)) (by decide) d_M_offset_133 ?_
                  refine lv_iload hx hb d_M_offset_134 (lv_at hl 0 rfl) ?_
                  refine lv_iadd hx hb d_M_offset_136 ?_
                  have hq := Option.some.inj hf
                  subst hq
                  exact rt_i (r := ((z27.2.1 5) + z28)) X hr hlk hK rfl hP hD hS d_M_offset_137
                · replace hf := (if_neg hk26).symm.trans hf
                  by_cases hk29 : x2 = (13 : Int32)
                  · replace hf := (if_pos hk29).symm.trans hf
                    refine lv_tableIn (tgt := 138) (off := 130) hx hb d_M_offset_8 (by rw [hk29]; decide) (by rw [hk29]; decide) (by rw [hk29]; rfl) (by decide) ?_
                    refine lv_aload_n hx hb d_M_offset_138 rfl (lv_at hl 1 rfl) ?_
                    obtain ⟨z30, hz30, hf⟩ := op_b hf
                    refine cl_i X cw_M_73 hK hP hD hS hA hl (c_mo_fetchWord hz30) ⟨rfl, rfl, Nat.le_of_ble_eq_true rfl, Nat.le_of_ble_eq_true rfl⟩ 0 rfl rfl rfl rfl rfl (Nat.le_of_ble_eq_true rfl) d_M_offset_139 (fun H locs hP hD hS => ?_)
                    refine lv_istore hx hb d_M_offset_142 hl (by decide) rfl (fun ls hl => ?_)
                    have hl : lv_has ls 5 [(4, .int z30.1), (3, .int (rg (x1.toNatClampNeg))), (0, .ref h0), (1, .int x1), (2, .int x2)] := hl
                    refine lv_aload_n hx hb d_M_offset_144 rfl (lv_at hl 2 rfl) ?_
                    refine mg_reg X hK hP d_M_offset_145 ?_
                    refine lv_iconst (v := (5 : Int32)) hx hb d_M_offset_148 (by decide) ?_
                    refine ma_rg (k := 5) X hK hP (in_b_vp (by decide)) (by decide) d_M_offset_149 ?_
                    refine lv_iload hx hb d_M_offset_150 (lv_at hl 0 rfl) ?_
                    refine lv_iadd hx hb d_M_offset_152 ?_
                    have hq := Option.some.inj hf
                    subst hq
                    exact rt_i (r := ((z30.2.1 5) + z30.1)) X hr hlk hK rfl hP hD hS d_M_offset_153
                  · replace hf := (if_neg hk29).symm.trans hf
                    by_cases hk31 : x2 = (14 : Int32)
                    · replace hf := (if_pos hk31).symm.trans hf
                      refine lv_tableIn (tgt := 159) (off := 151) hx hb d_M_offset_8 (by rw [hk31]; decide) (by rw [hk31]; decide) (by rw [hk31]; rfl) (by decide) ?_
                      refine lv_iload_n hx hb d_M_offset_159 rfl (lv_at hl 0 rfl) ?_
                      have hq := Option.some.inj hf
                      subst hq
                      exact rt_i (r := (rg (x1.toNatClampNeg))) X hr hlk hK rfl hP hD hS d_M_offset_160
                    · replace hf := (if_neg hk31).symm.trans hf
                      by_cases hk32 : x2 = (15 : Int32)
                      · replace hf := (if_pos hk32).symm.trans hf
                        refine lv_tableIn (tgt := 154) (off := 146) hx hb d_M_offset_8 (by rw [hk32]; decide) (by rw [hk32]; decide) (by rw [hk32]; rfl) (by decide) ?_
                        refine lv_aload_n hx hb d_M_offset_154 rfl (lv_at hl 1 rfl) ?_
                        obtain ⟨z33, hz33, hf⟩ := op_b hf
                        refine cl_i X cw_M_73 hK hP hD hS hA hl (c_mo_fetchWord hz33) ⟨rfl, rfl, Nat.le_of_ble_eq_true rfl, Nat.le_of_ble_eq_true rfl⟩ 0 rfl rfl rfl rfl rfl (Nat.le_of_ble_eq_true rfl) d_M_offset_155 (fun H locs hP hD hS => ?_)
                        have hq := Option.some.inj hf
                        subst hq
                        exact rt_i (r := z33.1) X hr hlk hK rfl hP hD hS d_M_offset_158
                      · replace hf := (if_neg hk32).symm.trans hf
                        refine lv_tableOut (tgt := 159) hx hb d_M_offset_8 (by have q0 := lv_neT hk13 (show Int32.toInt (5 : Int32) = 5 by decide); have q1 := lv_neT hk15 (show Int32.toInt (6 : Int32) = 6 by decide); have q2 := lv_neT hk17 (show Int32.toInt (7 : Int32) = 7 by decide); have q3 := lv_neT hk18 (show Int32.toInt (8 : Int32) = 8 by decide); have q4 := lv_neT hk21 (show Int32.toInt (9 : Int32) = 9 by decide); have q5 := lv_neT hk23 (show Int32.toInt (10 : Int32) = 10 by decide); have q6 := lv_neT hk24 (show Int32.toInt (11 : Int32) = 11 by decide); have q7 := lv_neT hk26 (show Int32.toInt (12 : Int32) = 12 by decide); have q8 := lv_neT hk29 (show Int32.toInt (13 : Int32) = 13 by decide); have q9 := lv_neT hk31 (show Int32.toInt (14 : Int32) = 14 by decide); have q10 := lv_neT hk32 (show Int32.toInt (15 : Int32) = 15 by decide); omega) (by decide) ?_
                        refine lv_iload_n hx hb d_M_offset_159 rfl (lv_at hl 0 rfl) ?_
                        have hq := Option.some.inj hf
                        subst hq
                        exact rt_i (r := (rg (x1.toNatClampNeg))) X hr hlk hK rfl hP hD hS d_M_offset_160
set_option maxHeartbeats 4000000 in
set_option maxRecDepth 100000 in
theorem c_mo_address {x1 : Int32} {z : Int32 × (Nat → Int32) × Int32 × Bool} (hf : mo_address x1 me rg sp iv = some z) : co_i l my_M_address mb_M_address 7 .int rm_m_address D (ty_ cI cT) [.ref h0, .int x1] (mw_ h0 h1 h2 h3 h4 h5 h6 h7 cI me rg so sv tl su qu wa ru pe re pn lo se pa sp iv) (mw_ h0 h1 h2 h3 h4 h5 h6 h7 cI me z.2.1 so sv tl su qu wa ru pe re pn lo se pa z.2.2.1 z.2.2.2) z.1 := by
  refine co_i_of (by decide) (Nat.le_of_ble_eq_true rfl) ?_
  intro p e s m below meth c A ls X hr hlk hK hP hD hS hA hl
  have hx := X.1
  have hb := X.2.1
  have hl : lv_has ls 7 [(0, .ref h0), (1, .int x1)] := hl
  have J191 : ∀ (v5 : Bool) (s0 : Int32) (me : Nat → Int32) (rg : Nat → Int32) (sp : Int32) (iv : Bool), mo_address_j191 v5 s0 me rg sp iv = some z → ∀ (H : Heap) (locs : List Loc) (ls : Array Slot), lv_has ls 7 [(0, .ref h0), (5, .int (bz_i v5))] → va_P D cz_all (mw_ h0 h1 h2 h3 h4 h5 h6 h7 cI me rg so sv tl su qu wa ru pe re pn lo se pa sp iv) H → va_D A (mw_ h0 h1 h2 h3 h4 h5 h6 h7 cI me rg so sv tl su qu wa ru pe re pn lo se pa sp iv) → va_S A s.heap H locs → W p l e rm_m_address s m ([.ref h0, .int x1] : List Value).toArray below meth c H locs 0 0 (MQ below (qs_i D (ty_ cI cT) (mw_ h0 h1 h2 h3 h4 h5 h6 h7 cI me z.2.1 so sv tl su qu wa ru pe re pn lo se pa z.2.2.1 z.2.2.2) z.1 A) ([.ref h0, .int x1] : List Value).toArray s 0 0 A) (F0 m 191 ls [.int s0]) := by
    intro v5 s0 me rg sp iv hf H locs ls hl hP hD hS
    unfold mo_address_j191 at hf
    refine lv_ldc (v := (65535 : Int32)) hx hb X.2.2.2.1 (X.2.2.2.2 _ wd_0) d_M_address_191 ?_
    refine lv_iand hx hb d_M_address_193 ?_
    refine lv_istore hx hb d_M_address_194 hl (by decide) rfl (fun ls hl => ?_)
    have hl : lv_has ls 7 [(6, .int (s0 &&& (65535 : Int32))), (0, .ref h0), (5, .int (bz_i v5))] := hl
    refine lv_iload hx hb d_M_address_196 (lv_at hl 2 rfl) ?_
    refine lv_if_eq (tgt := 211) hx hb d_M_address_198 (by decide) (fun hc => ?_) (fun hc => ?_)
    · replace hf := (if_pos hc).symm.trans hf
      refine lv_iload hx hb d_M_address_211 (lv_at hl 0 rfl) ?_
      have hq := Option.some.inj hf
      subst hq
      exact rt_i (r := (s0 &&& (65535 : Int32))) X hr hlk hK rfl hP hD hS d_M_address_213
    · replace hf := (if_neg hc).symm.trans hf
      refine lv_aload_n hx hb d_M_address_201 rfl (lv_at hl 1 rfl) ?_
      refine lv_iload hx hb d_M_address_202 (lv_at hl 0 rfl) ?_
      refine lv_iconst (v := (1 : Int32)) hx hb d_M_address_204 (by decide) ?_
      obtain ⟨z10, hz10, hf⟩ := op_b hf
      refine cl_i X cw_M_47 hK hP hD hS hA hl (c_mo_load hz10) ⟨rfl, rfl, Nat.le_of_ble_eq_true rfl, Nat.le_of_ble_eq_true rfl⟩ 0 rfl rfl rfl rfl rfl (Nat.le_of_ble_eq_true rfl) d_M_address_205 (fun H locs hP hD hS => ?_)
      refine lv_goto (tgt := 213) hx hb d_M_address_208 (by decide) ?_
      have hq := Option.some.inj hf
      subst hq
      exact rt_i (r := z10.1) X hr hlk hK rfl hP hD hS d_M_address_213
  have J156 : ∀ (v3 : Int32) (v4 : Int32) (v5 : Bool) (s0 : Bool) (me : Nat → Int32) (rg : Nat → Int32) (sp : Int32) (iv : Bool), mo_address_j156 v3 v4 v5 s0 me rg sp iv = some z → ∀ (H : Heap) (locs : List Loc) (ls : Array Slot), lv_has ls 7 [(0, .ref h0), (3, .int v3), (4, .int v4), (5, .int (bz_i v5))] → va_P D cz_all (mw_ h0 h1 h2 h3 h4 h5 h6 h7 cI me rg so sv tl su qu wa ru pe re pn lo se pa sp iv) H → va_D A (mw_ h0 h1 h2 h3 h4 h5 h6 h7 cI me rg so sv tl su qu wa ru pe re pn lo se pa sp iv) → va_S A s.heap H locs → W p l e rm_m_address s m ([.ref h0, .int x1] : List Value).toArray below meth c H locs 0 0 (MQ below (qs_i D (ty_ cI cT) (mw_ h0 h1 h2 h3 h4 h5 h6 h7 cI me z.2.1 so sv tl su qu wa ru pe re pn lo se pa z.2.2.1 z.2.2.2) z.1 A) ([.ref h0, .int x1] : List Value).toArray s 0 0 A) (F0 m 156 ls [.int (bz_i s0), .ref h0]) := by
    intro v3 v4 v5 s0 me rg sp iv hf H locs ls hl hP hD hS
    unfold mo_address_j156 at hf
    refine mp_invalid (x := s0) X hK hP hD hS d_M_address_156 (fun H locs hP hD hS => ?_)
    refine lv_aload_n hx hb d_M_address_159 rfl (lv_at hl 0 rfl) ?_
    refine mg_invalid X hK hP d_M_address_160 ?_
    refine lv_if_eq (tgt := 168) hx hb d_M_address_163 (by decide) (fun hc => ?_) (fun hc => ?_)
    · replace hf := (if_pos hc).symm.trans hf
      refine lv_iload hx hb d_M_address_168 (lv_at hl 2 rfl) ?_
      refine lv_iconst (v := (4 : Int32)) hx hb d_M_address_170 (by decide) ?_
      refine lv_icmp_ge (tgt := 184) hx hb d_M_address_171 (by decide) (fun hc => ?_) (fun hc => ?_)
      · replace hf := (if_pos hc).symm.trans hf
        refine lv_aload_n hx hb d_M_address_184 rfl (lv_at hl 0 rfl) ?_
        refine lv_iload_n hx hb d_M_address_185 rfl (lv_at hl 1 rfl) ?_
        refine lv_iload hx hb d_M_address_186 (lv_at hl 2 rfl) ?_
        obtain ⟨z11, hz11, hf⟩ := op_b hf
        refine cl_i X cw_M_83 hK hP hD hS hA hl (c_mo_offset hz11) ⟨rfl, rfl, Nat.le_of_ble_eq_true rfl, Nat.le_of_ble_eq_true rfl⟩ 0 rfl rfl rfl rfl rfl (Nat.le_of_ble_eq_true rfl) d_M_address_188 (fun H locs hP hD hS => ?_)
        exact J191 v5 z11.1 me z11.2.1 z11.2.2 s0 hf _ _ _ (lv_sub hl [0, 3] rfl) hP hD hS
      · replace hf := (if_neg hc).symm.trans hf
        refine lv_aload_n hx hb d_M_address_174 rfl (lv_at hl 0 rfl) ?_
        refine lv_iload_n hx hb d_M_address_175 rfl (lv_at hl 1 rfl) ?_
        refine lv_iload hx hb d_M_address_176 (lv_at hl 2 rfl) ?_
        obtain ⟨z12, hz12, hf⟩ := op_b hf
        refine cl_i X cw_M_80 hK hP hD hS hA hl (c_mo_stepping hz12) ⟨rfl, rfl, Nat.le_of_ble_eq_true rfl, Nat.le_of_ble_eq_true rfl⟩ 0 rfl rfl rfl rfl rfl (Nat.le_of_ble_eq_true rfl) d_M_address_178 (fun H locs hP hD hS => ?_)
        refine lv_goto (tgt := 191) hx hb d_M_address_181 (by decide) ?_
        exact J191 v5 z12.1 me z12.2 sp s0 hf _ _ _ (lv_sub hl [0, 3] rfl) hP hD hS
    · replace hf := (if_neg hc).symm.trans hf
      refine lv_iconst (v := (-1 : Int32)) hx hb d_M_address_166 (by decide) ?_
      have hq := Option.some.inj hf
      subst hq
      exact rt_i (r := (-1 : Int32)) X hr hlk hK rfl hP hD hS d_M_address_167
  have J155 : ∀ (v3 : Int32) (v4 : Int32) (v5 : Bool) (me : Nat → Int32) (rg : Nat → Int32) (sp : Int32) (iv : Bool), mo_address_j155 v3 v4 v5 me rg sp iv = some z → ∀ (H : Heap) (locs : List Loc) (ls : Array Slot), lv_has ls 7 [(0, .ref h0), (3, .int v3), (4, .int v4), (5, .int (bz_i v5))] → va_P D cz_all (mw_ h0 h1 h2 h3 h4 h5 h6 h7 cI me rg so sv tl su qu wa ru pe re pn lo se pa sp iv) H → va_D A (mw_ h0 h1 h2 h3 h4 h5 h6 h7 cI me rg so sv tl su qu wa ru pe re pn lo se pa sp iv) → va_S A s.heap H locs → W p l e rm_m_address s m ([.ref h0, .int x1] : List Value).toArray below meth c H locs 0 0 (MQ below (qs_i D (ty_ cI cT) (mw_ h0 h1 h2 h3 h4 h5 h6 h7 cI me z.2.1 so sv tl su qu wa ru pe re pn lo se pa z.2.2.1 z.2.2.2) z.1 A) ([.ref h0, .int x1] : List Value).toArray s 0 0 A) (F0 m 155 ls [.ref h0]) := by
    intro v3 v4 v5 me rg sp iv hf H locs ls hl hP hD hS
    unfold mo_address_j155 at hf
    refine lv_iconst (v := (0 : Int32)) hx hb d_M_address_155 (by decide) ?_
    exact J156 v3 v4 v5 false me rg sp iv hf _ _ _ hl hP hD hS
  have J151 : ∀ (v3 : Int32) (v4 : Int32) (v5 : Bool) (me : Nat → Int32) (rg : Nat → Int32) (sp : Int32) (iv : Bool), mo_address_j151 v3 v4 v5 me rg sp iv = some z → ∀ (H : Heap) (locs : List Loc) (ls : Array Slot), lv_has ls 7 [(0, .ref h0), (3, .int v3), (4, .int v4), (5, .int (bz_i v5))] → va_P D cz_all (mw_ h0 h1 h2 h3 h4 h5 h6 h7 cI me rg so sv tl su qu wa ru pe re pn lo se pa sp iv) H → va_D A (mw_ h0 h1 h2 h3 h4 h5 h6 h7 cI me rg so sv tl su qu wa ru pe re pn lo se pa sp iv) → va_S A s.heap H locs → W p l e rm_m_address s m ([.ref h0, .int x1] : List Value).toArray below meth c H locs 0 0 (MQ below (qs_i D (ty_ cI cT) (mw_ h0 h1 h2 h3 h4 h5 h6 h7 cI me z.2.1 so sv tl su qu wa ru pe re pn lo se pa z.2.2.1 z.2.2.2) z.1 A) ([.ref h0, .int x1] : List Value).toArray s 0 0 A) (F0 m 151 ls [.ref h0]) := by
    intro v3 v4 v5 me rg sp iv hf H locs ls hl hP hD hS
    unfold mo_address_j151 at hf
    refine lv_iconst (v := (1 : Int32)) hx hb d_M_address_151 (by decide) ?_
    refine lv_goto (tgt := 156) hx hb d_M_address_152 (by decide) ?_
    exact J156 v3 v4 v5 true me rg sp iv hf _ _ _ hl hP hD hS
  have J139 : ∀ (v3 : Int32) (v4 : Int32) (v5 : Bool) (me : Nat → Int32) (rg : Nat → Int32) (sp : Int32) (iv : Bool), mo_address_j139 v3 v4 v5 me rg sp iv = some z → ∀ (H : Heap) (locs : List Loc) (ls : Array Slot), lv_has ls 7 [(0, .ref h0), (3, .int v3), (4, .int v4), (5, .int (bz_i v5))] → va_P D cz_all (mw_ h0 h1 h2 h3 h4 h5 h6 h7 cI me rg so sv tl su qu wa ru pe re pn lo se pa sp iv) H → va_D A (mw_ h0 h1 h2 h3 h4 h5 h6 h7 cI me rg so sv tl su qu wa ru pe re pn lo se pa sp iv) → va_S A s.heap H locs → W p l e rm_m_address s m ([.ref h0, .int x1] : List Value).toArray below meth c H locs 0 0 (MQ below (qs_i D (ty_ cI cT) (mw_ h0 h1 h2 h3 h4 h5 h6 h7 cI me z.2.1 so sv tl su qu wa ru pe re pn lo se pa z.2.2.1 z.2.2.2) z.1 A) ([.ref h0, .int x1] : List Value).toArray s 0 0 A) (F0 m 139 ls [.ref h0]) := by
    intro v3 v4 v5 me rg sp iv hf H locs ls hl hP hD hS
    unfold mo_address_j139 at hf
    refine lv_iload hx hb d_M_address_139 (lv_at hl 3 rfl) ?_
    refine lv_if_ne (tgt := 155) hx hb d_M_address_141 (by decide) (fun hc => ?_) (fun hc => ?_)
    · replace hf := (if_neg hc).symm.trans hf
      exact J155 v3 v4 v5 me rg sp iv hf _ _ _ hl hP hD hS
    · replace hf := (if_pos hc).symm.trans hf
      refine lv_iload hx hb d_M_address_144 (lv_at hl 2 rfl) ?_
      refine lv_bipush (v := (15 : Int32)) hx hb d_M_address_146 (by decide) ?_
      refine lv_icmp_ne (tgt := 155) hx hb d_M_address_148 (by decide) (fun hc => ?_) (fun hc => ?_)
      · replace hf := (if_neg hc).symm.trans hf
        exact J155 v3 v4 v5 me rg sp iv hf _ _ _ hl hP hD hS
      · replace hf := (if_pos hc).symm.trans hf
        exact J151 v3 v4 v5 me rg sp iv hf _ _ _ hl hP hD hS
  have J99 : ∀ (v3 : Int32) (v4 : Int32) (s0 : Bool) (me : Nat → Int32) (rg : Nat → Int32) (sp : Int32) (iv : Bool), mo_address_j99 v3 v4 s0 me rg sp iv = some z → ∀ (H : Heap) (locs : List Loc) (ls : Array Slot), lv_has ls 7 [(0, .ref h0), (3, .int v3), (4, .int v4)] → va_P D cz_all (mw_ h0 h1 h2 h3 h4 h5 h6 h7 cI me rg so sv tl su qu wa ru pe re pn lo se pa sp iv) H → va_D A (mw_ h0 h1 h2 h3 h4 h5 h6 h7 cI me rg so sv tl su qu wa ru pe re pn lo se pa sp iv) → va_S A s.heap H locs → W p l e rm_m_address s m ([.ref h0, .int x1] : List Value).toArray below meth c H locs 0 0 (MQ below (qs_i D (ty_ cI cT) (mw_ h0 h1 h2 h3 h4 h5 h6 h7 cI me z.2.1 so sv tl su qu wa ru pe re pn lo se pa z.2.2.1 z.2.2.2) z.1 A) ([.ref h0, .int x1] : List Value).toArray s 0 0 A) (F0 m 99 ls [.int (bz_i s0)]) := by
    intro v3 v4 s0 me rg sp iv hf H locs ls hl hP hD hS
    unfold mo_address_j99 at hf
    refine lv_istore hx hb d_M_address_99 hl (by decide) rfl (fun ls hl => ?_)
    have hl : lv_has ls 7 [(5, .int (bz_i s0)), (0, .ref h0), (3, .int v3), (4, .int v4)] := hl
    refine lv_aload_n hx hb d_M_address_101 rfl (lv_at hl 1 rfl) ?_
    refine lv_iload hx hb d_M_address_102 (lv_at hl 3 rfl) ?_
    refine lv_bipush (v := (7 : Int32)) hx hb d_M_address_104 (by decide) ?_
    refine lv_icmp_eq (tgt := 151) hx hb d_M_address_106 (by decide) (fun hc => ?_) (fun hc => ?_)
    · replace hf := (if_pos hc).symm.trans hf
      exact J151 v3 v4 s0 me rg sp iv hf _ _ _ (lv_sub hl [1, 2, 3, 0] rfl) hP hD hS
    · replace hf := (if_neg hc).symm.trans hf
      refine lv_iload hx hb d_M_address_109 (lv_at hl 3 rfl) ?_
      refine lv_bipush (v := (10 : Int32)) hx hb d_M_address_111 (by decide) ?_
      refine lv_icmp_eq (tgt := 151) hx hb d_M_address_113 (by decide) (fun hc => ?_) (fun hc => ?_)
      · replace hf := (if_pos hc).symm.trans hf
        exact J151 v3 v4 s0 me rg sp iv hf _ _ _ (lv_sub hl [1, 2, 3, 0] rfl) hP hD hS
      · replace hf := (if_neg hc).symm.trans hf
        refine lv_iload hx hb d_M_address_116 (lv_at hl 3 rfl) ?_
        refine lv_bipush (v := (14 : Int32)) hx hb d_M_address_118 (by decide) ?_
        refine lv_icmp_eq (tgt := 151) hx hb d_M_address_120 (by decide) (fun hc => ?_) (fun hc => ?_)
        · replace hf := (if_pos hc).symm.trans hf
          exact J151 v3 v4 s0 me rg sp iv hf _ _ _ (lv_sub hl [1, 2, 3, 0] rfl) hP hD hS
        · replace hf := (if_neg hc).symm.trans hf
          refine lv_iload hx hb d_M_address_123 (lv_at hl 0 rfl) ?_
          refine lv_if_eq (tgt := 139) hx hb d_M_address_125 (by decide) (fun hc => ?_) (fun hc => ?_)
          · replace hf := (if_pos hc).symm.trans hf
            exact J139 v3 v4 s0 me rg sp iv hf _ _ _ (lv_sub hl [1, 2, 3, 0] rfl) hP hD hS
          · replace hf := (if_neg hc).symm.trans hf
            refine lv_iload hx hb d_M_address_128 (lv_at hl 3 rfl) ?_
            refine lv_if_eq (tgt := 151) hx hb d_M_address_130 (by decide) (fun hc => ?_) (fun hc => ?_)
            · replace hf := (if_pos hc).symm.trans hf
              exact J151 v3 v4 s0 me rg sp iv hf _ _ _ (lv_sub hl [1, 2, 3, 0] rfl) hP hD hS
            · replace hf := (if_neg hc).symm.trans hf
              refine lv_iload hx hb d_M_address_133 (lv_at hl 3 rfl) ?_
              refine lv_iconst (v := (2 : Int32)) hx hb d_M_address_135 (by decide) ?_
              refine lv_icmp_eq (tgt := 151) hx hb d_M_address_136 (by decide) (fun hc => ?_) (fun hc => ?_)
              · replace hf := (if_pos hc).symm.trans hf
                exact J151 v3 v4 s0 me rg sp iv hf _ _ _ (lv_sub hl [1, 2, 3, 0] rfl) hP hD hS
              · replace hf := (if_neg hc).symm.trans hf
                exact J139 v3 v4 s0 me rg sp iv hf _ _ _ (lv_sub hl [1, 2, 3, 0] rfl) hP hD hS
  unfold mo_address at hf
  refine lv_iload_n hx hb d_M_address_0 rfl (lv_at hl 1 rfl) ?_
  refine lv_iconst (v := (1 : Int32)) hx hb d_M_address_1 (by decide) ?_
  refine lv_icmp_ne (tgt := 22) hx hb d_M_address_2 (by decide) (fun hc => ?_) (fun hc => ?_)
  · replace hf := (if_neg hc).symm.trans hf
    refine lv_iload_n hx hb d_M_address_22 rfl (lv_at hl 1 rfl) ?_
    refine lv_iconst (v := (3 : Int32)) hx hb d_M_address_23 (by decide) ?_
    refine lv_icmp_ne (tgt := 32) hx hb d_M_address_24 (by decide) (fun hc => ?_) (fun hc => ?_)
    · replace hf := (if_neg hc).symm.trans hf
      refine lv_aload_n hx hb d_M_address_32 rfl (lv_at hl 0 rfl) ?_
      obtain ⟨z13, hz13, hf⟩ := op_b hf
      refine cl_i X cw_M_54 hK hP hD hS hA hl (c_mo_fetch hz13) ⟨rfl, rfl, Nat.le_of_ble_eq_true rfl, Nat.le_of_ble_eq_true rfl⟩ 0 rfl rfl rfl rfl rfl (Nat.le_of_ble_eq_true rfl) d_M_address_33 (fun H locs hP hD hS => ?_)
      refine lv_istore_n hx hb d_M_address_36 rfl hl (by decide) rfl (fun ls hl => ?_)
      have hl : lv_has ls 7 [(2, .int z13.1), (0, .ref h0), (1, .int x1)] := hl
      refine lv_iconst (v := (1 : Int32)) hx hb d_M_address_37 (by decide) ?_
      refine lv_iload_n hx hb d_M_address_38 rfl (lv_at hl 0 rfl) ?_
      refine lv_iconst (v := (5 : Int32)) hx hb d_M_address_39 (by decide) ?_
      refine lv_ishr hx hb d_M_address_40 ?_
      refine lv_iconst (v := (3 : Int32)) hx hb d_M_address_41 (by decide) ?_
      refine lv_iand hx hb d_M_address_42 ?_
      refine lv_iadd hx hb d_M_address_43 ?_
      refine lv_istore_n hx hb d_M_address_44 rfl hl (by decide) rfl (fun ls hl => ?_)
      have hl : lv_has ls 7 [(3, .int ((1 : Int32) + ((z13.1 >>> ((5 : Int32) &&& 31)) &&& (3 : Int32)))), (2, .int z13.1), (0, .ref h0), (1, .int x1)] := hl
      refine lv_iload_n hx hb d_M_address_45 rfl (lv_at hl 1 rfl) ?_
      refine lv_sipush (v := (128 : Int32)) hx hb d_M_address_46 (by decide) ?_
      refine lv_icmp_ge (tgt := 81) hx hb d_M_address_49 (by decide) (fun hc => ?_) (fun hc => ?_)
      · replace hf := (if_pos hc).symm.trans hf
        refine lv_iload_n hx hb d_M_address_81 rfl (lv_at hl 1 rfl) ?_
        refine lv_bipush (v := (15 : Int32)) hx hb d_M_address_82 (by decide) ?_
        refine lv_iand hx hb d_M_address_84 ?_
        refine lv_istore hx hb d_M_address_85 hl (by decide) rfl (fun ls hl => ?_)
        have hl : lv_has ls 7 [(4, .int (z13.1 &&& (15 : Int32))), (3, .int ((1 : Int32) + ((z13.1 >>> ((5 : Int32) &&& 31)) &&& (3 : Int32)))), (2, .int z13.1), (0, .ref h0), (1, .int x1)] := hl
        refine lv_iload_n hx hb d_M_address_87 rfl (lv_at hl 2 rfl) ?_
        refine lv_bipush (v := (16 : Int32)) hx hb d_M_address_88 (by decide) ?_
        refine lv_iand hx hb d_M_address_90 ?_
        refine lv_if_eq (tgt := 98) hx hb d_M_address_91 (by decide) (fun hc => ?_) (fun hc => ?_)
        · replace hf := (if_pos hc).symm.trans hf
          refine lv_iconst (v := (0 : Int32)) hx hb d_M_address_98 (by decide) ?_
          exact J99 ((1 : Int32) + ((z13.1 >>> ((5 : Int32) &&& 31)) &&& (3 : Int32))) (z13.1 &&& (15 : Int32)) false me z13.2.1 z13.2.2 iv hf _ _ _ (lv_sub hl [3, 1, 0] rfl) hP hD hS
        · replace hf := (if_neg hc).symm.trans hf
          refine lv_iconst (v := (1 : Int32)) hx hb d_M_address_94 (by decide) ?_
          refine lv_goto (tgt := 99) hx hb d_M_address_95 (by decide) ?_
          exact J99 ((1 : Int32) + ((z13.1 >>> ((5 : Int32) &&& 31)) &&& (3 : Int32))) (z13.1 &&& (15 : Int32)) true me z13.2.1 z13.2.2 iv hf _ _ _ (lv_sub hl [3, 1, 0] rfl) hP hD hS
      · replace hf := (if_neg hc).symm.trans hf
        refine lv_aload_n hx hb d_M_address_52 rfl (lv_at hl 2 rfl) ?_
        refine mg_reg X hK hP d_M_address_53 ?_
        refine lv_iload_n hx hb d_M_address_56 rfl (lv_at hl 0 rfl) ?_
        obtain ⟨hi14, hf⟩ := op_c hf
        refine ma_rg (k := (((1 : Int32) + ((z13.1 >>> ((5 : Int32) &&& 31)) &&& (3 : Int32))).toNatClampNeg)) X hK hP hi14 rfl d_M_address_57 ?_
        refine lv_iload_n hx hb d_M_address_58 rfl (lv_at hl 1 rfl) ?_
        refine lv_bipush (v := (31 : Int32)) hx hb d_M_address_59 (by decide) ?_
        refine lv_iand hx hb d_M_address_61 ?_
        refine lv_iadd hx hb d_M_address_62 ?_
        refine lv_iload_n hx hb d_M_address_63 rfl (lv_at hl 1 rfl) ?_
        refine lv_bipush (v := (16 : Int32)) hx hb d_M_address_64 (by decide) ?_
        refine lv_iand hx hb d_M_address_66 ?_
        refine lv_if_eq (tgt := 75) hx hb d_M_address_67 (by decide) (fun hc => ?_) (fun hc => ?_)
        · replace hf := (if_pos hc).symm.trans hf
          refine lv_iconst (v := (0 : Int32)) hx hb d_M_address_75 (by decide) ?_
          refine lv_isub hx hb d_M_address_76 ?_
          refine lv_ldc (v := (65535 : Int32)) hx hb X.2.2.2.1 (X.2.2.2.2 _ wd_0) d_M_address_77 ?_
          refine lv_iand hx hb d_M_address_79 ?_
          have hq := Option.some.inj hf
          subst hq
          exact rt_i (r := ((((z13.2.1 (((1 : Int32) + ((z13.1 >>> ((5 : Int32) &&& 31)) &&& (3 : Int32))).toNatClampNeg)) + (z13.1 &&& (31 : Int32))) - (0 : Int32)) &&& (65535 : Int32))) X hr hlk hK rfl hP hD hS d_M_address_80
        · replace hf := (if_neg hc).symm.trans hf
          refine lv_bipush (v := (32 : Int32)) hx hb d_M_address_70 (by decide) ?_
          refine lv_goto (tgt := 76) hx hb d_M_address_72 (by decide) ?_
          refine lv_isub hx hb d_M_address_76 ?_
          refine lv_ldc (v := (65535 : Int32)) hx hb X.2.2.2.1 (X.2.2.2.2 _ wd_0) d_M_address_77 ?_
          refine lv_iand hx hb d_M_address_79 ?_
          have hq := Option.some.inj hf
          subst hq
          exact rt_i (r := ((((z13.2.1 (((1 : Int32) + ((z13.1 >>> ((5 : Int32) &&& 31)) &&& (3 : Int32))).toNatClampNeg)) + (z13.1 &&& (31 : Int32))) - (32 : Int32)) &&& (65535 : Int32))) X hr hlk hK rfl hP hD hS d_M_address_80
    · replace hf := (if_pos hc).symm.trans hf
      refine lv_aload_n hx hb d_M_address_27 rfl (lv_at hl 0 rfl) ?_
      obtain ⟨z15, hz15, hf⟩ := op_b hf
      refine cl_i X cw_M_73 hK hP hD hS hA hl (c_mo_fetchWord hz15) ⟨rfl, rfl, Nat.le_of_ble_eq_true rfl, Nat.le_of_ble_eq_true rfl⟩ 0 rfl rfl rfl rfl rfl (Nat.le_of_ble_eq_true rfl) d_M_address_28 (fun H locs hP hD hS => ?_)
      have hq := Option.some.inj hf
      subst hq
      exact rt_i (r := z15.1) X hr hlk hK rfl hP hD hS d_M_address_31
  · replace hf := (if_pos hc).symm.trans hf
    refine lv_sipush (v := (256 : Int32)) hx hb d_M_address_5 (by decide) ?_
    refine lv_aload_n hx hb d_M_address_8 rfl (lv_at hl 0 rfl) ?_
    refine mg_reg X hK hP d_M_address_9 ?_
    refine lv_bipush (v := (11 : Int32)) hx hb d_M_address_12 (by decide) ?_
    refine ma_rg (k := 11) X hK hP (in_b_vp (by decide)) (by decide) d_M_address_14 ?_
    refine lv_imul hx hb d_M_address_15 ?_
    refine lv_aload_n hx hb d_M_address_16 rfl (lv_at hl 0 rfl) ?_
    obtain ⟨z16, hz16, hf⟩ := op_b hf
    refine cl_i X cw_M_54 hK hP hD hS hA hl (c_mo_fetch hz16) ⟨rfl, rfl, Nat.le_of_ble_eq_true rfl, Nat.le_of_ble_eq_true rfl⟩ 0 rfl rfl rfl rfl rfl (Nat.le_of_ble_eq_true rfl) d_M_address_17 (fun H locs hP hD hS => ?_)
    refine lv_iadd hx hb d_M_address_20 ?_
    have hq := Option.some.inj hf
    subst hq
    exact rt_i (r := (((256 : Int32) * (rg 11)) + z16.1)) X hr hlk hK rfl hP hD hS d_M_address_21
set_option maxHeartbeats 4000000 in
set_option maxRecDepth 100000 in
theorem c_mo_operand {x1 : Int32} {x2 : Bool} {z : Int32 × (Nat → Int32) × Int32 × Bool} (hf : mo_operand x1 x2 me rg sp iv = some z) : co_i l my_M_operand mb_M_operand 4 .int rm_m_operand D (ty_ cI cT) [.ref h0, .int x1, .int (bz_i x2)] (mw_ h0 h1 h2 h3 h4 h5 h6 h7 cI me rg so sv tl su qu wa ru pe re pn lo se pa sp iv) (mw_ h0 h1 h2 h3 h4 h5 h6 h7 cI me z.2.1 so sv tl su qu wa ru pe re pn lo se pa z.2.2.1 z.2.2.2) z.1 := by
  refine co_i_of (by decide) (Nat.le_of_ble_eq_true rfl) ?_
  intro p e s m below meth c A ls X hr hlk hK hP hD hS hA hl
  have hx := X.1
  have hb := X.2.1
  have hl : lv_has ls 4 [(0, .ref h0), (1, .int x1), (2, .int (bz_i x2))] := hl
  unfold mo_operand at hf
  refine lv_iload_n hx hb d_M_operand_0 rfl (lv_at hl 1 rfl) ?_
  refine lv_if_ne (tgt := 20) hx hb d_M_operand_1 (by decide) (fun hc => ?_) (fun hc => ?_)
  · replace hf := (if_neg hc).symm.trans hf
    refine lv_aload_n hx hb d_M_operand_20 rfl (lv_at hl 0 rfl) ?_
    refine lv_iload_n hx hb d_M_operand_21 rfl (lv_at hl 1 rfl) ?_
    obtain ⟨z5, hz5, hf⟩ := op_b hf
    refine cl_i X cw_M_92 hK hP hD hS hA hl (c_mo_address hz5) ⟨rfl, rfl, Nat.le_of_ble_eq_true rfl, Nat.le_of_ble_eq_true rfl⟩ 0 rfl rfl rfl rfl rfl (Nat.le_of_ble_eq_true rfl) d_M_operand_22 (fun H locs hP hD hS => ?_)
    refine lv_istore_n hx hb d_M_operand_25 rfl hl (by decide) rfl (fun ls hl => ?_)
    have hl : lv_has ls 4 [(3, .int z5.1), (0, .ref h0), (1, .int x1), (2, .int (bz_i x2))] := hl
    refine lv_aload_n hx hb d_M_operand_26 rfl (lv_at hl 1 rfl) ?_
    refine mg_invalid X hK hP d_M_operand_27 ?_
    refine lv_if_eq (tgt := 37) hx hb d_M_operand_30 (by decide) (fun hc => ?_) (fun hc => ?_)
    · replace hf := (if_pos hc).symm.trans hf
      refine lv_aload_n hx hb d_M_operand_37 rfl (lv_at hl 1 rfl) ?_
      refine lv_iload_n hx hb d_M_operand_38 rfl (lv_at hl 0 rfl) ?_
      refine lv_iload_n hx hb d_M_operand_39 rfl (lv_at hl 3 rfl) ?_
      obtain ⟨z6, hz6, hf⟩ := op_b hf
      refine cl_i X cw_M_47 hK hP hD hS hA hl (c_mo_load hz6) ⟨rfl, rfl, Nat.le_of_ble_eq_true rfl, Nat.le_of_ble_eq_true rfl⟩ 0 rfl rfl rfl rfl rfl (Nat.le_of_ble_eq_true rfl) d_M_operand_40 (fun H locs hP hD hS => ?_)
      have hq := Option.some.inj hf
      subst hq
      exact rt_i (r := z6.1) X hr hlk hK rfl hP hD hS d_M_operand_43
    · replace hf := (if_neg hc).symm.trans hf
      refine lv_iconst (v := (0 : Int32)) hx hb d_M_operand_33 (by decide) ?_
      refine lv_goto (tgt := 43) hx hb d_M_operand_34 (by decide) ?_
      have hq := Option.some.inj hf
      subst hq
      exact rt_i (r := (0 : Int32)) X hr hlk hK rfl hP hD hS d_M_operand_43
  · replace hf := (if_pos hc).symm.trans hf
    refine lv_iload_n hx hb d_M_operand_4 rfl (lv_at hl 2 rfl) ?_
    refine lv_if_eq (tgt := 15) hx hb d_M_operand_5 (by decide) (fun hc => ?_) (fun hc => ?_)
    · replace hf := (if_pos hc).symm.trans hf
      refine lv_aload_n hx hb d_M_operand_15 rfl (lv_at hl 0 rfl) ?_
      obtain ⟨z7, hz7, hf⟩ := op_b hf
      refine cl_i X cw_M_54 hK hP hD hS hA hl (c_mo_fetch hz7) ⟨rfl, rfl, Nat.le_of_ble_eq_true rfl, Nat.le_of_ble_eq_true rfl⟩ 0 rfl rfl rfl rfl rfl (Nat.le_of_ble_eq_true rfl) d_M_operand_16 (fun H locs hP hD hS => ?_)
      have hq := Option.some.inj hf
      subst hq
      exact rt_i (r := z7.1) X hr hlk hK rfl hP hD hS d_M_operand_19
    · replace hf := (if_neg hc).symm.trans hf
      refine lv_aload_n hx hb d_M_operand_8 rfl (lv_at hl 0 rfl) ?_
      obtain ⟨z8, hz8, hf⟩ := op_b hf
      refine cl_i X cw_M_73 hK hP hD hS hA hl (c_mo_fetchWord hz8) ⟨rfl, rfl, Nat.le_of_ble_eq_true rfl, Nat.le_of_ble_eq_true rfl⟩ 0 rfl rfl rfl rfl rfl (Nat.le_of_ble_eq_true rfl) d_M_operand_9 (fun H locs hP hD hS => ?_)
      refine lv_goto (tgt := 19) hx hb d_M_operand_12 (by decide) ?_
      have hq := Option.some.inj hf
      subst hq
      exact rt_i (r := z8.1) X hr hlk hK rfl hP hD hS d_M_operand_19
set_option maxHeartbeats 4000000 in
set_option maxRecDepth 100000 in
theorem c_mo_save {x1 : Int32} {x2 : Int32} {z : (Nat → Int32) × (Nat → Int32) × Int32 × Bool} (hf : mo_save x1 x2 me rg sp iv = some z) : co_v l my_M_save mb_M_save 5 rm_m_save D (ty_ cI cT) [.ref h0, .int x1, .int x2] (mw_ h0 h1 h2 h3 h4 h5 h6 h7 cI me rg so sv tl su qu wa ru pe re pn lo se pa sp iv) (mw_ h0 h1 h2 h3 h4 h5 h6 h7 cI z.1 z.2.1 so sv tl su qu wa ru pe re pn lo se pa z.2.2.1 z.2.2.2) := by
  refine co_v_of (by decide) (Nat.le_of_ble_eq_true rfl) ?_
  intro p e s m below meth c A ls X hr hlk hK hP hD hS hA hl
  have hx := X.1
  have hb := X.2.1
  have hl : lv_has ls 5 [(0, .ref h0), (1, .int x1), (2, .int x2)] := hl
  have J86 : ∀ (s0 : Int32) (s1 : Int32) (me : Nat → Int32) (rg : Nat → Int32) (sp : Int32) (iv : Bool), mo_save_j86 s0 s1 me rg sp iv = some z → ∀ (H : Heap) (locs : List Loc) (ls : Array Slot), lv_has ls 5 [] → va_P D cz_all (mw_ h0 h1 h2 h3 h4 h5 h6 h7 cI me rg so sv tl su qu wa ru pe re pn lo se pa sp iv) H → va_D A (mw_ h0 h1 h2 h3 h4 h5 h6 h7 cI me rg so sv tl su qu wa ru pe re pn lo se pa sp iv) → va_S A s.heap H locs → W p l e rm_m_save s m ([.ref h0, .int x1, .int x2] : List Value).toArray below meth c H locs 0 0 (MQ below (qs_v D (ty_ cI cT) (mw_ h0 h1 h2 h3 h4 h5 h6 h7 cI z.1 z.2.1 so sv tl su qu wa ru pe re pn lo se pa z.2.2.1 z.2.2.2) A) ([.ref h0, .int x1, .int x2] : List Value).toArray s 0 0 A) (F0 m 86 ls [.int s0, .int s1, .ref h0]) := by
    intro s0 s1 me rg sp iv hf H locs ls hl hP hD hS
    unfold mo_save_j86 at hf
    obtain ⟨z8, hz8, hf⟩ := op_b hf
    refine cl_i X cw_M_95 hK hP hD hS hA hl (c_mo_plain hz8) ⟨rfl, rfl, Nat.le_of_ble_eq_true rfl, Nat.le_of_ble_eq_true rfl⟩ 0 rfl rfl rfl rfl rfl (Nat.le_of_ble_eq_true rfl) d_M_save_86 (fun H locs hP hD hS => ?_)
    refine lv_pop hx hb d_M_save_89 rfl ?_
    have hq := Option.some.inj hf
    subst hq
    exact rt_v X hr hlk hK hP hD hS d_M_save_90
  have J67 : ∀ (v2 : Int32) (v4 : Int32) (s0 : Bool) (s1 : Int32) (s2 : Int32) (me : Nat → Int32) (rg : Nat → Int32) (sp : Int32) (iv : Bool), mo_save_j67 v2 v4 s0 s1 s2 me rg sp iv = some z → ∀ (H : Heap) (locs : List Loc) (ls : Array Slot), lv_has ls 5 [(0, .ref h0), (2, .int v2), (4, .int v4)] → va_P D cz_all (mw_ h0 h1 h2 h3 h4 h5 h6 h7 cI me rg so sv tl su qu wa ru pe re pn lo se pa sp iv) H → va_D A (mw_ h0 h1 h2 h3 h4 h5 h6 h7 cI me rg so sv tl su qu wa ru pe re pn lo se pa sp iv) → va_S A s.heap H locs → W p l e rm_m_save s m ([.ref h0, .int x1, .int x2] : List Value).toArray below meth c H locs 0 0 (MQ below (qs_v D (ty_ cI cT) (mw_ h0 h1 h2 h3 h4 h5 h6 h7 cI z.1 z.2.1 so sv tl su qu wa ru pe re pn lo se pa z.2.2.1 z.2.2.2) A) ([.ref h0, .int x1, .int x2] : List Value).toArray s 0 0 A) (F0 m 67 ls [.int (bz_i s0), .int s1, .int s2, .ref h0]) := by
    intro v2 v4 s0 s1 s2 me rg sp iv hf H locs ls hl hP hD hS
    unfold mo_save_j67 at hf
    obtain ⟨z9, hz9, hf⟩ := op_b hf
    refine cl_v X cw_M_58 hK hP hD hS hA hl (c_mo_store hz9) ⟨rfl, rfl, Nat.le_of_ble_eq_true rfl, Nat.le_of_ble_eq_true rfl⟩ 0 rfl rfl rfl rfl rfl (Nat.le_of_ble_eq_true rfl) d_M_save_67 (fun H locs hP hD hS => ?_)
    refine lv_aload_n hx hb d_M_save_70 rfl (lv_at hl 0 rfl) ?_
    refine lv_iload hx hb d_M_save_71 (lv_at hl 2 rfl) ?_
    refine lv_iload_n hx hb d_M_save_73 rfl (lv_at hl 1 rfl) ?_
    refine lv_bipush (v := (8 : Int32)) hx hb d_M_save_74 (by decide) ?_
    refine lv_icmp_ge (tgt := 84) hx hb d_M_save_76 (by decide) (fun hc => ?_) (fun hc => ?_)
    · replace hf := (if_pos hc).symm.trans hf
      refine lv_bipush (v := (8 : Int32)) hx hb d_M_save_84 (by decide) ?_
      exact J86 (8 : Int32) v4 z9.1 rg z9.2 iv hf _ _ _ (lv_sub hl [] rfl) hP hD hS
    · replace hf := (if_neg hc).symm.trans hf
      refine lv_bipush (v := (16 : Int32)) hx hb d_M_save_79 (by decide) ?_
      refine lv_goto (tgt := 86) hx hb d_M_save_81 (by decide) ?_
      exact J86 (16 : Int32) v4 z9.1 rg z9.2 iv hf _ _ _ (lv_sub hl [] rfl) hP hD hS
  have J36 : ∀ (v2 : Int32) (s0 : Int32) (me : Nat → Int32) (rg : Nat → Int32) (sp : Int32) (iv : Bool), mo_save_j36 v2 s0 me rg sp iv = some z → ∀ (H : Heap) (locs : List Loc) (ls : Array Slot), lv_has ls 5 [(0, .ref h0), (2, .int v2)] → va_P D cz_all (mw_ h0 h1 h2 h3 h4 h5 h6 h7 cI me rg so sv tl su qu wa ru pe re pn lo se pa sp iv) H → va_D A (mw_ h0 h1 h2 h3 h4 h5 h6 h7 cI me rg so sv tl su qu wa ru pe re pn lo se pa sp iv) → va_S A s.heap H locs → W p l e rm_m_save s m ([.ref h0, .int x1, .int x2] : List Value).toArray below meth c H locs 0 0 (MQ below (qs_v D (ty_ cI cT) (mw_ h0 h1 h2 h3 h4 h5 h6 h7 cI z.1 z.2.1 so sv tl su qu wa ru pe re pn lo se pa z.2.2.1 z.2.2.2) A) ([.ref h0, .int x1, .int x2] : List Value).toArray s 0 0 A) (F0 m 36 ls [.int s0]) := by
    intro v2 s0 me rg sp iv hf H locs ls hl hP hD hS
    unfold mo_save_j36 at hf
    refine lv_istore_n hx hb d_M_save_36 rfl hl (by decide) rfl (fun ls hl => ?_)
    have hl : lv_has ls 5 [(3, .int s0), (0, .ref h0), (2, .int v2)] := hl
    refine lv_aload_n hx hb d_M_save_37 rfl (lv_at hl 1 rfl) ?_
    refine mg_invalid X hK hP d_M_save_38 ?_
    refine lv_if_eq (tgt := 45) hx hb d_M_save_41 (by decide) (fun hc => ?_) (fun hc => ?_)
    · replace hf := (if_pos hc).symm.trans hf
      refine lv_aload_n hx hb d_M_save_45 rfl (lv_at hl 1 rfl) ?_
      refine lv_iload_n hx hb d_M_save_46 rfl (lv_at hl 2 rfl) ?_
      obtain ⟨z10, hz10, hf⟩ := op_b hf
      refine cl_i X cw_M_89 hK hP hD hS hA hl (c_mo_get hz10) ⟨rfl, rfl, Nat.le_of_ble_eq_true rfl, Nat.le_of_ble_eq_true rfl⟩ 0 rfl rfl rfl rfl rfl (Nat.le_of_ble_eq_true rfl) d_M_save_47 (fun H locs hP hD hS => ?_)
      refine lv_istore hx hb d_M_save_50 hl (by decide) rfl (fun ls hl => ?_)
      have hl : lv_has ls 5 [(4, .int z10), (3, .int s0), (0, .ref h0), (2, .int v2)] := hl
      refine lv_aload_n hx hb d_M_save_52 rfl (lv_at hl 2 rfl) ?_
      refine lv_iload_n hx hb d_M_save_53 rfl (lv_at hl 1 rfl) ?_
      refine lv_iload hx hb d_M_save_54 (lv_at hl 0 rfl) ?_
      refine lv_iload_n hx hb d_M_save_56 rfl (lv_at hl 3 rfl) ?_
      refine lv_bipush (v := (8 : Int32)) hx hb d_M_save_57 (by decide) ?_
      refine lv_icmp_ge (tgt := 66) hx hb d_M_save_59 (by decide) (fun hc => ?_) (fun hc => ?_)
      · replace hf := (if_pos hc).symm.trans hf
        refine lv_iconst (v := (0 : Int32)) hx hb d_M_save_66 (by decide) ?_
        exact J67 v2 z10 false z10 s0 me rg sp iv hf _ _ _ (lv_sub hl [2, 3, 0] rfl) hP hD hS
      · replace hf := (if_neg hc).symm.trans hf
        refine lv_iconst (v := (1 : Int32)) hx hb d_M_save_62 (by decide) ?_
        refine lv_goto (tgt := 67) hx hb d_M_save_63 (by decide) ?_
        exact J67 v2 z10 true z10 s0 me rg sp iv hf _ _ _ (lv_sub hl [2, 3, 0] rfl) hP hD hS
    · replace hf := (if_neg hc).symm.trans hf
      have hq := Option.some.inj hf
      subst hq
      exact rt_v X hr hlk hK hP hD hS d_M_save_44
  have J17 : ∀ (v1 : Int32) (v2 : Int32) (s0 : Bool) (me : Nat → Int32) (rg : Nat → Int32) (sp : Int32) (iv : Bool), mo_save_j17 v1 v2 s0 me rg sp iv = some z → ∀ (H : Heap) (locs : List Loc) (ls : Array Slot), lv_has ls 5 [(0, .ref h0), (1, .int v1), (2, .int v2)] → va_P D cz_all (mw_ h0 h1 h2 h3 h4 h5 h6 h7 cI me rg so sv tl su qu wa ru pe re pn lo se pa sp iv) H → va_D A (mw_ h0 h1 h2 h3 h4 h5 h6 h7 cI me rg so sv tl su qu wa ru pe re pn lo se pa sp iv) → va_S A s.heap H locs → W p l e rm_m_save s m ([.ref h0, .int x1, .int x2] : List Value).toArray below meth c H locs 0 0 (MQ below (qs_v D (ty_ cI cT) (mw_ h0 h1 h2 h3 h4 h5 h6 h7 cI z.1 z.2.1 so sv tl su qu wa ru pe re pn lo se pa z.2.2.1 z.2.2.2) A) ([.ref h0, .int x1, .int x2] : List Value).toArray s 0 0 A) (F0 m 17 ls [.int (bz_i s0), .ref h0]) := by
    intro v1 v2 s0 me rg sp iv hf H locs ls hl hP hD hS
    unfold mo_save_j17 at hf
    refine mp_invalid (x := s0) X hK hP hD hS d_M_save_17 (fun H locs hP hD hS => ?_)
    refine lv_aload_n hx hb d_M_save_20 rfl (lv_at hl 0 rfl) ?_
    refine mg_invalid X hK hP d_M_save_21 ?_
    refine lv_if_eq (tgt := 31) hx hb d_M_save_24 (by decide) (fun hc => ?_) (fun hc => ?_)
    · replace hf := (if_pos hc).symm.trans hf
      refine lv_aload_n hx hb d_M_save_31 rfl (lv_at hl 0 rfl) ?_
      refine lv_iload_n hx hb d_M_save_32 rfl (lv_at hl 1 rfl) ?_
      obtain ⟨z11, hz11, hf⟩ := op_b hf
      refine cl_i X cw_M_92 hK hP hD hS hA hl (c_mo_address hz11) ⟨rfl, rfl, Nat.le_of_ble_eq_true rfl, Nat.le_of_ble_eq_true rfl⟩ 0 rfl rfl rfl rfl rfl (Nat.le_of_ble_eq_true rfl) d_M_save_33 (fun H locs hP hD hS => ?_)
      exact J36 v2 z11.1 me z11.2.1 z11.2.2.1 z11.2.2.2 hf _ _ _ (lv_sub hl [0, 2] rfl) hP hD hS
    · replace hf := (if_neg hc).symm.trans hf
      refine lv_iconst (v := (0 : Int32)) hx hb d_M_save_27 (by decide) ?_
      refine lv_goto (tgt := 36) hx hb d_M_save_28 (by decide) ?_
      exact J36 v2 (0 : Int32) me rg sp s0 hf _ _ _ (lv_sub hl [0, 2] rfl) hP hD hS
  have J12 : ∀ (v1 : Int32) (v2 : Int32) (me : Nat → Int32) (rg : Nat → Int32) (sp : Int32) (iv : Bool), mo_save_j12 v1 v2 me rg sp iv = some z → ∀ (H : Heap) (locs : List Loc) (ls : Array Slot), lv_has ls 5 [(0, .ref h0), (1, .int v1), (2, .int v2)] → va_P D cz_all (mw_ h0 h1 h2 h3 h4 h5 h6 h7 cI me rg so sv tl su qu wa ru pe re pn lo se pa sp iv) H → va_D A (mw_ h0 h1 h2 h3 h4 h5 h6 h7 cI me rg so sv tl su qu wa ru pe re pn lo se pa sp iv) → va_S A s.heap H locs → W p l e rm_m_save s m ([.ref h0, .int x1, .int x2] : List Value).toArray below meth c H locs 0 0 (MQ below (qs_v D (ty_ cI cT) (mw_ h0 h1 h2 h3 h4 h5 h6 h7 cI z.1 z.2.1 so sv tl su qu wa ru pe re pn lo se pa z.2.2.1 z.2.2.2) A) ([.ref h0, .int x1, .int x2] : List Value).toArray s 0 0 A) (F0 m 12 ls [.ref h0]) := by
    intro v1 v2 me rg sp iv hf H locs ls hl hP hD hS
    unfold mo_save_j12 at hf
    refine lv_iconst (v := (1 : Int32)) hx hb d_M_save_12 (by decide) ?_
    refine lv_goto (tgt := 17) hx hb d_M_save_13 (by decide) ?_
    exact J17 v1 v2 true me rg sp iv hf _ _ _ hl hP hD hS
  unfold mo_save at hf
  refine lv_aload_n hx hb d_M_save_0 rfl (lv_at hl 0 rfl) ?_
  refine lv_aload_n hx hb d_M_save_1 rfl (lv_at hl 0 rfl) ?_
  refine mg_invalid X hK hP d_M_save_2 ?_
  refine lv_if_ne (tgt := 12) hx hb d_M_save_5 (by decide) (fun hc => ?_) (fun hc => ?_)
  · replace hf := (if_neg hc).symm.trans hf
    exact J12 x1 x2 me rg sp iv hf _ _ _ hl hP hD hS
  · replace hf := (if_pos hc).symm.trans hf
    refine lv_iload_n hx hb d_M_save_8 rfl (lv_at hl 1 rfl) ?_
    refine lv_if_ne (tgt := 16) hx hb d_M_save_9 (by decide) (fun hc => ?_) (fun hc => ?_)
    · replace hf := (if_neg hc).symm.trans hf
      refine lv_iconst (v := (0 : Int32)) hx hb d_M_save_16 (by decide) ?_
      exact J17 x1 x2 false me rg sp iv hf _ _ _ hl hP hD hS
    · replace hf := (if_pos hc).symm.trans hf
      exact J12 x1 x2 me rg sp iv hf _ _ _ hl hP hD hS
end MODEL

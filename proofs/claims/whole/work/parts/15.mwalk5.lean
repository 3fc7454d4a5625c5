theorem d_M_begin_0 : decode mb_M_begin 0 = .ok (.sipush 128, 3) := by decide +kernel
theorem d_M_begin_3 : decode mb_M_begin 3 = .ok (.iload_n 1, 1) := by decide +kernel
theorem d_M_begin_4 : decode mb_M_begin 4 = .ok (.imul, 1) := by decide +kernel
theorem d_M_begin_5 : decode mb_M_begin 5 = .ok (.bipush 116, 2) := by decide +kernel
theorem d_M_begin_7 : decode mb_M_begin 7 = .ok (.iadd, 1) := by decide +kernel
theorem d_M_begin_8 : decode mb_M_begin 8 = .ok (.istore 4, 2) := by decide +kernel
theorem d_M_begin_10 : decode mb_M_begin 10 = .ok (.iconst 0, 1) := by decide +kernel
theorem d_M_begin_11 : decode mb_M_begin 11 = .ok (.istore 5, 2) := by decide +kernel
theorem d_M_begin_13 : decode mb_M_begin 13 = .ok (.iload 5, 2) := by decide +kernel
theorem d_M_begin_15 : decode mb_M_begin 15 = .ok (.bipush 12, 2) := by decide +kernel
theorem d_M_begin_17 : decode mb_M_begin 17 = .ok (.if_icmp .ge 19, 3) := by decide +kernel
theorem d_M_begin_20 : decode mb_M_begin 20 = .ok (.aload_n 0, 1) := by decide +kernel
theorem d_M_begin_21 : decode mb_M_begin 21 = .ok (.iload 4, 2) := by decide +kernel
theorem d_M_begin_23 : decode mb_M_begin 23 = .ok (.iload 5, 2) := by decide +kernel
theorem d_M_begin_25 : decode mb_M_begin 25 = .ok (.iadd, 1) := by decide +kernel
theorem d_M_begin_26 : decode mb_M_begin 26 = .ok (.iconst 0, 1) := by decide +kernel
theorem d_M_begin_27 : decode mb_M_begin 27 = .ok (.invokevirtual 43, 3) := by decide +kernel
theorem d_M_begin_30 : decode mb_M_begin 30 = .ok (.iinc 5 1, 3) := by decide +kernel
theorem d_M_begin_33 : decode mb_M_begin 33 = .ok (.goto (-20), 3) := by decide +kernel
theorem d_M_begin_36 : decode mb_M_begin 36 = .ok (.aload_n 0, 1) := by decide +kernel
theorem d_M_begin_37 : decode mb_M_begin 37 = .ok (.iload 4, 2) := by decide +kernel
theorem d_M_begin_39 : decode mb_M_begin 39 = .ok (.sipush 128, 3) := by decide +kernel
theorem d_M_begin_42 : decode mb_M_begin 42 = .ok (.invokevirtual 43, 3) := by decide +kernel
theorem d_M_begin_45 : decode mb_M_begin 45 = .ok (.aload_n 0, 1) := by decide +kernel
theorem d_M_begin_46 : decode mb_M_begin 46 = .ok (.iload 4, 2) := by decide +kernel
theorem d_M_begin_48 : decode mb_M_begin 48 = .ok (.iconst 1, 1) := by decide +kernel
theorem d_M_begin_49 : decode mb_M_begin 49 = .ok (.iadd, 1) := by decide +kernel
theorem d_M_begin_50 : decode mb_M_begin 50 = .ok (.iload_n 3, 1) := by decide +kernel
theorem d_M_begin_51 : decode mb_M_begin 51 = .ok (.invokevirtual 43, 3) := by decide +kernel
theorem d_M_begin_54 : decode mb_M_begin 54 = .ok (.aload_n 0, 1) := by decide +kernel
theorem d_M_begin_55 : decode mb_M_begin 55 = .ok (.iload 4, 2) := by decide +kernel
theorem d_M_begin_57 : decode mb_M_begin 57 = .ok (.bipush 10, 2) := by decide +kernel
theorem d_M_begin_59 : decode mb_M_begin 59 = .ok (.iadd, 1) := by decide +kernel
theorem d_M_begin_60 : decode mb_M_begin 60 = .ok (.iload_n 2, 1) := by decide +kernel
theorem d_M_begin_61 : decode mb_M_begin 61 = .ok (.bipush 8, 2) := by decide +kernel
theorem d_M_begin_63 : decode mb_M_begin 63 = .ok (.ishr, 1) := by decide +kernel
theorem d_M_begin_64 : decode mb_M_begin 64 = .ok (.invokevirtual 43, 3) := by decide +kernel
theorem d_M_begin_67 : decode mb_M_begin 67 = .ok (.aload_n 0, 1) := by decide +kernel
theorem d_M_begin_68 : decode mb_M_begin 68 = .ok (.iload 4, 2) := by decide +kernel
theorem d_M_begin_70 : decode mb_M_begin 70 = .ok (.bipush 11, 2) := by decide +kernel
theorem d_M_begin_72 : decode mb_M_begin 72 = .ok (.iadd, 1) := by decide +kernel
theorem d_M_begin_73 : decode mb_M_begin 73 = .ok (.iload_n 2, 1) := by decide +kernel
theorem d_M_begin_74 : decode mb_M_begin 74 = .ok (.invokevirtual 43, 3) := by decide +kernel
theorem d_M_begin_77 : decode mb_M_begin 77 = .ok (.aload_n 0, 1) := by decide +kernel
theorem d_M_begin_78 : decode mb_M_begin 78 = .ok (.getfield 19, 3) := by decide +kernel
theorem d_M_begin_81 : decode mb_M_begin 81 = .ok (.iload_n 1, 1) := by decide +kernel
theorem d_M_begin_82 : decode mb_M_begin 82 = .ok (.iload 4, 2) := by decide +kernel
theorem d_M_begin_84 : decode mb_M_begin 84 = .ok (.iastore, 1) := by decide +kernel
theorem d_M_begin_85 : decode mb_M_begin 85 = .ok (.aload_n 0, 1) := by decide +kernel
theorem d_M_begin_86 : decode mb_M_begin 86 = .ok (.iload_n 1, 1) := by decide +kernel
theorem d_M_begin_87 : decode mb_M_begin 87 = .ok (.invokevirtual 182, 3) := by decide +kernel
theorem d_M_begin_90 : decode mb_M_begin 90 = .ok (.return_, 1) := by decide +kernel
theorem d_M_kernel_0 : decode mb_M_kernel 0 = .ok (.aload_n 0, 1) := by decide +kernel
theorem d_M_kernel_1 : decode mb_M_kernel 1 = .ok (.invokevirtual 54, 3) := by decide +kernel
theorem d_M_kernel_4 : decode mb_M_kernel 4 = .ok (.istore_n 1, 1) := by decide +kernel
theorem d_M_kernel_5 : decode mb_M_kernel 5 = .ok (.aload_n 0, 1) := by decide +kernel
theorem d_M_kernel_6 : decode mb_M_kernel 6 = .ok (.getfield 31, 3) := by decide +kernel
theorem d_M_kernel_9 : decode mb_M_kernel 9 = .ok (.istore_n 2, 1) := by decide +kernel
theorem d_M_kernel_10 : decode mb_M_kernel 10 = .ok (.aload_n 0, 1) := by decide +kernel
theorem d_M_kernel_11 : decode mb_M_kernel 11 = .ok (.getfield 13, 3) := by decide +kernel
theorem d_M_kernel_14 : decode mb_M_kernel 14 = .ok (.iconst 1, 1) := by decide +kernel
theorem d_M_kernel_15 : decode mb_M_kernel 15 = .ok (.iaload, 1) := by decide +kernel
theorem d_M_kernel_16 : decode mb_M_kernel 16 = .ok (.istore_n 3, 1) := by decide +kernel
theorem d_M_kernel_17 : decode mb_M_kernel 17 = .ok (.aload_n 0, 1) := by decide +kernel
theorem d_M_kernel_18 : decode mb_M_kernel 18 = .ok (.getfield 13, 3) := by decide +kernel
theorem d_M_kernel_21 : decode mb_M_kernel 21 = .ok (.bipush 8, 2) := by decide +kernel
theorem d_M_kernel_23 : decode mb_M_kernel 23 = .ok (.iaload, 1) := by decide +kernel
theorem d_M_kernel_24 : decode mb_M_kernel 24 = .ok (.istore 4, 2) := by decide +kernel
theorem d_M_kernel_26 : decode mb_M_kernel 26 = .ok (.aload_n 0, 1) := by decide +kernel
theorem d_M_kernel_27 : decode mb_M_kernel 27 = .ok (.invokevirtual 185, 3) := by decide +kernel
theorem d_M_kernel_30 : decode mb_M_kernel 30 = .ok (.iload_n 1, 1) := by decide +kernel
theorem d_M_kernel_31 : decode mb_M_kernel 31 = .ok (.iconst 3, 1) := by decide +kernel
theorem d_M_kernel_32 : decode mb_M_kernel 32 = .ok (.if_icmp .ne 11, 3) := by decide +kernel
theorem d_M_kernel_35 : decode mb_M_kernel 35 = .ok (.aload_n 0, 1) := by decide +kernel
theorem d_M_kernel_36 : decode mb_M_kernel 36 = .ok (.iload_n 2, 1) := by decide +kernel
theorem d_M_kernel_37 : decode mb_M_kernel 37 = .ok (.iload 4, 2) := by decide +kernel
theorem d_M_kernel_39 : decode mb_M_kernel 39 = .ok (.invokevirtual 164, 3) := by decide +kernel
theorem d_M_kernel_42 : decode mb_M_kernel 42 = .ok (.return_, 1) := by decide +kernel
theorem d_M_kernel_43 : decode mb_M_kernel 43 = .ok (.iload_n 1, 1) := by decide +kernel
theorem d_M_kernel_44 : decode mb_M_kernel 44 = .ok (.iconst 2, 1) := by decide +kernel
theorem d_M_kernel_45 : decode mb_M_kernel 45 = .ok (.if_icmp .ne 34, 3) := by decide +kernel
theorem d_M_kernel_48 : decode mb_M_kernel 48 = .ok (.aload_n 0, 1) := by decide +kernel
theorem d_M_kernel_49 : decode mb_M_kernel 49 = .ok (.getfield 22, 3) := by decide +kernel
theorem d_M_kernel_52 : decode mb_M_kernel 52 = .ok (.iload_n 2, 1) := by decide +kernel
theorem d_M_kernel_53 : decode mb_M_kernel 53 = .ok (.iload_n 3, 1) := by decide +kernel
theorem d_M_kernel_54 : decode mb_M_kernel 54 = .ok (.iastore, 1) := by decide +kernel
theorem d_M_kernel_55 : decode mb_M_kernel 55 = .ok (.iload_n 3, 1) := by decide +kernel
theorem d_M_kernel_56 : decode mb_M_kernel 56 = .ok (.ifCond .ne 11, 3) := by decide +kernel
theorem d_M_kernel_59 : decode mb_M_kernel 59 = .ok (.aload_n 0, 1) := by decide +kernel
theorem d_M_kernel_60 : decode mb_M_kernel 60 = .ok (.iload_n 2, 1) := by decide +kernel
theorem d_M_kernel_61 : decode mb_M_kernel 61 = .ok (.invokevirtual 182, 3) := by decide +kernel
theorem d_M_kernel_64 : decode mb_M_kernel 64 = .ok (.goto 10, 3) := by decide +kernel
theorem d_M_kernel_67 : decode mb_M_kernel 67 = .ok (.aload_n 0, 1) := by decide +kernel
theorem d_M_kernel_68 : decode mb_M_kernel 68 = .ok (.getfield 16, 3) := by decide +kernel
theorem d_M_kernel_71 : decode mb_M_kernel 71 = .ok (.iload_n 2, 1) := by decide +kernel
theorem d_M_kernel_72 : decode mb_M_kernel 72 = .ok (.iconst 3, 1) := by decide +kernel
theorem d_M_kernel_73 : decode mb_M_kernel 73 = .ok (.iastore, 1) := by decide +kernel
theorem d_M_kernel_74 : decode mb_M_kernel 74 = .ok (.aload_n 0, 1) := by decide +kernel
theorem d_M_kernel_75 : decode mb_M_kernel 75 = .ok (.invokevirtual 179, 3) := by decide +kernel
theorem d_M_kernel_78 : decode mb_M_kernel 78 = .ok (.return_, 1) := by decide +kernel
theorem d_M_kernel_79 : decode mb_M_kernel 79 = .ok (.iconst 0, 1) := by decide +kernel
theorem d_M_kernel_80 : decode mb_M_kernel 80 = .ok (.istore 5, 2) := by decide +kernel
theorem d_M_kernel_82 : decode mb_M_kernel 82 = .ok (.iload 5, 2) := by decide +kernel
theorem d_M_kernel_84 : decode mb_M_kernel 84 = .ok (.iconst 4, 1) := by decide +kernel
theorem d_M_kernel_85 : decode mb_M_kernel 85 = .ok (.if_icmp .ge 19, 3) := by decide +kernel
theorem d_M_kernel_88 : decode mb_M_kernel 88 = .ok (.aload_n 0, 1) := by decide +kernel
theorem d_M_kernel_89 : decode mb_M_kernel 89 = .ok (.getfield 16, 3) := by decide +kernel
theorem d_M_kernel_92 : decode mb_M_kernel 92 = .ok (.iload 5, 2) := by decide +kernel
theorem d_M_kernel_94 : decode mb_M_kernel 94 = .ok (.iaload, 1) := by decide +kernel
theorem d_M_kernel_95 : decode mb_M_kernel 95 = .ok (.ifCond .eq 9, 3) := by decide +kernel
theorem d_M_kernel_98 : decode mb_M_kernel 98 = .ok (.iinc 5 1, 3) := by decide +kernel
theorem d_M_kernel_101 : decode mb_M_kernel 101 = .ok (.goto (-19), 3) := by decide +kernel
theorem d_M_kernel_104 : decode mb_M_kernel 104 = .ok (.iload_n 1, 1) := by decide +kernel
theorem d_M_kernel_105 : decode mb_M_kernel 105 = .ok (.iconst 4, 1) := by decide +kernel
theorem d_M_kernel_106 : decode mb_M_kernel 106 = .ok (.if_icmp .ne 15, 3) := by decide +kernel
theorem d_M_kernel_109 : decode mb_M_kernel 109 = .ok (.aload_n 0, 1) := by decide +kernel
theorem d_M_kernel_110 : decode mb_M_kernel 110 = .ok (.iload_n 2, 1) := by decide +kernel
theorem d_M_kernel_111 : decode mb_M_kernel 111 = .ok (.bipush 8, 2) := by decide +kernel
theorem d_M_kernel_113 : decode mb_M_kernel 113 = .ok (.iload_n 2, 1) := by decide +kernel
theorem d_M_kernel_114 : decode mb_M_kernel 114 = .ok (.iconst 0, 1) := by decide +kernel
theorem d_M_kernel_115 : decode mb_M_kernel 115 = .ok (.invokevirtual 188, 3) := by decide +kernel
theorem d_M_kernel_118 : decode mb_M_kernel 118 = .ok (.goto 110, 3) := by decide +kernel
theorem d_M_kernel_121 : decode mb_M_kernel 121 = .ok (.iload_n 1, 1) := by decide +kernel
theorem d_M_kernel_122 : decode mb_M_kernel 122 = .ok (.iconst 1, 1) := by decide +kernel
theorem d_M_kernel_123 : decode mb_M_kernel 123 = .ok (.if_icmp .ne 87, 3) := by decide +kernel
theorem d_M_kernel_126 : decode mb_M_kernel 126 = .ok (.iload 5, 2) := by decide +kernel
theorem d_M_kernel_128 : decode mb_M_kernel 128 = .ok (.iconst 4, 1) := by decide +kernel
theorem d_M_kernel_129 : decode mb_M_kernel 129 = .ok (.if_icmp .ge 81, 3) := by decide +kernel
theorem d_M_kernel_132 : decode mb_M_kernel 132 = .ok (.iload_n 3, 1) := by decide +kernel
theorem d_M_kernel_133 : decode mb_M_kernel 133 = .ok (.sipush 128, 3) := by decide +kernel
theorem d_M_kernel_136 : decode mb_M_kernel 136 = .ok (.if_icmp .ge 74, 3) := by decide +kernel
theorem d_M_kernel_139 : decode mb_M_kernel 139 = .ok (.iconst 0, 1) := by decide +kernel
theorem d_M_kernel_140 : decode mb_M_kernel 140 = .ok (.istore 6, 2) := by decide +kernel
theorem d_M_kernel_142 : decode mb_M_kernel 142 = .ok (.iload 6, 2) := by decide +kernel
theorem d_M_kernel_144 : decode mb_M_kernel 144 = .ok (.sipush 128, 3) := by decide +kernel
theorem d_M_kernel_147 : decode mb_M_kernel 147 = .ok (.if_icmp .ge 34, 3) := by decide +kernel
theorem d_M_kernel_150 : decode mb_M_kernel 150 = .ok (.aload_n 0, 1) := by decide +kernel
theorem d_M_kernel_151 : decode mb_M_kernel 151 = .ok (.sipush 128, 3) := by decide +kernel
theorem d_M_kernel_154 : decode mb_M_kernel 154 = .ok (.iload 5, 2) := by decide +kernel
theorem d_M_kernel_156 : decode mb_M_kernel 156 = .ok (.imul, 1) := by decide +kernel
theorem d_M_kernel_157 : decode mb_M_kernel 157 = .ok (.iload 6, 2) := by decide +kernel
theorem d_M_kernel_159 : decode mb_M_kernel 159 = .ok (.iadd, 1) := by decide +kernel
theorem d_M_kernel_160 : decode mb_M_kernel 160 = .ok (.aload_n 0, 1) := by decide +kernel
theorem d_M_kernel_161 : decode mb_M_kernel 161 = .ok (.sipush 128, 3) := by decide +kernel
theorem d_M_kernel_164 : decode mb_M_kernel 164 = .ok (.iload_n 2, 1) := by decide +kernel
theorem d_M_kernel_165 : decode mb_M_kernel 165 = .ok (.imul, 1) := by decide +kernel
theorem d_M_kernel_166 : decode mb_M_kernel 166 = .ok (.iload 6, 2) := by decide +kernel
theorem d_M_kernel_168 : decode mb_M_kernel 168 = .ok (.iadd, 1) := by decide +kernel
theorem d_M_kernel_169 : decode mb_M_kernel 169 = .ok (.invokevirtual 39, 3) := by decide +kernel
theorem d_M_kernel_172 : decode mb_M_kernel 172 = .ok (.invokevirtual 43, 3) := by decide +kernel
theorem d_M_kernel_175 : decode mb_M_kernel 175 = .ok (.iinc 6 1, 3) := by decide +kernel
theorem d_M_kernel_178 : decode mb_M_kernel 178 = .ok (.goto (-36), 3) := by decide +kernel
theorem d_M_kernel_181 : decode mb_M_kernel 181 = .ok (.aload_n 0, 1) := by decide +kernel
theorem d_M_kernel_182 : decode mb_M_kernel 182 = .ok (.iload 5, 2) := by decide +kernel
theorem d_M_kernel_184 : decode mb_M_kernel 184 = .ok (.sipush 128, 3) := by decide +kernel
theorem d_M_kernel_187 : decode mb_M_kernel 187 = .ok (.iload 5, 2) := by decide +kernel
theorem d_M_kernel_189 : decode mb_M_kernel 189 = .ok (.imul, 1) := by decide +kernel
theorem d_M_kernel_190 : decode mb_M_kernel 190 = .ok (.iload_n 3, 1) := by decide +kernel
theorem d_M_kernel_191 : decode mb_M_kernel 191 = .ok (.iadd, 1) := by decide +kernel
theorem d_M_kernel_192 : decode mb_M_kernel 192 = .ok (.iload 4, 2) := by decide +kernel
theorem d_M_kernel_194 : decode mb_M_kernel 194 = .ok (.invokevirtual 192, 3) := by decide +kernel
theorem d_M_kernel_197 : decode mb_M_kernel 197 = .ok (.aload_n 0, 1) := by decide +kernel
theorem d_M_kernel_198 : decode mb_M_kernel 198 = .ok (.iload_n 2, 1) := by decide +kernel
theorem d_M_kernel_199 : decode mb_M_kernel 199 = .ok (.bipush 8, 2) := by decide +kernel
theorem d_M_kernel_201 : decode mb_M_kernel 201 = .ok (.iload 5, 2) := by decide +kernel
theorem d_M_kernel_203 : decode mb_M_kernel 203 = .ok (.iconst 0, 1) := by decide +kernel
theorem d_M_kernel_204 : decode mb_M_kernel 204 = .ok (.invokevirtual 188, 3) := by decide +kernel
theorem d_M_kernel_207 : decode mb_M_kernel 207 = .ok (.goto 21, 3) := by decide +kernel
theorem d_M_kernel_210 : decode mb_M_kernel 210 = .ok (.aload_n 0, 1) := by decide +kernel
theorem d_M_kernel_211 : decode mb_M_kernel 211 = .ok (.iload_n 2, 1) := by decide +kernel
theorem d_M_kernel_212 : decode mb_M_kernel 212 = .ok (.bipush 9, 2) := by decide +kernel
theorem d_M_kernel_214 : decode mb_M_kernel 214 = .ok (.iload_n 1, 1) := by decide +kernel
theorem d_M_kernel_215 : decode mb_M_kernel 215 = .ok (.iconst 1, 1) := by decide +kernel
theorem d_M_kernel_216 : decode mb_M_kernel 216 = .ok (.if_icmp .ne 7, 3) := by decide +kernel
theorem d_M_kernel_219 : decode mb_M_kernel 219 = .ok (.iconst 1, 1) := by decide +kernel
theorem d_M_kernel_220 : decode mb_M_kernel 220 = .ok (.goto 4, 3) := by decide +kernel
theorem d_M_kernel_223 : decode mb_M_kernel 223 = .ok (.iconst 2, 1) := by decide +kernel
theorem d_M_kernel_224 : decode mb_M_kernel 224 = .ok (.iconst 1, 1) := by decide +kernel
theorem d_M_kernel_225 : decode mb_M_kernel 225 = .ok (.invokevirtual 188, 3) := by decide +kernel
theorem d_M_kernel_228 : decode mb_M_kernel 228 = .ok (.aload_n 0, 1) := by decide +kernel
theorem d_M_kernel_229 : decode mb_M_kernel 229 = .ok (.iload_n 2, 1) := by decide +kernel
theorem d_M_kernel_230 : decode mb_M_kernel 230 = .ok (.invokevirtual 176, 3) := by decide +kernel
theorem d_M_kernel_233 : decode mb_M_kernel 233 = .ok (.return_, 1) := by decide +kernel
theorem d_M_single_0 : decode mb_M_single 0 = .ok (.iload_n 1, 1) := by decide +kernel
theorem d_M_single_1 : decode mb_M_single 1 = .ok (.bipush 18, 2) := by decide +kernel
theorem d_M_single_3 : decode mb_M_single 3 = .ok (.if_icmp .ne 4, 3) := by decide +kernel
theorem d_M_single_6 : decode mb_M_single 6 = .ok (.return_, 1) := by decide +kernel
theorem d_M_single_7 : decode mb_M_single 7 = .ok (.iload_n 1, 1) := by decide +kernel
theorem d_M_single_8 : decode mb_M_single 8 = .ok (.bipush 26, 2) := by decide +kernel
theorem d_M_single_10 : decode mb_M_single 10 = .ok (.if_icmp .ne 24, 3) := by decide +kernel
theorem d_M_single_13 : decode mb_M_single 13 = .ok (.aload_n 0, 1) := by decide +kernel
theorem d_M_single_14 : decode mb_M_single 14 = .ok (.bipush 10, 2) := by decide +kernel
theorem d_M_single_16 : decode mb_M_single 16 = .ok (.aload_n 0, 1) := by decide +kernel
theorem d_M_single_17 : decode mb_M_single 17 = .ok (.getfield 13, 3) := by decide +kernel
theorem d_M_single_20 : decode mb_M_single 20 = .ok (.bipush 10, 2) := by decide +kernel
theorem d_M_single_22 : decode mb_M_single 22 = .ok (.iaload, 1) := by decide +kernel
theorem d_M_single_23 : decode mb_M_single 23 = .ok (.aload_n 0, 1) := by decide +kernel
theorem d_M_single_24 : decode mb_M_single 24 = .ok (.invokevirtual 54, 3) := by decide +kernel
theorem d_M_single_27 : decode mb_M_single 27 = .ok (.ior, 1) := by decide +kernel
theorem d_M_single_28 : decode mb_M_single 28 = .ok (.invokevirtual 51, 3) := by decide +kernel
theorem d_M_single_31 : decode mb_M_single 31 = .ok (.goto 322, 3) := by decide +kernel
theorem d_M_single_34 : decode mb_M_single 34 = .ok (.iload_n 1, 1) := by decide +kernel
theorem d_M_single_35 : decode mb_M_single 35 = .ok (.bipush 28, 2) := by decide +kernel
theorem d_M_single_37 : decode mb_M_single 37 = .ok (.if_icmp .ne 24, 3) := by decide +kernel
theorem d_M_single_40 : decode mb_M_single 40 = .ok (.aload_n 0, 1) := by decide +kernel
theorem d_M_single_41 : decode mb_M_single 41 = .ok (.bipush 10, 2) := by decide +kernel
theorem d_M_single_43 : decode mb_M_single 43 = .ok (.aload_n 0, 1) := by decide +kernel
theorem d_M_single_44 : decode mb_M_single 44 = .ok (.getfield 13, 3) := by decide +kernel
theorem d_M_single_47 : decode mb_M_single 47 = .ok (.bipush 10, 2) := by decide +kernel
theorem d_M_single_49 : decode mb_M_single 49 = .ok (.iaload, 1) := by decide +kernel
theorem d_M_single_50 : decode mb_M_single 50 = .ok (.aload_n 0, 1) := by decide +kernel
theorem d_M_single_51 : decode mb_M_single 51 = .ok (.invokevirtual 54, 3) := by decide +kernel
theorem d_M_single_54 : decode mb_M_single 54 = .ok (.iand, 1) := by decide +kernel
theorem d_M_single_55 : decode mb_M_single 55 = .ok (.invokevirtual 51, 3) := by decide +kernel
theorem d_M_single_58 : decode mb_M_single 58 = .ok (.goto 295, 3) := by decide +kernel
theorem d_M_single_61 : decode mb_M_single 61 = .ok (.iload_n 1, 1) := by decide +kernel
theorem d_M_single_62 : decode mb_M_single 62 = .ok (.bipush 29, 2) := by decide +kernel
theorem d_M_single_64 : decode mb_M_single 64 = .ok (.if_icmp .ne 32, 3) := by decide +kernel
theorem d_M_single_67 : decode mb_M_single 67 = .ok (.aload_n 0, 1) := by decide +kernel
theorem d_M_single_68 : decode mb_M_single 68 = .ok (.iconst 0, 1) := by decide +kernel
theorem d_M_single_69 : decode mb_M_single 69 = .ok (.aload_n 0, 1) := by decide +kernel
theorem d_M_single_70 : decode mb_M_single 70 = .ok (.getfield 13, 3) := by decide +kernel
theorem d_M_single_73 : decode mb_M_single 73 = .ok (.bipush 9, 2) := by decide +kernel
theorem d_M_single_75 : decode mb_M_single 75 = .ok (.iaload, 1) := by decide +kernel
theorem d_M_single_76 : decode mb_M_single 76 = .ok (.invokestatic 86, 3) := by decide +kernel
theorem d_M_single_79 : decode mb_M_single 79 = .ok (.invokevirtual 51, 3) := by decide +kernel
theorem d_M_single_82 : decode mb_M_single 82 = .ok (.aload_n 0, 1) := by decide +kernel
theorem d_M_single_83 : decode mb_M_single 83 = .ok (.aload_n 0, 1) := by decide +kernel
theorem d_M_single_84 : decode mb_M_single 84 = .ok (.iconst 0, 1) := by decide +kernel
theorem d_M_single_85 : decode mb_M_single 85 = .ok (.invokevirtual 89, 3) := by decide +kernel
theorem d_M_single_88 : decode mb_M_single 88 = .ok (.bipush 16, 2) := by decide +kernel
theorem d_M_single_90 : decode mb_M_single 90 = .ok (.invokevirtual 66, 3) := by decide +kernel
theorem d_M_single_93 : decode mb_M_single 93 = .ok (.goto 260, 3) := by decide +kernel
theorem d_M_single_96 : decode mb_M_single 96 = .ok (.iload_n 1, 1) := by decide +kernel
theorem d_M_single_97 : decode mb_M_single 97 = .ok (.bipush 30, 2) := by decide +kernel
theorem d_M_single_99 : decode mb_M_single 99 = .ok (.if_icmp .eq 9, 3) := by decide +kernel
theorem d_M_single_102 : decode mb_M_single 102 = .ok (.iload_n 1, 1) := by decide +kernel
theorem d_M_single_103 : decode mb_M_single 103 = .ok (.bipush 31, 2) := by decide +kernel
theorem d_M_single_105 : decode mb_M_single 105 = .ok (.if_icmp .ne 11, 3) := by decide +kernel
theorem d_M_single_108 : decode mb_M_single 108 = .ok (.aload_n 0, 1) := by decide +kernel
theorem d_M_single_109 : decode mb_M_single 109 = .ok (.iload_n 1, 1) := by decide +kernel
theorem d_M_single_110 : decode mb_M_single 110 = .ok (.invokevirtual 140, 3) := by decide +kernel
theorem d_M_single_113 : decode mb_M_single 113 = .ok (.goto 240, 3) := by decide +kernel
theorem d_M_single_116 : decode mb_M_single 116 = .ok (.iload_n 1, 1) := by decide +kernel
theorem d_M_single_117 : decode mb_M_single 117 = .ok (.bipush 48, 2) := by decide +kernel
theorem d_M_single_119 : decode mb_M_single 119 = .ok (.if_icmp .lt 84, 3) := by decide +kernel
theorem d_M_single_122 : decode mb_M_single 122 = .ok (.iload_n 1, 1) := by decide +kernel
theorem d_M_single_123 : decode mb_M_single 123 = .ok (.bipush 51, 2) := by decide +kernel
theorem d_M_single_125 : decode mb_M_single 125 = .ok (.if_icmp .gt 78, 3) := by decide +kernel
theorem d_M_single_128 : decode mb_M_single 128 = .ok (.aload_n 0, 1) := by decide +kernel
theorem d_M_single_129 : decode mb_M_single 129 = .ok (.iconst 2, 1) := by decide +kernel
theorem d_M_single_130 : decode mb_M_single 130 = .ok (.invokevirtual 92, 3) := by decide +kernel
theorem d_M_single_133 : decode mb_M_single 133 = .ok (.istore_n 2, 1) := by decide +kernel
theorem d_M_single_134 : decode mb_M_single 134 = .ok (.iload_n 1, 1) := by decide +kernel
theorem d_M_single_135 : decode mb_M_single 135 = .ok (.bipush 48, 2) := by decide +kernel
theorem d_M_single_137 : decode mb_M_single 137 = .ok (.if_icmp .ne 7, 3) := by decide +kernel
theorem d_M_single_140 : decode mb_M_single 140 = .ok (.iconst 1, 1) := by decide +kernel
theorem d_M_single_141 : decode mb_M_single 141 = .ok (.goto 24, 3) := by decide +kernel
theorem d_M_single_144 : decode mb_M_single 144 = .ok (.iload_n 1, 1) := by decide +kernel
theorem d_M_single_145 : decode mb_M_single 145 = .ok (.bipush 49, 2) := by decide +kernel
theorem d_M_single_147 : decode mb_M_single 147 = .ok (.if_icmp .ne 7, 3) := by decide +kernel
theorem d_M_single_150 : decode mb_M_single 150 = .ok (.iconst 2, 1) := by decide +kernel
theorem d_M_single_151 : decode mb_M_single 151 = .ok (.goto 14, 3) := by decide +kernel
theorem d_M_single_154 : decode mb_M_single 154 = .ok (.iload_n 1, 1) := by decide +kernel
theorem d_M_single_155 : decode mb_M_single 155 = .ok (.bipush 50, 2) := by decide +kernel
theorem d_M_single_157 : decode mb_M_single 157 = .ok (.if_icmp .ne 7, 3) := by decide +kernel
theorem d_M_single_160 : decode mb_M_single 160 = .ok (.iconst 4, 1) := by decide +kernel
theorem d_M_single_161 : decode mb_M_single 161 = .ok (.goto 4, 3) := by decide +kernel
theorem d_M_single_164 : decode mb_M_single 164 = .ok (.iconst 3, 1) := by decide +kernel
theorem d_M_single_165 : decode mb_M_single 165 = .ok (.istore_n 3, 1) := by decide +kernel
theorem d_M_single_166 : decode mb_M_single 166 = .ok (.aload_n 0, 1) := by decide +kernel
theorem d_M_single_167 : decode mb_M_single 167 = .ok (.getfield 76, 3) := by decide +kernel
theorem d_M_single_170 : decode mb_M_single 170 = .ok (.ifCond .eq 4, 3) := by decide +kernel
theorem d_M_single_173 : decode mb_M_single 173 = .ok (.return_, 1) := by decide +kernel
theorem d_M_single_174 : decode mb_M_single 174 = .ok (.aload_n 0, 1) := by decide +kernel
theorem d_M_single_175 : decode mb_M_single 175 = .ok (.iload_n 3, 1) := by decide +kernel
theorem d_M_single_176 : decode mb_M_single 176 = .ok (.iload_n 2, 1) := by decide +kernel
theorem d_M_single_177 : decode mb_M_single 177 = .ok (.invokevirtual 51, 3) := by decide +kernel
theorem d_M_single_180 : decode mb_M_single 180 = .ok (.iload_n 1, 1) := by decide +kernel
theorem d_M_single_181 : decode mb_M_single 181 = .ok (.bipush 50, 2) := by decide +kernel
theorem d_M_single_183 : decode mb_M_single 183 = .ok (.if_icmp .ge 17, 3) := by decide +kernel
theorem d_M_single_186 : decode mb_M_single 186 = .ok (.aload_n 0, 1) := by decide +kernel
theorem d_M_single_187 : decode mb_M_single 187 = .ok (.iconst 4, 1) := by decide +kernel
theorem d_M_single_188 : decode mb_M_single 188 = .ok (.iload_n 2, 1) := by decide +kernel
theorem d_M_single_189 : decode mb_M_single 189 = .ok (.ifCond .ne 7, 3) := by decide +kernel
theorem d_M_single_192 : decode mb_M_single 192 = .ok (.iconst 1, 1) := by decide +kernel
theorem d_M_single_193 : decode mb_M_single 193 = .ok (.goto 4, 3) := by decide +kernel
theorem d_M_single_196 : decode mb_M_single 196 = .ok (.iconst 0, 1) := by decide +kernel
theorem d_M_single_197 : decode mb_M_single 197 = .ok (.invokevirtual 62, 3) := by decide +kernel
theorem d_M_single_200 : decode mb_M_single 200 = .ok (.goto 153, 3) := by decide +kernel
theorem d_M_single_203 : decode mb_M_single 203 = .ok (.iload_n 1, 1) := by decide +kernel
theorem d_M_single_204 : decode mb_M_single 204 = .ok (.bipush 52, 2) := by decide +kernel
theorem d_M_single_206 : decode mb_M_single 206 = .ok (.if_icmp .lt 17, 3) := by decide +kernel
theorem d_M_single_209 : decode mb_M_single 209 = .ok (.iload_n 1, 1) := by decide +kernel
theorem d_M_single_210 : decode mb_M_single 210 = .ok (.bipush 55, 2) := by decide +kernel
theorem d_M_single_212 : decode mb_M_single 212 = .ok (.if_icmp .gt 11, 3) := by decide +kernel
theorem d_M_single_215 : decode mb_M_single 215 = .ok (.aload_n 0, 1) := by decide +kernel
theorem d_M_single_216 : decode mb_M_single 216 = .ok (.iload_n 1, 1) := by decide +kernel
theorem d_M_single_217 : decode mb_M_single 217 = .ok (.invokevirtual 143, 3) := by decide +kernel
theorem d_M_single_220 : decode mb_M_single 220 = .ok (.goto 133, 3) := by decide +kernel
theorem d_M_single_223 : decode mb_M_single 223 = .ok (.iload_n 1, 1) := by decide +kernel
theorem d_M_single_224 : decode mb_M_single 224 = .ok (.bipush 57, 2) := by decide +kernel
theorem d_M_single_226 : decode mb_M_single 226 = .ok (.if_icmp .ne 12, 3) := by decide +kernel
theorem d_M_single_229 : decode mb_M_single 229 = .ok (.aload_n 0, 1) := by decide +kernel
theorem d_M_single_230 : decode mb_M_single 230 = .ok (.iconst 4, 1) := by decide +kernel
theorem d_M_single_231 : decode mb_M_single 231 = .ok (.iconst 5, 1) := by decide +kernel
theorem d_M_single_232 : decode mb_M_single 232 = .ok (.invokevirtual 137, 3) := by decide +kernel
theorem d_M_single_235 : decode mb_M_single 235 = .ok (.goto 118, 3) := by decide +kernel
theorem d_M_single_238 : decode mb_M_single 238 = .ok (.iload_n 1, 1) := by decide +kernel
theorem d_M_single_239 : decode mb_M_single 239 = .ok (.bipush 58, 2) := by decide +kernel
theorem d_M_single_241 : decode mb_M_single 241 = .ok (.if_icmp .ne 25, 3) := by decide +kernel
theorem d_M_single_244 : decode mb_M_single 244 = .ok (.aload_n 0, 1) := by decide +kernel
theorem d_M_single_245 : decode mb_M_single 245 = .ok (.iconst 1, 1) := by decide +kernel
theorem d_M_single_246 : decode mb_M_single 246 = .ok (.aload_n 0, 1) := by decide +kernel
theorem d_M_single_247 : decode mb_M_single 247 = .ok (.getfield 13, 3) := by decide +kernel
theorem d_M_single_250 : decode mb_M_single 250 = .ok (.iconst 1, 1) := by decide +kernel
theorem d_M_single_251 : decode mb_M_single 251 = .ok (.iaload, 1) := by decide +kernel
theorem d_M_single_252 : decode mb_M_single 252 = .ok (.aload_n 0, 1) := by decide +kernel
theorem d_M_single_253 : decode mb_M_single 253 = .ok (.getfield 13, 3) := by decide +kernel
theorem d_M_single_256 : decode mb_M_single 256 = .ok (.bipush 9, 2) := by decide +kernel
theorem d_M_single_258 : decode mb_M_single 258 = .ok (.iaload, 1) := by decide +kernel
theorem d_M_single_259 : decode mb_M_single 259 = .ok (.iadd, 1) := by decide +kernel
theorem d_M_single_260 : decode mb_M_single 260 = .ok (.invokevirtual 51, 3) := by decide +kernel
theorem d_M_single_263 : decode mb_M_single 263 = .ok (.goto 90, 3) := by decide +kernel
theorem d_M_single_266 : decode mb_M_single 266 = .ok (.iload_n 1, 1) := by decide +kernel
theorem d_M_single_267 : decode mb_M_single 267 = .ok (.bipush 61, 2) := by decide +kernel
theorem d_M_single_269 : decode mb_M_single 269 = .ok (.if_icmp .ne 66, 3) := by decide +kernel
theorem d_M_single_272 : decode mb_M_single 272 = .ok (.aload_n 0, 1) := by decide +kernel
theorem d_M_single_273 : decode mb_M_single 273 = .ok (.iconst 0, 1) := by decide +kernel
theorem d_M_single_274 : decode mb_M_single 274 = .ok (.aload_n 0, 1) := by decide +kernel
theorem d_M_single_275 : decode mb_M_single 275 = .ok (.getfield 13, 3) := by decide +kernel
theorem d_M_single_278 : decode mb_M_single 278 = .ok (.bipush 8, 2) := by decide +kernel
theorem d_M_single_280 : decode mb_M_single 280 = .ok (.iaload, 1) := by decide +kernel
theorem d_M_single_281 : decode mb_M_single 281 = .ok (.aload_n 0, 1) := by decide +kernel
theorem d_M_single_282 : decode mb_M_single 282 = .ok (.getfield 13, 3) := by decide +kernel
theorem d_M_single_285 : decode mb_M_single 285 = .ok (.bipush 9, 2) := by decide +kernel
theorem d_M_single_287 : decode mb_M_single 287 = .ok (.iaload, 1) := by decide +kernel
theorem d_M_single_288 : decode mb_M_single 288 = .ok (.imul, 1) := by decide +kernel
theorem d_M_single_289 : decode mb_M_single 289 = .ok (.invokevirtual 51, 3) := by decide +kernel
theorem d_M_single_292 : decode mb_M_single 292 = .ok (.aload_n 0, 1) := by decide +kernel
theorem d_M_single_293 : decode mb_M_single 293 = .ok (.iconst 4, 1) := by decide +kernel
theorem d_M_single_294 : decode mb_M_single 294 = .ok (.aload_n 0, 1) := by decide +kernel
theorem d_M_single_295 : decode mb_M_single 295 = .ok (.iconst 0, 1) := by decide +kernel
theorem d_M_single_296 : decode mb_M_single 296 = .ok (.invokevirtual 89, 3) := by decide +kernel
theorem d_M_single_299 : decode mb_M_single 299 = .ok (.ifCond .ne 7, 3) := by decide +kernel
theorem d_M_single_302 : decode mb_M_single 302 = .ok (.iconst 1, 1) := by decide +kernel
theorem d_M_single_303 : decode mb_M_single 303 = .ok (.goto 4, 3) := by decide +kernel
theorem d_M_single_306 : decode mb_M_single 306 = .ok (.iconst 0, 1) := by decide +kernel
theorem d_M_single_307 : decode mb_M_single 307 = .ok (.invokevirtual 62, 3) := by decide +kernel
theorem d_M_single_310 : decode mb_M_single 310 = .ok (.aload_n 0, 1) := by decide +kernel
theorem d_M_single_311 : decode mb_M_single 311 = .ok (.iconst 1, 1) := by decide +kernel
theorem d_M_single_312 : decode mb_M_single 312 = .ok (.aload_n 0, 1) := by decide +kernel
theorem d_M_single_313 : decode mb_M_single 313 = .ok (.getfield 13, 3) := by decide +kernel
theorem d_M_single_316 : decode mb_M_single 316 = .ok (.bipush 9, 2) := by decide +kernel
theorem d_M_single_318 : decode mb_M_single 318 = .ok (.iaload, 1) := by decide +kernel
theorem d_M_single_319 : decode mb_M_single 319 = .ok (.bipush 127, 2) := by decide +kernel
theorem d_M_single_321 : decode mb_M_single 321 = .ok (.if_icmp .le 7, 3) := by decide +kernel
theorem d_M_single_324 : decode mb_M_single 324 = .ok (.iconst 1, 1) := by decide +kernel
theorem d_M_single_325 : decode mb_M_single 325 = .ok (.goto 4, 3) := by decide +kernel
theorem d_M_single_328 : decode mb_M_single 328 = .ok (.iconst 0, 1) := by decide +kernel
theorem d_M_single_329 : decode mb_M_single 329 = .ok (.invokevirtual 62, 3) := by decide +kernel
theorem d_M_single_332 : decode mb_M_single 332 = .ok (.goto 21, 3) := by decide +kernel
theorem d_M_single_335 : decode mb_M_single 335 = .ok (.iload_n 1, 1) := by decide +kernel
theorem d_M_single_336 : decode mb_M_single 336 = .ok (.bipush 63, 2) := by decide +kernel
theorem d_M_single_338 : decode mb_M_single 338 = .ok (.if_icmp .ne 10, 3) := by decide +kernel
theorem d_M_single_341 : decode mb_M_single 341 = .ok (.aload_n 0, 1) := by decide +kernel
theorem d_M_single_342 : decode mb_M_single 342 = .ok (.invokevirtual 146, 3) := by decide +kernel
theorem d_M_single_345 : decode mb_M_single 345 = .ok (.goto 8, 3) := by decide +kernel
theorem d_M_single_348 : decode mb_M_single 348 = .ok (.aload_n 0, 1) := by decide +kernel
theorem d_M_single_349 : decode mb_M_single 349 = .ok (.iconst 1, 1) := by decide +kernel
theorem d_M_single_350 : decode mb_M_single 350 = .ok (.putfield 76, 3) := by decide +kernel
theorem d_M_single_353 : decode mb_M_single 353 = .ok (.return_, 1) := by decide +kernel
section MODEL
variable {l : Launch} {D : va_G}
variable {h0 h1 h2 h3 h4 h5 h6 h7 : Nat} {cI cT : ClassId} {me : Nat → Int32} {rg : Nat → Int32} {so : Nat → Int32} {sv : Nat → Int32} {tl : Nat → Int32} {su : Nat → Int32} {qu : Nat → Int32} {wa : Int32} {ru : Int32} {pe : Int32} {re : Int32} {pn : Bool} {lo : Int32} {se : Int32} {pa : Int32} {sp : Int32} {iv : Bool}
set_option maxHeartbeats 4000000 in
set_option maxRecDepth 100000 in
theorem c_mo_begin {x1 : Int32} {x2 : Int32} {x3 : Int32} {z : (Nat → Int32) × (Nat → Int32) × (Nat → Int32) × (Nat → Int32) × Int32} (hf : mo_begin x1 x2 x3 me so sv qu wa = some z) : co_v l my_M_begin mb_M_begin 6 rm_m_begin D (ty_ cI cT) [.ref h0, .int x1, .int x2, .int x3] (mw_ h0 h1 h2 h3 h4 h5 h6 h7 cI me rg so sv tl su qu wa ru pe re pn lo se pa sp iv) (mw_ h0 h1 h2 h3 h4 h5 h6 h7 cI z.1 rg z.2.1 z.2.2.1 tl su z.2.2.2.1 z.2.2.2.2 ru pe re pn lo se pa sp iv) := by
  refine co_v_of (by decide) (Nat.le_of_ble_eq_true rfl) ?_
  intro p e s m below meth c A ls X hr hlk hK hP hD hS hA hl
  have hx := X.1
  have hb := X.2.1
  have hl : lv_has ls 6 [(0, .ref h0), (1, .int x1), (2, .int x2), (3, .int x3)] := hl
  have L13 : ∀ (n_ : Nat) (v1 : Int32) (v2 : Int32) (v3 : Int32) (v4 : Int32) (v5 : Int32) (me : Nat → Int32) (so : Nat → Int32) (sv : Nat → Int32) (qu : Nat → Int32) (wa : Int32), mo_begin_l13 n_ v1 v2 v3 v4 v5 me so sv qu wa = some z → ∀ (H : Heap) (locs : List Loc) (ls : Array Slot), lv_has ls 6 [(0, .ref h0), (1, .int v1), (2, .int v2), (3, .int v3), (4, .int v4), (5, .int v5)] → va_P D cz_all (mw_ h0 h1 h2 h3 h4 h5 h6 h7 cI me rg so sv tl su qu wa ru pe re pn lo se pa sp iv) H → va_D A (mw_ h0 h1 h2 h3 h4 h5 h6 h7 cI me rg so sv tl su qu wa ru pe re pn lo se pa sp iv) → va_S A s.heap H locs → W p l e rm_m_begin s m ([.ref h0, .int x1, .int x2, .int x3] : List Value).toArray below meth c H locs 0 0 (MQ below (qs_v D (ty_ cI cT) (mw_ h0 h1 h2 h3 h4 h5 h6 h7 cI z.1 rg z.2.1 z.2.2.1 tl su z.2.2.2.1 z.2.2.2.2 ru pe re pn lo se pa sp iv) A) ([.ref h0, .int x1, .int x2, .int x3] : List Value).toArray s 0 0 A) (F0 m 13 ls []) := by
    intro n_
    induction n_ with
    | zero => intro v1 v2 v3 v4 v5 me so sv qu wa hf; cases hf
    | succ n_ ih =>
      intro v1 v2 v3 v4 v5 me so sv qu wa hf H locs ls hl hP hD hS
      replace hf := (mo_begin_l13_s n_ v1 v2 v3 v4 v5 me so sv qu wa).symm.trans hf
      refine lv_iload hx hb d_M_begin_13 (lv_at hl 5 rfl) ?_
      refine lv_bipush (v := (12 : Int32)) hx hb d_M_begin_15 (by decide) ?_
      refine lv_icmp_ge (tgt := 36) hx hb d_M_begin_17 (by decide) (fun hc => ?_) (fun hc => ?_)
      · replace hf := (if_pos hc).symm.trans hf
        refine lv_aload_n hx hb d_M_begin_36 rfl (lv_at hl 0 rfl) ?_
        refine lv_iload hx hb d_M_begin_37 (lv_at hl 4 rfl) ?_
        refine lv_sipush (v := (128 : Int32)) hx hb d_M_begin_39 (by decide) ?_
        obtain ⟨z15, hz15, hf⟩ := op_b hf
        refine cl_v X cw_M_43 hK hP hD hS hA hl (c_mo_put hz15) ⟨rfl, rfl, Nat.le_of_ble_eq_true rfl, Nat.le_of_ble_eq_true rfl⟩ 0 rfl rfl rfl rfl rfl (Nat.le_of_ble_eq_true rfl) d_M_begin_42 (fun H locs hP hD hS => ?_)
        refine lv_aload_n hx hb d_M_begin_45 rfl (lv_at hl 0 rfl) ?_
        refine lv_iload hx hb d_M_begin_46 (lv_at hl 4 rfl) ?_
        refine lv_iconst (v := (1 : Int32)) hx hb d_M_begin_48 (by decide) ?_
        refine lv_iadd hx hb d_M_begin_49 ?_
        refine lv_iload_n hx hb d_M_begin_50 rfl (lv_at hl 3 rfl) ?_
        obtain ⟨z16, hz16, hf⟩ := op_b hf
        refine cl_v X cw_M_43 hK hP hD hS hA hl (c_mo_put hz16) ⟨rfl, rfl, Nat.le_of_ble_eq_true rfl, Nat.le_of_ble_eq_true rfl⟩ 0 rfl rfl rfl rfl rfl (Nat.le_of_ble_eq_true rfl) d_M_begin_51 (fun H locs hP hD hS => ?_)
        refine lv_aload_n hx hb d_M_begin_54 rfl (lv_at hl 0 rfl) ?_
        refine lv_iload hx hb d_M_begin_55 (lv_at hl 4 rfl) ?_
        refine lv_bipush (v := (10 : Int32)) hx hb d_M_begin_57 (by decide) ?_
        refine lv_iadd hx hb d_M_begin_59 ?_
        refine lv_iload_n hx hb d_M_begin_60 rfl (lv_at hl 2 rfl) ?_
        refine lv_bipush (v := (8 : Int32)) hx hb d_M_begin_61 (by decide) ?_
        refine lv_ishr hx hb d_M_begin_63 ?_
        obtain ⟨z17, hz17, hf⟩ := op_b hf
        refine cl_v X cw_M_43 hK hP hD hS hA hl (c_mo_put hz17) ⟨rfl, rfl, Nat.le_of_ble_eq_true rfl, Nat.le_of_ble_eq_true rfl⟩ 0 rfl rfl rfl rfl rfl (Nat.le_of_ble_eq_true rfl) d_M_begin_64 (fun H locs hP hD hS => ?_)
        refine lv_aload_n hx hb d_M_begin_67 rfl (lv_at hl 0 rfl) ?_
        refine lv_iload hx hb d_M_begin_68 (lv_at hl 4 rfl) ?_
        refine lv_bipush (v := (11 : Int32)) hx hb d_M_begin_70 (by decide) ?_
        refine lv_iadd hx hb d_M_begin_72 ?_
        refine lv_iload_n hx hb d_M_begin_73 rfl (lv_at hl 2 rfl) ?_
        obtain ⟨z18, hz18, hf⟩ := op_b hf
        refine cl_v X cw_M_43 hK hP hD hS hA hl (c_mo_put hz18) ⟨rfl, rfl, Nat.le_of_ble_eq_true rfl, Nat.le_of_ble_eq_true rfl⟩ 0 rfl rfl rfl rfl rfl (Nat.le_of_ble_eq_true rfl) d_M_begin_74 (fun H locs hP hD hS => ?_)
        refine lv_aload_n hx hb d_M_begin_77 rfl (lv_at hl 0 rfl) ?_
        refine mg_savedS X hK hP d_M_begin_78 ?_
        refine lv_iload_n hx hb d_M_begin_81 rfl (lv_at hl 1 rfl) ?_
        refine lv_iload hx hb d_M_begin_82 (lv_at hl 4 rfl) ?_
        obtain ⟨hi19, hf⟩ := op_c hf
        refine ms_sv (k := (v1.toNatClampNeg)) X hK hP hD hS hi19 rfl d_M_begin_84 (fun H locs hP hD hS => ?_)
        refine lv_aload_n hx hb d_M_begin_85 rfl (lv_at hl 0 rfl) ?_
        refine lv_iload_n hx hb d_M_begin_86 rfl (lv_at hl 1 rfl) ?_
        obtain ⟨z20, hz20, hf⟩ := op_b hf
        refine cl_v X cw_M_182 hK hP hD hS hA hl (c_mo_comeLast hz20) ⟨rfl, rfl, Nat.le_of_ble_eq_true rfl, Nat.le_of_ble_eq_true rfl⟩ 0 rfl rfl rfl rfl rfl (Nat.le_of_ble_eq_true rfl) d_M_begin_87 (fun H locs hP hD hS => ?_)
        have hq := Option.some.inj hf
        subst hq
        exact rt_v X hr hlk hK hP hD hS d_M_begin_90
      · replace hf := (if_neg hc).symm.trans hf
        refine lv_aload_n hx hb d_M_begin_20 rfl (lv_at hl 0 rfl) ?_
        refine lv_iload hx hb d_M_begin_21 (lv_at hl 4 rfl) ?_
        refine lv_iload hx hb d_M_begin_23 (lv_at hl 5 rfl) ?_
        refine lv_iadd hx hb d_M_begin_25 ?_
        refine lv_iconst (v := (0 : Int32)) hx hb d_M_begin_26 (by decide) ?_
        obtain ⟨z21, hz21, hf⟩ := op_b hf
        refine cl_v X cw_M_43 hK hP hD hS hA hl (c_mo_put hz21) ⟨rfl, rfl, Nat.le_of_ble_eq_true rfl, Nat.le_of_ble_eq_true rfl⟩ 0 rfl rfl rfl rfl rfl (Nat.le_of_ble_eq_true rfl) d_M_begin_27 (fun H locs hP hD hS => ?_)
        refine lv_iinc (k := 5) hx hb d_M_begin_30 hl rfl rfl (by decide) rfl (fun ls hl => ?_)
        have hl : lv_has ls 6 [(5, .int (v5 + Int32.ofInt 1)), (0, .ref h0), (1, .int v1), (2, .int v2), (3, .int v3), (4, .int v4)] := hl
        refine lv_goto (tgt := 13) hx hb d_M_begin_33 (by decide) ?_
        exact ih v1 v2 v3 v4 (v5 + Int32.ofInt 1) z21 so sv qu wa hf _ _ _ (lv_sub hl [1, 2, 3, 4, 5, 0] rfl) hP hD hS
  unfold mo_begin at hf
  refine lv_sipush (v := (128 : Int32)) hx hb d_M_begin_0 (by decide) ?_
  refine lv_iload_n hx hb d_M_begin_3 rfl (lv_at hl 1 rfl) ?_
  refine lv_imul hx hb d_M_begin_4 ?_
  refine lv_bipush (v := (116 : Int32)) hx hb d_M_begin_5 (by decide) ?_
  refine lv_iadd hx hb d_M_begin_7 ?_
  refine lv_istore hx hb d_M_begin_8 hl (by decide) rfl (fun ls hl => ?_)
  have hl : lv_has ls 6 [(4, .int (((128 : Int32) * x1) + (116 : Int32))), (0, .ref h0), (1, .int x1), (2, .int x2), (3, .int x3)] := hl
  refine lv_iconst (v := (0 : Int32)) hx hb d_M_begin_10 (by decide) ?_
  refine lv_istore hx hb d_M_begin_11 hl (by decide) rfl (fun ls hl => ?_)
  have hl : lv_has ls 6 [(5, .int (0 : Int32)), (4, .int (((128 : Int32) * x1) + (116 : Int32))), (0, .ref h0), (1, .int x1), (2, .int x2), (3, .int x3)] := hl
  exact L13 13 x1 x2 x3 (((128 : Int32) * x1) + (116 : Int32)) (0 : Int32) me so sv qu wa hf _ _ _ (lv_sub hl [2, 3, 4, 5, 1, 0] rfl) hP hD hS
set_option maxHeartbeats 4000000 in
set_option maxRecDepth 100000 in
theorem c_mo_kernel  {z : (Nat → Int32) × (Nat → Int32) × (Nat → Int32) × (Nat → Int32) × (Nat → Int32) × (Nat → Int32) × (Nat → Int32) × Int32 × Int32 × Int32} (hf : mo_kernel me rg so sv tl su qu wa ru sp = some z) : co_v l my_M_kernel mb_M_kernel 7 rm_m_kernel D (ty_ cI cT) [.ref h0] (mw_ h0 h1 h2 h3 h4 h5 h6 h7 cI me rg so sv tl su qu wa ru pe re pn lo se pa sp iv) (mw_ h0 h1 h2 h3 h4 h5 h6 h7 cI z.1 z.2.1 z.2.2.1 z.2.2.2.1 z.2.2.2.2.1 z.2.2.2.2.2.1 z.2.2.2.2.2.2.1 z.2.2.2.2.2.2.2.1 z.2.2.2.2.2.2.2.2.1 pe re pn lo se pa z.2.2.2.2.2.2.2.2.2 iv) := by
  refine co_v_of (by decide) (Nat.le_of_ble_eq_true rfl) ?_
  intro p e s m below meth c A ls X hr hlk hK hP hD hS hA hl
  have hx := X.1
  have hb := X.2.1
  have hl : lv_has ls 7 [(0, .ref h0)] := hl
  have J228 : ∀ (v2 : Int32) (me : Nat → Int32) (rg : Nat → Int32) (so : Nat → Int32) (sv : Nat → Int32) (tl : Nat → Int32) (su : Nat → Int32) (qu : Nat → Int32) (wa : Int32) (ru : Int32) (sp : Int32), mo_kernel_j228 v2 me rg so sv tl su qu wa ru sp = some z → ∀ (H : Heap) (locs : List Loc) (ls : Array Slot), lv_has ls 7 [(0, .ref h0), (2, .int v2)] → va_P D cz_all (mw_ h0 h1 h2 h3 h4 h5 h6 h7 cI me rg so sv tl su qu wa ru pe re pn lo se pa sp iv) H → va_D A (mw_ h0 h1 h2 h3 h4 h5 h6 h7 cI me rg so sv tl su qu wa ru pe re pn lo se pa sp iv) → va_S A s.heap H locs → W p l e rm_m_kernel s m ([.ref h0] : List Value).toArray below meth c H locs 0 0 (MQ below (qs_v D (ty_ cI cT) (mw_ h0 h1 h2 h3 h4 h5 h6 h7 cI z.1 z.2.1 z.2.2.1 z.2.2.2.1 z.2.2.2.2.1 z.2.2.2.2.2.1 z.2.2.2.2.2.2.1 z.2.2.2.2.2.2.2.1 z.2.2.2.2.2.2.2.2.1 pe re pn lo se pa z.2.2.2.2.2.2.2.2.2 iv) A) ([.ref h0] : List Value).toArray s 0 0 A) (F0 m 228 ls []) := by
    intro v2 me rg so sv tl su qu wa ru sp hf H locs ls hl hP hD hS
    unfold mo_kernel_j228 at hf
    refine lv_aload_n hx hb d_M_kernel_228 rfl (lv_at hl 0 rfl) ?_
    refine lv_iload_n hx hb d_M_kernel_229 rfl (lv_at hl 1 rfl) ?_
    obtain ⟨z21, hz21, hf⟩ := op_b hf
    refine cl_v X cw_M_176 hK hP hD hS hA hl (c_mo_take hz21) ⟨rfl, rfl, Nat.le_of_ble_eq_true rfl, Nat.le_of_ble_eq_true rfl⟩ 0 rfl rfl rfl rfl rfl (Nat.le_of_ble_eq_true rfl) d_M_kernel_230 (fun H locs hP hD hS => ?_)
    have hq := Option.some.inj hf
    subst hq
    exact rt_v X hr hlk hK hP hD hS d_M_kernel_233
  have J224 : ∀ (v2 : Int32) (s0 : Int32) (s2 : Int32) (me : Nat → Int32) (rg : Nat → Int32) (so : Nat → Int32) (sv : Nat → Int32) (tl : Nat → Int32) (su : Nat → Int32) (qu : Nat → Int32) (wa : Int32) (ru : Int32) (sp : Int32), mo_kernel_j224 v2 s0 s2 me rg so sv tl su qu wa ru sp = some z → ∀ (H : Heap) (locs : List Loc) (ls : Array Slot), lv_has ls 7 [(0, .ref h0), (2, .int v2)] → va_P D cz_all (mw_ h0 h1 h2 h3 h4 h5 h6 h7 cI me rg so sv tl su qu wa ru pe re pn lo se pa sp iv) H → va_D A (mw_ h0 h1 h2 h3 h4 h5 h6 h7 cI me rg so sv tl su qu wa ru pe re pn lo se pa sp iv) → va_S A s.heap H locs → W p l e rm_m_kernel s m ([.ref h0] : List Value).toArray below meth c H locs 0 0 (MQ below (qs_v D (ty_ cI cT) (mw_ h0 h1 h2 h3 h4 h5 h6 h7 cI z.1 z.2.1 z.2.2.1 z.2.2.2.1 z.2.2.2.2.1 z.2.2.2.2.2.1 z.2.2.2.2.2.2.1 z.2.2.2.2.2.2.2.1 z.2.2.2.2.2.2.2.2.1 pe re pn lo se pa z.2.2.2.2.2.2.2.2.2 iv) A) ([.ref h0] : List Value).toArray s 0 0 A) (F0 m 224 ls [.int s0, .int (9 : Int32), .int s2, .ref h0]) := by
    intro v2 s0 s2 me rg so sv tl su qu wa ru sp hf H locs ls hl hP hD hS
    unfold mo_kernel_j224 at hf
    refine lv_iconst (v := (1 : Int32)) hx hb d_M_kernel_224 (by decide) ?_
    obtain ⟨z22, hz22, hf⟩ := op_b hf
    refine cl_v X cw_M_188 hK hP hD hS hA hl (c_mo_answer hz22) ⟨rfl, rfl, Nat.le_of_ble_eq_true rfl, Nat.le_of_ble_eq_true rfl⟩ 0 rfl rfl rfl rfl rfl (Nat.le_of_ble_eq_true rfl) d_M_kernel_225 (fun H locs hP hD hS => ?_)
    exact J228 v2 z22 rg so sv tl su qu wa ru sp hf _ _ _ hl hP hD hS
  have J210 : ∀ (v1 : Int32) (v2 : Int32) (me : Nat → Int32) (rg : Nat → Int32) (so : Nat → Int32) (sv : Nat → Int32) (tl : Nat → Int32) (su : Nat → Int32) (qu : Nat → Int32) (wa : Int32) (ru : Int32) (sp : Int32), mo_kernel_j210 v1 v2 me rg so sv tl su qu wa ru sp = some z → ∀ (H : Heap) (locs : List Loc) (ls : Array Slot), lv_has ls 7 [(0, .ref h0), (1, .int v1), (2, .int v2)] → va_P D cz_all (mw_ h0 h1 h2 h3 h4 h5 h6 h7 cI me rg so sv tl su qu wa ru pe re pn lo se pa sp iv) H → va_D A (mw_ h0 h1 h2 h3 h4 h5 h6 h7 cI me rg so sv tl su qu wa ru pe re pn lo se pa sp iv) → va_S A s.heap H locs → W p l e rm_m_kernel s m ([.ref h0] : List Value).toArray below meth c H locs 0 0 (MQ below (qs_v D (ty_ cI cT) (mw_ h0 h1 h2 h3 h4 h5 h6 h7 cI z.1 z.2.1 z.2.2.1 z.2.2.2.1 z.2.2.2.2.1 z.2.2.2.2.2.1 z.2.2.2.2.2.2.1 z.2.2.2.2.2.2.2.1 z.2.2.2.2.2.2.2.2.1 pe re pn lo se pa z.2.2.2.2.2.2.2.2.2 iv) A) ([.ref h0] : List Value).toArray s 0 0 A) (F0 m 210 ls []) := by
    intro v1 v2 me rg so sv tl su qu wa ru sp hf H locs ls hl hP hD hS
    unfold mo_kernel_j210 at hf
    refine lv_aload_n hx hb d_M_kernel_210 rfl (lv_at hl 0 rfl) ?_
    refine lv_iload_n hx hb d_M_kernel_211 rfl (lv_at hl 2 rfl) ?_
    refine lv_bipush (v := (9 : Int32)) hx hb d_M_kernel_212 (by decide) ?_
    refine lv_iload_n hx hb d_M_kernel_214 rfl (lv_at hl 1 rfl) ?_
    refine lv_iconst (v := (1 : Int32)) hx hb d_M_kernel_215 (by decide) ?_
    refine lv_icmp_ne (tgt := 223) hx hb d_M_kernel_216 (by decide) (fun hc => ?_) (fun hc => ?_)
    · replace hf := (if_neg hc).symm.trans hf
      refine lv_iconst (v := (2 : Int32)) hx hb d_M_kernel_223 (by decide) ?_
      exact J224 v2 (2 : Int32) v2 me rg so sv tl su qu wa ru sp hf _ _ _ (lv_sub hl [0, 2] rfl) hP hD hS
    · replace hf := (if_pos hc).symm.trans hf
      refine lv_iconst (v := (1 : Int32)) hx hb d_M_kernel_219 (by decide) ?_
      refine lv_goto (tgt := 224) hx hb d_M_kernel_220 (by decide) ?_
      exact J224 v2 (1 : Int32) v2 me rg so sv tl su qu wa ru sp hf _ _ _ (lv_sub hl [0, 2] rfl) hP hD hS
  have L142 : ∀ (n_ : Nat) (v2 : Int32) (v3 : Int32) (v4 : Int32) (v5 : Int32) (v6 : Int32) (me : Nat → Int32) (rg : Nat → Int32) (so : Nat → Int32) (sv : Nat → Int32) (tl : Nat → Int32) (su : Nat → Int32) (qu : Nat → Int32) (wa : Int32) (ru : Int32) (sp : Int32), mo_kernel_l142 n_ v2 v3 v4 v5 v6 me rg so sv tl su qu wa ru sp = some z → ∀ (H : Heap) (locs : List Loc) (ls : Array Slot), lv_has ls 7 [(0, .ref h0), (2, .int v2), (3, .int v3), (4, .int v4), (5, .int v5), (6, .int v6)] → va_P D cz_all (mw_ h0 h1 h2 h3 h4 h5 h6 h7 cI me rg so sv tl su qu wa ru pe re pn lo se pa sp iv) H → va_D A (mw_ h0 h1 h2 h3 h4 h5 h6 h7 cI me rg so sv tl su qu wa ru pe re pn lo se pa sp iv) → va_S A s.heap H locs → W p l e rm_m_kernel s m ([.ref h0] : List Value).toArray below meth c H locs 0 0 (MQ below (qs_v D (ty_ cI cT) (mw_ h0 h1 h2 h3 h4 h5 h6 h7 cI z.1 z.2.1 z.2.2.1 z.2.2.2.1 z.2.2.2.2.1 z.2.2.2.2.2.1 z.2.2.2.2.2.2.1 z.2.2.2.2.2.2.2.1 z.2.2.2.2.2.2.2.2.1 pe re pn lo se pa z.2.2.2.2.2.2.2.2.2 iv) A) ([.ref h0] : List Value).toArray s 0 0 A) (F0 m 142 ls []) := by
    intro n_
    induction n_ with
    | zero => intro v2 v3 v4 v5 v6 me rg so sv tl su qu wa ru sp hf; cases hf
    | succ n_ ih =>
      intro v2 v3 v4 v5 v6 me rg so sv tl su qu wa ru sp hf H locs ls hl hP hD hS
      replace hf := (mo_kernel_l142_s n_ v2 v3 v4 v5 v6 me rg so sv tl su qu wa ru sp).symm.trans hf
      refine lv_iload hx hb d_M_kernel_142 (lv_at hl 5 rfl) ?_
      refine lv_sipush (v := (128 : Int32)) hx hb d_M_kernel_144 (by decide) ?_
      refine lv_icmp_ge (tgt := 181) hx hb d_M_kernel_147 (by decide) (fun hc => ?_) (fun hc => ?_)
      · replace hf := (if_pos hc).symm.trans hf
        refine lv_aload_n hx hb d_M_kernel_181 rfl (lv_at hl 0 rfl) ?_
        refine lv_iload hx hb d_M_kernel_182 (lv_at hl 4 rfl) ?_
        refine lv_sipush (v := (128 : Int32)) hx hb d_M_kernel_184 (by decide) ?_
        refine lv_iload hx hb d_M_kernel_187 (lv_at hl 4 rfl) ?_
        refine lv_imul hx hb d_M_kernel_189 ?_
        refine lv_iload_n hx hb d_M_kernel_190 rfl (lv_at hl 2 rfl) ?_
        refine lv_iadd hx hb d_M_kernel_191 ?_
        refine lv_iload hx hb d_M_kernel_192 (lv_at hl 3 rfl) ?_
        obtain ⟨z23, hz23, hf⟩ := op_b hf
        refine cl_v X cw_M_192 hK hP hD hS hA hl (c_mo_begin hz23) ⟨rfl, rfl, Nat.le_of_ble_eq_true rfl, Nat.le_of_ble_eq_true rfl⟩ 0 rfl rfl rfl rfl rfl (Nat.le_of_ble_eq_true rfl) d_M_kernel_194 (fun H locs hP hD hS => ?_)
        refine lv_aload_n hx hb d_M_kernel_197 rfl (lv_at hl 0 rfl) ?_
        refine lv_iload_n hx hb d_M_kernel_198 rfl (lv_at hl 1 rfl) ?_
        refine lv_bipush (v := (8 : Int32)) hx hb d_M_kernel_199 (by decide) ?_
        refine lv_iload hx hb d_M_kernel_201 (lv_at hl 4 rfl) ?_
        refine lv_iconst (v := (0 : Int32)) hx hb d_M_kernel_203 (by decide) ?_
        obtain ⟨z24, hz24, hf⟩ := op_b hf
        refine cl_v X cw_M_188 hK hP hD hS hA hl (c_mo_answer hz24) ⟨rfl, rfl, Nat.le_of_ble_eq_true rfl, Nat.le_of_ble_eq_true rfl⟩ 0 rfl rfl rfl rfl rfl (Nat.le_of_ble_eq_true rfl) d_M_kernel_204 (fun H locs hP hD hS => ?_)
        refine lv_goto (tgt := 228) hx hb d_M_kernel_207 (by decide) ?_
        exact J228 v2 z24 rg z23.2.1 z23.2.2.1 tl su z23.2.2.2.1 z23.2.2.2.2 ru sp hf _ _ _ (lv_sub hl [0, 1] rfl) hP hD hS
      · replace hf := (if_neg hc).symm.trans hf
        refine lv_aload_n hx hb d_M_kernel_150 rfl (lv_at hl 0 rfl) ?_
        refine lv_sipush (v := (128 : Int32)) hx hb d_M_kernel_151 (by decide) ?_
        refine lv_iload hx hb d_M_kernel_154 (lv_at hl 4 rfl) ?_
        refine lv_imul hx hb d_M_kernel_156 ?_
        refine lv_iload hx hb d_M_kernel_157 (lv_at hl 5 rfl) ?_
        refine lv_iadd hx hb d_M_kernel_159 ?_
        refine lv_aload_n hx hb d_M_kernel_160 rfl (lv_at hl 0 rfl) ?_
        refine lv_sipush (v := (128 : Int32)) hx hb d_M_kernel_161 (by decide) ?_
        refine lv_iload_n hx hb d_M_kernel_164 rfl (lv_at hl 1 rfl) ?_
        refine lv_imul hx hb d_M_kernel_165 ?_
        refine lv_iload hx hb d_M_kernel_166 (lv_at hl 5 rfl) ?_
        refine lv_iadd hx hb d_M_kernel_168 ?_
        obtain ⟨z25, hz25, hf⟩ := op_b hf
        refine cl_i X cw_M_39 hK hP hD hS hA hl (c_mo_at hz25) ⟨rfl, rfl, Nat.le_of_ble_eq_true rfl, Nat.le_of_ble_eq_true rfl⟩ 0 rfl rfl rfl rfl rfl (Nat.le_of_ble_eq_true rfl) d_M_kernel_169 (fun H locs hP hD hS => ?_)
        obtain ⟨z26, hz26, hf⟩ := op_b hf
        refine cl_v X cw_M_43 hK hP hD hS hA hl (c_mo_put hz26) ⟨rfl, rfl, Nat.le_of_ble_eq_true rfl, Nat.le_of_ble_eq_true rfl⟩ 0 rfl rfl rfl rfl rfl (Nat.le_of_ble_eq_true rfl) d_M_kernel_172 (fun H locs hP hD hS => ?_)
        refine lv_iinc (k := 5) hx hb d_M_kernel_175 hl rfl rfl (by decide) rfl (fun ls hl => ?_)
        have hl : lv_has ls 7 [(6, .int (v6 + Int32.ofInt 1)), (0, .ref h0), (2, .int v2), (3, .int v3), (4, .int v4), (5, .int v5)] := hl
        refine lv_goto (tgt := 142) hx hb d_M_kernel_178 (by decide) ?_
        exact ih v2 v3 v4 v5 (v6 + Int32.ofInt 1) z26 rg so sv tl su qu wa ru sp hf _ _ _ (lv_sub hl [1, 2, 3, 4, 5, 0] rfl) hP hD hS
  have J104 : ∀ (v1 : Int32) (v2 : Int32) (v3 : Int32) (v4 : Int32) (v5 : Int32) (me : Nat → Int32) (rg : Nat → Int32) (so : Nat → Int32) (sv : Nat → Int32) (tl : Nat → Int32) (su : Nat → Int32) (qu : Nat → Int32) (wa : Int32) (ru : Int32) (sp : Int32), mo_kernel_j104 v1 v2 v3 v4 v5 me rg so sv tl su qu wa ru sp = some z → ∀ (H : Heap) (locs : List Loc) (ls : Array Slot), lv_has ls 7 [(0, .ref h0), (1, .int v1), (2, .int v2), (3, .int v3), (4, .int v4), (5, .int v5)] → va_P D cz_all (mw_ h0 h1 h2 h3 h4 h5 h6 h7 cI me rg so sv tl su qu wa ru pe re pn lo se pa sp iv) H → va_D A (mw_ h0 h1 h2 h3 h4 h5 h6 h7 cI me rg so sv tl su qu wa ru pe re pn lo se pa sp iv) → va_S A s.heap H locs → W p l e rm_m_kernel s m ([.ref h0] : List Value).toArray below meth c H locs 0 0 (MQ below (qs_v D (ty_ cI cT) (mw_ h0 h1 h2 h3 h4 h5 h6 h7 cI z.1 z.2.1 z.2.2.1 z.2.2.2.1 z.2.2.2.2.1 z.2.2.2.2.2.1 z.2.2.2.2.2.2.1 z.2.2.2.2.2.2.2.1 z.2.2.2.2.2.2.2.2.1 pe re pn lo se pa z.2.2.2.2.2.2.2.2.2 iv) A) ([.ref h0] : List Value).toArray s 0 0 A) (F0 m 104 ls []) := by
    intro v1 v2 v3 v4 v5 me rg so sv tl su qu wa ru sp hf H locs ls hl hP hD hS
    unfold mo_kernel_j104 at hf
    refine lv_iload_n hx hb d_M_kernel_104 rfl (lv_at hl 1 rfl) ?_
    refine lv_iconst (v := (4 : Int32)) hx hb d_M_kernel_105 (by decide) ?_
    refine lv_icmp_ne (tgt := 121) hx hb d_M_kernel_106 (by decide) (fun hc => ?_) (fun hc => ?_)
    · replace hf := (if_neg hc).symm.trans hf
      refine lv_iload_n hx hb d_M_kernel_121 rfl (lv_at hl 1 rfl) ?_
      refine lv_iconst (v := (1 : Int32)) hx hb d_M_kernel_122 (by decide) ?_
      refine lv_icmp_ne (tgt := 210) hx hb d_M_kernel_123 (by decide) (fun hc => ?_) (fun hc => ?_)
      · replace hf := (if_neg hc).symm.trans hf
        exact J210 v1 v2 me rg so sv tl su qu wa ru sp hf _ _ _ (lv_sub hl [0, 1, 2] rfl) hP hD hS
      · replace hf := (if_pos hc).symm.trans hf
        refine lv_iload hx hb d_M_kernel_126 (lv_at hl 5 rfl) ?_
        refine lv_iconst (v := (4 : Int32)) hx hb d_M_kernel_128 (by decide) ?_
        refine lv_icmp_ge (tgt := 210) hx hb d_M_kernel_129 (by decide) (fun hc => ?_) (fun hc => ?_)
        · replace hf := (if_pos hc).symm.trans hf
          exact J210 v1 v2 me rg so sv tl su qu wa ru sp hf _ _ _ (lv_sub hl [0, 1, 2] rfl) hP hD hS
        · replace hf := (if_neg hc).symm.trans hf
          refine lv_iload_n hx hb d_M_kernel_132 rfl (lv_at hl 3 rfl) ?_
          refine lv_sipush (v := (128 : Int32)) hx hb d_M_kernel_133 (by decide) ?_
          refine lv_icmp_ge (tgt := 210) hx hb d_M_kernel_136 (by decide) (fun hc => ?_) (fun hc => ?_)
          · replace hf := (if_pos hc).symm.trans hf
            exact J210 v1 v2 me rg so sv tl su qu wa ru sp hf _ _ _ (lv_sub hl [0, 1, 2] rfl) hP hD hS
          · replace hf := (if_neg hc).symm.trans hf
            refine lv_iconst (v := (0 : Int32)) hx hb d_M_kernel_139 (by decide) ?_
            refine lv_istore hx hb d_M_kernel_140 hl (by decide) rfl (fun ls hl => ?_)
            have hl : lv_has ls 7 [(6, .int (0 : Int32)), (0, .ref h0), (1, .int v1), (2, .int v2), (3, .int v3), (4, .int v4), (5, .int v5)] := hl
            exact L142 129 v2 v3 v4 v5 (0 : Int32) me rg so sv tl su qu wa ru sp hf _ _ _ (lv_sub hl [1, 3, 4, 5, 6, 0] rfl) hP hD hS
    · replace hf := (if_pos hc).symm.trans hf
      refine lv_aload_n hx hb d_M_kernel_109 rfl (lv_at hl 0 rfl) ?_
      refine lv_iload_n hx hb d_M_kernel_110 rfl (lv_at hl 2 rfl) ?_
      refine lv_bipush (v := (8 : Int32)) hx hb d_M_kernel_111 (by decide) ?_
      refine lv_iload_n hx hb d_M_kernel_113 rfl (lv_at hl 2 rfl) ?_
      refine lv_iconst (v := (0 : Int32)) hx hb d_M_kernel_114 (by decide) ?_
      obtain ⟨z27, hz27, hf⟩ := op_b hf
      refine cl_v X cw_M_188 hK hP hD hS hA hl (c_mo_answer hz27) ⟨rfl, rfl, Nat.le_of_ble_eq_true rfl, Nat.le_of_ble_eq_true rfl⟩ 0 rfl rfl rfl rfl rfl (Nat.le_of_ble_eq_true rfl) d_M_kernel_115 (fun H locs hP hD hS => ?_)
      refine lv_goto (tgt := 228) hx hb d_M_kernel_118 (by decide) ?_
      exact J228 v2 z27 rg so sv tl su qu wa ru sp hf _ _ _ (lv_sub hl [0, 2] rfl) hP hD hS
  have L82 : ∀ (n_ : Nat) (v1 : Int32) (v2 : Int32) (v3 : Int32) (v4 : Int32) (v5 : Int32) (me : Nat → Int32) (rg : Nat → Int32) (so : Nat → Int32) (sv : Nat → Int32) (tl : Nat → Int32) (su : Nat → Int32) (qu : Nat → Int32) (wa : Int32) (ru : Int32) (sp : Int32), mo_kernel_l82 n_ v1 v2 v3 v4 v5 me rg so sv tl su qu wa ru sp = some z → ∀ (H : Heap) (locs : List Loc) (ls : Array Slot), lv_has ls 7 [(0, .ref h0), (1, .int v1), (2, .int v2), (3, .int v3), (4, .int v4), (5, .int v5)] → va_P D cz_all (mw_ h0 h1 h2 h3 h4 h5 h6 h7 cI me rg so sv tl su qu wa ru pe re pn lo se pa sp iv) H → va_D A (mw_ h0 h1 h2 h3 h4 h5 h6 h7 cI me rg so sv tl su qu wa ru pe re pn lo se pa sp iv) → va_S A s.heap H locs → W p l e rm_m_kernel s m ([.ref h0] : List Value).toArray below meth c H locs 0 0 (MQ below (qs_v D (ty_ cI cT) (mw_ h0 h1 h2 h3 h4 h5 h6 h7 cI z.1 z.2.1 z.2.2.1 z.2.2.2.1 z.2.2.2.2.1 z.2.2.2.2.2.1 z.2.2.2.2.2.2.1 z.2.2.2.2.2.2.2.1 z.2.2.2.2.2.2.2.2.1 pe re pn lo se pa z.2.2.2.2.2.2.2.2.2 iv) A) ([.ref h0] : List Value).toArray s 0 0 A) (F0 m 82 ls []) := by
    intro n_
    induction n_ with
    | zero => intro v1 v2 v3 v4 v5 me rg so sv tl su qu wa ru sp hf; cases hf
    | succ n_ ih =>
      intro v1 v2 v3 v4 v5 me rg so sv tl su qu wa ru sp hf H locs ls hl hP hD hS
      replace hf := (mo_kernel_l82_s n_ v1 v2 v3 v4 v5 me rg so sv tl su qu wa ru sp).symm.trans hf
      refine lv_iload hx hb d_M_kernel_82 (lv_at hl 5 rfl) ?_
      refine lv_iconst (v := (4 : Int32)) hx hb d_M_kernel_84 (by decide) ?_
      refine lv_icmp_ge (tgt := 104) hx hb d_M_kernel_85 (by decide) (fun hc => ?_) (fun hc => ?_)
      · replace hf := (if_pos hc).symm.trans hf
        exact J104 v1 v2 v3 v4 v5 me rg so sv tl su qu wa ru sp hf _ _ _ hl hP hD hS
      · replace hf := (if_neg hc).symm.trans hf
        refine lv_aload_n hx hb d_M_kernel_88 rfl (lv_at hl 0 rfl) ?_
        refine mg_stateOf X hK hP d_M_kernel_89 ?_
        refine lv_iload hx hb d_M_kernel_92 (lv_at hl 5 rfl) ?_
        obtain ⟨hi28, hf⟩ := op_c hf
        refine ma_so (k := (v5.toNatClampNeg)) X hK hP hi28 rfl d_M_kernel_94 ?_
        refine lv_if_eq (tgt := 104) hx hb d_M_kernel_95 (by decide) (fun hc => ?_) (fun hc => ?_)
        · replace hf := (if_pos hc).symm.trans hf
          exact J104 v1 v2 v3 v4 v5 me rg so sv tl su qu wa ru sp hf _ _ _ hl hP hD hS
        · replace hf := (if_neg hc).symm.trans hf
          refine lv_iinc (k := 5) hx hb d_M_kernel_98 hl rfl rfl (by decide) rfl (fun ls hl => ?_)
          have hl : lv_has ls 7 [(5, .int (v5 + Int32.ofInt 1)), (0, .ref h0), (1, .int v1), (2, .int v2), (3, .int v3), (4, .int v4)] := hl
          refine lv_goto (tgt := 82) hx hb d_M_kernel_101 (by decide) ?_
          exact ih v1 v2 v3 v4 (v5 + Int32.ofInt 1) me rg so sv tl su qu wa ru sp hf _ _ _ (lv_sub hl [1, 2, 3, 4, 5, 0] rfl) hP hD hS
  have J74 : ∀ (me : Nat → Int32) (rg : Nat → Int32) (so : Nat → Int32) (sv : Nat → Int32) (tl : Nat → Int32) (su : Nat → Int32) (qu : Nat → Int32) (wa : Int32) (ru : Int32) (sp : Int32), mo_kernel_j74 me rg so sv tl su qu wa ru sp = some z → ∀ (H : Heap) (locs : List Loc) (ls : Array Slot), lv_has ls 7 [(0, .ref h0)] → va_P D cz_all (mw_ h0 h1 h2 h3 h4 h5 h6 h7 cI me rg so sv tl su qu wa ru pe re pn lo se pa sp iv) H → va_D A (mw_ h0 h1 h2 h3 h4 h5 h6 h7 cI me rg so sv tl su qu wa ru pe re pn lo se pa sp iv) → va_S A s.heap H locs → W p l e rm_m_kernel s m ([.ref h0] : List Value).toArray below meth c H locs 0 0 (MQ below (qs_v D (ty_ cI cT) (mw_ h0 h1 h2 h3 h4 h5 h6 h7 cI z.1 z.2.1 z.2.2.1 z.2.2.2.1 z.2.2.2.2.1 z.2.2.2.2.2.1 z.2.2.2.2.2.2.1 z.2.2.2.2.2.2.2.1 z.2.2.2.2.2.2.2.2.1 pe re pn lo se pa z.2.2.2.2.2.2.2.2.2 iv) A) ([.ref h0] : List Value).toArray s 0 0 A) (F0 m 74 ls []) := by
    intro me rg so sv tl su qu wa ru sp hf H locs ls hl hP hD hS
    unfold mo_kernel_j74 at hf
    refine lv_aload_n hx hb d_M_kernel_74 rfl (lv_at hl 0 rfl) ?_
    obtain ⟨z29, hz29, hf⟩ := op_b hf
    refine cl_v X cw_M_179 hK hP hD hS hA hl (c_mo_next hz29) ⟨rfl, rfl, Nat.le_of_ble_eq_true rfl, Nat.le_of_ble_eq_true rfl⟩ 0 rfl rfl rfl rfl rfl (Nat.le_of_ble_eq_true rfl) d_M_kernel_75 (fun H locs hP hD hS => ?_)
    have hq := Option.some.inj hf
    subst hq
    exact rt_v X hr hlk hK hP hD hS d_M_kernel_78
  unfold mo_kernel at hf
  refine lv_aload_n hx hb d_M_kernel_0 rfl (lv_at hl 0 rfl) ?_
  obtain ⟨z30, hz30, hf⟩ := op_b hf
  refine cl_i X cw_M_54 hK hP hD hS hA hl (c_mo_fetch hz30) ⟨rfl, rfl, Nat.le_of_ble_eq_true rfl, Nat.le_of_ble_eq_true rfl⟩ 0 rfl rfl rfl rfl rfl (Nat.le_of_ble_eq_true rfl) d_M_kernel_1 (fun H locs hP hD hS => ?_)
  refine lv_istore_n hx hb d_M_kernel_4 rfl hl (by decide) rfl (fun ls hl => ?_)
  have hl : lv_has ls 7 [(1, .int z30.1), (0, .ref h0)] := hl
  refine lv_aload_n hx hb d_M_kernel_5 rfl (lv_at hl 1 rfl) ?_
  refine mg_running X hK hP d_M_kernel_6 ?_
  refine lv_istore_n hx hb d_M_kernel_9 rfl hl (by decide) rfl (fun ls hl => ?_)
  have hl : lv_has ls 7 [(2, .int ru), (1, .int z30.1), (0, .ref h0)] := hl
  refine lv_aload_n hx hb d_M_kernel_10 rfl (lv_at hl 2 rfl) ?_
  refine mg_reg X hK hP d_M_kernel_11 ?_
  refine lv_iconst (v := (1 : Int32)) hx hb d_M_kernel_14 (by decide) ?_
  refine ma_rg (k := 1) X hK hP (in_b_vp (by decide)) (by decide) d_M_kernel_15 ?_
  refine lv_istore_n hx hb d_M_kernel_16 rfl hl (by decide) rfl (fun ls hl => ?_)
  have hl : lv_has ls 7 [(3, .int (z30.2.1 1)), (2, .int ru), (1, .int z30.1), (0, .ref h0)] := hl
  refine lv_aload_n hx hb d_M_kernel_17 rfl (lv_at hl 3 rfl) ?_
  refine mg_reg X hK hP d_M_kernel_18 ?_
  refine lv_bipush (v := (8 : Int32)) hx hb d_M_kernel_21 (by decide) ?_
  refine ma_rg (k := 8) X hK hP (in_b_vp (by decide)) (by decide) d_M_kernel_23 ?_
  refine lv_istore hx hb d_M_kernel_24 hl (by decide) rfl (fun ls hl => ?_)
  have hl : lv_has ls 7 [(4, .int (z30.2.1 8)), (3, .int (z30.2.1 1)), (2, .int ru), (1, .int z30.1), (0, .ref h0)] := hl
  refine lv_aload_n hx hb d_M_kernel_26 rfl (lv_at hl 4 rfl) ?_
  obtain ⟨z31, hz31, hf⟩ := op_b hf
  refine cl_v X cw_M_185 hK hP hD hS hA hl (c_mo_stack hz31) ⟨rfl, rfl, Nat.le_of_ble_eq_true rfl, Nat.le_of_ble_eq_true rfl⟩ 0 rfl rfl rfl rfl rfl (Nat.le_of_ble_eq_true rfl) d_M_kernel_27 (fun H locs hP hD hS => ?_)
  refine lv_iload_n hx hb d_M_kernel_30 rfl (lv_at hl 3 rfl) ?_
  refine lv_iconst (v := (3 : Int32)) hx hb d_M_kernel_31 (by decide) ?_
  refine lv_icmp_ne (tgt := 43) hx hb d_M_kernel_32 (by decide) (fun hc => ?_) (fun hc => ?_)
  · replace hf := (if_neg hc).symm.trans hf
    refine lv_iload_n hx hb d_M_kernel_43 rfl (lv_at hl 3 rfl) ?_
    refine lv_iconst (v := (2 : Int32)) hx hb d_M_kernel_44 (by decide) ?_
    refine lv_icmp_ne (tgt := 79) hx hb d_M_kernel_45 (by decide) (fun hc => ?_) (fun hc => ?_)
    · replace hf := (if_neg hc).symm.trans hf
      refine lv_iconst (v := (0 : Int32)) hx hb d_M_kernel_79 (by decide) ?_
      refine lv_istore hx hb d_M_kernel_80 hl (by decide) rfl (fun ls hl => ?_)
      have hl : lv_has ls 7 [(5, .int (0 : Int32)), (4, .int (z30.2.1 8)), (3, .int (z30.2.1 1)), (2, .int ru), (1, .int z30.1), (0, .ref h0)] := hl
      exact L82 5 z30.1 ru (z30.2.1 1) (z30.2.1 8) (0 : Int32) z31.1 z31.2.1 so z31.2.2.1 tl su qu wa z31.2.2.2.1 z31.2.2.2.2 hf _ _ _ (lv_sub hl [5, 4, 3, 2, 1, 0] rfl) hP hD hS
    · replace hf := (if_pos hc).symm.trans hf
      refine lv_aload_n hx hb d_M_kernel_48 rfl (lv_at hl 4 rfl) ?_
      refine mg_toSleep X hK hP d_M_kernel_49 ?_
      refine lv_iload_n hx hb d_M_kernel_52 rfl (lv_at hl 2 rfl) ?_
      refine lv_iload_n hx hb d_M_kernel_53 rfl (lv_at hl 1 rfl) ?_
      obtain ⟨hi32, hf⟩ := op_c hf
      refine ms_tl (k := (ru.toNatClampNeg)) X hK hP hD hS hi32 rfl d_M_kernel_54 (fun H locs hP hD hS => ?_)
      refine lv_iload_n hx hb d_M_kernel_55 rfl (lv_at hl 1 rfl) ?_
      refine lv_if_ne (tgt := 67) hx hb d_M_kernel_56 (by decide) (fun hc => ?_) (fun hc => ?_)
      · replace hf := (if_neg hc).symm.trans hf
        refine lv_aload_n hx hb d_M_kernel_67 rfl (lv_at hl 4 rfl) ?_
        refine mg_stateOf X hK hP d_M_kernel_68 ?_
        refine lv_iload_n hx hb d_M_kernel_71 rfl (lv_at hl 2 rfl) ?_
        refine lv_iconst (v := (3 : Int32)) hx hb d_M_kernel_72 (by decide) ?_
        refine ms_so (k := (ru.toNatClampNeg)) X hK hP hD hS hi32 rfl d_M_kernel_73 (fun H locs hP hD hS => ?_)
        exact J74 z31.1 z31.2.1 (upd so (ru.toNatClampNeg) (3 : Int32)) z31.2.2.1 (upd tl (ru.toNatClampNeg) (z30.2.1 1)) su qu wa z31.2.2.2.1 z31.2.2.2.2 hf _ _ _ (lv_sub hl [4] rfl) hP hD hS
      · replace hf := (if_pos hc).symm.trans hf
        refine lv_aload_n hx hb d_M_kernel_59 rfl (lv_at hl 4 rfl) ?_
        refine lv_iload_n hx hb d_M_kernel_60 rfl (lv_at hl 2 rfl) ?_
        obtain ⟨z33, hz33, hf⟩ := op_b hf
        refine cl_v X cw_M_182 hK hP hD hS hA hl (c_mo_comeLast hz33) ⟨rfl, rfl, Nat.le_of_ble_eq_true rfl, Nat.le_of_ble_eq_true rfl⟩ 0 rfl rfl rfl rfl rfl (Nat.le_of_ble_eq_true rfl) d_M_kernel_61 (fun H locs hP hD hS => ?_)
        refine lv_goto (tgt := 74) hx hb d_M_kernel_64 (by decide) ?_
        exact J74 z31.1 z31.2.1 z33.1 z31.2.2.1 (upd tl (ru.toNatClampNeg) (z30.2.1 1)) su z33.2.1 z33.2.2 z31.2.2.2.1 z31.2.2.2.2 hf _ _ _ (lv_sub hl [4] rfl) hP hD hS
  · replace hf := (if_pos hc).symm.trans hf
    refine lv_aload_n hx hb d_M_kernel_35 rfl (lv_at hl 4 rfl) ?_
    refine lv_iload_n hx hb d_M_kernel_36 rfl (lv_at hl 2 rfl) ?_
    refine lv_iload hx hb d_M_kernel_37 (lv_at hl 0 rfl) ?_
    obtain ⟨z34, hz34, hf⟩ := op_b hf
    refine cl_v X cw_M_164 hK hP hD hS hA hl (c_mo_end hz34) ⟨rfl, rfl, Nat.le_of_ble_eq_true rfl, Nat.le_of_ble_eq_true rfl⟩ 0 rfl rfl rfl rfl rfl (Nat.le_of_ble_eq_true rfl) d_M_kernel_39 (fun H locs hP hD hS => ?_)
    have hq := Option.some.inj hf
    subst hq
    exact rt_v X hr hlk hK hP hD hS d_M_kernel_42
set_option maxHeartbeats 4000000 in
set_option maxRecDepth 100000 in
theorem c_mo_single {x1 : Int32} {z : (Nat → Int32) × (Nat → Int32) × (Nat → Int32) × (Nat → Int32) × (Nat → Int32) × (Nat → Int32) × (Nat → Int32) × Int32 × Int32 × Int32 × Bool} (hf : mo_single x1 me rg so sv tl su qu wa ru sp iv = some z) : co_v l my_M_single mb_M_single 4 rm_m_single D (ty_ cI cT) [.ref h0, .int x1] (mw_ h0 h1 h2 h3 h4 h5 h6 h7 cI me rg so sv tl su qu wa ru pe re pn lo se pa sp iv) (mw_ h0 h1 h2 h3 h4 h5 h6 h7 cI z.1 z.2.1 z.2.2.1 z.2.2.2.1 z.2.2.2.2.1 z.2.2.2.2.2.1 z.2.2.2.2.2.2.1 z.2.2.2.2.2.2.2.1 z.2.2.2.2.2.2.2.2.1 pe re pn lo se pa z.2.2.2.2.2.2.2.2.2.1 z.2.2.2.2.2.2.2.2.2.2) := by
  refine co_v_of (by decide) (Nat.le_of_ble_eq_true rfl) ?_
  intro p e s m below meth c A ls X hr hlk hK hP hD hS hA hl
  have hx := X.1
  have hb := X.2.1
  have hl : lv_has ls 4 [(0, .ref h0), (1, .int x1)] := hl
  have J329 : ∀ (s0 : Bool) (me : Nat → Int32) (rg : Nat → Int32) (so : Nat → Int32) (sv : Nat → Int32) (tl : Nat → Int32) (su : Nat → Int32) (qu : Nat → Int32) (wa : Int32) (ru : Int32) (sp : Int32) (iv : Bool), mo_single_j329 s0 me rg so sv tl su qu wa ru sp iv = some z → ∀ (H : Heap) (locs : List Loc) (ls : Array Slot), lv_has ls 4 [] → va_P D cz_all (mw_ h0 h1 h2 h3 h4 h5 h6 h7 cI me rg so sv tl su qu wa ru pe re pn lo se pa sp iv) H → va_D A (mw_ h0 h1 h2 h3 h4 h5 h6 h7 cI me rg so sv tl su qu wa ru pe re pn lo se pa sp iv) → va_S A s.heap H locs → W p l e rm_m_single s m ([.ref h0, .int x1] : List Value).toArray below meth c H locs 0 0 (MQ below (qs_v D (ty_ cI cT) (mw_ h0 h1 h2 h3 h4 h5 h6 h7 cI z.1 z.2.1 z.2.2.1 z.2.2.2.1 z.2.2.2.2.1 z.2.2.2.2.2.1 z.2.2.2.2.2.2.1 z.2.2.2.2.2.2.2.1 z.2.2.2.2.2.2.2.2.1 pe re pn lo se pa z.2.2.2.2.2.2.2.2.2.1 z.2.2.2.2.2.2.2.2.2.2) A) ([.ref h0, .int x1] : List Value).toArray s 0 0 A) (F0 m 329 ls [.int (bz_i s0), .int (1 : Int32), .ref h0]) := by
    intro s0 me rg so sv tl su qu wa ru sp iv hf H locs ls hl hP hD hS
    unfold mo_single_j329 at hf
    obtain ⟨z25, hz25, hf⟩ := op_b hf
    refine cl_v X cw_M_62 hK hP hD hS hA hl (c_mo_mark hz25) ⟨rfl, rfl, Nat.le_of_ble_eq_true rfl, Nat.le_of_ble_eq_true rfl⟩ 0 rfl rfl rfl rfl rfl (Nat.le_of_ble_eq_true rfl) d_M_single_329 (fun H locs hP hD hS => ?_)
    refine lv_goto (tgt := 353) hx hb d_M_single_332 (by decide) ?_
    have hq := Option.some.inj hf
    subst hq
    exact rt_v X hr hlk hK hP hD hS d_M_single_353
  have J307 : ∀ (s0 : Bool) (me : Nat → Int32) (rg : Nat → Int32) (so : Nat → Int32) (sv : Nat → Int32) (tl : Nat → Int32) (su : Nat → Int32) (qu : Nat → Int32) (wa : Int32) (ru : Int32) (sp : Int32) (iv : Bool), mo_single_j307 s0 me rg so sv tl su qu wa ru sp iv = some z → ∀ (H : Heap) (locs : List Loc) (ls : Array Slot), lv_has ls 4 [(0, .ref h0)] → va_P D cz_all (mw_ h0 h1 h2 h3 h4 h5 h6 h7 cI me rg so sv tl su qu wa ru pe re pn lo se pa sp iv) H → va_D A (mw_ h0 h1 h2 h3 h4 h5 h6 h7 cI me rg so sv tl su qu wa ru pe re pn lo se pa sp iv) → va_S A s.heap H locs → W p l e rm_m_single s m ([.ref h0, .int x1] : List Value).toArray below meth c H locs 0 0 (MQ below (qs_v D (ty_ cI cT) (mw_ h0 h1 h2 h3 h4 h5 h6 h7 cI z.1 z.2.1 z.2.2.1 z.2.2.2.1 z.2.2.2.2.1 z.2.2.2.2.2.1 z.2.2.2.2.2.2.1 z.2.2.2.2.2.2.2.1 z.2.2.2.2.2.2.2.2.1 pe re pn lo se pa z.2.2.2.2.2.2.2.2.2.1 z.2.2.2.2.2.2.2.2.2.2) A) ([.ref h0, .int x1] : List Value).toArray s 0 0 A) (F0 m 307 ls [.int (bz_i s0), .int (4 : Int32), .ref h0]) := by
    intro s0 me rg so sv tl su qu wa ru sp iv hf H locs ls hl hP hD hS
    unfold mo_single_j307 at hf
    obtain ⟨z26, hz26, hf⟩ := op_b hf
    refine cl_v X cw_M_62 hK hP hD hS hA hl (c_mo_mark hz26) ⟨rfl, rfl, Nat.le_of_ble_eq_true rfl, Nat.le_of_ble_eq_true rfl⟩ 0 rfl rfl rfl rfl rfl (Nat.le_of_ble_eq_true rfl) d_M_single_307 (fun H locs hP hD hS => ?_)
    refine lv_aload_n hx hb d_M_single_310 rfl (lv_at hl 0 rfl) ?_
    refine lv_iconst (v := (1 : Int32)) hx hb d_M_single_311 (by decide) ?_
    refine lv_aload_n hx hb d_M_single_312 rfl (lv_at hl 0 rfl) ?_
    refine mg_reg X hK hP d_M_single_313 ?_
    refine lv_bipush (v := (9 : Int32)) hx hb d_M_single_316 (by decide) ?_
    refine ma_rg (k := 9) X hK hP (in_b_vp (by decide)) (by decide) d_M_single_318 ?_
    refine lv_bipush (v := (127 : Int32)) hx hb d_M_single_319 (by decide) ?_
    refine lv_icmp_le (tgt := 328) hx hb d_M_single_321 (by decide) (fun hc => ?_) (fun hc => ?_)
    · replace hf := (if_pos hc).symm.trans hf
      refine lv_iconst (v := (0 : Int32)) hx hb d_M_single_328 (by decide) ?_
      exact J329 false me z26 so sv tl su qu wa ru sp iv hf _ _ _ (lv_sub hl [] rfl) hP hD hS
    · replace hf := (if_neg hc).symm.trans hf
      refine lv_iconst (v := (1 : Int32)) hx hb d_M_single_324 (by decide) ?_
      refine lv_goto (tgt := 329) hx hb d_M_single_325 (by decide) ?_
      exact J329 true me z26 so sv tl su qu wa ru sp iv hf _ _ _ (lv_sub hl [] rfl) hP hD hS
  have J223 : ∀ (v1 : Int32) (me : Nat → Int32) (rg : Nat → Int32) (so : Nat → Int32) (sv : Nat → Int32) (tl : Nat → Int32) (su : Nat → Int32) (qu : Nat → Int32) (wa : Int32) (ru : Int32) (sp : Int32) (iv : Bool), mo_single_j223 v1 me rg so sv tl su qu wa ru sp iv = some z → ∀ (H : Heap) (locs : List Loc) (ls : Array Slot), lv_has ls 4 [(0, .ref h0), (1, .int v1)] → va_P D cz_all (mw_ h0 h1 h2 h3 h4 h5 h6 h7 cI me rg so sv tl su qu wa ru pe re pn lo se pa sp iv) H → va_D A (mw_ h0 h1 h2 h3 h4 h5 h6 h7 cI me rg so sv tl su qu wa ru pe re pn lo se pa sp iv) → va_S A s.heap H locs → W p l e rm_m_single s m ([.ref h0, .int x1] : List Value).toArray below meth c H locs 0 0 (MQ below (qs_v D (ty_ cI cT) (mw_ h0 h1 h2 h3 h4 h5 h6 h7 cI z.1 z.2.1 z.2.2.1 z.2.2.2.1 z.2.2.2.2.1 z.2.2.2.2.2.1 z.2.2.2.2.2.2.1 z.2.2.2.2.2.2.2.1 z.2.2.2.2.2.2.2.2.1 pe re pn lo se pa z.2.2.2.2.2.2.2.2.2.1 z.2.2.2.2.2.2.2.2.2.2) A) ([.ref h0, .int x1] : List Value).toArray s 0 0 A) (F0 m 223 ls []) := by
    intro v1 me rg so sv tl su qu wa ru sp iv hf H locs ls hl hP hD hS
    unfold mo_single_j223 at hf
    refine lv_iload_n hx hb d_M_single_223 rfl (lv_at hl 1 rfl) ?_
    refine lv_bipush (v := (57 : Int32)) hx hb d_M_single_224 (by decide) ?_
    refine lv_icmp_ne (tgt := 238) hx hb d_M_single_226 (by decide) (fun hc => ?_) (fun hc => ?_)
    · replace hf := (if_neg hc).symm.trans hf
      refine lv_iload_n hx hb d_M_single_238 rfl (lv_at hl 1 rfl) ?_
      refine lv_bipush (v := (58 : Int32)) hx hb d_M_single_239 (by decide) ?_
      refine lv_icmp_ne (tgt := 266) hx hb d_M_single_241 (by decide) (fun hc => ?_) (fun hc => ?_)
      · replace hf := (if_neg hc).symm.trans hf
        refine lv_iload_n hx hb d_M_single_266 rfl (lv_at hl 1 rfl) ?_
        refine lv_bipush (v := (61 : Int32)) hx hb d_M_single_267 (by decide) ?_
        refine lv_icmp_ne (tgt := 335) hx hb d_M_single_269 (by decide) (fun hc => ?_) (fun hc => ?_)
        · replace hf := (if_neg hc).symm.trans hf
          refine lv_iload_n hx hb d_M_single_335 rfl (lv_at hl 1 rfl) ?_
          refine lv_bipush (v := (63 : Int32)) hx hb d_M_single_336 (by decide) ?_
          refine lv_icmp_ne (tgt := 348) hx hb d_M_single_338 (by decide) (fun hc => ?_) (fun hc => ?_)
          · replace hf := (if_neg hc).symm.trans hf
            refine lv_aload_n hx hb d_M_single_348 rfl (lv_at hl 0 rfl) ?_
            refine lv_iconst (v := (1 : Int32)) hx hb d_M_single_349 (by decide) ?_
            refine mp_invalid (x := true) X hK hP hD hS d_M_single_350 (fun H locs hP hD hS => ?_)
            have hq := Option.some.inj hf
            subst hq
            exact rt_v X hr hlk hK hP hD hS d_M_single_353
          · replace hf := (if_pos hc).symm.trans hf
            refine lv_aload_n hx hb d_M_single_341 rfl (lv_at hl 0 rfl) ?_
            obtain ⟨z27, hz27, hf⟩ := op_b hf
            refine cl_v X cw_M_146 hK hP hD hS hA hl (c_mo_kernel hz27) ⟨rfl, rfl, Nat.le_of_ble_eq_true rfl, Nat.le_of_ble_eq_true rfl⟩ 0 rfl rfl rfl rfl rfl (Nat.le_of_ble_eq_true rfl) d_M_single_342 (fun H locs hP hD hS => ?_)
            refine lv_goto (tgt := 353) hx hb d_M_single_345 (by decide) ?_
            have hq := Option.some.inj hf
            subst hq
            exact rt_v X hr hlk hK hP hD hS d_M_single_353
        · replace hf := (if_pos hc).symm.trans hf
          refine lv_aload_n hx hb d_M_single_272 rfl (lv_at hl 0 rfl) ?_
          refine lv_iconst (v := (0 : Int32)) hx hb d_M_single_273 (by decide) ?_
          refine lv_aload_n hx hb d_M_single_274 rfl (lv_at hl 0 rfl) ?_
          refine mg_reg X hK hP d_M_single_275 ?_
          refine lv_bipush (v := (8 : Int32)) hx hb d_M_single_278 (by decide) ?_
          refine ma_rg (k := 8) X hK hP (in_b_vp (by decide)) (by decide) d_M_single_280 ?_
          refine lv_aload_n hx hb d_M_single_281 rfl (lv_at hl 0 rfl) ?_
          refine mg_reg X hK hP d_M_single_282 ?_
          refine lv_bipush (v := (9 : Int32)) hx hb d_M_single_285 (by decide) ?_
          refine ma_rg (k := 9) X hK hP (in_b_vp (by decide)) (by decide) d_M_single_287 ?_
          refine lv_imul hx hb d_M_single_288 ?_
          obtain ⟨z28, hz28, hf⟩ := op_b hf
          refine cl_v X cw_M_51 hK hP hD hS hA hl (c_mo_set hz28) ⟨rfl, rfl, Nat.le_of_ble_eq_true rfl, Nat.le_of_ble_eq_true rfl⟩ 0 rfl rfl rfl rfl rfl (Nat.le_of_ble_eq_true rfl) d_M_single_289 (fun H locs hP hD hS => ?_)
          refine lv_aload_n hx hb d_M_single_292 rfl (lv_at hl 0 rfl) ?_
          refine lv_iconst (v := (4 : Int32)) hx hb d_M_single_293 (by decide) ?_
          refine lv_aload_n hx hb d_M_single_294 rfl (lv_at hl 0 rfl) ?_
          refine lv_iconst (v := (0 : Int32)) hx hb d_M_single_295 (by decide) ?_
          obtain ⟨z29, hz29, hf⟩ := op_b hf
          refine cl_i X cw_M_89 hK hP hD hS hA hl (c_mo_get hz29) ⟨rfl, rfl, Nat.le_of_ble_eq_true rfl, Nat.le_of_ble_eq_true rfl⟩ 0 rfl rfl rfl rfl rfl (Nat.le_of_ble_eq_true rfl) d_M_single_296 (fun H locs hP hD hS => ?_)
          refine lv_if_ne (tgt := 306) hx hb d_M_single_299 (by decide) (fun hc => ?_) (fun hc => ?_)
          · replace hf := (if_neg hc).symm.trans hf
            refine lv_iconst (v := (0 : Int32)) hx hb d_M_single_306 (by decide) ?_
            exact J307 false me z28 so sv tl su qu wa ru sp iv hf _ _ _ (lv_sub hl [0] rfl) hP hD hS
          · replace hf := (if_pos hc).symm.trans hf
            refine lv_iconst (v := (1 : Int32)) hx hb d_M_single_302 (by decide) ?_
            refine lv_goto (tgt := 307) hx hb d_M_single_303 (by decide) ?_
            exact J307 true me z28 so sv tl su qu wa ru sp iv hf _ _ _ (lv_sub hl [0] rfl) hP hD hS
      · replace hf := (if_pos hc).symm.trans hf
        refine lv_aload_n hx hb d_M_single_244 rfl (lv_at hl 0 rfl) ?_
        refine lv_iconst (v := (1 : Int32)) hx hb d_M_single_245 (by decide) ?_
        refine lv_aload_n hx hb d_M_single_246 rfl (lv_at hl 0 rfl) ?_
        refine mg_reg X hK hP d_M_single_247 ?_
        refine lv_iconst (v := (1 : Int32)) hx hb d_M_single_250 (by decide) ?_
        refine ma_rg (k := 1) X hK hP (in_b_vp (by decide)) (by decide) d_M_single_251 ?_
        refine lv_aload_n hx hb d_M_single_252 rfl (lv_at hl 0 rfl) ?_
        refine mg_reg X hK hP d_M_single_253 ?_
        refine lv_bipush (v := (9 : Int32)) hx hb d_M_single_256 (by decide) ?_
        refine ma_rg (k := 9) X hK hP (in_b_vp (by decide)) (by decide) d_M_single_258 ?_
        refine lv_iadd hx hb d_M_single_259 ?_
        obtain ⟨z30, hz30, hf⟩ := op_b hf
        refine cl_v X cw_M_51 hK hP hD hS hA hl (c_mo_set hz30) ⟨rfl, rfl, Nat.le_of_ble_eq_true rfl, Nat.le_of_ble_eq_true rfl⟩ 0 rfl rfl rfl rfl rfl (Nat.le_of_ble_eq_true rfl) d_M_single_260 (fun H locs hP hD hS => ?_)
        refine lv_goto (tgt := 353) hx hb d_M_single_263 (by decide) ?_
        have hq := Option.some.inj hf
        subst hq
        exact rt_v X hr hlk hK hP hD hS d_M_single_353
    · replace hf := (if_pos hc).symm.trans hf
      refine lv_aload_n hx hb d_M_single_229 rfl (lv_at hl 0 rfl) ?_
      refine lv_iconst (v := (4 : Int32)) hx hb d_M_single_230 (by decide) ?_
      refine lv_iconst (v := (5 : Int32)) hx hb d_M_single_231 (by decide) ?_
      obtain ⟨z31, hz31, hf⟩ := op_b hf
      refine cl_v X cw_M_137 hK hP hD hS hA hl (c_mo_pull hz31) ⟨rfl, rfl, Nat.le_of_ble_eq_true rfl, Nat.le_of_ble_eq_true rfl⟩ 0 rfl rfl rfl rfl rfl (Nat.le_of_ble_eq_true rfl) d_M_single_232 (fun H locs hP hD hS => ?_)
      refine lv_goto (tgt := 353) hx hb d_M_single_235 (by decide) ?_
      have hq := Option.some.inj hf
      subst hq
      exact rt_v X hr hlk hK hP hD hS d_M_single_353
  have J203 : ∀ (v1 : Int32) (me : Nat → Int32) (rg : Nat → Int32) (so : Nat → Int32) (sv : Nat → Int32) (tl : Nat → Int32) (su : Nat → Int32) (qu : Nat → Int32) (wa : Int32) (ru : Int32) (sp : Int32) (iv : Bool), mo_single_j203 v1 me rg so sv tl su qu wa ru sp iv = some z → ∀ (H : Heap) (locs : List Loc) (ls : Array Slot), lv_has ls 4 [(0, .ref h0), (1, .int v1)] → va_P D cz_all (mw_ h0 h1 h2 h3 h4 h5 h6 h7 cI me rg so sv tl su qu wa ru pe re pn lo se pa sp iv) H → va_D A (mw_ h0 h1 h2 h3 h4 h5 h6 h7 cI me rg so sv tl su qu wa ru pe re pn lo se pa sp iv) → va_S A s.heap H locs → W p l e rm_m_single s m ([.ref h0, .int x1] : List Value).toArray below meth c H locs 0 0 (MQ below (qs_v D (ty_ cI cT) (mw_ h0 h1 h2 h3 h4 h5 h6 h7 cI z.1 z.2.1 z.2.2.1 z.2.2.2.1 z.2.2.2.2.1 z.2.2.2.2.2.1 z.2.2.2.2.2.2.1 z.2.2.2.2.2.2.2.1 z.2.2.2.2.2.2.2.2.1 pe re pn lo se pa z.2.2.2.2.2.2.2.2.2.1 z.2.2.2.2.2.2.2.2.2.2) A) ([.ref h0, .int x1] : List Value).toArray s 0 0 A) (F0 m 203 ls []) := by
    intro v1 me rg so sv tl su qu wa ru sp iv hf H locs ls hl hP hD hS
    unfold mo_single_j203 at hf
    refine lv_iload_n hx hb d_M_single_203 rfl (lv_at hl 1 rfl) ?_
    refine lv_bipush (v := (52 : Int32)) hx hb d_M_single_204 (by decide) ?_
    refine lv_icmp_lt (tgt := 223) hx hb d_M_single_206 (by decide) (fun hc => ?_) (fun hc => ?_)
    · replace hf := (if_pos hc).symm.trans hf
      exact J223 v1 me rg so sv tl su qu wa ru sp iv hf _ _ _ hl hP hD hS
    · replace hf := (if_neg hc).symm.trans hf
      refine lv_iload_n hx hb d_M_single_209 rfl (lv_at hl 1 rfl) ?_
      refine lv_bipush (v := (55 : Int32)) hx hb d_M_single_210 (by decide) ?_
      refine lv_icmp_gt (tgt := 223) hx hb d_M_single_212 (by decide) (fun hc => ?_) (fun hc => ?_)
      · replace hf := (if_pos hc).symm.trans hf
        exact J223 v1 me rg so sv tl su qu wa ru sp iv hf _ _ _ hl hP hD hS
      · replace hf := (if_neg hc).symm.trans hf
        refine lv_aload_n hx hb d_M_single_215 rfl (lv_at hl 0 rfl) ?_
        refine lv_iload_n hx hb d_M_single_216 rfl (lv_at hl 1 rfl) ?_
        obtain ⟨z32, hz32, hf⟩ := op_b hf
        refine cl_v X cw_M_143 hK hP hD hS hA hl (c_mo_many hz32) ⟨rfl, rfl, Nat.le_of_ble_eq_true rfl, Nat.le_of_ble_eq_true rfl⟩ 0 rfl rfl rfl rfl rfl (Nat.le_of_ble_eq_true rfl) d_M_single_217 (fun H locs hP hD hS => ?_)
        refine lv_goto (tgt := 353) hx hb d_M_single_220 (by decide) ?_
        have hq := Option.some.inj hf
        subst hq
        exact rt_v X hr hlk hK hP hD hS d_M_single_353
  have J200 : ∀ (me : Nat → Int32) (rg : Nat → Int32) (so : Nat → Int32) (sv : Nat → Int32) (tl : Nat → Int32) (su : Nat → Int32) (qu : Nat → Int32) (wa : Int32) (ru : Int32) (sp : Int32) (iv : Bool), mo_single_j200 me rg so sv tl su qu wa ru sp iv = some z → ∀ (H : Heap) (locs : List Loc) (ls : Array Slot), lv_has ls 4 [] → va_P D cz_all (mw_ h0 h1 h2 h3 h4 h5 h6 h7 cI me rg so sv tl su qu wa ru pe re pn lo se pa sp iv) H → va_D A (mw_ h0 h1 h2 h3 h4 h5 h6 h7 cI me rg so sv tl su qu wa ru pe re pn lo se pa sp iv) → va_S A s.heap H locs → W p l e rm_m_single s m ([.ref h0, .int x1] : List Value).toArray below meth c H locs 0 0 (MQ below (qs_v D (ty_ cI cT) (mw_ h0 h1 h2 h3 h4 h5 h6 h7 cI z.1 z.2.1 z.2.2.1 z.2.2.2.1 z.2.2.2.2.1 z.2.2.2.2.2.1 z.2.2.2.2.2.2.1 z.2.2.2.2.2.2.2.1 z.2.2.2.2.2.2.2.2.1 pe re pn lo se pa z.2.2.2.2.2.2.2.2.2.1 z.2.2.2.2.2.2.2.2.2.2) A) ([.ref h0, .int x1] : List Value).toArray s 0 0 A) (F0 m 200 ls []) := by
    intro me rg so sv tl su qu wa ru sp iv hf H locs ls hl hP hD hS
    unfold mo_single_j200 at hf
    refine lv_goto (tgt := 353) hx hb d_M_single_200 (by decide) ?_
    have hq := Option.some.inj hf
    subst hq
    exact rt_v X hr hlk hK hP hD hS d_M_single_353
  have J197 : ∀ (s0 : Bool) (me : Nat → Int32) (rg : Nat → Int32) (so : Nat → Int32) (sv : Nat → Int32) (tl : Nat → Int32) (su : Nat → Int32) (qu : Nat → Int32) (wa : Int32) (ru : Int32) (sp : Int32) (iv : Bool), mo_single_j197 s0 me rg so sv tl su qu wa ru sp iv = some z → ∀ (H : Heap) (locs : List Loc) (ls : Array Slot), lv_has ls 4 [] → va_P D cz_all (mw_ h0 h1 h2 h3 h4 h5 h6 h7 cI me rg so sv tl su qu wa ru pe re pn lo se pa sp iv) H → va_D A (mw_ h0 h1 h2 h3 h4 h5 h6 h7 cI me rg so sv tl su qu wa ru pe re pn lo se pa sp iv) → va_S A s.heap H locs → W p l e rm_m_single s m ([.ref h0, .int x1] : List Value).toArray below meth c H locs 0 0 (MQ below (qs_v D (ty_ cI cT) (mw_ h0 h1 h2 h3 h4 h5 h6 h7 cI z.1 z.2.1 z.2.2.1 z.2.2.2.1 z.2.2.2.2.1 z.2.2.2.2.2.1 z.2.2.2.2.2.2.1 z.2.2.2.2.2.2.2.1 z.2.2.2.2.2.2.2.2.1 pe re pn lo se pa z.2.2.2.2.2.2.2.2.2.1 z.2.2.2.2.2.2.2.2.2.2) A) ([.ref h0, .int x1] : List Value).toArray s 0 0 A) (F0 m 197 ls [.int (bz_i s0), .int (4 : Int32), .ref h0]) := by
    intro s0 me rg so sv tl su qu wa ru sp iv hf H locs ls hl hP hD hS
    unfold mo_single_j197 at hf
    obtain ⟨z33, hz33, hf⟩ := op_b hf
    refine cl_v X cw_M_62 hK hP hD hS hA hl (c_mo_mark hz33) ⟨rfl, rfl, Nat.le_of_ble_eq_true rfl, Nat.le_of_ble_eq_true rfl⟩ 0 rfl rfl rfl rfl rfl (Nat.le_of_ble_eq_true rfl) d_M_single_197 (fun H locs hP hD hS => ?_)
    exact J200 me z33 so sv tl su qu wa ru sp iv hf _ _ _ hl hP hD hS
  have J165 : ∀ (v1 : Int32) (v2 : Int32) (s0 : Int32) (me : Nat → Int32) (rg : Nat → Int32) (so : Nat → Int32) (sv : Nat → Int32) (tl : Nat → Int32) (su : Nat → Int32) (qu : Nat → Int32) (wa : Int32) (ru : Int32) (sp : Int32) (iv : Bool), mo_single_j165 v1 v2 s0 me rg so sv tl su qu wa ru sp iv = some z → ∀ (H : Heap) (locs : List Loc) (ls : Array Slot), lv_has ls 4 [(0, .ref h0), (1, .int v1), (2, .int v2)] → va_P D cz_all (mw_ h0 h1 h2 h3 h4 h5 h6 h7 cI me rg so sv tl su qu wa ru pe re pn lo se pa sp iv) H → va_D A (mw_ h0 h1 h2 h3 h4 h5 h6 h7 cI me rg so sv tl su qu wa ru pe re pn lo se pa sp iv) → va_S A s.heap H locs → W p l e rm_m_single s m ([.ref h0, .int x1] : List Value).toArray below meth c H locs 0 0 (MQ below (qs_v D (ty_ cI cT) (mw_ h0 h1 h2 h3 h4 h5 h6 h7 cI z.1 z.2.1 z.2.2.1 z.2.2.2.1 z.2.2.2.2.1 z.2.2.2.2.2.1 z.2.2.2.2.2.2.1 z.2.2.2.2.2.2.2.1 z.2.2.2.2.2.2.2.2.1 pe re pn lo se pa z.2.2.2.2.2.2.2.2.2.1 z.2.2.2.2.2.2.2.2.2.2) A) ([.ref h0, .int x1] : List Value).toArray s 0 0 A) (F0 m 165 ls [.int s0]) := by
    intro v1 v2 s0 me rg so sv tl su qu wa ru sp iv hf H locs ls hl hP hD hS
    unfold mo_single_j165 at hf
    refine lv_istore_n hx hb d_M_single_165 rfl hl (by decide) rfl (fun ls hl => ?_)
    have hl : lv_has ls 4 [(3, .int s0), (0, .ref h0), (1, .int v1), (2, .int v2)] := hl
    refine lv_aload_n hx hb d_M_single_166 rfl (lv_at hl 1 rfl) ?_
    refine mg_invalid X hK hP d_M_single_167 ?_
    refine lv_if_eq (tgt := 174) hx hb d_M_single_170 (by decide) (fun hc => ?_) (fun hc => ?_)
    · replace hf := (if_pos hc).symm.trans hf
      refine lv_aload_n hx hb d_M_single_174 rfl (lv_at hl 1 rfl) ?_
      refine lv_iload_n hx hb d_M_single_175 rfl (lv_at hl 0 rfl) ?_
      refine lv_iload_n hx hb d_M_single_176 rfl (lv_at hl 3 rfl) ?_
      obtain ⟨z34, hz34, hf⟩ := op_b hf
      refine cl_v X cw_M_51 hK hP hD hS hA hl (c_mo_set hz34) ⟨rfl, rfl, Nat.le_of_ble_eq_true rfl, Nat.le_of_ble_eq_true rfl⟩ 0 rfl rfl rfl rfl rfl (Nat.le_of_ble_eq_true rfl) d_M_single_177 (fun H locs hP hD hS => ?_)
      refine lv_iload_n hx hb d_M_single_180 rfl (lv_at hl 2 rfl) ?_
      refine lv_bipush (v := (50 : Int32)) hx hb d_M_single_181 (by decide) ?_
      refine lv_icmp_ge (tgt := 200) hx hb d_M_single_183 (by decide) (fun hc => ?_) (fun hc => ?_)
      · replace hf := (if_pos hc).symm.trans hf
        exact J200 me z34 so sv tl su qu wa ru sp iv hf _ _ _ (lv_sub hl [] rfl) hP hD hS
      · replace hf := (if_neg hc).symm.trans hf
        refine lv_aload_n hx hb d_M_single_186 rfl (lv_at hl 1 rfl) ?_
        refine lv_iconst (v := (4 : Int32)) hx hb d_M_single_187 (by decide) ?_
        refine lv_iload_n hx hb d_M_single_188 rfl (lv_at hl 3 rfl) ?_
        refine lv_if_ne (tgt := 196) hx hb d_M_single_189 (by decide) (fun hc => ?_) (fun hc => ?_)
        · replace hf := (if_neg hc).symm.trans hf
          refine lv_iconst (v := (0 : Int32)) hx hb d_M_single_196 (by decide) ?_
          exact J197 false me z34 so sv tl su qu wa ru sp iv hf _ _ _ (lv_sub hl [] rfl) hP hD hS
        · replace hf := (if_pos hc).symm.trans hf
          refine lv_iconst (v := (1 : Int32)) hx hb d_M_single_192 (by decide) ?_
          refine lv_goto (tgt := 197) hx hb d_M_single_193 (by decide) ?_
          exact J197 true me z34 so sv tl su qu wa ru sp iv hf _ _ _ (lv_sub hl [] rfl) hP hD hS
    · replace hf := (if_neg hc).symm.trans hf
      have hq := Option.some.inj hf
      subst hq
      exact rt_v X hr hlk hK hP hD hS d_M_single_173
  have J108 : ∀ (v1 : Int32) (me : Nat → Int32) (rg : Nat → Int32) (so : Nat → Int32) (sv : Nat → Int32) (tl : Nat → Int32) (su : Nat → Int32) (qu : Nat → Int32) (wa : Int32) (ru : Int32) (sp : Int32) (iv : Bool), mo_single_j108 v1 me rg so sv tl su qu wa ru sp iv = some z → ∀ (H : Heap) (locs : List Loc) (ls : Array Slot), lv_has ls 4 [(0, .ref h0), (1, .int v1)] → va_P D cz_all (mw_ h0 h1 h2 h3 h4 h5 h6 h7 cI me rg so sv tl su qu wa ru pe re pn lo se pa sp iv) H → va_D A (mw_ h0 h1 h2 h3 h4 h5 h6 h7 cI me rg so sv tl su qu wa ru pe re pn lo se pa sp iv) → va_S A s.heap H locs → W p l e rm_m_single s m ([.ref h0, .int x1] : List Value).toArray below meth c H locs 0 0 (MQ below (qs_v D (ty_ cI cT) (mw_ h0 h1 h2 h3 h4 h5 h6 h7 cI z.1 z.2.1 z.2.2.1 z.2.2.2.1 z.2.2.2.2.1 z.2.2.2.2.2.1 z.2.2.2.2.2.2.1 z.2.2.2.2.2.2.2.1 z.2.2.2.2.2.2.2.2.1 pe re pn lo se pa z.2.2.2.2.2.2.2.2.2.1 z.2.2.2.2.2.2.2.2.2.2) A) ([.ref h0, .int x1] : List Value).toArray s 0 0 A) (F0 m 108 ls []) := by
    intro v1 me rg so sv tl su qu wa ru sp iv hf H locs ls hl hP hD hS
    unfold mo_single_j108 at hf
    refine lv_aload_n hx hb d_M_single_108 rfl (lv_at hl 0 rfl) ?_
    refine lv_iload_n hx hb d_M_single_109 rfl (lv_at hl 1 rfl) ?_
    obtain ⟨z35, hz35, hf⟩ := op_b hf
    refine cl_v X cw_M_140 hK hP hD hS hA hl (c_mo_trade hz35) ⟨rfl, rfl, Nat.le_of_ble_eq_true rfl, Nat.le_of_ble_eq_true rfl⟩ 0 rfl rfl rfl rfl rfl (Nat.le_of_ble_eq_true rfl) d_M_single_110 (fun H locs hP hD hS => ?_)
    refine lv_goto (tgt := 353) hx hb d_M_single_113 (by decide) ?_
    have hq := Option.some.inj hf
    subst hq
    exact rt_v X hr hlk hK hP hD hS d_M_single_353
  unfold mo_single at hf
  refine lv_iload_n hx hb d_M_single_0 rfl (lv_at hl 1 rfl) ?_
  refine lv_bipush (v := (18 : Int32)) hx hb d_M_single_1 (by decide) ?_
  refine lv_icmp_ne (tgt := 7) hx hb d_M_single_3 (by decide) (fun hc => ?_) (fun hc => ?_)
  · replace hf := (if_neg hc).symm.trans hf
    refine lv_iload_n hx hb d_M_single_7 rfl (lv_at hl 1 rfl) ?_
    refine lv_bipush (v := (26 : Int32)) hx hb d_M_single_8 (by decide) ?_
    refine lv_icmp_ne (tgt := 34) hx hb d_M_single_10 (by decide) (fun hc => ?_) (fun hc => ?_)
    · replace hf := (if_neg hc).symm.trans hf
      refine lv_iload_n hx hb d_M_single_34 rfl (lv_at hl 1 rfl) ?_
      refine lv_bipush (v := (28 : Int32)) hx hb d_M_single_35 (by decide) ?_
      refine lv_icmp_ne (tgt := 61) hx hb d_M_single_37 (by decide) (fun hc => ?_) (fun hc => ?_)
      · replace hf := (if_neg hc).symm.trans hf
        refine lv_iload_n hx hb d_M_single_61 rfl (lv_at hl 1 rfl) ?_
        refine lv_bipush (v := (29 : Int32)) hx hb d_M_single_62 (by decide) ?_
        refine lv_icmp_ne (tgt := 96) hx hb d_M_single_64 (by decide) (fun hc => ?_) (fun hc => ?_)
        · replace hf := (if_neg hc).symm.trans hf
          refine lv_iload_n hx hb d_M_single_96 rfl (lv_at hl 1 rfl) ?_
          refine lv_bipush (v := (30 : Int32)) hx hb d_M_single_97 (by decide) ?_
          refine lv_icmp_eq (tgt := 108) hx hb d_M_single_99 (by decide) (fun hc => ?_) (fun hc => ?_)
          · replace hf := (if_pos hc).symm.trans hf
            exact J108 x1 me rg so sv tl su qu wa ru sp iv hf _ _ _ hl hP hD hS
          · replace hf := (if_neg hc).symm.trans hf
            refine lv_iload_n hx hb d_M_single_102 rfl (lv_at hl 1 rfl) ?_
            refine lv_bipush (v := (31 : Int32)) hx hb d_M_single_103 (by decide) ?_
            refine lv_icmp_ne (tgt := 116) hx hb d_M_single_105 (by decide) (fun hc => ?_) (fun hc => ?_)
            · replace hf := (if_neg hc).symm.trans hf
              refine lv_iload_n hx hb d_M_single_116 rfl (lv_at hl 1 rfl) ?_
              refine lv_bipush (v := (48 : Int32)) hx hb d_M_single_117 (by decide) ?_
              refine lv_icmp_lt (tgt := 203) hx hb d_M_single_119 (by decide) (fun hc => ?_) (fun hc => ?_)
              · replace hf := (if_pos hc).symm.trans hf
                exact J203 x1 me rg so sv tl su qu wa ru sp iv hf _ _ _ hl hP hD hS
              · replace hf := (if_neg hc).symm.trans hf
                refine lv_iload_n hx hb d_M_single_122 rfl (lv_at hl 1 rfl) ?_
                refine lv_bipush (v := (51 : Int32)) hx hb d_M_single_123 (by decide) ?_
                refine lv_icmp_gt (tgt := 203) hx hb d_M_single_125 (by decide) (fun hc => ?_) (fun hc => ?_)
                · replace hf := (if_pos hc).symm.trans hf
                  exact J203 x1 me rg so sv tl su qu wa ru sp iv hf _ _ _ hl hP hD hS
                · replace hf := (if_neg hc).symm.trans hf
                  refine lv_aload_n hx hb d_M_single_128 rfl (lv_at hl 0 rfl) ?_
                  refine lv_iconst (v := (2 : Int32)) hx hb d_M_single_129 (by decide) ?_
                  obtain ⟨z36, hz36, hf⟩ := op_b hf
                  refine cl_i X cw_M_92 hK hP hD hS hA hl (c_mo_address hz36) ⟨rfl, rfl, Nat.le_of_ble_eq_true rfl, Nat.le_of_ble_eq_true rfl⟩ 0 rfl rfl rfl rfl rfl (Nat.le_of_ble_eq_true rfl) d_M_single_130 (fun H locs hP hD hS => ?_)
                  refine lv_istore_n hx hb d_M_single_133 rfl hl (by decide) rfl (fun ls hl => ?_)
                  have hl : lv_has ls 4 [(2, .int z36.1), (0, .ref h0), (1, .int x1)] := hl
                  refine lv_iload_n hx hb d_M_single_134 rfl (lv_at hl 2 rfl) ?_
                  refine lv_bipush (v := (48 : Int32)) hx hb d_M_single_135 (by decide) ?_
                  refine lv_icmp_ne (tgt := 144) hx hb d_M_single_137 (by decide) (fun hc => ?_) (fun hc => ?_)
                  · replace hf := (if_neg hc).symm.trans hf
                    refine lv_iload_n hx hb d_M_single_144 rfl (lv_at hl 2 rfl) ?_
                    refine lv_bipush (v := (49 : Int32)) hx hb d_M_single_145 (by decide) ?_
                    refine lv_icmp_ne (tgt := 154) hx hb d_M_single_147 (by decide) (fun hc => ?_) (fun hc => ?_)
                    · replace hf := (if_neg hc).symm.trans hf
                      refine lv_iload_n hx hb d_M_single_154 rfl (lv_at hl 2 rfl) ?_
                      refine lv_bipush (v := (50 : Int32)) hx hb d_M_single_155 (by decide) ?_
                      refine lv_icmp_ne (tgt := 164) hx hb d_M_single_157 (by decide) (fun hc => ?_) (fun hc => ?_)
                      · replace hf := (if_neg hc).symm.trans hf
                        refine lv_iconst (v := (3 : Int32)) hx hb d_M_single_164 (by decide) ?_
                        exact J165 x1 z36.1 (3 : Int32) me z36.2.1 so sv tl su qu wa ru z36.2.2.1 z36.2.2.2 hf _ _ _ (lv_sub hl [1, 2, 0] rfl) hP hD hS
                      · replace hf := (if_pos hc).symm.trans hf
                        refine lv_iconst (v := (4 : Int32)) hx hb d_M_single_160 (by decide) ?_
                        refine lv_goto (tgt := 165) hx hb d_M_single_161 (by decide) ?_
                        exact J165 x1 z36.1 (4 : Int32) me z36.2.1 so sv tl su qu wa ru z36.2.2.1 z36.2.2.2 hf _ _ _ (lv_sub hl [1, 2, 0] rfl) hP hD hS
                    · replace hf := (if_pos hc).symm.trans hf
                      refine lv_iconst (v := (2 : Int32)) hx hb d_M_single_150 (by decide) ?_
                      refine lv_goto (tgt := 165) hx hb d_M_single_151 (by decide) ?_
                      exact J165 x1 z36.1 (2 : Int32) me z36.2.1 so sv tl su qu wa ru z36.2.2.1 z36.2.2.2 hf _ _ _ (lv_sub hl [1, 2, 0] rfl) hP hD hS
                  · replace hf := (if_pos hc).symm.trans hf
                    refine lv_iconst (v := (1 : Int32)) hx hb d_M_single_140 (by decide) ?_
                    refine lv_goto (tgt := 165) hx hb d_M_single_141 (by decide) ?_
                    exact J165 x1 z36.1 (1 : Int32) me z36.2.1 so sv tl su qu wa ru z36.2.2.1 z36.2.2.2 hf _ _ _ (lv_sub hl [1, 2, 0] rfl) hP hD hS
            · replace hf := (if_pos hc).symm.trans hf
              exact J108 x1 me rg so sv tl su qu wa ru sp iv hf _ _ _ hl hP hD hS
        · replace hf := (if_pos hc).symm.trans hf
          refine lv_aload_n hx hb d_M_single_67 rfl (lv_at hl 0 rfl) ?_
          refine lv_iconst (v := (0 : Int32)) hx hb d_M_single_68 (by decide) ?_
          refine lv_aload_n hx hb d_M_single_69 rfl (lv_at hl 0 rfl) ?_
          refine mg_reg X hK hP d_M_single_70 ?_
          refine lv_bipush (v := (9 : Int32)) hx hb d_M_single_73 (by decide) ?_
          refine ma_rg (k := 9) X hK hP (in_b_vp (by decide)) (by decide) d_M_single_75 ?_
          obtain ⟨z37, hz37, hf⟩ := op_b hf
          refine cl_si X cw_M_86 hK hP hD hS hA hl (c_mo_signed hz37) ⟨rfl, rfl, Nat.le_of_ble_eq_true rfl, Nat.le_of_ble_eq_true rfl⟩ rfl rfl (Nat.le_of_ble_eq_true rfl) d_M_single_76 (fun H locs hP hD hS => ?_)
          obtain ⟨z38, hz38, hf⟩ := op_b hf
          refine cl_v X cw_M_51 hK hP hD hS hA hl (c_mo_set hz38) ⟨rfl, rfl, Nat.le_of_ble_eq_true rfl, Nat.le_of_ble_eq_true rfl⟩ 0 rfl rfl rfl rfl rfl (Nat.le_of_ble_eq_true rfl) d_M_single_79 (fun H locs hP hD hS => ?_)
          refine lv_aload_n hx hb d_M_single_82 rfl (lv_at hl 0 rfl) ?_
          refine lv_aload_n hx hb d_M_single_83 rfl (lv_at hl 0 rfl) ?_
          refine lv_iconst (v := (0 : Int32)) hx hb d_M_single_84 (by decide) ?_
          obtain ⟨z39, hz39, hf⟩ := op_b hf
          refine cl_i X cw_M_89 hK hP hD hS hA hl (c_mo_get hz39) ⟨rfl, rfl, Nat.le_of_ble_eq_true rfl, Nat.le_of_ble_eq_true rfl⟩ 0 rfl rfl rfl rfl rfl (Nat.le_of_ble_eq_true rfl) d_M_single_85 (fun H locs hP hD hS => ?_)
          refine lv_bipush (v := (16 : Int32)) hx hb d_M_single_88 (by decide) ?_
          obtain ⟨z40, hz40, hf⟩ := op_b hf
          refine cl_v X cw_M_66 hK hP hD hS hA hl (c_mo_sign hz40) ⟨rfl, rfl, Nat.le_of_ble_eq_true rfl, Nat.le_of_ble_eq_true rfl⟩ 0 rfl rfl rfl rfl rfl (Nat.le_of_ble_eq_true rfl) d_M_single_90 (fun H locs hP hD hS => ?_)
          refine lv_goto (tgt := 353) hx hb d_M_single_93 (by decide) ?_
          have hq := Option.some.inj hf
          subst hq
          exact rt_v X hr hlk hK hP hD hS d_M_single_353
      · replace hf := (if_pos hc).symm.trans hf
        refine lv_aload_n hx hb d_M_single_40 rfl (lv_at hl 0 rfl) ?_
        refine lv_bipush (v := (10 : Int32)) hx hb d_M_single_41 (by decide) ?_
        refine lv_aload_n hx hb d_M_single_43 rfl (lv_at hl 0 rfl) ?_
        refine mg_reg X hK hP d_M_single_44 ?_
        refine lv_bipush (v := (10 : Int32)) hx hb d_M_single_47 (by decide) ?_
        refine ma_rg (k := 10) X hK hP (in_b_vp (by decide)) (by decide) d_M_single_49 ?_
        refine lv_aload_n hx hb d_M_single_50 rfl (lv_at hl 0 rfl) ?_
        obtain ⟨z41, hz41, hf⟩ := op_b hf
        refine cl_i X cw_M_54 hK hP hD hS hA hl (c_mo_fetch hz41) ⟨rfl, rfl, Nat.le_of_ble_eq_true rfl, Nat.le_of_ble_eq_true rfl⟩ 0 rfl rfl rfl rfl rfl (Nat.le_of_ble_eq_true rfl) d_M_single_51 (fun H locs hP hD hS => ?_)
        refine lv_iand hx hb d_M_single_54 ?_
        obtain ⟨z42, hz42, hf⟩ := op_b hf
        refine cl_v X cw_M_51 hK hP hD hS hA hl (c_mo_set hz42) ⟨rfl, rfl, Nat.le_of_ble_eq_true rfl, Nat.le_of_ble_eq_true rfl⟩ 0 rfl rfl rfl rfl rfl (Nat.le_of_ble_eq_true rfl) d_M_single_55 (fun H locs hP hD hS => ?_)
        refine lv_goto (tgt := 353) hx hb d_M_single_58 (by decide) ?_
        have hq := Option.some.inj hf
        subst hq
        exact rt_v X hr hlk hK hP hD hS d_M_single_353
    · replace hf := (if_pos hc).symm.trans hf
      refine lv_aload_n hx hb d_M_single_13 rfl (lv_at hl 0 rfl) ?_
      refine lv_bipush (v := (10 : Int32)) hx hb d_M_single_14 (by decide) ?_
      refine lv_aload_n hx hb d_M_single_16 rfl (lv_at hl 0 rfl) ?_
      refine mg_reg X hK hP d_M_single_17 ?_
      refine lv_bipush (v := (10 : Int32)) hx hb d_M_single_20 (by decide) ?_
      refine ma_rg (k := 10) X hK hP (in_b_vp (by decide)) (by decide) d_M_single_22 ?_
      refine lv_aload_n hx hb d_M_single_23 rfl (lv_at hl 0 rfl) ?_
      obtain ⟨z43, hz43, hf⟩ := op_b hf
      refine cl_i X cw_M_54 hK hP hD hS hA hl (c_mo_fetch hz43) ⟨rfl, rfl, Nat.le_of_ble_eq_true rfl, Nat.le_of_ble_eq_true rfl⟩ 0 rfl rfl rfl rfl rfl (Nat.le_of_ble_eq_true rfl) d_M_single_24 (fun H locs hP hD hS => ?_)
      refine lv_ior hx hb d_M_single_27 ?_
      obtain ⟨z44, hz44, hf⟩ := op_b hf
      refine cl_v X cw_M_51 hK hP hD hS hA hl (c_mo_set hz44) ⟨rfl, rfl, Nat.le_of_ble_eq_true rfl, Nat.le_of_ble_eq_true rfl⟩ 0 rfl rfl rfl rfl rfl (Nat.le_of_ble_eq_true rfl) d_M_single_28 (fun H locs hP hD hS => ?_)
      refine lv_goto (tgt := 353) hx hb d_M_single_31 (by decide) ?_
      have hq := Option.some.inj hf
      subst hq
      exact rt_v X hr hlk hK hP hD hS d_M_single_353
  · replace hf := (if_pos hc).symm.trans hf
    have hq := Option.some.inj hf
    subst hq
    exact rt_v X hr hlk hK hP hD hS d_M_single_6
end MODEL

theorem d_M_byteOp_0 : decode mb_M_byteOp 0 = .ok (.iload_n 1, 1) := by decide +kernel
theorem d_M_byteOp_1 : decode mb_M_byteOp 1 = .ok (.sipush 192, 3) := by decide +kernel
theorem d_M_byteOp_4 : decode mb_M_byteOp 4 = .ok (.if_icmp .ge 8, 3) := by decide +kernel
theorem d_M_byteOp_7 : decode mb_M_byteOp 7 = .ok (.bipush 8, 2) := by decide +kernel
theorem d_M_byteOp_9 : decode mb_M_byteOp 9 = .ok (.goto 5, 3) := by decide +kernel
theorem d_M_byteOp_12 : decode mb_M_byteOp 12 = .ok (.bipush 9, 2) := by decide +kernel
theorem d_M_byteOp_14 : decode mb_M_byteOp 14 = .ok (.istore_n 3, 1) := by decide +kernel
theorem d_M_byteOp_15 : decode mb_M_byteOp 15 = .ok (.iload_n 1, 1) := by decide +kernel
theorem d_M_byteOp_16 : decode mb_M_byteOp 16 = .ok (.bipush 15, 2) := by decide +kernel
theorem d_M_byteOp_18 : decode mb_M_byteOp 18 = .ok (.iand, 1) := by decide +kernel
theorem d_M_byteOp_19 : decode mb_M_byteOp 19 = .ok (.istore 4, 2) := by decide +kernel
theorem d_M_byteOp_21 : decode mb_M_byteOp 21 = .ok (.aload_n 0, 1) := by decide +kernel
theorem d_M_byteOp_22 : decode mb_M_byteOp 22 = .ok (.iload_n 2, 1) := by decide +kernel
theorem d_M_byteOp_23 : decode mb_M_byteOp 23 = .ok (.iconst 0, 1) := by decide +kernel
theorem d_M_byteOp_24 : decode mb_M_byteOp 24 = .ok (.invokevirtual 98, 3) := by decide +kernel
theorem d_M_byteOp_27 : decode mb_M_byteOp 27 = .ok (.istore 5, 2) := by decide +kernel
theorem d_M_byteOp_29 : decode mb_M_byteOp 29 = .ok (.aload_n 0, 1) := by decide +kernel
theorem d_M_byteOp_30 : decode mb_M_byteOp 30 = .ok (.getfield 76, 3) := by decide +kernel
theorem d_M_byteOp_33 : decode mb_M_byteOp 33 = .ok (.ifCond .eq 4, 3) := by decide +kernel
theorem d_M_byteOp_36 : decode mb_M_byteOp 36 = .ok (.return_, 1) := by decide +kernel
theorem d_M_byteOp_37 : decode mb_M_byteOp 37 = .ok (.aload_n 0, 1) := by decide +kernel
theorem d_M_byteOp_38 : decode mb_M_byteOp 38 = .ok (.getfield 13, 3) := by decide +kernel
theorem d_M_byteOp_41 : decode mb_M_byteOp 41 = .ok (.iload_n 3, 1) := by decide +kernel
theorem d_M_byteOp_42 : decode mb_M_byteOp 42 = .ok (.iaload, 1) := by decide +kernel
theorem d_M_byteOp_43 : decode mb_M_byteOp 43 = .ok (.istore 6, 2) := by decide +kernel
theorem d_M_byteOp_45 : decode mb_M_byteOp 45 = .ok (.aload_n 0, 1) := by decide +kernel
theorem d_M_byteOp_46 : decode mb_M_byteOp 46 = .ok (.iconst 1, 1) := by decide +kernel
theorem d_M_byteOp_47 : decode mb_M_byteOp 47 = .ok (.invokevirtual 101, 3) := by decide +kernel
theorem d_M_byteOp_50 : decode mb_M_byteOp 50 = .ok (.ifCond .eq 7, 3) := by decide +kernel
theorem d_M_byteOp_53 : decode mb_M_byteOp 53 = .ok (.iconst 1, 1) := by decide +kernel
theorem d_M_byteOp_54 : decode mb_M_byteOp 54 = .ok (.goto 4, 3) := by decide +kernel
theorem d_M_byteOp_57 : decode mb_M_byteOp 57 = .ok (.iconst 0, 1) := by decide +kernel
theorem d_M_byteOp_58 : decode mb_M_byteOp 58 = .ok (.istore 7, 2) := by decide +kernel
theorem d_M_byteOp_60 : decode mb_M_byteOp 60 = .ok (.iload 4, 2) := by decide +kernel
theorem d_M_byteOp_62 : decode mb_M_byteOp 62 = .ok (.iconst 2, 1) := by decide +kernel
theorem d_M_byteOp_63 : decode mb_M_byteOp 63 = .ok (.if_icmp .ge 17, 3) := by decide +kernel
theorem d_M_byteOp_66 : decode mb_M_byteOp 66 = .ok (.aload_n 0, 1) := by decide +kernel
theorem d_M_byteOp_67 : decode mb_M_byteOp 67 = .ok (.iload 6, 2) := by decide +kernel
theorem d_M_byteOp_69 : decode mb_M_byteOp 69 = .ok (.iload 5, 2) := by decide +kernel
theorem d_M_byteOp_71 : decode mb_M_byteOp 71 = .ok (.iconst 0, 1) := by decide +kernel
theorem d_M_byteOp_72 : decode mb_M_byteOp 72 = .ok (.bipush 8, 2) := by decide +kernel
theorem d_M_byteOp_74 : decode mb_M_byteOp 74 = .ok (.invokevirtual 105, 3) := by decide +kernel
theorem d_M_byteOp_77 : decode mb_M_byteOp 77 = .ok (.goto 125, 3) := by decide +kernel
theorem d_M_byteOp_80 : decode mb_M_byteOp 80 = .ok (.iload 4, 2) := by decide +kernel
theorem d_M_byteOp_82 : decode mb_M_byteOp 82 = .ok (.iconst 2, 1) := by decide +kernel
theorem d_M_byteOp_83 : decode mb_M_byteOp 83 = .ok (.if_icmp .ne 18, 3) := by decide +kernel
theorem d_M_byteOp_86 : decode mb_M_byteOp 86 = .ok (.aload_n 0, 1) := by decide +kernel
theorem d_M_byteOp_87 : decode mb_M_byteOp 87 = .ok (.iload 6, 2) := by decide +kernel
theorem d_M_byteOp_89 : decode mb_M_byteOp 89 = .ok (.iload 5, 2) := by decide +kernel
theorem d_M_byteOp_91 : decode mb_M_byteOp 91 = .ok (.iload 7, 2) := by decide +kernel
theorem d_M_byteOp_93 : decode mb_M_byteOp 93 = .ok (.bipush 8, 2) := by decide +kernel
theorem d_M_byteOp_95 : decode mb_M_byteOp 95 = .ok (.invokevirtual 105, 3) := by decide +kernel
theorem d_M_byteOp_98 : decode mb_M_byteOp 98 = .ok (.goto 104, 3) := by decide +kernel
theorem d_M_byteOp_101 : decode mb_M_byteOp 101 = .ok (.iload 4, 2) := by decide +kernel
theorem d_M_byteOp_103 : decode mb_M_byteOp 103 = .ok (.bipush 9, 2) := by decide +kernel
theorem d_M_byteOp_105 : decode mb_M_byteOp 105 = .ok (.if_icmp .ne 18, 3) := by decide +kernel
theorem d_M_byteOp_108 : decode mb_M_byteOp 108 = .ok (.aload_n 0, 1) := by decide +kernel
theorem d_M_byteOp_109 : decode mb_M_byteOp 109 = .ok (.iload 6, 2) := by decide +kernel
theorem d_M_byteOp_111 : decode mb_M_byteOp 111 = .ok (.iload 5, 2) := by decide +kernel
theorem d_M_byteOp_113 : decode mb_M_byteOp 113 = .ok (.iload 7, 2) := by decide +kernel
theorem d_M_byteOp_115 : decode mb_M_byteOp 115 = .ok (.bipush 8, 2) := by decide +kernel
theorem d_M_byteOp_117 : decode mb_M_byteOp 117 = .ok (.invokevirtual 109, 3) := by decide +kernel
theorem d_M_byteOp_120 : decode mb_M_byteOp 120 = .ok (.goto 82, 3) := by decide +kernel
theorem d_M_byteOp_123 : decode mb_M_byteOp 123 = .ok (.iload 4, 2) := by decide +kernel
theorem d_M_byteOp_125 : decode mb_M_byteOp 125 = .ok (.bipush 11, 2) := by decide +kernel
theorem d_M_byteOp_127 : decode mb_M_byteOp 127 = .ok (.if_icmp .ne 17, 3) := by decide +kernel
theorem d_M_byteOp_130 : decode mb_M_byteOp 130 = .ok (.aload_n 0, 1) := by decide +kernel
theorem d_M_byteOp_131 : decode mb_M_byteOp 131 = .ok (.iload 6, 2) := by decide +kernel
theorem d_M_byteOp_133 : decode mb_M_byteOp 133 = .ok (.iload 5, 2) := by decide +kernel
theorem d_M_byteOp_135 : decode mb_M_byteOp 135 = .ok (.iconst 0, 1) := by decide +kernel
theorem d_M_byteOp_136 : decode mb_M_byteOp 136 = .ok (.bipush 8, 2) := by decide +kernel
theorem d_M_byteOp_138 : decode mb_M_byteOp 138 = .ok (.invokevirtual 109, 3) := by decide +kernel
theorem d_M_byteOp_141 : decode mb_M_byteOp 141 = .ok (.goto 61, 3) := by decide +kernel
theorem d_M_byteOp_144 : decode mb_M_byteOp 144 = .ok (.aload_n 0, 1) := by decide +kernel
theorem d_M_byteOp_145 : decode mb_M_byteOp 145 = .ok (.iload 4, 2) := by decide +kernel
theorem d_M_byteOp_147 : decode mb_M_byteOp 147 = .ok (.iconst 4, 1) := by decide +kernel
theorem d_M_byteOp_148 : decode mb_M_byteOp 148 = .ok (.if_icmp .eq 9, 3) := by decide +kernel
theorem d_M_byteOp_151 : decode mb_M_byteOp 151 = .ok (.iload 4, 2) := by decide +kernel
theorem d_M_byteOp_153 : decode mb_M_byteOp 153 = .ok (.iconst 5, 1) := by decide +kernel
theorem d_M_byteOp_154 : decode mb_M_byteOp 154 = .ok (.if_icmp .ne 11, 3) := by decide +kernel
theorem d_M_byteOp_157 : decode mb_M_byteOp 157 = .ok (.iload 6, 2) := by decide +kernel
theorem d_M_byteOp_159 : decode mb_M_byteOp 159 = .ok (.iload 5, 2) := by decide +kernel
theorem d_M_byteOp_161 : decode mb_M_byteOp 161 = .ok (.iand, 1) := by decide +kernel
theorem d_M_byteOp_162 : decode mb_M_byteOp 162 = .ok (.goto 35, 3) := by decide +kernel
theorem d_M_byteOp_165 : decode mb_M_byteOp 165 = .ok (.iload 4, 2) := by decide +kernel
theorem d_M_byteOp_167 : decode mb_M_byteOp 167 = .ok (.bipush 6, 2) := by decide +kernel
theorem d_M_byteOp_169 : decode mb_M_byteOp 169 = .ok (.if_icmp .ne 8, 3) := by decide +kernel
theorem d_M_byteOp_172 : decode mb_M_byteOp 172 = .ok (.iload 5, 2) := by decide +kernel
theorem d_M_byteOp_174 : decode mb_M_byteOp 174 = .ok (.goto 23, 3) := by decide +kernel
theorem d_M_byteOp_177 : decode mb_M_byteOp 177 = .ok (.iload 4, 2) := by decide +kernel
theorem d_M_byteOp_179 : decode mb_M_byteOp 179 = .ok (.bipush 8, 2) := by decide +kernel
theorem d_M_byteOp_181 : decode mb_M_byteOp 181 = .ok (.if_icmp .ne 11, 3) := by decide +kernel
theorem d_M_byteOp_184 : decode mb_M_byteOp 184 = .ok (.iload 6, 2) := by decide +kernel
theorem d_M_byteOp_186 : decode mb_M_byteOp 186 = .ok (.iload 5, 2) := by decide +kernel
theorem d_M_byteOp_188 : decode mb_M_byteOp 188 = .ok (.ixor, 1) := by decide +kernel
theorem d_M_byteOp_189 : decode mb_M_byteOp 189 = .ok (.goto 8, 3) := by decide +kernel
theorem d_M_byteOp_192 : decode mb_M_byteOp 192 = .ok (.iload 6, 2) := by decide +kernel
theorem d_M_byteOp_194 : decode mb_M_byteOp 194 = .ok (.iload 5, 2) := by decide +kernel
theorem d_M_byteOp_196 : decode mb_M_byteOp 196 = .ok (.ior, 1) := by decide +kernel
theorem d_M_byteOp_197 : decode mb_M_byteOp 197 = .ok (.bipush 8, 2) := by decide +kernel
theorem d_M_byteOp_199 : decode mb_M_byteOp 199 = .ok (.invokevirtual 95, 3) := by decide +kernel
theorem d_M_byteOp_202 : decode mb_M_byteOp 202 = .ok (.istore 8, 2) := by decide +kernel
theorem d_M_byteOp_204 : decode mb_M_byteOp 204 = .ok (.iload 4, 2) := by decide +kernel
theorem d_M_byteOp_206 : decode mb_M_byteOp 206 = .ok (.iconst 1, 1) := by decide +kernel
theorem d_M_byteOp_207 : decode mb_M_byteOp 207 = .ok (.if_icmp .eq 16, 3) := by decide +kernel
theorem d_M_byteOp_210 : decode mb_M_byteOp 210 = .ok (.iload 4, 2) := by decide +kernel
theorem d_M_byteOp_212 : decode mb_M_byteOp 212 = .ok (.iconst 5, 1) := by decide +kernel
theorem d_M_byteOp_213 : decode mb_M_byteOp 213 = .ok (.if_icmp .eq 10, 3) := by decide +kernel
theorem d_M_byteOp_216 : decode mb_M_byteOp 216 = .ok (.aload_n 0, 1) := by decide +kernel
theorem d_M_byteOp_217 : decode mb_M_byteOp 217 = .ok (.iload_n 3, 1) := by decide +kernel
theorem d_M_byteOp_218 : decode mb_M_byteOp 218 = .ok (.iload 8, 2) := by decide +kernel
theorem d_M_byteOp_220 : decode mb_M_byteOp 220 = .ok (.invokevirtual 51, 3) := by decide +kernel
theorem d_M_byteOp_223 : decode mb_M_byteOp 223 = .ok (.return_, 1) := by decide +kernel
theorem d_M_wordOp_0 : decode mb_M_wordOp 0 = .ok (.aload_n 0, 1) := by decide +kernel
theorem d_M_wordOp_1 : decode mb_M_wordOp 1 = .ok (.iload_n 2, 1) := by decide +kernel
theorem d_M_wordOp_2 : decode mb_M_wordOp 2 = .ok (.iconst 1, 1) := by decide +kernel
theorem d_M_wordOp_3 : decode mb_M_wordOp 3 = .ok (.invokevirtual 98, 3) := by decide +kernel
theorem d_M_wordOp_6 : decode mb_M_wordOp 6 = .ok (.istore 4, 2) := by decide +kernel
theorem d_M_wordOp_8 : decode mb_M_wordOp 8 = .ok (.aload_n 0, 1) := by decide +kernel
theorem d_M_wordOp_9 : decode mb_M_wordOp 9 = .ok (.getfield 76, 3) := by decide +kernel
theorem d_M_wordOp_12 : decode mb_M_wordOp 12 = .ok (.ifCond .eq 4, 3) := by decide +kernel
theorem d_M_wordOp_15 : decode mb_M_wordOp 15 = .ok (.return_, 1) := by decide +kernel
theorem d_M_wordOp_16 : decode mb_M_wordOp 16 = .ok (.iload_n 3, 1) := by decide +kernel
theorem d_M_wordOp_17 : decode mb_M_wordOp 17 = .ok (.ifCond .eq 21, 3) := by decide +kernel
theorem d_M_wordOp_20 : decode mb_M_wordOp 20 = .ok (.aload_n 0, 1) := by decide +kernel
theorem d_M_wordOp_21 : decode mb_M_wordOp 21 = .ok (.aload_n 0, 1) := by decide +kernel
theorem d_M_wordOp_22 : decode mb_M_wordOp 22 = .ok (.iload_n 1, 1) := by decide +kernel
theorem d_M_wordOp_23 : decode mb_M_wordOp 23 = .ok (.invokevirtual 89, 3) := by decide +kernel
theorem d_M_wordOp_26 : decode mb_M_wordOp 26 = .ok (.iload 4, 2) := by decide +kernel
theorem d_M_wordOp_28 : decode mb_M_wordOp 28 = .ok (.iconst 0, 1) := by decide +kernel
theorem d_M_wordOp_29 : decode mb_M_wordOp 29 = .ok (.bipush 16, 2) := by decide +kernel
theorem d_M_wordOp_31 : decode mb_M_wordOp 31 = .ok (.invokevirtual 105, 3) := by decide +kernel
theorem d_M_wordOp_34 : decode mb_M_wordOp 34 = .ok (.pop, 1) := by decide +kernel
theorem d_M_wordOp_35 : decode mb_M_wordOp 35 = .ok (.goto 16, 3) := by decide +kernel
theorem d_M_wordOp_38 : decode mb_M_wordOp 38 = .ok (.aload_n 0, 1) := by decide +kernel
theorem d_M_wordOp_39 : decode mb_M_wordOp 39 = .ok (.iload_n 1, 1) := by decide +kernel
theorem d_M_wordOp_40 : decode mb_M_wordOp 40 = .ok (.aload_n 0, 1) := by decide +kernel
theorem d_M_wordOp_41 : decode mb_M_wordOp 41 = .ok (.iload 4, 2) := by decide +kernel
theorem d_M_wordOp_43 : decode mb_M_wordOp 43 = .ok (.bipush 16, 2) := by decide +kernel
theorem d_M_wordOp_45 : decode mb_M_wordOp 45 = .ok (.invokevirtual 95, 3) := by decide +kernel
theorem d_M_wordOp_48 : decode mb_M_wordOp 48 = .ok (.invokevirtual 51, 3) := by decide +kernel
theorem d_M_wordOp_51 : decode mb_M_wordOp 51 = .ok (.return_, 1) := by decide +kernel
theorem d_M_call_0 : decode mb_M_call 0 = .ok (.iconst 0, 1) := by decide +kernel
theorem d_M_call_1 : decode mb_M_call 1 = .ok (.istore_n 2, 1) := by decide +kernel
theorem d_M_call_2 : decode mb_M_call 2 = .ok (.iload_n 1, 1) := by decide +kernel
theorem d_M_call_3 : decode mb_M_call 3 = .ok (.ifCond .ne 23, 3) := by decide +kernel
theorem d_M_call_6 : decode mb_M_call 6 = .ok (.aload_n 0, 1) := by decide +kernel
theorem d_M_call_7 : decode mb_M_call 7 = .ok (.invokevirtual 54, 3) := by decide +kernel
theorem d_M_call_10 : decode mb_M_call 10 = .ok (.invokestatic 86, 3) := by decide +kernel
theorem d_M_call_13 : decode mb_M_call 13 = .ok (.istore_n 3, 1) := by decide +kernel
theorem d_M_call_14 : decode mb_M_call 14 = .ok (.aload_n 0, 1) := by decide +kernel
theorem d_M_call_15 : decode mb_M_call 15 = .ok (.getfield 13, 3) := by decide +kernel
theorem d_M_call_18 : decode mb_M_call 18 = .ok (.iconst 5, 1) := by decide +kernel
theorem d_M_call_19 : decode mb_M_call 19 = .ok (.iaload, 1) := by decide +kernel
theorem d_M_call_20 : decode mb_M_call 20 = .ok (.iload_n 3, 1) := by decide +kernel
theorem d_M_call_21 : decode mb_M_call 21 = .ok (.iadd, 1) := by decide +kernel
theorem d_M_call_22 : decode mb_M_call 22 = .ok (.istore_n 2, 1) := by decide +kernel
theorem d_M_call_23 : decode mb_M_call 23 = .ok (.goto 9, 3) := by decide +kernel
theorem d_M_call_26 : decode mb_M_call 26 = .ok (.aload_n 0, 1) := by decide +kernel
theorem d_M_call_27 : decode mb_M_call 27 = .ok (.iload_n 1, 1) := by decide +kernel
theorem d_M_call_28 : decode mb_M_call 28 = .ok (.invokevirtual 92, 3) := by decide +kernel
theorem d_M_call_31 : decode mb_M_call 31 = .ok (.istore_n 2, 1) := by decide +kernel
theorem d_M_call_32 : decode mb_M_call 32 = .ok (.aload_n 0, 1) := by decide +kernel
theorem d_M_call_33 : decode mb_M_call 33 = .ok (.getfield 76, 3) := by decide +kernel
theorem d_M_call_36 : decode mb_M_call 36 = .ok (.ifCond .eq 4, 3) := by decide +kernel
theorem d_M_call_39 : decode mb_M_call 39 = .ok (.return_, 1) := by decide +kernel
theorem d_M_call_40 : decode mb_M_call 40 = .ok (.aload_n 0, 1) := by decide +kernel
theorem d_M_call_41 : decode mb_M_call 41 = .ok (.iconst 4, 1) := by decide +kernel
theorem d_M_call_42 : decode mb_M_call 42 = .ok (.iconst 5, 1) := by decide +kernel
theorem d_M_call_43 : decode mb_M_call 43 = .ok (.invokevirtual 112, 3) := by decide +kernel
theorem d_M_call_46 : decode mb_M_call 46 = .ok (.aload_n 0, 1) := by decide +kernel
theorem d_M_call_47 : decode mb_M_call 47 = .ok (.iconst 5, 1) := by decide +kernel
theorem d_M_call_48 : decode mb_M_call 48 = .ok (.iload_n 2, 1) := by decide +kernel
theorem d_M_call_49 : decode mb_M_call 49 = .ok (.invokevirtual 51, 3) := by decide +kernel
theorem d_M_call_52 : decode mb_M_call 52 = .ok (.return_, 1) := by decide +kernel
theorem d_M_upper_0 : decode mb_M_upper 0 = .ok (.iload_n 1, 1) := by decide +kernel
theorem d_M_upper_1 : decode mb_M_upper 1 = .ok (.iconst 4, 1) := by decide +kernel
theorem d_M_upper_2 : decode mb_M_upper 2 = .ok (.ishr, 1) := by decide +kernel
theorem d_M_upper_3 : decode mb_M_upper 3 = .ok (.iconst 3, 1) := by decide +kernel
theorem d_M_upper_4 : decode mb_M_upper 4 = .ok (.iand, 1) := by decide +kernel
theorem d_M_upper_5 : decode mb_M_upper 5 = .ok (.istore_n 2, 1) := by decide +kernel
theorem d_M_upper_6 : decode mb_M_upper 6 = .ok (.iload_n 1, 1) := by decide +kernel
theorem d_M_upper_7 : decode mb_M_upper 7 = .ok (.sipush 192, 3) := by decide +kernel
theorem d_M_upper_10 : decode mb_M_upper 10 = .ok (.if_icmp .ge 7, 3) := by decide +kernel
theorem d_M_upper_13 : decode mb_M_upper 13 = .ok (.iconst 1, 1) := by decide +kernel
theorem d_M_upper_14 : decode mb_M_upper 14 = .ok (.goto 4, 3) := by decide +kernel
theorem d_M_upper_17 : decode mb_M_upper 17 = .ok (.iconst 0, 1) := by decide +kernel
theorem d_M_upper_18 : decode mb_M_upper 18 = .ok (.istore_n 3, 1) := by decide +kernel
theorem d_M_upper_19 : decode mb_M_upper 19 = .ok (.iload_n 1, 1) := by decide +kernel
theorem d_M_upper_20 : decode mb_M_upper 20 = .ok (.bipush 15, 2) := by decide +kernel
theorem d_M_upper_22 : decode mb_M_upper 22 = .ok (.iand, 1) := by decide +kernel
theorem d_M_upper_23 : decode mb_M_upper 23 = .ok (.tableswitch 217 3 15 #[65, 217, 217, 217, 124, 217, 217, 217, 217, 143, 161, 182, 200], 65) := by decide +kernel
theorem d_M_upper_88 : decode mb_M_upper 88 = .ok (.aload_n 0, 1) := by decide +kernel
theorem d_M_upper_89 : decode mb_M_upper 89 = .ok (.iload_n 2, 1) := by decide +kernel
theorem d_M_upper_90 : decode mb_M_upper 90 = .ok (.iconst 1, 1) := by decide +kernel
theorem d_M_upper_91 : decode mb_M_upper 91 = .ok (.invokevirtual 98, 3) := by decide +kernel
theorem d_M_upper_94 : decode mb_M_upper 94 = .ok (.istore 4, 2) := by decide +kernel
theorem d_M_upper_96 : decode mb_M_upper 96 = .ok (.aload_n 0, 1) := by decide +kernel
theorem d_M_upper_97 : decode mb_M_upper 97 = .ok (.iconst 0, 1) := by decide +kernel
theorem d_M_upper_98 : decode mb_M_upper 98 = .ok (.invokevirtual 89, 3) := by decide +kernel
theorem d_M_upper_101 : decode mb_M_upper 101 = .ok (.istore 5, 2) := by decide +kernel
theorem d_M_upper_103 : decode mb_M_upper 103 = .ok (.aload_n 0, 1) := by decide +kernel
theorem d_M_upper_104 : decode mb_M_upper 104 = .ok (.getfield 76, 3) := by decide +kernel
theorem d_M_upper_107 : decode mb_M_upper 107 = .ok (.ifCond .ne 139, 3) := by decide +kernel
theorem d_M_upper_110 : decode mb_M_upper 110 = .ok (.aload_n 0, 1) := by decide +kernel
theorem d_M_upper_111 : decode mb_M_upper 111 = .ok (.iconst 0, 1) := by decide +kernel
theorem d_M_upper_112 : decode mb_M_upper 112 = .ok (.iload_n 3, 1) := by decide +kernel
theorem d_M_upper_113 : decode mb_M_upper 113 = .ok (.ifCond .eq 17, 3) := by decide +kernel
theorem d_M_upper_116 : decode mb_M_upper 116 = .ok (.aload_n 0, 1) := by decide +kernel
theorem d_M_upper_117 : decode mb_M_upper 117 = .ok (.iload 5, 2) := by decide +kernel
theorem d_M_upper_119 : decode mb_M_upper 119 = .ok (.iload 4, 2) := by decide +kernel
theorem d_M_upper_121 : decode mb_M_upper 121 = .ok (.iconst 0, 1) := by decide +kernel
theorem d_M_upper_122 : decode mb_M_upper 122 = .ok (.bipush 16, 2) := by decide +kernel
theorem d_M_upper_124 : decode mb_M_upper 124 = .ok (.invokevirtual 105, 3) := by decide +kernel
theorem d_M_upper_127 : decode mb_M_upper 127 = .ok (.goto 14, 3) := by decide +kernel
theorem d_M_upper_130 : decode mb_M_upper 130 = .ok (.aload_n 0, 1) := by decide +kernel
theorem d_M_upper_131 : decode mb_M_upper 131 = .ok (.iload 5, 2) := by decide +kernel
theorem d_M_upper_133 : decode mb_M_upper 133 = .ok (.iload 4, 2) := by decide +kernel
theorem d_M_upper_135 : decode mb_M_upper 135 = .ok (.iconst 0, 1) := by decide +kernel
theorem d_M_upper_136 : decode mb_M_upper 136 = .ok (.bipush 16, 2) := by decide +kernel
theorem d_M_upper_138 : decode mb_M_upper 138 = .ok (.invokevirtual 109, 3) := by decide +kernel
theorem d_M_upper_141 : decode mb_M_upper 141 = .ok (.invokevirtual 51, 3) := by decide +kernel
theorem d_M_upper_144 : decode mb_M_upper 144 = .ok (.goto 102, 3) := by decide +kernel
theorem d_M_upper_147 : decode mb_M_upper 147 = .ok (.aload_n 0, 1) := by decide +kernel
theorem d_M_upper_148 : decode mb_M_upper 148 = .ok (.iload_n 2, 1) := by decide +kernel
theorem d_M_upper_149 : decode mb_M_upper 149 = .ok (.iload_n 3, 1) := by decide +kernel
theorem d_M_upper_150 : decode mb_M_upper 150 = .ok (.ifCond .eq 8, 3) := by decide +kernel
theorem d_M_upper_153 : decode mb_M_upper 153 = .ok (.bipush 8, 2) := by decide +kernel
theorem d_M_upper_155 : decode mb_M_upper 155 = .ok (.goto 5, 3) := by decide +kernel
theorem d_M_upper_158 : decode mb_M_upper 158 = .ok (.bipush 9, 2) := by decide +kernel
theorem d_M_upper_160 : decode mb_M_upper 160 = .ok (.invokevirtual 115, 3) := by decide +kernel
theorem d_M_upper_163 : decode mb_M_upper 163 = .ok (.goto 83, 3) := by decide +kernel
theorem d_M_upper_166 : decode mb_M_upper 166 = .ok (.aload_n 0, 1) := by decide +kernel
theorem d_M_upper_167 : decode mb_M_upper 167 = .ok (.iload_n 3, 1) := by decide +kernel
theorem d_M_upper_168 : decode mb_M_upper 168 = .ok (.ifCond .eq 7, 3) := by decide +kernel
theorem d_M_upper_171 : decode mb_M_upper 171 = .ok (.iconst 1, 1) := by decide +kernel
theorem d_M_upper_172 : decode mb_M_upper 172 = .ok (.goto 4, 3) := by decide +kernel
theorem d_M_upper_175 : decode mb_M_upper 175 = .ok (.iconst 0, 1) := by decide +kernel
theorem d_M_upper_176 : decode mb_M_upper 176 = .ok (.iload_n 2, 1) := by decide +kernel
theorem d_M_upper_177 : decode mb_M_upper 177 = .ok (.iload_n 3, 1) := by decide +kernel
theorem d_M_upper_178 : decode mb_M_upper 178 = .ok (.invokevirtual 118, 3) := by decide +kernel
theorem d_M_upper_181 : decode mb_M_upper 181 = .ok (.goto 65, 3) := by decide +kernel
theorem d_M_upper_184 : decode mb_M_upper 184 = .ok (.iload_n 3, 1) := by decide +kernel
theorem d_M_upper_185 : decode mb_M_upper 185 = .ok (.ifCond .eq 11, 3) := by decide +kernel
theorem d_M_upper_188 : decode mb_M_upper 188 = .ok (.aload_n 0, 1) := by decide +kernel
theorem d_M_upper_189 : decode mb_M_upper 189 = .ok (.iload_n 2, 1) := by decide +kernel
theorem d_M_upper_190 : decode mb_M_upper 190 = .ok (.invokevirtual 121, 3) := by decide +kernel
theorem d_M_upper_193 : decode mb_M_upper 193 = .ok (.goto 53, 3) := by decide +kernel
theorem d_M_upper_196 : decode mb_M_upper 196 = .ok (.aload_n 0, 1) := by decide +kernel
theorem d_M_upper_197 : decode mb_M_upper 197 = .ok (.iload_n 2, 1) := by decide +kernel
theorem d_M_upper_198 : decode mb_M_upper 198 = .ok (.iconst 0, 1) := by decide +kernel
theorem d_M_upper_199 : decode mb_M_upper 199 = .ok (.invokevirtual 115, 3) := by decide +kernel
theorem d_M_upper_202 : decode mb_M_upper 202 = .ok (.goto 44, 3) := by decide +kernel
theorem d_M_upper_205 : decode mb_M_upper 205 = .ok (.aload_n 0, 1) := by decide +kernel
theorem d_M_upper_206 : decode mb_M_upper 206 = .ok (.iload_n 3, 1) := by decide +kernel
theorem d_M_upper_207 : decode mb_M_upper 207 = .ok (.ifCond .eq 7, 3) := by decide +kernel
theorem d_M_upper_210 : decode mb_M_upper 210 = .ok (.iconst 1, 1) := by decide +kernel
theorem d_M_upper_211 : decode mb_M_upper 211 = .ok (.goto 4, 3) := by decide +kernel
theorem d_M_upper_214 : decode mb_M_upper 214 = .ok (.iconst 3, 1) := by decide +kernel
theorem d_M_upper_215 : decode mb_M_upper 215 = .ok (.iload_n 2, 1) := by decide +kernel
theorem d_M_upper_216 : decode mb_M_upper 216 = .ok (.iconst 0, 1) := by decide +kernel
theorem d_M_upper_217 : decode mb_M_upper 217 = .ok (.invokevirtual 118, 3) := by decide +kernel
theorem d_M_upper_220 : decode mb_M_upper 220 = .ok (.goto 26, 3) := by decide +kernel
theorem d_M_upper_223 : decode mb_M_upper 223 = .ok (.aload_n 0, 1) := by decide +kernel
theorem d_M_upper_224 : decode mb_M_upper 224 = .ok (.iload_n 2, 1) := by decide +kernel
theorem d_M_upper_225 : decode mb_M_upper 225 = .ok (.iload_n 3, 1) := by decide +kernel
theorem d_M_upper_226 : decode mb_M_upper 226 = .ok (.ifCond .eq 7, 3) := by decide +kernel
theorem d_M_upper_229 : decode mb_M_upper 229 = .ok (.iconst 1, 1) := by decide +kernel
theorem d_M_upper_230 : decode mb_M_upper 230 = .ok (.goto 4, 3) := by decide +kernel
theorem d_M_upper_233 : decode mb_M_upper 233 = .ok (.iconst 3, 1) := by decide +kernel
theorem d_M_upper_234 : decode mb_M_upper 234 = .ok (.invokevirtual 115, 3) := by decide +kernel
theorem d_M_upper_237 : decode mb_M_upper 237 = .ok (.goto 9, 3) := by decide +kernel
theorem d_M_upper_240 : decode mb_M_upper 240 = .ok (.aload_n 0, 1) := by decide +kernel
theorem d_M_upper_241 : decode mb_M_upper 241 = .ok (.iload_n 1, 1) := by decide +kernel
theorem d_M_upper_242 : decode mb_M_upper 242 = .ok (.iload_n 2, 1) := by decide +kernel
theorem d_M_upper_243 : decode mb_M_upper 243 = .ok (.invokevirtual 125, 3) := by decide +kernel
theorem d_M_upper_246 : decode mb_M_upper 246 = .ok (.return_, 1) := by decide +kernel
theorem d_M_second_0 : decode mb_M_second 0 = .ok (.aload_n 0, 1) := by decide +kernel
theorem d_M_second_1 : decode mb_M_second 1 = .ok (.invokevirtual 54, 3) := by decide +kernel
theorem d_M_second_4 : decode mb_M_second 4 = .ok (.istore_n 1, 1) := by decide +kernel
theorem d_M_second_5 : decode mb_M_second 5 = .ok (.iload_n 1, 1) := by decide +kernel
theorem d_M_second_6 : decode mb_M_second 6 = .ok (.iconst 4, 1) := by decide +kernel
theorem d_M_second_7 : decode mb_M_second 7 = .ok (.ishr, 1) := by decide +kernel
theorem d_M_second_8 : decode mb_M_second 8 = .ok (.iconst 3, 1) := by decide +kernel
theorem d_M_second_9 : decode mb_M_second 9 = .ok (.iand, 1) := by decide +kernel
theorem d_M_second_10 : decode mb_M_second 10 = .ok (.istore_n 2, 1) := by decide +kernel
theorem d_M_second_11 : decode mb_M_second 11 = .ok (.iload_n 1, 1) := by decide +kernel
theorem d_M_second_12 : decode mb_M_second 12 = .ok (.bipush 15, 2) := by decide +kernel
theorem d_M_second_14 : decode mb_M_second 14 = .ok (.iand, 1) := by decide +kernel
theorem d_M_second_15 : decode mb_M_second 15 = .ok (.istore_n 3, 1) := by decide +kernel
theorem d_M_second_16 : decode mb_M_second 16 = .ok (.iload_n 1, 1) := by decide +kernel
theorem d_M_second_17 : decode mb_M_second 17 = .ok (.sipush 192, 3) := by decide +kernel
theorem d_M_second_20 : decode mb_M_second 20 = .ok (.if_icmp .ge 7, 3) := by decide +kernel
theorem d_M_second_23 : decode mb_M_second 23 = .ok (.iconst 1, 1) := by decide +kernel
theorem d_M_second_24 : decode mb_M_second 24 = .ok (.goto 4, 3) := by decide +kernel
theorem d_M_second_27 : decode mb_M_second 27 = .ok (.iconst 0, 1) := by decide +kernel
theorem d_M_second_28 : decode mb_M_second 28 = .ok (.istore 4, 2) := by decide +kernel
theorem d_M_second_30 : decode mb_M_second 30 = .ok (.iload_n 1, 1) := by decide +kernel
theorem d_M_second_31 : decode mb_M_second 31 = .ok (.sipush 128, 3) := by decide +kernel
theorem d_M_second_34 : decode mb_M_second 34 = .ok (.if_icmp .ge 11, 3) := by decide +kernel
theorem d_M_second_37 : decode mb_M_second 37 = .ok (.aload_n 0, 1) := by decide +kernel
theorem d_M_second_38 : decode mb_M_second 38 = .ok (.iconst 1, 1) := by decide +kernel
theorem d_M_second_39 : decode mb_M_second 39 = .ok (.putfield 76, 3) := by decide +kernel
theorem d_M_second_42 : decode mb_M_second 42 = .ok (.goto 92, 3) := by decide +kernel
theorem d_M_second_45 : decode mb_M_second 45 = .ok (.iload 4, 2) := by decide +kernel
theorem d_M_second_47 : decode mb_M_second 47 = .ok (.ifCond .eq 33, 3) := by decide +kernel
theorem d_M_second_50 : decode mb_M_second 50 = .ok (.iload_n 3, 1) := by decide +kernel
theorem d_M_second_51 : decode mb_M_second 51 = .ok (.iconst 3, 1) := by decide +kernel
theorem d_M_second_52 : decode mb_M_second 52 = .ok (.if_icmp .eq 9, 3) := by decide +kernel
theorem d_M_second_55 : decode mb_M_second 55 = .ok (.iload_n 3, 1) := by decide +kernel
theorem d_M_second_56 : decode mb_M_second 56 = .ok (.bipush 12, 2) := by decide +kernel
theorem d_M_second_58 : decode mb_M_second 58 = .ok (.if_icmp .ne 22, 3) := by decide +kernel
theorem d_M_second_61 : decode mb_M_second 61 = .ok (.aload_n 0, 1) := by decide +kernel
theorem d_M_second_62 : decode mb_M_second 62 = .ok (.iload_n 3, 1) := by decide +kernel
theorem d_M_second_63 : decode mb_M_second 63 = .ok (.iconst 3, 1) := by decide +kernel
theorem d_M_second_64 : decode mb_M_second 64 = .ok (.if_icmp .ne 7, 3) := by decide +kernel
theorem d_M_second_67 : decode mb_M_second 67 = .ok (.iconst 0, 1) := by decide +kernel
theorem d_M_second_68 : decode mb_M_second 68 = .ok (.goto 4, 3) := by decide +kernel
theorem d_M_second_71 : decode mb_M_second 71 = .ok (.iconst 2, 1) := by decide +kernel
theorem d_M_second_72 : decode mb_M_second 72 = .ok (.iload_n 2, 1) := by decide +kernel
theorem d_M_second_73 : decode mb_M_second 73 = .ok (.iconst 1, 1) := by decide +kernel
theorem d_M_second_74 : decode mb_M_second 74 = .ok (.invokevirtual 118, 3) := by decide +kernel
theorem d_M_second_77 : decode mb_M_second 77 = .ok (.goto 57, 3) := by decide +kernel
theorem d_M_second_80 : decode mb_M_second 80 = .ok (.iload_n 3, 1) := by decide +kernel
theorem d_M_second_81 : decode mb_M_second 81 = .ok (.bipush 14, 2) := by decide +kernel
theorem d_M_second_83 : decode mb_M_second 83 = .ok (.if_icmp .ne 22, 3) := by decide +kernel
theorem d_M_second_86 : decode mb_M_second 86 = .ok (.aload_n 0, 1) := by decide +kernel
theorem d_M_second_87 : decode mb_M_second 87 = .ok (.iload 4, 2) := by decide +kernel
theorem d_M_second_89 : decode mb_M_second 89 = .ok (.ifCond .eq 7, 3) := by decide +kernel
theorem d_M_second_92 : decode mb_M_second 92 = .ok (.iconst 2, 1) := by decide +kernel
theorem d_M_second_93 : decode mb_M_second 93 = .ok (.goto 4, 3) := by decide +kernel
theorem d_M_second_96 : decode mb_M_second 96 = .ok (.iconst 4, 1) := by decide +kernel
theorem d_M_second_97 : decode mb_M_second 97 = .ok (.iload_n 2, 1) := by decide +kernel
theorem d_M_second_98 : decode mb_M_second 98 = .ok (.iconst 0, 1) := by decide +kernel
theorem d_M_second_99 : decode mb_M_second 99 = .ok (.invokevirtual 118, 3) := by decide +kernel
theorem d_M_second_102 : decode mb_M_second 102 = .ok (.goto 32, 3) := by decide +kernel
theorem d_M_second_105 : decode mb_M_second 105 = .ok (.iload_n 3, 1) := by decide +kernel
theorem d_M_second_106 : decode mb_M_second 106 = .ok (.bipush 15, 2) := by decide +kernel
theorem d_M_second_108 : decode mb_M_second 108 = .ok (.if_icmp .ne 21, 3) := by decide +kernel
theorem d_M_second_111 : decode mb_M_second 111 = .ok (.aload_n 0, 1) := by decide +kernel
theorem d_M_second_112 : decode mb_M_second 112 = .ok (.iload_n 2, 1) := by decide +kernel
theorem d_M_second_113 : decode mb_M_second 113 = .ok (.iload 4, 2) := by decide +kernel
theorem d_M_second_115 : decode mb_M_second 115 = .ok (.ifCond .eq 7, 3) := by decide +kernel
theorem d_M_second_118 : decode mb_M_second 118 = .ok (.iconst 2, 1) := by decide +kernel
theorem d_M_second_119 : decode mb_M_second 119 = .ok (.goto 4, 3) := by decide +kernel
theorem d_M_second_122 : decode mb_M_second 122 = .ok (.iconst 4, 1) := by decide +kernel
theorem d_M_second_123 : decode mb_M_second 123 = .ok (.invokevirtual 115, 3) := by decide +kernel
theorem d_M_second_126 : decode mb_M_second 126 = .ok (.goto 8, 3) := by decide +kernel
theorem d_M_second_129 : decode mb_M_second 129 = .ok (.aload_n 0, 1) := by decide +kernel
theorem d_M_second_130 : decode mb_M_second 130 = .ok (.iconst 1, 1) := by decide +kernel
theorem d_M_second_131 : decode mb_M_second 131 = .ok (.putfield 76, 3) := by decide +kernel
theorem d_M_second_134 : decode mb_M_second 134 = .ok (.return_, 1) := by decide +kernel
section MODEL
variable {l : Launch} {D : va_G}
variable {h0 h1 h2 h3 h4 h5 h6 h7 : Nat} {cI cT : ClassId} {me : Nat → Int32} {rg : Nat → Int32} {so : Nat → Int32} {sv : Nat → Int32} {tl : Nat → Int32} {su : Nat → Int32} {qu : Nat → Int32} {wa : Int32} {ru : Int32} {pe : Int32} {re : Int32} {pn : Bool} {lo : Int32} {se : Int32} {pa : Int32} {sp : Int32} {iv : Bool}
set_option maxHeartbeats 4000000 in
set_option maxRecDepth 100000 in
theorem c_mo_byteOp {x1 : Int32} {x2 : Int32} {z : (Nat → Int32) × Int32 × Bool} (hf : mo_byteOp x1 x2 me rg sp iv = some z) : co_v l my_M_byteOp mb_M_byteOp 9 rm_m_byteOp D (ty_ cI cT) [.ref h0, .int x1, .int x2] (mw_ h0 h1 h2 h3 h4 h5 h6 h7 cI me rg so sv tl su qu wa ru pe re pn lo se pa sp iv) (mw_ h0 h1 h2 h3 h4 h5 h6 h7 cI me z.1 so sv tl su qu wa ru pe re pn lo se pa z.2.1 z.2.2) := by
  refine co_v_of (by decide) (Nat.le_of_ble_eq_true rfl) ?_
  intro p e s m below meth c A ls X hr hlk hK hP hD hS hA hl
  have hx := X.1
  have hb := X.2.1
  have hl : lv_has ls 9 [(0, .ref h0), (1, .int x1), (2, .int x2)] := hl
  have J202 : ∀ (v3 : Int32) (v4 : Int32) (s0 : Int32) (me : Nat → Int32) (rg : Nat → Int32) (sp : Int32) (iv : Bool), mo_byteOp_j202 v3 v4 s0 me rg sp iv = some z → ∀ (H : Heap) (locs : List Loc) (ls : Array Slot), lv_has ls 9 [(0, .ref h0), (3, .int v3), (4, .int v4)] → va_P D cz_all (mw_ h0 h1 h2 h3 h4 h5 h6 h7 cI me rg so sv tl su qu wa ru pe re pn lo se pa sp iv) H → va_D A (mw_ h0 h1 h2 h3 h4 h5 h6 h7 cI me rg so sv tl su qu wa ru pe re pn lo se pa sp iv) → va_S A s.heap H locs → W p l e rm_m_byteOp s m ([.ref h0, .int x1, .int x2] : List Value).toArray below meth c H locs 0 0 (MQ below (qs_v D (ty_ cI cT) (mw_ h0 h1 h2 h3 h4 h5 h6 h7 cI me z.1 so sv tl su qu wa ru pe re pn lo se pa z.2.1 z.2.2) A) ([.ref h0, .int x1, .int x2] : List Value).toArray s 0 0 A) (F0 m 202 ls [.int s0]) := by
    intro v3 v4 s0 me rg sp iv hf H locs ls hl hP hD hS
    unfold mo_byteOp_j202 at hf
    refine lv_istore hx hb d_M_byteOp_202 hl (by decide) rfl (fun ls hl => ?_)
    have hl : lv_has ls 9 [(8, .int s0), (0, .ref h0), (3, .int v3), (4, .int v4)] := hl
    refine lv_iload hx hb d_M_byteOp_204 (lv_at hl 3 rfl) ?_
    refine lv_iconst (v := (1 : Int32)) hx hb d_M_byteOp_206 (by decide) ?_
    refine lv_icmp_eq (tgt := 223) hx hb d_M_byteOp_207 (by decide) (fun hc => ?_) (fun hc => ?_)
    · replace hf := (if_pos hc).symm.trans hf
      have hq := Option.some.inj hf
      subst hq
      exact rt_v X hr hlk hK hP hD hS d_M_byteOp_223
    · replace hf := (if_neg hc).symm.trans hf
      refine lv_iload hx hb d_M_byteOp_210 (lv_at hl 3 rfl) ?_
      refine lv_iconst (v := (5 : Int32)) hx hb d_M_byteOp_212 (by decide) ?_
      refine lv_icmp_eq (tgt := 223) hx hb d_M_byteOp_213 (by decide) (fun hc => ?_) (fun hc => ?_)
      · replace hf := (if_pos hc).symm.trans hf
        have hq := Option.some.inj hf
        subst hq
        exact rt_v X hr hlk hK hP hD hS d_M_byteOp_223
      · replace hf := (if_neg hc).symm.trans hf
        refine lv_aload_n hx hb d_M_byteOp_216 rfl (lv_at hl 1 rfl) ?_
        refine lv_iload_n hx hb d_M_byteOp_217 rfl (lv_at hl 2 rfl) ?_
        refine lv_iload hx hb d_M_byteOp_218 (lv_at hl 0 rfl) ?_
        obtain ⟨z17, hz17, hf⟩ := op_b hf
        refine cl_v X cw_M_51 hK hP hD hS hA hl (c_mo_set hz17) ⟨rfl, rfl, Nat.le_of_ble_eq_true rfl, Nat.le_of_ble_eq_true rfl⟩ 0 rfl rfl rfl rfl rfl (Nat.le_of_ble_eq_true rfl) d_M_byteOp_220 (fun H locs hP hD hS => ?_)
        have hq := Option.some.inj hf
        subst hq
        exact rt_v X hr hlk hK hP hD hS d_M_byteOp_223
  have J197 : ∀ (v3 : Int32) (v4 : Int32) (s0 : Int32) (me : Nat → Int32) (rg : Nat → Int32) (sp : Int32) (iv : Bool), mo_byteOp_j197 v3 v4 s0 me rg sp iv = some z → ∀ (H : Heap) (locs : List Loc) (ls : Array Slot), lv_has ls 9 [(0, .ref h0), (3, .int v3), (4, .int v4)] → va_P D cz_all (mw_ h0 h1 h2 h3 h4 h5 h6 h7 cI me rg so sv tl su qu wa ru pe re pn lo se pa sp iv) H → va_D A (mw_ h0 h1 h2 h3 h4 h5 h6 h7 cI me rg so sv tl su qu wa ru pe re pn lo se pa sp iv) → va_S A s.heap H locs → W p l e rm_m_byteOp s m ([.ref h0, .int x1, .int x2] : List Value).toArray below meth c H locs 0 0 (MQ below (qs_v D (ty_ cI cT) (mw_ h0 h1 h2 h3 h4 h5 h6 h7 cI me z.1 so sv tl su qu wa ru pe re pn lo se pa z.2.1 z.2.2) A) ([.ref h0, .int x1, .int x2] : List Value).toArray s 0 0 A) (F0 m 197 ls [.int s0, .ref h0]) := by
    intro v3 v4 s0 me rg sp iv hf H locs ls hl hP hD hS
    unfold mo_byteOp_j197 at hf
    refine lv_bipush (v := (8 : Int32)) hx hb d_M_byteOp_197 (by decide) ?_
    obtain ⟨z18, hz18, hf⟩ := op_b hf
    refine cl_i X cw_M_95 hK hP hD hS hA hl (c_mo_plain hz18) ⟨rfl, rfl, Nat.le_of_ble_eq_true rfl, Nat.le_of_ble_eq_true rfl⟩ 0 rfl rfl rfl rfl rfl (Nat.le_of_ble_eq_true rfl) d_M_byteOp_199 (fun H locs hP hD hS => ?_)
    exact J202 v3 v4 z18.1 me z18.2 sp iv hf _ _ _ hl hP hD hS
  have J157 : ∀ (v3 : Int32) (v4 : Int32) (v5 : Int32) (v6 : Int32) (me : Nat → Int32) (rg : Nat → Int32) (sp : Int32) (iv : Bool), mo_byteOp_j157 v3 v4 v5 v6 me rg sp iv = some z → ∀ (H : Heap) (locs : List Loc) (ls : Array Slot), lv_has ls 9 [(0, .ref h0), (3, .int v3), (4, .int v4), (5, .int v5), (6, .int v6)] → va_P D cz_all (mw_ h0 h1 h2 h3 h4 h5 h6 h7 cI me rg so sv tl su qu wa ru pe re pn lo se pa sp iv) H → va_D A (mw_ h0 h1 h2 h3 h4 h5 h6 h7 cI me rg so sv tl su qu wa ru pe re pn lo se pa sp iv) → va_S A s.heap H locs → W p l e rm_m_byteOp s m ([.ref h0, .int x1, .int x2] : List Value).toArray below meth c H locs 0 0 (MQ below (qs_v D (ty_ cI cT) (mw_ h0 h1 h2 h3 h4 h5 h6 h7 cI me z.1 so sv tl su qu wa ru pe re pn lo se pa z.2.1 z.2.2) A) ([.ref h0, .int x1, .int x2] : List Value).toArray s 0 0 A) (F0 m 157 ls [.ref h0]) := by
    intro v3 v4 v5 v6 me rg sp iv hf H locs ls hl hP hD hS
    unfold mo_byteOp_j157 at hf
    refine lv_iload hx hb d_M_byteOp_157 (lv_at hl 4 rfl) ?_
    refine lv_iload hx hb d_M_byteOp_159 (lv_at hl 3 rfl) ?_
    refine lv_iand hx hb d_M_byteOp_161 ?_
    refine lv_goto (tgt := 197) hx hb d_M_byteOp_162 (by decide) ?_
    exact J197 v3 v4 (v6 &&& v5) me rg sp iv hf _ _ _ (lv_sub hl [0, 1, 2] rfl) hP hD hS
  have J58 : ∀ (v3 : Int32) (v4 : Int32) (v5 : Int32) (v6 : Int32) (s0 : Bool) (me : Nat → Int32) (rg : Nat → Int32) (sp : Int32) (iv : Bool), mo_byteOp_j58 v3 v4 v5 v6 s0 me rg sp iv = some z → ∀ (H : Heap) (locs : List Loc) (ls : Array Slot), lv_has ls 9 [(0, .ref h0), (3, .int v3), (4, .int v4), (5, .int v5), (6, .int v6)] → va_P D cz_all (mw_ h0 h1 h2 h3 h4 h5 h6 h7 cI me rg so sv tl su qu wa ru pe re pn lo se pa sp iv) H → va_D A (mw_ h0 h1 h2 h3 h4 h5 h6 h7 cI me rg so sv tl su qu wa ru pe re pn lo se pa sp iv) → va_S A s.heap H locs → W p l e rm_m_byteOp s m ([.ref h0, .int x1, .int x2] : List Value).toArray below meth c H locs 0 0 (MQ below (qs_v D (ty_ cI cT) (mw_ h0 h1 h2 h3 h4 h5 h6 h7 cI me z.1 so sv tl su qu wa ru pe re pn lo se pa z.2.1 z.2.2) A) ([.ref h0, .int x1, .int x2] : List Value).toArray s 0 0 A) (F0 m 58 ls [.int (bz_i s0)]) := by
    intro v3 v4 v5 v6 s0 me rg sp iv hf H locs ls hl hP hD hS
    unfold mo_byteOp_j58 at hf
    refine lv_istore hx hb d_M_byteOp_58 hl (by decide) rfl (fun ls hl => ?_)
    have hl : lv_has ls 9 [(7, .int (bz_i s0)), (0, .ref h0), (3, .int v3), (4, .int v4), (5, .int v5), (6, .int v6)] := hl
    refine lv_iload hx hb d_M_byteOp_60 (lv_at hl 3 rfl) ?_
    refine lv_iconst (v := (2 : Int32)) hx hb d_M_byteOp_62 (by decide) ?_
    refine lv_icmp_ge (tgt := 80) hx hb d_M_byteOp_63 (by decide) (fun hc => ?_) (fun hc => ?_)
    · replace hf := (if_pos hc).symm.trans hf
      refine lv_iload hx hb d_M_byteOp_80 (lv_at hl 3 rfl) ?_
      refine lv_iconst (v := (2 : Int32)) hx hb d_M_byteOp_82 (by decide) ?_
      refine lv_icmp_ne (tgt := 101) hx hb d_M_byteOp_83 (by decide) (fun hc => ?_) (fun hc => ?_)
      · replace hf := (if_neg hc).symm.trans hf
        refine lv_iload hx hb d_M_byteOp_101 (lv_at hl 3 rfl) ?_
        refine lv_bipush (v := (9 : Int32)) hx hb d_M_byteOp_103 (by decide) ?_
        refine lv_icmp_ne (tgt := 123) hx hb d_M_byteOp_105 (by decide) (fun hc => ?_) (fun hc => ?_)
        · replace hf := (if_neg hc).symm.trans hf
          refine lv_iload hx hb d_M_byteOp_123 (lv_at hl 3 rfl) ?_
          refine lv_bipush (v := (11 : Int32)) hx hb d_M_byteOp_125 (by decide) ?_
          refine lv_icmp_ne (tgt := 144) hx hb d_M_byteOp_127 (by decide) (fun hc => ?_) (fun hc => ?_)
          · replace hf := (if_neg hc).symm.trans hf
            refine lv_aload_n hx hb d_M_byteOp_144 rfl (lv_at hl 1 rfl) ?_
            refine lv_iload hx hb d_M_byteOp_145 (lv_at hl 3 rfl) ?_
            refine lv_iconst (v := (4 : Int32)) hx hb d_M_byteOp_147 (by decide) ?_
            refine lv_icmp_eq (tgt := 157) hx hb d_M_byteOp_148 (by decide) (fun hc => ?_) (fun hc => ?_)
            · replace hf := (if_pos hc).symm.trans hf
              exact J157 v3 v4 v5 v6 me rg sp iv hf _ _ _ (lv_sub hl [1, 2, 3, 4, 5] rfl) hP hD hS
            · replace hf := (if_neg hc).symm.trans hf
              refine lv_iload hx hb d_M_byteOp_151 (lv_at hl 3 rfl) ?_
              refine lv_iconst (v := (5 : Int32)) hx hb d_M_byteOp_153 (by decide) ?_
              refine lv_icmp_ne (tgt := 165) hx hb d_M_byteOp_154 (by decide) (fun hc => ?_) (fun hc => ?_)
              · replace hf := (if_neg hc).symm.trans hf
                refine lv_iload hx hb d_M_byteOp_165 (lv_at hl 3 rfl) ?_
                refine lv_bipush (v := (6 : Int32)) hx hb d_M_byteOp_167 (by decide) ?_
                refine lv_icmp_ne (tgt := 177) hx hb d_M_byteOp_169 (by decide) (fun hc => ?_) (fun hc => ?_)
                · replace hf := (if_neg hc).symm.trans hf
                  refine lv_iload hx hb d_M_byteOp_177 (lv_at hl 3 rfl) ?_
                  refine lv_bipush (v := (8 : Int32)) hx hb d_M_byteOp_179 (by decide) ?_
                  refine lv_icmp_ne (tgt := 192) hx hb d_M_byteOp_181 (by decide) (fun hc => ?_) (fun hc => ?_)
                  · replace hf := (if_neg hc).symm.trans hf
                    refine lv_iload hx hb d_M_byteOp_192 (lv_at hl 5 rfl) ?_
                    refine lv_iload hx hb d_M_byteOp_194 (lv_at hl 4 rfl) ?_
                    refine lv_ior hx hb d_M_byteOp_196 ?_
                    exact J197 v3 v4 (v6 ||| v5) me rg sp iv hf _ _ _ (lv_sub hl [1, 2, 3] rfl) hP hD hS
                  · replace hf := (if_pos hc).symm.trans hf
                    refine lv_iload hx hb d_M_byteOp_184 (lv_at hl 5 rfl) ?_
                    refine lv_iload hx hb d_M_byteOp_186 (lv_at hl 4 rfl) ?_
                    refine lv_ixor hx hb d_M_byteOp_188 ?_
                    refine lv_goto (tgt := 197) hx hb d_M_byteOp_189 (by decide) ?_
                    exact J197 v3 v4 (v6 ^^^ v5) me rg sp iv hf _ _ _ (lv_sub hl [1, 2, 3] rfl) hP hD hS
                · replace hf := (if_pos hc).symm.trans hf
                  refine lv_iload hx hb d_M_byteOp_172 (lv_at hl 4 rfl) ?_
                  refine lv_goto (tgt := 197) hx hb d_M_byteOp_174 (by decide) ?_
                  exact J197 v3 v4 v5 me rg sp iv hf _ _ _ (lv_sub hl [1, 2, 3] rfl) hP hD hS
              · replace hf := (if_pos hc).symm.trans hf
                exact J157 v3 v4 v5 v6 me rg sp iv hf _ _ _ (lv_sub hl [1, 2, 3, 4, 5] rfl) hP hD hS
          · replace hf := (if_pos hc).symm.trans hf
            refine lv_aload_n hx hb d_M_byteOp_130 rfl (lv_at hl 1 rfl) ?_
            refine lv_iload hx hb d_M_byteOp_131 (lv_at hl 5 rfl) ?_
            refine lv_iload hx hb d_M_byteOp_133 (lv_at hl 4 rfl) ?_
            refine lv_iconst (v := (0 : Int32)) hx hb d_M_byteOp_135 (by decide) ?_
            refine lv_bipush (v := (8 : Int32)) hx hb d_M_byteOp_136 (by decide) ?_
            obtain ⟨z19, hz19, hf⟩ := op_b hf
            refine cl_i X cw_M_109 hK hP hD hS hA hl (c_mo_sum hz19) ⟨rfl, rfl, Nat.le_of_ble_eq_true rfl, Nat.le_of_ble_eq_true rfl⟩ 0 rfl rfl rfl rfl rfl (Nat.le_of_ble_eq_true rfl) d_M_byteOp_138 (fun H locs hP hD hS => ?_)
            refine lv_goto (tgt := 202) hx hb d_M_byteOp_141 (by decide) ?_
            exact J202 v3 v4 z19.1 me z19.2 sp iv hf _ _ _ (lv_sub hl [1, 2, 3] rfl) hP hD hS
        · replace hf := (if_pos hc).symm.trans hf
          refine lv_aload_n hx hb d_M_byteOp_108 rfl (lv_at hl 1 rfl) ?_
          refine lv_iload hx hb d_M_byteOp_109 (lv_at hl 5 rfl) ?_
          refine lv_iload hx hb d_M_byteOp_111 (lv_at hl 4 rfl) ?_
          refine lv_iload hx hb d_M_byteOp_113 (lv_at hl 0 rfl) ?_
          refine lv_bipush (v := (8 : Int32)) hx hb d_M_byteOp_115 (by decide) ?_
          obtain ⟨z20, hz20, hf⟩ := op_b hf
          refine cl_i X cw_M_109 hK hP hD hS hA hl (c_mo_sum hz20) ⟨rfl, rfl, Nat.le_of_ble_eq_true rfl, Nat.le_of_ble_eq_true rfl⟩ 0 rfl rfl rfl rfl rfl (Nat.le_of_ble_eq_true rfl) d_M_byteOp_117 (fun H locs hP hD hS => ?_)
          refine lv_goto (tgt := 202) hx hb d_M_byteOp_120 (by decide) ?_
          exact J202 v3 v4 z20.1 me z20.2 sp iv hf _ _ _ (lv_sub hl [1, 2, 3] rfl) hP hD hS
      · replace hf := (if_pos hc).symm.trans hf
        refine lv_aload_n hx hb d_M_byteOp_86 rfl (lv_at hl 1 rfl) ?_
        refine lv_iload hx hb d_M_byteOp_87 (lv_at hl 5 rfl) ?_
        refine lv_iload hx hb d_M_byteOp_89 (lv_at hl 4 rfl) ?_
        refine lv_iload hx hb d_M_byteOp_91 (lv_at hl 0 rfl) ?_
        refine lv_bipush (v := (8 : Int32)) hx hb d_M_byteOp_93 (by decide) ?_
        obtain ⟨z21, hz21, hf⟩ := op_b hf
        refine cl_i X cw_M_105 hK hP hD hS hA hl (c_mo_difference hz21) ⟨rfl, rfl, Nat.le_of_ble_eq_true rfl, Nat.le_of_ble_eq_true rfl⟩ 0 rfl rfl rfl rfl rfl (Nat.le_of_ble_eq_true rfl) d_M_byteOp_95 (fun H locs hP hD hS => ?_)
        refine lv_goto (tgt := 202) hx hb d_M_byteOp_98 (by decide) ?_
        exact J202 v3 v4 z21.1 me z21.2 sp iv hf _ _ _ (lv_sub hl [1, 2, 3] rfl) hP hD hS
    · replace hf := (if_neg hc).symm.trans hf
      refine lv_aload_n hx hb d_M_byteOp_66 rfl (lv_at hl 1 rfl) ?_
      refine lv_iload hx hb d_M_byteOp_67 (lv_at hl 5 rfl) ?_
      refine lv_iload hx hb d_M_byteOp_69 (lv_at hl 4 rfl) ?_
      refine lv_iconst (v := (0 : Int32)) hx hb d_M_byteOp_71 (by decide) ?_
      refine lv_bipush (v := (8 : Int32)) hx hb d_M_byteOp_72 (by decide) ?_
      obtain ⟨z22, hz22, hf⟩ := op_b hf
      refine cl_i X cw_M_105 hK hP hD hS hA hl (c_mo_difference hz22) ⟨rfl, rfl, Nat.le_of_ble_eq_true rfl, Nat.le_of_ble_eq_true rfl⟩ 0 rfl rfl rfl rfl rfl (Nat.le_of_ble_eq_true rfl) d_M_byteOp_74 (fun H locs hP hD hS => ?_)
      refine lv_goto (tgt := 202) hx hb d_M_byteOp_77 (by decide) ?_
      exact J202 v3 v4 z22.1 me z22.2 sp iv hf _ _ _ (lv_sub hl [1, 2, 3] rfl) hP hD hS
  have J14 : ∀ (v1 : Int32) (v2 : Int32) (s0 : Int32) (me : Nat → Int32) (rg : Nat → Int32) (sp : Int32) (iv : Bool), mo_byteOp_j14 v1 v2 s0 me rg sp iv = some z → ∀ (H : Heap) (locs : List Loc) (ls : Array Slot), lv_has ls 9 [(0, .ref h0), (1, .int v1), (2, .int v2)] → va_P D cz_all (mw_ h0 h1 h2 h3 h4 h5 h6 h7 cI me rg so sv tl su qu wa ru pe re pn lo se pa sp iv) H → va_D A (mw_ h0 h1 h2 h3 h4 h5 h6 h7 cI me rg so sv tl su qu wa ru pe re pn lo se pa sp iv) → va_S A s.heap H locs → W p l e rm_m_byteOp s m ([.ref h0, .int x1, .int x2] : List Value).toArray below meth c H locs 0 0 (MQ below (qs_v D (ty_ cI cT) (mw_ h0 h1 h2 h3 h4 h5 h6 h7 cI me z.1 so sv tl su qu wa ru pe re pn lo se pa z.2.1 z.2.2) A) ([.ref h0, .int x1, .int x2] : List Value).toArray s 0 0 A) (F0 m 14 ls [.int s0]) := by
    intro v1 v2 s0 me rg sp iv hf H locs ls hl hP hD hS
    unfold mo_byteOp_j14 at hf
    refine lv_istore_n hx hb d_M_byteOp_14 rfl hl (by decide) rfl (fun ls hl => ?_)
    have hl : lv_has ls 9 [(3, .int s0), (0, .ref h0), (1, .int v1), (2, .int v2)] := hl
    refine lv_iload_n hx hb d_M_byteOp_15 rfl (lv_at hl 2 rfl) ?_
    refine lv_bipush (v := (15 : Int32)) hx hb d_M_byteOp_16 (by decide) ?_
    refine lv_iand hx hb d_M_byteOp_18 ?_
    refine lv_istore hx hb d_M_byteOp_19 hl (by decide) rfl (fun ls hl => ?_)
    have hl : lv_has ls 9 [(4, .int (v1 &&& (15 : Int32))), (3, .int s0), (0, .ref h0), (1, .int v1), (2, .int v2)] := hl
    refine lv_aload_n hx hb d_M_byteOp_21 rfl (lv_at hl 2 rfl) ?_
    refine lv_iload_n hx hb d_M_byteOp_22 rfl (lv_at hl 4 rfl) ?_
    refine lv_iconst (v := (0 : Int32)) hx hb d_M_byteOp_23 (by decide) ?_
    obtain ⟨z23, hz23, hf⟩ := op_b hf
    refine cl_i X cw_M_98 hK hP hD hS hA hl (c_mo_operand hz23) ⟨rfl, rfl, Nat.le_of_ble_eq_true rfl, Nat.le_of_ble_eq_true rfl⟩ 0 rfl rfl rfl rfl rfl (Nat.le_of_ble_eq_true rfl) d_M_byteOp_24 (fun H locs hP hD hS => ?_)
    refine lv_istore hx hb d_M_byteOp_27 hl (by decide) rfl (fun ls hl => ?_)
    have hl : lv_has ls 9 [(5, .int z23.1), (4, .int (v1 &&& (15 : Int32))), (3, .int s0), (0, .ref h0), (1, .int v1), (2, .int v2)] := hl
    refine lv_aload_n hx hb d_M_byteOp_29 rfl (lv_at hl 3 rfl) ?_
    refine mg_invalid X hK hP d_M_byteOp_30 ?_
    refine lv_if_eq (tgt := 37) hx hb d_M_byteOp_33 (by decide) (fun hc => ?_) (fun hc => ?_)
    · replace hf := (if_pos hc).symm.trans hf
      refine lv_aload_n hx hb d_M_byteOp_37 rfl (lv_at hl 3 rfl) ?_
      refine mg_reg X hK hP d_M_byteOp_38 ?_
      refine lv_iload_n hx hb d_M_byteOp_41 rfl (lv_at hl 2 rfl) ?_
      obtain ⟨hi24, hf⟩ := op_c hf
      refine ma_rg (k := (s0.toNatClampNeg)) X hK hP hi24 rfl d_M_byteOp_42 ?_
      refine lv_istore hx hb d_M_byteOp_43 hl (by decide) rfl (fun ls hl => ?_)
      have hl : lv_has ls 9 [(6, .int (z23.2.1 (s0.toNatClampNeg))), (5, .int z23.1), (4, .int (v1 &&& (15 : Int32))), (3, .int s0), (0, .ref h0), (1, .int v1), (2, .int v2)] := hl
      refine lv_aload_n hx hb d_M_byteOp_45 rfl (lv_at hl 4 rfl) ?_
      refine lv_iconst (v := (1 : Int32)) hx hb d_M_byteOp_46 (by decide) ?_
      obtain ⟨z25, hz25, hf⟩ := op_b hf
      refine cl_i X cw_M_101 hK hP hD hS hA hl (c_mo_flag hz25) ⟨rfl, rfl, Nat.le_of_ble_eq_true rfl, Nat.le_of_ble_eq_true rfl⟩ 0 rfl rfl rfl rfl rfl (Nat.le_of_ble_eq_true rfl) d_M_byteOp_47 (fun H locs hP hD hS => ?_)
      refine lv_if_eq (tgt := 57) hx hb d_M_byteOp_50 (by decide) (fun hc => ?_) (fun hc => ?_)
      · replace hf := (if_pos hc).symm.trans hf
        refine lv_iconst (v := (0 : Int32)) hx hb d_M_byteOp_57 (by decide) ?_
        exact J58 s0 (v1 &&& (15 : Int32)) z23.1 (z23.2.1 (s0.toNatClampNeg)) false me z23.2.1 z23.2.2.1 z23.2.2.2 hf _ _ _ (lv_sub hl [4, 3, 2, 1, 0] rfl) hP hD hS
      · replace hf := (if_neg hc).symm.trans hf
        refine lv_iconst (v := (1 : Int32)) hx hb d_M_byteOp_53 (by decide) ?_
        refine lv_goto (tgt := 58) hx hb d_M_byteOp_54 (by decide) ?_
        exact J58 s0 (v1 &&& (15 : Int32)) z23.1 (z23.2.1 (s0.toNatClampNeg)) true me z23.2.1 z23.2.2.1 z23.2.2.2 hf _ _ _ (lv_sub hl [4, 3, 2, 1, 0] rfl) hP hD hS
    · replace hf := (if_neg hc).symm.trans hf
      have hq := Option.some.inj hf
      subst hq
      exact rt_v X hr hlk hK hP hD hS d_M_byteOp_36
  unfold mo_byteOp at hf
  refine lv_iload_n hx hb d_M_byteOp_0 rfl (lv_at hl 1 rfl) ?_
  refine lv_sipush (v := (192 : Int32)) hx hb d_M_byteOp_1 (by decide) ?_
  refine lv_icmp_ge (tgt := 12) hx hb d_M_byteOp_4 (by decide) (fun hc => ?_) (fun hc => ?_)
  · replace hf := (if_pos hc).symm.trans hf
    refine lv_bipush (v := (9 : Int32)) hx hb d_M_byteOp_12 (by decide) ?_
    exact J14 x1 x2 (9 : Int32) me rg sp iv hf _ _ _ hl hP hD hS
  · replace hf := (if_neg hc).symm.trans hf
    refine lv_bipush (v := (8 : Int32)) hx hb d_M_byteOp_7 (by decide) ?_
    refine lv_goto (tgt := 14) hx hb d_M_byteOp_9 (by decide) ?_
    exact J14 x1 x2 (8 : Int32) me rg sp iv hf _ _ _ hl hP hD hS
set_option maxHeartbeats 4000000 in
set_option maxRecDepth 100000 in
theorem c_mo_wordOp {x1 : Int32} {x2 : Int32} {x3 : Bool} {z : (Nat → Int32) × Int32 × Bool} (hf : mo_wordOp x1 x2 x3 me rg sp iv = some z) : co_v l my_M_wordOp mb_M_wordOp 5 rm_m_wordOp D (ty_ cI cT) [.ref h0, .int x1, .int x2, .int (bz_i x3)] (mw_ h0 h1 h2 h3 h4 h5 h6 h7 cI me rg so sv tl su qu wa ru pe re pn lo se pa sp iv) (mw_ h0 h1 h2 h3 h4 h5 h6 h7 cI me z.1 so sv tl su qu wa ru pe re pn lo se pa z.2.1 z.2.2) := by
  refine co_v_of (by decide) (Nat.le_of_ble_eq_true rfl) ?_
  intro p e s m below meth c A ls X hr hlk hK hP hD hS hA hl
  have hx := X.1
  have hb := X.2.1
  have hl : lv_has ls 5 [(0, .ref h0), (1, .int x1), (2, .int x2), (3, .int (bz_i x3))] := hl
  unfold mo_wordOp at hf
  refine lv_aload_n hx hb d_M_wordOp_0 rfl (lv_at hl 0 rfl) ?_
  refine lv_iload_n hx hb d_M_wordOp_1 rfl (lv_at hl 2 rfl) ?_
  refine lv_iconst (v := (1 : Int32)) hx hb d_M_wordOp_2 (by decide) ?_
  obtain ⟨z6, hz6, hf⟩ := op_b hf
  refine cl_i X cw_M_98 hK hP hD hS hA hl (c_mo_operand hz6) ⟨rfl, rfl, Nat.le_of_ble_eq_true rfl, Nat.le_of_ble_eq_true rfl⟩ 0 rfl rfl rfl rfl rfl (Nat.le_of_ble_eq_true rfl) d_M_wordOp_3 (fun H locs hP hD hS => ?_)
  refine lv_istore hx hb d_M_wordOp_6 hl (by decide) rfl (fun ls hl => ?_)
  have hl : lv_has ls 5 [(4, .int z6.1), (0, .ref h0), (1, .int x1), (2, .int x2), (3, .int (bz_i x3))] := hl
  refine lv_aload_n hx hb d_M_wordOp_8 rfl (lv_at hl 1 rfl) ?_
  refine mg_invalid X hK hP d_M_wordOp_9 ?_
  refine lv_if_eq (tgt := 16) hx hb d_M_wordOp_12 (by decide) (fun hc => ?_) (fun hc => ?_)
  · replace hf := (if_pos hc).symm.trans hf
    refine lv_iload_n hx hb d_M_wordOp_16 rfl (lv_at hl 4 rfl) ?_
    refine lv_if_eq (tgt := 38) hx hb d_M_wordOp_17 (by decide) (fun hc => ?_) (fun hc => ?_)
    · replace hf := (if_pos hc).symm.trans hf
      refine lv_aload_n hx hb d_M_wordOp_38 rfl (lv_at hl 1 rfl) ?_
      refine lv_iload_n hx hb d_M_wordOp_39 rfl (lv_at hl 2 rfl) ?_
      refine lv_aload_n hx hb d_M_wordOp_40 rfl (lv_at hl 1 rfl) ?_
      refine lv_iload hx hb d_M_wordOp_41 (lv_at hl 0 rfl) ?_
      refine lv_bipush (v := (16 : Int32)) hx hb d_M_wordOp_43 (by decide) ?_
      obtain ⟨z7, hz7, hf⟩ := op_b hf
      refine cl_i X cw_M_95 hK hP hD hS hA hl (c_mo_plain hz7) ⟨rfl, rfl, Nat.le_of_ble_eq_true rfl, Nat.le_of_ble_eq_true rfl⟩ 0 rfl rfl rfl rfl rfl (Nat.le_of_ble_eq_true rfl) d_M_wordOp_45 (fun H locs hP hD hS => ?_)
      obtain ⟨z8, hz8, hf⟩ := op_b hf
      refine cl_v X cw_M_51 hK hP hD hS hA hl (c_mo_set hz8) ⟨rfl, rfl, Nat.le_of_ble_eq_true rfl, Nat.le_of_ble_eq_true rfl⟩ 0 rfl rfl rfl rfl rfl (Nat.le_of_ble_eq_true rfl) d_M_wordOp_48 (fun H locs hP hD hS => ?_)
      have hq := Option.some.inj hf
      subst hq
      exact rt_v X hr hlk hK hP hD hS d_M_wordOp_51
    · replace hf := (if_neg hc).symm.trans hf
      refine lv_aload_n hx hb d_M_wordOp_20 rfl (lv_at hl 1 rfl) ?_
      refine lv_aload_n hx hb d_M_wordOp_21 rfl (lv_at hl 1 rfl) ?_
      refine lv_iload_n hx hb d_M_wordOp_22 rfl (lv_at hl 2 rfl) ?_
      obtain ⟨z9, hz9, hf⟩ := op_b hf
      refine cl_i X cw_M_89 hK hP hD hS hA hl (c_mo_get hz9) ⟨rfl, rfl, Nat.le_of_ble_eq_true rfl, Nat.le_of_ble_eq_true rfl⟩ 0 rfl rfl rfl rfl rfl (Nat.le_of_ble_eq_true rfl) d_M_wordOp_23 (fun H locs hP hD hS => ?_)
      refine lv_iload hx hb d_M_wordOp_26 (lv_at hl 0 rfl) ?_
      refine lv_iconst (v := (0 : Int32)) hx hb d_M_wordOp_28 (by decide) ?_
      refine lv_bipush (v := (16 : Int32)) hx hb d_M_wordOp_29 (by decide) ?_
      obtain ⟨z10, hz10, hf⟩ := op_b hf
      refine cl_i X cw_M_105 hK hP hD hS hA hl (c_mo_difference hz10) ⟨rfl, rfl, Nat.le_of_ble_eq_true rfl, Nat.le_of_ble_eq_true rfl⟩ 0 rfl rfl rfl rfl rfl (Nat.le_of_ble_eq_true rfl) d_M_wordOp_31 (fun H locs hP hD hS => ?_)
      refine lv_pop hx hb d_M_wordOp_34 rfl ?_
      refine lv_goto (tgt := 51) hx hb d_M_wordOp_35 (by decide) ?_
      have hq := Option.some.inj hf
      subst hq
      exact rt_v X hr hlk hK hP hD hS d_M_wordOp_51
  · replace hf := (if_neg hc).symm.trans hf
    have hq := Option.some.inj hf
    subst hq
    exact rt_v X hr hlk hK hP hD hS d_M_wordOp_15
set_option maxHeartbeats 4000000 in
set_option maxRecDepth 100000 in
theorem c_mo_call {x1 : Int32} {z : (Nat → Int32) × (Nat → Int32) × Int32 × Bool} (hf : mo_call x1 me rg sp iv = some z) : co_v l my_M_call mb_M_call 4 rm_m_call D (ty_ cI cT) [.ref h0, .int x1] (mw_ h0 h1 h2 h3 h4 h5 h6 h7 cI me rg so sv tl su qu wa ru pe re pn lo se pa sp iv) (mw_ h0 h1 h2 h3 h4 h5 h6 h7 cI z.1 z.2.1 so sv tl su qu wa ru pe re pn lo se pa z.2.2.1 z.2.2.2) := by
  refine co_v_of (by decide) (Nat.le_of_ble_eq_true rfl) ?_
  intro p e s m below meth c A ls X hr hlk hK hP hD hS hA hl
  have hx := X.1
  have hb := X.2.1
  have hl : lv_has ls 4 [(0, .ref h0), (1, .int x1)] := hl
  have J32 : ∀ (v2 : Int32) (me : Nat → Int32) (rg : Nat → Int32) (sp : Int32) (iv : Bool), mo_call_j32 v2 me rg sp iv = some z → ∀ (H : Heap) (locs : List Loc) (ls : Array Slot), lv_has ls 4 [(0, .ref h0), (2, .int v2)] → va_P D cz_all (mw_ h0 h1 h2 h3 h4 h5 h6 h7 cI me rg so sv tl su qu wa ru pe re pn lo se pa sp iv) H → va_D A (mw_ h0 h1 h2 h3 h4 h5 h6 h7 cI me rg so sv tl su qu wa ru pe re pn lo se pa sp iv) → va_S A s.heap H locs → W p l e rm_m_call s m ([.ref h0, .int x1] : List Value).toArray below meth c H locs 0 0 (MQ below (qs_v D (ty_ cI cT) (mw_ h0 h1 h2 h3 h4 h5 h6 h7 cI z.1 z.2.1 so sv tl su qu wa ru pe re pn lo se pa z.2.2.1 z.2.2.2) A) ([.ref h0, .int x1] : List Value).toArray s 0 0 A) (F0 m 32 ls []) := by
    intro v2 me rg sp iv hf H locs ls hl hP hD hS
    unfold mo_call_j32 at hf
    refine lv_aload_n hx hb d_M_call_32 rfl (lv_at hl 0 rfl) ?_
    refine mg_invalid X hK hP d_M_call_33 ?_
    refine lv_if_eq (tgt := 40) hx hb d_M_call_36 (by decide) (fun hc => ?_) (fun hc => ?_)
    · replace hf := (if_pos hc).symm.trans hf
      refine lv_aload_n hx hb d_M_call_40 rfl (lv_at hl 0 rfl) ?_
      refine lv_iconst (v := (4 : Int32)) hx hb d_M_call_41 (by decide) ?_
      refine lv_iconst (v := (5 : Int32)) hx hb d_M_call_42 (by decide) ?_
      obtain ⟨z6, hz6, hf⟩ := op_b hf
      refine cl_v X cw_M_112 hK hP hD hS hA hl (c_mo_push hz6) ⟨rfl, rfl, Nat.le_of_ble_eq_true rfl, Nat.le_of_ble_eq_true rfl⟩ 0 rfl rfl rfl rfl rfl (Nat.le_of_ble_eq_true rfl) d_M_call_43 (fun H locs hP hD hS => ?_)
      refine lv_aload_n hx hb d_M_call_46 rfl (lv_at hl 0 rfl) ?_
      refine lv_iconst (v := (5 : Int32)) hx hb d_M_call_47 (by decide) ?_
      refine lv_iload_n hx hb d_M_call_48 rfl (lv_at hl 1 rfl) ?_
      obtain ⟨z7, hz7, hf⟩ := op_b hf
      refine cl_v X cw_M_51 hK hP hD hS hA hl (c_mo_set hz7) ⟨rfl, rfl, Nat.le_of_ble_eq_true rfl, Nat.le_of_ble_eq_true rfl⟩ 0 rfl rfl rfl rfl rfl (Nat.le_of_ble_eq_true rfl) d_M_call_49 (fun H locs hP hD hS => ?_)
      have hq := Option.some.inj hf
      subst hq
      exact rt_v X hr hlk hK hP hD hS d_M_call_52
    · replace hf := (if_neg hc).symm.trans hf
      have hq := Option.some.inj hf
      subst hq
      exact rt_v X hr hlk hK hP hD hS d_M_call_39
  unfold mo_call at hf
  refine lv_iconst (v := (0 : Int32)) hx hb d_M_call_0 (by decide) ?_
  refine lv_istore_n hx hb d_M_call_1 rfl hl (by decide) rfl (fun ls hl => ?_)
  have hl : lv_has ls 4 [(2, .int (0 : Int32)), (0, .ref h0), (1, .int x1)] := hl
  refine lv_iload_n hx hb d_M_call_2 rfl (lv_at hl 2 rfl) ?_
  refine lv_if_ne (tgt := 26) hx hb d_M_call_3 (by decide) (fun hc => ?_) (fun hc => ?_)
  · replace hf := (if_neg hc).symm.trans hf
    refine lv_aload_n hx hb d_M_call_26 rfl (lv_at hl 1 rfl) ?_
    refine lv_iload_n hx hb d_M_call_27 rfl (lv_at hl 2 rfl) ?_
    obtain ⟨z8, hz8, hf⟩ := op_b hf
    refine cl_i X cw_M_92 hK hP hD hS hA hl (c_mo_address hz8) ⟨rfl, rfl, Nat.le_of_ble_eq_true rfl, Nat.le_of_ble_eq_true rfl⟩ 0 rfl rfl rfl rfl rfl (Nat.le_of_ble_eq_true rfl) d_M_call_28 (fun H locs hP hD hS => ?_)
    refine lv_istore_n hx hb d_M_call_31 rfl hl (by decide) rfl (fun ls hl => ?_)
    have hl : lv_has ls 4 [(2, .int z8.1), (0, .ref h0), (1, .int x1)] := hl
    exact J32 z8.1 me z8.2.1 z8.2.2.1 z8.2.2.2 hf _ _ _ (lv_sub hl [1, 0] rfl) hP hD hS
  · replace hf := (if_pos hc).symm.trans hf
    refine lv_aload_n hx hb d_M_call_6 rfl (lv_at hl 1 rfl) ?_
    obtain ⟨z9, hz9, hf⟩ := op_b hf
    refine cl_i X cw_M_54 hK hP hD hS hA hl (c_mo_fetch hz9) ⟨rfl, rfl, Nat.le_of_ble_eq_true rfl, Nat.le_of_ble_eq_true rfl⟩ 0 rfl rfl rfl rfl rfl (Nat.le_of_ble_eq_true rfl) d_M_call_7 (fun H locs hP hD hS => ?_)
    obtain ⟨z10, hz10, hf⟩ := op_b hf
    refine cl_si X cw_M_86 hK hP hD hS hA hl (c_mo_signed hz10) ⟨rfl, rfl, Nat.le_of_ble_eq_true rfl, Nat.le_of_ble_eq_true rfl⟩ rfl rfl (Nat.le_of_ble_eq_true rfl) d_M_call_10 (fun H locs hP hD hS => ?_)
    refine lv_istore_n hx hb d_M_call_13 rfl hl (by decide) rfl (fun ls hl => ?_)
    have hl : lv_has ls 4 [(3, .int z10), (2, .int (0 : Int32)), (0, .ref h0), (1, .int x1)] := hl
    refine lv_aload_n hx hb d_M_call_14 rfl (lv_at hl 2 rfl) ?_
    refine mg_reg X hK hP d_M_call_15 ?_
    refine lv_iconst (v := (5 : Int32)) hx hb d_M_call_18 (by decide) ?_
    refine ma_rg (k := 5) X hK hP (in_b_vp (by decide)) (by decide) d_M_call_19 ?_
    refine lv_iload_n hx hb d_M_call_20 rfl (lv_at hl 0 rfl) ?_
    refine lv_iadd hx hb d_M_call_21 ?_
    refine lv_istore_n hx hb d_M_call_22 rfl hl (by decide) rfl (fun ls hl => ?_)
    have hl : lv_has ls 4 [(2, .int ((z9.2.1 5) + z10)), (3, .int z10), (0, .ref h0), (1, .int x1)] := hl
    refine lv_goto (tgt := 32) hx hb d_M_call_23 (by decide) ?_
    exact J32 ((z9.2.1 5) + z10) me z9.2.1 z9.2.2 iv hf _ _ _ (lv_sub hl [2, 0] rfl) hP hD hS
set_option maxHeartbeats 4000000 in
set_option maxRecDepth 100000 in
theorem c_mo_upper {x1 : Int32} {z : (Nat → Int32) × (Nat → Int32) × Int32 × Bool} (hf : mo_upper x1 me rg sp iv = some z) : co_v l my_M_upper mb_M_upper 6 rm_m_upper D (ty_ cI cT) [.ref h0, .int x1] (mw_ h0 h1 h2 h3 h4 h5 h6 h7 cI me rg so sv tl su qu wa ru pe re pn lo se pa sp iv) (mw_ h0 h1 h2 h3 h4 h5 h6 h7 cI z.1 z.2.1 so sv tl su qu wa ru pe re pn lo se pa z.2.2.1 z.2.2.2) := by
  refine co_v_of (by decide) (Nat.le_of_ble_eq_true rfl) ?_
  intro p e s m below meth c A ls X hr hlk hK hP hD hS hA hl
  have hx := X.1
  have hb := X.2.1
  have hl : lv_has ls 6 [(0, .ref h0), (1, .int x1)] := hl
  have J240 : ∀ (v1 : Int32) (v2 : Int32) (me : Nat → Int32) (rg : Nat → Int32) (sp : Int32) (iv : Bool), mo_upper_j240 v1 v2 me rg sp iv = some z → ∀ (H : Heap) (locs : List Loc) (ls : Array Slot), lv_has ls 6 [(0, .ref h0), (1, .int v1), (2, .int v2)] → va_P D cz_all (mw_ h0 h1 h2 h3 h4 h5 h6 h7 cI me rg so sv tl su qu wa ru pe re pn lo se pa sp iv) H → va_D A (mw_ h0 h1 h2 h3 h4 h5 h6 h7 cI me rg so sv tl su qu wa ru pe re pn lo se pa sp iv) → va_S A s.heap H locs → W p l e rm_m_upper s m ([.ref h0, .int x1] : List Value).toArray below meth c H locs 0 0 (MQ below (qs_v D (ty_ cI cT) (mw_ h0 h1 h2 h3 h4 h5 h6 h7 cI z.1 z.2.1 so sv tl su qu wa ru pe re pn lo se pa z.2.2.1 z.2.2.2) A) ([.ref h0, .int x1] : List Value).toArray s 0 0 A) (F0 m 240 ls []) := by
    intro v1 v2 me rg sp iv hf H locs ls hl hP hD hS
    unfold mo_upper_j240 at hf
    refine lv_aload_n hx hb d_M_upper_240 rfl (lv_at hl 0 rfl) ?_
    refine lv_iload_n hx hb d_M_upper_241 rfl (lv_at hl 1 rfl) ?_
    refine lv_iload_n hx hb d_M_upper_242 rfl (lv_at hl 2 rfl) ?_
    obtain ⟨z23, hz23, hf⟩ := op_b hf
    refine cl_v X cw_M_125 hK hP hD hS hA hl (c_mo_byteOp hz23) ⟨rfl, rfl, Nat.le_of_ble_eq_true rfl, Nat.le_of_ble_eq_true rfl⟩ 0 rfl rfl rfl rfl rfl (Nat.le_of_ble_eq_true rfl) d_M_upper_243 (fun H locs hP hD hS => ?_)
    have hq := Option.some.inj hf
    subst hq
    exact rt_v X hr hlk hK hP hD hS d_M_upper_246
  have J234 : ∀ (s0 : Int32) (s1 : Int32) (me : Nat → Int32) (rg : Nat → Int32) (sp : Int32) (iv : Bool), mo_upper_j234 s0 s1 me rg sp iv = some z → ∀ (H : Heap) (locs : List Loc) (ls : Array Slot), lv_has ls 6 [] → va_P D cz_all (mw_ h0 h1 h2 h3 h4 h5 h6 h7 cI me rg so sv tl su qu wa ru pe re pn lo se pa sp iv) H → va_D A (mw_ h0 h1 h2 h3 h4 h5 h6 h7 cI me rg so sv tl su qu wa ru pe re pn lo se pa sp iv) → va_S A s.heap H locs → W p l e rm_m_upper s m ([.ref h0, .int x1] : List Value).toArray below meth c H locs 0 0 (MQ below (qs_v D (ty_ cI cT) (mw_ h0 h1 h2 h3 h4 h5 h6 h7 cI z.1 z.2.1 so sv tl su qu wa ru pe re pn lo se pa z.2.2.1 z.2.2.2) A) ([.ref h0, .int x1] : List Value).toArray s 0 0 A) (F0 m 234 ls [.int s0, .int s1, .ref h0]) := by
    intro s0 s1 me rg sp iv hf H locs ls hl hP hD hS
    unfold mo_upper_j234 at hf
    obtain ⟨z24, hz24, hf⟩ := op_b hf
    refine cl_v X cw_M_115 hK hP hD hS hA hl (c_mo_save hz24) ⟨rfl, rfl, Nat.le_of_ble_eq_true rfl, Nat.le_of_ble_eq_true rfl⟩ 0 rfl rfl rfl rfl rfl (Nat.le_of_ble_eq_true rfl) d_M_upper_234 (fun H locs hP hD hS => ?_)
    refine lv_goto (tgt := 246) hx hb d_M_upper_237 (by decide) ?_
    have hq := Option.some.inj hf
    subst hq
    exact rt_v X hr hlk hK hP hD hS d_M_upper_246
  have J215 : ∀ (v2 : Int32) (s0 : Int32) (me : Nat → Int32) (rg : Nat → Int32) (sp : Int32) (iv : Bool), mo_upper_j215 v2 s0 me rg sp iv = some z → ∀ (H : Heap) (locs : List Loc) (ls : Array Slot), lv_has ls 6 [(2, .int v2)] → va_P D cz_all (mw_ h0 h1 h2 h3 h4 h5 h6 h7 cI me rg so sv tl su qu wa ru pe re pn lo se pa sp iv) H → va_D A (mw_ h0 h1 h2 h3 h4 h5 h6 h7 cI me rg so sv tl su qu wa ru pe re pn lo se pa sp iv) → va_S A s.heap H locs → W p l e rm_m_upper s m ([.ref h0, .int x1] : List Value).toArray below meth c H locs 0 0 (MQ below (qs_v D (ty_ cI cT) (mw_ h0 h1 h2 h3 h4 h5 h6 h7 cI z.1 z.2.1 so sv tl su qu wa ru pe re pn lo se pa z.2.2.1 z.2.2.2) A) ([.ref h0, .int x1] : List Value).toArray s 0 0 A) (F0 m 215 ls [.int s0, .ref h0]) := by
    intro v2 s0 me rg sp iv hf H locs ls hl hP hD hS
    unfold mo_upper_j215 at hf
    refine lv_iload_n hx hb d_M_upper_215 rfl (lv_at hl 0 rfl) ?_
    refine lv_iconst (v := (0 : Int32)) hx hb d_M_upper_216 (by decide) ?_
    obtain ⟨z25, hz25, hf⟩ := op_b hf
    refine cl_v X cw_M_118 hK hP hD hS hA hl (c_mo_wordOp hz25) ⟨rfl, rfl, Nat.le_of_ble_eq_true rfl, Nat.le_of_ble_eq_true rfl⟩ 0 rfl rfl rfl rfl rfl (Nat.le_of_ble_eq_true rfl) d_M_upper_217 (fun H locs hP hD hS => ?_)
    refine lv_goto (tgt := 246) hx hb d_M_upper_220 (by decide) ?_
    have hq := Option.some.inj hf
    subst hq
    exact rt_v X hr hlk hK hP hD hS d_M_upper_246
  have J176 : ∀ (v2 : Int32) (v3 : Bool) (s0 : Bool) (me : Nat → Int32) (rg : Nat → Int32) (sp : Int32) (iv : Bool), mo_upper_j176 v2 v3 s0 me rg sp iv = some z → ∀ (H : Heap) (locs : List Loc) (ls : Array Slot), lv_has ls 6 [(2, .int v2), (3, .int (bz_i v3))] → va_P D cz_all (mw_ h0 h1 h2 h3 h4 h5 h6 h7 cI me rg so sv tl su qu wa ru pe re pn lo se pa sp iv) H → va_D A (mw_ h0 h1 h2 h3 h4 h5 h6 h7 cI me rg so sv tl su qu wa ru pe re pn lo se pa sp iv) → va_S A s.heap H locs → W p l e rm_m_upper s m ([.ref h0, .int x1] : List Value).toArray below meth c H locs 0 0 (MQ below (qs_v D (ty_ cI cT) (mw_ h0 h1 h2 h3 h4 h5 h6 h7 cI z.1 z.2.1 so sv tl su qu wa ru pe re pn lo se pa z.2.2.1 z.2.2.2) A) ([.ref h0, .int x1] : List Value).toArray s 0 0 A) (F0 m 176 ls [.int (bz_i s0), .ref h0]) := by
    intro v2 v3 s0 me rg sp iv hf H locs ls hl hP hD hS
    unfold mo_upper_j176 at hf
    refine lv_iload_n hx hb d_M_upper_176 rfl (lv_at hl 0 rfl) ?_
    refine lv_iload_n hx hb d_M_upper_177 rfl (lv_at hl 1 rfl) ?_
    obtain ⟨z26, hz26, hf⟩ := op_b hf
    refine cl_v X cw_M_118 hK hP hD hS hA hl (c_mo_wordOp hz26) ⟨rfl, rfl, Nat.le_of_ble_eq_true rfl, Nat.le_of_ble_eq_true rfl⟩ 0 rfl rfl rfl rfl rfl (Nat.le_of_ble_eq_true rfl) d_M_upper_178 (fun H locs hP hD hS => ?_)
    refine lv_goto (tgt := 246) hx hb d_M_upper_181 (by decide) ?_
    have hq := Option.some.inj hf
    subst hq
    exact rt_v X hr hlk hK hP hD hS d_M_upper_246
  have J160 : ∀ (s0 : Int32) (s1 : Int32) (me : Nat → Int32) (rg : Nat → Int32) (sp : Int32) (iv : Bool), mo_upper_j160 s0 s1 me rg sp iv = some z → ∀ (H : Heap) (locs : List Loc) (ls : Array Slot), lv_has ls 6 [] → va_P D cz_all (mw_ h0 h1 h2 h3 h4 h5 h6 h7 cI me rg so sv tl su qu wa ru pe re pn lo se pa sp iv) H → va_D A (mw_ h0 h1 h2 h3 h4 h5 h6 h7 cI me rg so sv tl su qu wa ru pe re pn lo se pa sp iv) → va_S A s.heap H locs → W p l e rm_m_upper s m ([.ref h0, .int x1] : List Value).toArray below meth c H locs 0 0 (MQ below (qs_v D (ty_ cI cT) (mw_ h0 h1 h2 h3 h4 h5 h6 h7 cI z.1 z.2.1 so sv tl su qu wa ru pe re pn lo se pa z.2.2.1 z.2.2.2) A) ([.ref h0, .int x1] : List Value).toArray s 0 0 A) (F0 m 160 ls [.int s0, .int s1, .ref h0]) := by
    intro s0 s1 me rg sp iv hf H locs ls hl hP hD hS
    unfold mo_upper_j160 at hf
    obtain ⟨z27, hz27, hf⟩ := op_b hf
    refine cl_v X cw_M_115 hK hP hD hS hA hl (c_mo_save hz27) ⟨rfl, rfl, Nat.le_of_ble_eq_true rfl, Nat.le_of_ble_eq_true rfl⟩ 0 rfl rfl rfl rfl rfl (Nat.le_of_ble_eq_true rfl) d_M_upper_160 (fun H locs hP hD hS => ?_)
    refine lv_goto (tgt := 246) hx hb d_M_upper_163 (by decide) ?_
    have hq := Option.some.inj hf
    subst hq
    exact rt_v X hr hlk hK hP hD hS d_M_upper_246
  have J141 : ∀ (s0 : Int32) (me : Nat → Int32) (rg : Nat → Int32) (sp : Int32) (iv : Bool), mo_upper_j141 s0 me rg sp iv = some z → ∀ (H : Heap) (locs : List Loc) (ls : Array Slot), lv_has ls 6 [] → va_P D cz_all (mw_ h0 h1 h2 h3 h4 h5 h6 h7 cI me rg so sv tl su qu wa ru pe re pn lo se pa sp iv) H → va_D A (mw_ h0 h1 h2 h3 h4 h5 h6 h7 cI me rg so sv tl su qu wa ru pe re pn lo se pa sp iv) → va_S A s.heap H locs → W p l e rm_m_upper s m ([.ref h0, .int x1] : List Value).toArray below meth c H locs 0 0 (MQ below (qs_v D (ty_ cI cT) (mw_ h0 h1 h2 h3 h4 h5 h6 h7 cI z.1 z.2.1 so sv tl su qu wa ru pe re pn lo se pa z.2.2.1 z.2.2.2) A) ([.ref h0, .int x1] : List Value).toArray s 0 0 A) (F0 m 141 ls [.int s0, .int (0 : Int32), .ref h0]) := by
    intro s0 me rg sp iv hf H locs ls hl hP hD hS
    unfold mo_upper_j141 at hf
    obtain ⟨z28, hz28, hf⟩ := op_b hf
    refine cl_v X cw_M_51 hK hP hD hS hA hl (c_mo_set hz28) ⟨rfl, rfl, Nat.le_of_ble_eq_true rfl, Nat.le_of_ble_eq_true rfl⟩ 0 rfl rfl rfl rfl rfl (Nat.le_of_ble_eq_true rfl) d_M_upper_141 (fun H locs hP hD hS => ?_)
    refine lv_goto (tgt := 246) hx hb d_M_upper_144 (by decide) ?_
    have hq := Option.some.inj hf
    subst hq
    exact rt_v X hr hlk hK hP hD hS d_M_upper_246
  have J18 : ∀ (v1 : Int32) (v2 : Int32) (s0 : Bool) (me : Nat → Int32) (rg : Nat → Int32) (sp : Int32) (iv : Bool), mo_upper_j18 v1 v2 s0 me rg sp iv = some z → ∀ (H : Heap) (locs : List Loc) (ls : Array Slot), lv_has ls 6 [(0, .ref h0), (1, .int v1), (2, .int v2)] → va_P D cz_all (mw_ h0 h1 h2 h3 h4 h5 h6 h7 cI me rg so sv tl su qu wa ru pe re pn lo se pa sp iv) H → va_D A (mw_ h0 h1 h2 h3 h4 h5 h6 h7 cI me rg so sv tl su qu wa ru pe re pn lo se pa sp iv) → va_S A s.heap H locs → W p l e rm_m_upper s m ([.ref h0, .int x1] : List Value).toArray below meth c H locs 0 0 (MQ below (qs_v D (ty_ cI cT) (mw_ h0 h1 h2 h3 h4 h5 h6 h7 cI z.1 z.2.1 so sv tl su qu wa ru pe re pn lo se pa z.2.2.1 z.2.2.2) A) ([.ref h0, .int x1] : List Value).toArray s 0 0 A) (F0 m 18 ls [.int (bz_i s0)]) := by
    intro v1 v2 s0 me rg sp iv hf H locs ls hl hP hD hS
    unfold mo_upper_j18 at hf
    refine lv_istore_n hx hb d_M_upper_18 rfl hl (by decide) rfl (fun ls hl => ?_)
    have hl : lv_has ls 6 [(3, .int (bz_i s0)), (0, .ref h0), (1, .int v1), (2, .int v2)] := hl
    refine lv_iload_n hx hb d_M_upper_19 rfl (lv_at hl 2 rfl) ?_
    refine lv_bipush (v := (15 : Int32)) hx hb d_M_upper_20 (by decide) ?_
    refine lv_iand hx hb d_M_upper_22 ?_
    by_cases hk29 : (v1 &&& (15 : Int32)) = (3 : Int32)
    · replace hf := (if_pos hk29).symm.trans hf
      refine lv_tableIn (tgt := 88) (off := 65) hx hb d_M_upper_23 (by rw [hk29]; decide) (by rw [hk29]; decide) (by rw [hk29]; rfl) (by decide) ?_
      refine lv_aload_n hx hb d_M_upper_88 rfl (lv_at hl 1 rfl) ?_
      refine lv_iload_n hx hb d_M_upper_89 rfl (lv_at hl 3 rfl) ?_
      refine lv_iconst (v := (1 : Int32)) hx hb d_M_upper_90 (by decide) ?_
      obtain ⟨z30, hz30, hf⟩ := op_b hf
      refine cl_i X cw_M_98 hK hP hD hS hA hl (c_mo_operand hz30) ⟨rfl, rfl, Nat.le_of_ble_eq_true rfl, Nat.le_of_ble_eq_true rfl⟩ 0 rfl rfl rfl rfl rfl (Nat.le_of_ble_eq_true rfl) d_M_upper_91 (fun H locs hP hD hS => ?_)
      refine lv_istore hx hb d_M_upper_94 hl (by decide) rfl (fun ls hl => ?_)
      have hl : lv_has ls 6 [(4, .int z30.1), (3, .int (bz_i s0)), (0, .ref h0), (1, .int v1), (2, .int v2)] := hl
      refine lv_aload_n hx hb d_M_upper_96 rfl (lv_at hl 2 rfl) ?_
      refine lv_iconst (v := (0 : Int32)) hx hb d_M_upper_97 (by decide) ?_
      obtain ⟨z31, hz31, hf⟩ := op_b hf
      refine cl_i X cw_M_89 hK hP hD hS hA hl (c_mo_get hz31) ⟨rfl, rfl, Nat.le_of_ble_eq_true rfl, Nat.le_of_ble_eq_true rfl⟩ 0 rfl rfl rfl rfl rfl (Nat.le_of_ble_eq_true rfl) d_M_upper_98 (fun H locs hP hD hS => ?_)
      refine lv_istore hx hb d_M_upper_101 hl (by decide) rfl (fun ls hl => ?_)
      have hl : lv_has ls 6 [(5, .int z31), (4, .int z30.1), (3, .int (bz_i s0)), (0, .ref h0), (1, .int v1), (2, .int v2)] := hl
      refine lv_aload_n hx hb d_M_upper_103 rfl (lv_at hl 3 rfl) ?_
      refine mg_invalid X hK hP d_M_upper_104 ?_
      refine lv_if_ne (tgt := 246) hx hb d_M_upper_107 (by decide) (fun hc => ?_) (fun hc => ?_)
      · replace hf := (if_neg hc).symm.trans hf
        have hq := Option.some.inj hf
        subst hq
        exact rt_v X hr hlk hK hP hD hS d_M_upper_246
      · replace hf := (if_pos hc).symm.trans hf
        refine lv_aload_n hx hb d_M_upper_110 rfl (lv_at hl 3 rfl) ?_
        refine lv_iconst (v := (0 : Int32)) hx hb d_M_upper_111 (by decide) ?_
        refine lv_iload_n hx hb d_M_upper_112 rfl (lv_at hl 2 rfl) ?_
        refine lv_if_eq (tgt := 130) hx hb d_M_upper_113 (by decide) (fun hc => ?_) (fun hc => ?_)
        · replace hf := (if_pos hc).symm.trans hf
          refine lv_aload_n hx hb d_M_upper_130 rfl (lv_at hl 3 rfl) ?_
          refine lv_iload hx hb d_M_upper_131 (lv_at hl 0 rfl) ?_
          refine lv_iload hx hb d_M_upper_133 (lv_at hl 1 rfl) ?_
          refine lv_iconst (v := (0 : Int32)) hx hb d_M_upper_135 (by decide) ?_
          refine lv_bipush (v := (16 : Int32)) hx hb d_M_upper_136 (by decide) ?_
          obtain ⟨z32, hz32, hf⟩ := op_b hf
          refine cl_i X cw_M_109 hK hP hD hS hA hl (c_mo_sum hz32) ⟨rfl, rfl, Nat.le_of_ble_eq_true rfl, Nat.le_of_ble_eq_true rfl⟩ 0 rfl rfl rfl rfl rfl (Nat.le_of_ble_eq_true rfl) d_M_upper_138 (fun H locs hP hD hS => ?_)
          exact J141 z32.1 me z32.2 z30.2.2.1 z30.2.2.2 hf _ _ _ (lv_sub hl [] rfl) hP hD hS
        · replace hf := (if_neg hc).symm.trans hf
          refine lv_aload_n hx hb d_M_upper_116 rfl (lv_at hl 3 rfl) ?_
          refine lv_iload hx hb d_M_upper_117 (lv_at hl 0 rfl) ?_
          refine lv_iload hx hb d_M_upper_119 (lv_at hl 1 rfl) ?_
          refine lv_iconst (v := (0 : Int32)) hx hb d_M_upper_121 (by decide) ?_
          refine lv_bipush (v := (16 : Int32)) hx hb d_M_upper_122 (by decide) ?_
          obtain ⟨z33, hz33, hf⟩ := op_b hf
          refine cl_i X cw_M_105 hK hP hD hS hA hl (c_mo_difference hz33) ⟨rfl, rfl, Nat.le_of_ble_eq_true rfl, Nat.le_of_ble_eq_true rfl⟩ 0 rfl rfl rfl rfl rfl (Nat.le_of_ble_eq_true rfl) d_M_upper_124 (fun H locs hP hD hS => ?_)
          refine lv_goto (tgt := 141) hx hb d_M_upper_127 (by decide) ?_
          exact J141 z33.1 me z33.2 z30.2.2.1 z30.2.2.2 hf _ _ _ (lv_sub hl [] rfl) hP hD hS
    · replace hf := (if_neg hk29).symm.trans hf
      by_cases hk34 : (v1 &&& (15 : Int32)) = (4 : Int32)
      · replace hf := (if_pos hk34).symm.trans hf
        refine lv_tableIn (tgt := 240) (off := 217) hx hb d_M_upper_23 (by rw [hk34]; decide) (by rw [hk34]; decide) (by rw [hk34]; rfl) (by decide) ?_
        exact J240 v1 v2 me rg sp iv hf _ _ _ (lv_sub hl [1, 2, 3] rfl) hP hD hS
      · replace hf := (if_neg hk34).symm.trans hf
        by_cases hk35 : (v1 &&& (15 : Int32)) = (5 : Int32)
        · replace hf := (if_pos hk35).symm.trans hf
          refine lv_tableIn (tgt := 240) (off := 217) hx hb d_M_upper_23 (by rw [hk35]; decide) (by rw [hk35]; decide) (by rw [hk35]; rfl) (by decide) ?_
          exact J240 v1 v2 me rg sp iv hf _ _ _ (lv_sub hl [1, 2, 3] rfl) hP hD hS
        · replace hf := (if_neg hk35).symm.trans hf
          by_cases hk36 : (v1 &&& (15 : Int32)) = (6 : Int32)
          · replace hf := (if_pos hk36).symm.trans hf
            refine lv_tableIn (tgt := 240) (off := 217) hx hb d_M_upper_23 (by rw [hk36]; decide) (by rw [hk36]; decide) (by rw [hk36]; rfl) (by decide) ?_
            exact J240 v1 v2 me rg sp iv hf _ _ _ (lv_sub hl [1, 2, 3] rfl) hP hD hS
          · replace hf := (if_neg hk36).symm.trans hf
            by_cases hk37 : (v1 &&& (15 : Int32)) = (7 : Int32)
            · replace hf := (if_pos hk37).symm.trans hf
              refine lv_tableIn (tgt := 147) (off := 124) hx hb d_M_upper_23 (by rw [hk37]; decide) (by rw [hk37]; decide) (by rw [hk37]; rfl) (by decide) ?_
              refine lv_aload_n hx hb d_M_upper_147 rfl (lv_at hl 1 rfl) ?_
              refine lv_iload_n hx hb d_M_upper_148 rfl (lv_at hl 3 rfl) ?_
              refine lv_iload_n hx hb d_M_upper_149 rfl (lv_at hl 0 rfl) ?_
              refine lv_if_eq (tgt := 158) hx hb d_M_upper_150 (by decide) (fun hc => ?_) (fun hc => ?_)
              · replace hf := (if_pos hc).symm.trans hf
                refine lv_bipush (v := (9 : Int32)) hx hb d_M_upper_158 (by decide) ?_
                exact J160 (9 : Int32) v2 me rg sp iv hf _ _ _ (lv_sub hl [] rfl) hP hD hS
              · replace hf := (if_neg hc).symm.trans hf
                refine lv_bipush (v := (8 : Int32)) hx hb d_M_upper_153 (by decide) ?_
                refine lv_goto (tgt := 160) hx hb d_M_upper_155 (by decide) ?_
                exact J160 (8 : Int32) v2 me rg sp iv hf _ _ _ (lv_sub hl [] rfl) hP hD hS
            · replace hf := (if_neg hk37).symm.trans hf
              by_cases hk38 : (v1 &&& (15 : Int32)) = (8 : Int32)
              · replace hf := (if_pos hk38).symm.trans hf
                refine lv_tableIn (tgt := 240) (off := 217) hx hb d_M_upper_23 (by rw [hk38]; decide) (by rw [hk38]; decide) (by rw [hk38]; rfl) (by decide) ?_
                exact J240 v1 v2 me rg sp iv hf _ _ _ (lv_sub hl [1, 2, 3] rfl) hP hD hS
              · replace hf := (if_neg hk38).symm.trans hf
                by_cases hk39 : (v1 &&& (15 : Int32)) = (9 : Int32)
                · replace hf := (if_pos hk39).symm.trans hf
                  refine lv_tableIn (tgt := 240) (off := 217) hx hb d_M_upper_23 (by rw [hk39]; decide) (by rw [hk39]; decide) (by rw [hk39]; rfl) (by decide) ?_
                  exact J240 v1 v2 me rg sp iv hf _ _ _ (lv_sub hl [1, 2, 3] rfl) hP hD hS
                · replace hf := (if_neg hk39).symm.trans hf
                  by_cases hk40 : (v1 &&& (15 : Int32)) = (10 : Int32)
                  · replace hf := (if_pos hk40).symm.trans hf
                    refine lv_tableIn (tgt := 240) (off := 217) hx hb d_M_upper_23 (by rw [hk40]; decide) (by rw [hk40]; decide) (by rw [hk40]; rfl) (by decide) ?_
                    exact J240 v1 v2 me rg sp iv hf _ _ _ (lv_sub hl [1, 2, 3] rfl) hP hD hS
                  · replace hf := (if_neg hk40).symm.trans hf
                    by_cases hk41 : (v1 &&& (15 : Int32)) = (11 : Int32)
                    · replace hf := (if_pos hk41).symm.trans hf
                      refine lv_tableIn (tgt := 240) (off := 217) hx hb d_M_upper_23 (by rw [hk41]; decide) (by rw [hk41]; decide) (by rw [hk41]; rfl) (by decide) ?_
                      exact J240 v1 v2 me rg sp iv hf _ _ _ (lv_sub hl [1, 2, 3] rfl) hP hD hS
                    · replace hf := (if_neg hk41).symm.trans hf
                      by_cases hk42 : (v1 &&& (15 : Int32)) = (12 : Int32)
                      · replace hf := (if_pos hk42).symm.trans hf
                        refine lv_tableIn (tgt := 166) (off := 143) hx hb d_M_upper_23 (by rw [hk42]; decide) (by rw [hk42]; decide) (by rw [hk42]; rfl) (by decide) ?_
                        refine lv_aload_n hx hb d_M_upper_166 rfl (lv_at hl 1 rfl) ?_
                        refine lv_iload_n hx hb d_M_upper_167 rfl (lv_at hl 0 rfl) ?_
                        refine lv_if_eq (tgt := 175) hx hb d_M_upper_168 (by decide) (fun hc => ?_) (fun hc => ?_)
                        · replace hf := (if_pos hc).symm.trans hf
                          refine lv_iconst (v := (0 : Int32)) hx hb d_M_upper_175 (by decide) ?_
                          exact J176 v2 s0 false me rg sp iv hf _ _ _ (lv_sub hl [3, 0] rfl) hP hD hS
                        · replace hf := (if_neg hc).symm.trans hf
                          refine lv_iconst (v := (1 : Int32)) hx hb d_M_upper_171 (by decide) ?_
                          refine lv_goto (tgt := 176) hx hb d_M_upper_172 (by decide) ?_
                          exact J176 v2 s0 true me rg sp iv hf _ _ _ (lv_sub hl [3, 0] rfl) hP hD hS
                      · replace hf := (if_neg hk42).symm.trans hf
                        by_cases hk43 : (v1 &&& (15 : Int32)) = (13 : Int32)
                        · replace hf := (if_pos hk43).symm.trans hf
                          refine lv_tableIn (tgt := 184) (off := 161) hx hb d_M_upper_23 (by rw [hk43]; decide) (by rw [hk43]; decide) (by rw [hk43]; rfl) (by decide) ?_
                          refine lv_iload_n hx hb d_M_upper_184 rfl (lv_at hl 0 rfl) ?_
                          refine lv_if_eq (tgt := 196) hx hb d_M_upper_185 (by decide) (fun hc => ?_) (fun hc => ?_)
                          · replace hf := (if_pos hc).symm.trans hf
                            refine lv_aload_n hx hb d_M_upper_196 rfl (lv_at hl 1 rfl) ?_
                            refine lv_iload_n hx hb d_M_upper_197 rfl (lv_at hl 3 rfl) ?_
                            refine lv_iconst (v := (0 : Int32)) hx hb d_M_upper_198 (by decide) ?_
                            obtain ⟨z44, hz44, hf⟩ := op_b hf
                            refine cl_v X cw_M_115 hK hP hD hS hA hl (c_mo_save hz44) ⟨rfl, rfl, Nat.le_of_ble_eq_true rfl, Nat.le_of_ble_eq_true rfl⟩ 0 rfl rfl rfl rfl rfl (Nat.le_of_ble_eq_true rfl) d_M_upper_199 (fun H locs hP hD hS => ?_)
                            refine lv_goto (tgt := 246) hx hb d_M_upper_202 (by decide) ?_
                            have hq := Option.some.inj hf
                            subst hq
                            exact rt_v X hr hlk hK hP hD hS d_M_upper_246
                          · replace hf := (if_neg hc).symm.trans hf
                            refine lv_aload_n hx hb d_M_upper_188 rfl (lv_at hl 1 rfl) ?_
                            refine lv_iload_n hx hb d_M_upper_189 rfl (lv_at hl 3 rfl) ?_
                            obtain ⟨z45, hz45, hf⟩ := op_b hf
                            refine cl_v X cw_M_121 hK hP hD hS hA hl (c_mo_call hz45) ⟨rfl, rfl, Nat.le_of_ble_eq_true rfl, Nat.le_of_ble_eq_true rfl⟩ 0 rfl rfl rfl rfl rfl (Nat.le_of_ble_eq_true rfl) d_M_upper_190 (fun H locs hP hD hS => ?_)
                            refine lv_goto (tgt := 246) hx hb d_M_upper_193 (by decide) ?_
                            have hq := Option.some.inj hf
                            subst hq
                            exact rt_v X hr hlk hK hP hD hS d_M_upper_246
                        · replace hf := (if_neg hk43).symm.trans hf
                          by_cases hk46 : (v1 &&& (15 : Int32)) = (14 : Int32)
                          · replace hf := (if_pos hk46).symm.trans hf
                            refine lv_tableIn (tgt := 205) (off := 182) hx hb d_M_upper_23 (by rw [hk46]; decide) (by rw [hk46]; decide) (by rw [hk46]; rfl) (by decide) ?_
                            refine lv_aload_n hx hb d_M_upper_205 rfl (lv_at hl 1 rfl) ?_
                            refine lv_iload_n hx hb d_M_upper_206 rfl (lv_at hl 0 rfl) ?_
                            refine lv_if_eq (tgt := 214) hx hb d_M_upper_207 (by decide) (fun hc => ?_) (fun hc => ?_)
                            · replace hf := (if_pos hc).symm.trans hf
                              refine lv_iconst (v := (3 : Int32)) hx hb d_M_upper_214 (by decide) ?_
                              exact J215 v2 (3 : Int32) me rg sp iv hf _ _ _ (lv_sub hl [3] rfl) hP hD hS
                            · replace hf := (if_neg hc).symm.trans hf
                              refine lv_iconst (v := (1 : Int32)) hx hb d_M_upper_210 (by decide) ?_
                              refine lv_goto (tgt := 215) hx hb d_M_upper_211 (by decide) ?_
                              exact J215 v2 (1 : Int32) me rg sp iv hf _ _ _ (lv_sub hl [3] rfl) hP hD hS
                          · replace hf := (if_neg hk46).symm.trans hf
                            by_cases hk47 : (v1 &&& (15 : Int32)) = (15 : Int32)
                            · replace hf := (if_pos hk47).symm.trans hf
                              refine lv_tableIn (tgt := 223) (off := 200) hx hb d_M_upper_23 (by rw [hk47]; decide) (by rw [hk47]; decide) (by rw [hk47]; rfl) (by decide) ?_
                              refine lv_aload_n hx hb d_M_upper_223 rfl (lv_at hl 1 rfl) ?_
                              refine lv_iload_n hx hb d_M_upper_224 rfl (lv_at hl 3 rfl) ?_
                              refine lv_iload_n hx hb d_M_upper_225 rfl (lv_at hl 0 rfl) ?_
                              refine lv_if_eq (tgt := 233) hx hb d_M_upper_226 (by decide) (fun hc => ?_) (fun hc => ?_)
                              · replace hf := (if_pos hc).symm.trans hf
                                refine lv_iconst (v := (3 : Int32)) hx hb d_M_upper_233 (by decide) ?_
                                exact J234 (3 : Int32) v2 me rg sp iv hf _ _ _ (lv_sub hl [] rfl) hP hD hS
                              · replace hf := (if_neg hc).symm.trans hf
                                refine lv_iconst (v := (1 : Int32)) hx hb d_M_upper_229 (by decide) ?_
                                refine lv_goto (tgt := 234) hx hb d_M_upper_230 (by decide) ?_
                                exact J234 (1 : Int32) v2 me rg sp iv hf _ _ _ (lv_sub hl [] rfl) hP hD hS
                            · replace hf := (if_neg hk47).symm.trans hf
                              refine lv_tableOut (tgt := 240) hx hb d_M_upper_23 (by have q0 := lv_neT hk29 (show Int32.toInt (3 : Int32) = 3 by decide); have q1 := lv_neT hk34 (show Int32.toInt (4 : Int32) = 4 by decide); have q2 := lv_neT hk35 (show Int32.toInt (5 : Int32) = 5 by decide); have q3 := lv_neT hk36 (show Int32.toInt (6 : Int32) = 6 by decide); have q4 := lv_neT hk37 (show Int32.toInt (7 : Int32) = 7 by decide); have q5 := lv_neT hk38 (show Int32.toInt (8 : Int32) = 8 by decide); have q6 := lv_neT hk39 (show Int32.toInt (9 : Int32) = 9 by decide); have q7 := lv_neT hk40 (show Int32.toInt (10 : Int32) = 10 by decide); have q8 := lv_neT hk41 (show Int32.toInt (11 : Int32) = 11 by decide); have q9 := lv_neT hk42 (show Int32.toInt (12 : Int32) = 12 by decide); have q10 := lv_neT hk43 (show Int32.toInt (13 : Int32) = 13 by decide); have q11 := lv_neT hk46 (show Int32.toInt (14 : Int32) = 14 by decide); have q12 := lv_neT hk47 (show Int32.toInt (15 : Int32) = 15 by decide); omega) (by decide) ?_
                              exact J240 v1 v2 me rg sp iv hf _ _ _ (lv_sub hl [1, 2, 3] rfl) hP hD hS
  unfold mo_upper at hf
  refine lv_iload_n hx hb d_M_upper_0 rfl (lv_at hl 1 rfl) ?_
  refine lv_iconst (v := (4 : Int32)) hx hb d_M_upper_1 (by decide) ?_
  refine lv_ishr hx hb d_M_upper_2 ?_
  refine lv_iconst (v := (3 : Int32)) hx hb d_M_upper_3 (by decide) ?_
  refine lv_iand hx hb d_M_upper_4 ?_
  refine lv_istore_n hx hb d_M_upper_5 rfl hl (by decide) rfl (fun ls hl => ?_)
  have hl : lv_has ls 6 [(2, .int ((x1 >>> ((4 : Int32) &&& 31)) &&& (3 : Int32))), (0, .ref h0), (1, .int x1)] := hl
  refine lv_iload_n hx hb d_M_upper_6 rfl (lv_at hl 2 rfl) ?_
  refine lv_sipush (v := (192 : Int32)) hx hb d_M_upper_7 (by decide) ?_
  refine lv_icmp_ge (tgt := 17) hx hb d_M_upper_10 (by decide) (fun hc => ?_) (fun hc => ?_)
  · replace hf := (if_pos hc).symm.trans hf
    refine lv_iconst (v := (0 : Int32)) hx hb d_M_upper_17 (by decide) ?_
    exact J18 x1 ((x1 >>> ((4 : Int32) &&& 31)) &&& (3 : Int32)) false me rg sp iv hf _ _ _ (lv_sub hl [1, 2, 0] rfl) hP hD hS
  · replace hf := (if_neg hc).symm.trans hf
    refine lv_iconst (v := (1 : Int32)) hx hb d_M_upper_13 (by decide) ?_
    refine lv_goto (tgt := 18) hx hb d_M_upper_14 (by decide) ?_
    exact J18 x1 ((x1 >>> ((4 : Int32) &&& 31)) &&& (3 : Int32)) true me rg sp iv hf _ _ _ (lv_sub hl [1, 2, 0] rfl) hP hD hS
set_option maxHeartbeats 4000000 in
set_option maxRecDepth 100000 in
theorem c_mo_second  {z : (Nat → Int32) × (Nat → Int32) × Int32 × Bool} (hf : mo_second me rg sp iv = some z) : co_v l my_M_second mb_M_second 5 rm_m_second D (ty_ cI cT) [.ref h0] (mw_ h0 h1 h2 h3 h4 h5 h6 h7 cI me rg so sv tl su qu wa ru pe re pn lo se pa sp iv) (mw_ h0 h1 h2 h3 h4 h5 h6 h7 cI z.1 z.2.1 so sv tl su qu wa ru pe re pn lo se pa z.2.2.1 z.2.2.2) := by
  refine co_v_of (by decide) (Nat.le_of_ble_eq_true rfl) ?_
  intro p e s m below meth c A ls X hr hlk hK hP hD hS hA hl
  have hx := X.1
  have hb := X.2.1
  have hl : lv_has ls 5 [(0, .ref h0)] := hl
  have J123 : ∀ (s0 : Int32) (s1 : Int32) (me : Nat → Int32) (rg : Nat → Int32) (sp : Int32) (iv : Bool), mo_second_j123 s0 s1 me rg sp iv = some z → ∀ (H : Heap) (locs : List Loc) (ls : Array Slot), lv_has ls 5 [] → va_P D cz_all (mw_ h0 h1 h2 h3 h4 h5 h6 h7 cI me rg so sv tl su qu wa ru pe re pn lo se pa sp iv) H → va_D A (mw_ h0 h1 h2 h3 h4 h5 h6 h7 cI me rg so sv tl su qu wa ru pe re pn lo se pa sp iv) → va_S A s.heap H locs → W p l e rm_m_second s m ([.ref h0] : List Value).toArray below meth c H locs 0 0 (MQ below (qs_v D (ty_ cI cT) (mw_ h0 h1 h2 h3 h4 h5 h6 h7 cI z.1 z.2.1 so sv tl su qu wa ru pe re pn lo se pa z.2.2.1 z.2.2.2) A) ([.ref h0] : List Value).toArray s 0 0 A) (F0 m 123 ls [.int s0, .int s1, .ref h0]) := by
    intro s0 s1 me rg sp iv hf H locs ls hl hP hD hS
    unfold mo_second_j123 at hf
    obtain ⟨z8, hz8, hf⟩ := op_b hf
    refine cl_v X cw_M_115 hK hP hD hS hA hl (c_mo_save hz8) ⟨rfl, rfl, Nat.le_of_ble_eq_true rfl, Nat.le_of_ble_eq_true rfl⟩ 0 rfl rfl rfl rfl rfl (Nat.le_of_ble_eq_true rfl) d_M_second_123 (fun H locs hP hD hS => ?_)
    refine lv_goto (tgt := 134) hx hb d_M_second_126 (by decide) ?_
    have hq := Option.some.inj hf
    subst hq
    exact rt_v X hr hlk hK hP hD hS d_M_second_134
  have J97 : ∀ (v2 : Int32) (s0 : Int32) (me : Nat → Int32) (rg : Nat → Int32) (sp : Int32) (iv : Bool), mo_second_j97 v2 s0 me rg sp iv = some z → ∀ (H : Heap) (locs : List Loc) (ls : Array Slot), lv_has ls 5 [(2, .int v2)] → va_P D cz_all (mw_ h0 h1 h2 h3 h4 h5 h6 h7 cI me rg so sv tl su qu wa ru pe re pn lo se pa sp iv) H → va_D A (mw_ h0 h1 h2 h3 h4 h5 h6 h7 cI me rg so sv tl su qu wa ru pe re pn lo se pa sp iv) → va_S A s.heap H locs → W p l e rm_m_second s m ([.ref h0] : List Value).toArray below meth c H locs 0 0 (MQ below (qs_v D (ty_ cI cT) (mw_ h0 h1 h2 h3 h4 h5 h6 h7 cI z.1 z.2.1 so sv tl su qu wa ru pe re pn lo se pa z.2.2.1 z.2.2.2) A) ([.ref h0] : List Value).toArray s 0 0 A) (F0 m 97 ls [.int s0, .ref h0]) := by
    intro v2 s0 me rg sp iv hf H locs ls hl hP hD hS
    unfold mo_second_j97 at hf
    refine lv_iload_n hx hb d_M_second_97 rfl (lv_at hl 0 rfl) ?_
    refine lv_iconst (v := (0 : Int32)) hx hb d_M_second_98 (by decide) ?_
    obtain ⟨z9, hz9, hf⟩ := op_b hf
    refine cl_v X cw_M_118 hK hP hD hS hA hl (c_mo_wordOp hz9) ⟨rfl, rfl, Nat.le_of_ble_eq_true rfl, Nat.le_of_ble_eq_true rfl⟩ 0 rfl rfl rfl rfl rfl (Nat.le_of_ble_eq_true rfl) d_M_second_99 (fun H locs hP hD hS => ?_)
    refine lv_goto (tgt := 134) hx hb d_M_second_102 (by decide) ?_
    have hq := Option.some.inj hf
    subst hq
    exact rt_v X hr hlk hK hP hD hS d_M_second_134
  have J80 : ∀ (v2 : Int32) (v3 : Int32) (v4 : Bool) (me : Nat → Int32) (rg : Nat → Int32) (sp : Int32) (iv : Bool), mo_second_j80 v2 v3 v4 me rg sp iv = some z → ∀ (H : Heap) (locs : List Loc) (ls : Array Slot), lv_has ls 5 [(0, .ref h0), (2, .int v2), (3, .int v3), (4, .int (bz_i v4))] → va_P D cz_all (mw_ h0 h1 h2 h3 h4 h5 h6 h7 cI me rg so sv tl su qu wa ru pe re pn lo se pa sp iv) H → va_D A (mw_ h0 h1 h2 h3 h4 h5 h6 h7 cI me rg so sv tl su qu wa ru pe re pn lo se pa sp iv) → va_S A s.heap H locs → W p l e rm_m_second s m ([.ref h0] : List Value).toArray below meth c H locs 0 0 (MQ below (qs_v D (ty_ cI cT) (mw_ h0 h1 h2 h3 h4 h5 h6 h7 cI z.1 z.2.1 so sv tl su qu wa ru pe re pn lo se pa z.2.2.1 z.2.2.2) A) ([.ref h0] : List Value).toArray s 0 0 A) (F0 m 80 ls []) := by
    intro v2 v3 v4 me rg sp iv hf H locs ls hl hP hD hS
    unfold mo_second_j80 at hf
    refine lv_iload_n hx hb d_M_second_80 rfl (lv_at hl 2 rfl) ?_
    refine lv_bipush (v := (14 : Int32)) hx hb d_M_second_81 (by decide) ?_
    refine lv_icmp_ne (tgt := 105) hx hb d_M_second_83 (by decide) (fun hc => ?_) (fun hc => ?_)
    · replace hf := (if_neg hc).symm.trans hf
      refine lv_iload_n hx hb d_M_second_105 rfl (lv_at hl 2 rfl) ?_
      refine lv_bipush (v := (15 : Int32)) hx hb d_M_second_106 (by decide) ?_
      refine lv_icmp_ne (tgt := 129) hx hb d_M_second_108 (by decide) (fun hc => ?_) (fun hc => ?_)
      · replace hf := (if_neg hc).symm.trans hf
        refine lv_aload_n hx hb d_M_second_129 rfl (lv_at hl 0 rfl) ?_
        refine lv_iconst (v := (1 : Int32)) hx hb d_M_second_130 (by decide) ?_
        refine mp_invalid (x := true) X hK hP hD hS d_M_second_131 (fun H locs hP hD hS => ?_)
        have hq := Option.some.inj hf
        subst hq
        exact rt_v X hr hlk hK hP hD hS d_M_second_134
      · replace hf := (if_pos hc).symm.trans hf
        refine lv_aload_n hx hb d_M_second_111 rfl (lv_at hl 0 rfl) ?_
        refine lv_iload_n hx hb d_M_second_112 rfl (lv_at hl 1 rfl) ?_
        refine lv_iload hx hb d_M_second_113 (lv_at hl 3 rfl) ?_
        refine lv_if_eq (tgt := 122) hx hb d_M_second_115 (by decide) (fun hc => ?_) (fun hc => ?_)
        · replace hf := (if_pos hc).symm.trans hf
          refine lv_iconst (v := (4 : Int32)) hx hb d_M_second_122 (by decide) ?_
          exact J123 (4 : Int32) v2 me rg sp iv hf _ _ _ (lv_sub hl [] rfl) hP hD hS
        · replace hf := (if_neg hc).symm.trans hf
          refine lv_iconst (v := (2 : Int32)) hx hb d_M_second_118 (by decide) ?_
          refine lv_goto (tgt := 123) hx hb d_M_second_119 (by decide) ?_
          exact J123 (2 : Int32) v2 me rg sp iv hf _ _ _ (lv_sub hl [] rfl) hP hD hS
    · replace hf := (if_pos hc).symm.trans hf
      refine lv_aload_n hx hb d_M_second_86 rfl (lv_at hl 0 rfl) ?_
      refine lv_iload hx hb d_M_second_87 (lv_at hl 3 rfl) ?_
      refine lv_if_eq (tgt := 96) hx hb d_M_second_89 (by decide) (fun hc => ?_) (fun hc => ?_)
      · replace hf := (if_pos hc).symm.trans hf
        refine lv_iconst (v := (4 : Int32)) hx hb d_M_second_96 (by decide) ?_
        exact J97 v2 (4 : Int32) me rg sp iv hf _ _ _ (lv_sub hl [1] rfl) hP hD hS
      · replace hf := (if_neg hc).symm.trans hf
        refine lv_iconst (v := (2 : Int32)) hx hb d_M_second_92 (by decide) ?_
        refine lv_goto (tgt := 97) hx hb d_M_second_93 (by decide) ?_
        exact J97 v2 (2 : Int32) me rg sp iv hf _ _ _ (lv_sub hl [1] rfl) hP hD hS
  have J72 : ∀ (v2 : Int32) (s0 : Int32) (me : Nat → Int32) (rg : Nat → Int32) (sp : Int32) (iv : Bool), mo_second_j72 v2 s0 me rg sp iv = some z → ∀ (H : Heap) (locs : List Loc) (ls : Array Slot), lv_has ls 5 [(2, .int v2)] → va_P D cz_all (mw_ h0 h1 h2 h3 h4 h5 h6 h7 cI me rg so sv tl su qu wa ru pe re pn lo se pa sp iv) H → va_D A (mw_ h0 h1 h2 h3 h4 h5 h6 h7 cI me rg so sv tl su qu wa ru pe re pn lo se pa sp iv) → va_S A s.heap H locs → W p l e rm_m_second s m ([.ref h0] : List Value).toArray below meth c H locs 0 0 (MQ below (qs_v D (ty_ cI cT) (mw_ h0 h1 h2 h3 h4 h5 h6 h7 cI z.1 z.2.1 so sv tl su qu wa ru pe re pn lo se pa z.2.2.1 z.2.2.2) A) ([.ref h0] : List Value).toArray s 0 0 A) (F0 m 72 ls [.int s0, .ref h0]) := by
    intro v2 s0 me rg sp iv hf H locs ls hl hP hD hS
    unfold mo_second_j72 at hf
    refine lv_iload_n hx hb d_M_second_72 rfl (lv_at hl 0 rfl) ?_
    refine lv_iconst (v := (1 : Int32)) hx hb d_M_second_73 (by decide) ?_
    obtain ⟨z10, hz10, hf⟩ := op_b hf
    refine cl_v X cw_M_118 hK hP hD hS hA hl (c_mo_wordOp hz10) ⟨rfl, rfl, Nat.le_of_ble_eq_true rfl, Nat.le_of_ble_eq_true rfl⟩ 0 rfl rfl rfl rfl rfl (Nat.le_of_ble_eq_true rfl) d_M_second_74 (fun H locs hP hD hS => ?_)
    refine lv_goto (tgt := 134) hx hb d_M_second_77 (by decide) ?_
    have hq := Option.some.inj hf
    subst hq
    exact rt_v X hr hlk hK hP hD hS d_M_second_134
  have J61 : ∀ (v2 : Int32) (v3 : Int32) (me : Nat → Int32) (rg : Nat → Int32) (sp : Int32) (iv : Bool), mo_second_j61 v2 v3 me rg sp iv = some z → ∀ (H : Heap) (locs : List Loc) (ls : Array Slot), lv_has ls 5 [(0, .ref h0), (2, .int v2), (3, .int v3)] → va_P D cz_all (mw_ h0 h1 h2 h3 h4 h5 h6 h7 cI me rg so sv tl su qu wa ru pe re pn lo se pa sp iv) H → va_D A (mw_ h0 h1 h2 h3 h4 h5 h6 h7 cI me rg so sv tl su qu wa ru pe re pn lo se pa sp iv) → va_S A s.heap H locs → W p l e rm_m_second s m ([.ref h0] : List Value).toArray below meth c H locs 0 0 (MQ below (qs_v D (ty_ cI cT) (mw_ h0 h1 h2 h3 h4 h5 h6 h7 cI z.1 z.2.1 so sv tl su qu wa ru pe re pn lo se pa z.2.2.1 z.2.2.2) A) ([.ref h0] : List Value).toArray s 0 0 A) (F0 m 61 ls []) := by
    intro v2 v3 me rg sp iv hf H locs ls hl hP hD hS
    unfold mo_second_j61 at hf
    refine lv_aload_n hx hb d_M_second_61 rfl (lv_at hl 0 rfl) ?_
    refine lv_iload_n hx hb d_M_second_62 rfl (lv_at hl 2 rfl) ?_
    refine lv_iconst (v := (3 : Int32)) hx hb d_M_second_63 (by decide) ?_
    refine lv_icmp_ne (tgt := 71) hx hb d_M_second_64 (by decide) (fun hc => ?_) (fun hc => ?_)
    · replace hf := (if_neg hc).symm.trans hf
      refine lv_iconst (v := (2 : Int32)) hx hb d_M_second_71 (by decide) ?_
      exact J72 v2 (2 : Int32) me rg sp iv hf _ _ _ (lv_sub hl [1] rfl) hP hD hS
    · replace hf := (if_pos hc).symm.trans hf
      refine lv_iconst (v := (0 : Int32)) hx hb d_M_second_67 (by decide) ?_
      refine lv_goto (tgt := 72) hx hb d_M_second_68 (by decide) ?_
      exact J72 v2 (0 : Int32) me rg sp iv hf _ _ _ (lv_sub hl [1] rfl) hP hD hS
  have J28 : ∀ (v1 : Int32) (v2 : Int32) (v3 : Int32) (s0 : Bool) (me : Nat → Int32) (rg : Nat → Int32) (sp : Int32) (iv : Bool), mo_second_j28 v1 v2 v3 s0 me rg sp iv = some z → ∀ (H : Heap) (locs : List Loc) (ls : Array Slot), lv_has ls 5 [(0, .ref h0), (1, .int v1), (2, .int v2), (3, .int v3)] → va_P D cz_all (mw_ h0 h1 h2 h3 h4 h5 h6 h7 cI me rg so sv tl su qu wa ru pe re pn lo se pa sp iv) H → va_D A (mw_ h0 h1 h2 h3 h4 h5 h6 h7 cI me rg so sv tl su qu wa ru pe re pn lo se pa sp iv) → va_S A s.heap H locs → W p l e rm_m_second s m ([.ref h0] : List Value).toArray below meth c H locs 0 0 (MQ below (qs_v D (ty_ cI cT) (mw_ h0 h1 h2 h3 h4 h5 h6 h7 cI z.1 z.2.1 so sv tl su qu wa ru pe re pn lo se pa z.2.2.1 z.2.2.2) A) ([.ref h0] : List Value).toArray s 0 0 A) (F0 m 28 ls [.int (bz_i s0)]) := by
    intro v1 v2 v3 s0 me rg sp iv hf H locs ls hl hP hD hS
    unfold mo_second_j28 at hf
    refine lv_istore hx hb d_M_second_28 hl (by decide) rfl (fun ls hl => ?_)
    have hl : lv_has ls 5 [(4, .int (bz_i s0)), (0, .ref h0), (1, .int v1), (2, .int v2), (3, .int v3)] := hl
    refine lv_iload_n hx hb d_M_second_30 rfl (lv_at hl 2 rfl) ?_
    refine lv_sipush (v := (128 : Int32)) hx hb d_M_second_31 (by decide) ?_
    refine lv_icmp_ge (tgt := 45) hx hb d_M_second_34 (by decide) (fun hc => ?_) (fun hc => ?_)
    · replace hf := (if_pos hc).symm.trans hf
      refine lv_iload hx hb d_M_second_45 (lv_at hl 0 rfl) ?_
      refine lv_if_eq (tgt := 80) hx hb d_M_second_47 (by decide) (fun hc => ?_) (fun hc => ?_)
      · replace hf := (if_pos hc).symm.trans hf
        exact J80 v2 v3 s0 me rg sp iv hf _ _ _ (lv_sub hl [1, 3, 4, 0] rfl) hP hD hS
      · replace hf := (if_neg hc).symm.trans hf
        refine lv_iload_n hx hb d_M_second_50 rfl (lv_at hl 4 rfl) ?_
        refine lv_iconst (v := (3 : Int32)) hx hb d_M_second_51 (by decide) ?_
        refine lv_icmp_eq (tgt := 61) hx hb d_M_second_52 (by decide) (fun hc => ?_) (fun hc => ?_)
        · replace hf := (if_pos hc).symm.trans hf
          exact J61 v2 v3 me rg sp iv hf _ _ _ (lv_sub hl [1, 3, 4] rfl) hP hD hS
        · replace hf := (if_neg hc).symm.trans hf
          refine lv_iload_n hx hb d_M_second_55 rfl (lv_at hl 4 rfl) ?_
          refine lv_bipush (v := (12 : Int32)) hx hb d_M_second_56 (by decide) ?_
          refine lv_icmp_ne (tgt := 80) hx hb d_M_second_58 (by decide) (fun hc => ?_) (fun hc => ?_)
          · replace hf := (if_neg hc).symm.trans hf
            exact J80 v2 v3 s0 me rg sp iv hf _ _ _ (lv_sub hl [1, 3, 4, 0] rfl) hP hD hS
          · replace hf := (if_pos hc).symm.trans hf
            exact J61 v2 v3 me rg sp iv hf _ _ _ (lv_sub hl [1, 3, 4] rfl) hP hD hS
    · replace hf := (if_neg hc).symm.trans hf
      refine lv_aload_n hx hb d_M_second_37 rfl (lv_at hl 1 rfl) ?_
      refine lv_iconst (v := (1 : Int32)) hx hb d_M_second_38 (by decide) ?_
      refine mp_invalid (x := true) X hK hP hD hS d_M_second_39 (fun H locs hP hD hS => ?_)
      refine lv_goto (tgt := 134) hx hb d_M_second_42 (by decide) ?_
      have hq := Option.some.inj hf
      subst hq
      exact rt_v X hr hlk hK hP hD hS d_M_second_134
  unfold mo_second at hf
  refine lv_aload_n hx hb d_M_second_0 rfl (lv_at hl 0 rfl) ?_
  obtain ⟨z11, hz11, hf⟩ := op_b hf
  refine cl_i X cw_M_54 hK hP hD hS hA hl (c_mo_fetch hz11) ⟨rfl, rfl, Nat.le_of_ble_eq_true rfl, Nat.le_of_ble_eq_true rfl⟩ 0 rfl rfl rfl rfl rfl (Nat.le_of_ble_eq_true rfl) d_M_second_1 (fun H locs hP hD hS => ?_)
  refine lv_istore_n hx hb d_M_second_4 rfl hl (by decide) rfl (fun ls hl => ?_)
  have hl : lv_has ls 5 [(1, .int z11.1), (0, .ref h0)] := hl
  refine lv_iload_n hx hb d_M_second_5 rfl (lv_at hl 0 rfl) ?_
  refine lv_iconst (v := (4 : Int32)) hx hb d_M_second_6 (by decide) ?_
  refine lv_ishr hx hb d_M_second_7 ?_
  refine lv_iconst (v := (3 : Int32)) hx hb d_M_second_8 (by decide) ?_
  refine lv_iand hx hb d_M_second_9 ?_
  refine lv_istore_n hx hb d_M_second_10 rfl hl (by decide) rfl (fun ls hl => ?_)
  have hl : lv_has ls 5 [(2, .int ((z11.1 >>> ((4 : Int32) &&& 31)) &&& (3 : Int32))), (1, .int z11.1), (0, .ref h0)] := hl
  refine lv_iload_n hx hb d_M_second_11 rfl (lv_at hl 1 rfl) ?_
  refine lv_bipush (v := (15 : Int32)) hx hb d_M_second_12 (by decide) ?_
  refine lv_iand hx hb d_M_second_14 ?_
  refine lv_istore_n hx hb d_M_second_15 rfl hl (by decide) rfl (fun ls hl => ?_)
  have hl : lv_has ls 5 [(3, .int (z11.1 &&& (15 : Int32))), (2, .int ((z11.1 >>> ((4 : Int32) &&& 31)) &&& (3 : Int32))), (1, .int z11.1), (0, .ref h0)] := hl
  refine lv_iload_n hx hb d_M_second_16 rfl (lv_at hl 2 rfl) ?_
  refine lv_sipush (v := (192 : Int32)) hx hb d_M_second_17 (by decide) ?_
  refine lv_icmp_ge (tgt := 27) hx hb d_M_second_20 (by decide) (fun hc => ?_) (fun hc => ?_)
  · replace hf := (if_pos hc).symm.trans hf
    refine lv_iconst (v := (0 : Int32)) hx hb d_M_second_27 (by decide) ?_
    exact J28 z11.1 ((z11.1 >>> ((4 : Int32) &&& 31)) &&& (3 : Int32)) (z11.1 &&& (15 : Int32)) false me z11.2.1 z11.2.2 iv hf _ _ _ (lv_sub hl [3, 2, 1, 0] rfl) hP hD hS
  · replace hf := (if_neg hc).symm.trans hf
    refine lv_iconst (v := (1 : Int32)) hx hb d_M_second_23 (by decide) ?_
    refine lv_goto (tgt := 28) hx hb d_M_second_24 (by decide) ?_
    exact J28 z11.1 ((z11.1 >>> ((4 : Int32) &&& 31)) &&& (3 : Int32)) (z11.1 &&& (15 : Int32)) true me z11.2.1 z11.2.2 iv hf _ _ _ (lv_sub hl [3, 2, 1, 0] rfl) hP hD hS
end MODEL

theorem d_P_pull_0 : decode mb_P_pull 0 = .ok (.aload_n 0, 1) := by decide +kernel
theorem d_P_pull_1 : decode mb_P_pull 1 = .ok (.dup, 1) := by decide +kernel
theorem d_P_pull_2 : decode mb_P_pull 2 = .ok (.getfield 28, 3) := by decide +kernel
theorem d_P_pull_5 : decode mb_P_pull 5 = .ok (.aload_n 0, 1) := by decide +kernel
theorem d_P_pull_6 : decode mb_P_pull 6 = .ok (.getfield 15, 3) := by decide +kernel
theorem d_P_pull_9 : decode mb_P_pull 9 = .ok (.aload_n 0, 1) := by decide +kernel
theorem d_P_pull_10 : decode mb_P_pull 10 = .ok (.getfield 9, 3) := by decide +kernel
theorem d_P_pull_13 : decode mb_P_pull 13 = .ok (.iload_n 1, 1) := by decide +kernel
theorem d_P_pull_14 : decode mb_P_pull 14 = .ok (.iload_n 2, 1) := by decide +kernel
theorem d_P_pull_15 : decode mb_P_pull 15 = .ok (.invokevirtual 85, 3) := by decide +kernel
theorem d_P_pull_18 : decode mb_P_pull 18 = .ok (.iadd, 1) := by decide +kernel
theorem d_P_pull_19 : decode mb_P_pull 19 = .ok (.putfield 28, 3) := by decide +kernel
theorem d_P_pull_22 : decode mb_P_pull 22 = .ok (.return_, 1) := by decide +kernel
theorem d_P_doGroup3_0 : decode mb_P_doGroup3 0 = .ok (.iload_n 1, 1) := by decide +kernel
theorem d_P_doGroup3_1 : decode mb_P_doGroup3 1 = .ok (.tableswitch 222 48 63 #[79, 87, 95, 103, 111, 124, 137, 150, 222, 163, 174, 222, 222, 200, 222, 210], 79) := by decide +kernel
theorem d_P_doGroup3_80 : decode mb_P_doGroup3 80 = .ok (.aload_n 0, 1) := by decide +kernel
theorem d_P_doGroup3_81 : decode mb_P_doGroup3 81 = .ok (.iconst 1, 1) := by decide +kernel
theorem d_P_doGroup3_82 : decode mb_P_doGroup3 82 = .ok (.invokevirtual 187, 3) := by decide +kernel
theorem d_P_doGroup3_85 : decode mb_P_doGroup3 85 = .ok (.goto 144, 3) := by decide +kernel
theorem d_P_doGroup3_88 : decode mb_P_doGroup3 88 = .ok (.aload_n 0, 1) := by decide +kernel
theorem d_P_doGroup3_89 : decode mb_P_doGroup3 89 = .ok (.iconst 2, 1) := by decide +kernel
theorem d_P_doGroup3_90 : decode mb_P_doGroup3 90 = .ok (.invokevirtual 187, 3) := by decide +kernel
theorem d_P_doGroup3_93 : decode mb_P_doGroup3 93 = .ok (.goto 136, 3) := by decide +kernel
theorem d_P_doGroup3_96 : decode mb_P_doGroup3 96 = .ok (.aload_n 0, 1) := by decide +kernel
theorem d_P_doGroup3_97 : decode mb_P_doGroup3 97 = .ok (.iconst 4, 1) := by decide +kernel
theorem d_P_doGroup3_98 : decode mb_P_doGroup3 98 = .ok (.invokevirtual 187, 3) := by decide +kernel
theorem d_P_doGroup3_101 : decode mb_P_doGroup3 101 = .ok (.goto 128, 3) := by decide +kernel
theorem d_P_doGroup3_104 : decode mb_P_doGroup3 104 = .ok (.aload_n 0, 1) := by decide +kernel
theorem d_P_doGroup3_105 : decode mb_P_doGroup3 105 = .ok (.iconst 3, 1) := by decide +kernel
theorem d_P_doGroup3_106 : decode mb_P_doGroup3 106 = .ok (.invokevirtual 187, 3) := by decide +kernel
theorem d_P_doGroup3_109 : decode mb_P_doGroup3 109 = .ok (.goto 120, 3) := by decide +kernel
theorem d_P_doGroup3_112 : decode mb_P_doGroup3 112 = .ok (.aload_n 0, 1) := by decide +kernel
theorem d_P_doGroup3_113 : decode mb_P_doGroup3 113 = .ok (.iconst 4, 1) := by decide +kernel
theorem d_P_doGroup3_114 : decode mb_P_doGroup3 114 = .ok (.aload_n 0, 1) := by decide +kernel
theorem d_P_doGroup3_115 : decode mb_P_doGroup3 115 = .ok (.iconst 1, 1) := by decide +kernel
theorem d_P_doGroup3_116 : decode mb_P_doGroup3 116 = .ok (.invokevirtual 35, 3) := by decide +kernel
theorem d_P_doGroup3_119 : decode mb_P_doGroup3 119 = .ok (.invokevirtual 144, 3) := by decide +kernel
theorem d_P_doGroup3_122 : decode mb_P_doGroup3 122 = .ok (.goto 107, 3) := by decide +kernel
theorem d_P_doGroup3_125 : decode mb_P_doGroup3 125 = .ok (.aload_n 0, 1) := by decide +kernel
theorem d_P_doGroup3_126 : decode mb_P_doGroup3 126 = .ok (.iconst 4, 1) := by decide +kernel
theorem d_P_doGroup3_127 : decode mb_P_doGroup3 127 = .ok (.aload_n 0, 1) := by decide +kernel
theorem d_P_doGroup3_128 : decode mb_P_doGroup3 128 = .ok (.iconst 1, 1) := by decide +kernel
theorem d_P_doGroup3_129 : decode mb_P_doGroup3 129 = .ok (.invokevirtual 35, 3) := by decide +kernel
theorem d_P_doGroup3_132 : decode mb_P_doGroup3 132 = .ok (.invokevirtual 190, 3) := by decide +kernel
theorem d_P_doGroup3_135 : decode mb_P_doGroup3 135 = .ok (.goto 94, 3) := by decide +kernel
theorem d_P_doGroup3_138 : decode mb_P_doGroup3 138 = .ok (.aload_n 0, 1) := by decide +kernel
theorem d_P_doGroup3_139 : decode mb_P_doGroup3 139 = .ok (.iconst 3, 1) := by decide +kernel
theorem d_P_doGroup3_140 : decode mb_P_doGroup3 140 = .ok (.aload_n 0, 1) := by decide +kernel
theorem d_P_doGroup3_141 : decode mb_P_doGroup3 141 = .ok (.iconst 1, 1) := by decide +kernel
theorem d_P_doGroup3_142 : decode mb_P_doGroup3 142 = .ok (.invokevirtual 35, 3) := by decide +kernel
theorem d_P_doGroup3_145 : decode mb_P_doGroup3 145 = .ok (.invokevirtual 144, 3) := by decide +kernel
theorem d_P_doGroup3_148 : decode mb_P_doGroup3 148 = .ok (.goto 81, 3) := by decide +kernel
theorem d_P_doGroup3_151 : decode mb_P_doGroup3 151 = .ok (.aload_n 0, 1) := by decide +kernel
theorem d_P_doGroup3_152 : decode mb_P_doGroup3 152 = .ok (.iconst 3, 1) := by decide +kernel
theorem d_P_doGroup3_153 : decode mb_P_doGroup3 153 = .ok (.aload_n 0, 1) := by decide +kernel
theorem d_P_doGroup3_154 : decode mb_P_doGroup3 154 = .ok (.iconst 1, 1) := by decide +kernel
theorem d_P_doGroup3_155 : decode mb_P_doGroup3 155 = .ok (.invokevirtual 35, 3) := by decide +kernel
theorem d_P_doGroup3_158 : decode mb_P_doGroup3 158 = .ok (.invokevirtual 190, 3) := by decide +kernel
theorem d_P_doGroup3_161 : decode mb_P_doGroup3 161 = .ok (.goto 68, 3) := by decide +kernel
theorem d_P_doGroup3_164 : decode mb_P_doGroup3 164 = .ok (.aload_n 0, 1) := by decide +kernel
theorem d_P_doGroup3_165 : decode mb_P_doGroup3 165 = .ok (.iconst 4, 1) := by decide +kernel
theorem d_P_doGroup3_166 : decode mb_P_doGroup3 166 = .ok (.sipush 128, 3) := by decide +kernel
theorem d_P_doGroup3_169 : decode mb_P_doGroup3 169 = .ok (.invokevirtual 190, 3) := by decide +kernel
theorem d_P_doGroup3_172 : decode mb_P_doGroup3 172 = .ok (.goto 57, 3) := by decide +kernel
theorem d_P_doGroup3_175 : decode mb_P_doGroup3 175 = .ok (.aload_n 0, 1) := by decide +kernel
theorem d_P_doGroup3_176 : decode mb_P_doGroup3 176 = .ok (.getfield 15, 3) := by decide +kernel
theorem d_P_doGroup3_179 : decode mb_P_doGroup3 179 = .ok (.iconst 1, 1) := by decide +kernel
theorem d_P_doGroup3_180 : decode mb_P_doGroup3 180 = .ok (.aload_n 0, 1) := by decide +kernel
theorem d_P_doGroup3_181 : decode mb_P_doGroup3 181 = .ok (.getfield 15, 3) := by decide +kernel
theorem d_P_doGroup3_184 : decode mb_P_doGroup3 184 = .ok (.getfield 192, 3) := by decide +kernel
theorem d_P_doGroup3_187 : decode mb_P_doGroup3 187 = .ok (.aload_n 0, 1) := by decide +kernel
theorem d_P_doGroup3_188 : decode mb_P_doGroup3 188 = .ok (.getfield 15, 3) := by decide +kernel
theorem d_P_doGroup3_191 : decode mb_P_doGroup3 191 = .ok (.getfield 135, 3) := by decide +kernel
theorem d_P_doGroup3_194 : decode mb_P_doGroup3 194 = .ok (.iadd, 1) := by decide +kernel
theorem d_P_doGroup3_195 : decode mb_P_doGroup3 195 = .ok (.invokevirtual 112, 3) := by decide +kernel
theorem d_P_doGroup3_198 : decode mb_P_doGroup3 198 = .ok (.goto 31, 3) := by decide +kernel
theorem d_P_doGroup3_201 : decode mb_P_doGroup3 201 = .ok (.aload_n 0, 1) := by decide +kernel
theorem d_P_doGroup3_202 : decode mb_P_doGroup3 202 = .ok (.getfield 24, 3) := by decide +kernel
theorem d_P_doGroup3_205 : decode mb_P_doGroup3 205 = .ok (.invokevirtual 195, 3) := by decide +kernel
theorem d_P_doGroup3_208 : decode mb_P_doGroup3 208 = .ok (.goto 21, 3) := by decide +kernel
theorem d_P_doGroup3_211 : decode mb_P_doGroup3 211 = .ok (.aload_n 0, 1) := by decide +kernel
theorem d_P_doGroup3_212 : decode mb_P_doGroup3 212 = .ok (.aload_n 0, 1) := by decide +kernel
theorem d_P_doGroup3_213 : decode mb_P_doGroup3 213 = .ok (.iconst 1, 1) := by decide +kernel
theorem d_P_doGroup3_214 : decode mb_P_doGroup3 214 = .ok (.invokevirtual 35, 3) := by decide +kernel
theorem d_P_doGroup3_217 : decode mb_P_doGroup3 217 = .ok (.putfield 32, 3) := by decide +kernel
theorem d_P_doGroup3_220 : decode mb_P_doGroup3 220 = .ok (.goto 9, 3) := by decide +kernel
theorem d_P_doGroup3_223 : decode mb_P_doGroup3 223 = .ok (.aload_n 0, 1) := by decide +kernel
theorem d_P_doGroup3_224 : decode mb_P_doGroup3 224 = .ok (.bipush (-2), 2) := by decide +kernel
theorem d_P_doGroup3_226 : decode mb_P_doGroup3 226 = .ok (.putfield 32, 3) := by decide +kernel
theorem d_P_doGroup3_229 : decode mb_P_doGroup3 229 = .ok (.return_, 1) := by decide +kernel
theorem d_P_changeRegister_0 : decode mb_P_changeRegister 0 = .ok (.iload_n 1, 1) := by decide +kernel
theorem d_P_changeRegister_1 : decode mb_P_changeRegister 1 = .ok (.invokestatic 146, 3) := by decide +kernel
theorem d_P_changeRegister_4 : decode mb_P_changeRegister 4 = .ok (.ifCond .eq 27, 3) := by decide +kernel
theorem d_P_changeRegister_7 : decode mb_P_changeRegister 7 = .ok (.aload_n 0, 1) := by decide +kernel
theorem d_P_changeRegister_8 : decode mb_P_changeRegister 8 = .ok (.getfield 15, 3) := by decide +kernel
theorem d_P_changeRegister_11 : decode mb_P_changeRegister 11 = .ok (.iload_n 2, 1) := by decide +kernel
theorem d_P_changeRegister_12 : decode mb_P_changeRegister 12 = .ok (.aload_n 0, 1) := by decide +kernel
theorem d_P_changeRegister_13 : decode mb_P_changeRegister 13 = .ok (.iload_n 1, 1) := by decide +kernel
theorem d_P_changeRegister_14 : decode mb_P_changeRegister 14 = .ok (.aload_n 0, 1) := by decide +kernel
theorem d_P_changeRegister_15 : decode mb_P_changeRegister 15 = .ok (.getfield 15, 3) := by decide +kernel
theorem d_P_changeRegister_18 : decode mb_P_changeRegister 18 = .ok (.iload_n 2, 1) := by decide +kernel
theorem d_P_changeRegister_19 : decode mb_P_changeRegister 19 = .ok (.invokevirtual 100, 3) := by decide +kernel
theorem d_P_changeRegister_22 : decode mb_P_changeRegister 22 = .ok (.invokevirtual 150, 3) := by decide +kernel
theorem d_P_changeRegister_25 : decode mb_P_changeRegister 25 = .ok (.invokevirtual 112, 3) := by decide +kernel
theorem d_P_changeRegister_28 : decode mb_P_changeRegister 28 = .ok (.goto 9, 3) := by decide +kernel
theorem d_P_changeRegister_31 : decode mb_P_changeRegister 31 = .ok (.aload_n 0, 1) := by decide +kernel
theorem d_P_changeRegister_32 : decode mb_P_changeRegister 32 = .ok (.bipush (-2), 2) := by decide +kernel
theorem d_P_changeRegister_34 : decode mb_P_changeRegister 34 = .ok (.putfield 32, 3) := by decide +kernel
theorem d_P_changeRegister_37 : decode mb_P_changeRegister 37 = .ok (.return_, 1) := by decide +kernel
theorem d_P_callAt_0 : decode mb_P_callAt 0 = .ok (.iload_n 1, 1) := by decide +kernel
theorem d_P_callAt_1 : decode mb_P_callAt 1 = .ok (.ifCond .ne 27, 3) := by decide +kernel
theorem d_P_callAt_4 : decode mb_P_callAt 4 = .ok (.aload_n 0, 1) := by decide +kernel
theorem d_P_callAt_5 : decode mb_P_callAt 5 = .ok (.iconst 1, 1) := by decide +kernel
theorem d_P_callAt_6 : decode mb_P_callAt 6 = .ok (.invokevirtual 35, 3) := by decide +kernel
theorem d_P_callAt_9 : decode mb_P_callAt 9 = .ok (.iconst 1, 1) := by decide +kernel
theorem d_P_callAt_10 : decode mb_P_callAt 10 = .ok (.invokestatic 138, 3) := by decide +kernel
theorem d_P_callAt_13 : decode mb_P_callAt 13 = .ok (.aload_n 0, 1) := by decide +kernel
theorem d_P_callAt_14 : decode mb_P_callAt 14 = .ok (.getfield 15, 3) := by decide +kernel
theorem d_P_callAt_17 : decode mb_P_callAt 17 = .ok (.getfield 64, 3) := by decide +kernel
theorem d_P_callAt_20 : decode mb_P_callAt 20 = .ok (.iadd, 1) := by decide +kernel
theorem d_P_callAt_21 : decode mb_P_callAt 21 = .ok (.ldc 76, 2) := by decide +kernel
theorem d_P_callAt_23 : decode mb_P_callAt 23 = .ok (.iand, 1) := by decide +kernel
theorem d_P_callAt_24 : decode mb_P_callAt 24 = .ok (.istore_n 2, 1) := by decide +kernel
theorem d_P_callAt_25 : decode mb_P_callAt 25 = .ok (.goto 10, 3) := by decide +kernel
theorem d_P_callAt_28 : decode mb_P_callAt 28 = .ok (.aload_n 0, 1) := by decide +kernel
theorem d_P_callAt_29 : decode mb_P_callAt 29 = .ok (.iload_n 1, 1) := by decide +kernel
theorem d_P_callAt_30 : decode mb_P_callAt 30 = .ok (.iconst 1, 1) := by decide +kernel
theorem d_P_callAt_31 : decode mb_P_callAt 31 = .ok (.invokevirtual 97, 3) := by decide +kernel
theorem d_P_callAt_34 : decode mb_P_callAt 34 = .ok (.istore_n 2, 1) := by decide +kernel
theorem d_P_callAt_35 : decode mb_P_callAt 35 = .ok (.aload_n 0, 1) := by decide +kernel
theorem d_P_callAt_36 : decode mb_P_callAt 36 = .ok (.getfield 32, 3) := by decide +kernel
theorem d_P_callAt_39 : decode mb_P_callAt 39 = .ok (.bipush (-2), 2) := by decide +kernel
theorem d_P_callAt_41 : decode mb_P_callAt 41 = .ok (.if_icmp .eq 19, 3) := by decide +kernel
theorem d_P_callAt_44 : decode mb_P_callAt 44 = .ok (.aload_n 0, 1) := by decide +kernel
theorem d_P_callAt_45 : decode mb_P_callAt 45 = .ok (.iconst 4, 1) := by decide +kernel
theorem d_P_callAt_46 : decode mb_P_callAt 46 = .ok (.sipush 128, 3) := by decide +kernel
theorem d_P_callAt_49 : decode mb_P_callAt 49 = .ok (.invokevirtual 144, 3) := by decide +kernel
theorem d_P_callAt_52 : decode mb_P_callAt 52 = .ok (.aload_n 0, 1) := by decide +kernel
theorem d_P_callAt_53 : decode mb_P_callAt 53 = .ok (.getfield 15, 3) := by decide +kernel
theorem d_P_callAt_56 : decode mb_P_callAt 56 = .ok (.iload_n 2, 1) := by decide +kernel
theorem d_P_callAt_57 : decode mb_P_callAt 57 = .ok (.putfield 64, 3) := by decide +kernel
theorem d_P_callAt_60 : decode mb_P_callAt 60 = .ok (.return_, 1) := by decide +kernel
theorem d_P_doMainPage_0 : decode mb_P_doMainPage 0 = .ok (.iload_n 1, 1) := by decide +kernel
theorem d_P_doMainPage_1 : decode mb_P_doMainPage 1 = .ok (.iconst 4, 1) := by decide +kernel
theorem d_P_doMainPage_2 : decode mb_P_doMainPage 2 = .ok (.ishr, 1) := by decide +kernel
theorem d_P_doMainPage_3 : decode mb_P_doMainPage 3 = .ok (.iconst 3, 1) := by decide +kernel
theorem d_P_doMainPage_4 : decode mb_P_doMainPage 4 = .ok (.iand, 1) := by decide +kernel
theorem d_P_doMainPage_5 : decode mb_P_doMainPage 5 = .ok (.istore_n 2, 1) := by decide +kernel
theorem d_P_doMainPage_6 : decode mb_P_doMainPage 6 = .ok (.iload_n 1, 1) := by decide +kernel
theorem d_P_doMainPage_7 : decode mb_P_doMainPage 7 = .ok (.sipush 192, 3) := by decide +kernel
theorem d_P_doMainPage_10 : decode mb_P_doMainPage 10 = .ok (.if_icmp .lt 7, 3) := by decide +kernel
theorem d_P_doMainPage_13 : decode mb_P_doMainPage 13 = .ok (.iconst 1, 1) := by decide +kernel
theorem d_P_doMainPage_14 : decode mb_P_doMainPage 14 = .ok (.goto 4, 3) := by decide +kernel
theorem d_P_doMainPage_17 : decode mb_P_doMainPage 17 = .ok (.iconst 0, 1) := by decide +kernel
theorem d_P_doMainPage_18 : decode mb_P_doMainPage 18 = .ok (.istore_n 3, 1) := by decide +kernel
theorem d_P_doMainPage_19 : decode mb_P_doMainPage 19 = .ok (.iload_n 1, 1) := by decide +kernel
theorem d_P_doMainPage_20 : decode mb_P_doMainPage 20 = .ok (.bipush 15, 2) := by decide +kernel
theorem d_P_doMainPage_22 : decode mb_P_doMainPage 22 = .ok (.iand, 1) := by decide +kernel
theorem d_P_doMainPage_23 : decode mb_P_doMainPage 23 = .ok (.tableswitch 170 3 15 #[65, 170, 170, 170, 170, 170, 170, 170, 170, 84, 109, 132, 151], 65) := by decide +kernel
theorem d_P_doMainPage_88 : decode mb_P_doMainPage 88 = .ok (.aload_n 0, 1) := by decide +kernel
theorem d_P_doMainPage_89 : decode mb_P_doMainPage 89 = .ok (.iload_n 3, 1) := by decide +kernel
theorem d_P_doMainPage_90 : decode mb_P_doMainPage 90 = .ok (.ifCond .eq 8, 3) := by decide +kernel
theorem d_P_doMainPage_93 : decode mb_P_doMainPage 93 = .ok (.bipush 11, 2) := by decide +kernel
theorem d_P_doMainPage_95 : decode mb_P_doMainPage 95 = .ok (.goto 4, 3) := by decide +kernel
theorem d_P_doMainPage_98 : decode mb_P_doMainPage 98 = .ok (.iconst 0, 1) := by decide +kernel
theorem d_P_doMainPage_99 : decode mb_P_doMainPage 99 = .ok (.iconst 0, 1) := by decide +kernel
theorem d_P_doMainPage_100 : decode mb_P_doMainPage 100 = .ok (.iload_n 2, 1) := by decide +kernel
theorem d_P_doMainPage_101 : decode mb_P_doMainPage 101 = .ok (.invokevirtual 88, 3) := by decide +kernel
theorem d_P_doMainPage_104 : decode mb_P_doMainPage 104 = .ok (.goto 109, 3) := by decide +kernel
theorem d_P_doMainPage_107 : decode mb_P_doMainPage 107 = .ok (.iload_n 3, 1) := by decide +kernel
theorem d_P_doMainPage_108 : decode mb_P_doMainPage 108 = .ok (.ifCond .eq 14, 3) := by decide +kernel
theorem d_P_doMainPage_111 : decode mb_P_doMainPage 111 = .ok (.aload_n 0, 1) := by decide +kernel
theorem d_P_doMainPage_112 : decode mb_P_doMainPage 112 = .ok (.bipush 6, 2) := by decide +kernel
theorem d_P_doMainPage_114 : decode mb_P_doMainPage 114 = .ok (.iconst 0, 1) := by decide +kernel
theorem d_P_doMainPage_115 : decode mb_P_doMainPage 115 = .ok (.iload_n 2, 1) := by decide +kernel
theorem d_P_doMainPage_116 : decode mb_P_doMainPage 116 = .ok (.invokevirtual 88, 3) := by decide +kernel
theorem d_P_doMainPage_119 : decode mb_P_doMainPage 119 = .ok (.goto 94, 3) := by decide +kernel
theorem d_P_doMainPage_122 : decode mb_P_doMainPage 122 = .ok (.aload_n 0, 1) := by decide +kernel
theorem d_P_doMainPage_123 : decode mb_P_doMainPage 123 = .ok (.iconst 1, 1) := by decide +kernel
theorem d_P_doMainPage_124 : decode mb_P_doMainPage 124 = .ok (.iconst 1, 1) := by decide +kernel
theorem d_P_doMainPage_125 : decode mb_P_doMainPage 125 = .ok (.iload_n 2, 1) := by decide +kernel
theorem d_P_doMainPage_126 : decode mb_P_doMainPage 126 = .ok (.invokevirtual 88, 3) := by decide +kernel
theorem d_P_doMainPage_129 : decode mb_P_doMainPage 129 = .ok (.goto 84, 3) := by decide +kernel
theorem d_P_doMainPage_132 : decode mb_P_doMainPage 132 = .ok (.iload_n 3, 1) := by decide +kernel
theorem d_P_doMainPage_133 : decode mb_P_doMainPage 133 = .ok (.ifCond .eq 14, 3) := by decide +kernel
theorem d_P_doMainPage_136 : decode mb_P_doMainPage 136 = .ok (.aload_n 0, 1) := by decide +kernel
theorem d_P_doMainPage_137 : decode mb_P_doMainPage 137 = .ok (.bipush 7, 2) := by decide +kernel
theorem d_P_doMainPage_139 : decode mb_P_doMainPage 139 = .ok (.iconst 0, 1) := by decide +kernel
theorem d_P_doMainPage_140 : decode mb_P_doMainPage 140 = .ok (.iload_n 2, 1) := by decide +kernel
theorem d_P_doMainPage_141 : decode mb_P_doMainPage 141 = .ok (.invokevirtual 88, 3) := by decide +kernel
theorem d_P_doMainPage_144 : decode mb_P_doMainPage 144 = .ok (.goto 69, 3) := by decide +kernel
theorem d_P_doMainPage_147 : decode mb_P_doMainPage 147 = .ok (.aload_n 0, 1) := by decide +kernel
theorem d_P_doMainPage_148 : decode mb_P_doMainPage 148 = .ok (.iload_n 2, 1) := by decide +kernel
theorem d_P_doMainPage_149 : decode mb_P_doMainPage 149 = .ok (.invokevirtual 91, 3) := by decide +kernel
theorem d_P_doMainPage_152 : decode mb_P_doMainPage 152 = .ok (.goto 61, 3) := by decide +kernel
theorem d_P_doMainPage_155 : decode mb_P_doMainPage 155 = .ok (.aload_n 0, 1) := by decide +kernel
theorem d_P_doMainPage_156 : decode mb_P_doMainPage 156 = .ok (.bipush 6, 2) := by decide +kernel
theorem d_P_doMainPage_158 : decode mb_P_doMainPage 158 = .ok (.iload_n 3, 1) := by decide +kernel
theorem d_P_doMainPage_159 : decode mb_P_doMainPage 159 = .ok (.ifCond .eq 7, 3) := by decide +kernel
theorem d_P_doMainPage_162 : decode mb_P_doMainPage 162 = .ok (.iconst 3, 1) := by decide +kernel
theorem d_P_doMainPage_163 : decode mb_P_doMainPage 163 = .ok (.goto 4, 3) := by decide +kernel
theorem d_P_doMainPage_166 : decode mb_P_doMainPage 166 = .ok (.iconst 1, 1) := by decide +kernel
theorem d_P_doMainPage_167 : decode mb_P_doMainPage 167 = .ok (.iload_n 2, 1) := by decide +kernel
theorem d_P_doMainPage_168 : decode mb_P_doMainPage 168 = .ok (.invokevirtual 88, 3) := by decide +kernel
theorem d_P_doMainPage_171 : decode mb_P_doMainPage 171 = .ok (.goto 42, 3) := by decide +kernel
theorem d_P_doMainPage_174 : decode mb_P_doMainPage 174 = .ok (.aload_n 0, 1) := by decide +kernel
theorem d_P_doMainPage_175 : decode mb_P_doMainPage 175 = .ok (.bipush 7, 2) := by decide +kernel
theorem d_P_doMainPage_177 : decode mb_P_doMainPage 177 = .ok (.iload_n 3, 1) := by decide +kernel
theorem d_P_doMainPage_178 : decode mb_P_doMainPage 178 = .ok (.ifCond .eq 7, 3) := by decide +kernel
theorem d_P_doMainPage_181 : decode mb_P_doMainPage 181 = .ok (.iconst 3, 1) := by decide +kernel
theorem d_P_doMainPage_182 : decode mb_P_doMainPage 182 = .ok (.goto 4, 3) := by decide +kernel
theorem d_P_doMainPage_185 : decode mb_P_doMainPage 185 = .ok (.iconst 1, 1) := by decide +kernel
theorem d_P_doMainPage_186 : decode mb_P_doMainPage 186 = .ok (.iload_n 2, 1) := by decide +kernel
theorem d_P_doMainPage_187 : decode mb_P_doMainPage 187 = .ok (.invokevirtual 88, 3) := by decide +kernel
theorem d_P_doMainPage_190 : decode mb_P_doMainPage 190 = .ok (.goto 23, 3) := by decide +kernel
theorem d_P_doMainPage_193 : decode mb_P_doMainPage 193 = .ok (.aload_n 0, 1) := by decide +kernel
theorem d_P_doMainPage_194 : decode mb_P_doMainPage 194 = .ok (.iload_n 1, 1) := by decide +kernel
theorem d_P_doMainPage_195 : decode mb_P_doMainPage 195 = .ok (.bipush 15, 2) := by decide +kernel
theorem d_P_doMainPage_197 : decode mb_P_doMainPage 197 = .ok (.iand, 1) := by decide +kernel
theorem d_P_doMainPage_198 : decode mb_P_doMainPage 198 = .ok (.iload_n 3, 1) := by decide +kernel
theorem d_P_doMainPage_199 : decode mb_P_doMainPage 199 = .ok (.ifCond .eq 8, 3) := by decide +kernel
theorem d_P_doMainPage_202 : decode mb_P_doMainPage 202 = .ok (.bipush 9, 2) := by decide +kernel
theorem d_P_doMainPage_204 : decode mb_P_doMainPage 204 = .ok (.goto 5, 3) := by decide +kernel
theorem d_P_doMainPage_207 : decode mb_P_doMainPage 207 = .ok (.bipush 8, 2) := by decide +kernel
theorem d_P_doMainPage_209 : decode mb_P_doMainPage 209 = .ok (.iload_n 2, 1) := by decide +kernel
theorem d_P_doMainPage_210 : decode mb_P_doMainPage 210 = .ok (.invokevirtual 88, 3) := by decide +kernel
theorem d_P_doMainPage_213 : decode mb_P_doMainPage 213 = .ok (.return_, 1) := by decide +kernel
theorem d_P_execute_0 : decode mb_P_execute 0 = .ok (.aload_n 0, 1) := by decide +kernel
theorem d_P_execute_1 : decode mb_P_execute 1 = .ok (.iconst 0, 1) := by decide +kernel
theorem d_P_execute_2 : decode mb_P_execute 2 = .ok (.putfield 28, 3) := by decide +kernel
theorem d_P_execute_5 : decode mb_P_execute 5 = .ok (.aload_n 0, 1) := by decide +kernel
theorem d_P_execute_6 : decode mb_P_execute 6 = .ok (.iconst (-1), 1) := by decide +kernel
theorem d_P_execute_7 : decode mb_P_execute 7 = .ok (.putfield 32, 3) := by decide +kernel
theorem d_P_execute_10 : decode mb_P_execute 10 = .ok (.aload_n 0, 1) := by decide +kernel
theorem d_P_execute_11 : decode mb_P_execute 11 = .ok (.iconst 1, 1) := by decide +kernel
theorem d_P_execute_12 : decode mb_P_execute 12 = .ok (.invokevirtual 35, 3) := by decide +kernel
theorem d_P_execute_15 : decode mb_P_execute 15 = .ok (.istore_n 1, 1) := by decide +kernel
theorem d_P_execute_16 : decode mb_P_execute 16 = .ok (.iload_n 1, 1) := by decide +kernel
theorem d_P_execute_17 : decode mb_P_execute 17 = .ok (.iconst 4, 1) := by decide +kernel
theorem d_P_execute_18 : decode mb_P_execute 18 = .ok (.ishr, 1) := by decide +kernel
theorem d_P_execute_19 : decode mb_P_execute 19 = .ok (.tableswitch 144 0 7 #[45, 57, 83, 94, 102, 115, 128, 128], 45) := by decide +kernel
theorem d_P_execute_64 : decode mb_P_execute 64 = .ok (.aload_n 0, 1) := by decide +kernel
theorem d_P_execute_65 : decode mb_P_execute 65 = .ok (.iload_n 1, 1) := by decide +kernel
theorem d_P_execute_66 : decode mb_P_execute 66 = .ok (.bipush 15, 2) := by decide +kernel
theorem d_P_execute_68 : decode mb_P_execute 68 = .ok (.iand, 1) := by decide +kernel
theorem d_P_execute_69 : decode mb_P_execute 69 = .ok (.iconst 1, 1) := by decide +kernel
theorem d_P_execute_70 : decode mb_P_execute 70 = .ok (.invokevirtual 39, 3) := by decide +kernel
theorem d_P_execute_73 : decode mb_P_execute 73 = .ok (.goto 95, 3) := by decide +kernel
theorem d_P_execute_76 : decode mb_P_execute 76 = .ok (.iload_n 1, 1) := by decide +kernel
theorem d_P_execute_77 : decode mb_P_execute 77 = .ok (.bipush 16, 2) := by decide +kernel
theorem d_P_execute_79 : decode mb_P_execute 79 = .ok (.if_icmp .ne 15, 3) := by decide +kernel
theorem d_P_execute_82 : decode mb_P_execute 82 = .ok (.aload_n 0, 1) := by decide +kernel
theorem d_P_execute_83 : decode mb_P_execute 83 = .ok (.aload_n 0, 1) := by decide +kernel
theorem d_P_execute_84 : decode mb_P_execute 84 = .ok (.iconst 1, 1) := by decide +kernel
theorem d_P_execute_85 : decode mb_P_execute 85 = .ok (.invokevirtual 35, 3) := by decide +kernel
theorem d_P_execute_88 : decode mb_P_execute 88 = .ok (.invokevirtual 43, 3) := by decide +kernel
theorem d_P_execute_91 : decode mb_P_execute 91 = .ok (.goto 77, 3) := by decide +kernel
theorem d_P_execute_94 : decode mb_P_execute 94 = .ok (.aload_n 0, 1) := by decide +kernel
theorem d_P_execute_95 : decode mb_P_execute 95 = .ok (.iload_n 1, 1) := by decide +kernel
theorem d_P_execute_96 : decode mb_P_execute 96 = .ok (.invokevirtual 47, 3) := by decide +kernel
theorem d_P_execute_99 : decode mb_P_execute 99 = .ok (.goto 69, 3) := by decide +kernel
theorem d_P_execute_102 : decode mb_P_execute 102 = .ok (.aload_n 0, 1) := by decide +kernel
theorem d_P_execute_103 : decode mb_P_execute 103 = .ok (.iload_n 1, 1) := by decide +kernel
theorem d_P_execute_104 : decode mb_P_execute 104 = .ok (.bipush 15, 2) := by decide +kernel
theorem d_P_execute_106 : decode mb_P_execute 106 = .ok (.iand, 1) := by decide +kernel
theorem d_P_execute_107 : decode mb_P_execute 107 = .ok (.invokevirtual 50, 3) := by decide +kernel
theorem d_P_execute_110 : decode mb_P_execute 110 = .ok (.goto 58, 3) := by decide +kernel
theorem d_P_execute_113 : decode mb_P_execute 113 = .ok (.aload_n 0, 1) := by decide +kernel
theorem d_P_execute_114 : decode mb_P_execute 114 = .ok (.iload_n 1, 1) := by decide +kernel
theorem d_P_execute_115 : decode mb_P_execute 115 = .ok (.invokevirtual 53, 3) := by decide +kernel
theorem d_P_execute_118 : decode mb_P_execute 118 = .ok (.goto 50, 3) := by decide +kernel
theorem d_P_execute_121 : decode mb_P_execute 121 = .ok (.aload_n 0, 1) := by decide +kernel
theorem d_P_execute_122 : decode mb_P_execute 122 = .ok (.iload_n 1, 1) := by decide +kernel
theorem d_P_execute_123 : decode mb_P_execute 123 = .ok (.bipush 15, 2) := by decide +kernel
theorem d_P_execute_125 : decode mb_P_execute 125 = .ok (.iand, 1) := by decide +kernel
theorem d_P_execute_126 : decode mb_P_execute 126 = .ok (.bipush 8, 2) := by decide +kernel
theorem d_P_execute_128 : decode mb_P_execute 128 = .ok (.invokevirtual 58, 3) := by decide +kernel
theorem d_P_execute_131 : decode mb_P_execute 131 = .ok (.goto 37, 3) := by decide +kernel
theorem d_P_execute_134 : decode mb_P_execute 134 = .ok (.aload_n 0, 1) := by decide +kernel
theorem d_P_execute_135 : decode mb_P_execute 135 = .ok (.iload_n 1, 1) := by decide +kernel
theorem d_P_execute_136 : decode mb_P_execute 136 = .ok (.bipush 15, 2) := by decide +kernel
theorem d_P_execute_138 : decode mb_P_execute 138 = .ok (.iand, 1) := by decide +kernel
theorem d_P_execute_139 : decode mb_P_execute 139 = .ok (.bipush 9, 2) := by decide +kernel
theorem d_P_execute_141 : decode mb_P_execute 141 = .ok (.invokevirtual 58, 3) := by decide +kernel
theorem d_P_execute_144 : decode mb_P_execute 144 = .ok (.goto 24, 3) := by decide +kernel
theorem d_P_execute_147 : decode mb_P_execute 147 = .ok (.aload_n 0, 1) := by decide +kernel
theorem d_P_execute_148 : decode mb_P_execute 148 = .ok (.iload_n 1, 1) := by decide +kernel
theorem d_P_execute_149 : decode mb_P_execute 149 = .ok (.bipush 15, 2) := by decide +kernel
theorem d_P_execute_151 : decode mb_P_execute 151 = .ok (.iand, 1) := by decide +kernel
theorem d_P_execute_152 : decode mb_P_execute 152 = .ok (.iload_n 1, 1) := by decide +kernel
theorem d_P_execute_153 : decode mb_P_execute 153 = .ok (.iconst 4, 1) := by decide +kernel
theorem d_P_execute_154 : decode mb_P_execute 154 = .ok (.ishr, 1) := by decide +kernel
theorem d_P_execute_155 : decode mb_P_execute 155 = .ok (.iconst 3, 1) := by decide +kernel
theorem d_P_execute_156 : decode mb_P_execute 156 = .ok (.iand, 1) := by decide +kernel
theorem d_P_execute_157 : decode mb_P_execute 157 = .ok (.invokevirtual 39, 3) := by decide +kernel
theorem d_P_execute_160 : decode mb_P_execute 160 = .ok (.goto 8, 3) := by decide +kernel
theorem d_P_execute_163 : decode mb_P_execute 163 = .ok (.aload_n 0, 1) := by decide +kernel
theorem d_P_execute_164 : decode mb_P_execute 164 = .ok (.iload_n 1, 1) := by decide +kernel
theorem d_P_execute_165 : decode mb_P_execute 165 = .ok (.invokevirtual 61, 3) := by decide +kernel
theorem d_P_execute_168 : decode mb_P_execute 168 = .ok (.aload_n 0, 1) := by decide +kernel
theorem d_P_execute_169 : decode mb_P_execute 169 = .ok (.getfield 32, 3) := by decide +kernel
theorem d_P_execute_172 : decode mb_P_execute 172 = .ok (.bipush (-2), 2) := by decide +kernel
theorem d_P_execute_174 : decode mb_P_execute 174 = .ok (.if_icmp .ne 8, 3) := by decide +kernel
theorem d_P_execute_177 : decode mb_P_execute 177 = .ok (.aload_n 0, 1) := by decide +kernel
theorem d_P_execute_178 : decode mb_P_execute 178 = .ok (.iconst 1, 1) := by decide +kernel
theorem d_P_execute_179 : decode mb_P_execute 179 = .ok (.putfield 28, 3) := by decide +kernel
theorem d_P_execute_182 : decode mb_P_execute 182 = .ok (.aload_n 0, 1) := by decide +kernel
theorem d_P_execute_183 : decode mb_P_execute 183 = .ok (.getfield 32, 3) := by decide +kernel
theorem d_P_execute_186 : decode mb_P_execute 186 = .ok (.ireturn, 1) := by decide +kernel
theorem d_Q_numberAt_0 : decode mb_Q_numberAt 0 = .ok (.iload_n 1, 1) := by decide +kernel
theorem d_Q_numberAt_1 : decode mb_Q_numberAt 1 = .ok (.ifCond .lt 23, 3) := by decide +kernel
theorem d_Q_numberAt_4 : decode mb_Q_numberAt 4 = .ok (.iload_n 1, 1) := by decide +kernel
theorem d_Q_numberAt_5 : decode mb_Q_numberAt 5 = .ok (.aload_n 0, 1) := by decide +kernel
theorem d_Q_numberAt_6 : decode mb_Q_numberAt 6 = .ok (.getfield 17, 3) := by decide +kernel
theorem d_Q_numberAt_9 : decode mb_Q_numberAt 9 = .ok (.if_icmp .ge 15, 3) := by decide +kernel
theorem d_Q_numberAt_12 : decode mb_Q_numberAt 12 = .ok (.aload_n 0, 1) := by decide +kernel
theorem d_Q_numberAt_13 : decode mb_Q_numberAt 13 = .ok (.getfield 11, 3) := by decide +kernel
theorem d_Q_numberAt_16 : decode mb_Q_numberAt 16 = .ok (.iload_n 1, 1) := by decide +kernel
theorem d_Q_numberAt_17 : decode mb_Q_numberAt 17 = .ok (.aaload, 1) := by decide +kernel
theorem d_Q_numberAt_18 : decode mb_Q_numberAt 18 = .ok (.getfield 25, 3) := by decide +kernel
theorem d_Q_numberAt_21 : decode mb_Q_numberAt 21 = .ok (.goto 4, 3) := by decide +kernel
theorem d_Q_numberAt_24 : decode mb_Q_numberAt 24 = .ok (.iconst (-1), 1) := by decide +kernel
theorem d_Q_numberAt_25 : decode mb_Q_numberAt 25 = .ok (.ireturn, 1) := by decide +kernel
theorem d_I_letPass_0 : decode mb_I_letPass 0 = .ok (.aload_n 0, 1) := by decide +kernel
theorem d_I_letPass_1 : decode mb_I_letPass 1 = .ok (.dup, 1) := by decide +kernel
theorem d_I_letPass_2 : decode mb_I_letPass 2 = .ok (.getfield 7, 3) := by decide +kernel
theorem d_I_letPass_5 : decode mb_I_letPass 5 = .ok (.iload_n 1, 1) := by decide +kernel
theorem d_I_letPass_6 : decode mb_I_letPass 6 = .ok (.iadd, 1) := by decide +kernel
theorem d_I_letPass_7 : decode mb_I_letPass 7 = .ok (.putfield 7, 3) := by decide +kernel
theorem d_I_letPass_10 : decode mb_I_letPass 10 = .ok (.aload_n 0, 1) := by decide +kernel
theorem d_I_letPass_11 : decode mb_I_letPass 11 = .ok (.getfield 13, 3) := by decide +kernel
theorem d_I_letPass_14 : decode mb_I_letPass 14 = .ok (.ifCond .ne 4, 3) := by decide +kernel
theorem d_I_letPass_17 : decode mb_I_letPass 17 = .ok (.return_, 1) := by decide +kernel
theorem d_I_letPass_18 : decode mb_I_letPass 18 = .ok (.aload_n 0, 1) := by decide +kernel
theorem d_I_letPass_19 : decode mb_I_letPass 19 = .ok (.dup, 1) := by decide +kernel
theorem d_I_letPass_20 : decode mb_I_letPass 20 = .ok (.getfield 16, 3) := by decide +kernel
theorem d_I_letPass_23 : decode mb_I_letPass 23 = .ok (.iload_n 1, 1) := by decide +kernel
theorem d_I_letPass_24 : decode mb_I_letPass 24 = .ok (.isub, 1) := by decide +kernel
theorem d_I_letPass_25 : decode mb_I_letPass 25 = .ok (.putfield 16, 3) := by decide +kernel
theorem d_I_letPass_28 : decode mb_I_letPass 28 = .ok (.aload_n 0, 1) := by decide +kernel
theorem d_I_letPass_29 : decode mb_I_letPass 29 = .ok (.getfield 16, 3) := by decide +kernel
theorem d_I_letPass_32 : decode mb_I_letPass 32 = .ok (.ifCond .gt 38, 3) := by decide +kernel
theorem d_I_letPass_35 : decode mb_I_letPass 35 = .ok (.aload_n 0, 1) := by decide +kernel
theorem d_I_letPass_36 : decode mb_I_letPass 36 = .ok (.dup, 1) := by decide +kernel
theorem d_I_letPass_37 : decode mb_I_letPass 37 = .ok (.getfield 16, 3) := by decide +kernel
theorem d_I_letPass_40 : decode mb_I_letPass 40 = .ok (.aload_n 0, 1) := by decide +kernel
theorem d_I_letPass_41 : decode mb_I_letPass 41 = .ok (.getfield 13, 3) := by decide +kernel
theorem d_I_letPass_44 : decode mb_I_letPass 44 = .ok (.iadd, 1) := by decide +kernel
theorem d_I_letPass_45 : decode mb_I_letPass 45 = .ok (.putfield 16, 3) := by decide +kernel
theorem d_I_letPass_48 : decode mb_I_letPass 48 = .ok (.aload_n 0, 1) := by decide +kernel
theorem d_I_letPass_49 : decode mb_I_letPass 49 = .ok (.getfield 19, 3) := by decide +kernel
theorem d_I_letPass_52 : decode mb_I_letPass 52 = .ok (.ifCond .eq 13, 3) := by decide +kernel
theorem d_I_letPass_55 : decode mb_I_letPass 55 = .ok (.aload_n 0, 1) := by decide +kernel
theorem d_I_letPass_56 : decode mb_I_letPass 56 = .ok (.dup, 1) := by decide +kernel
theorem d_I_letPass_57 : decode mb_I_letPass 57 = .ok (.getfield 23, 3) := by decide +kernel
theorem d_I_letPass_60 : decode mb_I_letPass 60 = .ok (.iconst 1, 1) := by decide +kernel
theorem d_I_letPass_61 : decode mb_I_letPass 61 = .ok (.iadd, 1) := by decide +kernel
theorem d_I_letPass_62 : decode mb_I_letPass 62 = .ok (.putfield 23, 3) := by decide +kernel
theorem d_I_letPass_65 : decode mb_I_letPass 65 = .ok (.aload_n 0, 1) := by decide +kernel
theorem d_I_letPass_66 : decode mb_I_letPass 66 = .ok (.iconst 1, 1) := by decide +kernel
theorem d_I_letPass_67 : decode mb_I_letPass 67 = .ok (.putfield 19, 3) := by decide +kernel
theorem d_I_letPass_70 : decode mb_I_letPass 70 = .ok (.return_, 1) := by decide +kernel
theorem d_I_countServed_0 : decode mb_I_countServed 0 = .ok (.aload_n 0, 1) := by decide +kernel
theorem d_I_countServed_1 : decode mb_I_countServed 1 = .ok (.iconst 0, 1) := by decide +kernel
theorem d_I_countServed_2 : decode mb_I_countServed 2 = .ok (.putfield 19, 3) := by decide +kernel
theorem d_I_countServed_5 : decode mb_I_countServed 5 = .ok (.aload_n 0, 1) := by decide +kernel
theorem d_I_countServed_6 : decode mb_I_countServed 6 = .ok (.dup, 1) := by decide +kernel
theorem d_I_countServed_7 : decode mb_I_countServed 7 = .ok (.getfield 26, 3) := by decide +kernel
theorem d_I_countServed_10 : decode mb_I_countServed 10 = .ok (.iconst 1, 1) := by decide +kernel
theorem d_I_countServed_11 : decode mb_I_countServed 11 = .ok (.iadd, 1) := by decide +kernel
theorem d_I_countServed_12 : decode mb_I_countServed 12 = .ok (.putfield 26, 3) := by decide +kernel
theorem d_I_countServed_15 : decode mb_I_countServed 15 = .ok (.return_, 1) := by decide +kernel
theorem d_T_poke_0 : decode mb_T_poke 0 = .ok (.iload_n 1, 1) := by decide +kernel
theorem d_T_poke_1 : decode mb_T_poke 1 = .ok (.invokestatic 42, 3) := by decide +kernel
theorem d_T_poke_4 : decode mb_T_poke 4 = .ok (.ifCond .eq 14, 3) := by decide +kernel
theorem d_T_poke_7 : decode mb_T_poke 7 = .ok (.iload_n 2, 1) := by decide +kernel
theorem d_T_poke_8 : decode mb_T_poke 8 = .ok (.ifCond .lt 10, 3) := by decide +kernel
theorem d_T_poke_11 : decode mb_T_poke 11 = .ok (.iload_n 2, 1) := by decide +kernel
theorem d_T_poke_12 : decode mb_T_poke 12 = .ok (.sipush 255, 3) := by decide +kernel
theorem d_T_poke_15 : decode mb_T_poke 15 = .ok (.if_icmp .le 5, 3) := by decide +kernel
theorem d_T_poke_18 : decode mb_T_poke 18 = .ok (.iconst (-1), 1) := by decide +kernel
theorem d_T_poke_19 : decode mb_T_poke 19 = .ok (.ireturn, 1) := by decide +kernel
theorem d_T_poke_20 : decode mb_T_poke 20 = .ok (.aload_n 0, 1) := by decide +kernel
theorem d_T_poke_21 : decode mb_T_poke 21 = .ok (.getfield 13, 3) := by decide +kernel
theorem d_T_poke_24 : decode mb_T_poke 24 = .ok (.iload_n 1, 1) := by decide +kernel
theorem d_T_poke_25 : decode mb_T_poke 25 = .ok (.iconst 1, 1) := by decide +kernel
theorem d_T_poke_26 : decode mb_T_poke 26 = .ok (.invokevirtual 46, 3) := by decide +kernel
theorem d_T_poke_29 : decode mb_T_poke 29 = .ok (.istore_n 3, 1) := by decide +kernel
theorem d_T_poke_30 : decode mb_T_poke 30 = .ok (.aload_n 0, 1) := by decide +kernel
theorem d_T_poke_31 : decode mb_T_poke 31 = .ok (.getfield 13, 3) := by decide +kernel
theorem d_T_poke_34 : decode mb_T_poke 34 = .ok (.iload_n 1, 1) := by decide +kernel
theorem d_T_poke_35 : decode mb_T_poke 35 = .ok (.iload_n 2, 1) := by decide +kernel
theorem d_T_poke_36 : decode mb_T_poke 36 = .ok (.iconst 1, 1) := by decide +kernel
theorem d_T_poke_37 : decode mb_T_poke 37 = .ok (.invokevirtual 50, 3) := by decide +kernel
theorem d_T_poke_40 : decode mb_T_poke 40 = .ok (.iload_n 3, 1) := by decide +kernel
theorem d_T_poke_41 : decode mb_T_poke 41 = .ok (.ireturn, 1) := by decide +kernel
theorem d_T_peek_0 : decode mb_T_peek 0 = .ok (.iload_n 1, 1) := by decide +kernel
theorem d_T_peek_1 : decode mb_T_peek 1 = .ok (.invokestatic 42, 3) := by decide +kernel
theorem d_T_peek_4 : decode mb_T_peek 4 = .ok (.ifCond .eq 15, 3) := by decide +kernel
theorem d_T_peek_7 : decode mb_T_peek 7 = .ok (.aload_n 0, 1) := by decide +kernel
theorem d_T_peek_8 : decode mb_T_peek 8 = .ok (.getfield 13, 3) := by decide +kernel
theorem d_T_peek_11 : decode mb_T_peek 11 = .ok (.iload_n 1, 1) := by decide +kernel
theorem d_T_peek_12 : decode mb_T_peek 12 = .ok (.iconst 1, 1) := by decide +kernel
theorem d_T_peek_13 : decode mb_T_peek 13 = .ok (.invokevirtual 46, 3) := by decide +kernel
theorem d_T_peek_16 : decode mb_T_peek 16 = .ok (.goto 4, 3) := by decide +kernel
theorem d_T_peek_19 : decode mb_T_peek 19 = .ok (.iconst (-1), 1) := by decide +kernel
theorem d_T_peek_20 : decode mb_T_peek 20 = .ok (.ireturn, 1) := by decide +kernel
section CLS
variable {l : Launch} {D : va_G} {w : va_W}
variable {aT aK aQ aL aA aY aB aG aS aP aC aI : Nat} {tk : Nat → Nat} {cI cT : ClassId} {kr : Option Nat} {uz : Int32} {ul : Nat → Option Nat} {ks : Nat → Int32} {kv : Nat → Int32} {kz : Nat → Int32} {ku : Nat → Int32} {cb : Nat → Int32} {ga : Int32} {gb : Int32} {gd : Int32} {gc : Int32} {gx : Int32} {gy : Int32} {gu : Int32} {gs : Int32} {gp : Int32} {qa : Int32} {qb : Int32} {qd : Int32} {qc : Int32} {qx : Int32} {qy : Int32} {qu : Int32} {qs : Int32} {qp : Int32} {py : Int32} {po : Int32} {tp : Int32} {tl : Int32} {ta : Int32} {tv : Int32} {tm : Int32} {tg : Bool}
set_option maxHeartbeats 4000000 in
set_option maxRecDepth 100000 in
theorem c_tc_P_pull {x1 : Int32} {x2 : Int32} {z : Int32 × Int32 × Int32 × Int32 × Int32 × Int32 × Int32 × Int32 × Int32 × Int32} (hf : tc_P_pull x1 x2 py cb ga gb gd gc gx gy gu gs gp = some z) : cs_v l my_P_pull mb_P_pull 3 rm_c_P_pull D (ty_ cI cT) [.ref aP, .int x1, .int x2] (cp_ aY aB aG aP aC cI cT py po cb ga gb gd gc gx gy gu gs gp) (cp_ aY aB aG aP aC cI cT z.1 po cb z.2.1 z.2.2.1 z.2.2.2.1 z.2.2.2.2.1 z.2.2.2.2.2.1 z.2.2.2.2.2.2.1 z.2.2.2.2.2.2.2.1 z.2.2.2.2.2.2.2.2.1 z.2.2.2.2.2.2.2.2.2) := by
  refine cs_v_of (by decide) (Nat.le_of_ble_eq_true rfl) ?_
  intro p e s m below meth c A ls X hr hlk hK hP hD hS hA hZ hl
  have hx := X.1
  have hb := X.2.1
  have hl : lv_has ls 3 [(0, .ref aP), (1, .int x1), (2, .int x2)] := hl
  unfold tc_P_pull at hf
  refine lv_aload_n hx hb d_P_pull_0 rfl (lv_at hl 0 rfl) ?_
  refine lv_dup hx hb d_P_pull_1 rfl ?_
  refine cp_g_P_cycles_P X hK hP d_P_pull_2 ?_
  refine lv_aload_n hx hb d_P_pull_5 rfl (lv_at hl 0 rfl) ?_
  refine cp_g_P_registers_P X hK hP d_P_pull_6 ?_
  refine lv_aload_n hx hb d_P_pull_9 rfl (lv_at hl 0 rfl) ?_
  refine cp_g_P_memory_P X hK hP d_P_pull_10 ?_
  refine lv_iload_n hx hb d_P_pull_13 rfl (lv_at hl 1 rfl) ?_
  refine lv_iload_n hx hb d_P_pull_14 rfl (lv_at hl 2 rfl) ?_
  obtain ⟨z2, hz2, hf⟩ := op_b hf
  refine cf_i (ws2 := (cp_ aY aB aG aP aC cI cT py po cb z2.2.1 z2.2.2.1 z2.2.2.2.1 z2.2.2.2.2.1 z2.2.2.2.2.2.1 z2.2.2.2.2.2.2.1 z2.2.2.2.2.2.2.2.1 z2.2.2.2.2.2.2.2.2.1 z2.2.2.2.2.2.2.2.2.2)) X cx_P_85 hK hP hD hS hA hZ hl (c_tc_G_pull (aY := aY) (aB := aB) (aG := aG) (ga := ga) (gb := gb) (gd := gd) (gc := gc) (gx := gx) (gy := gy) (gu := gu) (gs := gs) (gp := gp) (cb := cb) hz2) ⟨rfl, rfl, Nat.le_of_ble_eq_true rfl, Nat.le_of_ble_eq_true rfl⟩ [3, 1, 2] [0, 4] [0, 3, 4, 2, 1] rfl rfl rfl rfl (by decide) rfl rfl 0 rfl rfl rfl rfl rfl (Nat.le_of_ble_eq_true rfl) d_P_pull_15 (fun H locs hP hD hS => ?_)
  refine lv_iadd hx hb d_P_pull_18 ?_
  refine cp_p_P_cycles_P (x := (py + z2.1)) X hK hP hD hS d_P_pull_19 (fun H locs hP hD hS => ?_)
  have hq := Option.some.inj hf
  subst hq
  exact rt_v X hr hlk hK hP hD hS d_P_pull_22
set_option maxHeartbeats 4000000 in
set_option maxRecDepth 100000 in
theorem c_tc_P_doGroup3 {x1 : Int32} {z : Int32 × Int32 × (Nat → Int32) × Int32 × Int32 × Int32 × Int32 × Int32 × Int32 × Int32 × Int32 × Int32} (hf : tc_P_doGroup3 x1 py po cb ga gb gd gc gx gy gu gs gp = some z) : cs_v l my_P_doGroup3 mb_P_doGroup3 2 rm_c_P_doGroup3 D (ty_ cI cT) [.ref aP, .int x1] (cp_ aY aB aG aP aC cI cT py po cb ga gb gd gc gx gy gu gs gp) (cp_ aY aB aG aP aC cI cT z.1 z.2.1 z.2.2.1 z.2.2.2.1 z.2.2.2.2.1 z.2.2.2.2.2.1 z.2.2.2.2.2.2.1 z.2.2.2.2.2.2.2.1 z.2.2.2.2.2.2.2.2.1 z.2.2.2.2.2.2.2.2.2.1 z.2.2.2.2.2.2.2.2.2.2.1 z.2.2.2.2.2.2.2.2.2.2.2) := by
  refine cs_v_of (by decide) (Nat.le_of_ble_eq_true rfl) ?_
  intro p e s m below meth c A ls X hr hlk hK hP hD hS hA hZ hl
  have hx := X.1
  have hb := X.2.1
  have hl : lv_has ls 2 [(0, .ref aP), (1, .int x1)] := hl
  have J223 : ∀ (py : Int32) (po : Int32) (cb : Nat → Int32) (ga : Int32) (gb : Int32) (gd : Int32) (gc : Int32) (gx : Int32) (gy : Int32) (gu : Int32) (gs : Int32) (gp : Int32), tc_P_doGroup3_j223 py po cb ga gb gd gc gx gy gu gs gp = some z → ∀ (H : Heap) (locs : List Loc) (ls : Array Slot), lv_has ls 2 [(0, .ref aP)] → va_P D cz_all (cp_ aY aB aG aP aC cI cT py po cb ga gb gd gc gx gy gu gs gp) H → va_D A (cp_ aY aB aG aP aC cI cT py po cb ga gb gd gc gx gy gu gs gp) → va_S A s.heap H locs → W p l e rm_c_P_doGroup3 s m ([.ref aP, .int x1] : List Value).toArray below meth c H locs 0 0 (MQ below (qs_v D (ty_ cI cT) (cp_ aY aB aG aP aC cI cT z.1 z.2.1 z.2.2.1 z.2.2.2.1 z.2.2.2.2.1 z.2.2.2.2.2.1 z.2.2.2.2.2.2.1 z.2.2.2.2.2.2.2.1 z.2.2.2.2.2.2.2.2.1 z.2.2.2.2.2.2.2.2.2.1 z.2.2.2.2.2.2.2.2.2.2.1 z.2.2.2.2.2.2.2.2.2.2.2) A) ([.ref aP, .int x1] : List Value).toArray s 0 0 A) (F0 m 223 ls []) := by
    intro py po cb ga gb gd gc gx gy gu gs gp hf H locs ls hl hP hD hS
    unfold tc_P_doGroup3_j223 at hf
    refine lv_aload_n hx hb d_P_doGroup3_223 rfl (lv_at hl 0 rfl) ?_
    refine lv_bipush (v := (-2 : Int32)) hx hb d_P_doGroup3_224 (by decide) ?_
    refine cp_p_P_outcome_P (x := (-2 : Int32)) X hK hP hD hS d_P_doGroup3_226 (fun H locs hP hD hS => ?_)
    have hq := Option.some.inj hf
    subst hq
    exact rt_v X hr hlk hK hP hD hS d_P_doGroup3_229
  unfold tc_P_doGroup3 at hf
  refine lv_iload_n hx hb d_P_doGroup3_0 rfl (lv_at hl 1 rfl) ?_
  by_cases hk17 : x1 = (48 : Int32)
  · replace hf := (if_pos hk17).symm.trans hf
    refine lv_tableIn (tgt := 80) (off := 79) hx hb d_P_doGroup3_1 (by rw [hk17]; decide) (by rw [hk17]; decide) (by rw [hk17]; rfl) (by decide) ?_
    refine lv_aload_n hx hb d_P_doGroup3_80 rfl (lv_at hl 0 rfl) ?_
    refine lv_iconst (v := (1 : Int32)) hx hb d_P_doGroup3_81 (by decide) ?_
    obtain ⟨z18, hz18, hf⟩ := op_b hf
    refine cf_v (ws2 := (cp_ aY aB aG aP aC cI cT z18.1 z18.2.1 cb z18.2.2.1 z18.2.2.2.1 z18.2.2.2.2.1 z18.2.2.2.2.2.1 z18.2.2.2.2.2.2.1 z18.2.2.2.2.2.2.2.1 z18.2.2.2.2.2.2.2.2.1 z18.2.2.2.2.2.2.2.2.2.1 z18.2.2.2.2.2.2.2.2.2.2)) X cx_P_187 hK hP hD hS hA hZ hl (c_tc_P_loadAddress (aY := aY) (aB := aB) (aG := aG) (aP := aP) (aC := aC) (py := py) (po := po) (cb := cb) (ga := ga) (gb := gb) (gd := gd) (gc := gc) (gx := gx) (gy := gy) (gu := gu) (gs := gs) (gp := gp) hz18) ⟨rfl, rfl, Nat.le_of_ble_eq_true rfl, Nat.le_of_ble_eq_true rfl⟩ [0, 1, 2, 3, 4] [] [0, 1, 2, 3, 4] rfl rfl rfl rfl (by decide) rfl rfl 0 rfl rfl rfl rfl rfl (Nat.le_of_ble_eq_true rfl) d_P_doGroup3_82 (fun H locs hP hD hS => ?_)
    refine lv_goto (tgt := 229) hx hb d_P_doGroup3_85 (by decide) ?_
    have hq := Option.some.inj hf
    subst hq
    exact rt_v X hr hlk hK hP hD hS d_P_doGroup3_229
  · replace hf := (if_neg hk17).symm.trans hf
    by_cases hk19 : x1 = (49 : Int32)
    · replace hf := (if_pos hk19).symm.trans hf
      refine lv_tableIn (tgt := 88) (off := 87) hx hb d_P_doGroup3_1 (by rw [hk19]; decide) (by rw [hk19]; decide) (by rw [hk19]; rfl) (by decide) ?_
      refine lv_aload_n hx hb d_P_doGroup3_88 rfl (lv_at hl 0 rfl) ?_
      refine lv_iconst (v := (2 : Int32)) hx hb d_P_doGroup3_89 (by decide) ?_
      obtain ⟨z20, hz20, hf⟩ := op_b hf
      refine cf_v (ws2 := (cp_ aY aB aG aP aC cI cT z20.1 z20.2.1 cb z20.2.2.1 z20.2.2.2.1 z20.2.2.2.2.1 z20.2.2.2.2.2.1 z20.2.2.2.2.2.2.1 z20.2.2.2.2.2.2.2.1 z20.2.2.2.2.2.2.2.2.1 z20.2.2.2.2.2.2.2.2.2.1 z20.2.2.2.2.2.2.2.2.2.2)) X cx_P_187 hK hP hD hS hA hZ hl (c_tc_P_loadAddress (aY := aY) (aB := aB) (aG := aG) (aP := aP) (aC := aC) (py := py) (po := po) (cb := cb) (ga := ga) (gb := gb) (gd := gd) (gc := gc) (gx := gx) (gy := gy) (gu := gu) (gs := gs) (gp := gp) hz20) ⟨rfl, rfl, Nat.le_of_ble_eq_true rfl, Nat.le_of_ble_eq_true rfl⟩ [0, 1, 2, 3, 4] [] [0, 1, 2, 3, 4] rfl rfl rfl rfl (by decide) rfl rfl 0 rfl rfl rfl rfl rfl (Nat.le_of_ble_eq_true rfl) d_P_doGroup3_90 (fun H locs hP hD hS => ?_)
      refine lv_goto (tgt := 229) hx hb d_P_doGroup3_93 (by decide) ?_
      have hq := Option.some.inj hf
      subst hq
      exact rt_v X hr hlk hK hP hD hS d_P_doGroup3_229
    · replace hf := (if_neg hk19).symm.trans hf
      by_cases hk21 : x1 = (50 : Int32)
      · replace hf := (if_pos hk21).symm.trans hf
        refine lv_tableIn (tgt := 96) (off := 95) hx hb d_P_doGroup3_1 (by rw [hk21]; decide) (by rw [hk21]; decide) (by rw [hk21]; rfl) (by decide) ?_
        refine lv_aload_n hx hb d_P_doGroup3_96 rfl (lv_at hl 0 rfl) ?_
        refine lv_iconst (v := (4 : Int32)) hx hb d_P_doGroup3_97 (by decide) ?_
        obtain ⟨z22, hz22, hf⟩ := op_b hf
        refine cf_v (ws2 := (cp_ aY aB aG aP aC cI cT z22.1 z22.2.1 cb z22.2.2.1 z22.2.2.2.1 z22.2.2.2.2.1 z22.2.2.2.2.2.1 z22.2.2.2.2.2.2.1 z22.2.2.2.2.2.2.2.1 z22.2.2.2.2.2.2.2.2.1 z22.2.2.2.2.2.2.2.2.2.1 z22.2.2.2.2.2.2.2.2.2.2)) X cx_P_187 hK hP hD hS hA hZ hl (c_tc_P_loadAddress (aY := aY) (aB := aB) (aG := aG) (aP := aP) (aC := aC) (py := py) (po := po) (cb := cb) (ga := ga) (gb := gb) (gd := gd) (gc := gc) (gx := gx) (gy := gy) (gu := gu) (gs := gs) (gp := gp) hz22) ⟨rfl, rfl, Nat.le_of_ble_eq_true rfl, Nat.le_of_ble_eq_true rfl⟩ [0, 1, 2, 3, 4] [] [0, 1, 2, 3, 4] rfl rfl rfl rfl (by decide) rfl rfl 0 rfl rfl rfl rfl rfl (Nat.le_of_ble_eq_true rfl) d_P_doGroup3_98 (fun H locs hP hD hS => ?_)
        refine lv_goto (tgt := 229) hx hb d_P_doGroup3_101 (by decide) ?_
        have hq := Option.some.inj hf
        subst hq
        exact rt_v X hr hlk hK hP hD hS d_P_doGroup3_229
      · replace hf := (if_neg hk21).symm.trans hf
        by_cases hk23 : x1 = (51 : Int32)
        · replace hf := (if_pos hk23).symm.trans hf
          refine lv_tableIn (tgt := 104) (off := 103) hx hb d_P_doGroup3_1 (by rw [hk23]; decide) (by rw [hk23]; decide) (by rw [hk23]; rfl) (by decide) ?_
          refine lv_aload_n hx hb d_P_doGroup3_104 rfl (lv_at hl 0 rfl) ?_
          refine lv_iconst (v := (3 : Int32)) hx hb d_P_doGroup3_105 (by decide) ?_
          obtain ⟨z24, hz24, hf⟩ := op_b hf
          refine cf_v (ws2 := (cp_ aY aB aG aP aC cI cT z24.1 z24.2.1 cb z24.2.2.1 z24.2.2.2.1 z24.2.2.2.2.1 z24.2.2.2.2.2.1 z24.2.2.2.2.2.2.1 z24.2.2.2.2.2.2.2.1 z24.2.2.2.2.2.2.2.2.1 z24.2.2.2.2.2.2.2.2.2.1 z24.2.2.2.2.2.2.2.2.2.2)) X cx_P_187 hK hP hD hS hA hZ hl (c_tc_P_loadAddress (aY := aY) (aB := aB) (aG := aG) (aP := aP) (aC := aC) (py := py) (po := po) (cb := cb) (ga := ga) (gb := gb) (gd := gd) (gc := gc) (gx := gx) (gy := gy) (gu := gu) (gs := gs) (gp := gp) hz24) ⟨rfl, rfl, Nat.le_of_ble_eq_true rfl, Nat.le_of_ble_eq_true rfl⟩ [0, 1, 2, 3, 4] [] [0, 1, 2, 3, 4] rfl rfl rfl rfl (by decide) rfl rfl 0 rfl rfl rfl rfl rfl (Nat.le_of_ble_eq_true rfl) d_P_doGroup3_106 (fun H locs hP hD hS => ?_)
          refine lv_goto (tgt := 229) hx hb d_P_doGroup3_109 (by decide) ?_
          have hq := Option.some.inj hf
          subst hq
          exact rt_v X hr hlk hK hP hD hS d_P_doGroup3_229
        · replace hf := (if_neg hk23).symm.trans hf
          by_cases hk25 : x1 = (52 : Int32)
          · replace hf := (if_pos hk25).symm.trans hf
            refine lv_tableIn (tgt := 112) (off := 111) hx hb d_P_doGroup3_1 (by rw [hk25]; decide) (by rw [hk25]; decide) (by rw [hk25]; rfl) (by decide) ?_
            refine lv_aload_n hx hb d_P_doGroup3_112 rfl (lv_at hl 0 rfl) ?_
            refine lv_iconst (v := (4 : Int32)) hx hb d_P_doGroup3_113 (by decide) ?_
            refine lv_aload_n hx hb d_P_doGroup3_114 rfl (lv_at hl 0 rfl) ?_
            refine lv_iconst (v := (1 : Int32)) hx hb d_P_doGroup3_115 (by decide) ?_
            obtain ⟨z26, hz26, hf⟩ := op_b hf
            refine cf_i (ws2 := (cp_ aY aB aG aP aC cI cT z26.2.1 po cb ga gb gd gc gx gy gu gs z26.2.2)) X cx_P_35 hK hP hD hS hA hZ hl (c_tc_P_fetch (aY := aY) (aB := aB) (aG := aG) (aP := aP) (aC := aC) (py := py) (po := po) (cb := cb) (ga := ga) (gb := gb) (gd := gd) (gc := gc) (gx := gx) (gy := gy) (gu := gu) (gs := gs) (gp := gp) hz26) ⟨rfl, rfl, Nat.le_of_ble_eq_true rfl, Nat.le_of_ble_eq_true rfl⟩ [0, 1, 2, 3, 4] [] [0, 1, 2, 3, 4] rfl rfl rfl rfl (by decide) rfl rfl 0 rfl rfl rfl rfl rfl (Nat.le_of_ble_eq_true rfl) d_P_doGroup3_116 (fun H locs hP hD hS => ?_)
            obtain ⟨z27, hz27, hf⟩ := op_b hf
            refine cf_v (ws2 := (cp_ aY aB aG aP aC cI cT z27.1 po z27.2.1 z27.2.2.1 z27.2.2.2.1 z27.2.2.2.2.1 z27.2.2.2.2.2.1 z27.2.2.2.2.2.2.1 z27.2.2.2.2.2.2.2.1 z27.2.2.2.2.2.2.2.2.1 z27.2.2.2.2.2.2.2.2.2.1 z27.2.2.2.2.2.2.2.2.2.2)) X cx_P_144 hK hP hD hS hA hZ hl (c_tc_P_push (aY := aY) (aB := aB) (aG := aG) (aP := aP) (aC := aC) (py := z26.2.1) (po := po) (cb := cb) (ga := ga) (gb := gb) (gd := gd) (gc := gc) (gx := gx) (gy := gy) (gu := gu) (gs := gs) (gp := z26.2.2) hz27) ⟨rfl, rfl, Nat.le_of_ble_eq_true rfl, Nat.le_of_ble_eq_true rfl⟩ [0, 1, 2, 3, 4] [] [0, 1, 2, 3, 4] rfl rfl rfl rfl (by decide) rfl rfl 0 rfl rfl rfl rfl rfl (Nat.le_of_ble_eq_true rfl) d_P_doGroup3_119 (fun H locs hP hD hS => ?_)
            refine lv_goto (tgt := 229) hx hb d_P_doGroup3_122 (by decide) ?_
            have hq := Option.some.inj hf
            subst hq
            exact rt_v X hr hlk hK hP hD hS d_P_doGroup3_229
          · replace hf := (if_neg hk25).symm.trans hf
            by_cases hk28 : x1 = (53 : Int32)
            · replace hf := (if_pos hk28).symm.trans hf
              refine lv_tableIn (tgt := 125) (off := 124) hx hb d_P_doGroup3_1 (by rw [hk28]; decide) (by rw [hk28]; decide) (by rw [hk28]; rfl) (by decide) ?_
              refine lv_aload_n hx hb d_P_doGroup3_125 rfl (lv_at hl 0 rfl) ?_
              refine lv_iconst (v := (4 : Int32)) hx hb d_P_doGroup3_126 (by decide) ?_
              refine lv_aload_n hx hb d_P_doGroup3_127 rfl (lv_at hl 0 rfl) ?_
              refine lv_iconst (v := (1 : Int32)) hx hb d_P_doGroup3_128 (by decide) ?_
              obtain ⟨z29, hz29, hf⟩ := op_b hf
              refine cf_i (ws2 := (cp_ aY aB aG aP aC cI cT z29.2.1 po cb ga gb gd gc gx gy gu gs z29.2.2)) X cx_P_35 hK hP hD hS hA hZ hl (c_tc_P_fetch (aY := aY) (aB := aB) (aG := aG) (aP := aP) (aC := aC) (py := py) (po := po) (cb := cb) (ga := ga) (gb := gb) (gd := gd) (gc := gc) (gx := gx) (gy := gy) (gu := gu) (gs := gs) (gp := gp) hz29) ⟨rfl, rfl, Nat.le_of_ble_eq_true rfl, Nat.le_of_ble_eq_true rfl⟩ [0, 1, 2, 3, 4] [] [0, 1, 2, 3, 4] rfl rfl rfl rfl (by decide) rfl rfl 0 rfl rfl rfl rfl rfl (Nat.le_of_ble_eq_true rfl) d_P_doGroup3_129 (fun H locs hP hD hS => ?_)
              obtain ⟨z30, hz30, hf⟩ := op_b hf
              refine cf_v (ws2 := (cp_ aY aB aG aP aC cI cT z30.1 po cb z30.2.1 z30.2.2.1 z30.2.2.2.1 z30.2.2.2.2.1 z30.2.2.2.2.2.1 z30.2.2.2.2.2.2.1 z30.2.2.2.2.2.2.2.1 z30.2.2.2.2.2.2.2.2.1 z30.2.2.2.2.2.2.2.2.2)) X cx_P_190 hK hP hD hS hA hZ hl (c_tc_P_pull (aY := aY) (aB := aB) (aG := aG) (aP := aP) (aC := aC) (py := z29.2.1) (po := po) (cb := cb) (ga := ga) (gb := gb) (gd := gd) (gc := gc) (gx := gx) (gy := gy) (gu := gu) (gs := gs) (gp := z29.2.2) hz30) ⟨rfl, rfl, Nat.le_of_ble_eq_true rfl, Nat.le_of_ble_eq_true rfl⟩ [0, 1, 2, 3, 4] [] [0, 1, 2, 3, 4] rfl rfl rfl rfl (by decide) rfl rfl 0 rfl rfl rfl rfl rfl (Nat.le_of_ble_eq_true rfl) d_P_doGroup3_132 (fun H locs hP hD hS => ?_)
              refine lv_goto (tgt := 229) hx hb d_P_doGroup3_135 (by decide) ?_
              have hq := Option.some.inj hf
              subst hq
              exact rt_v X hr hlk hK hP hD hS d_P_doGroup3_229
            · replace hf := (if_neg hk28).symm.trans hf
              by_cases hk31 : x1 = (54 : Int32)
              · replace hf := (if_pos hk31).symm.trans hf
                refine lv_tableIn (tgt := 138) (off := 137) hx hb d_P_doGroup3_1 (by rw [hk31]; decide) (by rw [hk31]; decide) (by rw [hk31]; rfl) (by decide) ?_
                refine lv_aload_n hx hb d_P_doGroup3_138 rfl (lv_at hl 0 rfl) ?_
                refine lv_iconst (v := (3 : Int32)) hx hb d_P_doGroup3_139 (by decide) ?_
                refine lv_aload_n hx hb d_P_doGroup3_140 rfl (lv_at hl 0 rfl) ?_
                refine lv_iconst (v := (1 : Int32)) hx hb d_P_doGroup3_141 (by decide) ?_
                obtain ⟨z32, hz32, hf⟩ := op_b hf
                refine cf_i (ws2 := (cp_ aY aB aG aP aC cI cT z32.2.1 po cb ga gb gd gc gx gy gu gs z32.2.2)) X cx_P_35 hK hP hD hS hA hZ hl (c_tc_P_fetch (aY := aY) (aB := aB) (aG := aG) (aP := aP) (aC := aC) (py := py) (po := po) (cb := cb) (ga := ga) (gb := gb) (gd := gd) (gc := gc) (gx := gx) (gy := gy) (gu := gu) (gs := gs) (gp := gp) hz32) ⟨rfl, rfl, Nat.le_of_ble_eq_true rfl, Nat.le_of_ble_eq_true rfl⟩ [0, 1, 2, 3, 4] [] [0, 1, 2, 3, 4] rfl rfl rfl rfl (by decide) rfl rfl 0 rfl rfl rfl rfl rfl (Nat.le_of_ble_eq_true rfl) d_P_doGroup3_142 (fun H locs hP hD hS => ?_)
                obtain ⟨z33, hz33, hf⟩ := op_b hf
                refine cf_v (ws2 := (cp_ aY aB aG aP aC cI cT z33.1 po z33.2.1 z33.2.2.1 z33.2.2.2.1 z33.2.2.2.2.1 z33.2.2.2.2.2.1 z33.2.2.2.2.2.2.1 z33.2.2.2.2.2.2.2.1 z33.2.2.2.2.2.2.2.2.1 z33.2.2.2.2.2.2.2.2.2.1 z33.2.2.2.2.2.2.2.2.2.2)) X cx_P_144 hK hP hD hS hA hZ hl (c_tc_P_push (aY := aY) (aB := aB) (aG := aG) (aP := aP) (aC := aC) (py := z32.2.1) (po := po) (cb := cb) (ga := ga) (gb := gb) (gd := gd) (gc := gc) (gx := gx) (gy := gy) (gu := gu) (gs := gs) (gp := z32.2.2) hz33) ⟨rfl, rfl, Nat.le_of_ble_eq_true rfl, Nat.le_of_ble_eq_true rfl⟩ [0, 1, 2, 3, 4] [] [0, 1, 2, 3, 4] rfl rfl rfl rfl (by decide) rfl rfl 0 rfl rfl rfl rfl rfl (Nat.le_of_ble_eq_true rfl) d_P_doGroup3_145 (fun H locs hP hD hS => ?_)
                refine lv_goto (tgt := 229) hx hb d_P_doGroup3_148 (by decide) ?_
                have hq := Option.some.inj hf
                subst hq
                exact rt_v X hr hlk hK hP hD hS d_P_doGroup3_229
              · replace hf := (if_neg hk31).symm.trans hf
                by_cases hk34 : x1 = (55 : Int32)
                · replace hf := (if_pos hk34).symm.trans hf
                  refine lv_tableIn (tgt := 151) (off := 150) hx hb d_P_doGroup3_1 (by rw [hk34]; decide) (by rw [hk34]; decide) (by rw [hk34]; rfl) (by decide) ?_
                  refine lv_aload_n hx hb d_P_doGroup3_151 rfl (lv_at hl 0 rfl) ?_
                  refine lv_iconst (v := (3 : Int32)) hx hb d_P_doGroup3_152 (by decide) ?_
                  refine lv_aload_n hx hb d_P_doGroup3_153 rfl (lv_at hl 0 rfl) ?_
                  refine lv_iconst (v := (1 : Int32)) hx hb d_P_doGroup3_154 (by decide) ?_
                  obtain ⟨z35, hz35, hf⟩ := op_b hf
                  refine cf_i (ws2 := (cp_ aY aB aG aP aC cI cT z35.2.1 po cb ga gb gd gc gx gy gu gs z35.2.2)) X cx_P_35 hK hP hD hS hA hZ hl (c_tc_P_fetch (aY := aY) (aB := aB) (aG := aG) (aP := aP) (aC := aC) (py := py) (po := po) (cb := cb) (ga := ga) (gb := gb) (gd := gd) (gc := gc) (gx := gx) (gy := gy) (gu := gu) (gs := gs) (gp := gp) hz35) ⟨rfl, rfl, Nat.le_of_ble_eq_true rfl, Nat.le_of_ble_eq_true rfl⟩ [0, 1, 2, 3, 4] [] [0, 1, 2, 3, 4] rfl rfl rfl rfl (by decide) rfl rfl 0 rfl rfl rfl rfl rfl (Nat.le_of_ble_eq_true rfl) d_P_doGroup3_155 (fun H locs hP hD hS => ?_)
                  obtain ⟨z36, hz36, hf⟩ := op_b hf
                  refine cf_v (ws2 := (cp_ aY aB aG aP aC cI cT z36.1 po cb z36.2.1 z36.2.2.1 z36.2.2.2.1 z36.2.2.2.2.1 z36.2.2.2.2.2.1 z36.2.2.2.2.2.2.1 z36.2.2.2.2.2.2.2.1 z36.2.2.2.2.2.2.2.2.1 z36.2.2.2.2.2.2.2.2.2)) X cx_P_190 hK hP hD hS hA hZ hl (c_tc_P_pull (aY := aY) (aB := aB) (aG := aG) (aP := aP) (aC := aC) (py := z35.2.1) (po := po) (cb := cb) (ga := ga) (gb := gb) (gd := gd) (gc := gc) (gx := gx) (gy := gy) (gu := gu) (gs := gs) (gp := z35.2.2) hz36) ⟨rfl, rfl, Nat.le_of_ble_eq_true rfl, Nat.le_of_ble_eq_true rfl⟩ [0, 1, 2, 3, 4] [] [0, 1, 2, 3, 4] rfl rfl rfl rfl (by decide) rfl rfl 0 rfl rfl rfl rfl rfl (Nat.le_of_ble_eq_true rfl) d_P_doGroup3_158 (fun H locs hP hD hS => ?_)
                  refine lv_goto (tgt := 229) hx hb d_P_doGroup3_161 (by decide) ?_
                  have hq := Option.some.inj hf
                  subst hq
                  exact rt_v X hr hlk hK hP hD hS d_P_doGroup3_229
                · replace hf := (if_neg hk34).symm.trans hf
                  by_cases hk37 : x1 = (56 : Int32)
                  · replace hf := (if_pos hk37).symm.trans hf
                    refine lv_tableIn (tgt := 223) (off := 222) hx hb d_P_doGroup3_1 (by rw [hk37]; decide) (by rw [hk37]; decide) (by rw [hk37]; rfl) (by decide) ?_
                    exact J223 py po cb ga gb gd gc gx gy gu gs gp hf _ _ _ (lv_sub hl [0] rfl) hP hD hS
                  · replace hf := (if_neg hk37).symm.trans hf
                    by_cases hk38 : x1 = (57 : Int32)
                    · replace hf := (if_pos hk38).symm.trans hf
                      refine lv_tableIn (tgt := 164) (off := 163) hx hb d_P_doGroup3_1 (by rw [hk38]; decide) (by rw [hk38]; decide) (by rw [hk38]; rfl) (by decide) ?_
                      refine lv_aload_n hx hb d_P_doGroup3_164 rfl (lv_at hl 0 rfl) ?_
                      refine lv_iconst (v := (4 : Int32)) hx hb d_P_doGroup3_165 (by decide) ?_
                      refine lv_sipush (v := (128 : Int32)) hx hb d_P_doGroup3_166 (by decide) ?_
                      obtain ⟨z39, hz39, hf⟩ := op_b hf
                      refine cf_v (ws2 := (cp_ aY aB aG aP aC cI cT z39.1 po cb z39.2.1 z39.2.2.1 z39.2.2.2.1 z39.2.2.2.2.1 z39.2.2.2.2.2.1 z39.2.2.2.2.2.2.1 z39.2.2.2.2.2.2.2.1 z39.2.2.2.2.2.2.2.2.1 z39.2.2.2.2.2.2.2.2.2)) X cx_P_190 hK hP hD hS hA hZ hl (c_tc_P_pull (aY := aY) (aB := aB) (aG := aG) (aP := aP) (aC := aC) (py := py) (po := po) (cb := cb) (ga := ga) (gb := gb) (gd := gd) (gc := gc) (gx := gx) (gy := gy) (gu := gu) (gs := gs) (gp := gp) hz39) ⟨rfl, rfl, Nat.le_of_ble_eq_true rfl, Nat.le_of_ble_eq_true rfl⟩ [0, 1, 2, 3, 4] [] [0, 1, 2, 3, 4] rfl rfl rfl rfl (by decide) rfl rfl 0 rfl rfl rfl rfl rfl (Nat.le_of_ble_eq_true rfl) d_P_doGroup3_169 (fun H locs hP hD hS => ?_)
                      refine lv_goto (tgt := 229) hx hb d_P_doGroup3_172 (by decide) ?_
                      have hq := Option.some.inj hf
                      subst hq
                      exact rt_v X hr hlk hK hP hD hS d_P_doGroup3_229
                    · replace hf := (if_neg hk38).symm.trans hf
                      by_cases hk40 : x1 = (58 : Int32)
                      · replace hf := (if_pos hk40).symm.trans hf
                        refine lv_tableIn (tgt := 175) (off := 174) hx hb d_P_doGroup3_1 (by rw [hk40]; decide) (by rw [hk40]; decide) (by rw [hk40]; rfl) (by decide) ?_
                        refine lv_aload_n hx hb d_P_doGroup3_175 rfl (lv_at hl 0 rfl) ?_
                        refine cp_g_P_registers_P X hK hP d_P_doGroup3_176 ?_
                        refine lv_iconst (v := (1 : Int32)) hx hb d_P_doGroup3_179 (by decide) ?_
                        refine lv_aload_n hx hb d_P_doGroup3_180 rfl (lv_at hl 0 rfl) ?_
                        refine cp_g_P_registers_P X hK hP d_P_doGroup3_181 ?_
                        refine cp_g_G_x_P X hK hP d_P_doGroup3_184 ?_
                        refine lv_aload_n hx hb d_P_doGroup3_187 rfl (lv_at hl 0 rfl) ?_
                        refine cp_g_P_registers_P X hK hP d_P_doGroup3_188 ?_
                        refine cp_g_G_b_P X hK hP d_P_doGroup3_191 ?_
                        refine lv_iadd hx hb d_P_doGroup3_194 ?_
                        obtain ⟨z41, hz41, hf⟩ := op_b hf
                        refine cf_v (ws2 := (cp_ aY aB aG aP aC cI cT py po cb z41.1 z41.2.1 z41.2.2.1 z41.2.2.2.1 z41.2.2.2.2.1 z41.2.2.2.2.2.1 z41.2.2.2.2.2.2.1 z41.2.2.2.2.2.2.2.1 z41.2.2.2.2.2.2.2.2)) X cx_P_112 hK hP hD hS hA hZ hl (c_tc_G_set (aG := aG) (ga := ga) (gb := gb) (gd := gd) (gc := gc) (gx := gx) (gy := gy) (gu := gu) (gs := gs) (gp := gp) hz41) ⟨rfl, rfl, Nat.le_of_ble_eq_true rfl, Nat.le_of_ble_eq_true rfl⟩ [3] [0, 1, 2, 4] [0, 1, 2, 4, 3] rfl rfl rfl rfl (by decide) rfl rfl 0 rfl rfl rfl rfl rfl (Nat.le_of_ble_eq_true rfl) d_P_doGroup3_195 (fun H locs hP hD hS => ?_)
                        refine lv_goto (tgt := 229) hx hb d_P_doGroup3_198 (by decide) ?_
                        have hq := Option.some.inj hf
                        subst hq
                        exact rt_v X hr hlk hK hP hD hS d_P_doGroup3_229
                      · replace hf := (if_neg hk40).symm.trans hf
                        by_cases hk42 : x1 = (59 : Int32)
                        · replace hf := (if_pos hk42).symm.trans hf
                          refine lv_tableIn (tgt := 223) (off := 222) hx hb d_P_doGroup3_1 (by rw [hk42]; decide) (by rw [hk42]; decide) (by rw [hk42]; rfl) (by decide) ?_
                          exact J223 py po cb ga gb gd gc gx gy gu gs gp hf _ _ _ (lv_sub hl [0] rfl) hP hD hS
                        · replace hf := (if_neg hk42).symm.trans hf
                          by_cases hk43 : x1 = (60 : Int32)
                          · replace hf := (if_pos hk43).symm.trans hf
                            refine lv_tableIn (tgt := 223) (off := 222) hx hb d_P_doGroup3_1 (by rw [hk43]; decide) (by rw [hk43]; decide) (by rw [hk43]; rfl) (by decide) ?_
                            exact J223 py po cb ga gb gd gc gx gy gu gs gp hf _ _ _ (lv_sub hl [0] rfl) hP hD hS
                          · replace hf := (if_neg hk43).symm.trans hf
                            by_cases hk44 : x1 = (61 : Int32)
                            · replace hf := (if_pos hk44).symm.trans hf
                              refine lv_tableIn (tgt := 201) (off := 200) hx hb d_P_doGroup3_1 (by rw [hk44]; decide) (by rw [hk44]; decide) (by rw [hk44]; rfl) (by decide) ?_
                              refine lv_aload_n hx hb d_P_doGroup3_201 rfl (lv_at hl 0 rfl) ?_
                              refine cp_g_P_calculator_P X hK hP d_P_doGroup3_202 ?_
                              obtain ⟨z45, hz45, hf⟩ := op_b hf
                              refine cf_v (ws2 := (cp_ aY aB aG aP aC cI cT py po cb z45.1 z45.2.1 z45.2.2.1 z45.2.2.2.1 z45.2.2.2.2.1 z45.2.2.2.2.2.1 z45.2.2.2.2.2.2.1 z45.2.2.2.2.2.2.2.1 z45.2.2.2.2.2.2.2.2)) X cx_P_195 hK hP hD hS hA hZ hl (c_tc_C_multiply (aG := aG) (aC := aC) (ga := ga) (gb := gb) (gd := gd) (gc := gc) (gx := gx) (gy := gy) (gu := gu) (gs := gs) (gp := gp) hz45) ⟨rfl, rfl, Nat.le_of_ble_eq_true rfl, Nat.le_of_ble_eq_true rfl⟩ [4, 3] [0, 1, 2] [0, 1, 2, 4, 3] rfl rfl rfl rfl (by decide) rfl rfl 0 rfl rfl rfl rfl rfl (Nat.le_of_ble_eq_true rfl) d_P_doGroup3_205 (fun H locs hP hD hS => ?_)
                              refine lv_goto (tgt := 229) hx hb d_P_doGroup3_208 (by decide) ?_
                              have hq := Option.some.inj hf
                              subst hq
                              exact rt_v X hr hlk hK hP hD hS d_P_doGroup3_229
                            · replace hf := (if_neg hk44).symm.trans hf
                              by_cases hk46 : x1 = (62 : Int32)
                              · replace hf := (if_pos hk46).symm.trans hf
                                refine lv_tableIn (tgt := 223) (off := 222) hx hb d_P_doGroup3_1 (by rw [hk46]; decide) (by rw [hk46]; decide) (by rw [hk46]; rfl) (by decide) ?_
                                exact J223 py po cb ga gb gd gc gx gy gu gs gp hf _ _ _ (lv_sub hl [0] rfl) hP hD hS
                              · replace hf := (if_neg hk46).symm.trans hf
                                by_cases hk47 : x1 = (63 : Int32)
                                · replace hf := (if_pos hk47).symm.trans hf
                                  refine lv_tableIn (tgt := 211) (off := 210) hx hb d_P_doGroup3_1 (by rw [hk47]; decide) (by rw [hk47]; decide) (by rw [hk47]; rfl) (by decide) ?_
                                  refine lv_aload_n hx hb d_P_doGroup3_211 rfl (lv_at hl 0 rfl) ?_
                                  refine lv_aload_n hx hb d_P_doGroup3_212 rfl (lv_at hl 0 rfl) ?_
                                  refine lv_iconst (v := (1 : Int32)) hx hb d_P_doGroup3_213 (by decide) ?_
                                  obtain ⟨z48, hz48, hf⟩ := op_b hf
                                  refine cf_i (ws2 := (cp_ aY aB aG aP aC cI cT z48.2.1 po cb ga gb gd gc gx gy gu gs z48.2.2)) X cx_P_35 hK hP hD hS hA hZ hl (c_tc_P_fetch (aY := aY) (aB := aB) (aG := aG) (aP := aP) (aC := aC) (py := py) (po := po) (cb := cb) (ga := ga) (gb := gb) (gd := gd) (gc := gc) (gx := gx) (gy := gy) (gu := gu) (gs := gs) (gp := gp) hz48) ⟨rfl, rfl, Nat.le_of_ble_eq_true rfl, Nat.le_of_ble_eq_true rfl⟩ [0, 1, 2, 3, 4] [] [0, 1, 2, 3, 4] rfl rfl rfl rfl (by decide) rfl rfl 0 rfl rfl rfl rfl rfl (Nat.le_of_ble_eq_true rfl) d_P_doGroup3_214 (fun H locs hP hD hS => ?_)
                                  refine cp_p_P_outcome_P (x := z48.1) X hK hP hD hS d_P_doGroup3_217 (fun H locs hP hD hS => ?_)
                                  refine lv_goto (tgt := 229) hx hb d_P_doGroup3_220 (by decide) ?_
                                  have hq := Option.some.inj hf
                                  subst hq
                                  exact rt_v X hr hlk hK hP hD hS d_P_doGroup3_229
                                · replace hf := (if_neg hk47).symm.trans hf
                                  refine lv_tableOut (tgt := 223) hx hb d_P_doGroup3_1 (by have q0 := lv_neT hk17 (show Int32.toInt (48 : Int32) = 48 by decide); have q1 := lv_neT hk19 (show Int32.toInt (49 : Int32) = 49 by decide); have q2 := lv_neT hk21 (show Int32.toInt (50 : Int32) = 50 by decide); have q3 := lv_neT hk23 (show Int32.toInt (51 : Int32) = 51 by decide); have q4 := lv_neT hk25 (show Int32.toInt (52 : Int32) = 52 by decide); have q5 := lv_neT hk28 (show Int32.toInt (53 : Int32) = 53 by decide); have q6 := lv_neT hk31 (show Int32.toInt (54 : Int32) = 54 by decide); have q7 := lv_neT hk34 (show Int32.toInt (55 : Int32) = 55 by decide); have q8 := lv_neT hk37 (show Int32.toInt (56 : Int32) = 56 by decide); have q9 := lv_neT hk38 (show Int32.toInt (57 : Int32) = 57 by decide); have q10 := lv_neT hk40 (show Int32.toInt (58 : Int32) = 58 by decide); have q11 := lv_neT hk42 (show Int32.toInt (59 : Int32) = 59 by decide); have q12 := lv_neT hk43 (show Int32.toInt (60 : Int32) = 60 by decide); have q13 := lv_neT hk44 (show Int32.toInt (61 : Int32) = 61 by decide); have q14 := lv_neT hk46 (show Int32.toInt (62 : Int32) = 62 by decide); have q15 := lv_neT hk47 (show Int32.toInt (63 : Int32) = 63 by decide); omega) (by decide) ?_
                                  exact J223 py po cb ga gb gd gc gx gy gu gs gp hf _ _ _ (lv_sub hl [0] rfl) hP hD hS
set_option maxHeartbeats 4000000 in
set_option maxRecDepth 100000 in
theorem c_tc_P_changeRegister {x1 : Int32} {x2 : Int32} {z : Int32 × Int32 × Int32 × Int32 × Int32 × Int32 × Int32 × Int32 × Int32 × Int32} (hf : tc_P_changeRegister x1 x2 po ga gb gd gc gx gy gu gs gp = some z) : cs_v l my_P_changeRegister mb_P_changeRegister 3 rm_c_P_changeRegister D (ty_ cI cT) [.ref aP, .int x1, .int x2] (cp_ aY aB aG aP aC cI cT py po cb ga gb gd gc gx gy gu gs gp) (cp_ aY aB aG aP aC cI cT py z.1 cb z.2.1 z.2.2.1 z.2.2.2.1 z.2.2.2.2.1 z.2.2.2.2.2.1 z.2.2.2.2.2.2.1 z.2.2.2.2.2.2.2.1 z.2.2.2.2.2.2.2.2.1 z.2.2.2.2.2.2.2.2.2) := by
  refine cs_v_of (by decide) (Nat.le_of_ble_eq_true rfl) ?_
  intro p e s m below meth c A ls X hr hlk hK hP hD hS hA hZ hl
  have hx := X.1
  have hb := X.2.1
  have hl : lv_has ls 3 [(0, .ref aP), (1, .int x1), (2, .int x2)] := hl
  unfold tc_P_changeRegister at hf
  refine lv_iload_n hx hb d_P_changeRegister_0 rfl (lv_at hl 1 rfl) ?_
  obtain ⟨z5, hz5, hf⟩ := op_b hf
  refine cf_si X cx_P_146 hK hP hD hS hA hZ hl (c_tc_P_isChange (w := (cp_ aY aB aG aP aC cI cT py po cb ga gb gd gc gx gy gu gs gp)) hz5) ⟨rfl, rfl, Nat.le_of_ble_eq_true rfl, Nat.le_of_ble_eq_true rfl⟩ rfl rfl (Nat.le_of_ble_eq_true rfl) d_P_changeRegister_1 (fun H locs hP hD hS => ?_)
  refine lv_if_eq (tgt := 31) hx hb d_P_changeRegister_4 (by decide) (fun hc => ?_) (fun hc => ?_)
  · replace hf := (if_pos hc).symm.trans hf
    refine lv_aload_n hx hb d_P_changeRegister_31 rfl (lv_at hl 0 rfl) ?_
    refine lv_bipush (v := (-2 : Int32)) hx hb d_P_changeRegister_32 (by decide) ?_
    refine cp_p_P_outcome_P (x := (-2 : Int32)) X hK hP hD hS d_P_changeRegister_34 (fun H locs hP hD hS => ?_)
    have hq := Option.some.inj hf
    subst hq
    exact rt_v X hr hlk hK hP hD hS d_P_changeRegister_37
  · replace hf := (if_neg hc).symm.trans hf
    refine lv_aload_n hx hb d_P_changeRegister_7 rfl (lv_at hl 0 rfl) ?_
    refine cp_g_P_registers_P X hK hP d_P_changeRegister_8 ?_
    refine lv_iload_n hx hb d_P_changeRegister_11 rfl (lv_at hl 2 rfl) ?_
    refine lv_aload_n hx hb d_P_changeRegister_12 rfl (lv_at hl 0 rfl) ?_
    refine lv_iload_n hx hb d_P_changeRegister_13 rfl (lv_at hl 1 rfl) ?_
    refine lv_aload_n hx hb d_P_changeRegister_14 rfl (lv_at hl 0 rfl) ?_
    refine cp_g_P_registers_P X hK hP d_P_changeRegister_15 ?_
    refine lv_iload_n hx hb d_P_changeRegister_18 rfl (lv_at hl 2 rfl) ?_
    obtain ⟨z6, hz6, hf⟩ := op_b hf
    refine cf_i (ws2 := (cp_ aY aB aG aP aC cI cT py po cb ga gb gd gc gx gy gu gs gp)) X cx_P_100 hK hP hD hS hA hZ hl (c_tc_G_get (aG := aG) (ga := ga) (gb := gb) (gd := gd) (gc := gc) (gx := gx) (gy := gy) (gu := gu) (gs := gs) (gp := gp) hz6) ⟨rfl, rfl, Nat.le_of_ble_eq_true rfl, Nat.le_of_ble_eq_true rfl⟩ [3] [0, 1, 2, 4] [0, 1, 2, 4, 3] rfl rfl rfl rfl (by decide) rfl rfl 0 rfl rfl rfl rfl rfl (Nat.le_of_ble_eq_true rfl) d_P_changeRegister_19 (fun H locs hP hD hS => ?_)
    obtain ⟨z7, hz7, hf⟩ := op_b hf
    refine cf_i (ws2 := (cp_ aY aB aG aP aC cI cT py po cb ga gb gd z7.2 gx gy gu gs gp)) X cx_P_150 hK hP hD hS hA hZ hl (c_tc_P_changed (aY := aY) (aB := aB) (aG := aG) (aP := aP) (aC := aC) (py := py) (po := po) (cb := cb) (ga := ga) (gb := gb) (gd := gd) (gc := gc) (gx := gx) (gy := gy) (gu := gu) (gs := gs) (gp := gp) hz7) ⟨rfl, rfl, Nat.le_of_ble_eq_true rfl, Nat.le_of_ble_eq_true rfl⟩ [0, 1, 2, 3, 4] [] [0, 1, 2, 3, 4] rfl rfl rfl rfl (by decide) rfl rfl 0 rfl rfl rfl rfl rfl (Nat.le_of_ble_eq_true rfl) d_P_changeRegister_22 (fun H locs hP hD hS => ?_)
    obtain ⟨z8, hz8, hf⟩ := op_b hf
    refine cf_v (ws2 := (cp_ aY aB aG aP aC cI cT py po cb z8.1 z8.2.1 z8.2.2.1 z8.2.2.2.1 z8.2.2.2.2.1 z8.2.2.2.2.2.1 z8.2.2.2.2.2.2.1 z8.2.2.2.2.2.2.2.1 z8.2.2.2.2.2.2.2.2)) X cx_P_112 hK hP hD hS hA hZ hl (c_tc_G_set (aG := aG) (ga := ga) (gb := gb) (gd := gd) (gc := z7.2) (gx := gx) (gy := gy) (gu := gu) (gs := gs) (gp := gp) hz8) ⟨rfl, rfl, Nat.le_of_ble_eq_true rfl, Nat.le_of_ble_eq_true rfl⟩ [3] [0, 1, 2, 4] [0, 1, 2, 4, 3] rfl rfl rfl rfl (by decide) rfl rfl 0 rfl rfl rfl rfl rfl (Nat.le_of_ble_eq_true rfl) d_P_changeRegister_25 (fun H locs hP hD hS => ?_)
    refine lv_goto (tgt := 37) hx hb d_P_changeRegister_28 (by decide) ?_
    have hq := Option.some.inj hf
    subst hq
    exact rt_v X hr hlk hK hP hD hS d_P_changeRegister_37
set_option maxHeartbeats 4000000 in
set_option maxRecDepth 100000 in
theorem c_tc_P_callAt {x1 : Int32} {z : Int32 × Int32 × (Nat → Int32) × Int32 × Int32 × Int32 × Int32 × Int32 × Int32 × Int32 × Int32 × Int32} (hf : tc_P_callAt x1 py po cb ga gb gd gc gx gy gu gs gp = some z) : cs_v l my_P_callAt mb_P_callAt 3 rm_c_P_callAt D (ty_ cI cT) [.ref aP, .int x1] (cp_ aY aB aG aP aC cI cT py po cb ga gb gd gc gx gy gu gs gp) (cp_ aY aB aG aP aC cI cT z.1 z.2.1 z.2.2.1 z.2.2.2.1 z.2.2.2.2.1 z.2.2.2.2.2.1 z.2.2.2.2.2.2.1 z.2.2.2.2.2.2.2.1 z.2.2.2.2.2.2.2.2.1 z.2.2.2.2.2.2.2.2.2.1 z.2.2.2.2.2.2.2.2.2.2.1 z.2.2.2.2.2.2.2.2.2.2.2) := by
  refine cs_v_of (by decide) (Nat.le_of_ble_eq_true rfl) ?_
  intro p e s m below meth c A ls X hr hlk hK hP hD hS hA hZ hl
  have hx := X.1
  have hb := X.2.1
  have hl : lv_has ls 3 [(0, .ref aP), (1, .int x1)] := hl
  have J35 : ∀ (v2 : Int32) (py : Int32) (po : Int32) (cb : Nat → Int32) (ga : Int32) (gb : Int32) (gd : Int32) (gc : Int32) (gx : Int32) (gy : Int32) (gu : Int32) (gs : Int32) (gp : Int32), tc_P_callAt_j35 v2 py po cb ga gb gd gc gx gy gu gs gp = some z → ∀ (H : Heap) (locs : List Loc) (ls : Array Slot), lv_has ls 3 [(0, .ref aP), (2, .int v2)] → va_P D cz_all (cp_ aY aB aG aP aC cI cT py po cb ga gb gd gc gx gy gu gs gp) H → va_D A (cp_ aY aB aG aP aC cI cT py po cb ga gb gd gc gx gy gu gs gp) → va_S A s.heap H locs → W p l e rm_c_P_callAt s m ([.ref aP, .int x1] : List Value).toArray below meth c H locs 0 0 (MQ below (qs_v D (ty_ cI cT) (cp_ aY aB aG aP aC cI cT z.1 z.2.1 z.2.2.1 z.2.2.2.1 z.2.2.2.2.1 z.2.2.2.2.2.1 z.2.2.2.2.2.2.1 z.2.2.2.2.2.2.2.1 z.2.2.2.2.2.2.2.2.1 z.2.2.2.2.2.2.2.2.2.1 z.2.2.2.2.2.2.2.2.2.2.1 z.2.2.2.2.2.2.2.2.2.2.2) A) ([.ref aP, .int x1] : List Value).toArray s 0 0 A) (F0 m 35 ls []) := by
    intro v2 py po cb ga gb gd gc gx gy gu gs gp hf H locs ls hl hP hD hS
    unfold tc_P_callAt_j35 at hf
    refine lv_aload_n hx hb d_P_callAt_35 rfl (lv_at hl 0 rfl) ?_
    refine cp_g_P_outcome_P X hK hP d_P_callAt_36 ?_
    refine lv_bipush (v := (-2 : Int32)) hx hb d_P_callAt_39 (by decide) ?_
    refine lv_icmp_eq (tgt := 60) hx hb d_P_callAt_41 (by decide) (fun hc => ?_) (fun hc => ?_)
    · replace hf := (if_pos hc).symm.trans hf
      have hq := Option.some.inj hf
      subst hq
      exact rt_v X hr hlk hK hP hD hS d_P_callAt_60
    · replace hf := (if_neg hc).symm.trans hf
      refine lv_aload_n hx hb d_P_callAt_44 rfl (lv_at hl 0 rfl) ?_
      refine lv_iconst (v := (4 : Int32)) hx hb d_P_callAt_45 (by decide) ?_
      refine lv_sipush (v := (128 : Int32)) hx hb d_P_callAt_46 (by decide) ?_
      obtain ⟨z5, hz5, hf⟩ := op_b hf
      refine cf_v (ws2 := (cp_ aY aB aG aP aC cI cT z5.1 po z5.2.1 z5.2.2.1 z5.2.2.2.1 z5.2.2.2.2.1 z5.2.2.2.2.2.1 z5.2.2.2.2.2.2.1 z5.2.2.2.2.2.2.2.1 z5.2.2.2.2.2.2.2.2.1 z5.2.2.2.2.2.2.2.2.2.1 z5.2.2.2.2.2.2.2.2.2.2)) X cx_P_144 hK hP hD hS hA hZ hl (c_tc_P_push (aY := aY) (aB := aB) (aG := aG) (aP := aP) (aC := aC) (py := py) (po := po) (cb := cb) (ga := ga) (gb := gb) (gd := gd) (gc := gc) (gx := gx) (gy := gy) (gu := gu) (gs := gs) (gp := gp) hz5) ⟨rfl, rfl, Nat.le_of_ble_eq_true rfl, Nat.le_of_ble_eq_true rfl⟩ [0, 1, 2, 3, 4] [] [0, 1, 2, 3, 4] rfl rfl rfl rfl (by decide) rfl rfl 0 rfl rfl rfl rfl rfl (Nat.le_of_ble_eq_true rfl) d_P_callAt_49 (fun H locs hP hD hS => ?_)
      refine lv_aload_n hx hb d_P_callAt_52 rfl (lv_at hl 0 rfl) ?_
      refine cp_g_P_registers_P X hK hP d_P_callAt_53 ?_
      refine lv_iload_n hx hb d_P_callAt_56 rfl (lv_at hl 1 rfl) ?_
      refine cp_p_G_pc_P (x := v2) X hK hP hD hS d_P_callAt_57 (fun H locs hP hD hS => ?_)
      have hq := Option.some.inj hf
      subst hq
      exact rt_v X hr hlk hK hP hD hS d_P_callAt_60
  unfold tc_P_callAt at hf
  refine lv_iload_n hx hb d_P_callAt_0 rfl (lv_at hl 1 rfl) ?_
  refine lv_if_ne (tgt := 28) hx hb d_P_callAt_1 (by decide) (fun hc => ?_) (fun hc => ?_)
  · replace hf := (if_neg hc).symm.trans hf
    refine lv_aload_n hx hb d_P_callAt_28 rfl (lv_at hl 0 rfl) ?_
    refine lv_iload_n hx hb d_P_callAt_29 rfl (lv_at hl 1 rfl) ?_
    refine lv_iconst (v := (1 : Int32)) hx hb d_P_callAt_30 (by decide) ?_
    obtain ⟨z6, hz6, hf⟩ := op_b hf
    refine cf_i (ws2 := (cp_ aY aB aG aP aC cI cT z6.2.1 z6.2.2.1 cb z6.2.2.2.1 z6.2.2.2.2.1 z6.2.2.2.2.2.1 z6.2.2.2.2.2.2.1 z6.2.2.2.2.2.2.2.1 z6.2.2.2.2.2.2.2.2.1 z6.2.2.2.2.2.2.2.2.2.1 z6.2.2.2.2.2.2.2.2.2.2.1 z6.2.2.2.2.2.2.2.2.2.2.2)) X cx_P_97 hK hP hD hS hA hZ hl (c_tc_P_operandAddress (aY := aY) (aB := aB) (aG := aG) (aP := aP) (aC := aC) (py := py) (po := po) (cb := cb) (ga := ga) (gb := gb) (gd := gd) (gc := gc) (gx := gx) (gy := gy) (gu := gu) (gs := gs) (gp := gp) hz6) ⟨rfl, rfl, Nat.le_of_ble_eq_true rfl, Nat.le_of_ble_eq_true rfl⟩ [0, 1, 2, 3, 4] [] [0, 1, 2, 3, 4] rfl rfl rfl rfl (by decide) rfl rfl 0 rfl rfl rfl rfl rfl (Nat.le_of_ble_eq_true rfl) d_P_callAt_31 (fun H locs hP hD hS => ?_)
    refine lv_istore_n hx hb d_P_callAt_34 rfl hl (by decide) rfl (fun ls hl => ?_)
    have hl : lv_has ls 3 [(2, .int z6.1), (0, .ref aP), (1, .int x1)] := hl
    exact J35 z6.1 z6.2.1 z6.2.2.1 cb z6.2.2.2.1 z6.2.2.2.2.1 z6.2.2.2.2.2.1 z6.2.2.2.2.2.2.1 z6.2.2.2.2.2.2.2.1 z6.2.2.2.2.2.2.2.2.1 z6.2.2.2.2.2.2.2.2.2.1 z6.2.2.2.2.2.2.2.2.2.2.1 z6.2.2.2.2.2.2.2.2.2.2.2 hf _ _ _ (lv_sub hl [1, 0] rfl) hP hD hS
  · replace hf := (if_pos hc).symm.trans hf
    refine lv_aload_n hx hb d_P_callAt_4 rfl (lv_at hl 0 rfl) ?_
    refine lv_iconst (v := (1 : Int32)) hx hb d_P_callAt_5 (by decide) ?_
    obtain ⟨z7, hz7, hf⟩ := op_b hf
    refine cf_i (ws2 := (cp_ aY aB aG aP aC cI cT z7.2.1 po cb ga gb gd gc gx gy gu gs z7.2.2)) X cx_P_35 hK hP hD hS hA hZ hl (c_tc_P_fetch (aY := aY) (aB := aB) (aG := aG) (aP := aP) (aC := aC) (py := py) (po := po) (cb := cb) (ga := ga) (gb := gb) (gd := gd) (gc := gc) (gx := gx) (gy := gy) (gu := gu) (gs := gs) (gp := gp) hz7) ⟨rfl, rfl, Nat.le_of_ble_eq_true rfl, Nat.le_of_ble_eq_true rfl⟩ [0, 1, 2, 3, 4] [] [0, 1, 2, 3, 4] rfl rfl rfl rfl (by decide) rfl rfl 0 rfl rfl rfl rfl rfl (Nat.le_of_ble_eq_true rfl) d_P_callAt_6 (fun H locs hP hD hS => ?_)
    refine lv_iconst (v := (1 : Int32)) hx hb d_P_callAt_9 (by decide) ?_
    obtain ⟨z8, hz8, hf⟩ := op_b hf
    refine cf_si X cx_P_138 hK hP hD hS hA hZ hl (c_tc_C_signed (w := (cp_ aY aB aG aP aC cI cT z7.2.1 po cb ga gb gd gc gx gy gu gs z7.2.2)) hz8) ⟨rfl, rfl, Nat.le_of_ble_eq_true rfl, Nat.le_of_ble_eq_true rfl⟩ rfl rfl (Nat.le_of_ble_eq_true rfl) d_P_callAt_10 (fun H locs hP hD hS => ?_)
    refine lv_aload_n hx hb d_P_callAt_13 rfl (lv_at hl 0 rfl) ?_
    refine cp_g_P_registers_P X hK hP d_P_callAt_14 ?_
    refine cp_g_G_pc_P X hK hP d_P_callAt_17 ?_
    refine lv_iadd hx hb d_P_callAt_20 ?_
    refine lv_ldc (v := (65535 : Int32)) hx hb X.2.2.2.1 (X.2.2.2.2 _ ww_4) d_P_callAt_21 ?_
    refine lv_iand hx hb d_P_callAt_23 ?_
    refine lv_istore_n hx hb d_P_callAt_24 rfl hl (by decide) rfl (fun ls hl => ?_)
    have hl : lv_has ls 3 [(2, .int ((z8 + z7.2.2) &&& (65535 : Int32))), (0, .ref aP), (1, .int x1)] := hl
    refine lv_goto (tgt := 35) hx hb d_P_callAt_25 (by decide) ?_
    exact J35 ((z8 + z7.2.2) &&& (65535 : Int32)) z7.2.1 po cb ga gb gd gc gx gy gu gs z7.2.2 hf _ _ _ (lv_sub hl [1, 0] rfl) hP hD hS
set_option maxHeartbeats 4000000 in
set_option maxRecDepth 100000 in
theorem c_tc_P_doMainPage {x1 : Int32} {z : Int32 × Int32 × (Nat → Int32) × Int32 × Int32 × Int32 × Int32 × Int32 × Int32 × Int32 × Int32 × Int32} (hf : tc_P_doMainPage x1 py po cb ga gb gd gc gx gy gu gs gp = some z) : cs_v l my_P_doMainPage mb_P_doMainPage 4 rm_c_P_doMainPage D (ty_ cI cT) [.ref aP, .int x1] (cp_ aY aB aG aP aC cI cT py po cb ga gb gd gc gx gy gu gs gp) (cp_ aY aB aG aP aC cI cT z.1 z.2.1 z.2.2.1 z.2.2.2.1 z.2.2.2.2.1 z.2.2.2.2.2.1 z.2.2.2.2.2.2.1 z.2.2.2.2.2.2.2.1 z.2.2.2.2.2.2.2.2.1 z.2.2.2.2.2.2.2.2.2.1 z.2.2.2.2.2.2.2.2.2.2.1 z.2.2.2.2.2.2.2.2.2.2.2) := by
  refine cs_v_of (by decide) (Nat.le_of_ble_eq_true rfl) ?_
  intro p e s m below meth c A ls X hr hlk hK hP hD hS hA hZ hl
  have hx := X.1
  have hb := X.2.1
  have hl : lv_has ls 4 [(0, .ref aP), (1, .int x1)] := hl
  have J209 : ∀ (v2 : Int32) (s0 : Int32) (s1 : Int32) (py : Int32) (po : Int32) (cb : Nat → Int32) (ga : Int32) (gb : Int32) (gd : Int32) (gc : Int32) (gx : Int32) (gy : Int32) (gu : Int32) (gs : Int32) (gp : Int32), tc_P_doMainPage_j209 v2 s0 s1 py po cb ga gb gd gc gx gy gu gs gp = some z → ∀ (H : Heap) (locs : List Loc) (ls : Array Slot), lv_has ls 4 [(2, .int v2)] → va_P D cz_all (cp_ aY aB aG aP aC cI cT py po cb ga gb gd gc gx gy gu gs gp) H → va_D A (cp_ aY aB aG aP aC cI cT py po cb ga gb gd gc gx gy gu gs gp) → va_S A s.heap H locs → W p l e rm_c_P_doMainPage s m ([.ref aP, .int x1] : List Value).toArray below meth c H locs 0 0 (MQ below (qs_v D (ty_ cI cT) (cp_ aY aB aG aP aC cI cT z.1 z.2.1 z.2.2.1 z.2.2.2.1 z.2.2.2.2.1 z.2.2.2.2.2.1 z.2.2.2.2.2.2.1 z.2.2.2.2.2.2.2.1 z.2.2.2.2.2.2.2.2.1 z.2.2.2.2.2.2.2.2.2.1 z.2.2.2.2.2.2.2.2.2.2.1 z.2.2.2.2.2.2.2.2.2.2.2) A) ([.ref aP, .int x1] : List Value).toArray s 0 0 A) (F0 m 209 ls [.int s0, .int s1, .ref aP]) := by
    intro v2 s0 s1 py po cb ga gb gd gc gx gy gu gs gp hf H locs ls hl hP hD hS
    unfold tc_P_doMainPage_j209 at hf
    refine lv_iload_n hx hb d_P_doMainPage_209 rfl (lv_at hl 0 rfl) ?_
    obtain ⟨z17, hz17, hf⟩ := op_b hf
    refine cf_v (ws2 := (cp_ aY aB aG aP aC cI cT z17.1 z17.2.1 z17.2.2.1 z17.2.2.2.1 z17.2.2.2.2.1 z17.2.2.2.2.2.1 z17.2.2.2.2.2.2.1 z17.2.2.2.2.2.2.2.1 z17.2.2.2.2.2.2.2.2.1 z17.2.2.2.2.2.2.2.2.2.1 z17.2.2.2.2.2.2.2.2.2.2.1 z17.2.2.2.2.2.2.2.2.2.2.2)) X cx_P_88 hK hP hD hS hA hZ hl (c_tc_P_operate (aY := aY) (aB := aB) (aG := aG) (aP := aP) (aC := aC) (py := py) (po := po) (cb := cb) (ga := ga) (gb := gb) (gd := gd) (gc := gc) (gx := gx) (gy := gy) (gu := gu) (gs := gs) (gp := gp) hz17) ⟨rfl, rfl, Nat.le_of_ble_eq_true rfl, Nat.le_of_ble_eq_true rfl⟩ [0, 1, 2, 3, 4] [] [0, 1, 2, 3, 4] rfl rfl rfl rfl (by decide) rfl rfl 0 rfl rfl rfl rfl rfl (Nat.le_of_ble_eq_true rfl) d_P_doMainPage_210 (fun H locs hP hD hS => ?_)
    have hq := Option.some.inj hf
    subst hq
    exact rt_v X hr hlk hK hP hD hS d_P_doMainPage_213
  have J193 : ∀ (v1 : Int32) (v2 : Int32) (v3 : Bool) (py : Int32) (po : Int32) (cb : Nat → Int32) (ga : Int32) (gb : Int32) (gd : Int32) (gc : Int32) (gx : Int32) (gy : Int32) (gu : Int32) (gs : Int32) (gp : Int32), tc_P_doMainPage_j193 v1 v2 v3 py po cb ga gb gd gc gx gy gu gs gp = some z → ∀ (H : Heap) (locs : List Loc) (ls : Array Slot), lv_has ls 4 [(0, .ref aP), (1, .int v1), (2, .int v2), (3, .int (bz_i v3))] → va_P D cz_all (cp_ aY aB aG aP aC cI cT py po cb ga gb gd gc gx gy gu gs gp) H → va_D A (cp_ aY aB aG aP aC cI cT py po cb ga gb gd gc gx gy gu gs gp) → va_S A s.heap H locs → W p l e rm_c_P_doMainPage s m ([.ref aP, .int x1] : List Value).toArray below meth c H locs 0 0 (MQ below (qs_v D (ty_ cI cT) (cp_ aY aB aG aP aC cI cT z.1 z.2.1 z.2.2.1 z.2.2.2.1 z.2.2.2.2.1 z.2.2.2.2.2.1 z.2.2.2.2.2.2.1 z.2.2.2.2.2.2.2.1 z.2.2.2.2.2.2.2.2.1 z.2.2.2.2.2.2.2.2.2.1 z.2.2.2.2.2.2.2.2.2.2.1 z.2.2.2.2.2.2.2.2.2.2.2) A) ([.ref aP, .int x1] : List Value).toArray s 0 0 A) (F0 m 193 ls []) := by
    intro v1 v2 v3 py po cb ga gb gd gc gx gy gu gs gp hf H locs ls hl hP hD hS
    unfold tc_P_doMainPage_j193 at hf
    refine lv_aload_n hx hb d_P_doMainPage_193 rfl (lv_at hl 0 rfl) ?_
    refine lv_iload_n hx hb d_P_doMainPage_194 rfl (lv_at hl 1 rfl) ?_
    refine lv_bipush (v := (15 : Int32)) hx hb d_P_doMainPage_195 (by decide) ?_
    refine lv_iand hx hb d_P_doMainPage_197 ?_
    refine lv_iload_n hx hb d_P_doMainPage_198 rfl (lv_at hl 3 rfl) ?_
    refine lv_if_eq (tgt := 207) hx hb d_P_doMainPage_199 (by decide) (fun hc => ?_) (fun hc => ?_)
    · replace hf := (if_pos hc).symm.trans hf
      refine lv_bipush (v := (8 : Int32)) hx hb d_P_doMainPage_207 (by decide) ?_
      exact J209 v2 (8 : Int32) (v1 &&& (15 : Int32)) py po cb ga gb gd gc gx gy gu gs gp hf _ _ _ (lv_sub hl [2] rfl) hP hD hS
    · replace hf := (if_neg hc).symm.trans hf
      refine lv_bipush (v := (9 : Int32)) hx hb d_P_doMainPage_202 (by decide) ?_
      refine lv_goto (tgt := 209) hx hb d_P_doMainPage_204 (by decide) ?_
      exact J209 v2 (9 : Int32) (v1 &&& (15 : Int32)) py po cb ga gb gd gc gx gy gu gs gp hf _ _ _ (lv_sub hl [2] rfl) hP hD hS
  have J186 : ∀ (v2 : Int32) (s0 : Int32) (py : Int32) (po : Int32) (cb : Nat → Int32) (ga : Int32) (gb : Int32) (gd : Int32) (gc : Int32) (gx : Int32) (gy : Int32) (gu : Int32) (gs : Int32) (gp : Int32), tc_P_doMainPage_j186 v2 s0 py po cb ga gb gd gc gx gy gu gs gp = some z → ∀ (H : Heap) (locs : List Loc) (ls : Array Slot), lv_has ls 4 [(2, .int v2)] → va_P D cz_all (cp_ aY aB aG aP aC cI cT py po cb ga gb gd gc gx gy gu gs gp) H → va_D A (cp_ aY aB aG aP aC cI cT py po cb ga gb gd gc gx gy gu gs gp) → va_S A s.heap H locs → W p l e rm_c_P_doMainPage s m ([.ref aP, .int x1] : List Value).toArray below meth c H locs 0 0 (MQ below (qs_v D (ty_ cI cT) (cp_ aY aB aG aP aC cI cT z.1 z.2.1 z.2.2.1 z.2.2.2.1 z.2.2.2.2.1 z.2.2.2.2.2.1 z.2.2.2.2.2.2.1 z.2.2.2.2.2.2.2.1 z.2.2.2.2.2.2.2.2.1 z.2.2.2.2.2.2.2.2.2.1 z.2.2.2.2.2.2.2.2.2.2.1 z.2.2.2.2.2.2.2.2.2.2.2) A) ([.ref aP, .int x1] : List Value).toArray s 0 0 A) (F0 m 186 ls [.int s0, .int (7 : Int32), .ref aP]) := by
    intro v2 s0 py po cb ga gb gd gc gx gy gu gs gp hf H locs ls hl hP hD hS
    unfold tc_P_doMainPage_j186 at hf
    refine lv_iload_n hx hb d_P_doMainPage_186 rfl (lv_at hl 0 rfl) ?_
    obtain ⟨z18, hz18, hf⟩ := op_b hf
    refine cf_v (ws2 := (cp_ aY aB aG aP aC cI cT z18.1 z18.2.1 z18.2.2.1 z18.2.2.2.1 z18.2.2.2.2.1 z18.2.2.2.2.2.1 z18.2.2.2.2.2.2.1 z18.2.2.2.2.2.2.2.1 z18.2.2.2.2.2.2.2.2.1 z18.2.2.2.2.2.2.2.2.2.1 z18.2.2.2.2.2.2.2.2.2.2.1 z18.2.2.2.2.2.2.2.2.2.2.2)) X cx_P_88 hK hP hD hS hA hZ hl (c_tc_P_operate (aY := aY) (aB := aB) (aG := aG) (aP := aP) (aC := aC) (py := py) (po := po) (cb := cb) (ga := ga) (gb := gb) (gd := gd) (gc := gc) (gx := gx) (gy := gy) (gu := gu) (gs := gs) (gp := gp) hz18) ⟨rfl, rfl, Nat.le_of_ble_eq_true rfl, Nat.le_of_ble_eq_true rfl⟩ [0, 1, 2, 3, 4] [] [0, 1, 2, 3, 4] rfl rfl rfl rfl (by decide) rfl rfl 0 rfl rfl rfl rfl rfl (Nat.le_of_ble_eq_true rfl) d_P_doMainPage_187 (fun H locs hP hD hS => ?_)
    refine lv_goto (tgt := 213) hx hb d_P_doMainPage_190 (by decide) ?_
    have hq := Option.some.inj hf
    subst hq
    exact rt_v X hr hlk hK hP hD hS d_P_doMainPage_213
  have J167 : ∀ (v2 : Int32) (s0 : Int32) (py : Int32) (po : Int32) (cb : Nat → Int32) (ga : Int32) (gb : Int32) (gd : Int32) (gc : Int32) (gx : Int32) (gy : Int32) (gu : Int32) (gs : Int32) (gp : Int32), tc_P_doMainPage_j167 v2 s0 py po cb ga gb gd gc gx gy gu gs gp = some z → ∀ (H : Heap) (locs : List Loc) (ls : Array Slot), lv_has ls 4 [(2, .int v2)] → va_P D cz_all (cp_ aY aB aG aP aC cI cT py po cb ga gb gd gc gx gy gu gs gp) H → va_D A (cp_ aY aB aG aP aC cI cT py po cb ga gb gd gc gx gy gu gs gp) → va_S A s.heap H locs → W p l e rm_c_P_doMainPage s m ([.ref aP, .int x1] : List Value).toArray below meth c H locs 0 0 (MQ below (qs_v D (ty_ cI cT) (cp_ aY aB aG aP aC cI cT z.1 z.2.1 z.2.2.1 z.2.2.2.1 z.2.2.2.2.1 z.2.2.2.2.2.1 z.2.2.2.2.2.2.1 z.2.2.2.2.2.2.2.1 z.2.2.2.2.2.2.2.2.1 z.2.2.2.2.2.2.2.2.2.1 z.2.2.2.2.2.2.2.2.2.2.1 z.2.2.2.2.2.2.2.2.2.2.2) A) ([.ref aP, .int x1] : List Value).toArray s 0 0 A) (F0 m 167 ls [.int s0, .int (6 : Int32), .ref aP]) := by
    intro v2 s0 py po cb ga gb gd gc gx gy gu gs gp hf H locs ls hl hP hD hS
    unfold tc_P_doMainPage_j167 at hf
    refine lv_iload_n hx hb d_P_doMainPage_167 rfl (lv_at hl 0 rfl) ?_
    obtain ⟨z19, hz19, hf⟩ := op_b hf
    refine cf_v (ws2 := (cp_ aY aB aG aP aC cI cT z19.1 z19.2.1 z19.2.2.1 z19.2.2.2.1 z19.2.2.2.2.1 z19.2.2.2.2.2.1 z19.2.2.2.2.2.2.1 z19.2.2.2.2.2.2.2.1 z19.2.2.2.2.2.2.2.2.1 z19.2.2.2.2.2.2.2.2.2.1 z19.2.2.2.2.2.2.2.2.2.2.1 z19.2.2.2.2.2.2.2.2.2.2.2)) X cx_P_88 hK hP hD hS hA hZ hl (c_tc_P_operate (aY := aY) (aB := aB) (aG := aG) (aP := aP) (aC := aC) (py := py) (po := po) (cb := cb) (ga := ga) (gb := gb) (gd := gd) (gc := gc) (gx := gx) (gy := gy) (gu := gu) (gs := gs) (gp := gp) hz19) ⟨rfl, rfl, Nat.le_of_ble_eq_true rfl, Nat.le_of_ble_eq_true rfl⟩ [0, 1, 2, 3, 4] [] [0, 1, 2, 3, 4] rfl rfl rfl rfl (by decide) rfl rfl 0 rfl rfl rfl rfl rfl (Nat.le_of_ble_eq_true rfl) d_P_doMainPage_168 (fun H locs hP hD hS => ?_)
    refine lv_goto (tgt := 213) hx hb d_P_doMainPage_171 (by decide) ?_
    have hq := Option.some.inj hf
    subst hq
    exact rt_v X hr hlk hK hP hD hS d_P_doMainPage_213
  have J99 : ∀ (v2 : Int32) (s0 : Int32) (py : Int32) (po : Int32) (cb : Nat → Int32) (ga : Int32) (gb : Int32) (gd : Int32) (gc : Int32) (gx : Int32) (gy : Int32) (gu : Int32) (gs : Int32) (gp : Int32), tc_P_doMainPage_j99 v2 s0 py po cb ga gb gd gc gx gy gu gs gp = some z → ∀ (H : Heap) (locs : List Loc) (ls : Array Slot), lv_has ls 4 [(2, .int v2)] → va_P D cz_all (cp_ aY aB aG aP aC cI cT py po cb ga gb gd gc gx gy gu gs gp) H → va_D A (cp_ aY aB aG aP aC cI cT py po cb ga gb gd gc gx gy gu gs gp) → va_S A s.heap H locs → W p l e rm_c_P_doMainPage s m ([.ref aP, .int x1] : List Value).toArray below meth c H locs 0 0 (MQ below (qs_v D (ty_ cI cT) (cp_ aY aB aG aP aC cI cT z.1 z.2.1 z.2.2.1 z.2.2.2.1 z.2.2.2.2.1 z.2.2.2.2.2.1 z.2.2.2.2.2.2.1 z.2.2.2.2.2.2.2.1 z.2.2.2.2.2.2.2.2.1 z.2.2.2.2.2.2.2.2.2.1 z.2.2.2.2.2.2.2.2.2.2.1 z.2.2.2.2.2.2.2.2.2.2.2) A) ([.ref aP, .int x1] : List Value).toArray s 0 0 A) (F0 m 99 ls [.int s0, .ref aP]) := by
    intro v2 s0 py po cb ga gb gd gc gx gy gu gs gp hf H locs ls hl hP hD hS
    unfold tc_P_doMainPage_j99 at hf
    refine lv_iconst (v := (0 : Int32)) hx hb d_P_doMainPage_99 (by decide) ?_
    refine lv_iload_n hx hb d_P_doMainPage_100 rfl (lv_at hl 0 rfl) ?_
    obtain ⟨z20, hz20, hf⟩ := op_b hf
    refine cf_v (ws2 := (cp_ aY aB aG aP aC cI cT z20.1 z20.2.1 z20.2.2.1 z20.2.2.2.1 z20.2.2.2.2.1 z20.2.2.2.2.2.1 z20.2.2.2.2.2.2.1 z20.2.2.2.2.2.2.2.1 z20.2.2.2.2.2.2.2.2.1 z20.2.2.2.2.2.2.2.2.2.1 z20.2.2.2.2.2.2.2.2.2.2.1 z20.2.2.2.2.2.2.2.2.2.2.2)) X cx_P_88 hK hP hD hS hA hZ hl (c_tc_P_operate (aY := aY) (aB := aB) (aG := aG) (aP := aP) (aC := aC) (py := py) (po := po) (cb := cb) (ga := ga) (gb := gb) (gd := gd) (gc := gc) (gx := gx) (gy := gy) (gu := gu) (gs := gs) (gp := gp) hz20) ⟨rfl, rfl, Nat.le_of_ble_eq_true rfl, Nat.le_of_ble_eq_true rfl⟩ [0, 1, 2, 3, 4] [] [0, 1, 2, 3, 4] rfl rfl rfl rfl (by decide) rfl rfl 0 rfl rfl rfl rfl rfl (Nat.le_of_ble_eq_true rfl) d_P_doMainPage_101 (fun H locs hP hD hS => ?_)
    refine lv_goto (tgt := 213) hx hb d_P_doMainPage_104 (by decide) ?_
    have hq := Option.some.inj hf
    subst hq
    exact rt_v X hr hlk hK hP hD hS d_P_doMainPage_213
  have J18 : ∀ (v1 : Int32) (v2 : Int32) (s0 : Bool) (py : Int32) (po : Int32) (cb : Nat → Int32) (ga : Int32) (gb : Int32) (gd : Int32) (gc : Int32) (gx : Int32) (gy : Int32) (gu : Int32) (gs : Int32) (gp : Int32), tc_P_doMainPage_j18 v1 v2 s0 py po cb ga gb gd gc gx gy gu gs gp = some z → ∀ (H : Heap) (locs : List Loc) (ls : Array Slot), lv_has ls 4 [(0, .ref aP), (1, .int v1), (2, .int v2)] → va_P D cz_all (cp_ aY aB aG aP aC cI cT py po cb ga gb gd gc gx gy gu gs gp) H → va_D A (cp_ aY aB aG aP aC cI cT py po cb ga gb gd gc gx gy gu gs gp) → va_S A s.heap H locs → W p l e rm_c_P_doMainPage s m ([.ref aP, .int x1] : List Value).toArray below meth c H locs 0 0 (MQ below (qs_v D (ty_ cI cT) (cp_ aY aB aG aP aC cI cT z.1 z.2.1 z.2.2.1 z.2.2.2.1 z.2.2.2.2.1 z.2.2.2.2.2.1 z.2.2.2.2.2.2.1 z.2.2.2.2.2.2.2.1 z.2.2.2.2.2.2.2.2.1 z.2.2.2.2.2.2.2.2.2.1 z.2.2.2.2.2.2.2.2.2.2.1 z.2.2.2.2.2.2.2.2.2.2.2) A) ([.ref aP, .int x1] : List Value).toArray s 0 0 A) (F0 m 18 ls [.int (bz_i s0)]) := by
    intro v1 v2 s0 py po cb ga gb gd gc gx gy gu gs gp hf H locs ls hl hP hD hS
    unfold tc_P_doMainPage_j18 at hf
    refine lv_istore_n hx hb d_P_doMainPage_18 rfl hl (by decide) rfl (fun ls hl => ?_)
    have hl : lv_has ls 4 [(3, .int (bz_i s0)), (0, .ref aP), (1, .int v1), (2, .int v2)] := hl
    refine lv_iload_n hx hb d_P_doMainPage_19 rfl (lv_at hl 2 rfl) ?_
    refine lv_bipush (v := (15 : Int32)) hx hb d_P_doMainPage_20 (by decide) ?_
    refine lv_iand hx hb d_P_doMainPage_22 ?_
    by_cases hk21 : (v1 &&& (15 : Int32)) = (3 : Int32)
    · replace hf := (if_pos hk21).symm.trans hf
      refine lv_tableIn (tgt := 88) (off := 65) hx hb d_P_doMainPage_23 (by rw [hk21]; decide) (by rw [hk21]; decide) (by rw [hk21]; rfl) (by decide) ?_
      refine lv_aload_n hx hb d_P_doMainPage_88 rfl (lv_at hl 1 rfl) ?_
      refine lv_iload_n hx hb d_P_doMainPage_89 rfl (lv_at hl 0 rfl) ?_
      refine lv_if_eq (tgt := 98) hx hb d_P_doMainPage_90 (by decide) (fun hc => ?_) (fun hc => ?_)
      · replace hf := (if_pos hc).symm.trans hf
        refine lv_iconst (v := (0 : Int32)) hx hb d_P_doMainPage_98 (by decide) ?_
        exact J99 v2 (0 : Int32) py po cb ga gb gd gc gx gy gu gs gp hf _ _ _ (lv_sub hl [3] rfl) hP hD hS
      · replace hf := (if_neg hc).symm.trans hf
        refine lv_bipush (v := (11 : Int32)) hx hb d_P_doMainPage_93 (by decide) ?_
        refine lv_goto (tgt := 99) hx hb d_P_doMainPage_95 (by decide) ?_
        exact J99 v2 (11 : Int32) py po cb ga gb gd gc gx gy gu gs gp hf _ _ _ (lv_sub hl [3] rfl) hP hD hS
    · replace hf := (if_neg hk21).symm.trans hf
      by_cases hk22 : (v1 &&& (15 : Int32)) = (4 : Int32)
      · replace hf := (if_pos hk22).symm.trans hf
        refine lv_tableIn (tgt := 193) (off := 170) hx hb d_P_doMainPage_23 (by rw [hk22]; decide) (by rw [hk22]; decide) (by rw [hk22]; rfl) (by decide) ?_
        exact J193 v1 v2 s0 py po cb ga gb gd gc gx gy gu gs gp hf _ _ _ (lv_sub hl [1, 2, 3, 0] rfl) hP hD hS
      · replace hf := (if_neg hk22).symm.trans hf
        by_cases hk23 : (v1 &&& (15 : Int32)) = (5 : Int32)
        · replace hf := (if_pos hk23).symm.trans hf
          refine lv_tableIn (tgt := 193) (off := 170) hx hb d_P_doMainPage_23 (by rw [hk23]; decide) (by rw [hk23]; decide) (by rw [hk23]; rfl) (by decide) ?_
          exact J193 v1 v2 s0 py po cb ga gb gd gc gx gy gu gs gp hf _ _ _ (lv_sub hl [1, 2, 3, 0] rfl) hP hD hS
        · replace hf := (if_neg hk23).symm.trans hf
          by_cases hk24 : (v1 &&& (15 : Int32)) = (6 : Int32)
          · replace hf := (if_pos hk24).symm.trans hf
            refine lv_tableIn (tgt := 193) (off := 170) hx hb d_P_doMainPage_23 (by rw [hk24]; decide) (by rw [hk24]; decide) (by rw [hk24]; rfl) (by decide) ?_
            exact J193 v1 v2 s0 py po cb ga gb gd gc gx gy gu gs gp hf _ _ _ (lv_sub hl [1, 2, 3, 0] rfl) hP hD hS
          · replace hf := (if_neg hk24).symm.trans hf
            by_cases hk25 : (v1 &&& (15 : Int32)) = (7 : Int32)
            · replace hf := (if_pos hk25).symm.trans hf
              refine lv_tableIn (tgt := 193) (off := 170) hx hb d_P_doMainPage_23 (by rw [hk25]; decide) (by rw [hk25]; decide) (by rw [hk25]; rfl) (by decide) ?_
              exact J193 v1 v2 s0 py po cb ga gb gd gc gx gy gu gs gp hf _ _ _ (lv_sub hl [1, 2, 3, 0] rfl) hP hD hS
            · replace hf := (if_neg hk25).symm.trans hf
              by_cases hk26 : (v1 &&& (15 : Int32)) = (8 : Int32)
              · replace hf := (if_pos hk26).symm.trans hf
                refine lv_tableIn (tgt := 193) (off := 170) hx hb d_P_doMainPage_23 (by rw [hk26]; decide) (by rw [hk26]; decide) (by rw [hk26]; rfl) (by decide) ?_
                exact J193 v1 v2 s0 py po cb ga gb gd gc gx gy gu gs gp hf _ _ _ (lv_sub hl [1, 2, 3, 0] rfl) hP hD hS
              · replace hf := (if_neg hk26).symm.trans hf
                by_cases hk27 : (v1 &&& (15 : Int32)) = (9 : Int32)
                · replace hf := (if_pos hk27).symm.trans hf
                  refine lv_tableIn (tgt := 193) (off := 170) hx hb d_P_doMainPage_23 (by rw [hk27]; decide) (by rw [hk27]; decide) (by rw [hk27]; rfl) (by decide) ?_
                  exact J193 v1 v2 s0 py po cb ga gb gd gc gx gy gu gs gp hf _ _ _ (lv_sub hl [1, 2, 3, 0] rfl) hP hD hS
                · replace hf := (if_neg hk27).symm.trans hf
                  by_cases hk28 : (v1 &&& (15 : Int32)) = (10 : Int32)
                  · replace hf := (if_pos hk28).symm.trans hf
                    refine lv_tableIn (tgt := 193) (off := 170) hx hb d_P_doMainPage_23 (by rw [hk28]; decide) (by rw [hk28]; decide) (by rw [hk28]; rfl) (by decide) ?_
                    exact J193 v1 v2 s0 py po cb ga gb gd gc gx gy gu gs gp hf _ _ _ (lv_sub hl [1, 2, 3, 0] rfl) hP hD hS
                  · replace hf := (if_neg hk28).symm.trans hf
                    by_cases hk29 : (v1 &&& (15 : Int32)) = (11 : Int32)
                    · replace hf := (if_pos hk29).symm.trans hf
                      refine lv_tableIn (tgt := 193) (off := 170) hx hb d_P_doMainPage_23 (by rw [hk29]; decide) (by rw [hk29]; decide) (by rw [hk29]; rfl) (by decide) ?_
                      exact J193 v1 v2 s0 py po cb ga gb gd gc gx gy gu gs gp hf _ _ _ (lv_sub hl [1, 2, 3, 0] rfl) hP hD hS
                    · replace hf := (if_neg hk29).symm.trans hf
                      by_cases hk30 : (v1 &&& (15 : Int32)) = (12 : Int32)
                      · replace hf := (if_pos hk30).symm.trans hf
                        refine lv_tableIn (tgt := 107) (off := 84) hx hb d_P_doMainPage_23 (by rw [hk30]; decide) (by rw [hk30]; decide) (by rw [hk30]; rfl) (by decide) ?_
                        refine lv_iload_n hx hb d_P_doMainPage_107 rfl (lv_at hl 0 rfl) ?_
                        refine lv_if_eq (tgt := 122) hx hb d_P_doMainPage_108 (by decide) (fun hc => ?_) (fun hc => ?_)
                        · replace hf := (if_pos hc).symm.trans hf
                          refine lv_aload_n hx hb d_P_doMainPage_122 rfl (lv_at hl 1 rfl) ?_
                          refine lv_iconst (v := (1 : Int32)) hx hb d_P_doMainPage_123 (by decide) ?_
                          refine lv_iconst (v := (1 : Int32)) hx hb d_P_doMainPage_124 (by decide) ?_
                          refine lv_iload_n hx hb d_P_doMainPage_125 rfl (lv_at hl 3 rfl) ?_
                          obtain ⟨z31, hz31, hf⟩ := op_b hf
                          refine cf_v (ws2 := (cp_ aY aB aG aP aC cI cT z31.1 z31.2.1 z31.2.2.1 z31.2.2.2.1 z31.2.2.2.2.1 z31.2.2.2.2.2.1 z31.2.2.2.2.2.2.1 z31.2.2.2.2.2.2.2.1 z31.2.2.2.2.2.2.2.2.1 z31.2.2.2.2.2.2.2.2.2.1 z31.2.2.2.2.2.2.2.2.2.2.1 z31.2.2.2.2.2.2.2.2.2.2.2)) X cx_P_88 hK hP hD hS hA hZ hl (c_tc_P_operate (aY := aY) (aB := aB) (aG := aG) (aP := aP) (aC := aC) (py := py) (po := po) (cb := cb) (ga := ga) (gb := gb) (gd := gd) (gc := gc) (gx := gx) (gy := gy) (gu := gu) (gs := gs) (gp := gp) hz31) ⟨rfl, rfl, Nat.le_of_ble_eq_true rfl, Nat.le_of_ble_eq_true rfl⟩ [0, 1, 2, 3, 4] [] [0, 1, 2, 3, 4] rfl rfl rfl rfl (by decide) rfl rfl 0 rfl rfl rfl rfl rfl (Nat.le_of_ble_eq_true rfl) d_P_doMainPage_126 (fun H locs hP hD hS => ?_)
                          refine lv_goto (tgt := 213) hx hb d_P_doMainPage_129 (by decide) ?_
                          have hq := Option.some.inj hf
                          subst hq
                          exact rt_v X hr hlk hK hP hD hS d_P_doMainPage_213
                        · replace hf := (if_neg hc).symm.trans hf
                          refine lv_aload_n hx hb d_P_doMainPage_111 rfl (lv_at hl 1 rfl) ?_
                          refine lv_bipush (v := (6 : Int32)) hx hb d_P_doMainPage_112 (by decide) ?_
                          refine lv_iconst (v := (0 : Int32)) hx hb d_P_doMainPage_114 (by decide) ?_
                          refine lv_iload_n hx hb d_P_doMainPage_115 rfl (lv_at hl 3 rfl) ?_
                          obtain ⟨z32, hz32, hf⟩ := op_b hf
                          refine cf_v (ws2 := (cp_ aY aB aG aP aC cI cT z32.1 z32.2.1 z32.2.2.1 z32.2.2.2.1 z32.2.2.2.2.1 z32.2.2.2.2.2.1 z32.2.2.2.2.2.2.1 z32.2.2.2.2.2.2.2.1 z32.2.2.2.2.2.2.2.2.1 z32.2.2.2.2.2.2.2.2.2.1 z32.2.2.2.2.2.2.2.2.2.2.1 z32.2.2.2.2.2.2.2.2.2.2.2)) X cx_P_88 hK hP hD hS hA hZ hl (c_tc_P_operate (aY := aY) (aB := aB) (aG := aG) (aP := aP) (aC := aC) (py := py) (po := po) (cb := cb) (ga := ga) (gb := gb) (gd := gd) (gc := gc) (gx := gx) (gy := gy) (gu := gu) (gs := gs) (gp := gp) hz32) ⟨rfl, rfl, Nat.le_of_ble_eq_true rfl, Nat.le_of_ble_eq_true rfl⟩ [0, 1, 2, 3, 4] [] [0, 1, 2, 3, 4] rfl rfl rfl rfl (by decide) rfl rfl 0 rfl rfl rfl rfl rfl (Nat.le_of_ble_eq_true rfl) d_P_doMainPage_116 (fun H locs hP hD hS => ?_)
                          refine lv_goto (tgt := 213) hx hb d_P_doMainPage_119 (by decide) ?_
                          have hq := Option.some.inj hf
                          subst hq
                          exact rt_v X hr hlk hK hP hD hS d_P_doMainPage_213
                      · replace hf := (if_neg hk30).symm.trans hf
                        by_cases hk33 : (v1 &&& (15 : Int32)) = (13 : Int32)
                        · replace hf := (if_pos hk33).symm.trans hf
                          refine lv_tableIn (tgt := 132) (off := 109) hx hb d_P_doMainPage_23 (by rw [hk33]; decide) (by rw [hk33]; decide) (by rw [hk33]; rfl) (by decide) ?_
                          refine lv_iload_n hx hb d_P_doMainPage_132 rfl (lv_at hl 0 rfl) ?_
                          refine lv_if_eq (tgt := 147) hx hb d_P_doMainPage_133 (by decide) (fun hc => ?_) (fun hc => ?_)
                          · replace hf := (if_pos hc).symm.trans hf
                            refine lv_aload_n hx hb d_P_doMainPage_147 rfl (lv_at hl 1 rfl) ?_
                            refine lv_iload_n hx hb d_P_doMainPage_148 rfl (lv_at hl 3 rfl) ?_
                            obtain ⟨z34, hz34, hf⟩ := op_b hf
                            refine cf_v (ws2 := (cp_ aY aB aG aP aC cI cT z34.1 z34.2.1 z34.2.2.1 z34.2.2.2.1 z34.2.2.2.2.1 z34.2.2.2.2.2.1 z34.2.2.2.2.2.2.1 z34.2.2.2.2.2.2.2.1 z34.2.2.2.2.2.2.2.2.1 z34.2.2.2.2.2.2.2.2.2.1 z34.2.2.2.2.2.2.2.2.2.2.1 z34.2.2.2.2.2.2.2.2.2.2.2)) X cx_P_91 hK hP hD hS hA hZ hl (c_tc_P_callAt (aY := aY) (aB := aB) (aG := aG) (aP := aP) (aC := aC) (py := py) (po := po) (cb := cb) (ga := ga) (gb := gb) (gd := gd) (gc := gc) (gx := gx) (gy := gy) (gu := gu) (gs := gs) (gp := gp) hz34) ⟨rfl, rfl, Nat.le_of_ble_eq_true rfl, Nat.le_of_ble_eq_true rfl⟩ [0, 1, 2, 3, 4] [] [0, 1, 2, 3, 4] rfl rfl rfl rfl (by decide) rfl rfl 0 rfl rfl rfl rfl rfl (Nat.le_of_ble_eq_true rfl) d_P_doMainPage_149 (fun H locs hP hD hS => ?_)
                            refine lv_goto (tgt := 213) hx hb d_P_doMainPage_152 (by decide) ?_
                            have hq := Option.some.inj hf
                            subst hq
                            exact rt_v X hr hlk hK hP hD hS d_P_doMainPage_213
                          · replace hf := (if_neg hc).symm.trans hf
                            refine lv_aload_n hx hb d_P_doMainPage_136 rfl (lv_at hl 1 rfl) ?_
                            refine lv_bipush (v := (7 : Int32)) hx hb d_P_doMainPage_137 (by decide) ?_
                            refine lv_iconst (v := (0 : Int32)) hx hb d_P_doMainPage_139 (by decide) ?_
                            refine lv_iload_n hx hb d_P_doMainPage_140 rfl (lv_at hl 3 rfl) ?_
                            obtain ⟨z35, hz35, hf⟩ := op_b hf
                            refine cf_v (ws2 := (cp_ aY aB aG aP aC cI cT z35.1 z35.2.1 z35.2.2.1 z35.2.2.2.1 z35.2.2.2.2.1 z35.2.2.2.2.2.1 z35.2.2.2.2.2.2.1 z35.2.2.2.2.2.2.2.1 z35.2.2.2.2.2.2.2.2.1 z35.2.2.2.2.2.2.2.2.2.1 z35.2.2.2.2.2.2.2.2.2.2.1 z35.2.2.2.2.2.2.2.2.2.2.2)) X cx_P_88 hK hP hD hS hA hZ hl (c_tc_P_operate (aY := aY) (aB := aB) (aG := aG) (aP := aP) (aC := aC) (py := py) (po := po) (cb := cb) (ga := ga) (gb := gb) (gd := gd) (gc := gc) (gx := gx) (gy := gy) (gu := gu) (gs := gs) (gp := gp) hz35) ⟨rfl, rfl, Nat.le_of_ble_eq_true rfl, Nat.le_of_ble_eq_true rfl⟩ [0, 1, 2, 3, 4] [] [0, 1, 2, 3, 4] rfl rfl rfl rfl (by decide) rfl rfl 0 rfl rfl rfl rfl rfl (Nat.le_of_ble_eq_true rfl) d_P_doMainPage_141 (fun H locs hP hD hS => ?_)
                            refine lv_goto (tgt := 213) hx hb d_P_doMainPage_144 (by decide) ?_
                            have hq := Option.some.inj hf
                            subst hq
                            exact rt_v X hr hlk hK hP hD hS d_P_doMainPage_213
                        · replace hf := (if_neg hk33).symm.trans hf
                          by_cases hk36 : (v1 &&& (15 : Int32)) = (14 : Int32)
                          · replace hf := (if_pos hk36).symm.trans hf
                            refine lv_tableIn (tgt := 155) (off := 132) hx hb d_P_doMainPage_23 (by rw [hk36]; decide) (by rw [hk36]; decide) (by rw [hk36]; rfl) (by decide) ?_
                            refine lv_aload_n hx hb d_P_doMainPage_155 rfl (lv_at hl 1 rfl) ?_
                            refine lv_bipush (v := (6 : Int32)) hx hb d_P_doMainPage_156 (by decide) ?_
                            refine lv_iload_n hx hb d_P_doMainPage_158 rfl (lv_at hl 0 rfl) ?_
                            refine lv_if_eq (tgt := 166) hx hb d_P_doMainPage_159 (by decide) (fun hc => ?_) (fun hc => ?_)
                            · replace hf := (if_pos hc).symm.trans hf
                              refine lv_iconst (v := (1 : Int32)) hx hb d_P_doMainPage_166 (by decide) ?_
                              exact J167 v2 (1 : Int32) py po cb ga gb gd gc gx gy gu gs gp hf _ _ _ (lv_sub hl [3] rfl) hP hD hS
                            · replace hf := (if_neg hc).symm.trans hf
                              refine lv_iconst (v := (3 : Int32)) hx hb d_P_doMainPage_162 (by decide) ?_
                              refine lv_goto (tgt := 167) hx hb d_P_doMainPage_163 (by decide) ?_
                              exact J167 v2 (3 : Int32) py po cb ga gb gd gc gx gy gu gs gp hf _ _ _ (lv_sub hl [3] rfl) hP hD hS
                          · replace hf := (if_neg hk36).symm.trans hf
                            by_cases hk37 : (v1 &&& (15 : Int32)) = (15 : Int32)
                            · replace hf := (if_pos hk37).symm.trans hf
                              refine lv_tableIn (tgt := 174) (off := 151) hx hb d_P_doMainPage_23 (by rw [hk37]; decide) (by rw [hk37]; decide) (by rw [hk37]; rfl) (by decide) ?_
                              refine lv_aload_n hx hb d_P_doMainPage_174 rfl (lv_at hl 1 rfl) ?_
                              refine lv_bipush (v := (7 : Int32)) hx hb d_P_doMainPage_175 (by decide) ?_
                              refine lv_iload_n hx hb d_P_doMainPage_177 rfl (lv_at hl 0 rfl) ?_
                              refine lv_if_eq (tgt := 185) hx hb d_P_doMainPage_178 (by decide) (fun hc => ?_) (fun hc => ?_)
                              · replace hf := (if_pos hc).symm.trans hf
                                refine lv_iconst (v := (1 : Int32)) hx hb d_P_doMainPage_185 (by decide) ?_
                                exact J186 v2 (1 : Int32) py po cb ga gb gd gc gx gy gu gs gp hf _ _ _ (lv_sub hl [3] rfl) hP hD hS
                              · replace hf := (if_neg hc).symm.trans hf
                                refine lv_iconst (v := (3 : Int32)) hx hb d_P_doMainPage_181 (by decide) ?_
                                refine lv_goto (tgt := 186) hx hb d_P_doMainPage_182 (by decide) ?_
                                exact J186 v2 (3 : Int32) py po cb ga gb gd gc gx gy gu gs gp hf _ _ _ (lv_sub hl [3] rfl) hP hD hS
                            · replace hf := (if_neg hk37).symm.trans hf
                              refine lv_tableOut (tgt := 193) hx hb d_P_doMainPage_23 (by have q0 := lv_neT hk21 (show Int32.toInt (3 : Int32) = 3 by decide); have q1 := lv_neT hk22 (show Int32.toInt (4 : Int32) = 4 by decide); have q2 := lv_neT hk23 (show Int32.toInt (5 : Int32) = 5 by decide); have q3 := lv_neT hk24 (show Int32.toInt (6 : Int32) = 6 by decide); have q4 := lv_neT hk25 (show Int32.toInt (7 : Int32) = 7 by decide); have q5 := lv_neT hk26 (show Int32.toInt (8 : Int32) = 8 by decide); have q6 := lv_neT hk27 (show Int32.toInt (9 : Int32) = 9 by decide); have q7 := lv_neT hk28 (show Int32.toInt (10 : Int32) = 10 by decide); have q8 := lv_neT hk29 (show Int32.toInt (11 : Int32) = 11 by decide); have q9 := lv_neT hk30 (show Int32.toInt (12 : Int32) = 12 by decide); have q10 := lv_neT hk33 (show Int32.toInt (13 : Int32) = 13 by decide); have q11 := lv_neT hk36 (show Int32.toInt (14 : Int32) = 14 by decide); have q12 := lv_neT hk37 (show Int32.toInt (15 : Int32) = 15 by decide); omega) (by decide) ?_
                              exact J193 v1 v2 s0 py po cb ga gb gd gc gx gy gu gs gp hf _ _ _ (lv_sub hl [1, 2, 3, 0] rfl) hP hD hS
  unfold tc_P_doMainPage at hf
  refine lv_iload_n hx hb d_P_doMainPage_0 rfl (lv_at hl 1 rfl) ?_
  refine lv_iconst (v := (4 : Int32)) hx hb d_P_doMainPage_1 (by decide) ?_
  refine lv_ishr hx hb d_P_doMainPage_2 ?_
  refine lv_iconst (v := (3 : Int32)) hx hb d_P_doMainPage_3 (by decide) ?_
  refine lv_iand hx hb d_P_doMainPage_4 ?_
  refine lv_istore_n hx hb d_P_doMainPage_5 rfl hl (by decide) rfl (fun ls hl => ?_)
  have hl : lv_has ls 4 [(2, .int ((x1 >>> ((4 : Int32) &&& 31)) &&& (3 : Int32))), (0, .ref aP), (1, .int x1)] := hl
  refine lv_iload_n hx hb d_P_doMainPage_6 rfl (lv_at hl 2 rfl) ?_
  refine lv_sipush (v := (192 : Int32)) hx hb d_P_doMainPage_7 (by decide) ?_
  refine lv_icmp_lt (tgt := 17) hx hb d_P_doMainPage_10 (by decide) (fun hc => ?_) (fun hc => ?_)
  · replace hf := (if_pos hc).symm.trans hf
    refine lv_iconst (v := (0 : Int32)) hx hb d_P_doMainPage_17 (by decide) ?_
    exact J18 x1 ((x1 >>> ((4 : Int32) &&& 31)) &&& (3 : Int32)) false py po cb ga gb gd gc gx gy gu gs gp hf _ _ _ (lv_sub hl [1, 2, 0] rfl) hP hD hS
  · replace hf := (if_neg hc).symm.trans hf
    refine lv_iconst (v := (1 : Int32)) hx hb d_P_doMainPage_13 (by decide) ?_
    refine lv_goto (tgt := 18) hx hb d_P_doMainPage_14 (by decide) ?_
    exact J18 x1 ((x1 >>> ((4 : Int32) &&& 31)) &&& (3 : Int32)) true py po cb ga gb gd gc gx gy gu gs gp hf _ _ _ (lv_sub hl [1, 2, 0] rfl) hP hD hS
set_option maxHeartbeats 4000000 in
set_option maxRecDepth 100000 in
theorem c_tc_P_execute  {z : Int32 × Int32 × Int32 × (Nat → Int32) × Int32 × Int32 × Int32 × Int32 × Int32 × Int32 × Int32 × Int32 × Int32} (hf : tc_P_execute py po cb ga gb gd gc gx gy gu gs gp = some z) : cs_i l my_P_execute mb_P_execute 2 .int rm_c_P_execute D (ty_ cI cT) [.ref aP] (cp_ aY aB aG aP aC cI cT py po cb ga gb gd gc gx gy gu gs gp) (cp_ aY aB aG aP aC cI cT z.2.1 z.2.2.1 z.2.2.2.1 z.2.2.2.2.1 z.2.2.2.2.2.1 z.2.2.2.2.2.2.1 z.2.2.2.2.2.2.2.1 z.2.2.2.2.2.2.2.2.1 z.2.2.2.2.2.2.2.2.2.1 z.2.2.2.2.2.2.2.2.2.2.1 z.2.2.2.2.2.2.2.2.2.2.2.1 z.2.2.2.2.2.2.2.2.2.2.2.2) z.1 := by
  refine cs_i_of (by decide) (Nat.le_of_ble_eq_true rfl) ?_
  intro p e s m below meth c A ls X hr hlk hK hP hD hS hA hZ hl
  have hx := X.1
  have hb := X.2.1
  have hl : lv_has ls 2 [(0, .ref aP)] := hl
  have J168 : ∀ (py : Int32) (po : Int32) (cb : Nat → Int32) (ga : Int32) (gb : Int32) (gd : Int32) (gc : Int32) (gx : Int32) (gy : Int32) (gu : Int32) (gs : Int32) (gp : Int32), tc_P_execute_j168 py po cb ga gb gd gc gx gy gu gs gp = some z → ∀ (H : Heap) (locs : List Loc) (ls : Array Slot), lv_has ls 2 [(0, .ref aP)] → va_P D cz_all (cp_ aY aB aG aP aC cI cT py po cb ga gb gd gc gx gy gu gs gp) H → va_D A (cp_ aY aB aG aP aC cI cT py po cb ga gb gd gc gx gy gu gs gp) → va_S A s.heap H locs → W p l e rm_c_P_execute s m ([.ref aP] : List Value).toArray below meth c H locs 0 0 (MQ below (qs_i D (ty_ cI cT) (cp_ aY aB aG aP aC cI cT z.2.1 z.2.2.1 z.2.2.2.1 z.2.2.2.2.1 z.2.2.2.2.2.1 z.2.2.2.2.2.2.1 z.2.2.2.2.2.2.2.1 z.2.2.2.2.2.2.2.2.1 z.2.2.2.2.2.2.2.2.2.1 z.2.2.2.2.2.2.2.2.2.2.1 z.2.2.2.2.2.2.2.2.2.2.2.1 z.2.2.2.2.2.2.2.2.2.2.2.2) z.1 A) ([.ref aP] : List Value).toArray s 0 0 A) (F0 m 168 ls []) := by
    intro py po cb ga gb gd gc gx gy gu gs gp hf H locs ls hl hP hD hS
    unfold tc_P_execute_j168 at hf
    refine lv_aload_n hx hb d_P_execute_168 rfl (lv_at hl 0 rfl) ?_
    refine cp_g_P_outcome_P X hK hP d_P_execute_169 ?_
    refine lv_bipush (v := (-2 : Int32)) hx hb d_P_execute_172 (by decide) ?_
    refine lv_icmp_ne (tgt := 182) hx hb d_P_execute_174 (by decide) (fun hc => ?_) (fun hc => ?_)
    · replace hf := (if_neg hc).symm.trans hf
      refine lv_aload_n hx hb d_P_execute_182 rfl (lv_at hl 0 rfl) ?_
      refine cp_g_P_outcome_P X hK hP d_P_execute_183 ?_
      have hq := Option.some.inj hf
      subst hq
      exact rt_i (r := po) X hr hlk hK rfl hP hD hS d_P_execute_186
    · replace hf := (if_pos hc).symm.trans hf
      refine lv_aload_n hx hb d_P_execute_177 rfl (lv_at hl 0 rfl) ?_
      refine lv_iconst (v := (1 : Int32)) hx hb d_P_execute_178 (by decide) ?_
      refine cp_p_P_cycles_P (x := (1 : Int32)) X hK hP hD hS d_P_execute_179 (fun H locs hP hD hS => ?_)
      refine lv_aload_n hx hb d_P_execute_182 rfl (lv_at hl 0 rfl) ?_
      refine cp_g_P_outcome_P X hK hP d_P_execute_183 ?_
      have hq := Option.some.inj hf
      subst hq
      exact rt_i (r := po) X hr hlk hK rfl hP hD hS d_P_execute_186
  have J147 : ∀ (v1 : Int32) (py : Int32) (po : Int32) (cb : Nat → Int32) (ga : Int32) (gb : Int32) (gd : Int32) (gc : Int32) (gx : Int32) (gy : Int32) (gu : Int32) (gs : Int32) (gp : Int32), tc_P_execute_j147 v1 py po cb ga gb gd gc gx gy gu gs gp = some z → ∀ (H : Heap) (locs : List Loc) (ls : Array Slot), lv_has ls 2 [(0, .ref aP), (1, .int v1)] → va_P D cz_all (cp_ aY aB aG aP aC cI cT py po cb ga gb gd gc gx gy gu gs gp) H → va_D A (cp_ aY aB aG aP aC cI cT py po cb ga gb gd gc gx gy gu gs gp) → va_S A s.heap H locs → W p l e rm_c_P_execute s m ([.ref aP] : List Value).toArray below meth c H locs 0 0 (MQ below (qs_i D (ty_ cI cT) (cp_ aY aB aG aP aC cI cT z.2.1 z.2.2.1 z.2.2.2.1 z.2.2.2.2.1 z.2.2.2.2.2.1 z.2.2.2.2.2.2.1 z.2.2.2.2.2.2.2.1 z.2.2.2.2.2.2.2.2.1 z.2.2.2.2.2.2.2.2.2.1 z.2.2.2.2.2.2.2.2.2.2.1 z.2.2.2.2.2.2.2.2.2.2.2.1 z.2.2.2.2.2.2.2.2.2.2.2.2) z.1 A) ([.ref aP] : List Value).toArray s 0 0 A) (F0 m 147 ls []) := by
    intro v1 py po cb ga gb gd gc gx gy gu gs gp hf H locs ls hl hP hD hS
    unfold tc_P_execute_j147 at hf
    refine lv_aload_n hx hb d_P_execute_147 rfl (lv_at hl 0 rfl) ?_
    refine lv_iload_n hx hb d_P_execute_148 rfl (lv_at hl 1 rfl) ?_
    refine lv_bipush (v := (15 : Int32)) hx hb d_P_execute_149 (by decide) ?_
    refine lv_iand hx hb d_P_execute_151 ?_
    refine lv_iload_n hx hb d_P_execute_152 rfl (lv_at hl 1 rfl) ?_
    refine lv_iconst (v := (4 : Int32)) hx hb d_P_execute_153 (by decide) ?_
    refine lv_ishr hx hb d_P_execute_154 ?_
    refine lv_iconst (v := (3 : Int32)) hx hb d_P_execute_155 (by decide) ?_
    refine lv_iand hx hb d_P_execute_156 ?_
    obtain ⟨z12, hz12, hf⟩ := op_b hf
    refine cf_v (ws2 := (cp_ aY aB aG aP aC cI cT z12.1 z12.2.1 z12.2.2.1 z12.2.2.2.1 z12.2.2.2.2.1 z12.2.2.2.2.2.1 z12.2.2.2.2.2.2.1 z12.2.2.2.2.2.2.2.1 z12.2.2.2.2.2.2.2.2.1 z12.2.2.2.2.2.2.2.2.2.1 z12.2.2.2.2.2.2.2.2.2.2.1 z12.2.2.2.2.2.2.2.2.2.2.2)) X cx_P_39 hK hP hD hS hA hZ hl (c_tc_P_changeMemory (aY := aY) (aB := aB) (aG := aG) (aP := aP) (aC := aC) (py := py) (po := po) (cb := cb) (ga := ga) (gb := gb) (gd := gd) (gc := gc) (gx := gx) (gy := gy) (gu := gu) (gs := gs) (gp := gp) hz12) ⟨rfl, rfl, Nat.le_of_ble_eq_true rfl, Nat.le_of_ble_eq_true rfl⟩ [0, 1, 2, 3, 4] [] [0, 1, 2, 3, 4] rfl rfl rfl rfl (by decide) rfl rfl 0 rfl rfl rfl rfl rfl (Nat.le_of_ble_eq_true rfl) d_P_execute_157 (fun H locs hP hD hS => ?_)
    refine lv_goto (tgt := 168) hx hb d_P_execute_160 (by decide) ?_
    exact J168 z12.1 z12.2.1 z12.2.2.1 z12.2.2.2.1 z12.2.2.2.2.1 z12.2.2.2.2.2.1 z12.2.2.2.2.2.2.1 z12.2.2.2.2.2.2.2.1 z12.2.2.2.2.2.2.2.2.1 z12.2.2.2.2.2.2.2.2.2.1 z12.2.2.2.2.2.2.2.2.2.2.1 z12.2.2.2.2.2.2.2.2.2.2.2 hf _ _ _ (lv_sub hl [0] rfl) hP hD hS
  unfold tc_P_execute at hf
  refine lv_aload_n hx hb d_P_execute_0 rfl (lv_at hl 0 rfl) ?_
  refine lv_iconst (v := (0 : Int32)) hx hb d_P_execute_1 (by decide) ?_
  refine cp_p_P_cycles_P (x := (0 : Int32)) X hK hP hD hS d_P_execute_2 (fun H locs hP hD hS => ?_)
  refine lv_aload_n hx hb d_P_execute_5 rfl (lv_at hl 0 rfl) ?_
  refine lv_iconst (v := (-1 : Int32)) hx hb d_P_execute_6 (by decide) ?_
  refine cp_p_P_outcome_P (x := (-1 : Int32)) X hK hP hD hS d_P_execute_7 (fun H locs hP hD hS => ?_)
  refine lv_aload_n hx hb d_P_execute_10 rfl (lv_at hl 0 rfl) ?_
  refine lv_iconst (v := (1 : Int32)) hx hb d_P_execute_11 (by decide) ?_
  obtain ⟨z13, hz13, hf⟩ := op_b hf
  refine cf_i (ws2 := (cp_ aY aB aG aP aC cI cT z13.2.1 (-1 : Int32) cb ga gb gd gc gx gy gu gs z13.2.2)) X cx_P_35 hK hP hD hS hA hZ hl (c_tc_P_fetch (aY := aY) (aB := aB) (aG := aG) (aP := aP) (aC := aC) (py := (0 : Int32)) (po := (-1 : Int32)) (cb := cb) (ga := ga) (gb := gb) (gd := gd) (gc := gc) (gx := gx) (gy := gy) (gu := gu) (gs := gs) (gp := gp) hz13) ⟨rfl, rfl, Nat.le_of_ble_eq_true rfl, Nat.le_of_ble_eq_true rfl⟩ [0, 1, 2, 3, 4] [] [0, 1, 2, 3, 4] rfl rfl rfl rfl (by decide) rfl rfl 0 rfl rfl rfl rfl rfl (Nat.le_of_ble_eq_true rfl) d_P_execute_12 (fun H locs hP hD hS => ?_)
  refine lv_istore_n hx hb d_P_execute_15 rfl hl (by decide) rfl (fun ls hl => ?_)
  have hl : lv_has ls 2 [(1, .int z13.1), (0, .ref aP)] := hl
  refine lv_iload_n hx hb d_P_execute_16 rfl (lv_at hl 0 rfl) ?_
  refine lv_iconst (v := (4 : Int32)) hx hb d_P_execute_17 (by decide) ?_
  refine lv_ishr hx hb d_P_execute_18 ?_
  by_cases hk14 : (z13.1 >>> ((4 : Int32) &&& 31)) = (0 : Int32)
  · replace hf := (if_pos hk14).symm.trans hf
    refine lv_tableIn (tgt := 64) (off := 45) hx hb d_P_execute_19 (by rw [hk14]; decide) (by rw [hk14]; decide) (by rw [hk14]; rfl) (by decide) ?_
    refine lv_aload_n hx hb d_P_execute_64 rfl (lv_at hl 1 rfl) ?_
    refine lv_iload_n hx hb d_P_execute_65 rfl (lv_at hl 0 rfl) ?_
    refine lv_bipush (v := (15 : Int32)) hx hb d_P_execute_66 (by decide) ?_
    refine lv_iand hx hb d_P_execute_68 ?_
    refine lv_iconst (v := (1 : Int32)) hx hb d_P_execute_69 (by decide) ?_
    obtain ⟨z15, hz15, hf⟩ := op_b hf
    refine cf_v (ws2 := (cp_ aY aB aG aP aC cI cT z15.1 z15.2.1 z15.2.2.1 z15.2.2.2.1 z15.2.2.2.2.1 z15.2.2.2.2.2.1 z15.2.2.2.2.2.2.1 z15.2.2.2.2.2.2.2.1 z15.2.2.2.2.2.2.2.2.1 z15.2.2.2.2.2.2.2.2.2.1 z15.2.2.2.2.2.2.2.2.2.2.1 z15.2.2.2.2.2.2.2.2.2.2.2)) X cx_P_39 hK hP hD hS hA hZ hl (c_tc_P_changeMemory (aY := aY) (aB := aB) (aG := aG) (aP := aP) (aC := aC) (py := z13.2.1) (po := (-1 : Int32)) (cb := cb) (ga := ga) (gb := gb) (gd := gd) (gc := gc) (gx := gx) (gy := gy) (gu := gu) (gs := gs) (gp := z13.2.2) hz15) ⟨rfl, rfl, Nat.le_of_ble_eq_true rfl, Nat.le_of_ble_eq_true rfl⟩ [0, 1, 2, 3, 4] [] [0, 1, 2, 3, 4] rfl rfl rfl rfl (by decide) rfl rfl 0 rfl rfl rfl rfl rfl (Nat.le_of_ble_eq_true rfl) d_P_execute_70 (fun H locs hP hD hS => ?_)
    refine lv_goto (tgt := 168) hx hb d_P_execute_73 (by decide) ?_
    exact J168 z15.1 z15.2.1 z15.2.2.1 z15.2.2.2.1 z15.2.2.2.2.1 z15.2.2.2.2.2.1 z15.2.2.2.2.2.2.1 z15.2.2.2.2.2.2.2.1 z15.2.2.2.2.2.2.2.2.1 z15.2.2.2.2.2.2.2.2.2.1 z15.2.2.2.2.2.2.2.2.2.2.1 z15.2.2.2.2.2.2.2.2.2.2.2 hf _ _ _ (lv_sub hl [1] rfl) hP hD hS
  · replace hf := (if_neg hk14).symm.trans hf
    by_cases hk16 : (z13.1 >>> ((4 : Int32) &&& 31)) = (1 : Int32)
    · replace hf := (if_pos hk16).symm.trans hf
      refine lv_tableIn (tgt := 76) (off := 57) hx hb d_P_execute_19 (by rw [hk16]; decide) (by rw [hk16]; decide) (by rw [hk16]; rfl) (by decide) ?_
      refine lv_iload_n hx hb d_P_execute_76 rfl (lv_at hl 0 rfl) ?_
      refine lv_bipush (v := (16 : Int32)) hx hb d_P_execute_77 (by decide) ?_
      refine lv_icmp_ne (tgt := 94) hx hb d_P_execute_79 (by decide) (fun hc => ?_) (fun hc => ?_)
      · replace hf := (if_neg hc).symm.trans hf
        refine lv_aload_n hx hb d_P_execute_94 rfl (lv_at hl 1 rfl) ?_
        refine lv_iload_n hx hb d_P_execute_95 rfl (lv_at hl 0 rfl) ?_
        obtain ⟨z17, hz17, hf⟩ := op_b hf
        refine cf_v (ws2 := (cp_ aY aB aG aP aC cI cT z17.1 z17.2.1 cb z17.2.2.1 z17.2.2.2.1 z17.2.2.2.2.1 z17.2.2.2.2.2.1 z17.2.2.2.2.2.2.1 z17.2.2.2.2.2.2.2.1 z17.2.2.2.2.2.2.2.2.1 z17.2.2.2.2.2.2.2.2.2.1 z17.2.2.2.2.2.2.2.2.2.2)) X cx_P_47 hK hP hD hS hA hZ hl (c_tc_P_doGroup1 (aY := aY) (aB := aB) (aG := aG) (aP := aP) (aC := aC) (py := z13.2.1) (po := (-1 : Int32)) (cb := cb) (ga := ga) (gb := gb) (gd := gd) (gc := gc) (gx := gx) (gy := gy) (gu := gu) (gs := gs) (gp := z13.2.2) hz17) ⟨rfl, rfl, Nat.le_of_ble_eq_true rfl, Nat.le_of_ble_eq_true rfl⟩ [0, 1, 2, 3, 4] [] [0, 1, 2, 3, 4] rfl rfl rfl rfl (by decide) rfl rfl 0 rfl rfl rfl rfl rfl (Nat.le_of_ble_eq_true rfl) d_P_execute_96 (fun H locs hP hD hS => ?_)
        refine lv_goto (tgt := 168) hx hb d_P_execute_99 (by decide) ?_
        exact J168 z17.1 z17.2.1 cb z17.2.2.1 z17.2.2.2.1 z17.2.2.2.2.1 z17.2.2.2.2.2.1 z17.2.2.2.2.2.2.1 z17.2.2.2.2.2.2.2.1 z17.2.2.2.2.2.2.2.2.1 z17.2.2.2.2.2.2.2.2.2.1 z17.2.2.2.2.2.2.2.2.2.2 hf _ _ _ (lv_sub hl [1] rfl) hP hD hS
      · replace hf := (if_pos hc).symm.trans hf
        refine lv_aload_n hx hb d_P_execute_82 rfl (lv_at hl 1 rfl) ?_
        refine lv_aload_n hx hb d_P_execute_83 rfl (lv_at hl 1 rfl) ?_
        refine lv_iconst (v := (1 : Int32)) hx hb d_P_execute_84 (by decide) ?_
        obtain ⟨z18, hz18, hf⟩ := op_b hf
        refine cf_i (ws2 := (cp_ aY aB aG aP aC cI cT z18.2.1 (-1 : Int32) cb ga gb gd gc gx gy gu gs z18.2.2)) X cx_P_35 hK hP hD hS hA hZ hl (c_tc_P_fetch (aY := aY) (aB := aB) (aG := aG) (aP := aP) (aC := aC) (py := z13.2.1) (po := (-1 : Int32)) (cb := cb) (ga := ga) (gb := gb) (gd := gd) (gc := gc) (gx := gx) (gy := gy) (gu := gu) (gs := gs) (gp := z13.2.2) hz18) ⟨rfl, rfl, Nat.le_of_ble_eq_true rfl, Nat.le_of_ble_eq_true rfl⟩ [0, 1, 2, 3, 4] [] [0, 1, 2, 3, 4] rfl rfl rfl rfl (by decide) rfl rfl 0 rfl rfl rfl rfl rfl (Nat.le_of_ble_eq_true rfl) d_P_execute_85 (fun H locs hP hD hS => ?_)
        obtain ⟨z19, hz19, hf⟩ := op_b hf
        refine cf_v (ws2 := (cp_ aY aB aG aP aC cI cT z19.1 z19.2.1 z19.2.2.1 z19.2.2.2.1 z19.2.2.2.2.1 z19.2.2.2.2.2.1 z19.2.2.2.2.2.2.1 z19.2.2.2.2.2.2.2.1 z19.2.2.2.2.2.2.2.2.1 z19.2.2.2.2.2.2.2.2.2.1 z19.2.2.2.2.2.2.2.2.2.2.1 z19.2.2.2.2.2.2.2.2.2.2.2)) X cx_P_43 hK hP hD hS hA hZ hl (c_tc_P_doSecondPage (aY := aY) (aB := aB) (aG := aG) (aP := aP) (aC := aC) (py := z18.2.1) (po := (-1 : Int32)) (cb := cb) (ga := ga) (gb := gb) (gd := gd) (gc := gc) (gx := gx) (gy := gy) (gu := gu) (gs := gs) (gp := z18.2.2) hz19) ⟨rfl, rfl, Nat.le_of_ble_eq_true rfl, Nat.le_of_ble_eq_true rfl⟩ [0, 1, 2, 3, 4] [] [0, 1, 2, 3, 4] rfl rfl rfl rfl (by decide) rfl rfl 0 rfl rfl rfl rfl rfl (Nat.le_of_ble_eq_true rfl) d_P_execute_88 (fun H locs hP hD hS => ?_)
        refine lv_goto (tgt := 168) hx hb d_P_execute_91 (by decide) ?_
        exact J168 z19.1 z19.2.1 z19.2.2.1 z19.2.2.2.1 z19.2.2.2.2.1 z19.2.2.2.2.2.1 z19.2.2.2.2.2.2.1 z19.2.2.2.2.2.2.2.1 z19.2.2.2.2.2.2.2.2.1 z19.2.2.2.2.2.2.2.2.2.1 z19.2.2.2.2.2.2.2.2.2.2.1 z19.2.2.2.2.2.2.2.2.2.2.2 hf _ _ _ (lv_sub hl [1] rfl) hP hD hS
    · replace hf := (if_neg hk16).symm.trans hf
      by_cases hk20 : (z13.1 >>> ((4 : Int32) &&& 31)) = (2 : Int32)
      · replace hf := (if_pos hk20).symm.trans hf
        refine lv_tableIn (tgt := 102) (off := 83) hx hb d_P_execute_19 (by rw [hk20]; decide) (by rw [hk20]; decide) (by rw [hk20]; rfl) (by decide) ?_
        refine lv_aload_n hx hb d_P_execute_102 rfl (lv_at hl 1 rfl) ?_
        refine lv_iload_n hx hb d_P_execute_103 rfl (lv_at hl 0 rfl) ?_
        refine lv_bipush (v := (15 : Int32)) hx hb d_P_execute_104 (by decide) ?_
        refine lv_iand hx hb d_P_execute_106 ?_
        obtain ⟨z21, hz21, hf⟩ := op_b hf
        refine cf_v (ws2 := (cp_ aY aB aG aP aC cI cT z21.1 (-1 : Int32) cb ga gb gd gc gx gy gu gs z21.2)) X cx_P_50 hK hP hD hS hA hZ hl (c_tc_P_branch (aY := aY) (aB := aB) (aG := aG) (aP := aP) (aC := aC) (py := z13.2.1) (po := (-1 : Int32)) (cb := cb) (ga := ga) (gb := gb) (gd := gd) (gc := gc) (gx := gx) (gy := gy) (gu := gu) (gs := gs) (gp := z13.2.2) hz21) ⟨rfl, rfl, Nat.le_of_ble_eq_true rfl, Nat.le_of_ble_eq_true rfl⟩ [0, 1, 2, 3, 4] [] [0, 1, 2, 3, 4] rfl rfl rfl rfl (by decide) rfl rfl 0 rfl rfl rfl rfl rfl (Nat.le_of_ble_eq_true rfl) d_P_execute_107 (fun H locs hP hD hS => ?_)
        refine lv_goto (tgt := 168) hx hb d_P_execute_110 (by decide) ?_
        exact J168 z21.1 (-1 : Int32) cb ga gb gd gc gx gy gu gs z21.2 hf _ _ _ (lv_sub hl [1] rfl) hP hD hS
      · replace hf := (if_neg hk20).symm.trans hf
        by_cases hk22 : (z13.1 >>> ((4 : Int32) &&& 31)) = (3 : Int32)
        · replace hf := (if_pos hk22).symm.trans hf
          refine lv_tableIn (tgt := 113) (off := 94) hx hb d_P_execute_19 (by rw [hk22]; decide) (by rw [hk22]; decide) (by rw [hk22]; rfl) (by decide) ?_
          refine lv_aload_n hx hb d_P_execute_113 rfl (lv_at hl 1 rfl) ?_
          refine lv_iload_n hx hb d_P_execute_114 rfl (lv_at hl 0 rfl) ?_
          obtain ⟨z23, hz23, hf⟩ := op_b hf
          refine cf_v (ws2 := (cp_ aY aB aG aP aC cI cT z23.1 z23.2.1 z23.2.2.1 z23.2.2.2.1 z23.2.2.2.2.1 z23.2.2.2.2.2.1 z23.2.2.2.2.2.2.1 z23.2.2.2.2.2.2.2.1 z23.2.2.2.2.2.2.2.2.1 z23.2.2.2.2.2.2.2.2.2.1 z23.2.2.2.2.2.2.2.2.2.2.1 z23.2.2.2.2.2.2.2.2.2.2.2)) X cx_P_53 hK hP hD hS hA hZ hl (c_tc_P_doGroup3 (aY := aY) (aB := aB) (aG := aG) (aP := aP) (aC := aC) (py := z13.2.1) (po := (-1 : Int32)) (cb := cb) (ga := ga) (gb := gb) (gd := gd) (gc := gc) (gx := gx) (gy := gy) (gu := gu) (gs := gs) (gp := z13.2.2) hz23) ⟨rfl, rfl, Nat.le_of_ble_eq_true rfl, Nat.le_of_ble_eq_true rfl⟩ [0, 1, 2, 3, 4] [] [0, 1, 2, 3, 4] rfl rfl rfl rfl (by decide) rfl rfl 0 rfl rfl rfl rfl rfl (Nat.le_of_ble_eq_true rfl) d_P_execute_115 (fun H locs hP hD hS => ?_)
          refine lv_goto (tgt := 168) hx hb d_P_execute_118 (by decide) ?_
          exact J168 z23.1 z23.2.1 z23.2.2.1 z23.2.2.2.1 z23.2.2.2.2.1 z23.2.2.2.2.2.1 z23.2.2.2.2.2.2.1 z23.2.2.2.2.2.2.2.1 z23.2.2.2.2.2.2.2.2.1 z23.2.2.2.2.2.2.2.2.2.1 z23.2.2.2.2.2.2.2.2.2.2.1 z23.2.2.2.2.2.2.2.2.2.2.2 hf _ _ _ (lv_sub hl [1] rfl) hP hD hS
        · replace hf := (if_neg hk22).symm.trans hf
          by_cases hk24 : (z13.1 >>> ((4 : Int32) &&& 31)) = (4 : Int32)
          · replace hf := (if_pos hk24).symm.trans hf
            refine lv_tableIn (tgt := 121) (off := 102) hx hb d_P_execute_19 (by rw [hk24]; decide) (by rw [hk24]; decide) (by rw [hk24]; rfl) (by decide) ?_
            refine lv_aload_n hx hb d_P_execute_121 rfl (lv_at hl 1 rfl) ?_
            refine lv_iload_n hx hb d_P_execute_122 rfl (lv_at hl 0 rfl) ?_
            refine lv_bipush (v := (15 : Int32)) hx hb d_P_execute_123 (by decide) ?_
            refine lv_iand hx hb d_P_execute_125 ?_
            refine lv_bipush (v := (8 : Int32)) hx hb d_P_execute_126 (by decide) ?_
            obtain ⟨z25, hz25, hf⟩ := op_b hf
            refine cf_v (ws2 := (cp_ aY aB aG aP aC cI cT z13.2.1 z25.1 cb z25.2.1 z25.2.2.1 z25.2.2.2.1 z25.2.2.2.2.1 z25.2.2.2.2.2.1 z25.2.2.2.2.2.2.1 z25.2.2.2.2.2.2.2.1 z25.2.2.2.2.2.2.2.2.1 z25.2.2.2.2.2.2.2.2.2)) X cx_P_58 hK hP hD hS hA hZ hl (c_tc_P_changeRegister (aY := aY) (aB := aB) (aG := aG) (aP := aP) (aC := aC) (py := z13.2.1) (po := (-1 : Int32)) (cb := cb) (ga := ga) (gb := gb) (gd := gd) (gc := gc) (gx := gx) (gy := gy) (gu := gu) (gs := gs) (gp := z13.2.2) hz25) ⟨rfl, rfl, Nat.le_of_ble_eq_true rfl, Nat.le_of_ble_eq_true rfl⟩ [0, 1, 2, 3, 4] [] [0, 1, 2, 3, 4] rfl rfl rfl rfl (by decide) rfl rfl 0 rfl rfl rfl rfl rfl (Nat.le_of_ble_eq_true rfl) d_P_execute_128 (fun H locs hP hD hS => ?_)
            refine lv_goto (tgt := 168) hx hb d_P_execute_131 (by decide) ?_
            exact J168 z13.2.1 z25.1 cb z25.2.1 z25.2.2.1 z25.2.2.2.1 z25.2.2.2.2.1 z25.2.2.2.2.2.1 z25.2.2.2.2.2.2.1 z25.2.2.2.2.2.2.2.1 z25.2.2.2.2.2.2.2.2.1 z25.2.2.2.2.2.2.2.2.2 hf _ _ _ (lv_sub hl [1] rfl) hP hD hS
          · replace hf := (if_neg hk24).symm.trans hf
            by_cases hk26 : (z13.1 >>> ((4 : Int32) &&& 31)) = (5 : Int32)
            · replace hf := (if_pos hk26).symm.trans hf
              refine lv_tableIn (tgt := 134) (off := 115) hx hb d_P_execute_19 (by rw [hk26]; decide) (by rw [hk26]; decide) (by rw [hk26]; rfl) (by decide) ?_
              refine lv_aload_n hx hb d_P_execute_134 rfl (lv_at hl 1 rfl) ?_
              refine lv_iload_n hx hb d_P_execute_135 rfl (lv_at hl 0 rfl) ?_
              refine lv_bipush (v := (15 : Int32)) hx hb d_P_execute_136 (by decide) ?_
              refine lv_iand hx hb d_P_execute_138 ?_
              refine lv_bipush (v := (9 : Int32)) hx hb d_P_execute_139 (by decide) ?_
              obtain ⟨z27, hz27, hf⟩ := op_b hf
              refine cf_v (ws2 := (cp_ aY aB aG aP aC cI cT z13.2.1 z27.1 cb z27.2.1 z27.2.2.1 z27.2.2.2.1 z27.2.2.2.2.1 z27.2.2.2.2.2.1 z27.2.2.2.2.2.2.1 z27.2.2.2.2.2.2.2.1 z27.2.2.2.2.2.2.2.2.1 z27.2.2.2.2.2.2.2.2.2)) X cx_P_58 hK hP hD hS hA hZ hl (c_tc_P_changeRegister (aY := aY) (aB := aB) (aG := aG) (aP := aP) (aC := aC) (py := z13.2.1) (po := (-1 : Int32)) (cb := cb) (ga := ga) (gb := gb) (gd := gd) (gc := gc) (gx := gx) (gy := gy) (gu := gu) (gs := gs) (gp := z13.2.2) hz27) ⟨rfl, rfl, Nat.le_of_ble_eq_true rfl, Nat.le_of_ble_eq_true rfl⟩ [0, 1, 2, 3, 4] [] [0, 1, 2, 3, 4] rfl rfl rfl rfl (by decide) rfl rfl 0 rfl rfl rfl rfl rfl (Nat.le_of_ble_eq_true rfl) d_P_execute_141 (fun H locs hP hD hS => ?_)
              refine lv_goto (tgt := 168) hx hb d_P_execute_144 (by decide) ?_
              exact J168 z13.2.1 z27.1 cb z27.2.1 z27.2.2.1 z27.2.2.2.1 z27.2.2.2.2.1 z27.2.2.2.2.2.1 z27.2.2.2.2.2.2.1 z27.2.2.2.2.2.2.2.1 z27.2.2.2.2.2.2.2.2.1 z27.2.2.2.2.2.2.2.2.2 hf _ _ _ (lv_sub hl [1] rfl) hP hD hS
            · replace hf := (if_neg hk26).symm.trans hf
              by_cases hk28 : (z13.1 >>> ((4 : Int32) &&& 31)) = (6 : Int32)
              · replace hf := (if_pos hk28).symm.trans hf
                refine lv_tableIn (tgt := 147) (off := 128) hx hb d_P_execute_19 (by rw [hk28]; decide) (by rw [hk28]; decide) (by rw [hk28]; rfl) (by decide) ?_
                exact J147 z13.1 z13.2.1 (-1 : Int32) cb ga gb gd gc gx gy gu gs z13.2.2 hf _ _ _ (lv_sub hl [1, 0] rfl) hP hD hS
              · replace hf := (if_neg hk28).symm.trans hf
                by_cases hk29 : (z13.1 >>> ((4 : Int32) &&& 31)) = (7 : Int32)
                · replace hf := (if_pos hk29).symm.trans hf
                  refine lv_tableIn (tgt := 147) (off := 128) hx hb d_P_execute_19 (by rw [hk29]; decide) (by rw [hk29]; decide) (by rw [hk29]; rfl) (by decide) ?_
                  exact J147 z13.1 z13.2.1 (-1 : Int32) cb ga gb gd gc gx gy gu gs z13.2.2 hf _ _ _ (lv_sub hl [1, 0] rfl) hP hD hS
                · replace hf := (if_neg hk29).symm.trans hf
                  refine lv_tableOut (tgt := 163) hx hb d_P_execute_19 (by have q0 := lv_neT hk14 (show Int32.toInt (0 : Int32) = 0 by decide); have q1 := lv_neT hk16 (show Int32.toInt (1 : Int32) = 1 by decide); have q2 := lv_neT hk20 (show Int32.toInt (2 : Int32) = 2 by decide); have q3 := lv_neT hk22 (show Int32.toInt (3 : Int32) = 3 by decide); have q4 := lv_neT hk24 (show Int32.toInt (4 : Int32) = 4 by decide); have q5 := lv_neT hk26 (show Int32.toInt (5 : Int32) = 5 by decide); have q6 := lv_neT hk28 (show Int32.toInt (6 : Int32) = 6 by decide); have q7 := lv_neT hk29 (show Int32.toInt (7 : Int32) = 7 by decide); omega) (by decide) ?_
                  refine lv_aload_n hx hb d_P_execute_163 rfl (lv_at hl 1 rfl) ?_
                  refine lv_iload_n hx hb d_P_execute_164 rfl (lv_at hl 0 rfl) ?_
                  obtain ⟨z30, hz30, hf⟩ := op_b hf
                  refine cf_v (ws2 := (cp_ aY aB aG aP aC cI cT z30.1 z30.2.1 z30.2.2.1 z30.2.2.2.1 z30.2.2.2.2.1 z30.2.2.2.2.2.1 z30.2.2.2.2.2.2.1 z30.2.2.2.2.2.2.2.1 z30.2.2.2.2.2.2.2.2.1 z30.2.2.2.2.2.2.2.2.2.1 z30.2.2.2.2.2.2.2.2.2.2.1 z30.2.2.2.2.2.2.2.2.2.2.2)) X cx_P_61 hK hP hD hS hA hZ hl (c_tc_P_doMainPage (aY := aY) (aB := aB) (aG := aG) (aP := aP) (aC := aC) (py := z13.2.1) (po := (-1 : Int32)) (cb := cb) (ga := ga) (gb := gb) (gd := gd) (gc := gc) (gx := gx) (gy := gy) (gu := gu) (gs := gs) (gp := z13.2.2) hz30) ⟨rfl, rfl, Nat.le_of_ble_eq_true rfl, Nat.le_of_ble_eq_true rfl⟩ [0, 1, 2, 3, 4] [] [0, 1, 2, 3, 4] rfl rfl rfl rfl (by decide) rfl rfl 0 rfl rfl rfl rfl rfl (Nat.le_of_ble_eq_true rfl) d_P_execute_165 (fun H locs hP hD hS => ?_)
                  exact J168 z30.1 z30.2.1 z30.2.2.1 z30.2.2.2.1 z30.2.2.2.2.1 z30.2.2.2.2.2.1 z30.2.2.2.2.2.2.1 z30.2.2.2.2.2.2.2.1 z30.2.2.2.2.2.2.2.2.1 z30.2.2.2.2.2.2.2.2.2.1 z30.2.2.2.2.2.2.2.2.2.2.1 z30.2.2.2.2.2.2.2.2.2.2.2 hf _ _ _ (lv_sub hl [1] rfl) hP hD hS
set_option maxHeartbeats 4000000 in
set_option maxRecDepth 100000 in
theorem c_tc_Q_numberAt {x1 : Int32} {z : Int32} (hf : tc_Q_numberAt x1 uz ul = some z) : cs_i l my_Q_numberAt mb_Q_numberAt 2 .int rm_c_Q_numberAt D (ty_ cI cT) [.ref aQ, .int x1] (cq_ aQ aL tk cI cT uz ul ks kv kz ku) (cq_ aQ aL tk cI cT uz ul ks kv kz ku) z := by
  refine cs_i_of (by decide) (Nat.le_of_ble_eq_true rfl) ?_
  intro p e s m below meth c A ls X hr hlk hK hP hD hS hA hZ hl
  have hx := X.1
  have hb := X.2.1
  have hl : lv_has ls 2 [(0, .ref aQ), (1, .int x1)] := hl
  unfold tc_Q_numberAt at hf
  refine lv_iload_n hx hb d_Q_numberAt_0 rfl (lv_at hl 1 rfl) ?_
  refine lv_if_lt (tgt := 24) hx hb d_Q_numberAt_1 (by decide) (fun hc => ?_) (fun hc => ?_)
  · replace hf := (if_pos hc).symm.trans hf
    refine lv_iconst (v := (-1 : Int32)) hx hb d_Q_numberAt_24 (by decide) ?_
    have hq := Option.some.inj hf
    subst hq
    exact rt_i (r := (-1 : Int32)) X hr hlk hK rfl hP hD hS d_Q_numberAt_25
  · replace hf := (if_neg hc).symm.trans hf
    refine lv_iload_n hx hb d_Q_numberAt_4 rfl (lv_at hl 1 rfl) ?_
    refine lv_aload_n hx hb d_Q_numberAt_5 rfl (lv_at hl 0 rfl) ?_
    refine cq_g_Q_size_Q X hK hP d_Q_numberAt_6 ?_
    refine lv_icmp_ge (tgt := 24) hx hb d_Q_numberAt_9 (by decide) (fun hc => ?_) (fun hc => ?_)
    · replace hf := (if_pos hc).symm.trans hf
      refine lv_iconst (v := (-1 : Int32)) hx hb d_Q_numberAt_24 (by decide) ?_
      have hq := Option.some.inj hf
      subst hq
      exact rt_i (r := (-1 : Int32)) X hr hlk hK rfl hP hD hS d_Q_numberAt_25
    · replace hf := (if_neg hc).symm.trans hf
      refine lv_aload_n hx hb d_Q_numberAt_12 rfl (lv_at hl 0 rfl) ?_
      refine cq_g_Q_places_Q X hK hP d_Q_numberAt_13 ?_
      refine lv_iload_n hx hb d_Q_numberAt_16 rfl (lv_at hl 1 rfl) ?_
      obtain ⟨hi5, hf⟩ := op_c hf
      refine cq_a_L (k := (x1.toNatClampNeg)) X hK hP hi5 rfl d_Q_numberAt_17 ?_
      obtain ⟨i6, ho7, hf⟩ := op_f hf
      rw [show va_rf (Option.map tk (ul (x1.toNatClampNeg))) = Value.ref (tk i6) from by rw [ho7]; rfl]
      obtain ⟨ht8, hf⟩ := op_t hf
      refine cq_tg_number_Q X hK hP ht8 d_Q_numberAt_18 ?_
      refine lv_goto (tgt := 25) hx hb d_Q_numberAt_21 (by decide) ?_
      have hq := Option.some.inj hf
      subst hq
      exact rt_i (r := (nI i6)) X hr hlk hK rfl hP hD hS d_Q_numberAt_25
set_option maxHeartbeats 4000000 in
set_option maxRecDepth 100000 in
theorem c_tc_I_letPass {x1 : Int32} {z : Int32 × Int32 × Int32 × Bool} (hf : tc_I_letPass x1 tp tl ta tm tg = some z) : cs_v l my_I_letPass mb_I_letPass 2 rm_c_I_letPass D (ty_ cI cT) [.ref aI, .int x1] (ci_ aI cI cT tp tl ta tv tm tg) (ci_ aI cI cT tp z.1 z.2.1 tv z.2.2.1 z.2.2.2) := by
  refine cs_v_of (by decide) (Nat.le_of_ble_eq_true rfl) ?_
  intro p e s m below meth c A ls X hr hlk hK hP hD hS hA hZ hl
  have hx := X.1
  have hb := X.2.1
  have hl : lv_has ls 2 [(0, .ref aI), (1, .int x1)] := hl
  have J65 : ∀ (tp : Int32) (tl : Int32) (ta : Int32) (tm : Int32) (tg : Bool), tc_I_letPass_j65 tp tl ta tm tg = some z → ∀ (H : Heap) (locs : List Loc) (ls : Array Slot), lv_has ls 2 [(0, .ref aI)] → va_P D cz_all (ci_ aI cI cT tp tl ta tv tm tg) H → va_D A (ci_ aI cI cT tp tl ta tv tm tg) → va_S A s.heap H locs → W p l e rm_c_I_letPass s m ([.ref aI, .int x1] : List Value).toArray below meth c H locs 0 0 (MQ below (qs_v D (ty_ cI cT) (ci_ aI cI cT tp z.1 z.2.1 tv z.2.2.1 z.2.2.2) A) ([.ref aI, .int x1] : List Value).toArray s 0 0 A) (F0 m 65 ls []) := by
    intro tp tl ta tm tg hf H locs ls hl hP hD hS
    unfold tc_I_letPass_j65 at hf
    refine lv_aload_n hx hb d_I_letPass_65 rfl (lv_at hl 0 rfl) ?_
    refine lv_iconst (v := (1 : Int32)) hx hb d_I_letPass_66 (by decide) ?_
    refine ci_p_I_pending_I (x := true) X hK hP hD hS d_I_letPass_67 (fun H locs hP hD hS => ?_)
    have hq := Option.some.inj hf
    subst hq
    exact rt_v X hr hlk hK hP hD hS d_I_letPass_70
  unfold tc_I_letPass at hf
  refine lv_aload_n hx hb d_I_letPass_0 rfl (lv_at hl 0 rfl) ?_
  refine lv_dup hx hb d_I_letPass_1 rfl ?_
  refine ci_g_I_passed_I X hK hP d_I_letPass_2 ?_
  refine lv_iload_n hx hb d_I_letPass_5 rfl (lv_at hl 1 rfl) ?_
  refine lv_iadd hx hb d_I_letPass_6 ?_
  refine ci_p_I_passed_I (x := (ta + x1)) X hK hP hD hS d_I_letPass_7 (fun H locs hP hD hS => ?_)
  refine lv_aload_n hx hb d_I_letPass_10 rfl (lv_at hl 0 rfl) ?_
  refine ci_g_I_period_I X hK hP d_I_letPass_11 ?_
  refine lv_if_ne (tgt := 18) hx hb d_I_letPass_14 (by decide) (fun hc => ?_) (fun hc => ?_)
  · replace hf := (if_neg hc).symm.trans hf
    refine lv_aload_n hx hb d_I_letPass_18 rfl (lv_at hl 0 rfl) ?_
    refine lv_dup hx hb d_I_letPass_19 rfl ?_
    refine ci_g_I_left_I X hK hP d_I_letPass_20 ?_
    refine lv_iload_n hx hb d_I_letPass_23 rfl (lv_at hl 1 rfl) ?_
    refine lv_isub hx hb d_I_letPass_24 ?_
    refine ci_p_I_left_I (x := (tl - x1)) X hK hP hD hS d_I_letPass_25 (fun H locs hP hD hS => ?_)
    refine lv_aload_n hx hb d_I_letPass_28 rfl (lv_at hl 0 rfl) ?_
    refine ci_g_I_left_I X hK hP d_I_letPass_29 ?_
    refine lv_if_gt (tgt := 70) hx hb d_I_letPass_32 (by decide) (fun hc => ?_) (fun hc => ?_)
    · replace hf := (if_pos hc).symm.trans hf
      have hq := Option.some.inj hf
      subst hq
      exact rt_v X hr hlk hK hP hD hS d_I_letPass_70
    · replace hf := (if_neg hc).symm.trans hf
      refine lv_aload_n hx hb d_I_letPass_35 rfl (lv_at hl 0 rfl) ?_
      refine lv_dup hx hb d_I_letPass_36 rfl ?_
      refine ci_g_I_left_I X hK hP d_I_letPass_37 ?_
      refine lv_aload_n hx hb d_I_letPass_40 rfl (lv_at hl 0 rfl) ?_
      refine ci_g_I_period_I X hK hP d_I_letPass_41 ?_
      refine lv_iadd hx hb d_I_letPass_44 ?_
      refine ci_p_I_left_I (x := ((tl - x1) + tp)) X hK hP hD hS d_I_letPass_45 (fun H locs hP hD hS => ?_)
      refine lv_aload_n hx hb d_I_letPass_48 rfl (lv_at hl 0 rfl) ?_
      refine ci_g_I_pending_I X hK hP d_I_letPass_49 ?_
      refine lv_if_eq (tgt := 65) hx hb d_I_letPass_52 (by decide) (fun hc => ?_) (fun hc => ?_)
      · replace hf := (if_pos hc).symm.trans hf
        exact J65 tp ((tl - x1) + tp) (ta + x1) tm tg hf _ _ _ (lv_sub hl [0] rfl) hP hD hS
      · replace hf := (if_neg hc).symm.trans hf
        refine lv_aload_n hx hb d_I_letPass_55 rfl (lv_at hl 0 rfl) ?_
        refine lv_dup hx hb d_I_letPass_56 rfl ?_
        refine ci_g_I_missed_I X hK hP d_I_letPass_57 ?_
        refine lv_iconst (v := (1 : Int32)) hx hb d_I_letPass_60 (by decide) ?_
        refine lv_iadd hx hb d_I_letPass_61 ?_
        refine ci_p_I_missed_I (x := (tm + (1 : Int32))) X hK hP hD hS d_I_letPass_62 (fun H locs hP hD hS => ?_)
        exact J65 tp ((tl - x1) + tp) (ta + x1) (tm + (1 : Int32)) tg hf _ _ _ (lv_sub hl [0] rfl) hP hD hS
  · replace hf := (if_pos hc).symm.trans hf
    have hq := Option.some.inj hf
    subst hq
    exact rt_v X hr hlk hK hP hD hS d_I_letPass_17
set_option maxHeartbeats 4000000 in
set_option maxRecDepth 100000 in
theorem c_tc_I_countServed  {z : Int32 × Bool} (hf : tc_I_countServed tv tg = some z) : cs_v l my_I_countServed mb_I_countServed 1 rm_c_I_countServed D (ty_ cI cT) [.ref aI] (ci_ aI cI cT tp tl ta tv tm tg) (ci_ aI cI cT tp tl ta z.1 tm z.2) := by
  refine cs_v_of (by decide) (Nat.le_of_ble_eq_true rfl) ?_
  intro p e s m below meth c A ls X hr hlk hK hP hD hS hA hZ hl
  have hx := X.1
  have hb := X.2.1
  have hl : lv_has ls 1 [(0, .ref aI)] := hl
  unfold tc_I_countServed at hf
  refine lv_aload_n hx hb d_I_countServed_0 rfl (lv_at hl 0 rfl) ?_
  refine lv_iconst (v := (0 : Int32)) hx hb d_I_countServed_1 (by decide) ?_
  refine ci_p_I_pending_I (x := false) X hK hP hD hS d_I_countServed_2 (fun H locs hP hD hS => ?_)
  refine lv_aload_n hx hb d_I_countServed_5 rfl (lv_at hl 0 rfl) ?_
  refine lv_dup hx hb d_I_countServed_6 rfl ?_
  refine ci_g_I_served_I X hK hP d_I_countServed_7 ?_
  refine lv_iconst (v := (1 : Int32)) hx hb d_I_countServed_10 (by decide) ?_
  refine lv_iadd hx hb d_I_countServed_11 ?_
  refine ci_p_I_served_I (x := (tv + (1 : Int32))) X hK hP hD hS d_I_countServed_12 (fun H locs hP hD hS => ?_)
  have hq := Option.some.inj hf
  subst hq
  exact rt_v X hr hlk hK hP hD hS d_I_countServed_15
set_option maxHeartbeats 4000000 in
set_option maxRecDepth 100000 in
theorem c_tc_T_poke {x1 : Int32} {x2 : Int32} {z : Int32 × (Nat → Int32)} (hf : tc_T_poke x1 x2 cb = some z) : cs_i l my_T_poke mb_T_poke 4 .int rm_c_T_poke D (ty_ cI cT) [.ref aT, .int x1, .int x2] (ct_ aT aK aQ aL aA tk aY aB aG aS aP aC aI cI cT kr uz ul ks kv kz ku cb ga gb gd gc gx gy gu gs gp qa qb qd qc qx qy qu qs qp py po tp tl ta tv tm tg) (ct_ aT aK aQ aL aA tk aY aB aG aS aP aC aI cI cT kr uz ul ks kv kz ku z.2 ga gb gd gc gx gy gu gs gp qa qb qd qc qx qy qu qs qp py po tp tl ta tv tm tg) z.1 := by
  refine cs_i_of (by decide) (Nat.le_of_ble_eq_true rfl) ?_
  intro p e s m below meth c A ls X hr hlk hK hP hD hS hA hZ hl
  have hx := X.1
  have hb := X.2.1
  have hl : lv_has ls 4 [(0, .ref aT), (1, .int x1), (2, .int x2)] := hl
  unfold tc_T_poke at hf
  refine lv_iload_n hx hb d_T_poke_0 rfl (lv_at hl 1 rfl) ?_
  obtain ⟨z4, hz4, hf⟩ := op_b hf
  refine cf_si X cx_T_42 hK hP hD hS hA hZ hl (c_tc_Y_holds (w := (ct_ aT aK aQ aL aA tk aY aB aG aS aP aC aI cI cT kr uz ul ks kv kz ku cb ga gb gd gc gx gy gu gs gp qa qb qd qc qx qy qu qs qp py po tp tl ta tv tm tg)) hz4) ⟨rfl, rfl, Nat.le_of_ble_eq_true rfl, Nat.le_of_ble_eq_true rfl⟩ rfl rfl (Nat.le_of_ble_eq_true rfl) d_T_poke_1 (fun H locs hP hD hS => ?_)
  refine lv_if_eq (tgt := 18) hx hb d_T_poke_4 (by decide) (fun hc => ?_) (fun hc => ?_)
  · replace hf := (if_pos hc).symm.trans hf
    refine lv_iconst (v := (-1 : Int32)) hx hb d_T_poke_18 (by decide) ?_
    have hq := Option.some.inj hf
    subst hq
    exact rt_i (r := (-1 : Int32)) X hr hlk hK rfl hP hD hS d_T_poke_19
  · replace hf := (if_neg hc).symm.trans hf
    refine lv_iload_n hx hb d_T_poke_7 rfl (lv_at hl 2 rfl) ?_
    refine lv_if_lt (tgt := 18) hx hb d_T_poke_8 (by decide) (fun hc => ?_) (fun hc => ?_)
    · replace hf := (if_pos hc).symm.trans hf
      refine lv_iconst (v := (-1 : Int32)) hx hb d_T_poke_18 (by decide) ?_
      have hq := Option.some.inj hf
      subst hq
      exact rt_i (r := (-1 : Int32)) X hr hlk hK rfl hP hD hS d_T_poke_19
    · replace hf := (if_neg hc).symm.trans hf
      refine lv_iload_n hx hb d_T_poke_11 rfl (lv_at hl 2 rfl) ?_
      refine lv_sipush (v := (255 : Int32)) hx hb d_T_poke_12 (by decide) ?_
      refine lv_icmp_le (tgt := 20) hx hb d_T_poke_15 (by decide) (fun hc => ?_) (fun hc => ?_)
      · replace hf := (if_pos hc).symm.trans hf
        refine lv_aload_n hx hb d_T_poke_20 rfl (lv_at hl 0 rfl) ?_
        refine ct_g_T_memory_T X hK hP d_T_poke_21 ?_
        refine lv_iload_n hx hb d_T_poke_24 rfl (lv_at hl 1 rfl) ?_
        refine lv_iconst (v := (1 : Int32)) hx hb d_T_poke_25 (by decide) ?_
        obtain ⟨z5, hz5, hf⟩ := op_b hf
        refine cf_i (ws2 := (ct_ aT aK aQ aL aA tk aY aB aG aS aP aC aI cI cT kr uz ul ks kv kz ku cb ga gb gd gc gx gy gu gs gp qa qb qd qc qx qy qu qs qp py po tp tl ta tv tm tg)) X cx_T_46 hK hP hD hS hA hZ hl (c_tc_Y_load (aY := aY) (aB := aB) (cb := cb) hz5) ⟨rfl, rfl, Nat.le_of_ble_eq_true rfl, Nat.le_of_ble_eq_true rfl⟩ [9, 10] [0, 1, 2, 3, 4, 5, 6, 7, 8, 11, 12, 13, 14, 15] [0, 1, 2, 3, 4, 5, 6, 7, 8, 14, 15, 9, 10, 11, 12, 13] rfl rfl rfl rfl (by decide) rfl rfl 0 rfl rfl rfl rfl rfl (Nat.le_of_ble_eq_true rfl) d_T_poke_26 (fun H locs hP hD hS => ?_)
        refine lv_istore_n hx hb d_T_poke_29 rfl hl (by decide) rfl (fun ls hl => ?_)
        have hl : lv_has ls 4 [(3, .int z5), (0, .ref aT), (1, .int x1), (2, .int x2)] := hl
        refine lv_aload_n hx hb d_T_poke_30 rfl (lv_at hl 1 rfl) ?_
        refine ct_g_T_memory_T X hK hP d_T_poke_31 ?_
        refine lv_iload_n hx hb d_T_poke_34 rfl (lv_at hl 2 rfl) ?_
        refine lv_iload_n hx hb d_T_poke_35 rfl (lv_at hl 3 rfl) ?_
        refine lv_iconst (v := (1 : Int32)) hx hb d_T_poke_36 (by decide) ?_
        obtain ⟨z6, hz6, hf⟩ := op_b hf
        refine cf_v (ws2 := (ct_ aT aK aQ aL aA tk aY aB aG aS aP aC aI cI cT kr uz ul ks kv kz ku z6 ga gb gd gc gx gy gu gs gp qa qb qd qc qx qy qu qs qp py po tp tl ta tv tm tg)) X cx_T_50 hK hP hD hS hA hZ hl (c_tc_Y_store (aY := aY) (aB := aB) (cb := cb) hz6) ⟨rfl, rfl, Nat.le_of_ble_eq_true rfl, Nat.le_of_ble_eq_true rfl⟩ [9, 10] [0, 1, 2, 3, 4, 5, 6, 7, 8, 11, 12, 13, 14, 15] [0, 1, 2, 3, 4, 5, 6, 7, 8, 14, 15, 9, 10, 11, 12, 13] rfl rfl rfl rfl (by decide) rfl rfl 0 rfl rfl rfl rfl rfl (Nat.le_of_ble_eq_true rfl) d_T_poke_37 (fun H locs hP hD hS => ?_)
        refine lv_iload_n hx hb d_T_poke_40 rfl (lv_at hl 0 rfl) ?_
        have hq := Option.some.inj hf
        subst hq
        exact rt_i (r := z5) X hr hlk hK rfl hP hD hS d_T_poke_41
      · replace hf := (if_neg hc).symm.trans hf
        refine lv_iconst (v := (-1 : Int32)) hx hb d_T_poke_18 (by decide) ?_
        have hq := Option.some.inj hf
        subst hq
        exact rt_i (r := (-1 : Int32)) X hr hlk hK rfl hP hD hS d_T_poke_19
set_option maxHeartbeats 4000000 in
set_option maxRecDepth 100000 in
theorem c_tc_T_peek {x1 : Int32} {z : Int32} (hf : tc_T_peek x1 cb = some z) : cs_i l my_T_peek mb_T_peek 2 .int rm_c_T_peek D (ty_ cI cT) [.ref aT, .int x1] (ct_ aT aK aQ aL aA tk aY aB aG aS aP aC aI cI cT kr uz ul ks kv kz ku cb ga gb gd gc gx gy gu gs gp qa qb qd qc qx qy qu qs qp py po tp tl ta tv tm tg) (ct_ aT aK aQ aL aA tk aY aB aG aS aP aC aI cI cT kr uz ul ks kv kz ku cb ga gb gd gc gx gy gu gs gp qa qb qd qc qx qy qu qs qp py po tp tl ta tv tm tg) z := by
  refine cs_i_of (by decide) (Nat.le_of_ble_eq_true rfl) ?_
  intro p e s m below meth c A ls X hr hlk hK hP hD hS hA hZ hl
  have hx := X.1
  have hb := X.2.1
  have hl : lv_has ls 2 [(0, .ref aT), (1, .int x1)] := hl
  unfold tc_T_peek at hf
  refine lv_iload_n hx hb d_T_peek_0 rfl (lv_at hl 1 rfl) ?_
  obtain ⟨z3, hz3, hf⟩ := op_b hf
  refine cf_si X cx_T_42 hK hP hD hS hA hZ hl (c_tc_Y_holds (w := (ct_ aT aK aQ aL aA tk aY aB aG aS aP aC aI cI cT kr uz ul ks kv kz ku cb ga gb gd gc gx gy gu gs gp qa qb qd qc qx qy qu qs qp py po tp tl ta tv tm tg)) hz3) ⟨rfl, rfl, Nat.le_of_ble_eq_true rfl, Nat.le_of_ble_eq_true rfl⟩ rfl rfl (Nat.le_of_ble_eq_true rfl) d_T_peek_1 (fun H locs hP hD hS => ?_)
  refine lv_if_eq (tgt := 19) hx hb d_T_peek_4 (by decide) (fun hc => ?_) (fun hc => ?_)
  · replace hf := (if_pos hc).symm.trans hf
    refine lv_iconst (v := (-1 : Int32)) hx hb d_T_peek_19 (by decide) ?_
    have hq := Option.some.inj hf
    subst hq
    exact rt_i (r := (-1 : Int32)) X hr hlk hK rfl hP hD hS d_T_peek_20
  · replace hf := (if_neg hc).symm.trans hf
    refine lv_aload_n hx hb d_T_peek_7 rfl (lv_at hl 0 rfl) ?_
    refine ct_g_T_memory_T X hK hP d_T_peek_8 ?_
    refine lv_iload_n hx hb d_T_peek_11 rfl (lv_at hl 1 rfl) ?_
    refine lv_iconst (v := (1 : Int32)) hx hb d_T_peek_12 (by decide) ?_
    obtain ⟨z4, hz4, hf⟩ := op_b hf
    refine cf_i (ws2 := (ct_ aT aK aQ aL aA tk aY aB aG aS aP aC aI cI cT kr uz ul ks kv kz ku cb ga gb gd gc gx gy gu gs gp qa qb qd qc qx qy qu qs qp py po tp tl ta tv tm tg)) X cx_T_46 hK hP hD hS hA hZ hl (c_tc_Y_load (aY := aY) (aB := aB) (cb := cb) hz4) ⟨rfl, rfl, Nat.le_of_ble_eq_true rfl, Nat.le_of_ble_eq_true rfl⟩ [9, 10] [0, 1, 2, 3, 4, 5, 6, 7, 8, 11, 12, 13, 14, 15] [0, 1, 2, 3, 4, 5, 6, 7, 8, 14, 15, 9, 10, 11, 12, 13] rfl rfl rfl rfl (by decide) rfl rfl 0 rfl rfl rfl rfl rfl (Nat.le_of_ble_eq_true rfl) d_T_peek_13 (fun H locs hP hD hS => ?_)
    refine lv_goto (tgt := 20) hx hb d_T_peek_16 (by decide) ?_
    have hq := Option.some.inj hf
    subst hq
    exact rt_i (r := z4) X hr hlk hK rfl hP hD hS d_T_peek_20
end CLS

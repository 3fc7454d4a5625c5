theorem d_C_signed_0 : decode mb_C_signed 0 = .ok (.iload_n 1, 1) := by decide +kernel
theorem d_C_signed_1 : decode mb_C_signed 1 = .ok (.iconst 1, 1) := by decide +kernel
theorem d_C_signed_2 : decode mb_C_signed 2 = .ok (.if_icmp .ne 8, 3) := by decide +kernel
theorem d_C_signed_5 : decode mb_C_signed 5 = .ok (.iload_n 0, 1) := by decide +kernel
theorem d_C_signed_6 : decode mb_C_signed 6 = .ok (.i2b, 1) := by decide +kernel
theorem d_C_signed_7 : decode mb_C_signed 7 = .ok (.goto 5, 3) := by decide +kernel
theorem d_C_signed_10 : decode mb_C_signed 10 = .ok (.iload_n 0, 1) := by decide +kernel
theorem d_C_signed_11 : decode mb_C_signed 11 = .ok (.i2s, 1) := by decide +kernel
theorem d_C_signed_12 : decode mb_C_signed 12 = .ok (.ireturn, 1) := by decide +kernel
theorem d_C_carry_0 : decode mb_C_carry 0 = .ok (.aload_n 0, 1) := by decide +kernel
theorem d_C_carry_1 : decode mb_C_carry 1 = .ok (.getfield 13, 3) := by decide +kernel
theorem d_C_carry_4 : decode mb_C_carry 4 = .ok (.getfield 17, 3) := by decide +kernel
theorem d_C_carry_7 : decode mb_C_carry 7 = .ok (.iconst 1, 1) := by decide +kernel
theorem d_C_carry_8 : decode mb_C_carry 8 = .ok (.iand, 1) := by decide +kernel
theorem d_C_carry_9 : decode mb_C_carry 9 = .ok (.ireturn, 1) := by decide +kernel
theorem d_C_maskOf_0 : decode mb_C_maskOf 0 = .ok (.iload_n 0, 1) := by decide +kernel
theorem d_C_maskOf_1 : decode mb_C_maskOf 1 = .ok (.iconst 1, 1) := by decide +kernel
theorem d_C_maskOf_2 : decode mb_C_maskOf 2 = .ok (.if_icmp .ne 9, 3) := by decide +kernel
theorem d_C_maskOf_5 : decode mb_C_maskOf 5 = .ok (.sipush 255, 3) := by decide +kernel
theorem d_C_maskOf_8 : decode mb_C_maskOf 8 = .ok (.goto 5, 3) := by decide +kernel
theorem d_C_maskOf_11 : decode mb_C_maskOf 11 = .ok (.ldc 39, 2) := by decide +kernel
theorem d_C_maskOf_13 : decode mb_C_maskOf 13 = .ok (.ireturn, 1) := by decide +kernel
theorem d_C_signOf_0 : decode mb_C_signOf 0 = .ok (.iload_n 0, 1) := by decide +kernel
theorem d_C_signOf_1 : decode mb_C_signOf 1 = .ok (.ifCond .ne 5, 3) := by decide +kernel
theorem d_C_signOf_4 : decode mb_C_signOf 4 = .ok (.iconst 4, 1) := by decide +kernel
theorem d_C_signOf_5 : decode mb_C_signOf 5 = .ok (.ireturn, 1) := by decide +kernel
theorem d_C_signOf_6 : decode mb_C_signOf 6 = .ok (.iload_n 0, 1) := by decide +kernel
theorem d_C_signOf_7 : decode mb_C_signOf 7 = .ok (.iload_n 1, 1) := by decide +kernel
theorem d_C_signOf_8 : decode mb_C_signOf 8 = .ok (.invokestatic 29, 3) := by decide +kernel
theorem d_C_signOf_11 : decode mb_C_signOf 11 = .ok (.ifCond .ge 8, 3) := by decide +kernel
theorem d_C_signOf_14 : decode mb_C_signOf 14 = .ok (.bipush 8, 2) := by decide +kernel
theorem d_C_signOf_16 : decode mb_C_signOf 16 = .ok (.goto 4, 3) := by decide +kernel
theorem d_C_signOf_19 : decode mb_C_signOf 19 = .ok (.iconst 0, 1) := by decide +kernel
theorem d_C_signOf_20 : decode mb_C_signOf 20 = .ok (.ireturn, 1) := by decide +kernel
theorem d_G_setFlags_0 : decode mb_G_setFlags 0 = .ok (.aload_n 0, 1) := by decide +kernel
theorem d_G_setFlags_1 : decode mb_G_setFlags 1 = .ok (.aload_n 0, 1) := by decide +kernel
theorem d_G_setFlags_2 : decode mb_G_setFlags 2 = .ok (.getfield 33, 3) := by decide +kernel
theorem d_G_setFlags_5 : decode mb_G_setFlags 5 = .ok (.iload_n 1, 1) := by decide +kernel
theorem d_G_setFlags_6 : decode mb_G_setFlags 6 = .ok (.iconst (-1), 1) := by decide +kernel
theorem d_G_setFlags_7 : decode mb_G_setFlags 7 = .ok (.ixor, 1) := by decide +kernel
theorem d_G_setFlags_8 : decode mb_G_setFlags 8 = .ok (.iand, 1) := by decide +kernel
theorem d_G_setFlags_9 : decode mb_G_setFlags 9 = .ok (.iload_n 2, 1) := by decide +kernel
theorem d_G_setFlags_10 : decode mb_G_setFlags 10 = .ok (.ior, 1) := by decide +kernel
theorem d_G_setFlags_11 : decode mb_G_setFlags 11 = .ok (.putfield 33, 3) := by decide +kernel
theorem d_G_setFlags_14 : decode mb_G_setFlags 14 = .ok (.return_, 1) := by decide +kernel
theorem d_C_sum_0 : decode mb_C_sum 0 = .ok (.iload 4, 2) := by decide +kernel
theorem d_C_sum_2 : decode mb_C_sum 2 = .ok (.invokestatic 21, 3) := by decide +kernel
theorem d_C_sum_5 : decode mb_C_sum 5 = .ok (.istore 5, 2) := by decide +kernel
theorem d_C_sum_7 : decode mb_C_sum 7 = .ok (.iload_n 1, 1) := by decide +kernel
theorem d_C_sum_8 : decode mb_C_sum 8 = .ok (.iload_n 2, 1) := by decide +kernel
theorem d_C_sum_9 : decode mb_C_sum 9 = .ok (.iadd, 1) := by decide +kernel
theorem d_C_sum_10 : decode mb_C_sum 10 = .ok (.iload_n 3, 1) := by decide +kernel
theorem d_C_sum_11 : decode mb_C_sum 11 = .ok (.iadd, 1) := by decide +kernel
theorem d_C_sum_12 : decode mb_C_sum 12 = .ok (.iload 5, 2) := by decide +kernel
theorem d_C_sum_14 : decode mb_C_sum 14 = .ok (.iand, 1) := by decide +kernel
theorem d_C_sum_15 : decode mb_C_sum 15 = .ok (.istore 6, 2) := by decide +kernel
theorem d_C_sum_17 : decode mb_C_sum 17 = .ok (.iload 6, 2) := by decide +kernel
theorem d_C_sum_19 : decode mb_C_sum 19 = .ok (.iload 4, 2) := by decide +kernel
theorem d_C_sum_21 : decode mb_C_sum 21 = .ok (.invokestatic 25, 3) := by decide +kernel
theorem d_C_sum_24 : decode mb_C_sum 24 = .ok (.istore 7, 2) := by decide +kernel
theorem d_C_sum_26 : decode mb_C_sum 26 = .ok (.iload_n 1, 1) := by decide +kernel
theorem d_C_sum_27 : decode mb_C_sum 27 = .ok (.iload_n 2, 1) := by decide +kernel
theorem d_C_sum_28 : decode mb_C_sum 28 = .ok (.iadd, 1) := by decide +kernel
theorem d_C_sum_29 : decode mb_C_sum 29 = .ok (.iload_n 3, 1) := by decide +kernel
theorem d_C_sum_30 : decode mb_C_sum 30 = .ok (.iadd, 1) := by decide +kernel
theorem d_C_sum_31 : decode mb_C_sum 31 = .ok (.iload 5, 2) := by decide +kernel
theorem d_C_sum_33 : decode mb_C_sum 33 = .ok (.if_icmp .le 9, 3) := by decide +kernel
theorem d_C_sum_36 : decode mb_C_sum 36 = .ok (.iload 7, 2) := by decide +kernel
theorem d_C_sum_38 : decode mb_C_sum 38 = .ok (.iconst 1, 1) := by decide +kernel
theorem d_C_sum_39 : decode mb_C_sum 39 = .ok (.ior, 1) := by decide +kernel
theorem d_C_sum_40 : decode mb_C_sum 40 = .ok (.istore 7, 2) := by decide +kernel
theorem d_C_sum_42 : decode mb_C_sum 42 = .ok (.iload_n 1, 1) := by decide +kernel
theorem d_C_sum_43 : decode mb_C_sum 43 = .ok (.iload 4, 2) := by decide +kernel
theorem d_C_sum_45 : decode mb_C_sum 45 = .ok (.invokestatic 29, 3) := by decide +kernel
theorem d_C_sum_48 : decode mb_C_sum 48 = .ok (.iload_n 2, 1) := by decide +kernel
theorem d_C_sum_49 : decode mb_C_sum 49 = .ok (.iload 4, 2) := by decide +kernel
theorem d_C_sum_51 : decode mb_C_sum 51 = .ok (.invokestatic 29, 3) := by decide +kernel
theorem d_C_sum_54 : decode mb_C_sum 54 = .ok (.iadd, 1) := by decide +kernel
theorem d_C_sum_55 : decode mb_C_sum 55 = .ok (.iload_n 3, 1) := by decide +kernel
theorem d_C_sum_56 : decode mb_C_sum 56 = .ok (.iadd, 1) := by decide +kernel
theorem d_C_sum_57 : decode mb_C_sum 57 = .ok (.iload 6, 2) := by decide +kernel
theorem d_C_sum_59 : decode mb_C_sum 59 = .ok (.iload 4, 2) := by decide +kernel
theorem d_C_sum_61 : decode mb_C_sum 61 = .ok (.invokestatic 29, 3) := by decide +kernel
theorem d_C_sum_64 : decode mb_C_sum 64 = .ok (.if_icmp .eq 9, 3) := by decide +kernel
theorem d_C_sum_67 : decode mb_C_sum 67 = .ok (.iload 7, 2) := by decide +kernel
theorem d_C_sum_69 : decode mb_C_sum 69 = .ok (.iconst 2, 1) := by decide +kernel
theorem d_C_sum_70 : decode mb_C_sum 70 = .ok (.ior, 1) := by decide +kernel
theorem d_C_sum_71 : decode mb_C_sum 71 = .ok (.istore 7, 2) := by decide +kernel
theorem d_C_sum_73 : decode mb_C_sum 73 = .ok (.aload_n 0, 1) := by decide +kernel
theorem d_C_sum_74 : decode mb_C_sum 74 = .ok (.getfield 13, 3) := by decide +kernel
theorem d_C_sum_77 : decode mb_C_sum 77 = .ok (.bipush 15, 2) := by decide +kernel
theorem d_C_sum_79 : decode mb_C_sum 79 = .ok (.iload 7, 2) := by decide +kernel
theorem d_C_sum_81 : decode mb_C_sum 81 = .ok (.invokevirtual 32, 3) := by decide +kernel
theorem d_C_sum_84 : decode mb_C_sum 84 = .ok (.iload 6, 2) := by decide +kernel
theorem d_C_sum_86 : decode mb_C_sum 86 = .ok (.ireturn, 1) := by decide +kernel
theorem d_C_difference_0 : decode mb_C_difference 0 = .ok (.iload_n 1, 1) := by decide +kernel
theorem d_C_difference_1 : decode mb_C_difference 1 = .ok (.iload_n 2, 1) := by decide +kernel
theorem d_C_difference_2 : decode mb_C_difference 2 = .ok (.isub, 1) := by decide +kernel
theorem d_C_difference_3 : decode mb_C_difference 3 = .ok (.iload_n 3, 1) := by decide +kernel
theorem d_C_difference_4 : decode mb_C_difference 4 = .ok (.isub, 1) := by decide +kernel
theorem d_C_difference_5 : decode mb_C_difference 5 = .ok (.iload 4, 2) := by decide +kernel
theorem d_C_difference_7 : decode mb_C_difference 7 = .ok (.invokestatic 21, 3) := by decide +kernel
theorem d_C_difference_10 : decode mb_C_difference 10 = .ok (.iand, 1) := by decide +kernel
theorem d_C_difference_11 : decode mb_C_difference 11 = .ok (.istore 5, 2) := by decide +kernel
theorem d_C_difference_13 : decode mb_C_difference 13 = .ok (.iload 5, 2) := by decide +kernel
theorem d_C_difference_15 : decode mb_C_difference 15 = .ok (.iload 4, 2) := by decide +kernel
theorem d_C_difference_17 : decode mb_C_difference 17 = .ok (.invokestatic 25, 3) := by decide +kernel
theorem d_C_difference_20 : decode mb_C_difference 20 = .ok (.istore 6, 2) := by decide +kernel
theorem d_C_difference_22 : decode mb_C_difference 22 = .ok (.iload_n 2, 1) := by decide +kernel
theorem d_C_difference_23 : decode mb_C_difference 23 = .ok (.iload_n 3, 1) := by decide +kernel
theorem d_C_difference_24 : decode mb_C_difference 24 = .ok (.iadd, 1) := by decide +kernel
theorem d_C_difference_25 : decode mb_C_difference 25 = .ok (.iload_n 1, 1) := by decide +kernel
theorem d_C_difference_26 : decode mb_C_difference 26 = .ok (.if_icmp .le 9, 3) := by decide +kernel
theorem d_C_difference_29 : decode mb_C_difference 29 = .ok (.iload 6, 2) := by decide +kernel
theorem d_C_difference_31 : decode mb_C_difference 31 = .ok (.iconst 1, 1) := by decide +kernel
theorem d_C_difference_32 : decode mb_C_difference 32 = .ok (.ior, 1) := by decide +kernel
theorem d_C_difference_33 : decode mb_C_difference 33 = .ok (.istore 6, 2) := by decide +kernel
theorem d_C_difference_35 : decode mb_C_difference 35 = .ok (.iload_n 1, 1) := by decide +kernel
theorem d_C_difference_36 : decode mb_C_difference 36 = .ok (.iload 4, 2) := by decide +kernel
theorem d_C_difference_38 : decode mb_C_difference 38 = .ok (.invokestatic 29, 3) := by decide +kernel
theorem d_C_difference_41 : decode mb_C_difference 41 = .ok (.iload_n 2, 1) := by decide +kernel
theorem d_C_difference_42 : decode mb_C_difference 42 = .ok (.iload 4, 2) := by decide +kernel
theorem d_C_difference_44 : decode mb_C_difference 44 = .ok (.invokestatic 29, 3) := by decide +kernel
theorem d_C_difference_47 : decode mb_C_difference 47 = .ok (.isub, 1) := by decide +kernel
theorem d_C_difference_48 : decode mb_C_difference 48 = .ok (.iload_n 3, 1) := by decide +kernel
theorem d_C_difference_49 : decode mb_C_difference 49 = .ok (.isub, 1) := by decide +kernel
theorem d_C_difference_50 : decode mb_C_difference 50 = .ok (.iload 5, 2) := by decide +kernel
theorem d_C_difference_52 : decode mb_C_difference 52 = .ok (.iload 4, 2) := by decide +kernel
theorem d_C_difference_54 : decode mb_C_difference 54 = .ok (.invokestatic 29, 3) := by decide +kernel
theorem d_C_difference_57 : decode mb_C_difference 57 = .ok (.if_icmp .eq 9, 3) := by decide +kernel
theorem d_C_difference_60 : decode mb_C_difference 60 = .ok (.iload 6, 2) := by decide +kernel
theorem d_C_difference_62 : decode mb_C_difference 62 = .ok (.iconst 2, 1) := by decide +kernel
theorem d_C_difference_63 : decode mb_C_difference 63 = .ok (.ior, 1) := by decide +kernel
theorem d_C_difference_64 : decode mb_C_difference 64 = .ok (.istore 6, 2) := by decide +kernel
theorem d_C_difference_66 : decode mb_C_difference 66 = .ok (.aload_n 0, 1) := by decide +kernel
theorem d_C_difference_67 : decode mb_C_difference 67 = .ok (.getfield 13, 3) := by decide +kernel
theorem d_C_difference_70 : decode mb_C_difference 70 = .ok (.bipush 15, 2) := by decide +kernel
theorem d_C_difference_72 : decode mb_C_difference 72 = .ok (.iload 6, 2) := by decide +kernel
theorem d_C_difference_74 : decode mb_C_difference 74 = .ok (.invokevirtual 32, 3) := by decide +kernel
theorem d_C_difference_77 : decode mb_C_difference 77 = .ok (.iload 5, 2) := by decide +kernel
theorem d_C_difference_79 : decode mb_C_difference 79 = .ok (.ireturn, 1) := by decide +kernel
theorem d_C_plain_0 : decode mb_C_plain 0 = .ok (.aload_n 0, 1) := by decide +kernel
theorem d_C_plain_1 : decode mb_C_plain 1 = .ok (.getfield 13, 3) := by decide +kernel
theorem d_C_plain_4 : decode mb_C_plain 4 = .ok (.bipush 14, 2) := by decide +kernel
theorem d_C_plain_6 : decode mb_C_plain 6 = .ok (.iload_n 1, 1) := by decide +kernel
theorem d_C_plain_7 : decode mb_C_plain 7 = .ok (.iload_n 2, 1) := by decide +kernel
theorem d_C_plain_8 : decode mb_C_plain 8 = .ok (.invokestatic 25, 3) := by decide +kernel
theorem d_C_plain_11 : decode mb_C_plain 11 = .ok (.invokevirtual 32, 3) := by decide +kernel
theorem d_C_plain_14 : decode mb_C_plain 14 = .ok (.iload_n 1, 1) := by decide +kernel
theorem d_C_plain_15 : decode mb_C_plain 15 = .ok (.ireturn, 1) := by decide +kernel
theorem d_C_plainWithCarry_0 : decode mb_C_plainWithCarry 0 = .ok (.aload_n 0, 1) := by decide +kernel
theorem d_C_plainWithCarry_1 : decode mb_C_plainWithCarry 1 = .ok (.getfield 13, 3) := by decide +kernel
theorem d_C_plainWithCarry_4 : decode mb_C_plainWithCarry 4 = .ok (.bipush 15, 2) := by decide +kernel
theorem d_C_plainWithCarry_6 : decode mb_C_plainWithCarry 6 = .ok (.iload_n 1, 1) := by decide +kernel
theorem d_C_plainWithCarry_7 : decode mb_C_plainWithCarry 7 = .ok (.iconst 1, 1) := by decide +kernel
theorem d_C_plainWithCarry_8 : decode mb_C_plainWithCarry 8 = .ok (.invokestatic 25, 3) := by decide +kernel
theorem d_C_plainWithCarry_11 : decode mb_C_plainWithCarry 11 = .ok (.iload_n 2, 1) := by decide +kernel
theorem d_C_plainWithCarry_12 : decode mb_C_plainWithCarry 12 = .ok (.ior, 1) := by decide +kernel
theorem d_C_plainWithCarry_13 : decode mb_C_plainWithCarry 13 = .ok (.invokevirtual 32, 3) := by decide +kernel
theorem d_C_plainWithCarry_16 : decode mb_C_plainWithCarry 16 = .ok (.iload_n 1, 1) := by decide +kernel
theorem d_C_plainWithCarry_17 : decode mb_C_plainWithCarry 17 = .ok (.ireturn, 1) := by decide +kernel
theorem d_C_shiftRight_0 : decode mb_C_shiftRight 0 = .ok (.iload_n 1, 1) := by decide +kernel
theorem d_C_shiftRight_1 : decode mb_C_shiftRight 1 = .ok (.iconst 1, 1) := by decide +kernel
theorem d_C_shiftRight_2 : decode mb_C_shiftRight 2 = .ok (.ishr, 1) := by decide +kernel
theorem d_C_shiftRight_3 : decode mb_C_shiftRight 3 = .ok (.iload_n 2, 1) := by decide +kernel
theorem d_C_shiftRight_4 : decode mb_C_shiftRight 4 = .ok (.ior, 1) := by decide +kernel
theorem d_C_shiftRight_5 : decode mb_C_shiftRight 5 = .ok (.istore_n 3, 1) := by decide +kernel
theorem d_C_shiftRight_6 : decode mb_C_shiftRight 6 = .ok (.aload_n 0, 1) := by decide +kernel
theorem d_C_shiftRight_7 : decode mb_C_shiftRight 7 = .ok (.getfield 13, 3) := by decide +kernel
theorem d_C_shiftRight_10 : decode mb_C_shiftRight 10 = .ok (.bipush 13, 2) := by decide +kernel
theorem d_C_shiftRight_12 : decode mb_C_shiftRight 12 = .ok (.iload_n 3, 1) := by decide +kernel
theorem d_C_shiftRight_13 : decode mb_C_shiftRight 13 = .ok (.iconst 1, 1) := by decide +kernel
theorem d_C_shiftRight_14 : decode mb_C_shiftRight 14 = .ok (.invokestatic 25, 3) := by decide +kernel
theorem d_C_shiftRight_17 : decode mb_C_shiftRight 17 = .ok (.iload_n 1, 1) := by decide +kernel
theorem d_C_shiftRight_18 : decode mb_C_shiftRight 18 = .ok (.iconst 1, 1) := by decide +kernel
theorem d_C_shiftRight_19 : decode mb_C_shiftRight 19 = .ok (.iand, 1) := by decide +kernel
theorem d_C_shiftRight_20 : decode mb_C_shiftRight 20 = .ok (.ior, 1) := by decide +kernel
theorem d_C_shiftRight_21 : decode mb_C_shiftRight 21 = .ok (.invokevirtual 32, 3) := by decide +kernel
theorem d_C_shiftRight_24 : decode mb_C_shiftRight 24 = .ok (.iload_n 3, 1) := by decide +kernel
theorem d_C_shiftRight_25 : decode mb_C_shiftRight 25 = .ok (.ireturn, 1) := by decide +kernel
theorem d_C_shiftLeft_0 : decode mb_C_shiftLeft 0 = .ok (.iload_n 1, 1) := by decide +kernel
theorem d_C_shiftLeft_1 : decode mb_C_shiftLeft 1 = .ok (.iconst 1, 1) := by decide +kernel
theorem d_C_shiftLeft_2 : decode mb_C_shiftLeft 2 = .ok (.ishl, 1) := by decide +kernel
theorem d_C_shiftLeft_3 : decode mb_C_shiftLeft 3 = .ok (.sipush 255, 3) := by decide +kernel
theorem d_C_shiftLeft_6 : decode mb_C_shiftLeft 6 = .ok (.iand, 1) := by decide +kernel
theorem d_C_shiftLeft_7 : decode mb_C_shiftLeft 7 = .ok (.iload_n 2, 1) := by decide +kernel
theorem d_C_shiftLeft_8 : decode mb_C_shiftLeft 8 = .ok (.ior, 1) := by decide +kernel
theorem d_C_shiftLeft_9 : decode mb_C_shiftLeft 9 = .ok (.istore_n 3, 1) := by decide +kernel
theorem d_C_shiftLeft_10 : decode mb_C_shiftLeft 10 = .ok (.iload_n 1, 1) := by decide +kernel
theorem d_C_shiftLeft_11 : decode mb_C_shiftLeft 11 = .ok (.bipush 7, 2) := by decide +kernel
theorem d_C_shiftLeft_13 : decode mb_C_shiftLeft 13 = .ok (.ishr, 1) := by decide +kernel
theorem d_C_shiftLeft_14 : decode mb_C_shiftLeft 14 = .ok (.istore 4, 2) := by decide +kernel
theorem d_C_shiftLeft_16 : decode mb_C_shiftLeft 16 = .ok (.iload_n 3, 1) := by decide +kernel
theorem d_C_shiftLeft_17 : decode mb_C_shiftLeft 17 = .ok (.bipush 7, 2) := by decide +kernel
theorem d_C_shiftLeft_19 : decode mb_C_shiftLeft 19 = .ok (.ishr, 1) := by decide +kernel
theorem d_C_shiftLeft_20 : decode mb_C_shiftLeft 20 = .ok (.iload 4, 2) := by decide +kernel
theorem d_C_shiftLeft_22 : decode mb_C_shiftLeft 22 = .ok (.ixor, 1) := by decide +kernel
theorem d_C_shiftLeft_23 : decode mb_C_shiftLeft 23 = .ok (.iconst 1, 1) := by decide +kernel
theorem d_C_shiftLeft_24 : decode mb_C_shiftLeft 24 = .ok (.if_icmp .ne 7, 3) := by decide +kernel
theorem d_C_shiftLeft_27 : decode mb_C_shiftLeft 27 = .ok (.iconst 2, 1) := by decide +kernel
theorem d_C_shiftLeft_28 : decode mb_C_shiftLeft 28 = .ok (.goto 4, 3) := by decide +kernel
theorem d_C_shiftLeft_31 : decode mb_C_shiftLeft 31 = .ok (.iconst 0, 1) := by decide +kernel
theorem d_C_shiftLeft_32 : decode mb_C_shiftLeft 32 = .ok (.istore 5, 2) := by decide +kernel
theorem d_C_shiftLeft_34 : decode mb_C_shiftLeft 34 = .ok (.aload_n 0, 1) := by decide +kernel
theorem d_C_shiftLeft_35 : decode mb_C_shiftLeft 35 = .ok (.getfield 13, 3) := by decide +kernel
theorem d_C_shiftLeft_38 : decode mb_C_shiftLeft 38 = .ok (.bipush 15, 2) := by decide +kernel
theorem d_C_shiftLeft_40 : decode mb_C_shiftLeft 40 = .ok (.iload_n 3, 1) := by decide +kernel
theorem d_C_shiftLeft_41 : decode mb_C_shiftLeft 41 = .ok (.iconst 1, 1) := by decide +kernel
theorem d_C_shiftLeft_42 : decode mb_C_shiftLeft 42 = .ok (.invokestatic 25, 3) := by decide +kernel
theorem d_C_shiftLeft_45 : decode mb_C_shiftLeft 45 = .ok (.iload 5, 2) := by decide +kernel
theorem d_C_shiftLeft_47 : decode mb_C_shiftLeft 47 = .ok (.ior, 1) := by decide +kernel
theorem d_C_shiftLeft_48 : decode mb_C_shiftLeft 48 = .ok (.iload 4, 2) := by decide +kernel
theorem d_C_shiftLeft_50 : decode mb_C_shiftLeft 50 = .ok (.ior, 1) := by decide +kernel
theorem d_C_shiftLeft_51 : decode mb_C_shiftLeft 51 = .ok (.invokevirtual 32, 3) := by decide +kernel
theorem d_C_shiftLeft_54 : decode mb_C_shiftLeft 54 = .ok (.iload_n 3, 1) := by decide +kernel
theorem d_C_shiftLeft_55 : decode mb_C_shiftLeft 55 = .ok (.ireturn, 1) := by decide +kernel
theorem d_C_decrement_0 : decode mb_C_decrement 0 = .ok (.iload_n 1, 1) := by decide +kernel
theorem d_C_decrement_1 : decode mb_C_decrement 1 = .ok (.iconst 1, 1) := by decide +kernel
theorem d_C_decrement_2 : decode mb_C_decrement 2 = .ok (.isub, 1) := by decide +kernel
theorem d_C_decrement_3 : decode mb_C_decrement 3 = .ok (.sipush 255, 3) := by decide +kernel
theorem d_C_decrement_6 : decode mb_C_decrement 6 = .ok (.iand, 1) := by decide +kernel
theorem d_C_decrement_7 : decode mb_C_decrement 7 = .ok (.istore_n 2, 1) := by decide +kernel
theorem d_C_decrement_8 : decode mb_C_decrement 8 = .ok (.aload_n 0, 1) := by decide +kernel
theorem d_C_decrement_9 : decode mb_C_decrement 9 = .ok (.getfield 13, 3) := by decide +kernel
theorem d_C_decrement_12 : decode mb_C_decrement 12 = .ok (.bipush 14, 2) := by decide +kernel
theorem d_C_decrement_14 : decode mb_C_decrement 14 = .ok (.iload_n 2, 1) := by decide +kernel
theorem d_C_decrement_15 : decode mb_C_decrement 15 = .ok (.iconst 1, 1) := by decide +kernel
theorem d_C_decrement_16 : decode mb_C_decrement 16 = .ok (.invokestatic 25, 3) := by decide +kernel
theorem d_C_decrement_19 : decode mb_C_decrement 19 = .ok (.iload_n 1, 1) := by decide +kernel
theorem d_C_decrement_20 : decode mb_C_decrement 20 = .ok (.sipush 128, 3) := by decide +kernel
theorem d_C_decrement_23 : decode mb_C_decrement 23 = .ok (.if_icmp .ne 7, 3) := by decide +kernel
theorem d_C_decrement_26 : decode mb_C_decrement 26 = .ok (.iconst 2, 1) := by decide +kernel
theorem d_C_decrement_27 : decode mb_C_decrement 27 = .ok (.goto 4, 3) := by decide +kernel
theorem d_C_decrement_30 : decode mb_C_decrement 30 = .ok (.iconst 0, 1) := by decide +kernel
theorem d_C_decrement_31 : decode mb_C_decrement 31 = .ok (.ior, 1) := by decide +kernel
theorem d_C_decrement_32 : decode mb_C_decrement 32 = .ok (.invokevirtual 32, 3) := by decide +kernel
theorem d_C_decrement_35 : decode mb_C_decrement 35 = .ok (.iload_n 2, 1) := by decide +kernel
theorem d_C_decrement_36 : decode mb_C_decrement 36 = .ok (.ireturn, 1) := by decide +kernel
theorem d_C_increment_0 : decode mb_C_increment 0 = .ok (.iload_n 1, 1) := by decide +kernel
theorem d_C_increment_1 : decode mb_C_increment 1 = .ok (.iconst 1, 1) := by decide +kernel
theorem d_C_increment_2 : decode mb_C_increment 2 = .ok (.iadd, 1) := by decide +kernel
theorem d_C_increment_3 : decode mb_C_increment 3 = .ok (.sipush 255, 3) := by decide +kernel
theorem d_C_increment_6 : decode mb_C_increment 6 = .ok (.iand, 1) := by decide +kernel
theorem d_C_increment_7 : decode mb_C_increment 7 = .ok (.istore_n 2, 1) := by decide +kernel
theorem d_C_increment_8 : decode mb_C_increment 8 = .ok (.aload_n 0, 1) := by decide +kernel
theorem d_C_increment_9 : decode mb_C_increment 9 = .ok (.getfield 13, 3) := by decide +kernel
theorem d_C_increment_12 : decode mb_C_increment 12 = .ok (.bipush 14, 2) := by decide +kernel
theorem d_C_increment_14 : decode mb_C_increment 14 = .ok (.iload_n 2, 1) := by decide +kernel
theorem d_C_increment_15 : decode mb_C_increment 15 = .ok (.iconst 1, 1) := by decide +kernel
theorem d_C_increment_16 : decode mb_C_increment 16 = .ok (.invokestatic 25, 3) := by decide +kernel
theorem d_C_increment_19 : decode mb_C_increment 19 = .ok (.iload_n 1, 1) := by decide +kernel
theorem d_C_increment_20 : decode mb_C_increment 20 = .ok (.bipush 127, 2) := by decide +kernel
theorem d_C_increment_22 : decode mb_C_increment 22 = .ok (.if_icmp .ne 7, 3) := by decide +kernel
theorem d_C_increment_25 : decode mb_C_increment 25 = .ok (.iconst 2, 1) := by decide +kernel
theorem d_C_increment_26 : decode mb_C_increment 26 = .ok (.goto 4, 3) := by decide +kernel
theorem d_C_increment_29 : decode mb_C_increment 29 = .ok (.iconst 0, 1) := by decide +kernel
theorem d_C_increment_30 : decode mb_C_increment 30 = .ok (.ior, 1) := by decide +kernel
theorem d_C_increment_31 : decode mb_C_increment 31 = .ok (.invokevirtual 32, 3) := by decide +kernel
theorem d_C_increment_34 : decode mb_C_increment 34 = .ok (.iload_n 2, 1) := by decide +kernel
theorem d_C_increment_35 : decode mb_C_increment 35 = .ok (.ireturn, 1) := by decide +kernel
theorem d_G_set_0 : decode mb_G_set 0 = .ok (.iload_n 2, 1) := by decide +kernel
theorem d_G_set_1 : decode mb_G_set 1 = .ok (.ldc 39, 2) := by decide +kernel
theorem d_G_set_3 : decode mb_G_set 3 = .ok (.iand, 1) := by decide +kernel
theorem d_G_set_4 : decode mb_G_set 4 = .ok (.istore_n 3, 1) := by decide +kernel
theorem d_G_set_5 : decode mb_G_set 5 = .ok (.iload_n 2, 1) := by decide +kernel
theorem d_G_set_6 : decode mb_G_set 6 = .ok (.sipush 255, 3) := by decide +kernel
theorem d_G_set_9 : decode mb_G_set 9 = .ok (.iand, 1) := by decide +kernel
theorem d_G_set_10 : decode mb_G_set 10 = .ok (.istore 4, 2) := by decide +kernel
theorem d_G_set_12 : decode mb_G_set 12 = .ok (.iload_n 1, 1) := by decide +kernel
theorem d_G_set_13 : decode mb_G_set 13 = .ok (.tableswitch 143 0 10 #[59, 76, 84, 92, 100, 108, 143, 143, 116, 125, 134], 59) := by decide +kernel
theorem d_G_set_72 : decode mb_G_set 72 = .ok (.aload_n 0, 1) := by decide +kernel
theorem d_G_set_73 : decode mb_G_set 73 = .ok (.iload_n 3, 1) := by decide +kernel
theorem d_G_set_74 : decode mb_G_set 74 = .ok (.bipush 8, 2) := by decide +kernel
theorem d_G_set_76 : decode mb_G_set 76 = .ok (.ishr, 1) := by decide +kernel
theorem d_G_set_77 : decode mb_G_set 77 = .ok (.putfield 11, 3) := by decide +kernel
theorem d_G_set_80 : decode mb_G_set 80 = .ok (.aload_n 0, 1) := by decide +kernel
theorem d_G_set_81 : decode mb_G_set 81 = .ok (.iload 4, 2) := by decide +kernel
theorem d_G_set_83 : decode mb_G_set 83 = .ok (.putfield 15, 3) := by decide +kernel
theorem d_G_set_86 : decode mb_G_set 86 = .ok (.goto 76, 3) := by decide +kernel
theorem d_G_set_89 : decode mb_G_set 89 = .ok (.aload_n 0, 1) := by decide +kernel
theorem d_G_set_90 : decode mb_G_set 90 = .ok (.iload_n 3, 1) := by decide +kernel
theorem d_G_set_91 : decode mb_G_set 91 = .ok (.putfield 18, 3) := by decide +kernel
theorem d_G_set_94 : decode mb_G_set 94 = .ok (.goto 68, 3) := by decide +kernel
theorem d_G_set_97 : decode mb_G_set 97 = .ok (.aload_n 0, 1) := by decide +kernel
theorem d_G_set_98 : decode mb_G_set 98 = .ok (.iload_n 3, 1) := by decide +kernel
theorem d_G_set_99 : decode mb_G_set 99 = .ok (.putfield 21, 3) := by decide +kernel
theorem d_G_set_102 : decode mb_G_set 102 = .ok (.goto 60, 3) := by decide +kernel
theorem d_G_set_105 : decode mb_G_set 105 = .ok (.aload_n 0, 1) := by decide +kernel
theorem d_G_set_106 : decode mb_G_set 106 = .ok (.iload_n 3, 1) := by decide +kernel
theorem d_G_set_107 : decode mb_G_set 107 = .ok (.putfield 24, 3) := by decide +kernel
theorem d_G_set_110 : decode mb_G_set 110 = .ok (.goto 52, 3) := by decide +kernel
theorem d_G_set_113 : decode mb_G_set 113 = .ok (.aload_n 0, 1) := by decide +kernel
theorem d_G_set_114 : decode mb_G_set 114 = .ok (.iload_n 3, 1) := by decide +kernel
theorem d_G_set_115 : decode mb_G_set 115 = .ok (.putfield 27, 3) := by decide +kernel
theorem d_G_set_118 : decode mb_G_set 118 = .ok (.goto 44, 3) := by decide +kernel
theorem d_G_set_121 : decode mb_G_set 121 = .ok (.aload_n 0, 1) := by decide +kernel
theorem d_G_set_122 : decode mb_G_set 122 = .ok (.iload_n 3, 1) := by decide +kernel
theorem d_G_set_123 : decode mb_G_set 123 = .ok (.putfield 30, 3) := by decide +kernel
theorem d_G_set_126 : decode mb_G_set 126 = .ok (.goto 36, 3) := by decide +kernel
theorem d_G_set_129 : decode mb_G_set 129 = .ok (.aload_n 0, 1) := by decide +kernel
theorem d_G_set_130 : decode mb_G_set 130 = .ok (.iload 4, 2) := by decide +kernel
theorem d_G_set_132 : decode mb_G_set 132 = .ok (.putfield 11, 3) := by decide +kernel
theorem d_G_set_135 : decode mb_G_set 135 = .ok (.goto 27, 3) := by decide +kernel
theorem d_G_set_138 : decode mb_G_set 138 = .ok (.aload_n 0, 1) := by decide +kernel
theorem d_G_set_139 : decode mb_G_set 139 = .ok (.iload 4, 2) := by decide +kernel
theorem d_G_set_141 : decode mb_G_set 141 = .ok (.putfield 15, 3) := by decide +kernel
theorem d_G_set_144 : decode mb_G_set 144 = .ok (.goto 18, 3) := by decide +kernel
theorem d_G_set_147 : decode mb_G_set 147 = .ok (.aload_n 0, 1) := by decide +kernel
theorem d_G_set_148 : decode mb_G_set 148 = .ok (.iload 4, 2) := by decide +kernel
theorem d_G_set_150 : decode mb_G_set 150 = .ok (.putfield 33, 3) := by decide +kernel
theorem d_G_set_153 : decode mb_G_set 153 = .ok (.goto 9, 3) := by decide +kernel
theorem d_G_set_156 : decode mb_G_set 156 = .ok (.aload_n 0, 1) := by decide +kernel
theorem d_G_set_157 : decode mb_G_set 157 = .ok (.iload 4, 2) := by decide +kernel
theorem d_G_set_159 : decode mb_G_set 159 = .ok (.putfield 36, 3) := by decide +kernel
theorem d_G_set_162 : decode mb_G_set 162 = .ok (.return_, 1) := by decide +kernel
theorem d_C_extendB_0 : decode mb_C_extendB 0 = .ok (.aload_n 0, 1) := by decide +kernel
theorem d_C_extendB_1 : decode mb_C_extendB 1 = .ok (.getfield 13, 3) := by decide +kernel
theorem d_C_extendB_4 : decode mb_C_extendB 4 = .ok (.getfield 36, 3) := by decide +kernel
theorem d_C_extendB_7 : decode mb_C_extendB 7 = .ok (.iconst 1, 1) := by decide +kernel
theorem d_C_extendB_8 : decode mb_C_extendB 8 = .ok (.invokestatic 29, 3) := by decide +kernel
theorem d_C_extendB_11 : decode mb_C_extendB 11 = .ok (.ldc 39, 2) := by decide +kernel
theorem d_C_extendB_13 : decode mb_C_extendB 13 = .ok (.iand, 1) := by decide +kernel
theorem d_C_extendB_14 : decode mb_C_extendB 14 = .ok (.istore_n 1, 1) := by decide +kernel
theorem d_C_extendB_15 : decode mb_C_extendB 15 = .ok (.aload_n 0, 1) := by decide +kernel
theorem d_C_extendB_16 : decode mb_C_extendB 16 = .ok (.getfield 13, 3) := by decide +kernel
theorem d_C_extendB_19 : decode mb_C_extendB 19 = .ok (.iconst 0, 1) := by decide +kernel
theorem d_C_extendB_20 : decode mb_C_extendB 20 = .ok (.iload_n 1, 1) := by decide +kernel
theorem d_C_extendB_21 : decode mb_C_extendB 21 = .ok (.invokevirtual 40, 3) := by decide +kernel
theorem d_C_extendB_24 : decode mb_C_extendB 24 = .ok (.aload_n 0, 1) := by decide +kernel
theorem d_C_extendB_25 : decode mb_C_extendB 25 = .ok (.getfield 13, 3) := by decide +kernel
theorem d_C_extendB_28 : decode mb_C_extendB 28 = .ok (.bipush 12, 2) := by decide +kernel
theorem d_C_extendB_30 : decode mb_C_extendB 30 = .ok (.iload_n 1, 1) := by decide +kernel
theorem d_C_extendB_31 : decode mb_C_extendB 31 = .ok (.iconst 2, 1) := by decide +kernel
theorem d_C_extendB_32 : decode mb_C_extendB 32 = .ok (.invokestatic 25, 3) := by decide +kernel
theorem d_C_extendB_35 : decode mb_C_extendB 35 = .ok (.invokevirtual 32, 3) := by decide +kernel
theorem d_C_extendB_38 : decode mb_C_extendB 38 = .ok (.return_, 1) := by decide +kernel
theorem d_C_multiply_0 : decode mb_C_multiply 0 = .ok (.aload_n 0, 1) := by decide +kernel
theorem d_C_multiply_1 : decode mb_C_multiply 1 = .ok (.getfield 13, 3) := by decide +kernel
theorem d_C_multiply_4 : decode mb_C_multiply 4 = .ok (.getfield 43, 3) := by decide +kernel
theorem d_C_multiply_7 : decode mb_C_multiply 7 = .ok (.aload_n 0, 1) := by decide +kernel
theorem d_C_multiply_8 : decode mb_C_multiply 8 = .ok (.getfield 13, 3) := by decide +kernel
theorem d_C_multiply_11 : decode mb_C_multiply 11 = .ok (.getfield 36, 3) := by decide +kernel
theorem d_C_multiply_14 : decode mb_C_multiply 14 = .ok (.imul, 1) := by decide +kernel
theorem d_C_multiply_15 : decode mb_C_multiply 15 = .ok (.istore_n 1, 1) := by decide +kernel
theorem d_C_multiply_16 : decode mb_C_multiply 16 = .ok (.aload_n 0, 1) := by decide +kernel
theorem d_C_multiply_17 : decode mb_C_multiply 17 = .ok (.getfield 13, 3) := by decide +kernel
theorem d_C_multiply_20 : decode mb_C_multiply 20 = .ok (.iconst 0, 1) := by decide +kernel
theorem d_C_multiply_21 : decode mb_C_multiply 21 = .ok (.iload_n 1, 1) := by decide +kernel
theorem d_C_multiply_22 : decode mb_C_multiply 22 = .ok (.invokevirtual 40, 3) := by decide +kernel
theorem d_C_multiply_25 : decode mb_C_multiply 25 = .ok (.iload_n 1, 1) := by decide +kernel
theorem d_C_multiply_26 : decode mb_C_multiply 26 = .ok (.ifCond .ne 7, 3) := by decide +kernel
theorem d_C_multiply_29 : decode mb_C_multiply 29 = .ok (.iconst 4, 1) := by decide +kernel
theorem d_C_multiply_30 : decode mb_C_multiply 30 = .ok (.goto 4, 3) := by decide +kernel
theorem d_C_multiply_33 : decode mb_C_multiply 33 = .ok (.iconst 0, 1) := by decide +kernel
theorem d_C_multiply_34 : decode mb_C_multiply 34 = .ok (.istore_n 2, 1) := by decide +kernel
theorem d_C_multiply_35 : decode mb_C_multiply 35 = .ok (.aload_n 0, 1) := by decide +kernel
theorem d_C_multiply_36 : decode mb_C_multiply 36 = .ok (.getfield 13, 3) := by decide +kernel
theorem d_C_multiply_39 : decode mb_C_multiply 39 = .ok (.iconst 5, 1) := by decide +kernel
theorem d_C_multiply_40 : decode mb_C_multiply 40 = .ok (.iload_n 2, 1) := by decide +kernel
theorem d_C_multiply_41 : decode mb_C_multiply 41 = .ok (.aload_n 0, 1) := by decide +kernel
theorem d_C_multiply_42 : decode mb_C_multiply 42 = .ok (.getfield 13, 3) := by decide +kernel
theorem d_C_multiply_45 : decode mb_C_multiply 45 = .ok (.getfield 36, 3) := by decide +kernel
theorem d_C_multiply_48 : decode mb_C_multiply 48 = .ok (.bipush 7, 2) := by decide +kernel
theorem d_C_multiply_50 : decode mb_C_multiply 50 = .ok (.ishr, 1) := by decide +kernel
theorem d_C_multiply_51 : decode mb_C_multiply 51 = .ok (.ior, 1) := by decide +kernel
theorem d_C_multiply_52 : decode mb_C_multiply 52 = .ok (.invokevirtual 32, 3) := by decide +kernel
theorem d_C_multiply_55 : decode mb_C_multiply 55 = .ok (.return_, 1) := by decide +kernel
theorem d_K_taskAt_0 : decode mb_K_taskAt 0 = .ok (.iload_n 1, 1) := by decide +kernel
theorem d_K_taskAt_1 : decode mb_K_taskAt 1 = .ok (.ifCond .lt 17, 3) := by decide +kernel
theorem d_K_taskAt_4 : decode mb_K_taskAt 4 = .ok (.iload_n 1, 1) := by decide +kernel
theorem d_K_taskAt_5 : decode mb_K_taskAt 5 = .ok (.iconst 4, 1) := by decide +kernel
theorem d_K_taskAt_6 : decode mb_K_taskAt 6 = .ok (.if_icmp .ge 12, 3) := by decide +kernel
theorem d_K_taskAt_9 : decode mb_K_taskAt 9 = .ok (.aload_n 0, 1) := by decide +kernel
theorem d_K_taskAt_10 : decode mb_K_taskAt 10 = .ok (.getfield 29, 3) := by decide +kernel
theorem d_K_taskAt_13 : decode mb_K_taskAt 13 = .ok (.iload_n 1, 1) := by decide +kernel
theorem d_K_taskAt_14 : decode mb_K_taskAt 14 = .ok (.aaload, 1) := by decide +kernel
theorem d_K_taskAt_15 : decode mb_K_taskAt 15 = .ok (.goto 4, 3) := by decide +kernel
theorem d_K_taskAt_18 : decode mb_K_taskAt 18 = .ok (.aconst_null, 1) := by decide +kernel
theorem d_K_taskAt_19 : decode mb_K_taskAt 19 = .ok (.areturn, 1) := by decide +kernel
theorem d_G_pushedAt_0 : decode mb_G_pushedAt 0 = .ok (.iload_n 0, 1) := by decide +kernel
theorem d_G_pushedAt_1 : decode mb_G_pushedAt 1 = .ok (.bipush 6, 2) := by decide +kernel
theorem d_G_pushedAt_3 : decode mb_G_pushedAt 3 = .ok (.if_icmp .ne 12, 3) := by decide +kernel
theorem d_G_pushedAt_6 : decode mb_G_pushedAt 6 = .ok (.iload_n 1, 1) := by decide +kernel
theorem d_G_pushedAt_7 : decode mb_G_pushedAt 7 = .ok (.iconst 3, 1) := by decide +kernel
theorem d_G_pushedAt_8 : decode mb_G_pushedAt 8 = .ok (.if_icmp .ne 7, 3) := by decide +kernel
theorem d_G_pushedAt_11 : decode mb_G_pushedAt 11 = .ok (.iconst 4, 1) := by decide +kernel
theorem d_G_pushedAt_12 : decode mb_G_pushedAt 12 = .ok (.goto 8, 3) := by decide +kernel
theorem d_G_pushedAt_15 : decode mb_G_pushedAt 15 = .ok (.getstatic 64, 3) := by decide +kernel
theorem d_G_pushedAt_18 : decode mb_G_pushedAt 18 = .ok (.iload_n 0, 1) := by decide +kernel
theorem d_G_pushedAt_19 : decode mb_G_pushedAt 19 = .ok (.iaload, 1) := by decide +kernel
theorem d_G_pushedAt_20 : decode mb_G_pushedAt 20 = .ok (.ireturn, 1) := by decide +kernel
theorem d_G_sizeOf_0 : decode mb_G_sizeOf 0 = .ok (.iload_n 0, 1) := by decide +kernel
theorem d_G_sizeOf_1 : decode mb_G_sizeOf 1 = .ok (.iconst 5, 1) := by decide +kernel
theorem d_G_sizeOf_2 : decode mb_G_sizeOf 2 = .ok (.if_icmp .gt 7, 3) := by decide +kernel
theorem d_G_sizeOf_5 : decode mb_G_sizeOf 5 = .ok (.iconst 2, 1) := by decide +kernel
theorem d_G_sizeOf_6 : decode mb_G_sizeOf 6 = .ok (.goto 4, 3) := by decide +kernel
theorem d_G_sizeOf_9 : decode mb_G_sizeOf 9 = .ok (.iconst 1, 1) := by decide +kernel
theorem d_G_sizeOf_10 : decode mb_G_sizeOf 10 = .ok (.ireturn, 1) := by decide +kernel
section CLS
variable {l : Launch} {D : va_G} {w : va_W}
variable {aT aK aQ aL aA aY aB aG aS aP aC aI : Nat} {tk : Nat → Nat} {cI cT : ClassId} {kr : Option Nat} {uz : Int32} {ul : Nat → Option Nat} {ks : Nat → Int32} {kv : Nat → Int32} {kz : Nat → Int32} {ku : Nat → Int32} {cb : Nat → Int32} {ga : Int32} {gb : Int32} {gd : Int32} {gc : Int32} {gx : Int32} {gy : Int32} {gu : Int32} {gs : Int32} {gp : Int32} {qa : Int32} {qb : Int32} {qd : Int32} {qc : Int32} {qx : Int32} {qy : Int32} {qu : Int32} {qs : Int32} {qp : Int32} {py : Int32} {po : Int32} {tp : Int32} {tl : Int32} {ta : Int32} {tv : Int32} {tm : Int32} {tg : Bool}
set_option maxHeartbeats 4000000 in
set_option maxRecDepth 100000 in
theorem c_tc_C_signed {x1 : Int32} {x2 : Int32} {z : Int32} (hf : tc_C_signed x1 x2 = some z) : cs_i l my_C_signed mb_C_signed 2 .int rm_c_C_signed D (ty_ cI cT) [.int x1, .int x2] w w z := by
  refine cs_i_of (by decide) (Nat.le_of_ble_eq_true rfl) ?_
  intro p e s m below meth c A ls X hr hlk hK hP hD hS hA hZ hl
  have hx := X.1
  have hb := X.2.1
  have hl : lv_has ls 2 [(0, .int x1), (1, .int x2)] := hl
  unfold tc_C_signed at hf
  refine lv_iload_n hx hb d_C_signed_0 rfl (lv_at hl 1 rfl) ?_
  refine lv_iconst (v := (1 : Int32)) hx hb d_C_signed_1 (by decide) ?_
  refine lv_icmp_ne (tgt := 10) hx hb d_C_signed_2 (by decide) (fun hc => ?_) (fun hc => ?_)
  · replace hf := (if_neg hc).symm.trans hf
    refine lv_iload_n hx hb d_C_signed_10 rfl (lv_at hl 0 rfl) ?_
    refine lv_i2s hx hb d_C_signed_11 rfl ?_
    have hq := Option.some.inj hf
    subst hq
    exact rt_i (r := x1.toInt16.toInt32) X hr hlk hK rfl hP hD hS d_C_signed_12
  · replace hf := (if_pos hc).symm.trans hf
    refine lv_iload_n hx hb d_C_signed_5 rfl (lv_at hl 0 rfl) ?_
    refine lv_i2b hx hb d_C_signed_6 rfl ?_
    refine lv_goto (tgt := 12) hx hb d_C_signed_7 (by decide) ?_
    have hq := Option.some.inj hf
    subst hq
    exact rt_i (r := x1.toInt8.toInt32) X hr hlk hK rfl hP hD hS d_C_signed_12
set_option maxHeartbeats 4000000 in
set_option maxRecDepth 100000 in
theorem c_tc_C_carry  {z : Int32} (hf : tc_C_carry gc = some z) : cs_i l my_C_carry mb_C_carry 1 .int rm_c_C_carry D (ty_ cI cT) [.ref aC] (ce_ aG aC cI cT ga gb gd gc gx gy gu gs gp) (ce_ aG aC cI cT ga gb gd gc gx gy gu gs gp) z := by
  refine cs_i_of (by decide) (Nat.le_of_ble_eq_true rfl) ?_
  intro p e s m below meth c A ls X hr hlk hK hP hD hS hA hZ hl
  have hx := X.1
  have hb := X.2.1
  have hl : lv_has ls 1 [(0, .ref aC)] := hl
  unfold tc_C_carry at hf
  refine lv_aload_n hx hb d_C_carry_0 rfl (lv_at hl 0 rfl) ?_
  refine ce_g_C_registers_C X hK hP d_C_carry_1 ?_
  refine ce_g_G_cc_C X hK hP d_C_carry_4 ?_
  refine lv_iconst (v := (1 : Int32)) hx hb d_C_carry_7 (by decide) ?_
  refine lv_iand hx hb d_C_carry_8 ?_
  have hq := Option.some.inj hf
  subst hq
  exact rt_i (r := (gc &&& (1 : Int32))) X hr hlk hK rfl hP hD hS d_C_carry_9
set_option maxHeartbeats 4000000 in
set_option maxRecDepth 100000 in
theorem c_tc_C_maskOf {x1 : Int32} {z : Int32} (hf : tc_C_maskOf x1 = some z) : cs_i l my_C_maskOf mb_C_maskOf 1 .int rm_c_C_maskOf D (ty_ cI cT) [.int x1] w w z := by
  refine cs_i_of (by decide) (Nat.le_of_ble_eq_true rfl) ?_
  intro p e s m below meth c A ls X hr hlk hK hP hD hS hA hZ hl
  have hx := X.1
  have hb := X.2.1
  have hl : lv_has ls 1 [(0, .int x1)] := hl
  unfold tc_C_maskOf at hf
  refine lv_iload_n hx hb d_C_maskOf_0 rfl (lv_at hl 0 rfl) ?_
  refine lv_iconst (v := (1 : Int32)) hx hb d_C_maskOf_1 (by decide) ?_
  refine lv_icmp_ne (tgt := 11) hx hb d_C_maskOf_2 (by decide) (fun hc => ?_) (fun hc => ?_)
  · replace hf := (if_neg hc).symm.trans hf
    refine lv_ldc (v := (65535 : Int32)) hx hb X.2.2.2.1 (X.2.2.2.2 _ ww_0) d_C_maskOf_11 ?_
    have hq := Option.some.inj hf
    subst hq
    exact rt_i (r := (65535 : Int32)) X hr hlk hK rfl hP hD hS d_C_maskOf_13
  · replace hf := (if_pos hc).symm.trans hf
    refine lv_sipush (v := (255 : Int32)) hx hb d_C_maskOf_5 (by decide) ?_
    refine lv_goto (tgt := 13) hx hb d_C_maskOf_8 (by decide) ?_
    have hq := Option.some.inj hf
    subst hq
    exact rt_i (r := (255 : Int32)) X hr hlk hK rfl hP hD hS d_C_maskOf_13
set_option maxHeartbeats 4000000 in
set_option maxRecDepth 100000 in
theorem c_tc_C_signOf {x1 : Int32} {x2 : Int32} {z : Int32} (hf : tc_C_signOf x1 x2 = some z) : cs_i l my_C_signOf mb_C_signOf 2 .int rm_c_C_signOf D (ty_ cI cT) [.int x1, .int x2] w w z := by
  refine cs_i_of (by decide) (Nat.le_of_ble_eq_true rfl) ?_
  intro p e s m below meth c A ls X hr hlk hK hP hD hS hA hZ hl
  have hx := X.1
  have hb := X.2.1
  have hl : lv_has ls 2 [(0, .int x1), (1, .int x2)] := hl
  unfold tc_C_signOf at hf
  refine lv_iload_n hx hb d_C_signOf_0 rfl (lv_at hl 0 rfl) ?_
  refine lv_if_ne (tgt := 6) hx hb d_C_signOf_1 (by decide) (fun hc => ?_) (fun hc => ?_)
  · replace hf := (if_neg hc).symm.trans hf
    refine lv_iload_n hx hb d_C_signOf_6 rfl (lv_at hl 0 rfl) ?_
    refine lv_iload_n hx hb d_C_signOf_7 rfl (lv_at hl 1 rfl) ?_
    obtain ⟨z2, hz2, hf⟩ := op_b hf
    refine cf_si X cx_C_29 hK hP hD hS hA hZ hl (c_tc_C_signed (w := w) hz2) ⟨rfl, rfl, Nat.le_of_ble_eq_true rfl, Nat.le_of_ble_eq_true rfl⟩ rfl rfl (Nat.le_of_ble_eq_true rfl) d_C_signOf_8 (fun H locs hP hD hS => ?_)
    refine lv_if_ge (tgt := 19) hx hb d_C_signOf_11 (by decide) (fun hc => ?_) (fun hc => ?_)
    · replace hf := (if_pos hc).symm.trans hf
      refine lv_iconst (v := (0 : Int32)) hx hb d_C_signOf_19 (by decide) ?_
      have hq := Option.some.inj hf
      subst hq
      exact rt_i (r := (0 : Int32)) X hr hlk hK rfl hP hD hS d_C_signOf_20
    · replace hf := (if_neg hc).symm.trans hf
      refine lv_bipush (v := (8 : Int32)) hx hb d_C_signOf_14 (by decide) ?_
      refine lv_goto (tgt := 20) hx hb d_C_signOf_16 (by decide) ?_
      have hq := Option.some.inj hf
      subst hq
      exact rt_i (r := (8 : Int32)) X hr hlk hK rfl hP hD hS d_C_signOf_20
  · replace hf := (if_pos hc).symm.trans hf
    refine lv_iconst (v := (4 : Int32)) hx hb d_C_signOf_4 (by decide) ?_
    have hq := Option.some.inj hf
    subst hq
    exact rt_i (r := (4 : Int32)) X hr hlk hK rfl hP hD hS d_C_signOf_5
set_option maxHeartbeats 4000000 in
set_option maxRecDepth 100000 in
theorem c_tc_G_setFlags {x1 : Int32} {x2 : Int32} {z : Int32} (hf : tc_G_setFlags x1 x2 gc = some z) : cs_v l my_G_setFlags mb_G_setFlags 3 rm_c_G_setFlags D (ty_ cI cT) [.ref aG, .int x1, .int x2] (cg_ aG cI cT ga gb gd gc gx gy gu gs gp) (cg_ aG cI cT ga gb gd z gx gy gu gs gp) := by
  refine cs_v_of (by decide) (Nat.le_of_ble_eq_true rfl) ?_
  intro p e s m below meth c A ls X hr hlk hK hP hD hS hA hZ hl
  have hx := X.1
  have hb := X.2.1
  have hl : lv_has ls 3 [(0, .ref aG), (1, .int x1), (2, .int x2)] := hl
  unfold tc_G_setFlags at hf
  refine lv_aload_n hx hb d_G_setFlags_0 rfl (lv_at hl 0 rfl) ?_
  refine lv_aload_n hx hb d_G_setFlags_1 rfl (lv_at hl 0 rfl) ?_
  refine cg_g_G_cc_G X hK hP d_G_setFlags_2 ?_
  refine lv_iload_n hx hb d_G_setFlags_5 rfl (lv_at hl 1 rfl) ?_
  refine lv_iconst (v := (-1 : Int32)) hx hb d_G_setFlags_6 (by decide) ?_
  refine lv_ixor hx hb d_G_setFlags_7 ?_
  refine lv_iand hx hb d_G_setFlags_8 ?_
  refine lv_iload_n hx hb d_G_setFlags_9 rfl (lv_at hl 2 rfl) ?_
  refine lv_ior hx hb d_G_setFlags_10 ?_
  refine cg_p_G_cc_G (x := ((gc &&& (x1 ^^^ (-1 : Int32))) ||| x2)) X hK hP hD hS d_G_setFlags_11 (fun H locs hP hD hS => ?_)
  have hq := Option.some.inj hf
  subst hq
  exact rt_v X hr hlk hK hP hD hS d_G_setFlags_14
set_option maxHeartbeats 4000000 in
set_option maxRecDepth 100000 in
theorem c_tc_C_sum {x1 : Int32} {x2 : Int32} {x3 : Int32} {x4 : Int32} {z : Int32 × Int32} (hf : tc_C_sum x1 x2 x3 x4 gc = some z) : cs_i l my_C_sum mb_C_sum 8 .int rm_c_C_sum D (ty_ cI cT) [.ref aC, .int x1, .int x2, .int x3, .int x4] (ce_ aG aC cI cT ga gb gd gc gx gy gu gs gp) (ce_ aG aC cI cT ga gb gd z.2 gx gy gu gs gp) z.1 := by
  refine cs_i_of (by decide) (Nat.le_of_ble_eq_true rfl) ?_
  intro p e s m below meth c A ls X hr hlk hK hP hD hS hA hZ hl
  have hx := X.1
  have hb := X.2.1
  have hl : lv_has ls 8 [(0, .ref aC), (1, .int x1), (2, .int x2), (3, .int x3), (4, .int x4)] := hl
  have J73 : ∀ (v6 : Int32) (v7 : Int32) (gc : Int32), tc_C_sum_j73 v6 v7 gc = some z → ∀ (H : Heap) (locs : List Loc) (ls : Array Slot), lv_has ls 8 [(0, .ref aC), (6, .int v6), (7, .int v7)] → va_P D cz_all (ce_ aG aC cI cT ga gb gd gc gx gy gu gs gp) H → va_D A (ce_ aG aC cI cT ga gb gd gc gx gy gu gs gp) → va_S A s.heap H locs → W p l e rm_c_C_sum s m ([.ref aC, .int x1, .int x2, .int x3, .int x4] : List Value).toArray below meth c H locs 0 0 (MQ below (qs_i D (ty_ cI cT) (ce_ aG aC cI cT ga gb gd z.2 gx gy gu gs gp) z.1 A) ([.ref aC, .int x1, .int x2, .int x3, .int x4] : List Value).toArray s 0 0 A) (F0 m 73 ls []) := by
    intro v6 v7 gc hf H locs ls hl hP hD hS
    unfold tc_C_sum_j73 at hf
    refine lv_aload_n hx hb d_C_sum_73 rfl (lv_at hl 0 rfl) ?_
    refine ce_g_C_registers_C X hK hP d_C_sum_74 ?_
    refine lv_bipush (v := (15 : Int32)) hx hb d_C_sum_77 (by decide) ?_
    refine lv_iload hx hb d_C_sum_79 (lv_at hl 2 rfl) ?_
    obtain ⟨z7, hz7, hf⟩ := op_b hf
    refine cf_v (ws2 := (ce_ aG aC cI cT ga gb gd z7 gx gy gu gs gp)) X cx_C_32 hK hP hD hS hA hZ hl (c_tc_G_setFlags (aG := aG) (ga := ga) (gb := gb) (gd := gd) (gc := gc) (gx := gx) (gy := gy) (gu := gu) (gs := gs) (gp := gp) hz7) ⟨rfl, rfl, Nat.le_of_ble_eq_true rfl, Nat.le_of_ble_eq_true rfl⟩ [1] [0] [0, 1] rfl rfl rfl rfl (by decide) rfl rfl 0 rfl rfl rfl rfl rfl (Nat.le_of_ble_eq_true rfl) d_C_sum_81 (fun H locs hP hD hS => ?_)
    refine lv_iload hx hb d_C_sum_84 (lv_at hl 1 rfl) ?_
    have hq := Option.some.inj hf
    subst hq
    exact rt_i (r := v6) X hr hlk hK rfl hP hD hS d_C_sum_86
  have J42 : ∀ (v1 : Int32) (v2 : Int32) (v3 : Int32) (v4 : Int32) (v6 : Int32) (v7 : Int32) (gc : Int32), tc_C_sum_j42 v1 v2 v3 v4 v6 v7 gc = some z → ∀ (H : Heap) (locs : List Loc) (ls : Array Slot), lv_has ls 8 [(0, .ref aC), (1, .int v1), (2, .int v2), (3, .int v3), (4, .int v4), (6, .int v6), (7, .int v7)] → va_P D cz_all (ce_ aG aC cI cT ga gb gd gc gx gy gu gs gp) H → va_D A (ce_ aG aC cI cT ga gb gd gc gx gy gu gs gp) → va_S A s.heap H locs → W p l e rm_c_C_sum s m ([.ref aC, .int x1, .int x2, .int x3, .int x4] : List Value).toArray below meth c H locs 0 0 (MQ below (qs_i D (ty_ cI cT) (ce_ aG aC cI cT ga gb gd z.2 gx gy gu gs gp) z.1 A) ([.ref aC, .int x1, .int x2, .int x3, .int x4] : List Value).toArray s 0 0 A) (F0 m 42 ls []) := by
    intro v1 v2 v3 v4 v6 v7 gc hf H locs ls hl hP hD hS
    unfold tc_C_sum_j42 at hf
    refine lv_iload_n hx hb d_C_sum_42 rfl (lv_at hl 1 rfl) ?_
    refine lv_iload hx hb d_C_sum_43 (lv_at hl 4 rfl) ?_
    obtain ⟨z8, hz8, hf⟩ := op_b hf
    refine cf_si X cx_C_29 hK hP hD hS hA hZ hl (c_tc_C_signed (w := (ce_ aG aC cI cT ga gb gd gc gx gy gu gs gp)) hz8) ⟨rfl, rfl, Nat.le_of_ble_eq_true rfl, Nat.le_of_ble_eq_true rfl⟩ rfl rfl (Nat.le_of_ble_eq_true rfl) d_C_sum_45 (fun H locs hP hD hS => ?_)
    refine lv_iload_n hx hb d_C_sum_48 rfl (lv_at hl 2 rfl) ?_
    refine lv_iload hx hb d_C_sum_49 (lv_at hl 4 rfl) ?_
    obtain ⟨z9, hz9, hf⟩ := op_b hf
    refine cf_si X cx_C_29 hK hP hD hS hA hZ hl (c_tc_C_signed (w := (ce_ aG aC cI cT ga gb gd gc gx gy gu gs gp)) hz9) ⟨rfl, rfl, Nat.le_of_ble_eq_true rfl, Nat.le_of_ble_eq_true rfl⟩ rfl rfl (Nat.le_of_ble_eq_true rfl) d_C_sum_51 (fun H locs hP hD hS => ?_)
    refine lv_iadd hx hb d_C_sum_54 ?_
    refine lv_iload_n hx hb d_C_sum_55 rfl (lv_at hl 3 rfl) ?_
    refine lv_iadd hx hb d_C_sum_56 ?_
    refine lv_iload hx hb d_C_sum_57 (lv_at hl 5 rfl) ?_
    refine lv_iload hx hb d_C_sum_59 (lv_at hl 4 rfl) ?_
    obtain ⟨z10, hz10, hf⟩ := op_b hf
    refine cf_si X cx_C_29 hK hP hD hS hA hZ hl (c_tc_C_signed (w := (ce_ aG aC cI cT ga gb gd gc gx gy gu gs gp)) hz10) ⟨rfl, rfl, Nat.le_of_ble_eq_true rfl, Nat.le_of_ble_eq_true rfl⟩ rfl rfl (Nat.le_of_ble_eq_true rfl) d_C_sum_61 (fun H locs hP hD hS => ?_)
    refine lv_icmp_eq (tgt := 73) hx hb d_C_sum_64 (by decide) (fun hc => ?_) (fun hc => ?_)
    · replace hf := (if_pos hc).symm.trans hf
      exact J73 v6 v7 gc hf _ _ _ (lv_sub hl [0, 5, 6] rfl) hP hD hS
    · replace hf := (if_neg hc).symm.trans hf
      refine lv_iload hx hb d_C_sum_67 (lv_at hl 6 rfl) ?_
      refine lv_iconst (v := (2 : Int32)) hx hb d_C_sum_69 (by decide) ?_
      refine lv_ior hx hb d_C_sum_70 ?_
      refine lv_istore hx hb d_C_sum_71 hl (by decide) rfl (fun ls hl => ?_)
      have hl : lv_has ls 8 [(7, .int (v7 ||| (2 : Int32))), (0, .ref aC), (1, .int v1), (2, .int v2), (3, .int v3), (4, .int v4), (6, .int v6)] := hl
      exact J73 v6 (v7 ||| (2 : Int32)) gc hf _ _ _ (lv_sub hl [1, 6, 0] rfl) hP hD hS
  unfold tc_C_sum at hf
  refine lv_iload hx hb d_C_sum_0 (lv_at hl 4 rfl) ?_
  obtain ⟨z11, hz11, hf⟩ := op_b hf
  refine cf_si X cx_C_21 hK hP hD hS hA hZ hl (c_tc_C_maskOf (w := (ce_ aG aC cI cT ga gb gd gc gx gy gu gs gp)) hz11) ⟨rfl, rfl, Nat.le_of_ble_eq_true rfl, Nat.le_of_ble_eq_true rfl⟩ rfl rfl (Nat.le_of_ble_eq_true rfl) d_C_sum_2 (fun H locs hP hD hS => ?_)
  refine lv_istore hx hb d_C_sum_5 hl (by decide) rfl (fun ls hl => ?_)
  have hl : lv_has ls 8 [(5, .int z11), (0, .ref aC), (1, .int x1), (2, .int x2), (3, .int x3), (4, .int x4)] := hl
  refine lv_iload_n hx hb d_C_sum_7 rfl (lv_at hl 2 rfl) ?_
  refine lv_iload_n hx hb d_C_sum_8 rfl (lv_at hl 3 rfl) ?_
  refine lv_iadd hx hb d_C_sum_9 ?_
  refine lv_iload_n hx hb d_C_sum_10 rfl (lv_at hl 4 rfl) ?_
  refine lv_iadd hx hb d_C_sum_11 ?_
  refine lv_iload hx hb d_C_sum_12 (lv_at hl 0 rfl) ?_
  refine lv_iand hx hb d_C_sum_14 ?_
  refine lv_istore hx hb d_C_sum_15 hl (by decide) rfl (fun ls hl => ?_)
  have hl : lv_has ls 8 [(6, .int (((x1 + x2) + x3) &&& z11)), (5, .int z11), (0, .ref aC), (1, .int x1), (2, .int x2), (3, .int x3), (4, .int x4)] := hl
  refine lv_iload hx hb d_C_sum_17 (lv_at hl 0 rfl) ?_
  refine lv_iload hx hb d_C_sum_19 (lv_at hl 6 rfl) ?_
  obtain ⟨z12, hz12, hf⟩ := op_b hf
  refine cf_si X cx_C_25 hK hP hD hS hA hZ hl (c_tc_C_signOf (w := (ce_ aG aC cI cT ga gb gd gc gx gy gu gs gp)) hz12) ⟨rfl, rfl, Nat.le_of_ble_eq_true rfl, Nat.le_of_ble_eq_true rfl⟩ rfl rfl (Nat.le_of_ble_eq_true rfl) d_C_sum_21 (fun H locs hP hD hS => ?_)
  refine lv_istore hx hb d_C_sum_24 hl (by decide) rfl (fun ls hl => ?_)
  have hl : lv_has ls 8 [(7, .int z12), (6, .int (((x1 + x2) + x3) &&& z11)), (5, .int z11), (0, .ref aC), (1, .int x1), (2, .int x2), (3, .int x3), (4, .int x4)] := hl
  refine lv_iload_n hx hb d_C_sum_26 rfl (lv_at hl 4 rfl) ?_
  refine lv_iload_n hx hb d_C_sum_27 rfl (lv_at hl 5 rfl) ?_
  refine lv_iadd hx hb d_C_sum_28 ?_
  refine lv_iload_n hx hb d_C_sum_29 rfl (lv_at hl 6 rfl) ?_
  refine lv_iadd hx hb d_C_sum_30 ?_
  refine lv_iload hx hb d_C_sum_31 (lv_at hl 2 rfl) ?_
  refine lv_icmp_le (tgt := 42) hx hb d_C_sum_33 (by decide) (fun hc => ?_) (fun hc => ?_)
  · replace hf := (if_pos hc).symm.trans hf
    exact J42 x1 x2 x3 x4 (((x1 + x2) + x3) &&& z11) z12 gc hf _ _ _ (lv_sub hl [3, 4, 5, 6, 7, 1, 0] rfl) hP hD hS
  · replace hf := (if_neg hc).symm.trans hf
    refine lv_iload hx hb d_C_sum_36 (lv_at hl 0 rfl) ?_
    refine lv_iconst (v := (1 : Int32)) hx hb d_C_sum_38 (by decide) ?_
    refine lv_ior hx hb d_C_sum_39 ?_
    refine lv_istore hx hb d_C_sum_40 hl (by decide) rfl (fun ls hl => ?_)
    have hl : lv_has ls 8 [(7, .int (z12 ||| (1 : Int32))), (6, .int (((x1 + x2) + x3) &&& z11)), (5, .int z11), (0, .ref aC), (1, .int x1), (2, .int x2), (3, .int x3), (4, .int x4)] := hl
    exact J42 x1 x2 x3 x4 (((x1 + x2) + x3) &&& z11) (z12 ||| (1 : Int32)) gc hf _ _ _ (lv_sub hl [3, 4, 5, 6, 7, 1, 0] rfl) hP hD hS
set_option maxHeartbeats 4000000 in
set_option maxRecDepth 100000 in
theorem c_tc_C_difference {x1 : Int32} {x2 : Int32} {x3 : Int32} {x4 : Int32} {z : Int32 × Int32} (hf : tc_C_difference x1 x2 x3 x4 gc = some z) : cs_i l my_C_difference mb_C_difference 7 .int rm_c_C_difference D (ty_ cI cT) [.ref aC, .int x1, .int x2, .int x3, .int x4] (ce_ aG aC cI cT ga gb gd gc gx gy gu gs gp) (ce_ aG aC cI cT ga gb gd z.2 gx gy gu gs gp) z.1 := by
  refine cs_i_of (by decide) (Nat.le_of_ble_eq_true rfl) ?_
  intro p e s m below meth c A ls X hr hlk hK hP hD hS hA hZ hl
  have hx := X.1
  have hb := X.2.1
  have hl : lv_has ls 7 [(0, .ref aC), (1, .int x1), (2, .int x2), (3, .int x3), (4, .int x4)] := hl
  have J66 : ∀ (v5 : Int32) (v6 : Int32) (gc : Int32), tc_C_difference_j66 v5 v6 gc = some z → ∀ (H : Heap) (locs : List Loc) (ls : Array Slot), lv_has ls 7 [(0, .ref aC), (5, .int v5), (6, .int v6)] → va_P D cz_all (ce_ aG aC cI cT ga gb gd gc gx gy gu gs gp) H → va_D A (ce_ aG aC cI cT ga gb gd gc gx gy gu gs gp) → va_S A s.heap H locs → W p l e rm_c_C_difference s m ([.ref aC, .int x1, .int x2, .int x3, .int x4] : List Value).toArray below meth c H locs 0 0 (MQ below (qs_i D (ty_ cI cT) (ce_ aG aC cI cT ga gb gd z.2 gx gy gu gs gp) z.1 A) ([.ref aC, .int x1, .int x2, .int x3, .int x4] : List Value).toArray s 0 0 A) (F0 m 66 ls []) := by
    intro v5 v6 gc hf H locs ls hl hP hD hS
    unfold tc_C_difference_j66 at hf
    refine lv_aload_n hx hb d_C_difference_66 rfl (lv_at hl 0 rfl) ?_
    refine ce_g_C_registers_C X hK hP d_C_difference_67 ?_
    refine lv_bipush (v := (15 : Int32)) hx hb d_C_difference_70 (by decide) ?_
    refine lv_iload hx hb d_C_difference_72 (lv_at hl 2 rfl) ?_
    obtain ⟨z7, hz7, hf⟩ := op_b hf
    refine cf_v (ws2 := (ce_ aG aC cI cT ga gb gd z7 gx gy gu gs gp)) X cx_C_32 hK hP hD hS hA hZ hl (c_tc_G_setFlags (aG := aG) (ga := ga) (gb := gb) (gd := gd) (gc := gc) (gx := gx) (gy := gy) (gu := gu) (gs := gs) (gp := gp) hz7) ⟨rfl, rfl, Nat.le_of_ble_eq_true rfl, Nat.le_of_ble_eq_true rfl⟩ [1] [0] [0, 1] rfl rfl rfl rfl (by decide) rfl rfl 0 rfl rfl rfl rfl rfl (Nat.le_of_ble_eq_true rfl) d_C_difference_74 (fun H locs hP hD hS => ?_)
    refine lv_iload hx hb d_C_difference_77 (lv_at hl 1 rfl) ?_
    have hq := Option.some.inj hf
    subst hq
    exact rt_i (r := v5) X hr hlk hK rfl hP hD hS d_C_difference_79
  have J35 : ∀ (v1 : Int32) (v2 : Int32) (v3 : Int32) (v4 : Int32) (v5 : Int32) (v6 : Int32) (gc : Int32), tc_C_difference_j35 v1 v2 v3 v4 v5 v6 gc = some z → ∀ (H : Heap) (locs : List Loc) (ls : Array Slot), lv_has ls 7 [(0, .ref aC), (1, .int v1), (2, .int v2), (3, .int v3), (4, .int v4), (5, .int v5), (6, .int v6)] → va_P D cz_all (ce_ aG aC cI cT ga gb gd gc gx gy gu gs gp) H → va_D A (ce_ aG aC cI cT ga gb gd gc gx gy gu gs gp) → va_S A s.heap H locs → W p l e rm_c_C_difference s m ([.ref aC, .int x1, .int x2, .int x3, .int x4] : List Value).toArray below meth c H locs 0 0 (MQ below (qs_i D (ty_ cI cT) (ce_ aG aC cI cT ga gb gd z.2 gx gy gu gs gp) z.1 A) ([.ref aC, .int x1, .int x2, .int x3, .int x4] : List Value).toArray s 0 0 A) (F0 m 35 ls []) := by
    intro v1 v2 v3 v4 v5 v6 gc hf H locs ls hl hP hD hS
    unfold tc_C_difference_j35 at hf
    refine lv_iload_n hx hb d_C_difference_35 rfl (lv_at hl 1 rfl) ?_
    refine lv_iload hx hb d_C_difference_36 (lv_at hl 4 rfl) ?_
    obtain ⟨z8, hz8, hf⟩ := op_b hf
    refine cf_si X cx_C_29 hK hP hD hS hA hZ hl (c_tc_C_signed (w := (ce_ aG aC cI cT ga gb gd gc gx gy gu gs gp)) hz8) ⟨rfl, rfl, Nat.le_of_ble_eq_true rfl, Nat.le_of_ble_eq_true rfl⟩ rfl rfl (Nat.le_of_ble_eq_true rfl) d_C_difference_38 (fun H locs hP hD hS => ?_)
    refine lv_iload_n hx hb d_C_difference_41 rfl (lv_at hl 2 rfl) ?_
    refine lv_iload hx hb d_C_difference_42 (lv_at hl 4 rfl) ?_
    obtain ⟨z9, hz9, hf⟩ := op_b hf
    refine cf_si X cx_C_29 hK hP hD hS hA hZ hl (c_tc_C_signed (w := (ce_ aG aC cI cT ga gb gd gc gx gy gu gs gp)) hz9) ⟨rfl, rfl, Nat.le_of_ble_eq_true rfl, Nat.le_of_ble_eq_true rfl⟩ rfl rfl (Nat.le_of_ble_eq_true rfl) d_C_difference_44 (fun H locs hP hD hS => ?_)
    refine lv_isub hx hb d_C_difference_47 ?_
    refine lv_iload_n hx hb d_C_difference_48 rfl (lv_at hl 3 rfl) ?_
    refine lv_isub hx hb d_C_difference_49 ?_
    refine lv_iload hx hb d_C_difference_50 (lv_at hl 5 rfl) ?_
    refine lv_iload hx hb d_C_difference_52 (lv_at hl 4 rfl) ?_
    obtain ⟨z10, hz10, hf⟩ := op_b hf
    refine cf_si X cx_C_29 hK hP hD hS hA hZ hl (c_tc_C_signed (w := (ce_ aG aC cI cT ga gb gd gc gx gy gu gs gp)) hz10) ⟨rfl, rfl, Nat.le_of_ble_eq_true rfl, Nat.le_of_ble_eq_true rfl⟩ rfl rfl (Nat.le_of_ble_eq_true rfl) d_C_difference_54 (fun H locs hP hD hS => ?_)
    refine lv_icmp_eq (tgt := 66) hx hb d_C_difference_57 (by decide) (fun hc => ?_) (fun hc => ?_)
    · replace hf := (if_pos hc).symm.trans hf
      exact J66 v5 v6 gc hf _ _ _ (lv_sub hl [0, 5, 6] rfl) hP hD hS
    · replace hf := (if_neg hc).symm.trans hf
      refine lv_iload hx hb d_C_difference_60 (lv_at hl 6 rfl) ?_
      refine lv_iconst (v := (2 : Int32)) hx hb d_C_difference_62 (by decide) ?_
      refine lv_ior hx hb d_C_difference_63 ?_
      refine lv_istore hx hb d_C_difference_64 hl (by decide) rfl (fun ls hl => ?_)
      have hl : lv_has ls 7 [(6, .int (v6 ||| (2 : Int32))), (0, .ref aC), (1, .int v1), (2, .int v2), (3, .int v3), (4, .int v4), (5, .int v5)] := hl
      exact J66 v5 (v6 ||| (2 : Int32)) gc hf _ _ _ (lv_sub hl [1, 6, 0] rfl) hP hD hS
  unfold tc_C_difference at hf
  refine lv_iload_n hx hb d_C_difference_0 rfl (lv_at hl 1 rfl) ?_
  refine lv_iload_n hx hb d_C_difference_1 rfl (lv_at hl 2 rfl) ?_
  refine lv_isub hx hb d_C_difference_2 ?_
  refine lv_iload_n hx hb d_C_difference_3 rfl (lv_at hl 3 rfl) ?_
  refine lv_isub hx hb d_C_difference_4 ?_
  refine lv_iload hx hb d_C_difference_5 (lv_at hl 4 rfl) ?_
  obtain ⟨z11, hz11, hf⟩ := op_b hf
  refine cf_si X cx_C_21 hK hP hD hS hA hZ hl (c_tc_C_maskOf (w := (ce_ aG aC cI cT ga gb gd gc gx gy gu gs gp)) hz11) ⟨rfl, rfl, Nat.le_of_ble_eq_true rfl, Nat.le_of_ble_eq_true rfl⟩ rfl rfl (Nat.le_of_ble_eq_true rfl) d_C_difference_7 (fun H locs hP hD hS => ?_)
  refine lv_iand hx hb d_C_difference_10 ?_
  refine lv_istore hx hb d_C_difference_11 hl (by decide) rfl (fun ls hl => ?_)
  have hl : lv_has ls 7 [(5, .int (((x1 - x2) - x3) &&& z11)), (0, .ref aC), (1, .int x1), (2, .int x2), (3, .int x3), (4, .int x4)] := hl
  refine lv_iload hx hb d_C_difference_13 (lv_at hl 0 rfl) ?_
  refine lv_iload hx hb d_C_difference_15 (lv_at hl 5 rfl) ?_
  obtain ⟨z12, hz12, hf⟩ := op_b hf
  refine cf_si X cx_C_25 hK hP hD hS hA hZ hl (c_tc_C_signOf (w := (ce_ aG aC cI cT ga gb gd gc gx gy gu gs gp)) hz12) ⟨rfl, rfl, Nat.le_of_ble_eq_true rfl, Nat.le_of_ble_eq_true rfl⟩ rfl rfl (Nat.le_of_ble_eq_true rfl) d_C_difference_17 (fun H locs hP hD hS => ?_)
  refine lv_istore hx hb d_C_difference_20 hl (by decide) rfl (fun ls hl => ?_)
  have hl : lv_has ls 7 [(6, .int z12), (5, .int (((x1 - x2) - x3) &&& z11)), (0, .ref aC), (1, .int x1), (2, .int x2), (3, .int x3), (4, .int x4)] := hl
  refine lv_iload_n hx hb d_C_difference_22 rfl (lv_at hl 4 rfl) ?_
  refine lv_iload_n hx hb d_C_difference_23 rfl (lv_at hl 5 rfl) ?_
  refine lv_iadd hx hb d_C_difference_24 ?_
  refine lv_iload_n hx hb d_C_difference_25 rfl (lv_at hl 3 rfl) ?_
  refine lv_icmp_le (tgt := 35) hx hb d_C_difference_26 (by decide) (fun hc => ?_) (fun hc => ?_)
  · replace hf := (if_pos hc).symm.trans hf
    exact J35 x1 x2 x3 x4 (((x1 - x2) - x3) &&& z11) z12 gc hf _ _ _ (lv_sub hl [2, 3, 4, 5, 6, 1, 0] rfl) hP hD hS
  · replace hf := (if_neg hc).symm.trans hf
    refine lv_iload hx hb d_C_difference_29 (lv_at hl 0 rfl) ?_
    refine lv_iconst (v := (1 : Int32)) hx hb d_C_difference_31 (by decide) ?_
    refine lv_ior hx hb d_C_difference_32 ?_
    refine lv_istore hx hb d_C_difference_33 hl (by decide) rfl (fun ls hl => ?_)
    have hl : lv_has ls 7 [(6, .int (z12 ||| (1 : Int32))), (5, .int (((x1 - x2) - x3) &&& z11)), (0, .ref aC), (1, .int x1), (2, .int x2), (3, .int x3), (4, .int x4)] := hl
    exact J35 x1 x2 x3 x4 (((x1 - x2) - x3) &&& z11) (z12 ||| (1 : Int32)) gc hf _ _ _ (lv_sub hl [2, 3, 4, 5, 6, 1, 0] rfl) hP hD hS
set_option maxHeartbeats 4000000 in
set_option maxRecDepth 100000 in
theorem c_tc_C_plain {x1 : Int32} {x2 : Int32} {z : Int32 × Int32} (hf : tc_C_plain x1 x2 gc = some z) : cs_i l my_C_plain mb_C_plain 3 .int rm_c_C_plain D (ty_ cI cT) [.ref aC, .int x1, .int x2] (ce_ aG aC cI cT ga gb gd gc gx gy gu gs gp) (ce_ aG aC cI cT ga gb gd z.2 gx gy gu gs gp) z.1 := by
  refine cs_i_of (by decide) (Nat.le_of_ble_eq_true rfl) ?_
  intro p e s m below meth c A ls X hr hlk hK hP hD hS hA hZ hl
  have hx := X.1
  have hb := X.2.1
  have hl : lv_has ls 3 [(0, .ref aC), (1, .int x1), (2, .int x2)] := hl
  unfold tc_C_plain at hf
  refine lv_aload_n hx hb d_C_plain_0 rfl (lv_at hl 0 rfl) ?_
  refine ce_g_C_registers_C X hK hP d_C_plain_1 ?_
  refine lv_bipush (v := (14 : Int32)) hx hb d_C_plain_4 (by decide) ?_
  refine lv_iload_n hx hb d_C_plain_6 rfl (lv_at hl 1 rfl) ?_
  refine lv_iload_n hx hb d_C_plain_7 rfl (lv_at hl 2 rfl) ?_
  obtain ⟨z3, hz3, hf⟩ := op_b hf
  refine cf_si X cx_C_25 hK hP hD hS hA hZ hl (c_tc_C_signOf (w := (ce_ aG aC cI cT ga gb gd gc gx gy gu gs gp)) hz3) ⟨rfl, rfl, Nat.le_of_ble_eq_true rfl, Nat.le_of_ble_eq_true rfl⟩ rfl rfl (Nat.le_of_ble_eq_true rfl) d_C_plain_8 (fun H locs hP hD hS => ?_)
  obtain ⟨z4, hz4, hf⟩ := op_b hf
  refine cf_v (ws2 := (ce_ aG aC cI cT ga gb gd z4 gx gy gu gs gp)) X cx_C_32 hK hP hD hS hA hZ hl (c_tc_G_setFlags (aG := aG) (ga := ga) (gb := gb) (gd := gd) (gc := gc) (gx := gx) (gy := gy) (gu := gu) (gs := gs) (gp := gp) hz4) ⟨rfl, rfl, Nat.le_of_ble_eq_true rfl, Nat.le_of_ble_eq_true rfl⟩ [1] [0] [0, 1] rfl rfl rfl rfl (by decide) rfl rfl 0 rfl rfl rfl rfl rfl (Nat.le_of_ble_eq_true rfl) d_C_plain_11 (fun H locs hP hD hS => ?_)
  refine lv_iload_n hx hb d_C_plain_14 rfl (lv_at hl 1 rfl) ?_
  have hq := Option.some.inj hf
  subst hq
  exact rt_i (r := x1) X hr hlk hK rfl hP hD hS d_C_plain_15
set_option maxHeartbeats 4000000 in
set_option maxRecDepth 100000 in
theorem c_tc_C_plainWithCarry {x1 : Int32} {x2 : Int32} {z : Int32 × Int32} (hf : tc_C_plainWithCarry x1 x2 gc = some z) : cs_i l my_C_plainWithCarry mb_C_plainWithCarry 3 .int rm_c_C_plainWithCarry D (ty_ cI cT) [.ref aC, .int x1, .int x2] (ce_ aG aC cI cT ga gb gd gc gx gy gu gs gp) (ce_ aG aC cI cT ga gb gd z.2 gx gy gu gs gp) z.1 := by
  refine cs_i_of (by decide) (Nat.le_of_ble_eq_true rfl) ?_
  intro p e s m below meth c A ls X hr hlk hK hP hD hS hA hZ hl
  have hx := X.1
  have hb := X.2.1
  have hl : lv_has ls 3 [(0, .ref aC), (1, .int x1), (2, .int x2)] := hl
  unfold tc_C_plainWithCarry at hf
  refine lv_aload_n hx hb d_C_plainWithCarry_0 rfl (lv_at hl 0 rfl) ?_
  refine ce_g_C_registers_C X hK hP d_C_plainWithCarry_1 ?_
  refine lv_bipush (v := (15 : Int32)) hx hb d_C_plainWithCarry_4 (by decide) ?_
  refine lv_iload_n hx hb d_C_plainWithCarry_6 rfl (lv_at hl 1 rfl) ?_
  refine lv_iconst (v := (1 : Int32)) hx hb d_C_plainWithCarry_7 (by decide) ?_
  obtain ⟨z3, hz3, hf⟩ := op_b hf
  refine cf_si X cx_C_25 hK hP hD hS hA hZ hl (c_tc_C_signOf (w := (ce_ aG aC cI cT ga gb gd gc gx gy gu gs gp)) hz3) ⟨rfl, rfl, Nat.le_of_ble_eq_true rfl, Nat.le_of_ble_eq_true rfl⟩ rfl rfl (Nat.le_of_ble_eq_true rfl) d_C_plainWithCarry_8 (fun H locs hP hD hS => ?_)
  refine lv_iload_n hx hb d_C_plainWithCarry_11 rfl (lv_at hl 2 rfl) ?_
  refine lv_ior hx hb d_C_plainWithCarry_12 ?_
  obtain ⟨z4, hz4, hf⟩ := op_b hf
  refine cf_v (ws2 := (ce_ aG aC cI cT ga gb gd z4 gx gy gu gs gp)) X cx_C_32 hK hP hD hS hA hZ hl (c_tc_G_setFlags (aG := aG) (ga := ga) (gb := gb) (gd := gd) (gc := gc) (gx := gx) (gy := gy) (gu := gu) (gs := gs) (gp := gp) hz4) ⟨rfl, rfl, Nat.le_of_ble_eq_true rfl, Nat.le_of_ble_eq_true rfl⟩ [1] [0] [0, 1] rfl rfl rfl rfl (by decide) rfl rfl 0 rfl rfl rfl rfl rfl (Nat.le_of_ble_eq_true rfl) d_C_plainWithCarry_13 (fun H locs hP hD hS => ?_)
  refine lv_iload_n hx hb d_C_plainWithCarry_16 rfl (lv_at hl 1 rfl) ?_
  have hq := Option.some.inj hf
  subst hq
  exact rt_i (r := x1) X hr hlk hK rfl hP hD hS d_C_plainWithCarry_17
set_option maxHeartbeats 4000000 in
set_option maxRecDepth 100000 in
theorem c_tc_C_shiftRight {x1 : Int32} {x2 : Int32} {z : Int32 × Int32} (hf : tc_C_shiftRight x1 x2 gc = some z) : cs_i l my_C_shiftRight mb_C_shiftRight 4 .int rm_c_C_shiftRight D (ty_ cI cT) [.ref aC, .int x1, .int x2] (ce_ aG aC cI cT ga gb gd gc gx gy gu gs gp) (ce_ aG aC cI cT ga gb gd z.2 gx gy gu gs gp) z.1 := by
  refine cs_i_of (by decide) (Nat.le_of_ble_eq_true rfl) ?_
  intro p e s m below meth c A ls X hr hlk hK hP hD hS hA hZ hl
  have hx := X.1
  have hb := X.2.1
  have hl : lv_has ls 4 [(0, .ref aC), (1, .int x1), (2, .int x2)] := hl
  unfold tc_C_shiftRight at hf
  refine lv_iload_n hx hb d_C_shiftRight_0 rfl (lv_at hl 1 rfl) ?_
  refine lv_iconst (v := (1 : Int32)) hx hb d_C_shiftRight_1 (by decide) ?_
  refine lv_ishr hx hb d_C_shiftRight_2 ?_
  refine lv_iload_n hx hb d_C_shiftRight_3 rfl (lv_at hl 2 rfl) ?_
  refine lv_ior hx hb d_C_shiftRight_4 ?_
  refine lv_istore_n hx hb d_C_shiftRight_5 rfl hl (by decide) rfl (fun ls hl => ?_)
  have hl : lv_has ls 4 [(3, .int ((x1 >>> ((1 : Int32) &&& 31)) ||| x2)), (0, .ref aC), (1, .int x1), (2, .int x2)] := hl
  refine lv_aload_n hx hb d_C_shiftRight_6 rfl (lv_at hl 1 rfl) ?_
  refine ce_g_C_registers_C X hK hP d_C_shiftRight_7 ?_
  refine lv_bipush (v := (13 : Int32)) hx hb d_C_shiftRight_10 (by decide) ?_
  refine lv_iload_n hx hb d_C_shiftRight_12 rfl (lv_at hl 0 rfl) ?_
  refine lv_iconst (v := (1 : Int32)) hx hb d_C_shiftRight_13 (by decide) ?_
  obtain ⟨z3, hz3, hf⟩ := op_b hf
  refine cf_si X cx_C_25 hK hP hD hS hA hZ hl (c_tc_C_signOf (w := (ce_ aG aC cI cT ga gb gd gc gx gy gu gs gp)) hz3) ⟨rfl, rfl, Nat.le_of_ble_eq_true rfl, Nat.le_of_ble_eq_true rfl⟩ rfl rfl (Nat.le_of_ble_eq_true rfl) d_C_shiftRight_14 (fun H locs hP hD hS => ?_)
  refine lv_iload_n hx hb d_C_shiftRight_17 rfl (lv_at hl 2 rfl) ?_
  refine lv_iconst (v := (1 : Int32)) hx hb d_C_shiftRight_18 (by decide) ?_
  refine lv_iand hx hb d_C_shiftRight_19 ?_
  refine lv_ior hx hb d_C_shiftRight_20 ?_
  obtain ⟨z4, hz4, hf⟩ := op_b hf
  refine cf_v (ws2 := (ce_ aG aC cI cT ga gb gd z4 gx gy gu gs gp)) X cx_C_32 hK hP hD hS hA hZ hl (c_tc_G_setFlags (aG := aG) (ga := ga) (gb := gb) (gd := gd) (gc := gc) (gx := gx) (gy := gy) (gu := gu) (gs := gs) (gp := gp) hz4) ⟨rfl, rfl, Nat.le_of_ble_eq_true rfl, Nat.le_of_ble_eq_true rfl⟩ [1] [0] [0, 1] rfl rfl rfl rfl (by decide) rfl rfl 0 rfl rfl rfl rfl rfl (Nat.le_of_ble_eq_true rfl) d_C_shiftRight_21 (fun H locs hP hD hS => ?_)
  refine lv_iload_n hx hb d_C_shiftRight_24 rfl (lv_at hl 0 rfl) ?_
  have hq := Option.some.inj hf
  subst hq
  exact rt_i (r := ((x1 >>> ((1 : Int32) &&& 31)) ||| x2)) X hr hlk hK rfl hP hD hS d_C_shiftRight_25
set_option maxHeartbeats 4000000 in
set_option maxRecDepth 100000 in
theorem c_tc_C_shiftLeft {x1 : Int32} {x2 : Int32} {z : Int32 × Int32} (hf : tc_C_shiftLeft x1 x2 gc = some z) : cs_i l my_C_shiftLeft mb_C_shiftLeft 6 .int rm_c_C_shiftLeft D (ty_ cI cT) [.ref aC, .int x1, .int x2] (ce_ aG aC cI cT ga gb gd gc gx gy gu gs gp) (ce_ aG aC cI cT ga gb gd z.2 gx gy gu gs gp) z.1 := by
  refine cs_i_of (by decide) (Nat.le_of_ble_eq_true rfl) ?_
  intro p e s m below meth c A ls X hr hlk hK hP hD hS hA hZ hl
  have hx := X.1
  have hb := X.2.1
  have hl : lv_has ls 6 [(0, .ref aC), (1, .int x1), (2, .int x2)] := hl
  have J32 : ∀ (v3 : Int32) (v4 : Int32) (s0 : Int32) (gc : Int32), tc_C_shiftLeft_j32 v3 v4 s0 gc = some z → ∀ (H : Heap) (locs : List Loc) (ls : Array Slot), lv_has ls 6 [(0, .ref aC), (3, .int v3), (4, .int v4)] → va_P D cz_all (ce_ aG aC cI cT ga gb gd gc gx gy gu gs gp) H → va_D A (ce_ aG aC cI cT ga gb gd gc gx gy gu gs gp) → va_S A s.heap H locs → W p l e rm_c_C_shiftLeft s m ([.ref aC, .int x1, .int x2] : List Value).toArray below meth c H locs 0 0 (MQ below (qs_i D (ty_ cI cT) (ce_ aG aC cI cT ga gb gd z.2 gx gy gu gs gp) z.1 A) ([.ref aC, .int x1, .int x2] : List Value).toArray s 0 0 A) (F0 m 32 ls [.int s0]) := by
    intro v3 v4 s0 gc hf H locs ls hl hP hD hS
    unfold tc_C_shiftLeft_j32 at hf
    refine lv_istore hx hb d_C_shiftLeft_32 hl (by decide) rfl (fun ls hl => ?_)
    have hl : lv_has ls 6 [(5, .int s0), (0, .ref aC), (3, .int v3), (4, .int v4)] := hl
    refine lv_aload_n hx hb d_C_shiftLeft_34 rfl (lv_at hl 1 rfl) ?_
    refine ce_g_C_registers_C X hK hP d_C_shiftLeft_35 ?_
    refine lv_bipush (v := (15 : Int32)) hx hb d_C_shiftLeft_38 (by decide) ?_
    refine lv_iload_n hx hb d_C_shiftLeft_40 rfl (lv_at hl 2 rfl) ?_
    refine lv_iconst (v := (1 : Int32)) hx hb d_C_shiftLeft_41 (by decide) ?_
    obtain ⟨z5, hz5, hf⟩ := op_b hf
    refine cf_si X cx_C_25 hK hP hD hS hA hZ hl (c_tc_C_signOf (w := (ce_ aG aC cI cT ga gb gd gc gx gy gu gs gp)) hz5) ⟨rfl, rfl, Nat.le_of_ble_eq_true rfl, Nat.le_of_ble_eq_true rfl⟩ rfl rfl (Nat.le_of_ble_eq_true rfl) d_C_shiftLeft_42 (fun H locs hP hD hS => ?_)
    refine lv_iload hx hb d_C_shiftLeft_45 (lv_at hl 0 rfl) ?_
    refine lv_ior hx hb d_C_shiftLeft_47 ?_
    refine lv_iload hx hb d_C_shiftLeft_48 (lv_at hl 3 rfl) ?_
    refine lv_ior hx hb d_C_shiftLeft_50 ?_
    obtain ⟨z6, hz6, hf⟩ := op_b hf
    refine cf_v (ws2 := (ce_ aG aC cI cT ga gb gd z6 gx gy gu gs gp)) X cx_C_32 hK hP hD hS hA hZ hl (c_tc_G_setFlags (aG := aG) (ga := ga) (gb := gb) (gd := gd) (gc := gc) (gx := gx) (gy := gy) (gu := gu) (gs := gs) (gp := gp) hz6) ⟨rfl, rfl, Nat.le_of_ble_eq_true rfl, Nat.le_of_ble_eq_true rfl⟩ [1] [0] [0, 1] rfl rfl rfl rfl (by decide) rfl rfl 0 rfl rfl rfl rfl rfl (Nat.le_of_ble_eq_true rfl) d_C_shiftLeft_51 (fun H locs hP hD hS => ?_)
    refine lv_iload_n hx hb d_C_shiftLeft_54 rfl (lv_at hl 2 rfl) ?_
    have hq := Option.some.inj hf
    subst hq
    exact rt_i (r := v3) X hr hlk hK rfl hP hD hS d_C_shiftLeft_55
  unfold tc_C_shiftLeft at hf
  refine lv_iload_n hx hb d_C_shiftLeft_0 rfl (lv_at hl 1 rfl) ?_
  refine lv_iconst (v := (1 : Int32)) hx hb d_C_shiftLeft_1 (by decide) ?_
  refine lv_ishl hx hb d_C_shiftLeft_2 ?_
  refine lv_sipush (v := (255 : Int32)) hx hb d_C_shiftLeft_3 (by decide) ?_
  refine lv_iand hx hb d_C_shiftLeft_6 ?_
  refine lv_iload_n hx hb d_C_shiftLeft_7 rfl (lv_at hl 2 rfl) ?_
  refine lv_ior hx hb d_C_shiftLeft_8 ?_
  refine lv_istore_n hx hb d_C_shiftLeft_9 rfl hl (by decide) rfl (fun ls hl => ?_)
  have hl : lv_has ls 6 [(3, .int (((x1 <<< ((1 : Int32) &&& 31)) &&& (255 : Int32)) ||| x2)), (0, .ref aC), (1, .int x1), (2, .int x2)] := hl
  refine lv_iload_n hx hb d_C_shiftLeft_10 rfl (lv_at hl 2 rfl) ?_
  refine lv_bipush (v := (7 : Int32)) hx hb d_C_shiftLeft_11 (by decide) ?_
  refine lv_ishr hx hb d_C_shiftLeft_13 ?_
  refine lv_istore hx hb d_C_shiftLeft_14 hl (by decide) rfl (fun ls hl => ?_)
  have hl : lv_has ls 6 [(4, .int (x1 >>> ((7 : Int32) &&& 31))), (3, .int (((x1 <<< ((1 : Int32) &&& 31)) &&& (255 : Int32)) ||| x2)), (0, .ref aC), (1, .int x1), (2, .int x2)] := hl
  refine lv_iload_n hx hb d_C_shiftLeft_16 rfl (lv_at hl 1 rfl) ?_
  refine lv_bipush (v := (7 : Int32)) hx hb d_C_shiftLeft_17 (by decide) ?_
  refine lv_ishr hx hb d_C_shiftLeft_19 ?_
  refine lv_iload hx hb d_C_shiftLeft_20 (lv_at hl 0 rfl) ?_
  refine lv_ixor hx hb d_C_shiftLeft_22 ?_
  refine lv_iconst (v := (1 : Int32)) hx hb d_C_shiftLeft_23 (by decide) ?_
  refine lv_icmp_ne (tgt := 31) hx hb d_C_shiftLeft_24 (by decide) (fun hc => ?_) (fun hc => ?_)
  · replace hf := (if_neg hc).symm.trans hf
    refine lv_iconst (v := (0 : Int32)) hx hb d_C_shiftLeft_31 (by decide) ?_
    exact J32 (((x1 <<< ((1 : Int32) &&& 31)) &&& (255 : Int32)) ||| x2) (x1 >>> ((7 : Int32) &&& 31)) (0 : Int32) gc hf _ _ _ (lv_sub hl [2, 1, 0] rfl) hP hD hS
  · replace hf := (if_pos hc).symm.trans hf
    refine lv_iconst (v := (2 : Int32)) hx hb d_C_shiftLeft_27 (by decide) ?_
    refine lv_goto (tgt := 32) hx hb d_C_shiftLeft_28 (by decide) ?_
    exact J32 (((x1 <<< ((1 : Int32) &&& 31)) &&& (255 : Int32)) ||| x2) (x1 >>> ((7 : Int32) &&& 31)) (2 : Int32) gc hf _ _ _ (lv_sub hl [2, 1, 0] rfl) hP hD hS
set_option maxHeartbeats 4000000 in
set_option maxRecDepth 100000 in
theorem c_tc_C_decrement {x1 : Int32} {z : Int32 × Int32} (hf : tc_C_decrement x1 gc = some z) : cs_i l my_C_decrement mb_C_decrement 3 .int rm_c_C_decrement D (ty_ cI cT) [.ref aC, .int x1] (ce_ aG aC cI cT ga gb gd gc gx gy gu gs gp) (ce_ aG aC cI cT ga gb gd z.2 gx gy gu gs gp) z.1 := by
  refine cs_i_of (by decide) (Nat.le_of_ble_eq_true rfl) ?_
  intro p e s m below meth c A ls X hr hlk hK hP hD hS hA hZ hl
  have hx := X.1
  have hb := X.2.1
  have hl : lv_has ls 3 [(0, .ref aC), (1, .int x1)] := hl
  have J31 : ∀ (v2 : Int32) (s0 : Int32) (s1 : Int32) (gc : Int32), tc_C_decrement_j31 v2 s0 s1 gc = some z → ∀ (H : Heap) (locs : List Loc) (ls : Array Slot), lv_has ls 3 [(2, .int v2)] → va_P D cz_all (ce_ aG aC cI cT ga gb gd gc gx gy gu gs gp) H → va_D A (ce_ aG aC cI cT ga gb gd gc gx gy gu gs gp) → va_S A s.heap H locs → W p l e rm_c_C_decrement s m ([.ref aC, .int x1] : List Value).toArray below meth c H locs 0 0 (MQ below (qs_i D (ty_ cI cT) (ce_ aG aC cI cT ga gb gd z.2 gx gy gu gs gp) z.1 A) ([.ref aC, .int x1] : List Value).toArray s 0 0 A) (F0 m 31 ls [.int s0, .int s1, .int (14 : Int32), .ref aG]) := by
    intro v2 s0 s1 gc hf H locs ls hl hP hD hS
    unfold tc_C_decrement_j31 at hf
    refine lv_ior hx hb d_C_decrement_31 ?_
    obtain ⟨z4, hz4, hf⟩ := op_b hf
    refine cf_v (ws2 := (ce_ aG aC cI cT ga gb gd z4 gx gy gu gs gp)) X cx_C_32 hK hP hD hS hA hZ hl (c_tc_G_setFlags (aG := aG) (ga := ga) (gb := gb) (gd := gd) (gc := gc) (gx := gx) (gy := gy) (gu := gu) (gs := gs) (gp := gp) hz4) ⟨rfl, rfl, Nat.le_of_ble_eq_true rfl, Nat.le_of_ble_eq_true rfl⟩ [1] [0] [0, 1] rfl rfl rfl rfl (by decide) rfl rfl 0 rfl rfl rfl rfl rfl (Nat.le_of_ble_eq_true rfl) d_C_decrement_32 (fun H locs hP hD hS => ?_)
    refine lv_iload_n hx hb d_C_decrement_35 rfl (lv_at hl 0 rfl) ?_
    have hq := Option.some.inj hf
    subst hq
    exact rt_i (r := v2) X hr hlk hK rfl hP hD hS d_C_decrement_36
  unfold tc_C_decrement at hf
  refine lv_iload_n hx hb d_C_decrement_0 rfl (lv_at hl 1 rfl) ?_
  refine lv_iconst (v := (1 : Int32)) hx hb d_C_decrement_1 (by decide) ?_
  refine lv_isub hx hb d_C_decrement_2 ?_
  refine lv_sipush (v := (255 : Int32)) hx hb d_C_decrement_3 (by decide) ?_
  refine lv_iand hx hb d_C_decrement_6 ?_
  refine lv_istore_n hx hb d_C_decrement_7 rfl hl (by decide) rfl (fun ls hl => ?_)
  have hl : lv_has ls 3 [(2, .int ((x1 - (1 : Int32)) &&& (255 : Int32))), (0, .ref aC), (1, .int x1)] := hl
  refine lv_aload_n hx hb d_C_decrement_8 rfl (lv_at hl 1 rfl) ?_
  refine ce_g_C_registers_C X hK hP d_C_decrement_9 ?_
  refine lv_bipush (v := (14 : Int32)) hx hb d_C_decrement_12 (by decide) ?_
  refine lv_iload_n hx hb d_C_decrement_14 rfl (lv_at hl 0 rfl) ?_
  refine lv_iconst (v := (1 : Int32)) hx hb d_C_decrement_15 (by decide) ?_
  obtain ⟨z5, hz5, hf⟩ := op_b hf
  refine cf_si X cx_C_25 hK hP hD hS hA hZ hl (c_tc_C_signOf (w := (ce_ aG aC cI cT ga gb gd gc gx gy gu gs gp)) hz5) ⟨rfl, rfl, Nat.le_of_ble_eq_true rfl, Nat.le_of_ble_eq_true rfl⟩ rfl rfl (Nat.le_of_ble_eq_true rfl) d_C_decrement_16 (fun H locs hP hD hS => ?_)
  refine lv_iload_n hx hb d_C_decrement_19 rfl (lv_at hl 2 rfl) ?_
  refine lv_sipush (v := (128 : Int32)) hx hb d_C_decrement_20 (by decide) ?_
  refine lv_icmp_ne (tgt := 30) hx hb d_C_decrement_23 (by decide) (fun hc => ?_) (fun hc => ?_)
  · replace hf := (if_neg hc).symm.trans hf
    refine lv_iconst (v := (0 : Int32)) hx hb d_C_decrement_30 (by decide) ?_
    exact J31 ((x1 - (1 : Int32)) &&& (255 : Int32)) (0 : Int32) z5 gc hf _ _ _ (lv_sub hl [0] rfl) hP hD hS
  · replace hf := (if_pos hc).symm.trans hf
    refine lv_iconst (v := (2 : Int32)) hx hb d_C_decrement_26 (by decide) ?_
    refine lv_goto (tgt := 31) hx hb d_C_decrement_27 (by decide) ?_
    exact J31 ((x1 - (1 : Int32)) &&& (255 : Int32)) (2 : Int32) z5 gc hf _ _ _ (lv_sub hl [0] rfl) hP hD hS
set_option maxHeartbeats 4000000 in
set_option maxRecDepth 100000 in
theorem c_tc_C_increment {x1 : Int32} {z : Int32 × Int32} (hf : tc_C_increment x1 gc = some z) : cs_i l my_C_increment mb_C_increment 3 .int rm_c_C_increment D (ty_ cI cT) [.ref aC, .int x1] (ce_ aG aC cI cT ga gb gd gc gx gy gu gs gp) (ce_ aG aC cI cT ga gb gd z.2 gx gy gu gs gp) z.1 := by
  refine cs_i_of (by decide) (Nat.le_of_ble_eq_true rfl) ?_
  intro p e s m below meth c A ls X hr hlk hK hP hD hS hA hZ hl
  have hx := X.1
  have hb := X.2.1
  have hl : lv_has ls 3 [(0, .ref aC), (1, .int x1)] := hl
  have J30 : ∀ (v2 : Int32) (s0 : Int32) (s1 : Int32) (gc : Int32), tc_C_increment_j30 v2 s0 s1 gc = some z → ∀ (H : Heap) (locs : List Loc) (ls : Array Slot), lv_has ls 3 [(2, .int v2)] → va_P D cz_all (ce_ aG aC cI cT ga gb gd gc gx gy gu gs gp) H → va_D A (ce_ aG aC cI cT ga gb gd gc gx gy gu gs gp) → va_S A s.heap H locs → W p l e rm_c_C_increment s m ([.ref aC, .int x1] : List Value).toArray below meth c H locs 0 0 (MQ below (qs_i D (ty_ cI cT) (ce_ aG aC cI cT ga gb gd z.2 gx gy gu gs gp) z.1 A) ([.ref aC, .int x1] : List Value).toArray s 0 0 A) (F0 m 30 ls [.int s0, .int s1, .int (14 : Int32), .ref aG]) := by
    intro v2 s0 s1 gc hf H locs ls hl hP hD hS
    unfold tc_C_increment_j30 at hf
    refine lv_ior hx hb d_C_increment_30 ?_
    obtain ⟨z4, hz4, hf⟩ := op_b hf
    refine cf_v (ws2 := (ce_ aG aC cI cT ga gb gd z4 gx gy gu gs gp)) X cx_C_32 hK hP hD hS hA hZ hl (c_tc_G_setFlags (aG := aG) (ga := ga) (gb := gb) (gd := gd) (gc := gc) (gx := gx) (gy := gy) (gu := gu) (gs := gs) (gp := gp) hz4) ⟨rfl, rfl, Nat.le_of_ble_eq_true rfl, Nat.le_of_ble_eq_true rfl⟩ [1] [0] [0, 1] rfl rfl rfl rfl (by decide) rfl rfl 0 rfl rfl rfl rfl rfl (Nat.le_of_ble_eq_true rfl) d_C_increment_31 (fun H locs hP hD hS => ?_)
    refine lv_iload_n hx hb d_C_increment_34 rfl (lv_at hl 0 rfl) ?_
    have hq := Option.some.inj hf
    subst hq
    exact rt_i (r := v2) X hr hlk hK rfl hP hD hS d_C_increment_35
  unfold tc_C_increment at hf
  refine lv_iload_n hx hb d_C_increment_0 rfl (lv_at hl 1 rfl) ?_
  refine lv_iconst (v := (1 : Int32)) hx hb d_C_increment_1 (by decide) ?_
  refine lv_iadd hx hb d_C_increment_2 ?_
  refine lv_sipush (v := (255 : Int32)) hx hb d_C_increment_3 (by decide) ?_
  refine lv_iand hx hb d_C_increment_6 ?_
  refine lv_istore_n hx hb d_C_increment_7 rfl hl (by decide) rfl (fun ls hl => ?_)
  have hl : lv_has ls 3 [(2, .int ((x1 + (1 : Int32)) &&& (255 : Int32))), (0, .ref aC), (1, .int x1)] := hl
  refine lv_aload_n hx hb d_C_increment_8 rfl (lv_at hl 1 rfl) ?_
  refine ce_g_C_registers_C X hK hP d_C_increment_9 ?_
  refine lv_bipush (v := (14 : Int32)) hx hb d_C_increment_12 (by decide) ?_
  refine lv_iload_n hx hb d_C_increment_14 rfl (lv_at hl 0 rfl) ?_
  refine lv_iconst (v := (1 : Int32)) hx hb d_C_increment_15 (by decide) ?_
  obtain ⟨z5, hz5, hf⟩ := op_b hf
  refine cf_si X cx_C_25 hK hP hD hS hA hZ hl (c_tc_C_signOf (w := (ce_ aG aC cI cT ga gb gd gc gx gy gu gs gp)) hz5) ⟨rfl, rfl, Nat.le_of_ble_eq_true rfl, Nat.le_of_ble_eq_true rfl⟩ rfl rfl (Nat.le_of_ble_eq_true rfl) d_C_increment_16 (fun H locs hP hD hS => ?_)
  refine lv_iload_n hx hb d_C_increment_19 rfl (lv_at hl 2 rfl) ?_
  refine lv_bipush (v := (127 : Int32)) hx hb d_C_increment_20 (by decide) ?_
  refine lv_icmp_ne (tgt := 29) hx hb d_C_increment_22 (by decide) (fun hc => ?_) (fun hc => ?_)
  · replace hf := (if_neg hc).symm.trans hf
    refine lv_iconst (v := (0 : Int32)) hx hb d_C_increment_29 (by decide) ?_
    exact J30 ((x1 + (1 : Int32)) &&& (255 : Int32)) (0 : Int32) z5 gc hf _ _ _ (lv_sub hl [0] rfl) hP hD hS
  · replace hf := (if_pos hc).symm.trans hf
    refine lv_iconst (v := (2 : Int32)) hx hb d_C_increment_25 (by decide) ?_
    refine lv_goto (tgt := 30) hx hb d_C_increment_26 (by decide) ?_
    exact J30 ((x1 + (1 : Int32)) &&& (255 : Int32)) (2 : Int32) z5 gc hf _ _ _ (lv_sub hl [0] rfl) hP hD hS
set_option maxHeartbeats 4000000 in
set_option maxRecDepth 100000 in
theorem c_tc_G_set {x1 : Int32} {x2 : Int32} {z : Int32 × Int32 × Int32 × Int32 × Int32 × Int32 × Int32 × Int32 × Int32} (hf : tc_G_set x1 x2 ga gb gd gc gx gy gu gs gp = some z) : cs_v l my_G_set mb_G_set 5 rm_c_G_set D (ty_ cI cT) [.ref aG, .int x1, .int x2] (cg_ aG cI cT ga gb gd gc gx gy gu gs gp) (cg_ aG cI cT z.1 z.2.1 z.2.2.1 z.2.2.2.1 z.2.2.2.2.1 z.2.2.2.2.2.1 z.2.2.2.2.2.2.1 z.2.2.2.2.2.2.2.1 z.2.2.2.2.2.2.2.2) := by
  refine cs_v_of (by decide) (Nat.le_of_ble_eq_true rfl) ?_
  intro p e s m below meth c A ls X hr hlk hK hP hD hS hA hZ hl
  have hx := X.1
  have hb := X.2.1
  have hl : lv_has ls 5 [(0, .ref aG), (1, .int x1), (2, .int x2)] := hl
  have J156 : ∀ (v4 : Int32) (ga : Int32) (gb : Int32) (gd : Int32) (gc : Int32) (gx : Int32) (gy : Int32) (gu : Int32) (gs : Int32) (gp : Int32), tc_G_set_j156 v4 ga gb gd gc gx gy gu gs gp = some z → ∀ (H : Heap) (locs : List Loc) (ls : Array Slot), lv_has ls 5 [(0, .ref aG), (4, .int v4)] → va_P D cz_all (cg_ aG cI cT ga gb gd gc gx gy gu gs gp) H → va_D A (cg_ aG cI cT ga gb gd gc gx gy gu gs gp) → va_S A s.heap H locs → W p l e rm_c_G_set s m ([.ref aG, .int x1, .int x2] : List Value).toArray below meth c H locs 0 0 (MQ below (qs_v D (ty_ cI cT) (cg_ aG cI cT z.1 z.2.1 z.2.2.1 z.2.2.2.1 z.2.2.2.2.1 z.2.2.2.2.2.1 z.2.2.2.2.2.2.1 z.2.2.2.2.2.2.2.1 z.2.2.2.2.2.2.2.2) A) ([.ref aG, .int x1, .int x2] : List Value).toArray s 0 0 A) (F0 m 156 ls []) := by
    intro v4 ga gb gd gc gx gy gu gs gp hf H locs ls hl hP hD hS
    unfold tc_G_set_j156 at hf
    refine lv_aload_n hx hb d_G_set_156 rfl (lv_at hl 0 rfl) ?_
    refine lv_iload hx hb d_G_set_157 (lv_at hl 1 rfl) ?_
    refine cg_p_G_dp_G (x := v4) X hK hP hD hS d_G_set_159 (fun H locs hP hD hS => ?_)
    have hq := Option.some.inj hf
    subst hq
    exact rt_v X hr hlk hK hP hD hS d_G_set_162
  unfold tc_G_set at hf
  refine lv_iload_n hx hb d_G_set_0 rfl (lv_at hl 2 rfl) ?_
  refine lv_ldc (v := (65535 : Int32)) hx hb X.2.2.2.1 (X.2.2.2.2 _ ww_1) d_G_set_1 ?_
  refine lv_iand hx hb d_G_set_3 ?_
  refine lv_istore_n hx hb d_G_set_4 rfl hl (by decide) rfl (fun ls hl => ?_)
  have hl : lv_has ls 5 [(3, .int (x2 &&& (65535 : Int32))), (0, .ref aG), (1, .int x1), (2, .int x2)] := hl
  refine lv_iload_n hx hb d_G_set_5 rfl (lv_at hl 3 rfl) ?_
  refine lv_sipush (v := (255 : Int32)) hx hb d_G_set_6 (by decide) ?_
  refine lv_iand hx hb d_G_set_9 ?_
  refine lv_istore hx hb d_G_set_10 hl (by decide) rfl (fun ls hl => ?_)
  have hl : lv_has ls 5 [(4, .int (x2 &&& (255 : Int32))), (3, .int (x2 &&& (65535 : Int32))), (0, .ref aG), (1, .int x1), (2, .int x2)] := hl
  refine lv_iload_n hx hb d_G_set_12 rfl (lv_at hl 3 rfl) ?_
  by_cases hk1 : x1 = (0 : Int32)
  · replace hf := (if_pos hk1).symm.trans hf
    refine lv_tableIn (tgt := 72) (off := 59) hx hb d_G_set_13 (by rw [hk1]; decide) (by rw [hk1]; decide) (by rw [hk1]; rfl) (by decide) ?_
    refine lv_aload_n hx hb d_G_set_72 rfl (lv_at hl 2 rfl) ?_
    refine lv_iload_n hx hb d_G_set_73 rfl (lv_at hl 1 rfl) ?_
    refine lv_bipush (v := (8 : Int32)) hx hb d_G_set_74 (by decide) ?_
    refine lv_ishr hx hb d_G_set_76 ?_
    refine cg_p_G_a_G (x := ((x2 &&& (65535 : Int32)) >>> ((8 : Int32) &&& 31))) X hK hP hD hS d_G_set_77 (fun H locs hP hD hS => ?_)
    refine lv_aload_n hx hb d_G_set_80 rfl (lv_at hl 2 rfl) ?_
    refine lv_iload hx hb d_G_set_81 (lv_at hl 0 rfl) ?_
    refine cg_p_G_b_G (x := (x2 &&& (255 : Int32))) X hK hP hD hS d_G_set_83 (fun H locs hP hD hS => ?_)
    refine lv_goto (tgt := 162) hx hb d_G_set_86 (by decide) ?_
    have hq := Option.some.inj hf
    subst hq
    exact rt_v X hr hlk hK hP hD hS d_G_set_162
  · replace hf := (if_neg hk1).symm.trans hf
    by_cases hk2 : x1 = (1 : Int32)
    · replace hf := (if_pos hk2).symm.trans hf
      refine lv_tableIn (tgt := 89) (off := 76) hx hb d_G_set_13 (by rw [hk2]; decide) (by rw [hk2]; decide) (by rw [hk2]; rfl) (by decide) ?_
      refine lv_aload_n hx hb d_G_set_89 rfl (lv_at hl 2 rfl) ?_
      refine lv_iload_n hx hb d_G_set_90 rfl (lv_at hl 1 rfl) ?_
      refine cg_p_G_x_G (x := (x2 &&& (65535 : Int32))) X hK hP hD hS d_G_set_91 (fun H locs hP hD hS => ?_)
      refine lv_goto (tgt := 162) hx hb d_G_set_94 (by decide) ?_
      have hq := Option.some.inj hf
      subst hq
      exact rt_v X hr hlk hK hP hD hS d_G_set_162
    · replace hf := (if_neg hk2).symm.trans hf
      by_cases hk3 : x1 = (2 : Int32)
      · replace hf := (if_pos hk3).symm.trans hf
        refine lv_tableIn (tgt := 97) (off := 84) hx hb d_G_set_13 (by rw [hk3]; decide) (by rw [hk3]; decide) (by rw [hk3]; rfl) (by decide) ?_
        refine lv_aload_n hx hb d_G_set_97 rfl (lv_at hl 2 rfl) ?_
        refine lv_iload_n hx hb d_G_set_98 rfl (lv_at hl 1 rfl) ?_
        refine cg_p_G_y_G (x := (x2 &&& (65535 : Int32))) X hK hP hD hS d_G_set_99 (fun H locs hP hD hS => ?_)
        refine lv_goto (tgt := 162) hx hb d_G_set_102 (by decide) ?_
        have hq := Option.some.inj hf
        subst hq
        exact rt_v X hr hlk hK hP hD hS d_G_set_162
      · replace hf := (if_neg hk3).symm.trans hf
        by_cases hk4 : x1 = (3 : Int32)
        · replace hf := (if_pos hk4).symm.trans hf
          refine lv_tableIn (tgt := 105) (off := 92) hx hb d_G_set_13 (by rw [hk4]; decide) (by rw [hk4]; decide) (by rw [hk4]; rfl) (by decide) ?_
          refine lv_aload_n hx hb d_G_set_105 rfl (lv_at hl 2 rfl) ?_
          refine lv_iload_n hx hb d_G_set_106 rfl (lv_at hl 1 rfl) ?_
          refine cg_p_G_u_G (x := (x2 &&& (65535 : Int32))) X hK hP hD hS d_G_set_107 (fun H locs hP hD hS => ?_)
          refine lv_goto (tgt := 162) hx hb d_G_set_110 (by decide) ?_
          have hq := Option.some.inj hf
          subst hq
          exact rt_v X hr hlk hK hP hD hS d_G_set_162
        · replace hf := (if_neg hk4).symm.trans hf
          by_cases hk5 : x1 = (4 : Int32)
          · replace hf := (if_pos hk5).symm.trans hf
            refine lv_tableIn (tgt := 113) (off := 100) hx hb d_G_set_13 (by rw [hk5]; decide) (by rw [hk5]; decide) (by rw [hk5]; rfl) (by decide) ?_
            refine lv_aload_n hx hb d_G_set_113 rfl (lv_at hl 2 rfl) ?_
            refine lv_iload_n hx hb d_G_set_114 rfl (lv_at hl 1 rfl) ?_
            refine cg_p_G_s_G (x := (x2 &&& (65535 : Int32))) X hK hP hD hS d_G_set_115 (fun H locs hP hD hS => ?_)
            refine lv_goto (tgt := 162) hx hb d_G_set_118 (by decide) ?_
            have hq := Option.some.inj hf
            subst hq
            exact rt_v X hr hlk hK hP hD hS d_G_set_162
          · replace hf := (if_neg hk5).symm.trans hf
            by_cases hk6 : x1 = (5 : Int32)
            · replace hf := (if_pos hk6).symm.trans hf
              refine lv_tableIn (tgt := 121) (off := 108) hx hb d_G_set_13 (by rw [hk6]; decide) (by rw [hk6]; decide) (by rw [hk6]; rfl) (by decide) ?_
              refine lv_aload_n hx hb d_G_set_121 rfl (lv_at hl 2 rfl) ?_
              refine lv_iload_n hx hb d_G_set_122 rfl (lv_at hl 1 rfl) ?_
              refine cg_p_G_pc_G (x := (x2 &&& (65535 : Int32))) X hK hP hD hS d_G_set_123 (fun H locs hP hD hS => ?_)
              refine lv_goto (tgt := 162) hx hb d_G_set_126 (by decide) ?_
              have hq := Option.some.inj hf
              subst hq
              exact rt_v X hr hlk hK hP hD hS d_G_set_162
            · replace hf := (if_neg hk6).symm.trans hf
              by_cases hk7 : x1 = (6 : Int32)
              · replace hf := (if_pos hk7).symm.trans hf
                refine lv_tableIn (tgt := 156) (off := 143) hx hb d_G_set_13 (by rw [hk7]; decide) (by rw [hk7]; decide) (by rw [hk7]; rfl) (by decide) ?_
                exact J156 (x2 &&& (255 : Int32)) ga gb gd gc gx gy gu gs gp hf _ _ _ (lv_sub hl [2, 0] rfl) hP hD hS
              · replace hf := (if_neg hk7).symm.trans hf
                by_cases hk8 : x1 = (7 : Int32)
                · replace hf := (if_pos hk8).symm.trans hf
                  refine lv_tableIn (tgt := 156) (off := 143) hx hb d_G_set_13 (by rw [hk8]; decide) (by rw [hk8]; decide) (by rw [hk8]; rfl) (by decide) ?_
                  exact J156 (x2 &&& (255 : Int32)) ga gb gd gc gx gy gu gs gp hf _ _ _ (lv_sub hl [2, 0] rfl) hP hD hS
                · replace hf := (if_neg hk8).symm.trans hf
                  by_cases hk9 : x1 = (8 : Int32)
                  · replace hf := (if_pos hk9).symm.trans hf
                    refine lv_tableIn (tgt := 129) (off := 116) hx hb d_G_set_13 (by rw [hk9]; decide) (by rw [hk9]; decide) (by rw [hk9]; rfl) (by decide) ?_
                    refine lv_aload_n hx hb d_G_set_129 rfl (lv_at hl 2 rfl) ?_
                    refine lv_iload hx hb d_G_set_130 (lv_at hl 0 rfl) ?_
                    refine cg_p_G_a_G (x := (x2 &&& (255 : Int32))) X hK hP hD hS d_G_set_132 (fun H locs hP hD hS => ?_)
                    refine lv_goto (tgt := 162) hx hb d_G_set_135 (by decide) ?_
                    have hq := Option.some.inj hf
                    subst hq
                    exact rt_v X hr hlk hK hP hD hS d_G_set_162
                  · replace hf := (if_neg hk9).symm.trans hf
                    by_cases hk10 : x1 = (9 : Int32)
                    · replace hf := (if_pos hk10).symm.trans hf
                      refine lv_tableIn (tgt := 138) (off := 125) hx hb d_G_set_13 (by rw [hk10]; decide) (by rw [hk10]; decide) (by rw [hk10]; rfl) (by decide) ?_
                      refine lv_aload_n hx hb d_G_set_138 rfl (lv_at hl 2 rfl) ?_
                      refine lv_iload hx hb d_G_set_139 (lv_at hl 0 rfl) ?_
                      refine cg_p_G_b_G (x := (x2 &&& (255 : Int32))) X hK hP hD hS d_G_set_141 (fun H locs hP hD hS => ?_)
                      refine lv_goto (tgt := 162) hx hb d_G_set_144 (by decide) ?_
                      have hq := Option.some.inj hf
                      subst hq
                      exact rt_v X hr hlk hK hP hD hS d_G_set_162
                    · replace hf := (if_neg hk10).symm.trans hf
                      by_cases hk11 : x1 = (10 : Int32)
                      · replace hf := (if_pos hk11).symm.trans hf
                        refine lv_tableIn (tgt := 147) (off := 134) hx hb d_G_set_13 (by rw [hk11]; decide) (by rw [hk11]; decide) (by rw [hk11]; rfl) (by decide) ?_
                        refine lv_aload_n hx hb d_G_set_147 rfl (lv_at hl 2 rfl) ?_
                        refine lv_iload hx hb d_G_set_148 (lv_at hl 0 rfl) ?_
                        refine cg_p_G_cc_G (x := (x2 &&& (255 : Int32))) X hK hP hD hS d_G_set_150 (fun H locs hP hD hS => ?_)
                        refine lv_goto (tgt := 162) hx hb d_G_set_153 (by decide) ?_
                        have hq := Option.some.inj hf
                        subst hq
                        exact rt_v X hr hlk hK hP hD hS d_G_set_162
                      · replace hf := (if_neg hk11).symm.trans hf
                        refine lv_tableOut (tgt := 156) hx hb d_G_set_13 (by have q0 := lv_neT hk1 (show Int32.toInt (0 : Int32) = 0 by decide); have q1 := lv_neT hk2 (show Int32.toInt (1 : Int32) = 1 by decide); have q2 := lv_neT hk3 (show Int32.toInt (2 : Int32) = 2 by decide); have q3 := lv_neT hk4 (show Int32.toInt (3 : Int32) = 3 by decide); have q4 := lv_neT hk5 (show Int32.toInt (4 : Int32) = 4 by decide); have q5 := lv_neT hk6 (show Int32.toInt (5 : Int32) = 5 by decide); have q6 := lv_neT hk7 (show Int32.toInt (6 : Int32) = 6 by decide); have q7 := lv_neT hk8 (show Int32.toInt (7 : Int32) = 7 by decide); have q8 := lv_neT hk9 (show Int32.toInt (8 : Int32) = 8 by decide); have q9 := lv_neT hk10 (show Int32.toInt (9 : Int32) = 9 by decide); have q10 := lv_neT hk11 (show Int32.toInt (10 : Int32) = 10 by decide); omega) (by decide) ?_
                        exact J156 (x2 &&& (255 : Int32)) ga gb gd gc gx gy gu gs gp hf _ _ _ (lv_sub hl [2, 0] rfl) hP hD hS
set_option maxHeartbeats 4000000 in
set_option maxRecDepth 100000 in
theorem c_tc_C_extendB  {z : Int32 × Int32 × Int32 × Int32 × Int32 × Int32 × Int32 × Int32 × Int32} (hf : tc_C_extendB ga gb gd gc gx gy gu gs gp = some z) : cs_v l my_C_extendB mb_C_extendB 2 rm_c_C_extendB D (ty_ cI cT) [.ref aC] (ce_ aG aC cI cT ga gb gd gc gx gy gu gs gp) (ce_ aG aC cI cT z.1 z.2.1 z.2.2.1 z.2.2.2.1 z.2.2.2.2.1 z.2.2.2.2.2.1 z.2.2.2.2.2.2.1 z.2.2.2.2.2.2.2.1 z.2.2.2.2.2.2.2.2) := by
  refine cs_v_of (by decide) (Nat.le_of_ble_eq_true rfl) ?_
  intro p e s m below meth c A ls X hr hlk hK hP hD hS hA hZ hl
  have hx := X.1
  have hb := X.2.1
  have hl : lv_has ls 2 [(0, .ref aC)] := hl
  unfold tc_C_extendB at hf
  refine lv_aload_n hx hb d_C_extendB_0 rfl (lv_at hl 0 rfl) ?_
  refine ce_g_C_registers_C X hK hP d_C_extendB_1 ?_
  refine ce_g_G_b_C X hK hP d_C_extendB_4 ?_
  refine lv_iconst (v := (1 : Int32)) hx hb d_C_extendB_7 (by decide) ?_
  obtain ⟨z5, hz5, hf⟩ := op_b hf
  refine cf_si X cx_C_29 hK hP hD hS hA hZ hl (c_tc_C_signed (w := (ce_ aG aC cI cT ga gb gd gc gx gy gu gs gp)) hz5) ⟨rfl, rfl, Nat.le_of_ble_eq_true rfl, Nat.le_of_ble_eq_true rfl⟩ rfl rfl (Nat.le_of_ble_eq_true rfl) d_C_extendB_8 (fun H locs hP hD hS => ?_)
  refine lv_ldc (v := (65535 : Int32)) hx hb X.2.2.2.1 (X.2.2.2.2 _ ww_0) d_C_extendB_11 ?_
  refine lv_iand hx hb d_C_extendB_13 ?_
  refine lv_istore_n hx hb d_C_extendB_14 rfl hl (by decide) rfl (fun ls hl => ?_)
  have hl : lv_has ls 2 [(1, .int (z5 &&& (65535 : Int32))), (0, .ref aC)] := hl
  refine lv_aload_n hx hb d_C_extendB_15 rfl (lv_at hl 1 rfl) ?_
  refine ce_g_C_registers_C X hK hP d_C_extendB_16 ?_
  refine lv_iconst (v := (0 : Int32)) hx hb d_C_extendB_19 (by decide) ?_
  refine lv_iload_n hx hb d_C_extendB_20 rfl (lv_at hl 0 rfl) ?_
  obtain ⟨z6, hz6, hf⟩ := op_b hf
  refine cf_v (ws2 := (ce_ aG aC cI cT z6.1 z6.2.1 z6.2.2.1 z6.2.2.2.1 z6.2.2.2.2.1 z6.2.2.2.2.2.1 z6.2.2.2.2.2.2.1 z6.2.2.2.2.2.2.2.1 z6.2.2.2.2.2.2.2.2)) X cx_C_40 hK hP hD hS hA hZ hl (c_tc_G_set (aG := aG) (ga := ga) (gb := gb) (gd := gd) (gc := gc) (gx := gx) (gy := gy) (gu := gu) (gs := gs) (gp := gp) hz6) ⟨rfl, rfl, Nat.le_of_ble_eq_true rfl, Nat.le_of_ble_eq_true rfl⟩ [1] [0] [0, 1] rfl rfl rfl rfl (by decide) rfl rfl 0 rfl rfl rfl rfl rfl (Nat.le_of_ble_eq_true rfl) d_C_extendB_21 (fun H locs hP hD hS => ?_)
  refine lv_aload_n hx hb d_C_extendB_24 rfl (lv_at hl 1 rfl) ?_
  refine ce_g_C_registers_C X hK hP d_C_extendB_25 ?_
  refine lv_bipush (v := (12 : Int32)) hx hb d_C_extendB_28 (by decide) ?_
  refine lv_iload_n hx hb d_C_extendB_30 rfl (lv_at hl 0 rfl) ?_
  refine lv_iconst (v := (2 : Int32)) hx hb d_C_extendB_31 (by decide) ?_
  obtain ⟨z7, hz7, hf⟩ := op_b hf
  refine cf_si X cx_C_25 hK hP hD hS hA hZ hl (c_tc_C_signOf (w := (ce_ aG aC cI cT z6.1 z6.2.1 z6.2.2.1 z6.2.2.2.1 z6.2.2.2.2.1 z6.2.2.2.2.2.1 z6.2.2.2.2.2.2.1 z6.2.2.2.2.2.2.2.1 z6.2.2.2.2.2.2.2.2)) hz7) ⟨rfl, rfl, Nat.le_of_ble_eq_true rfl, Nat.le_of_ble_eq_true rfl⟩ rfl rfl (Nat.le_of_ble_eq_true rfl) d_C_extendB_32 (fun H locs hP hD hS => ?_)
  obtain ⟨z8, hz8, hf⟩ := op_b hf
  refine cf_v (ws2 := (ce_ aG aC cI cT z6.1 z6.2.1 z6.2.2.1 z8 z6.2.2.2.2.1 z6.2.2.2.2.2.1 z6.2.2.2.2.2.2.1 z6.2.2.2.2.2.2.2.1 z6.2.2.2.2.2.2.2.2)) X cx_C_32 hK hP hD hS hA hZ hl (c_tc_G_setFlags (aG := aG) (ga := z6.1) (gb := z6.2.1) (gd := z6.2.2.1) (gc := z6.2.2.2.1) (gx := z6.2.2.2.2.1) (gy := z6.2.2.2.2.2.1) (gu := z6.2.2.2.2.2.2.1) (gs := z6.2.2.2.2.2.2.2.1) (gp := z6.2.2.2.2.2.2.2.2) hz8) ⟨rfl, rfl, Nat.le_of_ble_eq_true rfl, Nat.le_of_ble_eq_true rfl⟩ [1] [0] [0, 1] rfl rfl rfl rfl (by decide) rfl rfl 0 rfl rfl rfl rfl rfl (Nat.le_of_ble_eq_true rfl) d_C_extendB_35 (fun H locs hP hD hS => ?_)
  have hq := Option.some.inj hf
  subst hq
  exact rt_v X hr hlk hK hP hD hS d_C_extendB_38
set_option maxHeartbeats 4000000 in
set_option maxRecDepth 100000 in
theorem c_tc_C_multiply  {z : Int32 × Int32 × Int32 × Int32 × Int32 × Int32 × Int32 × Int32 × Int32} (hf : tc_C_multiply ga gb gd gc gx gy gu gs gp = some z) : cs_v l my_C_multiply mb_C_multiply 3 rm_c_C_multiply D (ty_ cI cT) [.ref aC] (ce_ aG aC cI cT ga gb gd gc gx gy gu gs gp) (ce_ aG aC cI cT z.1 z.2.1 z.2.2.1 z.2.2.2.1 z.2.2.2.2.1 z.2.2.2.2.2.1 z.2.2.2.2.2.2.1 z.2.2.2.2.2.2.2.1 z.2.2.2.2.2.2.2.2) := by
  refine cs_v_of (by decide) (Nat.le_of_ble_eq_true rfl) ?_
  intro p e s m below meth c A ls X hr hlk hK hP hD hS hA hZ hl
  have hx := X.1
  have hb := X.2.1
  have hl : lv_has ls 3 [(0, .ref aC)] := hl
  have J34 : ∀ (s0 : Int32) (ga : Int32) (gb : Int32) (gd : Int32) (gc : Int32) (gx : Int32) (gy : Int32) (gu : Int32) (gs : Int32) (gp : Int32), tc_C_multiply_j34 s0 ga gb gd gc gx gy gu gs gp = some z → ∀ (H : Heap) (locs : List Loc) (ls : Array Slot), lv_has ls 3 [(0, .ref aC)] → va_P D cz_all (ce_ aG aC cI cT ga gb gd gc gx gy gu gs gp) H → va_D A (ce_ aG aC cI cT ga gb gd gc gx gy gu gs gp) → va_S A s.heap H locs → W p l e rm_c_C_multiply s m ([.ref aC] : List Value).toArray below meth c H locs 0 0 (MQ below (qs_v D (ty_ cI cT) (ce_ aG aC cI cT z.1 z.2.1 z.2.2.1 z.2.2.2.1 z.2.2.2.2.1 z.2.2.2.2.2.1 z.2.2.2.2.2.2.1 z.2.2.2.2.2.2.2.1 z.2.2.2.2.2.2.2.2) A) ([.ref aC] : List Value).toArray s 0 0 A) (F0 m 34 ls [.int s0]) := by
    intro s0 ga gb gd gc gx gy gu gs gp hf H locs ls hl hP hD hS
    unfold tc_C_multiply_j34 at hf
    refine lv_istore_n hx hb d_C_multiply_34 rfl hl (by decide) rfl (fun ls hl => ?_)
    have hl : lv_has ls 3 [(2, .int s0), (0, .ref aC)] := hl
    refine lv_aload_n hx hb d_C_multiply_35 rfl (lv_at hl 1 rfl) ?_
    refine ce_g_C_registers_C X hK hP d_C_multiply_36 ?_
    refine lv_iconst (v := (5 : Int32)) hx hb d_C_multiply_39 (by decide) ?_
    refine lv_iload_n hx hb d_C_multiply_40 rfl (lv_at hl 0 rfl) ?_
    refine lv_aload_n hx hb d_C_multiply_41 rfl (lv_at hl 1 rfl) ?_
    refine ce_g_C_registers_C X hK hP d_C_multiply_42 ?_
    refine ce_g_G_b_C X hK hP d_C_multiply_45 ?_
    refine lv_bipush (v := (7 : Int32)) hx hb d_C_multiply_48 (by decide) ?_
    refine lv_ishr hx hb d_C_multiply_50 ?_
    refine lv_ior hx hb d_C_multiply_51 ?_
    obtain ⟨z4, hz4, hf⟩ := op_b hf
    refine cf_v (ws2 := (ce_ aG aC cI cT ga gb gd z4 gx gy gu gs gp)) X cx_C_32 hK hP hD hS hA hZ hl (c_tc_G_setFlags (aG := aG) (ga := ga) (gb := gb) (gd := gd) (gc := gc) (gx := gx) (gy := gy) (gu := gu) (gs := gs) (gp := gp) hz4) ⟨rfl, rfl, Nat.le_of_ble_eq_true rfl, Nat.le_of_ble_eq_true rfl⟩ [1] [0] [0, 1] rfl rfl rfl rfl (by decide) rfl rfl 0 rfl rfl rfl rfl rfl (Nat.le_of_ble_eq_true rfl) d_C_multiply_52 (fun H locs hP hD hS => ?_)
    have hq := Option.some.inj hf
    subst hq
    exact rt_v X hr hlk hK hP hD hS d_C_multiply_55
  unfold tc_C_multiply at hf
  refine lv_aload_n hx hb d_C_multiply_0 rfl (lv_at hl 0 rfl) ?_
  refine ce_g_C_registers_C X hK hP d_C_multiply_1 ?_
  refine ce_g_G_a_C X hK hP d_C_multiply_4 ?_
  refine lv_aload_n hx hb d_C_multiply_7 rfl (lv_at hl 0 rfl) ?_
  refine ce_g_C_registers_C X hK hP d_C_multiply_8 ?_
  refine ce_g_G_b_C X hK hP d_C_multiply_11 ?_
  refine lv_imul hx hb d_C_multiply_14 ?_
  refine lv_istore_n hx hb d_C_multiply_15 rfl hl (by decide) rfl (fun ls hl => ?_)
  have hl : lv_has ls 3 [(1, .int (ga * gb)), (0, .ref aC)] := hl
  refine lv_aload_n hx hb d_C_multiply_16 rfl (lv_at hl 1 rfl) ?_
  refine ce_g_C_registers_C X hK hP d_C_multiply_17 ?_
  refine lv_iconst (v := (0 : Int32)) hx hb d_C_multiply_20 (by decide) ?_
  refine lv_iload_n hx hb d_C_multiply_21 rfl (lv_at hl 0 rfl) ?_
  obtain ⟨z5, hz5, hf⟩ := op_b hf
  refine cf_v (ws2 := (ce_ aG aC cI cT z5.1 z5.2.1 z5.2.2.1 z5.2.2.2.1 z5.2.2.2.2.1 z5.2.2.2.2.2.1 z5.2.2.2.2.2.2.1 z5.2.2.2.2.2.2.2.1 z5.2.2.2.2.2.2.2.2)) X cx_C_40 hK hP hD hS hA hZ hl (c_tc_G_set (aG := aG) (ga := ga) (gb := gb) (gd := gd) (gc := gc) (gx := gx) (gy := gy) (gu := gu) (gs := gs) (gp := gp) hz5) ⟨rfl, rfl, Nat.le_of_ble_eq_true rfl, Nat.le_of_ble_eq_true rfl⟩ [1] [0] [0, 1] rfl rfl rfl rfl (by decide) rfl rfl 0 rfl rfl rfl rfl rfl (Nat.le_of_ble_eq_true rfl) d_C_multiply_22 (fun H locs hP hD hS => ?_)
  refine lv_iload_n hx hb d_C_multiply_25 rfl (lv_at hl 0 rfl) ?_
  refine lv_if_ne (tgt := 33) hx hb d_C_multiply_26 (by decide) (fun hc => ?_) (fun hc => ?_)
  · replace hf := (if_neg hc).symm.trans hf
    refine lv_iconst (v := (0 : Int32)) hx hb d_C_multiply_33 (by decide) ?_
    exact J34 (0 : Int32) z5.1 z5.2.1 z5.2.2.1 z5.2.2.2.1 z5.2.2.2.2.1 z5.2.2.2.2.2.1 z5.2.2.2.2.2.2.1 z5.2.2.2.2.2.2.2.1 z5.2.2.2.2.2.2.2.2 hf _ _ _ (lv_sub hl [1] rfl) hP hD hS
  · replace hf := (if_pos hc).symm.trans hf
    refine lv_iconst (v := (4 : Int32)) hx hb d_C_multiply_29 (by decide) ?_
    refine lv_goto (tgt := 34) hx hb d_C_multiply_30 (by decide) ?_
    exact J34 (4 : Int32) z5.1 z5.2.1 z5.2.2.1 z5.2.2.2.1 z5.2.2.2.2.1 z5.2.2.2.2.2.1 z5.2.2.2.2.2.2.1 z5.2.2.2.2.2.2.2.1 z5.2.2.2.2.2.2.2.2 hf _ _ _ (lv_sub hl [1] rfl) hP hD hS
set_option maxHeartbeats 4000000 in
set_option maxRecDepth 100000 in
theorem c_tc_K_taskAt {x1 : Int32} {z : (Option Nat)} (hf : tc_K_taskAt x1 = some z) : cs_q l my_K_taskAt mb_K_taskAt 2 (.object "TaskComputer$Task") rm_c_K_taskAt D (ty_ cI cT) [.ref aK, .int x1] (ck_ aK aQ aL aA tk aY aB aG aS cI cT kr uz ul ks kv kz ku cb ga gb gd gc gx gy gu gs gp qa qb qd qc qx qy qu qs qp) (ck_ aK aQ aL aA tk aY aB aG aS cI cT kr uz ul ks kv kz ku cb ga gb gd gc gx gy gu gs gp qa qb qd qc qx qy qu qs qp) (Option.map tk z) := by
  refine cs_q_of (by decide) (Nat.le_of_ble_eq_true rfl) ?_
  intro p e s m below meth c A ls X hr hlk hK hP hD hS hA hZ hl
  have hx := X.1
  have hb := X.2.1
  have hl : lv_has ls 2 [(0, .ref aK), (1, .int x1)] := hl
  unfold tc_K_taskAt at hf
  refine lv_iload_n hx hb d_K_taskAt_0 rfl (lv_at hl 1 rfl) ?_
  refine lv_if_lt (tgt := 18) hx hb d_K_taskAt_1 (by decide) (fun hc => ?_) (fun hc => ?_)
  · replace hf := (if_pos hc).symm.trans hf
    refine lv_null hx hb d_K_taskAt_18 ?_
    have hq := Option.some.inj hf
    subst hq
    exact rt_q (ro := Option.map tk none) X hr hlk hK hP hD hS d_K_taskAt_19
  · replace hf := (if_neg hc).symm.trans hf
    refine lv_iload_n hx hb d_K_taskAt_4 rfl (lv_at hl 1 rfl) ?_
    refine lv_iconst (v := (4 : Int32)) hx hb d_K_taskAt_5 (by decide) ?_
    refine lv_icmp_ge (tgt := 18) hx hb d_K_taskAt_6 (by decide) (fun hc => ?_) (fun hc => ?_)
    · replace hf := (if_pos hc).symm.trans hf
      refine lv_null hx hb d_K_taskAt_18 ?_
      have hq := Option.some.inj hf
      subst hq
      exact rt_q (ro := Option.map tk none) X hr hlk hK hP hD hS d_K_taskAt_19
    · replace hf := (if_neg hc).symm.trans hf
      refine lv_aload_n hx hb d_K_taskAt_9 rfl (lv_at hl 0 rfl) ?_
      refine ck_g_K_tasks_K X hK hP d_K_taskAt_10 ?_
      refine lv_iload_n hx hb d_K_taskAt_13 rfl (lv_at hl 1 rfl) ?_
      obtain ⟨hi2, hf⟩ := op_c hf
      refine ck_a_A (k := (x1.toNatClampNeg)) X hK hP hi2 rfl d_K_taskAt_14 ?_
      refine lv_goto (tgt := 19) hx hb d_K_taskAt_15 (by decide) ?_
      have hq := Option.some.inj hf
      subst hq
      exact rt_q (ro := Option.map tk (some (x1.toNatClampNeg))) X hr hlk hK hP hD hS d_K_taskAt_19
set_option maxHeartbeats 4000000 in
set_option maxRecDepth 100000 in
theorem c_tc_G_pushedAt {x1 : Int32} {x2 : Int32} {z : Int32} (hf : tc_G_pushedAt x1 x2 = some z) : cs_i l my_G_pushedAt mb_G_pushedAt 2 .int rm_c_G_pushedAt D (ty_ cI cT) [.int x1, .int x2] w w z := by
  refine cs_i_of (by decide) (Nat.le_of_ble_eq_true rfl) ?_
  intro p e s m below meth c A ls X hr hlk hK hP hD hS hA hZ hl
  have hx := X.1
  have hb := X.2.1
  have hl : lv_has ls 2 [(0, .int x1), (1, .int x2)] := hl
  unfold tc_G_pushedAt at hf
  refine lv_iload_n hx hb d_G_pushedAt_0 rfl (lv_at hl 0 rfl) ?_
  refine lv_bipush (v := (6 : Int32)) hx hb d_G_pushedAt_1 (by decide) ?_
  refine lv_icmp_ne (tgt := 15) hx hb d_G_pushedAt_3 (by decide) (fun hc => ?_) (fun hc => ?_)
  · replace hf := (if_neg hc).symm.trans hf
    obtain ⟨ta_, hZ1, hT1⟩ := hZ
    refine va_gets hx hb hZ1 hS X.2.2.2.1 (X.2.2.2.2 _ ww_2) (fun _ h => h) d_G_pushedAt_15 ?_
    refine lv_iload_n hx hb d_G_pushedAt_18 rfl (lv_at hl 0 rfl) ?_
    obtain ⟨hi3, hf⟩ := op_c hf
    refine va_ti (v := .int (ps_i (x1.toNatClampNeg))) hx hb hT1 hS hi3 rfl d_G_pushedAt_19 ?_
    have hq := Option.some.inj hf
    subst hq
    exact rt_i (r := (ps_i (x1.toNatClampNeg))) X hr hlk hK rfl hP hD hS d_G_pushedAt_20
  · replace hf := (if_pos hc).symm.trans hf
    refine lv_iload_n hx hb d_G_pushedAt_6 rfl (lv_at hl 1 rfl) ?_
    refine lv_iconst (v := (3 : Int32)) hx hb d_G_pushedAt_7 (by decide) ?_
    refine lv_icmp_ne (tgt := 15) hx hb d_G_pushedAt_8 (by decide) (fun hc => ?_) (fun hc => ?_)
    · replace hf := (if_neg hc).symm.trans hf
      obtain ⟨ta_, hZ1, hT1⟩ := hZ
      refine va_gets hx hb hZ1 hS X.2.2.2.1 (X.2.2.2.2 _ ww_2) (fun _ h => h) d_G_pushedAt_15 ?_
      refine lv_iload_n hx hb d_G_pushedAt_18 rfl (lv_at hl 0 rfl) ?_
      obtain ⟨hi4, hf⟩ := op_c hf
      refine va_ti (v := .int (ps_i (x1.toNatClampNeg))) hx hb hT1 hS hi4 rfl d_G_pushedAt_19 ?_
      have hq := Option.some.inj hf
      subst hq
      exact rt_i (r := (ps_i (x1.toNatClampNeg))) X hr hlk hK rfl hP hD hS d_G_pushedAt_20
    · replace hf := (if_pos hc).symm.trans hf
      refine lv_iconst (v := (4 : Int32)) hx hb d_G_pushedAt_11 (by decide) ?_
      refine lv_goto (tgt := 20) hx hb d_G_pushedAt_12 (by decide) ?_
      have hq := Option.some.inj hf
      subst hq
      exact rt_i (r := (4 : Int32)) X hr hlk hK rfl hP hD hS d_G_pushedAt_20
set_option maxHeartbeats 4000000 in
set_option maxRecDepth 100000 in
theorem c_tc_G_sizeOf {x1 : Int32} {z : Int32} (hf : tc_G_sizeOf x1 = some z) : cs_i l my_G_sizeOf mb_G_sizeOf 1 .int rm_c_G_sizeOf D (ty_ cI cT) [.int x1] w w z := by
  refine cs_i_of (by decide) (Nat.le_of_ble_eq_true rfl) ?_
  intro p e s m below meth c A ls X hr hlk hK hP hD hS hA hZ hl
  have hx := X.1
  have hb := X.2.1
  have hl : lv_has ls 1 [(0, .int x1)] := hl
  unfold tc_G_sizeOf at hf
  refine lv_iload_n hx hb d_G_sizeOf_0 rfl (lv_at hl 0 rfl) ?_
  refine lv_iconst (v := (5 : Int32)) hx hb d_G_sizeOf_1 (by decide) ?_
  refine lv_icmp_gt (tgt := 9) hx hb d_G_sizeOf_2 (by decide) (fun hc => ?_) (fun hc => ?_)
  · replace hf := (if_pos hc).symm.trans hf
    refine lv_iconst (v := (1 : Int32)) hx hb d_G_sizeOf_9 (by decide) ?_
    have hq := Option.some.inj hf
    subst hq
    exact rt_i (r := (1 : Int32)) X hr hlk hK rfl hP hD hS d_G_sizeOf_10
  · replace hf := (if_neg hc).symm.trans hf
    refine lv_iconst (v := (2 : Int32)) hx hb d_G_sizeOf_5 (by decide) ?_
    refine lv_goto (tgt := 10) hx hb d_G_sizeOf_6 (by decide) ?_
    have hq := Option.some.inj hf
    subst hq
    exact rt_i (r := (2 : Int32)) X hr hlk hK rfl hP hD hS d_G_sizeOf_10
end CLS

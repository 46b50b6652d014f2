theorem dJ0_length_8abf5_0 : decode cJ0_length_8abf5 0 = .ok (.aload_n 0, 1) := by decide +kernel
theorem dJ0_length_8abf5_1 : decode cJ0_length_8abf5 1 = .ok (.getfield 9, 3) := by decide +kernel
theorem dJ0_length_8abf5_4 : decode cJ0_length_8abf5 4 = .ok (.arraylength, 1) := by decide +kernel
theorem dJ0_length_8abf5_5 : decode cJ0_length_8abf5 5 = .ok (.aload_n 0, 1) := by decide +kernel
theorem dJ0_length_8abf5_6 : decode cJ0_length_8abf5 6 = .ok (.invokevirtual 335, 3) := by decide +kernel
theorem dJ0_length_8abf5_9 : decode cJ0_length_8abf5 9 = .ok (.ishr, 1) := by decide +kernel
theorem dJ0_length_8abf5_10 : decode cJ0_length_8abf5 10 = .ok (.ireturn, 1) := by decide +kernel
theorem dJ0_charAt_5068e_0 : decode cJ0_charAt_5068e 0 = .ok (.aload_n 0, 1) := by decide +kernel
theorem dJ0_charAt_5068e_1 : decode cJ0_charAt_5068e 1 = .ok (.invokevirtual 492, 3) := by decide +kernel
theorem dJ0_charAt_5068e_4 : decode cJ0_charAt_5068e 4 = .ok (.ifCond .eq 12, 3) := by decide +kernel
theorem dJ0_charAt_5068e_7 : decode cJ0_charAt_5068e 7 = .ok (.aload_n 0, 1) := by decide +kernel
theorem dJ0_charAt_5068e_8 : decode cJ0_charAt_5068e 8 = .ok (.getfield 9, 3) := by decide +kernel
theorem dJ0_charAt_5068e_11 : decode cJ0_charAt_5068e 11 = .ok (.iload_n 1, 1) := by decide +kernel
theorem dJ0_charAt_5068e_12 : decode cJ0_charAt_5068e 12 = .ok (.invokestatic 495, 3) := by decide +kernel
theorem dJ0_charAt_5068e_15 : decode cJ0_charAt_5068e 15 = .ok (.ireturn, 1) := by decide +kernel
theorem dJ0_charAt_5068e_16 : decode cJ0_charAt_5068e 16 = .ok (.aload_n 0, 1) := by decide +kernel
theorem dJ0_charAt_5068e_17 : decode cJ0_charAt_5068e 17 = .ok (.getfield 9, 3) := by decide +kernel
theorem dJ0_charAt_5068e_20 : decode cJ0_charAt_5068e 20 = .ok (.iload_n 1, 1) := by decide +kernel
theorem dJ0_charAt_5068e_21 : decode cJ0_charAt_5068e 21 = .ok (.invokestatic 498, 3) := by decide +kernel
theorem dJ0_charAt_5068e_24 : decode cJ0_charAt_5068e 24 = .ok (.ireturn, 1) := by decide +kernel
theorem dJ0_coder_7d493_0 : decode cJ0_coder_7d493 0 = .ok (.getstatic 38, 3) := by decide +kernel
theorem dJ0_coder_7d493_3 : decode cJ0_coder_7d493 3 = .ok (.ifCond .eq 10, 3) := by decide +kernel
theorem dJ0_coder_7d493_6 : decode cJ0_coder_7d493 6 = .ok (.aload_n 0, 1) := by decide +kernel
theorem dJ0_coder_7d493_7 : decode cJ0_coder_7d493 7 = .ok (.getfield 15, 3) := by decide +kernel
theorem dJ0_coder_7d493_10 : decode cJ0_coder_7d493 10 = .ok (.goto 4, 3) := by decide +kernel
theorem dJ0_coder_7d493_13 : decode cJ0_coder_7d493 13 = .ok (.iconst 1, 1) := by decide +kernel
theorem dJ0_coder_7d493_14 : decode cJ0_coder_7d493 14 = .ok (.ireturn, 1) := by decide +kernel
theorem dJ0_isLatin1_aae02_0 : decode cJ0_isLatin1_aae02 0 = .ok (.getstatic 38, 3) := by decide +kernel
theorem dJ0_isLatin1_aae02_3 : decode cJ0_isLatin1_aae02 3 = .ok (.ifCond .eq 14, 3) := by decide +kernel
theorem dJ0_isLatin1_aae02_6 : decode cJ0_isLatin1_aae02 6 = .ok (.aload_n 0, 1) := by decide +kernel
theorem dJ0_isLatin1_aae02_7 : decode cJ0_isLatin1_aae02 7 = .ok (.getfield 15, 3) := by decide +kernel
theorem dJ0_isLatin1_aae02_10 : decode cJ0_isLatin1_aae02 10 = .ok (.ifCond .ne 7, 3) := by decide +kernel
theorem dJ0_isLatin1_aae02_13 : decode cJ0_isLatin1_aae02 13 = .ok (.iconst 1, 1) := by decide +kernel
theorem dJ0_isLatin1_aae02_14 : decode cJ0_isLatin1_aae02 14 = .ok (.goto 4, 3) := by decide +kernel
theorem dJ0_isLatin1_aae02_17 : decode cJ0_isLatin1_aae02 17 = .ok (.iconst 0, 1) := by decide +kernel
theorem dJ0_isLatin1_aae02_18 : decode cJ0_isLatin1_aae02 18 = .ok (.ireturn, 1) := by decide +kernel
theorem dJ0_checkIndex_df160_0 : decode cJ0_checkIndex_df160 0 = .ok (.iload_n 0, 1) := by decide +kernel
theorem dJ0_checkIndex_df160_1 : decode cJ0_checkIndex_df160 1 = .ok (.iload_n 1, 1) := by decide +kernel
theorem dJ0_checkIndex_df160_2 : decode cJ0_checkIndex_df160 2 = .ok (.getstatic 1053, 3) := by decide +kernel
theorem dJ0_checkIndex_df160_5 : decode cJ0_checkIndex_df160 5 = .ok (.invokestatic 1059, 3) := by decide +kernel
theorem dJ0_checkIndex_df160_8 : decode cJ0_checkIndex_df160 8 = .ok (.pop, 1) := by decide +kernel
theorem dJ0_checkIndex_df160_9 : decode cJ0_checkIndex_df160 9 = .ok (.return_, 1) := by decide +kernel
theorem dJ1_charAt_3b067_0 : decode cJ1_charAt_3b067 0 = .ok (.iload_n 1, 1) := by decide +kernel
theorem dJ1_charAt_3b067_1 : decode cJ1_charAt_3b067 1 = .ok (.aload_n 0, 1) := by decide +kernel
theorem dJ1_charAt_3b067_2 : decode cJ1_charAt_3b067 2 = .ok (.arraylength, 1) := by decide +kernel
theorem dJ1_charAt_3b067_3 : decode cJ1_charAt_3b067 3 = .ok (.invokestatic 9, 3) := by decide +kernel
theorem dJ1_charAt_3b067_6 : decode cJ1_charAt_3b067 6 = .ok (.aload_n 0, 1) := by decide +kernel
theorem dJ1_charAt_3b067_7 : decode cJ1_charAt_3b067 7 = .ok (.iload_n 1, 1) := by decide +kernel
theorem dJ1_charAt_3b067_8 : decode cJ1_charAt_3b067 8 = .ok (.baload, 1) := by decide +kernel
theorem dJ1_charAt_3b067_9 : decode cJ1_charAt_3b067 9 = .ok (.sipush 255, 3) := by decide +kernel
theorem dJ1_charAt_3b067_12 : decode cJ1_charAt_3b067 12 = .ok (.iand, 1) := by decide +kernel
theorem dJ1_charAt_3b067_13 : decode cJ1_charAt_3b067 13 = .ok (.i2c, 1) := by decide +kernel
theorem dJ1_charAt_3b067_14 : decode cJ1_charAt_3b067 14 = .ok (.ireturn, 1) := by decide +kernel
theorem dJ2_getChar_3b067_0 : decode cJ2_getChar_3b067 0 = .ok (.getstatic 44, 3) := by decide +kernel
theorem dJ2_getChar_3b067_3 : decode cJ2_getChar_3b067 3 = .ok (.ifCond .ne 25, 3) := by decide +kernel
theorem dJ2_getChar_3b067_6 : decode cJ2_getChar_3b067 6 = .ok (.iload_n 1, 1) := by decide +kernel
theorem dJ2_getChar_3b067_7 : decode cJ2_getChar_3b067 7 = .ok (.ifCond .lt 11, 3) := by decide +kernel
theorem dJ2_getChar_3b067_10 : decode cJ2_getChar_3b067 10 = .ok (.iload_n 1, 1) := by decide +kernel
theorem dJ2_getChar_3b067_11 : decode cJ2_getChar_3b067 11 = .ok (.aload_n 0, 1) := by decide +kernel
theorem dJ2_getChar_3b067_12 : decode cJ2_getChar_3b067 12 = .ok (.invokestatic 48, 3) := by decide +kernel
theorem dJ2_getChar_3b067_15 : decode cJ2_getChar_3b067 15 = .ok (.if_icmp .lt 13, 3) := by decide +kernel
theorem dJ2_getChar_3b067_18 : decode cJ2_getChar_3b067 18 = .ok (.new 52, 3) := by decide +kernel
theorem dJ2_getChar_3b067_21 : decode cJ2_getChar_3b067 21 = .ok (.dup, 1) := by decide +kernel
theorem dJ2_getChar_3b067_22 : decode cJ2_getChar_3b067 22 = .ok (.ldc 54, 2) := by decide +kernel
theorem dJ2_getChar_3b067_24 : decode cJ2_getChar_3b067 24 = .ok (.invokespecial 56, 3) := by decide +kernel
theorem dJ2_getChar_3b067_27 : decode cJ2_getChar_3b067 27 = .ok (.athrow, 1) := by decide +kernel
theorem dJ2_getChar_3b067_28 : decode cJ2_getChar_3b067 28 = .ok (.iload_n 1, 1) := by decide +kernel
theorem dJ2_getChar_3b067_29 : decode cJ2_getChar_3b067 29 = .ok (.iconst 1, 1) := by decide +kernel
theorem dJ2_getChar_3b067_30 : decode cJ2_getChar_3b067 30 = .ok (.ishl, 1) := by decide +kernel
theorem dJ2_getChar_3b067_31 : decode cJ2_getChar_3b067 31 = .ok (.istore_n 1, 1) := by decide +kernel
theorem dJ2_getChar_3b067_32 : decode cJ2_getChar_3b067 32 = .ok (.aload_n 0, 1) := by decide +kernel
theorem dJ2_getChar_3b067_33 : decode cJ2_getChar_3b067 33 = .ok (.iload_n 1, 1) := by decide +kernel
theorem dJ2_getChar_3b067_34 : decode cJ2_getChar_3b067 34 = .ok (.iinc 1 1, 3) := by decide +kernel
theorem dJ2_getChar_3b067_37 : decode cJ2_getChar_3b067 37 = .ok (.baload, 1) := by decide +kernel
theorem dJ2_getChar_3b067_38 : decode cJ2_getChar_3b067 38 = .ok (.sipush 255, 3) := by decide +kernel
theorem dJ2_getChar_3b067_41 : decode cJ2_getChar_3b067 41 = .ok (.iand, 1) := by decide +kernel
theorem dJ2_getChar_3b067_42 : decode cJ2_getChar_3b067 42 = .ok (.getstatic 59, 3) := by decide +kernel
theorem dJ2_getChar_3b067_45 : decode cJ2_getChar_3b067 45 = .ok (.ishl, 1) := by decide +kernel
theorem dJ2_getChar_3b067_46 : decode cJ2_getChar_3b067 46 = .ok (.aload_n 0, 1) := by decide +kernel
theorem dJ2_getChar_3b067_47 : decode cJ2_getChar_3b067 47 = .ok (.iload_n 1, 1) := by decide +kernel
theorem dJ2_getChar_3b067_48 : decode cJ2_getChar_3b067 48 = .ok (.baload, 1) := by decide +kernel
theorem dJ2_getChar_3b067_49 : decode cJ2_getChar_3b067 49 = .ok (.sipush 255, 3) := by decide +kernel
theorem dJ2_getChar_3b067_52 : decode cJ2_getChar_3b067 52 = .ok (.iand, 1) := by decide +kernel
theorem dJ2_getChar_3b067_53 : decode cJ2_getChar_3b067 53 = .ok (.getstatic 63, 3) := by decide +kernel
theorem dJ2_getChar_3b067_56 : decode cJ2_getChar_3b067 56 = .ok (.ishl, 1) := by decide +kernel
theorem dJ2_getChar_3b067_57 : decode cJ2_getChar_3b067 57 = .ok (.ior, 1) := by decide +kernel
theorem dJ2_getChar_3b067_58 : decode cJ2_getChar_3b067 58 = .ok (.i2c, 1) := by decide +kernel
theorem dJ2_getChar_3b067_59 : decode cJ2_getChar_3b067 59 = .ok (.ireturn, 1) := by decide +kernel
theorem dJ2_length_9d52b_0 : decode cJ2_length_9d52b 0 = .ok (.aload_n 0, 1) := by decide +kernel
theorem dJ2_length_9d52b_1 : decode cJ2_length_9d52b 1 = .ok (.arraylength, 1) := by decide +kernel
theorem dJ2_length_9d52b_2 : decode cJ2_length_9d52b 2 = .ok (.iconst 1, 1) := by decide +kernel
theorem dJ2_length_9d52b_3 : decode cJ2_length_9d52b 3 = .ok (.ishr, 1) := by decide +kernel
theorem dJ2_length_9d52b_4 : decode cJ2_length_9d52b 4 = .ok (.ireturn, 1) := by decide +kernel
theorem dJ2_charAt_3b067_0 : decode cJ2_charAt_3b067 0 = .ok (.iload_n 1, 1) := by decide +kernel
theorem dJ2_charAt_3b067_1 : decode cJ2_charAt_3b067 1 = .ok (.aload_n 0, 1) := by decide +kernel
theorem dJ2_charAt_3b067_2 : decode cJ2_charAt_3b067 2 = .ok (.invokestatic 67, 3) := by decide +kernel
theorem dJ2_charAt_3b067_5 : decode cJ2_charAt_3b067 5 = .ok (.aload_n 0, 1) := by decide +kernel
theorem dJ2_charAt_3b067_6 : decode cJ2_charAt_3b067 6 = .ok (.iload_n 1, 1) := by decide +kernel
theorem dJ2_charAt_3b067_7 : decode cJ2_charAt_3b067 7 = .ok (.invokestatic 71, 3) := by decide +kernel
theorem dJ2_charAt_3b067_10 : decode cJ2_charAt_3b067 10 = .ok (.ireturn, 1) := by decide +kernel
theorem dJ2_checkIndex_2214a_0 : decode cJ2_checkIndex_2214a 0 = .ok (.iload_n 0, 1) := by decide +kernel
theorem dJ2_checkIndex_2214a_1 : decode cJ2_checkIndex_2214a 1 = .ok (.aload_n 1, 1) := by decide +kernel
theorem dJ2_checkIndex_2214a_2 : decode cJ2_checkIndex_2214a 2 = .ok (.invokestatic 48, 3) := by decide +kernel
theorem dJ2_checkIndex_2214a_5 : decode cJ2_checkIndex_2214a 5 = .ok (.invokestatic 414, 3) := by decide +kernel
theorem dJ2_checkIndex_2214a_8 : decode cJ2_checkIndex_2214a 8 = .ok (.return_, 1) := by decide +kernel
theorem dJ3_checkIndex_8e157_0 : decode cJ3_checkIndex_8e157 0 = .ok (.iload_n 0, 1) := by decide +kernel
theorem dJ3_checkIndex_8e157_1 : decode cJ3_checkIndex_8e157 1 = .ok (.ifCond .lt 8, 3) := by decide +kernel
theorem dJ3_checkIndex_8e157_4 : decode cJ3_checkIndex_8e157 4 = .ok (.iload_n 0, 1) := by decide +kernel
theorem dJ3_checkIndex_8e157_5 : decode cJ3_checkIndex_8e157 5 = .ok (.iload_n 1, 1) := by decide +kernel
theorem dJ3_checkIndex_8e157_6 : decode cJ3_checkIndex_8e157 6 = .ok (.if_icmp .lt 10, 3) := by decide +kernel
theorem dJ3_checkIndex_8e157_9 : decode cJ3_checkIndex_8e157 9 = .ok (.aload_n 2, 1) := by decide +kernel
theorem dJ3_checkIndex_8e157_10 : decode cJ3_checkIndex_8e157 10 = .ok (.iload_n 0, 1) := by decide +kernel
theorem dJ3_checkIndex_8e157_11 : decode cJ3_checkIndex_8e157 11 = .ok (.iload_n 1, 1) := by decide +kernel
theorem dJ3_checkIndex_8e157_12 : decode cJ3_checkIndex_8e157 12 = .ok (.invokestatic 95, 3) := by decide +kernel
theorem dJ3_checkIndex_8e157_15 : decode cJ3_checkIndex_8e157 15 = .ok (.athrow, 1) := by decide +kernel
theorem dJ3_checkIndex_8e157_16 : decode cJ3_checkIndex_8e157 16 = .ok (.iload_n 0, 1) := by decide +kernel
theorem dJ3_checkIndex_8e157_17 : decode cJ3_checkIndex_8e157 17 = .ok (.ireturn, 1) := by decide +kernel
theorem dJ6_bitCount_0f7a4_0 : decode cJ6_bitCount_0f7a4 0 = .ok (.iload_n 0, 1) := by decide +kernel
theorem dJ6_bitCount_0f7a4_1 : decode cJ6_bitCount_0f7a4 1 = .ok (.iload_n 0, 1) := by decide +kernel
theorem dJ6_bitCount_0f7a4_2 : decode cJ6_bitCount_0f7a4 2 = .ok (.iconst 1, 1) := by decide +kernel
theorem dJ6_bitCount_0f7a4_3 : decode cJ6_bitCount_0f7a4 3 = .ok (.iushr, 1) := by decide +kernel
theorem dJ6_bitCount_0f7a4_4 : decode cJ6_bitCount_0f7a4 4 = .ok (.ldc_w 265, 3) := by decide +kernel
theorem dJ6_bitCount_0f7a4_7 : decode cJ6_bitCount_0f7a4 7 = .ok (.iand, 1) := by decide +kernel
theorem dJ6_bitCount_0f7a4_8 : decode cJ6_bitCount_0f7a4 8 = .ok (.isub, 1) := by decide +kernel
theorem dJ6_bitCount_0f7a4_9 : decode cJ6_bitCount_0f7a4 9 = .ok (.istore_n 0, 1) := by decide +kernel
theorem dJ6_bitCount_0f7a4_10 : decode cJ6_bitCount_0f7a4 10 = .ok (.iload_n 0, 1) := by decide +kernel
theorem dJ6_bitCount_0f7a4_11 : decode cJ6_bitCount_0f7a4 11 = .ok (.ldc_w 266, 3) := by decide +kernel
theorem dJ6_bitCount_0f7a4_14 : decode cJ6_bitCount_0f7a4 14 = .ok (.iand, 1) := by decide +kernel
theorem dJ6_bitCount_0f7a4_15 : decode cJ6_bitCount_0f7a4 15 = .ok (.iload_n 0, 1) := by decide +kernel
theorem dJ6_bitCount_0f7a4_16 : decode cJ6_bitCount_0f7a4 16 = .ok (.iconst 2, 1) := by decide +kernel
theorem dJ6_bitCount_0f7a4_17 : decode cJ6_bitCount_0f7a4 17 = .ok (.iushr, 1) := by decide +kernel
theorem dJ6_bitCount_0f7a4_18 : decode cJ6_bitCount_0f7a4 18 = .ok (.ldc_w 266, 3) := by decide +kernel
theorem dJ6_bitCount_0f7a4_21 : decode cJ6_bitCount_0f7a4 21 = .ok (.iand, 1) := by decide +kernel
theorem dJ6_bitCount_0f7a4_22 : decode cJ6_bitCount_0f7a4 22 = .ok (.iadd, 1) := by decide +kernel
theorem dJ6_bitCount_0f7a4_23 : decode cJ6_bitCount_0f7a4 23 = .ok (.istore_n 0, 1) := by decide +kernel
theorem dJ6_bitCount_0f7a4_24 : decode cJ6_bitCount_0f7a4 24 = .ok (.iload_n 0, 1) := by decide +kernel
theorem dJ6_bitCount_0f7a4_25 : decode cJ6_bitCount_0f7a4 25 = .ok (.iload_n 0, 1) := by decide +kernel
theorem dJ6_bitCount_0f7a4_26 : decode cJ6_bitCount_0f7a4 26 = .ok (.iconst 4, 1) := by decide +kernel
theorem dJ6_bitCount_0f7a4_27 : decode cJ6_bitCount_0f7a4 27 = .ok (.iushr, 1) := by decide +kernel
theorem dJ6_bitCount_0f7a4_28 : decode cJ6_bitCount_0f7a4 28 = .ok (.iadd, 1) := by decide +kernel
theorem dJ6_bitCount_0f7a4_29 : decode cJ6_bitCount_0f7a4 29 = .ok (.ldc_w 267, 3) := by decide +kernel
theorem dJ6_bitCount_0f7a4_32 : decode cJ6_bitCount_0f7a4 32 = .ok (.iand, 1) := by decide +kernel
theorem dJ6_bitCount_0f7a4_33 : decode cJ6_bitCount_0f7a4 33 = .ok (.istore_n 0, 1) := by decide +kernel
theorem dJ6_bitCount_0f7a4_34 : decode cJ6_bitCount_0f7a4 34 = .ok (.iload_n 0, 1) := by decide +kernel
theorem dJ6_bitCount_0f7a4_35 : decode cJ6_bitCount_0f7a4 35 = .ok (.iload_n 0, 1) := by decide +kernel
theorem dJ6_bitCount_0f7a4_36 : decode cJ6_bitCount_0f7a4 36 = .ok (.bipush 8, 2) := by decide +kernel
theorem dJ6_bitCount_0f7a4_38 : decode cJ6_bitCount_0f7a4 38 = .ok (.iushr, 1) := by decide +kernel
theorem dJ6_bitCount_0f7a4_39 : decode cJ6_bitCount_0f7a4 39 = .ok (.iadd, 1) := by decide +kernel
theorem dJ6_bitCount_0f7a4_40 : decode cJ6_bitCount_0f7a4 40 = .ok (.istore_n 0, 1) := by decide +kernel
theorem dJ6_bitCount_0f7a4_41 : decode cJ6_bitCount_0f7a4 41 = .ok (.iload_n 0, 1) := by decide +kernel
theorem dJ6_bitCount_0f7a4_42 : decode cJ6_bitCount_0f7a4 42 = .ok (.iload_n 0, 1) := by decide +kernel
theorem dJ6_bitCount_0f7a4_43 : decode cJ6_bitCount_0f7a4 43 = .ok (.bipush 16, 2) := by decide +kernel
theorem dJ6_bitCount_0f7a4_45 : decode cJ6_bitCount_0f7a4 45 = .ok (.iushr, 1) := by decide +kernel
theorem dJ6_bitCount_0f7a4_46 : decode cJ6_bitCount_0f7a4 46 = .ok (.iadd, 1) := by decide +kernel
theorem dJ6_bitCount_0f7a4_47 : decode cJ6_bitCount_0f7a4 47 = .ok (.istore_n 0, 1) := by decide +kernel
theorem dJ6_bitCount_0f7a4_48 : decode cJ6_bitCount_0f7a4 48 = .ok (.iload_n 0, 1) := by decide +kernel
theorem dJ6_bitCount_0f7a4_49 : decode cJ6_bitCount_0f7a4 49 = .ok (.bipush 63, 2) := by decide +kernel
theorem dJ6_bitCount_0f7a4_51 : decode cJ6_bitCount_0f7a4 51 = .ok (.iand, 1) := by decide +kernel
theorem dJ6_bitCount_0f7a4_52 : decode cJ6_bitCount_0f7a4 52 = .ok (.ireturn, 1) := by decide +kernel
theorem dJ7_fill_d0a16_0 : decode cJ7_fill_d0a16 0 = .ok (.iconst 0, 1) := by decide +kernel
theorem dJ7_fill_d0a16_1 : decode cJ7_fill_d0a16 1 = .ok (.istore_n 3, 1) := by decide +kernel
theorem dJ7_fill_d0a16_2 : decode cJ7_fill_d0a16 2 = .ok (.aload_n 0, 1) := by decide +kernel
theorem dJ7_fill_d0a16_3 : decode cJ7_fill_d0a16 3 = .ok (.arraylength, 1) := by decide +kernel
theorem dJ7_fill_d0a16_4 : decode cJ7_fill_d0a16 4 = .ok (.istore 4, 2) := by decide +kernel
theorem dJ7_fill_d0a16_6 : decode cJ7_fill_d0a16 6 = .ok (.iload_n 3, 1) := by decide +kernel
theorem dJ7_fill_d0a16_7 : decode cJ7_fill_d0a16 7 = .ok (.iload 4, 2) := by decide +kernel
theorem dJ7_fill_d0a16_9 : decode cJ7_fill_d0a16 9 = .ok (.if_icmp .ge 13, 3) := by decide +kernel
theorem dJ7_fill_d0a16_12 : decode cJ7_fill_d0a16 12 = .ok (.aload_n 0, 1) := by decide +kernel
theorem dJ7_fill_d0a16_13 : decode cJ7_fill_d0a16 13 = .ok (.iload_n 3, 1) := by decide +kernel
theorem dJ7_fill_d0a16_14 : decode cJ7_fill_d0a16 14 = .ok (.lload_n 1, 1) := by decide +kernel
theorem dJ7_fill_d0a16_15 : decode cJ7_fill_d0a16 15 = .ok (.lastore, 1) := by decide +kernel
theorem dJ7_fill_d0a16_16 : decode cJ7_fill_d0a16 16 = .ok (.iinc 3 1, 3) := by decide +kernel
theorem dJ7_fill_d0a16_19 : decode cJ7_fill_d0a16 19 = .ok (.goto (-13), 3) := by decide +kernel
theorem dJ7_fill_d0a16_22 : decode cJ7_fill_d0a16 22 = .ok (.return_, 1) := by decide +kernel
theorem dJ7_fill_53178_0 : decode cJ7_fill_53178 0 = .ok (.iconst 0, 1) := by decide +kernel
theorem dJ7_fill_53178_1 : decode cJ7_fill_53178 1 = .ok (.istore_n 2, 1) := by decide +kernel
theorem dJ7_fill_53178_2 : decode cJ7_fill_53178 2 = .ok (.aload_n 0, 1) := by decide +kernel
theorem dJ7_fill_53178_3 : decode cJ7_fill_53178 3 = .ok (.arraylength, 1) := by decide +kernel
theorem dJ7_fill_53178_4 : decode cJ7_fill_53178 4 = .ok (.istore_n 3, 1) := by decide +kernel
theorem dJ7_fill_53178_5 : decode cJ7_fill_53178 5 = .ok (.iload_n 2, 1) := by decide +kernel
theorem dJ7_fill_53178_6 : decode cJ7_fill_53178 6 = .ok (.iload_n 3, 1) := by decide +kernel
theorem dJ7_fill_53178_7 : decode cJ7_fill_53178 7 = .ok (.if_icmp .ge 13, 3) := by decide +kernel
theorem dJ7_fill_53178_10 : decode cJ7_fill_53178 10 = .ok (.aload_n 0, 1) := by decide +kernel
theorem dJ7_fill_53178_11 : decode cJ7_fill_53178 11 = .ok (.iload_n 2, 1) := by decide +kernel
theorem dJ7_fill_53178_12 : decode cJ7_fill_53178 12 = .ok (.iload_n 1, 1) := by decide +kernel
theorem dJ7_fill_53178_13 : decode cJ7_fill_53178 13 = .ok (.iastore, 1) := by decide +kernel
theorem dJ7_fill_53178_14 : decode cJ7_fill_53178 14 = .ok (.iinc 2 1, 3) := by decide +kernel
theorem dJ7_fill_53178_17 : decode cJ7_fill_53178 17 = .ok (.goto (-12), 3) := by decide +kernel
theorem dJ7_fill_53178_20 : decode cJ7_fill_53178 20 = .ok (.return_, 1) := by decide +kernel
theorem dJ9_abs_0f7a4_0 : decode cJ9_abs_0f7a4 0 = .ok (.iload_n 0, 1) := by decide +kernel
theorem dJ9_abs_0f7a4_1 : decode cJ9_abs_0f7a4 1 = .ok (.ifCond .ge 8, 3) := by decide +kernel
theorem dJ9_abs_0f7a4_4 : decode cJ9_abs_0f7a4 4 = .ok (.iload_n 0, 1) := by decide +kernel
theorem dJ9_abs_0f7a4_5 : decode cJ9_abs_0f7a4 5 = .ok (.ineg, 1) := by decide +kernel
theorem dJ9_abs_0f7a4_6 : decode cJ9_abs_0f7a4 6 = .ok (.goto 4, 3) := by decide +kernel
theorem dJ9_abs_0f7a4_9 : decode cJ9_abs_0f7a4 9 = .ok (.iload_n 0, 1) := by decide +kernel
theorem dJ9_abs_0f7a4_10 : decode cJ9_abs_0f7a4 10 = .ok (.ireturn, 1) := by decide +kernel
theorem dJ9_max_7cf53_0 : decode cJ9_max_7cf53 0 = .ok (.iload_n 0, 1) := by decide +kernel
theorem dJ9_max_7cf53_1 : decode cJ9_max_7cf53 1 = .ok (.iload_n 1, 1) := by decide +kernel
theorem dJ9_max_7cf53_2 : decode cJ9_max_7cf53 2 = .ok (.if_icmp .lt 7, 3) := by decide +kernel
theorem dJ9_max_7cf53_5 : decode cJ9_max_7cf53 5 = .ok (.iload_n 0, 1) := by decide +kernel
theorem dJ9_max_7cf53_6 : decode cJ9_max_7cf53 6 = .ok (.goto 4, 3) := by decide +kernel
theorem dJ9_max_7cf53_9 : decode cJ9_max_7cf53 9 = .ok (.iload_n 1, 1) := by decide +kernel
theorem dJ9_max_7cf53_10 : decode cJ9_max_7cf53 10 = .ok (.ireturn, 1) := by decide +kernel
theorem dJ9_max_f86c9_0 : decode cJ9_max_f86c9 0 = .ok (.lload_n 0, 1) := by decide +kernel
theorem dJ9_max_f86c9_1 : decode cJ9_max_f86c9 1 = .ok (.lload_n 2, 1) := by decide +kernel
theorem dJ9_max_f86c9_2 : decode cJ9_max_f86c9 2 = .ok (.lcmp, 1) := by decide +kernel
theorem dJ9_max_f86c9_3 : decode cJ9_max_f86c9 3 = .ok (.ifCond .lt 7, 3) := by decide +kernel
theorem dJ9_max_f86c9_6 : decode cJ9_max_f86c9 6 = .ok (.lload_n 0, 1) := by decide +kernel
theorem dJ9_max_f86c9_7 : decode cJ9_max_f86c9 7 = .ok (.goto 4, 3) := by decide +kernel
theorem dJ9_max_f86c9_10 : decode cJ9_max_f86c9 10 = .ok (.lload_n 2, 1) := by decide +kernel
theorem dJ9_max_f86c9_11 : decode cJ9_max_f86c9 11 = .ok (.lreturn, 1) := by decide +kernel
theorem dJ9_min_7cf53_0 : decode cJ9_min_7cf53 0 = .ok (.iload_n 0, 1) := by decide +kernel
theorem dJ9_min_7cf53_1 : decode cJ9_min_7cf53 1 = .ok (.iload_n 1, 1) := by decide +kernel
theorem dJ9_min_7cf53_2 : decode cJ9_min_7cf53 2 = .ok (.if_icmp .gt 7, 3) := by decide +kernel
theorem dJ9_min_7cf53_5 : decode cJ9_min_7cf53 5 = .ok (.iload_n 0, 1) := by decide +kernel
theorem dJ9_min_7cf53_6 : decode cJ9_min_7cf53 6 = .ok (.goto 4, 3) := by decide +kernel
theorem dJ9_min_7cf53_9 : decode cJ9_min_7cf53 9 = .ok (.iload_n 1, 1) := by decide +kernel
theorem dJ9_min_7cf53_10 : decode cJ9_min_7cf53 10 = .ok (.ireturn, 1) := by decide +kernel
theorem dJ13_bitCount_95d88_0 : decode cJ13_bitCount_95d88 0 = .ok (.lload_n 0, 1) := by decide +kernel
theorem dJ13_bitCount_95d88_1 : decode cJ13_bitCount_95d88 1 = .ok (.lload_n 0, 1) := by decide +kernel
theorem dJ13_bitCount_95d88_2 : decode cJ13_bitCount_95d88 2 = .ok (.iconst 1, 1) := by decide +kernel
theorem dJ13_bitCount_95d88_3 : decode cJ13_bitCount_95d88 3 = .ok (.lushr, 1) := by decide +kernel
theorem dJ13_bitCount_95d88_4 : decode cJ13_bitCount_95d88 4 = .ok (.ldc2_w 314, 3) := by decide +kernel
theorem dJ13_bitCount_95d88_7 : decode cJ13_bitCount_95d88 7 = .ok (.land, 1) := by decide +kernel
theorem dJ13_bitCount_95d88_8 : decode cJ13_bitCount_95d88 8 = .ok (.lsub, 1) := by decide +kernel
theorem dJ13_bitCount_95d88_9 : decode cJ13_bitCount_95d88 9 = .ok (.lstore_n 0, 1) := by decide +kernel
theorem dJ13_bitCount_95d88_10 : decode cJ13_bitCount_95d88 10 = .ok (.lload_n 0, 1) := by decide +kernel
theorem dJ13_bitCount_95d88_11 : decode cJ13_bitCount_95d88 11 = .ok (.ldc2_w 316, 3) := by decide +kernel
theorem dJ13_bitCount_95d88_14 : decode cJ13_bitCount_95d88 14 = .ok (.land, 1) := by decide +kernel
theorem dJ13_bitCount_95d88_15 : decode cJ13_bitCount_95d88 15 = .ok (.lload_n 0, 1) := by decide +kernel
theorem dJ13_bitCount_95d88_16 : decode cJ13_bitCount_95d88 16 = .ok (.iconst 2, 1) := by decide +kernel
theorem dJ13_bitCount_95d88_17 : decode cJ13_bitCount_95d88 17 = .ok (.lushr, 1) := by decide +kernel
theorem dJ13_bitCount_95d88_18 : decode cJ13_bitCount_95d88 18 = .ok (.ldc2_w 316, 3) := by decide +kernel
theorem dJ13_bitCount_95d88_21 : decode cJ13_bitCount_95d88 21 = .ok (.land, 1) := by decide +kernel
theorem dJ13_bitCount_95d88_22 : decode cJ13_bitCount_95d88 22 = .ok (.ladd, 1) := by decide +kernel
theorem dJ13_bitCount_95d88_23 : decode cJ13_bitCount_95d88 23 = .ok (.lstore_n 0, 1) := by decide +kernel
theorem dJ13_bitCount_95d88_24 : decode cJ13_bitCount_95d88 24 = .ok (.lload_n 0, 1) := by decide +kernel
theorem dJ13_bitCount_95d88_25 : decode cJ13_bitCount_95d88 25 = .ok (.lload_n 0, 1) := by decide +kernel
theorem dJ13_bitCount_95d88_26 : decode cJ13_bitCount_95d88 26 = .ok (.iconst 4, 1) := by decide +kernel
theorem dJ13_bitCount_95d88_27 : decode cJ13_bitCount_95d88 27 = .ok (.lushr, 1) := by decide +kernel
theorem dJ13_bitCount_95d88_28 : decode cJ13_bitCount_95d88 28 = .ok (.ladd, 1) := by decide +kernel
theorem dJ13_bitCount_95d88_29 : decode cJ13_bitCount_95d88 29 = .ok (.ldc2_w 318, 3) := by decide +kernel
theorem dJ13_bitCount_95d88_32 : decode cJ13_bitCount_95d88 32 = .ok (.land, 1) := by decide +kernel
theorem dJ13_bitCount_95d88_33 : decode cJ13_bitCount_95d88 33 = .ok (.lstore_n 0, 1) := by decide +kernel
theorem dJ13_bitCount_95d88_34 : decode cJ13_bitCount_95d88 34 = .ok (.lload_n 0, 1) := by decide +kernel
theorem dJ13_bitCount_95d88_35 : decode cJ13_bitCount_95d88 35 = .ok (.lload_n 0, 1) := by decide +kernel
theorem dJ13_bitCount_95d88_36 : decode cJ13_bitCount_95d88 36 = .ok (.bipush 8, 2) := by decide +kernel
theorem dJ13_bitCount_95d88_38 : decode cJ13_bitCount_95d88 38 = .ok (.lushr, 1) := by decide +kernel
theorem dJ13_bitCount_95d88_39 : decode cJ13_bitCount_95d88 39 = .ok (.ladd, 1) := by decide +kernel
theorem dJ13_bitCount_95d88_40 : decode cJ13_bitCount_95d88 40 = .ok (.lstore_n 0, 1) := by decide +kernel
theorem dJ13_bitCount_95d88_41 : decode cJ13_bitCount_95d88 41 = .ok (.lload_n 0, 1) := by decide +kernel
theorem dJ13_bitCount_95d88_42 : decode cJ13_bitCount_95d88 42 = .ok (.lload_n 0, 1) := by decide +kernel
theorem dJ13_bitCount_95d88_43 : decode cJ13_bitCount_95d88 43 = .ok (.bipush 16, 2) := by decide +kernel
theorem dJ13_bitCount_95d88_45 : decode cJ13_bitCount_95d88 45 = .ok (.lushr, 1) := by decide +kernel
theorem dJ13_bitCount_95d88_46 : decode cJ13_bitCount_95d88 46 = .ok (.ladd, 1) := by decide +kernel
theorem dJ13_bitCount_95d88_47 : decode cJ13_bitCount_95d88 47 = .ok (.lstore_n 0, 1) := by decide +kernel
theorem dJ13_bitCount_95d88_48 : decode cJ13_bitCount_95d88 48 = .ok (.lload_n 0, 1) := by decide +kernel
theorem dJ13_bitCount_95d88_49 : decode cJ13_bitCount_95d88 49 = .ok (.lload_n 0, 1) := by decide +kernel
theorem dJ13_bitCount_95d88_50 : decode cJ13_bitCount_95d88 50 = .ok (.bipush 32, 2) := by decide +kernel
theorem dJ13_bitCount_95d88_52 : decode cJ13_bitCount_95d88 52 = .ok (.lushr, 1) := by decide +kernel
theorem dJ13_bitCount_95d88_53 : decode cJ13_bitCount_95d88 53 = .ok (.ladd, 1) := by decide +kernel
theorem dJ13_bitCount_95d88_54 : decode cJ13_bitCount_95d88 54 = .ok (.lstore_n 0, 1) := by decide +kernel
theorem dJ13_bitCount_95d88_55 : decode cJ13_bitCount_95d88 55 = .ok (.lload_n 0, 1) := by decide +kernel
theorem dJ13_bitCount_95d88_56 : decode cJ13_bitCount_95d88 56 = .ok (.l2i, 1) := by decide +kernel
theorem dJ13_bitCount_95d88_57 : decode cJ13_bitCount_95d88 57 = .ok (.bipush 127, 2) := by decide +kernel
theorem dJ13_bitCount_95d88_59 : decode cJ13_bitCount_95d88 59 = .ok (.iand, 1) := by decide +kernel
theorem dJ13_bitCount_95d88_60 : decode cJ13_bitCount_95d88 60 = .ok (.ireturn, 1) := by decide +kernel
theorem dL_sheet_0 : decode cL_sheet 0 = .ok (.aload_n 2, 1) := by decide +kernel
theorem dL_sheet_1 : decode cL_sheet 1 = .ok (.iconst 0, 1) := by decide +kernel
theorem dL_sheet_2 : decode cL_sheet 2 = .ok (.aload_n 0, 1) := by decide +kernel
theorem dL_sheet_3 : decode cL_sheet 3 = .ok (.iload_n 1, 1) := by decide +kernel
theorem dL_sheet_4 : decode cL_sheet 4 = .ok (.invokevirtual 7, 3) := by decide +kernel
theorem dL_sheet_7 : decode cL_sheet 7 = .ok (.i2l, 1) := by decide +kernel
theorem dL_sheet_8 : decode cL_sheet 8 = .ok (.lastore, 1) := by decide +kernel
theorem dL_sheet_9 : decode cL_sheet 9 = .ok (.goto 6, 3) := by decide +kernel
theorem dL_sheet_12 : decode cL_sheet 12 = .ok (.astore_n 3, 1) := by decide +kernel
theorem dL_sheet_13 : decode cL_sheet 13 = .ok (.iconst 1, 1) := by decide +kernel
theorem dL_sheet_14 : decode cL_sheet 14 = .ok (.ireturn, 1) := by decide +kernel
theorem dL_sheet_15 : decode cL_sheet 15 = .ok (.iconst 0, 1) := by decide +kernel
theorem dL_sheet_16 : decode cL_sheet 16 = .ok (.ireturn, 1) := by decide +kernel
theorem dL_told_0 : decode cL_told 0 = .ok (.aload_n 2, 1) := by decide +kernel
theorem dL_told_1 : decode cL_told 1 = .ok (.iconst 0, 1) := by decide +kernel
theorem dL_told_2 : decode cL_told 2 = .ok (.aload_n 0, 1) := by decide +kernel
theorem dL_told_3 : decode cL_told 3 = .ok (.iload_n 1, 1) := by decide +kernel
theorem dL_told_4 : decode cL_told 4 = .ok (.invokevirtual 15, 3) := by decide +kernel
theorem dL_told_7 : decode cL_told 7 = .ok (.i2l, 1) := by decide +kernel
theorem dL_told_8 : decode cL_told 8 = .ok (.lastore, 1) := by decide +kernel
theorem dL_told_9 : decode cL_told 9 = .ok (.goto 6, 3) := by decide +kernel
theorem dL_told_12 : decode cL_told 12 = .ok (.astore_n 3, 1) := by decide +kernel
theorem dL_told_13 : decode cL_told 13 = .ok (.iconst 1, 1) := by decide +kernel
theorem dL_told_14 : decode cL_told 14 = .ok (.ireturn, 1) := by decide +kernel
theorem dL_told_15 : decode cL_told 15 = .ok (.iconst 0, 1) := by decide +kernel
theorem dL_told_16 : decode cL_told 16 = .ok (.ireturn, 1) := by decide +kernel
theorem dL_squares_0 : decode cL_squares 0 = .ok (.aload_n 3, 1) := by decide +kernel
theorem dL_squares_1 : decode cL_squares 1 = .ok (.iconst 0, 1) := by decide +kernel
theorem dL_squares_2 : decode cL_squares 2 = .ok (.aload_n 0, 1) := by decide +kernel
theorem dL_squares_3 : decode cL_squares 3 = .ok (.iload_n 1, 1) := by decide +kernel
theorem dL_squares_4 : decode cL_squares 4 = .ok (.iload_n 2, 1) := by decide +kernel
theorem dL_squares_5 : decode cL_squares 5 = .ok (.invokevirtual 18, 3) := by decide +kernel
theorem dL_squares_8 : decode cL_squares 8 = .ok (.lastore, 1) := by decide +kernel
theorem dL_squares_9 : decode cL_squares 9 = .ok (.goto 11, 3) := by decide +kernel
theorem dL_squares_12 : decode cL_squares 12 = .ok (.astore 4, 2) := by decide +kernel
theorem dL_squares_14 : decode cL_squares 14 = .ok (.iconst 1, 1) := by decide +kernel
theorem dL_squares_15 : decode cL_squares 15 = .ok (.ireturn, 1) := by decide +kernel
theorem dL_squares_16 : decode cL_squares 16 = .ok (.astore 4, 2) := by decide +kernel
theorem dL_squares_18 : decode cL_squares 18 = .ok (.iconst 2, 1) := by decide +kernel
theorem dL_squares_19 : decode cL_squares 19 = .ok (.ireturn, 1) := by decide +kernel
theorem dL_squares_20 : decode cL_squares 20 = .ok (.iconst 0, 1) := by decide +kernel
theorem dL_squares_21 : decode cL_squares 21 = .ok (.ireturn, 1) := by decide +kernel
theorem dL_letter_0 : decode cL_letter 0 = .ok (.aload_n 3, 1) := by decide +kernel
theorem dL_letter_1 : decode cL_letter 1 = .ok (.iconst 0, 1) := by decide +kernel
theorem dL_letter_2 : decode cL_letter 2 = .ok (.aload_n 0, 1) := by decide +kernel
theorem dL_letter_3 : decode cL_letter 3 = .ok (.iload_n 1, 1) := by decide +kernel
theorem dL_letter_4 : decode cL_letter 4 = .ok (.iload_n 2, 1) := by decide +kernel
theorem dL_letter_5 : decode cL_letter 5 = .ok (.invokevirtual 24, 3) := by decide +kernel
theorem dL_letter_8 : decode cL_letter 8 = .ok (.i2l, 1) := by decide +kernel
theorem dL_letter_9 : decode cL_letter 9 = .ok (.lastore, 1) := by decide +kernel
theorem dL_letter_10 : decode cL_letter 10 = .ok (.goto 11, 3) := by decide +kernel
theorem dL_letter_13 : decode cL_letter 13 = .ok (.astore 4, 2) := by decide +kernel
theorem dL_letter_15 : decode cL_letter 15 = .ok (.iconst 1, 1) := by decide +kernel
theorem dL_letter_16 : decode cL_letter 16 = .ok (.ireturn, 1) := by decide +kernel
theorem dL_letter_17 : decode cL_letter 17 = .ok (.astore 4, 2) := by decide +kernel
theorem dL_letter_19 : decode cL_letter 19 = .ok (.iconst 2, 1) := by decide +kernel
theorem dL_letter_20 : decode cL_letter 20 = .ok (.ireturn, 1) := by decide +kernel
theorem dL_letter_21 : decode cL_letter 21 = .ok (.iconst 0, 1) := by decide +kernel
theorem dL_letter_22 : decode cL_letter 22 = .ok (.ireturn, 1) := by decide +kernel
theorem dL_hollow_0 : decode cL_hollow 0 = .ok (.aload_n 2, 1) := by decide +kernel
theorem dL_hollow_1 : decode cL_hollow 1 = .ok (.iconst 0, 1) := by decide +kernel
theorem dL_hollow_2 : decode cL_hollow 2 = .ok (.aload_n 0, 1) := by decide +kernel
theorem dL_hollow_3 : decode cL_hollow 3 = .ok (.iload_n 1, 1) := by decide +kernel
theorem dL_hollow_4 : decode cL_hollow 4 = .ok (.invokevirtual 28, 3) := by decide +kernel
theorem dL_hollow_7 : decode cL_hollow 7 = .ok (.lastore, 1) := by decide +kernel
theorem dL_hollow_8 : decode cL_hollow 8 = .ok (.goto 6, 3) := by decide +kernel
theorem dL_hollow_11 : decode cL_hollow 11 = .ok (.astore_n 3, 1) := by decide +kernel
theorem dL_hollow_12 : decode cL_hollow 12 = .ok (.iconst 1, 1) := by decide +kernel
theorem dL_hollow_13 : decode cL_hollow 13 = .ok (.ireturn, 1) := by decide +kernel
theorem dL_hollow_14 : decode cL_hollow 14 = .ok (.iconst 0, 1) := by decide +kernel
theorem dL_hollow_15 : decode cL_hollow 15 = .ok (.ireturn, 1) := by decide +kernel
theorem dL_apart_0 : decode cL_apart 0 = .ok (.aload 4, 2) := by decide +kernel
theorem dL_apart_2 : decode cL_apart 2 = .ok (.iconst 0, 1) := by decide +kernel
theorem dL_apart_3 : decode cL_apart 3 = .ok (.aload_n 0, 1) := by decide +kernel
theorem dL_apart_4 : decode cL_apart 4 = .ok (.iload_n 1, 1) := by decide +kernel
theorem dL_apart_5 : decode cL_apart 5 = .ok (.iload_n 2, 1) := by decide +kernel
theorem dL_apart_6 : decode cL_apart 6 = .ok (.iload_n 3, 1) := by decide +kernel
theorem dL_apart_7 : decode cL_apart 7 = .ok (.invokevirtual 34, 3) := by decide +kernel
theorem dL_apart_10 : decode cL_apart 10 = .ok (.i2l, 1) := by decide +kernel
theorem dL_apart_11 : decode cL_apart 11 = .ok (.lastore, 1) := by decide +kernel
theorem dL_apart_12 : decode cL_apart 12 = .ok (.goto 7, 3) := by decide +kernel
theorem dL_apart_15 : decode cL_apart 15 = .ok (.astore 5, 2) := by decide +kernel
theorem dL_apart_17 : decode cL_apart 17 = .ok (.iconst 1, 1) := by decide +kernel
theorem dL_apart_18 : decode cL_apart 18 = .ok (.ireturn, 1) := by decide +kernel
theorem dL_apart_19 : decode cL_apart 19 = .ok (.iconst 0, 1) := by decide +kernel
theorem dL_apart_20 : decode cL_apart 20 = .ok (.ireturn, 1) := by decide +kernel
theorem dL_punches_0 : decode cL_punches 0 = .ok (.aload 4, 2) := by decide +kernel
theorem dL_punches_2 : decode cL_punches 2 = .ok (.iconst 0, 1) := by decide +kernel
theorem dL_punches_3 : decode cL_punches 3 = .ok (.aload_n 0, 1) := by decide +kernel
theorem dL_punches_4 : decode cL_punches 4 = .ok (.iload_n 1, 1) := by decide +kernel
theorem dL_punches_5 : decode cL_punches 5 = .ok (.iload_n 2, 1) := by decide +kernel
theorem dL_punches_6 : decode cL_punches 6 = .ok (.iload_n 3, 1) := by decide +kernel
theorem dL_punches_7 : decode cL_punches 7 = .ok (.invokevirtual 38, 3) := by decide +kernel
theorem dL_punches_10 : decode cL_punches 10 = .ok (.i2l, 1) := by decide +kernel
theorem dL_punches_11 : decode cL_punches 11 = .ok (.lastore, 1) := by decide +kernel
theorem dL_punches_12 : decode cL_punches 12 = .ok (.goto 7, 3) := by decide +kernel
theorem dL_punches_15 : decode cL_punches 15 = .ok (.astore 5, 2) := by decide +kernel
theorem dL_punches_17 : decode cL_punches 17 = .ok (.iconst 1, 1) := by decide +kernel
theorem dL_punches_18 : decode cL_punches 18 = .ok (.ireturn, 1) := by decide +kernel
theorem dL_punches_19 : decode cL_punches 19 = .ok (.iconst 0, 1) := by decide +kernel
theorem dL_punches_20 : decode cL_punches 20 = .ok (.ireturn, 1) := by decide +kernel
theorem dL_served_0 : decode cL_served 0 = .ok (.aload 4, 2) := by decide +kernel
theorem dL_served_2 : decode cL_served 2 = .ok (.iconst 0, 1) := by decide +kernel
theorem dL_served_3 : decode cL_served 3 = .ok (.aload_n 0, 1) := by decide +kernel
theorem dL_served_4 : decode cL_served 4 = .ok (.iload_n 1, 1) := by decide +kernel
theorem dL_served_5 : decode cL_served 5 = .ok (.iload_n 2, 1) := by decide +kernel
theorem dL_served_6 : decode cL_served 6 = .ok (.iload_n 3, 1) := by decide +kernel
theorem dL_served_7 : decode cL_served 7 = .ok (.invokevirtual 42, 3) := by decide +kernel
theorem dL_served_10 : decode cL_served 10 = .ok (.i2l, 1) := by decide +kernel
theorem dL_served_11 : decode cL_served 11 = .ok (.lastore, 1) := by decide +kernel
theorem dL_served_12 : decode cL_served 12 = .ok (.goto 11, 3) := by decide +kernel
theorem dL_served_15 : decode cL_served 15 = .ok (.astore 5, 2) := by decide +kernel
theorem dL_served_17 : decode cL_served 17 = .ok (.iconst 1, 1) := by decide +kernel
theorem dL_served_18 : decode cL_served 18 = .ok (.ireturn, 1) := by decide +kernel
theorem dL_served_19 : decode cL_served 19 = .ok (.astore 5, 2) := by decide +kernel
theorem dL_served_21 : decode cL_served 21 = .ok (.iconst 2, 1) := by decide +kernel
theorem dL_served_22 : decode cL_served 22 = .ok (.ireturn, 1) := by decide +kernel
theorem dL_served_23 : decode cL_served 23 = .ok (.iconst 0, 1) := by decide +kernel
theorem dL_served_24 : decode cL_served 24 = .ok (.ireturn, 1) := by decide +kernel
theorem dL_bites_0 : decode cL_bites 0 = .ok (.aload_n 3, 1) := by decide +kernel
theorem dL_bites_1 : decode cL_bites 1 = .ok (.iconst 0, 1) := by decide +kernel
theorem dL_bites_2 : decode cL_bites 2 = .ok (.aload_n 0, 1) := by decide +kernel
theorem dL_bites_3 : decode cL_bites 3 = .ok (.iload_n 1, 1) := by decide +kernel
theorem dL_bites_4 : decode cL_bites 4 = .ok (.iload_n 2, 1) := by decide +kernel
theorem dL_bites_5 : decode cL_bites 5 = .ok (.invokevirtual 45, 3) := by decide +kernel
theorem dL_bites_8 : decode cL_bites 8 = .ok (.i2l, 1) := by decide +kernel
theorem dL_bites_9 : decode cL_bites 9 = .ok (.lastore, 1) := by decide +kernel
theorem dL_bites_10 : decode cL_bites 10 = .ok (.goto 11, 3) := by decide +kernel
theorem dL_bites_13 : decode cL_bites 13 = .ok (.astore 4, 2) := by decide +kernel
theorem dL_bites_15 : decode cL_bites 15 = .ok (.iconst 1, 1) := by decide +kernel
theorem dL_bites_16 : decode cL_bites 16 = .ok (.ireturn, 1) := by decide +kernel
theorem dL_bites_17 : decode cL_bites 17 = .ok (.astore 4, 2) := by decide +kernel
theorem dL_bites_19 : decode cL_bites 19 = .ok (.iconst 2, 1) := by decide +kernel
theorem dL_bites_20 : decode cL_bites 20 = .ok (.ireturn, 1) := by decide +kernel
theorem dL_bites_21 : decode cL_bites 21 = .ok (.iconst 0, 1) := by decide +kernel
theorem dL_bites_22 : decode cL_bites 22 = .ok (.ireturn, 1) := by decide +kernel
theorem dL_lines_0 : decode cL_lines 0 = .ok (.aload_n 2, 1) := by decide +kernel
theorem dL_lines_1 : decode cL_lines 1 = .ok (.iconst 0, 1) := by decide +kernel
theorem dL_lines_2 : decode cL_lines 2 = .ok (.aload_n 0, 1) := by decide +kernel
theorem dL_lines_3 : decode cL_lines 3 = .ok (.iload_n 1, 1) := by decide +kernel
theorem dL_lines_4 : decode cL_lines 4 = .ok (.invokevirtual 48, 3) := by decide +kernel
theorem dL_lines_7 : decode cL_lines 7 = .ok (.lastore, 1) := by decide +kernel
theorem dL_lines_8 : decode cL_lines 8 = .ok (.goto 6, 3) := by decide +kernel
theorem dL_lines_11 : decode cL_lines 11 = .ok (.astore_n 3, 1) := by decide +kernel
theorem dL_lines_12 : decode cL_lines 12 = .ok (.iconst 1, 1) := by decide +kernel
theorem dL_lines_13 : decode cL_lines 13 = .ok (.ireturn, 1) := by decide +kernel
theorem dL_lines_14 : decode cL_lines 14 = .ok (.iconst 0, 1) := by decide +kernel
theorem dL_lines_15 : decode cL_lines 15 = .ok (.ireturn, 1) := by decide +kernel
theorem dL_begin_0 : decode cL_begin 0 = .ok (.aload_n 0, 1) := by decide +kernel
theorem dL_begin_1 : decode cL_begin 1 = .ok (.iload_n 1, 1) := by decide +kernel
theorem dL_begin_2 : decode cL_begin 2 = .ok (.invokevirtual 51, 3) := by decide +kernel
theorem dL_begin_5 : decode cL_begin 5 = .ok (.goto 6, 3) := by decide +kernel
theorem dL_begin_8 : decode cL_begin 8 = .ok (.astore_n 2, 1) := by decide +kernel
theorem dL_begin_9 : decode cL_begin 9 = .ok (.iconst 1, 1) := by decide +kernel
theorem dL_begin_10 : decode cL_begin 10 = .ok (.ireturn, 1) := by decide +kernel
theorem dL_begin_11 : decode cL_begin 11 = .ok (.iconst 0, 1) := by decide +kernel
theorem dL_begin_12 : decode cL_begin 12 = .ok (.ireturn, 1) := by decide +kernel
theorem dL_blow_0 : decode cL_blow 0 = .ok (.aload_n 2, 1) := by decide +kernel
theorem dL_blow_1 : decode cL_blow 1 = .ok (.iconst 0, 1) := by decide +kernel
theorem dL_blow_2 : decode cL_blow 2 = .ok (.aload_n 0, 1) := by decide +kernel
theorem dL_blow_3 : decode cL_blow 3 = .ok (.iload_n 1, 1) := by decide +kernel
theorem dL_blow_4 : decode cL_blow 4 = .ok (.invokevirtual 55, 3) := by decide +kernel
theorem dL_blow_7 : decode cL_blow 7 = .ok (.i2l, 1) := by decide +kernel
theorem dL_blow_8 : decode cL_blow 8 = .ok (.lastore, 1) := by decide +kernel
theorem dL_blow_9 : decode cL_blow 9 = .ok (.goto 6, 3) := by decide +kernel
theorem dL_blow_12 : decode cL_blow 12 = .ok (.astore_n 3, 1) := by decide +kernel
theorem dL_blow_13 : decode cL_blow 13 = .ok (.iconst 1, 1) := by decide +kernel
theorem dL_blow_14 : decode cL_blow 14 = .ok (.ireturn, 1) := by decide +kernel
theorem dL_blow_15 : decode cL_blow 15 = .ok (.iconst 0, 1) := by decide +kernel
theorem dL_blow_16 : decode cL_blow 16 = .ok (.ireturn, 1) := by decide +kernel
theorem dL_file_0 : decode cL_file 0 = .ok (.aload 4, 2) := by decide +kernel
theorem dL_file_2 : decode cL_file 2 = .ok (.iconst 0, 1) := by decide +kernel
theorem dL_file_3 : decode cL_file 3 = .ok (.aload_n 0, 1) := by decide +kernel
theorem dL_file_4 : decode cL_file 4 = .ok (.iload_n 1, 1) := by decide +kernel
theorem dL_file_5 : decode cL_file 5 = .ok (.iload_n 2, 1) := by decide +kernel
theorem dL_file_6 : decode cL_file 6 = .ok (.iload_n 3, 1) := by decide +kernel
theorem dL_file_7 : decode cL_file 7 = .ok (.invokevirtual 58, 3) := by decide +kernel
theorem dL_file_10 : decode cL_file 10 = .ok (.i2l, 1) := by decide +kernel
theorem dL_file_11 : decode cL_file 11 = .ok (.lastore, 1) := by decide +kernel
theorem dL_file_12 : decode cL_file 12 = .ok (.goto 7, 3) := by decide +kernel
theorem dL_file_15 : decode cL_file 15 = .ok (.astore 5, 2) := by decide +kernel
theorem dL_file_17 : decode cL_file 17 = .ok (.iconst 1, 1) := by decide +kernel
theorem dL_file_18 : decode cL_file 18 = .ok (.ireturn, 1) := by decide +kernel
theorem dL_file_19 : decode cL_file 19 = .ok (.iconst 0, 1) := by decide +kernel
theorem dL_file_20 : decode cL_file 20 = .ok (.ireturn, 1) := by decide +kernel
theorem dL_punch_0 : decode cL_punch 0 = .ok (.aload_n 2, 1) := by decide +kernel
theorem dL_punch_1 : decode cL_punch 1 = .ok (.iconst 0, 1) := by decide +kernel
theorem dL_punch_2 : decode cL_punch 2 = .ok (.aload_n 0, 1) := by decide +kernel
theorem dL_punch_3 : decode cL_punch 3 = .ok (.iload_n 1, 1) := by decide +kernel
theorem dL_punch_4 : decode cL_punch 4 = .ok (.invokevirtual 62, 3) := by decide +kernel
theorem dL_punch_7 : decode cL_punch 7 = .ok (.i2l, 1) := by decide +kernel
theorem dL_punch_8 : decode cL_punch 8 = .ok (.lastore, 1) := by decide +kernel
theorem dL_punch_9 : decode cL_punch 9 = .ok (.goto 6, 3) := by decide +kernel
theorem dL_punch_12 : decode cL_punch 12 = .ok (.astore_n 3, 1) := by decide +kernel
theorem dL_punch_13 : decode cL_punch 13 = .ok (.iconst 1, 1) := by decide +kernel
theorem dL_punch_14 : decode cL_punch 14 = .ok (.ireturn, 1) := by decide +kernel
theorem dL_punch_15 : decode cL_punch 15 = .ok (.iconst 0, 1) := by decide +kernel
theorem dL_punch_16 : decode cL_punch 16 = .ok (.ireturn, 1) := by decide +kernel
theorem dL_addBlow_0 : decode cL_addBlow 0 = .ok (.aload_n 2, 1) := by decide +kernel
theorem dL_addBlow_1 : decode cL_addBlow 1 = .ok (.iconst 0, 1) := by decide +kernel
theorem dL_addBlow_2 : decode cL_addBlow 2 = .ok (.aload_n 0, 1) := by decide +kernel
theorem dL_addBlow_3 : decode cL_addBlow 3 = .ok (.iload_n 1, 1) := by decide +kernel
theorem dL_addBlow_4 : decode cL_addBlow 4 = .ok (.invokevirtual 65, 3) := by decide +kernel
theorem dL_addBlow_7 : decode cL_addBlow 7 = .ok (.i2l, 1) := by decide +kernel
theorem dL_addBlow_8 : decode cL_addBlow 8 = .ok (.lastore, 1) := by decide +kernel
theorem dL_addBlow_9 : decode cL_addBlow 9 = .ok (.goto 6, 3) := by decide +kernel
theorem dL_addBlow_12 : decode cL_addBlow 12 = .ok (.astore_n 3, 1) := by decide +kernel
theorem dL_addBlow_13 : decode cL_addBlow 13 = .ok (.iconst 1, 1) := by decide +kernel
theorem dL_addBlow_14 : decode cL_addBlow 14 = .ok (.ireturn, 1) := by decide +kernel
theorem dL_addBlow_15 : decode cL_addBlow 15 = .ok (.iconst 0, 1) := by decide +kernel
theorem dL_addBlow_16 : decode cL_addBlow 16 = .ok (.ireturn, 1) := by decide +kernel
theorem dL_addFile_0 : decode cL_addFile 0 = .ok (.aload 4, 2) := by decide +kernel
theorem dL_addFile_2 : decode cL_addFile 2 = .ok (.iconst 0, 1) := by decide +kernel
theorem dL_addFile_3 : decode cL_addFile 3 = .ok (.aload_n 0, 1) := by decide +kernel
theorem dL_addFile_4 : decode cL_addFile 4 = .ok (.iload_n 1, 1) := by decide +kernel
theorem dL_addFile_5 : decode cL_addFile 5 = .ok (.iload_n 2, 1) := by decide +kernel
theorem dL_addFile_6 : decode cL_addFile 6 = .ok (.iload_n 3, 1) := by decide +kernel
theorem dL_addFile_7 : decode cL_addFile 7 = .ok (.invokevirtual 68, 3) := by decide +kernel
theorem dL_addFile_10 : decode cL_addFile 10 = .ok (.i2l, 1) := by decide +kernel
theorem dL_addFile_11 : decode cL_addFile 11 = .ok (.lastore, 1) := by decide +kernel
theorem dL_addFile_12 : decode cL_addFile 12 = .ok (.goto 7, 3) := by decide +kernel
theorem dL_addFile_15 : decode cL_addFile 15 = .ok (.astore 5, 2) := by decide +kernel
theorem dL_addFile_17 : decode cL_addFile 17 = .ok (.iconst 1, 1) := by decide +kernel
theorem dL_addFile_18 : decode cL_addFile 18 = .ok (.ireturn, 1) := by decide +kernel
theorem dL_addFile_19 : decode cL_addFile 19 = .ok (.iconst 0, 1) := by decide +kernel
theorem dL_addFile_20 : decode cL_addFile 20 = .ok (.ireturn, 1) := by decide +kernel
theorem dL_judge_0 : decode cL_judge 0 = .ok (.aload_n 3, 1) := by decide +kernel
theorem dL_judge_1 : decode cL_judge 1 = .ok (.iconst 0, 1) := by decide +kernel
theorem dL_judge_2 : decode cL_judge 2 = .ok (.aload_n 0, 1) := by decide +kernel
theorem dL_judge_3 : decode cL_judge 3 = .ok (.iload_n 1, 1) := by decide +kernel
theorem dL_judge_4 : decode cL_judge 4 = .ok (.iload_n 2, 1) := by decide +kernel
theorem dL_judge_5 : decode cL_judge 5 = .ok (.invokevirtual 71, 3) := by decide +kernel
theorem dL_judge_8 : decode cL_judge 8 = .ok (.i2l, 1) := by decide +kernel
theorem dL_judge_9 : decode cL_judge 9 = .ok (.lastore, 1) := by decide +kernel
theorem dL_judge_10 : decode cL_judge 10 = .ok (.goto 11, 3) := by decide +kernel
theorem dL_judge_13 : decode cL_judge 13 = .ok (.astore 4, 2) := by decide +kernel
theorem dL_judge_15 : decode cL_judge 15 = .ok (.iconst 1, 1) := by decide +kernel
theorem dL_judge_16 : decode cL_judge 16 = .ok (.ireturn, 1) := by decide +kernel
theorem dL_judge_17 : decode cL_judge 17 = .ok (.astore 4, 2) := by decide +kernel
theorem dL_judge_19 : decode cL_judge 19 = .ok (.iconst 2, 1) := by decide +kernel
theorem dL_judge_20 : decode cL_judge 20 = .ok (.ireturn, 1) := by decide +kernel
theorem dL_judge_21 : decode cL_judge 21 = .ok (.iconst 0, 1) := by decide +kernel
theorem dL_judge_22 : decode cL_judge 22 = .ok (.ireturn, 1) := by decide +kernel
theorem dL_hours_0 : decode cL_hours 0 = .ok (.aload 4, 2) := by decide +kernel
theorem dL_hours_2 : decode cL_hours 2 = .ok (.iconst 0, 1) := by decide +kernel
theorem dL_hours_3 : decode cL_hours 3 = .ok (.aload_n 0, 1) := by decide +kernel
theorem dL_hours_4 : decode cL_hours 4 = .ok (.iload_n 1, 1) := by decide +kernel
theorem dL_hours_5 : decode cL_hours 5 = .ok (.iload_n 2, 1) := by decide +kernel
theorem dL_hours_6 : decode cL_hours 6 = .ok (.iload_n 3, 1) := by decide +kernel
theorem dL_hours_7 : decode cL_hours 7 = .ok (.invokevirtual 74, 3) := by decide +kernel
theorem dL_hours_10 : decode cL_hours 10 = .ok (.lastore, 1) := by decide +kernel
theorem dL_hours_11 : decode cL_hours 11 = .ok (.goto 11, 3) := by decide +kernel
theorem dL_hours_14 : decode cL_hours 14 = .ok (.astore 5, 2) := by decide +kernel
theorem dL_hours_16 : decode cL_hours 16 = .ok (.iconst 1, 1) := by decide +kernel
theorem dL_hours_17 : decode cL_hours 17 = .ok (.ireturn, 1) := by decide +kernel
theorem dL_hours_18 : decode cL_hours 18 = .ok (.astore 5, 2) := by decide +kernel
theorem dL_hours_20 : decode cL_hours 20 = .ok (.iconst 2, 1) := by decide +kernel
theorem dL_hours_21 : decode cL_hours 21 = .ok (.ireturn, 1) := by decide +kernel
theorem dL_hours_22 : decode cL_hours 22 = .ok (.iconst 0, 1) := by decide +kernel
theorem dL_hours_23 : decode cL_hours 23 = .ok (.ireturn, 1) := by decide +kernel
theorem dL_order_0 : decode cL_order 0 = .ok (.aload 5, 2) := by decide +kernel
theorem dL_order_2 : decode cL_order 2 = .ok (.iconst 0, 1) := by decide +kernel
theorem dL_order_3 : decode cL_order 3 = .ok (.aload_n 0, 1) := by decide +kernel
theorem dL_order_4 : decode cL_order 4 = .ok (.iload_n 1, 1) := by decide +kernel
theorem dL_order_5 : decode cL_order 5 = .ok (.iload_n 2, 1) := by decide +kernel
theorem dL_order_6 : decode cL_order 6 = .ok (.iload_n 3, 1) := by decide +kernel
theorem dL_order_7 : decode cL_order 7 = .ok (.iload 4, 2) := by decide +kernel
theorem dL_order_9 : decode cL_order 9 = .ok (.invokevirtual 78, 3) := by decide +kernel
theorem dL_order_12 : decode cL_order 12 = .ok (.i2l, 1) := by decide +kernel
theorem dL_order_13 : decode cL_order 13 = .ok (.lastore, 1) := by decide +kernel
theorem dL_order_14 : decode cL_order 14 = .ok (.goto 11, 3) := by decide +kernel
theorem dL_order_17 : decode cL_order 17 = .ok (.astore 6, 2) := by decide +kernel
theorem dL_order_19 : decode cL_order 19 = .ok (.iconst 1, 1) := by decide +kernel
theorem dL_order_20 : decode cL_order 20 = .ok (.ireturn, 1) := by decide +kernel
theorem dL_order_21 : decode cL_order 21 = .ok (.astore 6, 2) := by decide +kernel
theorem dL_order_23 : decode cL_order 23 = .ok (.iconst 2, 1) := by decide +kernel
theorem dL_order_24 : decode cL_order 24 = .ok (.ireturn, 1) := by decide +kernel
theorem dL_order_25 : decode cL_order 25 = .ok (.iconst 0, 1) := by decide +kernel
theorem dL_order_26 : decode cL_order 26 = .ok (.ireturn, 1) := by decide +kernel
theorem dL_black_0 : decode cL_black 0 = .ok (.aload_n 3, 1) := by decide +kernel
theorem dL_black_1 : decode cL_black 1 = .ok (.iconst 0, 1) := by decide +kernel
theorem dL_black_2 : decode cL_black 2 = .ok (.aload_n 0, 1) := by decide +kernel
theorem dL_black_3 : decode cL_black 3 = .ok (.iload_n 1, 1) := by decide +kernel
theorem dL_black_4 : decode cL_black 4 = .ok (.iload_n 2, 1) := by decide +kernel
theorem dL_black_5 : decode cL_black 5 = .ok (.invokevirtual 82, 3) := by decide +kernel
theorem dL_black_8 : decode cL_black 8 = .ok (.i2l, 1) := by decide +kernel
theorem dL_black_9 : decode cL_black 9 = .ok (.lastore, 1) := by decide +kernel
theorem dL_black_10 : decode cL_black 10 = .ok (.goto 11, 3) := by decide +kernel
theorem dL_black_13 : decode cL_black 13 = .ok (.astore 4, 2) := by decide +kernel
theorem dL_black_15 : decode cL_black 15 = .ok (.iconst 1, 1) := by decide +kernel
theorem dL_black_16 : decode cL_black 16 = .ok (.ireturn, 1) := by decide +kernel
theorem dL_black_17 : decode cL_black 17 = .ok (.astore 4, 2) := by decide +kernel
theorem dL_black_19 : decode cL_black 19 = .ok (.iconst 2, 1) := by decide +kernel
theorem dL_black_20 : decode cL_black 20 = .ok (.ireturn, 1) := by decide +kernel
theorem dL_black_21 : decode cL_black 21 = .ok (.iconst 0, 1) := by decide +kernel
theorem dL_black_22 : decode cL_black 22 = .ok (.ireturn, 1) := by decide +kernel
theorem dL_colour_0 : decode cL_colour 0 = .ok (.aload 4, 2) := by decide +kernel
theorem dL_colour_2 : decode cL_colour 2 = .ok (.iconst 0, 1) := by decide +kernel
theorem dL_colour_3 : decode cL_colour 3 = .ok (.aload_n 0, 1) := by decide +kernel
theorem dL_colour_4 : decode cL_colour 4 = .ok (.iload_n 1, 1) := by decide +kernel
theorem dL_colour_5 : decode cL_colour 5 = .ok (.iload_n 2, 1) := by decide +kernel
theorem dL_colour_6 : decode cL_colour 6 = .ok (.iload_n 3, 1) := by decide +kernel
theorem dL_colour_7 : decode cL_colour 7 = .ok (.invokevirtual 85, 3) := by decide +kernel
theorem dL_colour_10 : decode cL_colour 10 = .ok (.i2l, 1) := by decide +kernel
theorem dL_colour_11 : decode cL_colour 11 = .ok (.lastore, 1) := by decide +kernel
theorem dL_colour_12 : decode cL_colour 12 = .ok (.goto 11, 3) := by decide +kernel
theorem dL_colour_15 : decode cL_colour 15 = .ok (.astore 5, 2) := by decide +kernel
theorem dL_colour_17 : decode cL_colour 17 = .ok (.iconst 1, 1) := by decide +kernel
theorem dL_colour_18 : decode cL_colour 18 = .ok (.ireturn, 1) := by decide +kernel
theorem dL_colour_19 : decode cL_colour 19 = .ok (.astore 5, 2) := by decide +kernel
theorem dL_colour_21 : decode cL_colour 21 = .ok (.iconst 2, 1) := by decide +kernel
theorem dL_colour_22 : decode cL_colour 22 = .ok (.ireturn, 1) := by decide +kernel
theorem dL_colour_23 : decode cL_colour 23 = .ok (.iconst 0, 1) := by decide +kernel
theorem dL_colour_24 : decode cL_colour 24 = .ok (.ireturn, 1) := by decide +kernel
theorem dL_uneven_0 : decode cL_uneven 0 = .ok (.aload_n 3, 1) := by decide +kernel
theorem dL_uneven_1 : decode cL_uneven 1 = .ok (.iconst 0, 1) := by decide +kernel
theorem dL_uneven_2 : decode cL_uneven 2 = .ok (.aload_n 0, 1) := by decide +kernel
theorem dL_uneven_3 : decode cL_uneven 3 = .ok (.iload_n 1, 1) := by decide +kernel
theorem dL_uneven_4 : decode cL_uneven 4 = .ok (.iload_n 2, 1) := by decide +kernel
theorem dL_uneven_5 : decode cL_uneven 5 = .ok (.invokevirtual 88, 3) := by decide +kernel
theorem dL_uneven_8 : decode cL_uneven 8 = .ok (.i2l, 1) := by decide +kernel
theorem dL_uneven_9 : decode cL_uneven 9 = .ok (.lastore, 1) := by decide +kernel
theorem dL_uneven_10 : decode cL_uneven 10 = .ok (.goto 7, 3) := by decide +kernel
theorem dL_uneven_13 : decode cL_uneven 13 = .ok (.astore 4, 2) := by decide +kernel
theorem dL_uneven_15 : decode cL_uneven 15 = .ok (.iconst 1, 1) := by decide +kernel
theorem dL_uneven_16 : decode cL_uneven 16 = .ok (.ireturn, 1) := by decide +kernel
theorem dL_uneven_17 : decode cL_uneven 17 = .ok (.iconst 0, 1) := by decide +kernel
theorem dL_uneven_18 : decode cL_uneven 18 = .ok (.ireturn, 1) := by decide +kernel
theorem dL_even_0 : decode cL_even 0 = .ok (.aload_n 2, 1) := by decide +kernel
theorem dL_even_1 : decode cL_even 1 = .ok (.iconst 0, 1) := by decide +kernel
theorem dL_even_2 : decode cL_even 2 = .ok (.aload_n 0, 1) := by decide +kernel
theorem dL_even_3 : decode cL_even 3 = .ok (.iload_n 1, 1) := by decide +kernel
theorem dL_even_4 : decode cL_even 4 = .ok (.invokevirtual 91, 3) := by decide +kernel
theorem dL_even_7 : decode cL_even 7 = .ok (.i2l, 1) := by decide +kernel
theorem dL_even_8 : decode cL_even 8 = .ok (.lastore, 1) := by decide +kernel
theorem dL_even_9 : decode cL_even 9 = .ok (.goto 6, 3) := by decide +kernel
theorem dL_even_12 : decode cL_even 12 = .ok (.astore_n 3, 1) := by decide +kernel
theorem dL_even_13 : decode cL_even 13 = .ok (.iconst 1, 1) := by decide +kernel
theorem dL_even_14 : decode cL_even 14 = .ok (.ireturn, 1) := by decide +kernel
theorem dL_even_15 : decode cL_even 15 = .ok (.iconst 0, 1) := by decide +kernel
theorem dL_even_16 : decode cL_even 16 = .ok (.ireturn, 1) := by decide +kernel
theorem dL_press_0 : decode cL_press 0 = .ok (.aload_n 2, 1) := by decide +kernel
theorem dL_press_1 : decode cL_press 1 = .ok (.iconst 0, 1) := by decide +kernel
theorem dL_press_2 : decode cL_press 2 = .ok (.aload_n 0, 1) := by decide +kernel
theorem dL_press_3 : decode cL_press 3 = .ok (.iload_n 1, 1) := by decide +kernel
theorem dL_press_4 : decode cL_press 4 = .ok (.invokevirtual 94, 3) := by decide +kernel
theorem dL_press_7 : decode cL_press 7 = .ok (.i2l, 1) := by decide +kernel
theorem dL_press_8 : decode cL_press 8 = .ok (.lastore, 1) := by decide +kernel
theorem dL_press_9 : decode cL_press 9 = .ok (.goto 6, 3) := by decide +kernel
theorem dL_press_12 : decode cL_press 12 = .ok (.astore_n 3, 1) := by decide +kernel
theorem dL_press_13 : decode cL_press 13 = .ok (.iconst 1, 1) := by decide +kernel
theorem dL_press_14 : decode cL_press 14 = .ok (.ireturn, 1) := by decide +kernel
theorem dL_press_15 : decode cL_press 15 = .ok (.iconst 0, 1) := by decide +kernel
theorem dL_press_16 : decode cL_press 16 = .ok (.ireturn, 1) := by decide +kernel
theorem dL_print_0 : decode cL_print 0 = .ok (.aload_n 3, 1) := by decide +kernel
theorem dL_print_1 : decode cL_print 1 = .ok (.iconst 0, 1) := by decide +kernel
theorem dL_print_2 : decode cL_print 2 = .ok (.aload_n 0, 1) := by decide +kernel
theorem dL_print_3 : decode cL_print 3 = .ok (.lload_n 1, 1) := by decide +kernel
theorem dL_print_4 : decode cL_print 4 = .ok (.invokevirtual 97, 3) := by decide +kernel
theorem dL_print_7 : decode cL_print 7 = .ok (.i2l, 1) := by decide +kernel
theorem dL_print_8 : decode cL_print 8 = .ok (.lastore, 1) := by decide +kernel
theorem dL_print_9 : decode cL_print 9 = .ok (.goto 7, 3) := by decide +kernel
theorem dL_print_12 : decode cL_print 12 = .ok (.astore 4, 2) := by decide +kernel
theorem dL_print_14 : decode cL_print 14 = .ok (.iconst 1, 1) := by decide +kernel
theorem dL_print_15 : decode cL_print 15 = .ok (.ireturn, 1) := by decide +kernel
theorem dL_print_16 : decode cL_print 16 = .ok (.iconst 0, 1) := by decide +kernel
theorem dL_print_17 : decode cL_print 17 = .ok (.ireturn, 1) := by decide +kernel
theorem dL_kin_0 : decode cL_kin 0 = .ok (.aload 5, 2) := by decide +kernel
theorem dL_kin_2 : decode cL_kin 2 = .ok (.iconst 0, 1) := by decide +kernel
theorem dL_kin_3 : decode cL_kin 3 = .ok (.aload_n 0, 1) := by decide +kernel
theorem dL_kin_4 : decode cL_kin 4 = .ok (.iload_n 1, 1) := by decide +kernel
theorem dL_kin_5 : decode cL_kin 5 = .ok (.iload_n 2, 1) := by decide +kernel
theorem dL_kin_6 : decode cL_kin 6 = .ok (.iload_n 3, 1) := by decide +kernel
theorem dL_kin_7 : decode cL_kin 7 = .ok (.iload 4, 2) := by decide +kernel
theorem dL_kin_9 : decode cL_kin 9 = .ok (.invokevirtual 101, 3) := by decide +kernel
theorem dL_kin_12 : decode cL_kin 12 = .ok (.ifCond .eq 7, 3) := by decide +kernel
theorem dL_kin_15 : decode cL_kin 15 = .ok (.lconst 1, 1) := by decide +kernel
theorem dL_kin_16 : decode cL_kin 16 = .ok (.goto 4, 3) := by decide +kernel
theorem dL_kin_19 : decode cL_kin 19 = .ok (.lconst 0, 1) := by decide +kernel
theorem dL_kin_20 : decode cL_kin 20 = .ok (.lastore, 1) := by decide +kernel
theorem dL_kin_21 : decode cL_kin 21 = .ok (.goto 11, 3) := by decide +kernel
theorem dL_kin_24 : decode cL_kin 24 = .ok (.astore 6, 2) := by decide +kernel
theorem dL_kin_26 : decode cL_kin 26 = .ok (.iconst 1, 1) := by decide +kernel
theorem dL_kin_27 : decode cL_kin 27 = .ok (.ireturn, 1) := by decide +kernel
theorem dL_kin_28 : decode cL_kin 28 = .ok (.astore 6, 2) := by decide +kernel
theorem dL_kin_30 : decode cL_kin 30 = .ok (.iconst 2, 1) := by decide +kernel
theorem dL_kin_31 : decode cL_kin 31 = .ok (.ireturn, 1) := by decide +kernel
theorem dL_kin_32 : decode cL_kin 32 = .ok (.iconst 0, 1) := by decide +kernel
theorem dL_kin_33 : decode cL_kin 33 = .ok (.ireturn, 1) := by decide +kernel
theorem dL_partings_0 : decode cL_partings 0 = .ok (.aload 4, 2) := by decide +kernel
theorem dL_partings_2 : decode cL_partings 2 = .ok (.iconst 0, 1) := by decide +kernel
theorem dL_partings_3 : decode cL_partings 3 = .ok (.aload_n 0, 1) := by decide +kernel
theorem dL_partings_4 : decode cL_partings 4 = .ok (.iload_n 1, 1) := by decide +kernel
theorem dL_partings_5 : decode cL_partings 5 = .ok (.iload_n 2, 1) := by decide +kernel
theorem dL_partings_6 : decode cL_partings 6 = .ok (.iload_n 3, 1) := by decide +kernel
theorem dL_partings_7 : decode cL_partings 7 = .ok (.invokevirtual 105, 3) := by decide +kernel
theorem dL_partings_10 : decode cL_partings 10 = .ok (.i2l, 1) := by decide +kernel
theorem dL_partings_11 : decode cL_partings 11 = .ok (.lastore, 1) := by decide +kernel
theorem dL_partings_12 : decode cL_partings 12 = .ok (.goto 7, 3) := by decide +kernel
theorem dL_partings_15 : decode cL_partings 15 = .ok (.astore 5, 2) := by decide +kernel
theorem dL_partings_17 : decode cL_partings 17 = .ok (.iconst 1, 1) := by decide +kernel
theorem dL_partings_18 : decode cL_partings 18 = .ok (.ireturn, 1) := by decide +kernel
theorem dL_partings_19 : decode cL_partings 19 = .ok (.iconst 0, 1) := by decide +kernel
theorem dL_partings_20 : decode cL_partings 20 = .ok (.ireturn, 1) := by decide +kernel
theorem dL_bars_0 : decode cL_bars 0 = .ok (.aload 4, 2) := by decide +kernel
theorem dL_bars_2 : decode cL_bars 2 = .ok (.iconst 0, 1) := by decide +kernel
theorem dL_bars_3 : decode cL_bars 3 = .ok (.aload_n 0, 1) := by decide +kernel
theorem dL_bars_4 : decode cL_bars 4 = .ok (.iload_n 1, 1) := by decide +kernel
theorem dL_bars_5 : decode cL_bars 5 = .ok (.iload_n 2, 1) := by decide +kernel
theorem dL_bars_6 : decode cL_bars 6 = .ok (.iload_n 3, 1) := by decide +kernel
theorem dL_bars_7 : decode cL_bars 7 = .ok (.invokevirtual 108, 3) := by decide +kernel
theorem dL_bars_10 : decode cL_bars 10 = .ok (.lastore, 1) := by decide +kernel
theorem dL_bars_11 : decode cL_bars 11 = .ok (.goto 11, 3) := by decide +kernel
theorem dL_bars_14 : decode cL_bars 14 = .ok (.astore 5, 2) := by decide +kernel
theorem dL_bars_16 : decode cL_bars 16 = .ok (.iconst 1, 1) := by decide +kernel
theorem dL_bars_17 : decode cL_bars 17 = .ok (.ireturn, 1) := by decide +kernel
theorem dL_bars_18 : decode cL_bars 18 = .ok (.astore 5, 2) := by decide +kernel
theorem dL_bars_20 : decode cL_bars 20 = .ok (.iconst 2, 1) := by decide +kernel
theorem dL_bars_21 : decode cL_bars 21 = .ok (.ireturn, 1) := by decide +kernel
theorem dL_bars_22 : decode cL_bars 22 = .ok (.iconst 0, 1) := by decide +kernel
theorem dL_bars_23 : decode cL_bars 23 = .ok (.ireturn, 1) := by decide +kernel
theorem dL_nearest_0 : decode cL_nearest 0 = .ok (.aload 5, 2) := by decide +kernel
theorem dL_nearest_2 : decode cL_nearest 2 = .ok (.iconst 0, 1) := by decide +kernel
theorem dL_nearest_3 : decode cL_nearest 3 = .ok (.aload_n 0, 1) := by decide +kernel
theorem dL_nearest_4 : decode cL_nearest 4 = .ok (.lload_n 1, 1) := by decide +kernel
theorem dL_nearest_5 : decode cL_nearest 5 = .ok (.iload_n 3, 1) := by decide +kernel
theorem dL_nearest_6 : decode cL_nearest 6 = .ok (.iload 4, 2) := by decide +kernel
theorem dL_nearest_8 : decode cL_nearest 8 = .ok (.invokevirtual 111, 3) := by decide +kernel
theorem dL_nearest_11 : decode cL_nearest 11 = .ok (.i2l, 1) := by decide +kernel
theorem dL_nearest_12 : decode cL_nearest 12 = .ok (.lastore, 1) := by decide +kernel
theorem dL_nearest_13 : decode cL_nearest 13 = .ok (.goto 7, 3) := by decide +kernel
theorem dL_nearest_16 : decode cL_nearest 16 = .ok (.astore 6, 2) := by decide +kernel
theorem dL_nearest_18 : decode cL_nearest 18 = .ok (.iconst 1, 1) := by decide +kernel
theorem dL_nearest_19 : decode cL_nearest 19 = .ok (.ireturn, 1) := by decide +kernel
theorem dL_nearest_20 : decode cL_nearest 20 = .ok (.iconst 0, 1) := by decide +kernel
theorem dL_nearest_21 : decode cL_nearest 21 = .ok (.ireturn, 1) := by decide +kernel
theorem dL_originals_0 : decode cL_originals 0 = .ok (.aload_n 3, 1) := by decide +kernel
theorem dL_originals_1 : decode cL_originals 1 = .ok (.iconst 0, 1) := by decide +kernel
theorem dL_originals_2 : decode cL_originals 2 = .ok (.aload_n 0, 1) := by decide +kernel
theorem dL_originals_3 : decode cL_originals 3 = .ok (.iload_n 1, 1) := by decide +kernel
theorem dL_originals_4 : decode cL_originals 4 = .ok (.iload_n 2, 1) := by decide +kernel
theorem dL_originals_5 : decode cL_originals 5 = .ok (.invokevirtual 115, 3) := by decide +kernel
theorem dL_originals_8 : decode cL_originals 8 = .ok (.i2l, 1) := by decide +kernel
theorem dL_originals_9 : decode cL_originals 9 = .ok (.lastore, 1) := by decide +kernel
theorem dL_originals_10 : decode cL_originals 10 = .ok (.goto 7, 3) := by decide +kernel
theorem dL_originals_13 : decode cL_originals 13 = .ok (.astore 4, 2) := by decide +kernel
theorem dL_originals_15 : decode cL_originals 15 = .ok (.iconst 1, 1) := by decide +kernel
theorem dL_originals_16 : decode cL_originals 16 = .ok (.ireturn, 1) := by decide +kernel
theorem dL_originals_17 : decode cL_originals 17 = .ok (.iconst 0, 1) := by decide +kernel
theorem dL_originals_18 : decode cL_originals 18 = .ok (.ireturn, 1) := by decide +kernel
theorem dL_fount_0 : decode cL_fount 0 = .ok (.aload 4, 2) := by decide +kernel
theorem dL_fount_2 : decode cL_fount 2 = .ok (.iconst 0, 1) := by decide +kernel
theorem dL_fount_3 : decode cL_fount 3 = .ok (.aload_n 0, 1) := by decide +kernel
theorem dL_fount_4 : decode cL_fount 4 = .ok (.iload_n 1, 1) := by decide +kernel
theorem dL_fount_5 : decode cL_fount 5 = .ok (.iload_n 2, 1) := by decide +kernel
theorem dL_fount_6 : decode cL_fount 6 = .ok (.iload_n 3, 1) := by decide +kernel
theorem dL_fount_7 : decode cL_fount 7 = .ok (.invokevirtual 119, 3) := by decide +kernel
theorem dL_fount_10 : decode cL_fount 10 = .ok (.i2l, 1) := by decide +kernel
theorem dL_fount_11 : decode cL_fount 11 = .ok (.lastore, 1) := by decide +kernel
theorem dL_fount_12 : decode cL_fount 12 = .ok (.goto 7, 3) := by decide +kernel
theorem dL_fount_15 : decode cL_fount 15 = .ok (.astore 5, 2) := by decide +kernel
theorem dL_fount_17 : decode cL_fount 17 = .ok (.iconst 1, 1) := by decide +kernel
theorem dL_fount_18 : decode cL_fount 18 = .ok (.ireturn, 1) := by decide +kernel
theorem dL_fount_19 : decode cL_fount 19 = .ok (.iconst 0, 1) := by decide +kernel
theorem dL_fount_20 : decode cL_fount 20 = .ok (.ireturn, 1) := by decide +kernel

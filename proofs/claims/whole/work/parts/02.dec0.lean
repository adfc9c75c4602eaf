theorem dJ0_length_8abf5_0 : decode cJ0_length_8abf5 0 = .ok (.aload_n 0, 1) := by decide +kernel
theorem dJ0_length_8abf5_1 : decode cJ0_length_8abf5 1 = .ok (.getfield 9, 3) := by decide +kernel
theorem dJ0_length_8abf5_4 : decode cJ0_length_8abf5 4 = .ok (.arraylength, 1) := by decide +kernel
theorem dJ0_length_8abf5_5 : decode cJ0_length_8abf5 5 = .ok (.aload_n 0, 1) := by decide +kernel
theorem dJ0_length_8abf5_6 : decode cJ0_length_8abf5 6 = .ok (.invokevirtual 335, 3) := by decide +kernel
theorem dJ0_length_8abf5_9 : decode cJ0_length_8abf5 9 = .ok (.ishr, 1) := by decide +kernel
theorem dJ0_length_8abf5_10 : decode cJ0_length_8abf5 10 = .ok (.ireturn, 1) := by decide +kernel
theorem dJ0_isEmpty_aae02_0 : decode cJ0_isEmpty_aae02 0 = .ok (.aload_n 0, 1) := by decide +kernel
theorem dJ0_isEmpty_aae02_1 : decode cJ0_isEmpty_aae02 1 = .ok (.getfield 9, 3) := by decide +kernel
theorem dJ0_isEmpty_aae02_4 : decode cJ0_isEmpty_aae02 4 = .ok (.arraylength, 1) := by decide +kernel
theorem dJ0_isEmpty_aae02_5 : decode cJ0_isEmpty_aae02 5 = .ok (.ifCond .ne 7, 3) := by decide +kernel
theorem dJ0_isEmpty_aae02_8 : decode cJ0_isEmpty_aae02 8 = .ok (.iconst 1, 1) := by decide +kernel
theorem dJ0_isEmpty_aae02_9 : decode cJ0_isEmpty_aae02 9 = .ok (.goto 4, 3) := by decide +kernel
theorem dJ0_isEmpty_aae02_12 : decode cJ0_isEmpty_aae02 12 = .ok (.iconst 0, 1) := by decide +kernel
theorem dJ0_isEmpty_aae02_13 : decode cJ0_isEmpty_aae02 13 = .ok (.ireturn, 1) := by decide +kernel
theorem dJ0_charAt_5068e_0 : decode cJ0_charAt_5068e 0 = .ok (.aload_n 0, 1) := by decide +kernel
theorem dJ0_charAt_5068e_1 : decode cJ0_charAt_5068e 1 = .ok (.invokevirtual 492, 3) := by decide +kernel
theorem dJ0_charAt_5068e_4 : decode cJ0_charAt_5068e 4 = .ok (.ifCond .eq 12, 3) := by decide +kernel
theorem dJ0_charAt_5068e_7 : decode cJ0_charAt_5068e 7 = .ok (.aload_n 0, 1) := by decide +kernel
theorem dJ0_charAt_5068e_8 : decode cJ0_charAt_5068e 8 = .ok (.getfield 9, 3) := by decide +kernel
theorem dJ0_charAt_5068e_11 : decode cJ0_charAt_5068e 11 = .ok (.iload_n 1, 1) := by decide +kernel
theorem dJ0_charAt_5068e_12 : decode cJ0_charAt_5068e 12 = .ok (.invokestatic 495, 3) := by decide +kernel
theorem dJ0_charAt_5068e_15 : decode cJ0_charAt_5068e 15 = .ok (.ireturn, 1) := by decide +kernel
theorem dJ0_charAt_5068e_16 : decode cJ0_charAt_5068e 16 = .ok (.aload_n 0, 1) := by decide +kernel
theorem dJ0_charAt_5068e_17 : decode cJ0_charAt_5068e 17 = .ok (.getfield 9, 3) := by decide +kernel
theorem dJ0_charAt_5068e_20 : decode cJ0_charAt_5068e 20 = .ok (.iload_n 1, 1) := by decide +kernel
theorem dJ0_charAt_5068e_21 : decode cJ0_charAt_5068e 21 = .ok (.invokestatic 498, 3) := by decide +kernel
theorem dJ0_charAt_5068e_24 : decode cJ0_charAt_5068e 24 = .ok (.ireturn, 1) := by decide +kernel
theorem dJ0_coder_7d493_0 : decode cJ0_coder_7d493 0 = .ok (.getstatic 38, 3) := by decide +kernel
theorem dJ0_coder_7d493_3 : decode cJ0_coder_7d493 3 = .ok (.ifCond .eq 10, 3) := by decide +kernel
theorem dJ0_coder_7d493_6 : decode cJ0_coder_7d493 6 = .ok (.aload_n 0, 1) := by decide +kernel
theorem dJ0_coder_7d493_7 : decode cJ0_coder_7d493 7 = .ok (.getfield 15, 3) := by decide +kernel
theorem dJ0_coder_7d493_10 : decode cJ0_coder_7d493 10 = .ok (.goto 4, 3) := by decide +kernel
theorem dJ0_coder_7d493_13 : decode cJ0_coder_7d493 13 = .ok (.iconst 1, 1) := by decide +kernel
theorem dJ0_coder_7d493_14 : decode cJ0_coder_7d493 14 = .ok (.ireturn, 1) := by decide +kernel
theorem dJ0_isLatin1_aae02_0 : decode cJ0_isLatin1_aae02 0 = .ok (.getstatic 38, 3) := by decide +kernel
theorem dJ0_isLatin1_aae02_3 : decode cJ0_isLatin1_aae02 3 = .ok (.ifCond .eq 14, 3) := by decide +kernel
theorem dJ0_isLatin1_aae02_6 : decode cJ0_isLatin1_aae02 6 = .ok (.aload_n 0, 1) := by decide +kernel
theorem dJ0_isLatin1_aae02_7 : decode cJ0_isLatin1_aae02 7 = .ok (.getfield 15, 3) := by decide +kernel
theorem dJ0_isLatin1_aae02_10 : decode cJ0_isLatin1_aae02 10 = .ok (.ifCond .ne 7, 3) := by decide +kernel
theorem dJ0_isLatin1_aae02_13 : decode cJ0_isLatin1_aae02 13 = .ok (.iconst 1, 1) := by decide +kernel
theorem dJ0_isLatin1_aae02_14 : decode cJ0_isLatin1_aae02 14 = .ok (.goto 4, 3) := by decide +kernel
theorem dJ0_isLatin1_aae02_17 : decode cJ0_isLatin1_aae02 17 = .ok (.iconst 0, 1) := by decide +kernel
theorem dJ0_isLatin1_aae02_18 : decode cJ0_isLatin1_aae02 18 = .ok (.ireturn, 1) := by decide +kernel
theorem dJ0_checkIndex_df160_0 : decode cJ0_checkIndex_df160 0 = .ok (.iload_n 0, 1) := by decide +kernel
theorem dJ0_checkIndex_df160_1 : decode cJ0_checkIndex_df160 1 = .ok (.iload_n 1, 1) := by decide +kernel
theorem dJ0_checkIndex_df160_2 : decode cJ0_checkIndex_df160 2 = .ok (.getstatic 1053, 3) := by decide +kernel
theorem dJ0_checkIndex_df160_5 : decode cJ0_checkIndex_df160 5 = .ok (.invokestatic 1059, 3) := by decide +kernel
theorem dJ0_checkIndex_df160_8 : decode cJ0_checkIndex_df160 8 = .ok (.pop, 1) := by decide +kernel
theorem dJ0_checkIndex_df160_9 : decode cJ0_checkIndex_df160 9 = .ok (.return_, 1) := by decide +kernel
theorem dJ1_charAt_3b067_0 : decode cJ1_charAt_3b067 0 = .ok (.iload_n 1, 1) := by decide +kernel
theorem dJ1_charAt_3b067_1 : decode cJ1_charAt_3b067 1 = .ok (.aload_n 0, 1) := by decide +kernel
theorem dJ1_charAt_3b067_2 : decode cJ1_charAt_3b067 2 = .ok (.arraylength, 1) := by decide +kernel
theorem dJ1_charAt_3b067_3 : decode cJ1_charAt_3b067 3 = .ok (.invokestatic 9, 3) := by decide +kernel
theorem dJ1_charAt_3b067_6 : decode cJ1_charAt_3b067 6 = .ok (.aload_n 0, 1) := by decide +kernel
theorem dJ1_charAt_3b067_7 : decode cJ1_charAt_3b067 7 = .ok (.iload_n 1, 1) := by decide +kernel
theorem dJ1_charAt_3b067_8 : decode cJ1_charAt_3b067 8 = .ok (.baload, 1) := by decide +kernel
theorem dJ1_charAt_3b067_9 : decode cJ1_charAt_3b067 9 = .ok (.sipush 255, 3) := by decide +kernel
theorem dJ1_charAt_3b067_12 : decode cJ1_charAt_3b067 12 = .ok (.iand, 1) := by decide +kernel
theorem dJ1_charAt_3b067_13 : decode cJ1_charAt_3b067 13 = .ok (.i2c, 1) := by decide +kernel
theorem dJ1_charAt_3b067_14 : decode cJ1_charAt_3b067 14 = .ok (.ireturn, 1) := by decide +kernel
theorem dJ2_getChar_3b067_0 : decode cJ2_getChar_3b067 0 = .ok (.getstatic 44, 3) := by decide +kernel
theorem dJ2_getChar_3b067_3 : decode cJ2_getChar_3b067 3 = .ok (.ifCond .ne 25, 3) := by decide +kernel
theorem dJ2_getChar_3b067_6 : decode cJ2_getChar_3b067 6 = .ok (.iload_n 1, 1) := by decide +kernel
theorem dJ2_getChar_3b067_7 : decode cJ2_getChar_3b067 7 = .ok (.ifCond .lt 11, 3) := by decide +kernel
theorem dJ2_getChar_3b067_10 : decode cJ2_getChar_3b067 10 = .ok (.iload_n 1, 1) := by decide +kernel
theorem dJ2_getChar_3b067_11 : decode cJ2_getChar_3b067 11 = .ok (.aload_n 0, 1) := by decide +kernel
theorem dJ2_getChar_3b067_12 : decode cJ2_getChar_3b067 12 = .ok (.invokestatic 48, 3) := by decide +kernel
theorem dJ2_getChar_3b067_15 : decode cJ2_getChar_3b067 15 = .ok (.if_icmp .lt 13, 3) := by decide +kernel
theorem dJ2_getChar_3b067_18 : decode cJ2_getChar_3b067 18 = .ok (.new 52, 3) := by decide +kernel
theorem dJ2_getChar_3b067_21 : decode cJ2_getChar_3b067 21 = .ok (.dup, 1) := by decide +kernel
theorem dJ2_getChar_3b067_22 : decode cJ2_getChar_3b067 22 = .ok (.ldc 54, 2) := by decide +kernel
theorem dJ2_getChar_3b067_24 : decode cJ2_getChar_3b067 24 = .ok (.invokespecial 56, 3) := by decide +kernel
theorem dJ2_getChar_3b067_27 : decode cJ2_getChar_3b067 27 = .ok (.athrow, 1) := by decide +kernel
theorem dJ2_getChar_3b067_28 : decode cJ2_getChar_3b067 28 = .ok (.iload_n 1, 1) := by decide +kernel
theorem dJ2_getChar_3b067_29 : decode cJ2_getChar_3b067 29 = .ok (.iconst 1, 1) := by decide +kernel
theorem dJ2_getChar_3b067_30 : decode cJ2_getChar_3b067 30 = .ok (.ishl, 1) := by decide +kernel
theorem dJ2_getChar_3b067_31 : decode cJ2_getChar_3b067 31 = .ok (.istore_n 1, 1) := by decide +kernel
theorem dJ2_getChar_3b067_32 : decode cJ2_getChar_3b067 32 = .ok (.aload_n 0, 1) := by decide +kernel
theorem dJ2_getChar_3b067_33 : decode cJ2_getChar_3b067 33 = .ok (.iload_n 1, 1) := by decide +kernel
theorem dJ2_getChar_3b067_34 : decode cJ2_getChar_3b067 34 = .ok (.iinc 1 1, 3) := by decide +kernel
theorem dJ2_getChar_3b067_37 : decode cJ2_getChar_3b067 37 = .ok (.baload, 1) := by decide +kernel
theorem dJ2_getChar_3b067_38 : decode cJ2_getChar_3b067 38 = .ok (.sipush 255, 3) := by decide +kernel
theorem dJ2_getChar_3b067_41 : decode cJ2_getChar_3b067 41 = .ok (.iand, 1) := by decide +kernel
theorem dJ2_getChar_3b067_42 : decode cJ2_getChar_3b067 42 = .ok (.getstatic 59, 3) := by decide +kernel
theorem dJ2_getChar_3b067_45 : decode cJ2_getChar_3b067 45 = .ok (.ishl, 1) := by decide +kernel
theorem dJ2_getChar_3b067_46 : decode cJ2_getChar_3b067 46 = .ok (.aload_n 0, 1) := by decide +kernel
theorem dJ2_getChar_3b067_47 : decode cJ2_getChar_3b067 47 = .ok (.iload_n 1, 1) := by decide +kernel
theorem dJ2_getChar_3b067_48 : decode cJ2_getChar_3b067 48 = .ok (.baload, 1) := by decide +kernel
theorem dJ2_getChar_3b067_49 : decode cJ2_getChar_3b067 49 = .ok (.sipush 255, 3) := by decide +kernel
theorem dJ2_getChar_3b067_52 : decode cJ2_getChar_3b067 52 = .ok (.iand, 1) := by decide +kernel
theorem dJ2_getChar_3b067_53 : decode cJ2_getChar_3b067 53 = .ok (.getstatic 63, 3) := by decide +kernel
theorem dJ2_getChar_3b067_56 : decode cJ2_getChar_3b067 56 = .ok (.ishl, 1) := by decide +kernel
theorem dJ2_getChar_3b067_57 : decode cJ2_getChar_3b067 57 = .ok (.ior, 1) := by decide +kernel
theorem dJ2_getChar_3b067_58 : decode cJ2_getChar_3b067 58 = .ok (.i2c, 1) := by decide +kernel
theorem dJ2_getChar_3b067_59 : decode cJ2_getChar_3b067 59 = .ok (.ireturn, 1) := by decide +kernel
theorem dJ2_length_9d52b_0 : decode cJ2_length_9d52b 0 = .ok (.aload_n 0, 1) := by decide +kernel
theorem dJ2_length_9d52b_1 : decode cJ2_length_9d52b 1 = .ok (.arraylength, 1) := by decide +kernel
theorem dJ2_length_9d52b_2 : decode cJ2_length_9d52b 2 = .ok (.iconst 1, 1) := by decide +kernel
theorem dJ2_length_9d52b_3 : decode cJ2_length_9d52b 3 = .ok (.ishr, 1) := by decide +kernel
theorem dJ2_length_9d52b_4 : decode cJ2_length_9d52b 4 = .ok (.ireturn, 1) := by decide +kernel
theorem dJ2_charAt_3b067_0 : decode cJ2_charAt_3b067 0 = .ok (.iload_n 1, 1) := by decide +kernel
theorem dJ2_charAt_3b067_1 : decode cJ2_charAt_3b067 1 = .ok (.aload_n 0, 1) := by decide +kernel
theorem dJ2_charAt_3b067_2 : decode cJ2_charAt_3b067 2 = .ok (.invokestatic 67, 3) := by decide +kernel
theorem dJ2_charAt_3b067_5 : decode cJ2_charAt_3b067 5 = .ok (.aload_n 0, 1) := by decide +kernel
theorem dJ2_charAt_3b067_6 : decode cJ2_charAt_3b067 6 = .ok (.iload_n 1, 1) := by decide +kernel
theorem dJ2_charAt_3b067_7 : decode cJ2_charAt_3b067 7 = .ok (.invokestatic 71, 3) := by decide +kernel
theorem dJ2_charAt_3b067_10 : decode cJ2_charAt_3b067 10 = .ok (.ireturn, 1) := by decide +kernel
theorem dJ2_checkIndex_2214a_0 : decode cJ2_checkIndex_2214a 0 = .ok (.iload_n 0, 1) := by decide +kernel
theorem dJ2_checkIndex_2214a_1 : decode cJ2_checkIndex_2214a 1 = .ok (.aload_n 1, 1) := by decide +kernel
theorem dJ2_checkIndex_2214a_2 : decode cJ2_checkIndex_2214a 2 = .ok (.invokestatic 48, 3) := by decide +kernel
theorem dJ2_checkIndex_2214a_5 : decode cJ2_checkIndex_2214a 5 = .ok (.invokestatic 414, 3) := by decide +kernel
theorem dJ2_checkIndex_2214a_8 : decode cJ2_checkIndex_2214a 8 = .ok (.return_, 1) := by decide +kernel
theorem dJ3_checkIndex_8e157_0 : decode cJ3_checkIndex_8e157 0 = .ok (.iload_n 0, 1) := by decide +kernel
theorem dJ3_checkIndex_8e157_1 : decode cJ3_checkIndex_8e157 1 = .ok (.ifCond .lt 8, 3) := by decide +kernel
theorem dJ3_checkIndex_8e157_4 : decode cJ3_checkIndex_8e157 4 = .ok (.iload_n 0, 1) := by decide +kernel
theorem dJ3_checkIndex_8e157_5 : decode cJ3_checkIndex_8e157 5 = .ok (.iload_n 1, 1) := by decide +kernel
theorem dJ3_checkIndex_8e157_6 : decode cJ3_checkIndex_8e157 6 = .ok (.if_icmp .lt 10, 3) := by decide +kernel
theorem dJ3_checkIndex_8e157_9 : decode cJ3_checkIndex_8e157 9 = .ok (.aload_n 2, 1) := by decide +kernel
theorem dJ3_checkIndex_8e157_10 : decode cJ3_checkIndex_8e157 10 = .ok (.iload_n 0, 1) := by decide +kernel
theorem dJ3_checkIndex_8e157_11 : decode cJ3_checkIndex_8e157 11 = .ok (.iload_n 1, 1) := by decide +kernel
theorem dJ3_checkIndex_8e157_12 : decode cJ3_checkIndex_8e157 12 = .ok (.invokestatic 95, 3) := by decide +kernel
theorem dJ3_checkIndex_8e157_15 : decode cJ3_checkIndex_8e157 15 = .ok (.athrow, 1) := by decide +kernel
theorem dJ3_checkIndex_8e157_16 : decode cJ3_checkIndex_8e157 16 = .ok (.iload_n 0, 1) := by decide +kernel
theorem dJ3_checkIndex_8e157_17 : decode cJ3_checkIndex_8e157 17 = .ok (.ireturn, 1) := by decide +kernel
theorem dJ6_bitCount_0f7a4_0 : decode cJ6_bitCount_0f7a4 0 = .ok (.iload_n 0, 1) := by decide +kernel
theorem dJ6_bitCount_0f7a4_1 : decode cJ6_bitCount_0f7a4 1 = .ok (.iload_n 0, 1) := by decide +kernel
theorem dJ6_bitCount_0f7a4_2 : decode cJ6_bitCount_0f7a4 2 = .ok (.iconst 1, 1) := by decide +kernel
theorem dJ6_bitCount_0f7a4_3 : decode cJ6_bitCount_0f7a4 3 = .ok (.iushr, 1) := by decide +kernel
theorem dJ6_bitCount_0f7a4_4 : decode cJ6_bitCount_0f7a4 4 = .ok (.ldc_w 265, 3) := by decide +kernel
theorem dJ6_bitCount_0f7a4_7 : decode cJ6_bitCount_0f7a4 7 = .ok (.iand, 1) := by decide +kernel
theorem dJ6_bitCount_0f7a4_8 : decode cJ6_bitCount_0f7a4 8 = .ok (.isub, 1) := by decide +kernel
theorem dJ6_bitCount_0f7a4_9 : decode cJ6_bitCount_0f7a4 9 = .ok (.istore_n 0, 1) := by decide +kernel
theorem dJ6_bitCount_0f7a4_10 : decode cJ6_bitCount_0f7a4 10 = .ok (.iload_n 0, 1) := by decide +kernel
theorem dJ6_bitCount_0f7a4_11 : decode cJ6_bitCount_0f7a4 11 = .ok (.ldc_w 266, 3) := by decide +kernel
theorem dJ6_bitCount_0f7a4_14 : decode cJ6_bitCount_0f7a4 14 = .ok (.iand, 1) := by decide +kernel
theorem dJ6_bitCount_0f7a4_15 : decode cJ6_bitCount_0f7a4 15 = .ok (.iload_n 0, 1) := by decide +kernel
theorem dJ6_bitCount_0f7a4_16 : decode cJ6_bitCount_0f7a4 16 = .ok (.iconst 2, 1) := by decide +kernel
theorem dJ6_bitCount_0f7a4_17 : decode cJ6_bitCount_0f7a4 17 = .ok (.iushr, 1) := by decide +kernel
theorem dJ6_bitCount_0f7a4_18 : decode cJ6_bitCount_0f7a4 18 = .ok (.ldc_w 266, 3) := by decide +kernel
theorem dJ6_bitCount_0f7a4_21 : decode cJ6_bitCount_0f7a4 21 = .ok (.iand, 1) := by decide +kernel
theorem dJ6_bitCount_0f7a4_22 : decode cJ6_bitCount_0f7a4 22 = .ok (.iadd, 1) := by decide +kernel
theorem dJ6_bitCount_0f7a4_23 : decode cJ6_bitCount_0f7a4 23 = .ok (.istore_n 0, 1) := by decide +kernel
theorem dJ6_bitCount_0f7a4_24 : decode cJ6_bitCount_0f7a4 24 = .ok (.iload_n 0, 1) := by decide +kernel
theorem dJ6_bitCount_0f7a4_25 : decode cJ6_bitCount_0f7a4 25 = .ok (.iload_n 0, 1) := by decide +kernel
theorem dJ6_bitCount_0f7a4_26 : decode cJ6_bitCount_0f7a4 26 = .ok (.iconst 4, 1) := by decide +kernel
theorem dJ6_bitCount_0f7a4_27 : decode cJ6_bitCount_0f7a4 27 = .ok (.iushr, 1) := by decide +kernel
theorem dJ6_bitCount_0f7a4_28 : decode cJ6_bitCount_0f7a4 28 = .ok (.iadd, 1) := by decide +kernel
theorem dJ6_bitCount_0f7a4_29 : decode cJ6_bitCount_0f7a4 29 = .ok (.ldc_w 267, 3) := by decide +kernel
theorem dJ6_bitCount_0f7a4_32 : decode cJ6_bitCount_0f7a4 32 = .ok (.iand, 1) := by decide +kernel
theorem dJ6_bitCount_0f7a4_33 : decode cJ6_bitCount_0f7a4 33 = .ok (.istore_n 0, 1) := by decide +kernel
theorem dJ6_bitCount_0f7a4_34 : decode cJ6_bitCount_0f7a4 34 = .ok (.iload_n 0, 1) := by decide +kernel
theorem dJ6_bitCount_0f7a4_35 : decode cJ6_bitCount_0f7a4 35 = .ok (.iload_n 0, 1) := by decide +kernel
theorem dJ6_bitCount_0f7a4_36 : decode cJ6_bitCount_0f7a4 36 = .ok (.bipush 8, 2) := by decide +kernel
theorem dJ6_bitCount_0f7a4_38 : decode cJ6_bitCount_0f7a4 38 = .ok (.iushr, 1) := by decide +kernel
theorem dJ6_bitCount_0f7a4_39 : decode cJ6_bitCount_0f7a4 39 = .ok (.iadd, 1) := by decide +kernel
theorem dJ6_bitCount_0f7a4_40 : decode cJ6_bitCount_0f7a4 40 = .ok (.istore_n 0, 1) := by decide +kernel
theorem dJ6_bitCount_0f7a4_41 : decode cJ6_bitCount_0f7a4 41 = .ok (.iload_n 0, 1) := by decide +kernel
theorem dJ6_bitCount_0f7a4_42 : decode cJ6_bitCount_0f7a4 42 = .ok (.iload_n 0, 1) := by decide +kernel
theorem dJ6_bitCount_0f7a4_43 : decode cJ6_bitCount_0f7a4 43 = .ok (.bipush 16, 2) := by decide +kernel
theorem dJ6_bitCount_0f7a4_45 : decode cJ6_bitCount_0f7a4 45 = .ok (.iushr, 1) := by decide +kernel
theorem dJ6_bitCount_0f7a4_46 : decode cJ6_bitCount_0f7a4 46 = .ok (.iadd, 1) := by decide +kernel
theorem dJ6_bitCount_0f7a4_47 : decode cJ6_bitCount_0f7a4 47 = .ok (.istore_n 0, 1) := by decide +kernel
theorem dJ6_bitCount_0f7a4_48 : decode cJ6_bitCount_0f7a4 48 = .ok (.iload_n 0, 1) := by decide +kernel
theorem dJ6_bitCount_0f7a4_49 : decode cJ6_bitCount_0f7a4 49 = .ok (.bipush 63, 2) := by decide +kernel
theorem dJ6_bitCount_0f7a4_51 : decode cJ6_bitCount_0f7a4 51 = .ok (.iand, 1) := by decide +kernel
theorem dJ6_bitCount_0f7a4_52 : decode cJ6_bitCount_0f7a4 52 = .ok (.ireturn, 1) := by decide +kernel
theorem dJ9_max_7cf53_0 : decode cJ9_max_7cf53 0 = .ok (.iload_n 0, 1) := by decide +kernel
theorem dJ9_max_7cf53_1 : decode cJ9_max_7cf53 1 = .ok (.iload_n 1, 1) := by decide +kernel
theorem dJ9_max_7cf53_2 : decode cJ9_max_7cf53 2 = .ok (.if_icmp .lt 7, 3) := by decide +kernel
theorem dJ9_max_7cf53_5 : decode cJ9_max_7cf53 5 = .ok (.iload_n 0, 1) := by decide +kernel
theorem dJ9_max_7cf53_6 : decode cJ9_max_7cf53 6 = .ok (.goto 4, 3) := by decide +kernel
theorem dJ9_max_7cf53_9 : decode cJ9_max_7cf53 9 = .ok (.iload_n 1, 1) := by decide +kernel
theorem dJ9_max_7cf53_10 : decode cJ9_max_7cf53 10 = .ok (.ireturn, 1) := by decide +kernel
theorem dJ9_min_7cf53_0 : decode cJ9_min_7cf53 0 = .ok (.iload_n 0, 1) := by decide +kernel
theorem dJ9_min_7cf53_1 : decode cJ9_min_7cf53 1 = .ok (.iload_n 1, 1) := by decide +kernel
theorem dJ9_min_7cf53_2 : decode cJ9_min_7cf53 2 = .ok (.if_icmp .gt 7, 3) := by decide +kernel
theorem dJ9_min_7cf53_5 : decode cJ9_min_7cf53 5 = .ok (.iload_n 0, 1) := by decide +kernel
theorem dJ9_min_7cf53_6 : decode cJ9_min_7cf53 6 = .ok (.goto 4, 3) := by decide +kernel
theorem dJ9_min_7cf53_9 : decode cJ9_min_7cf53 9 = .ok (.iload_n 1, 1) := by decide +kernel
theorem dJ9_min_7cf53_10 : decode cJ9_min_7cf53 10 = .ok (.ireturn, 1) := by decide +kernel
theorem dL_law_0 : decode cL_law 0 = .ok (.new 7, 3) := by decide +kernel
theorem dL_law_3 : decode cL_law 3 = .ok (.dup, 1) := by decide +kernel
theorem dL_law_4 : decode cL_law 4 = .ok (.invokespecial 9, 3) := by decide +kernel
theorem dL_law_7 : decode cL_law 7 = .ok (.astore_n 1, 1) := by decide +kernel
theorem dL_law_8 : decode cL_law 8 = .ok (.new 10, 3) := by decide +kernel
theorem dL_law_11 : decode cL_law 11 = .ok (.dup, 1) := by decide +kernel
theorem dL_law_12 : decode cL_law 12 = .ok (.invokespecial 12, 3) := by decide +kernel
theorem dL_law_15 : decode cL_law 15 = .ok (.astore_n 2, 1) := by decide +kernel
theorem dL_law_16 : decode cL_law 16 = .ok (.iconst 0, 1) := by decide +kernel
theorem dL_law_17 : decode cL_law 17 = .ok (.istore_n 3, 1) := by decide +kernel
theorem dL_law_18 : decode cL_law 18 = .ok (.iload_n 3, 1) := by decide +kernel
theorem dL_law_19 : decode cL_law 19 = .ok (.aload_n 0, 1) := by decide +kernel
theorem dL_law_20 : decode cL_law 20 = .ok (.arraylength, 1) := by decide +kernel
theorem dL_law_21 : decode cL_law 21 = .ok (.iconst 4, 1) := by decide +kernel
theorem dL_law_22 : decode cL_law 22 = .ok (.isub, 1) := by decide +kernel
theorem dL_law_23 : decode cL_law 23 = .ok (.if_icmp .gt 1164, 3) := by decide +kernel
theorem dL_law_26 : decode cL_law 26 = .ok (.aload_n 0, 1) := by decide +kernel
theorem dL_law_27 : decode cL_law 27 = .ok (.iload_n 3, 1) := by decide +kernel
theorem dL_law_28 : decode cL_law 28 = .ok (.iaload, 1) := by decide +kernel
theorem dL_law_29 : decode cL_law 29 = .ok (.bipush 63, 2) := by decide +kernel
theorem dL_law_31 : decode cL_law 31 = .ok (.iand, 1) := by decide +kernel
theorem dL_law_32 : decode cL_law 32 = .ok (.tableswitch 1149 0 36 #[164, 177, 202, 235, 258, 301, 324, 347, 380, 403, 436, 459, 482, 515, 538, 551, 564, 613, 662, 695, 744, 757, 780, 813, 846, 859, 882, 905, 928, 941, 964, 1003, 1046, 1087, 1110, 1123, 1136], 164) := by decide +kernel
theorem dL_law_196 : decode cL_law 196 = .ok (.aload_n 1, 1) := by decide +kernel
theorem dL_law_197 : decode cL_law 197 = .ok (.invokevirtual 13, 3) := by decide +kernel
theorem dL_law_200 : decode cL_law 200 = .ok (.aload_n 2, 1) := by decide +kernel
theorem dL_law_201 : decode cL_law 201 = .ok (.invokevirtual 17, 3) := by decide +kernel
theorem dL_law_204 : decode cL_law 204 = .ok (.if_icmp .eq 977, 3) := by decide +kernel
theorem dL_law_207 : decode cL_law 207 = .ok (.iconst 0, 1) := by decide +kernel
theorem dL_law_208 : decode cL_law 208 = .ok (.ireturn, 1) := by decide +kernel
theorem dL_law_209 : decode cL_law 209 = .ok (.aload_n 1, 1) := by decide +kernel
theorem dL_law_210 : decode cL_law 210 = .ok (.aload_n 0, 1) := by decide +kernel
theorem dL_law_211 : decode cL_law 211 = .ok (.iload_n 3, 1) := by decide +kernel
theorem dL_law_212 : decode cL_law 212 = .ok (.iconst 1, 1) := by decide +kernel
theorem dL_law_213 : decode cL_law 213 = .ok (.iadd, 1) := by decide +kernel
theorem dL_law_214 : decode cL_law 214 = .ok (.iaload, 1) := by decide +kernel
theorem dL_law_215 : decode cL_law 215 = .ok (.i2c, 1) := by decide +kernel
theorem dL_law_216 : decode cL_law 216 = .ok (.invokevirtual 18, 3) := by decide +kernel
theorem dL_law_219 : decode cL_law 219 = .ok (.aload_n 2, 1) := by decide +kernel
theorem dL_law_220 : decode cL_law 220 = .ok (.aload_n 0, 1) := by decide +kernel
theorem dL_law_221 : decode cL_law 221 = .ok (.iload_n 3, 1) := by decide +kernel
theorem dL_law_222 : decode cL_law 222 = .ok (.iconst 1, 1) := by decide +kernel
theorem dL_law_223 : decode cL_law 223 = .ok (.iadd, 1) := by decide +kernel
theorem dL_law_224 : decode cL_law 224 = .ok (.iaload, 1) := by decide +kernel
theorem dL_law_225 : decode cL_law 225 = .ok (.i2c, 1) := by decide +kernel
theorem dL_law_226 : decode cL_law 226 = .ok (.invokevirtual 22, 3) := by decide +kernel
theorem dL_law_229 : decode cL_law 229 = .ok (.if_icmp .eq 952, 3) := by decide +kernel
theorem dL_law_232 : decode cL_law 232 = .ok (.iconst 0, 1) := by decide +kernel
theorem dL_law_233 : decode cL_law 233 = .ok (.ireturn, 1) := by decide +kernel
theorem dL_law_234 : decode cL_law 234 = .ok (.aload_n 1, 1) := by decide +kernel
theorem dL_law_235 : decode cL_law 235 = .ok (.aload_n 0, 1) := by decide +kernel
theorem dL_law_236 : decode cL_law 236 = .ok (.iload_n 3, 1) := by decide +kernel
theorem dL_law_237 : decode cL_law 237 = .ok (.iconst 1, 1) := by decide +kernel
theorem dL_law_238 : decode cL_law 238 = .ok (.iadd, 1) := by decide +kernel
theorem dL_law_239 : decode cL_law 239 = .ok (.iaload, 1) := by decide +kernel
theorem dL_law_240 : decode cL_law 240 = .ok (.aload_n 0, 1) := by decide +kernel
theorem dL_law_241 : decode cL_law 241 = .ok (.iload_n 3, 1) := by decide +kernel
theorem dL_law_242 : decode cL_law 242 = .ok (.iconst 2, 1) := by decide +kernel
theorem dL_law_243 : decode cL_law 243 = .ok (.iadd, 1) := by decide +kernel
theorem dL_law_244 : decode cL_law 244 = .ok (.iaload, 1) := by decide +kernel
theorem dL_law_245 : decode cL_law 245 = .ok (.invokevirtual 23, 3) := by decide +kernel
theorem dL_law_248 : decode cL_law 248 = .ok (.aload_n 2, 1) := by decide +kernel
theorem dL_law_249 : decode cL_law 249 = .ok (.aload_n 0, 1) := by decide +kernel
theorem dL_law_250 : decode cL_law 250 = .ok (.iload_n 3, 1) := by decide +kernel
theorem dL_law_251 : decode cL_law 251 = .ok (.iconst 1, 1) := by decide +kernel
theorem dL_law_252 : decode cL_law 252 = .ok (.iadd, 1) := by decide +kernel
theorem dL_law_253 : decode cL_law 253 = .ok (.iaload, 1) := by decide +kernel
theorem dL_law_254 : decode cL_law 254 = .ok (.aload_n 0, 1) := by decide +kernel
theorem dL_law_255 : decode cL_law 255 = .ok (.iload_n 3, 1) := by decide +kernel
theorem dL_law_256 : decode cL_law 256 = .ok (.iconst 2, 1) := by decide +kernel
theorem dL_law_257 : decode cL_law 257 = .ok (.iadd, 1) := by decide +kernel
theorem dL_law_258 : decode cL_law 258 = .ok (.iaload, 1) := by decide +kernel
theorem dL_law_259 : decode cL_law 259 = .ok (.invokevirtual 27, 3) := by decide +kernel
theorem dL_law_262 : decode cL_law 262 = .ok (.if_icmp .eq 919, 3) := by decide +kernel
theorem dL_law_265 : decode cL_law 265 = .ok (.iconst 0, 1) := by decide +kernel
theorem dL_law_266 : decode cL_law 266 = .ok (.ireturn, 1) := by decide +kernel
theorem dL_law_267 : decode cL_law 267 = .ok (.aload_n 1, 1) := by decide +kernel
theorem dL_law_268 : decode cL_law 268 = .ok (.aload_n 0, 1) := by decide +kernel
theorem dL_law_269 : decode cL_law 269 = .ok (.iload_n 3, 1) := by decide +kernel
theorem dL_law_270 : decode cL_law 270 = .ok (.iconst 1, 1) := by decide +kernel
theorem dL_law_271 : decode cL_law 271 = .ok (.iadd, 1) := by decide +kernel
theorem dL_law_272 : decode cL_law 272 = .ok (.iaload, 1) := by decide +kernel
theorem dL_law_273 : decode cL_law 273 = .ok (.invokevirtual 28, 3) := by decide +kernel
theorem dL_law_276 : decode cL_law 276 = .ok (.aload_n 2, 1) := by decide +kernel
theorem dL_law_277 : decode cL_law 277 = .ok (.aload_n 0, 1) := by decide +kernel
theorem dL_law_278 : decode cL_law 278 = .ok (.iload_n 3, 1) := by decide +kernel
theorem dL_law_279 : decode cL_law 279 = .ok (.iconst 1, 1) := by decide +kernel
theorem dL_law_280 : decode cL_law 280 = .ok (.iadd, 1) := by decide +kernel
theorem dL_law_281 : decode cL_law 281 = .ok (.iaload, 1) := by decide +kernel
theorem dL_law_282 : decode cL_law 282 = .ok (.invokevirtual 32, 3) := by decide +kernel
theorem dL_law_285 : decode cL_law 285 = .ok (.if_icmp .eq 896, 3) := by decide +kernel
theorem dL_law_288 : decode cL_law 288 = .ok (.iconst 0, 1) := by decide +kernel
theorem dL_law_289 : decode cL_law 289 = .ok (.ireturn, 1) := by decide +kernel
theorem dL_law_290 : decode cL_law 290 = .ok (.aload_n 1, 1) := by decide +kernel
theorem dL_law_291 : decode cL_law 291 = .ok (.aload_n 0, 1) := by decide +kernel
theorem dL_law_292 : decode cL_law 292 = .ok (.iload_n 3, 1) := by decide +kernel
theorem dL_law_293 : decode cL_law 293 = .ok (.iconst 1, 1) := by decide +kernel
theorem dL_law_294 : decode cL_law 294 = .ok (.iadd, 1) := by decide +kernel
theorem dL_law_295 : decode cL_law 295 = .ok (.iaload, 1) := by decide +kernel
theorem dL_law_296 : decode cL_law 296 = .ok (.aload_n 0, 1) := by decide +kernel
theorem dL_law_297 : decode cL_law 297 = .ok (.iload_n 3, 1) := by decide +kernel
theorem dL_law_298 : decode cL_law 298 = .ok (.iconst 2, 1) := by decide +kernel
theorem dL_law_299 : decode cL_law 299 = .ok (.iadd, 1) := by decide +kernel
theorem dL_law_300 : decode cL_law 300 = .ok (.iaload, 1) := by decide +kernel
theorem dL_law_301 : decode cL_law 301 = .ok (.aload_n 0, 1) := by decide +kernel
theorem dL_law_302 : decode cL_law 302 = .ok (.iload_n 3, 1) := by decide +kernel
theorem dL_law_303 : decode cL_law 303 = .ok (.iconst 3, 1) := by decide +kernel
theorem dL_law_304 : decode cL_law 304 = .ok (.iadd, 1) := by decide +kernel
theorem dL_law_305 : decode cL_law 305 = .ok (.iaload, 1) := by decide +kernel
theorem dL_law_306 : decode cL_law 306 = .ok (.invokevirtual 33, 3) := by decide +kernel
theorem dL_law_309 : decode cL_law 309 = .ok (.aload_n 2, 1) := by decide +kernel
theorem dL_law_310 : decode cL_law 310 = .ok (.aload_n 0, 1) := by decide +kernel
theorem dL_law_311 : decode cL_law 311 = .ok (.iload_n 3, 1) := by decide +kernel
theorem dL_law_312 : decode cL_law 312 = .ok (.iconst 1, 1) := by decide +kernel
theorem dL_law_313 : decode cL_law 313 = .ok (.iadd, 1) := by decide +kernel
theorem dL_law_314 : decode cL_law 314 = .ok (.iaload, 1) := by decide +kernel
theorem dL_law_315 : decode cL_law 315 = .ok (.aload_n 0, 1) := by decide +kernel
theorem dL_law_316 : decode cL_law 316 = .ok (.iload_n 3, 1) := by decide +kernel
theorem dL_law_317 : decode cL_law 317 = .ok (.iconst 2, 1) := by decide +kernel
theorem dL_law_318 : decode cL_law 318 = .ok (.iadd, 1) := by decide +kernel
theorem dL_law_319 : decode cL_law 319 = .ok (.iaload, 1) := by decide +kernel
theorem dL_law_320 : decode cL_law 320 = .ok (.aload_n 0, 1) := by decide +kernel
theorem dL_law_321 : decode cL_law 321 = .ok (.iload_n 3, 1) := by decide +kernel
theorem dL_law_322 : decode cL_law 322 = .ok (.iconst 3, 1) := by decide +kernel
theorem dL_law_323 : decode cL_law 323 = .ok (.iadd, 1) := by decide +kernel
theorem dL_law_324 : decode cL_law 324 = .ok (.iaload, 1) := by decide +kernel
theorem dL_law_325 : decode cL_law 325 = .ok (.invokevirtual 37, 3) := by decide +kernel
theorem dL_law_328 : decode cL_law 328 = .ok (.if_icmp .eq 853, 3) := by decide +kernel
theorem dL_law_331 : decode cL_law 331 = .ok (.iconst 0, 1) := by decide +kernel
theorem dL_law_332 : decode cL_law 332 = .ok (.ireturn, 1) := by decide +kernel
theorem dL_law_333 : decode cL_law 333 = .ok (.aload_n 1, 1) := by decide +kernel
theorem dL_law_334 : decode cL_law 334 = .ok (.aload_n 0, 1) := by decide +kernel
theorem dL_law_335 : decode cL_law 335 = .ok (.iload_n 3, 1) := by decide +kernel
theorem dL_law_336 : decode cL_law 336 = .ok (.iconst 1, 1) := by decide +kernel
theorem dL_law_337 : decode cL_law 337 = .ok (.iadd, 1) := by decide +kernel
theorem dL_law_338 : decode cL_law 338 = .ok (.iaload, 1) := by decide +kernel
theorem dL_law_339 : decode cL_law 339 = .ok (.invokevirtual 38, 3) := by decide +kernel
theorem dL_law_342 : decode cL_law 342 = .ok (.aload_n 2, 1) := by decide +kernel
theorem dL_law_343 : decode cL_law 343 = .ok (.aload_n 0, 1) := by decide +kernel
theorem dL_law_344 : decode cL_law 344 = .ok (.iload_n 3, 1) := by decide +kernel
theorem dL_law_345 : decode cL_law 345 = .ok (.iconst 1, 1) := by decide +kernel
theorem dL_law_346 : decode cL_law 346 = .ok (.iadd, 1) := by decide +kernel
theorem dL_law_347 : decode cL_law 347 = .ok (.iaload, 1) := by decide +kernel
theorem dL_law_348 : decode cL_law 348 = .ok (.invokevirtual 41, 3) := by decide +kernel
theorem dL_law_351 : decode cL_law 351 = .ok (.if_icmp .eq 830, 3) := by decide +kernel
theorem dL_law_354 : decode cL_law 354 = .ok (.iconst 0, 1) := by decide +kernel
theorem dL_law_355 : decode cL_law 355 = .ok (.ireturn, 1) := by decide +kernel
theorem dL_law_356 : decode cL_law 356 = .ok (.aload_n 1, 1) := by decide +kernel
theorem dL_law_357 : decode cL_law 357 = .ok (.aload_n 0, 1) := by decide +kernel
theorem dL_law_358 : decode cL_law 358 = .ok (.iload_n 3, 1) := by decide +kernel
theorem dL_law_359 : decode cL_law 359 = .ok (.iconst 1, 1) := by decide +kernel
theorem dL_law_360 : decode cL_law 360 = .ok (.iadd, 1) := by decide +kernel
theorem dL_law_361 : decode cL_law 361 = .ok (.iaload, 1) := by decide +kernel
theorem dL_law_362 : decode cL_law 362 = .ok (.invokevirtual 42, 3) := by decide +kernel
theorem dL_law_365 : decode cL_law 365 = .ok (.aload_n 2, 1) := by decide +kernel
theorem dL_law_366 : decode cL_law 366 = .ok (.aload_n 0, 1) := by decide +kernel
theorem dL_law_367 : decode cL_law 367 = .ok (.iload_n 3, 1) := by decide +kernel
theorem dL_law_368 : decode cL_law 368 = .ok (.iconst 1, 1) := by decide +kernel
theorem dL_law_369 : decode cL_law 369 = .ok (.iadd, 1) := by decide +kernel
theorem dL_law_370 : decode cL_law 370 = .ok (.iaload, 1) := by decide +kernel
theorem dL_law_371 : decode cL_law 371 = .ok (.invokevirtual 45, 3) := by decide +kernel
theorem dL_law_374 : decode cL_law 374 = .ok (.if_icmp .eq 807, 3) := by decide +kernel
theorem dL_law_377 : decode cL_law 377 = .ok (.iconst 0, 1) := by decide +kernel
theorem dL_law_378 : decode cL_law 378 = .ok (.ireturn, 1) := by decide +kernel
theorem dL_law_379 : decode cL_law 379 = .ok (.aload_n 1, 1) := by decide +kernel
theorem dL_law_380 : decode cL_law 380 = .ok (.aload_n 0, 1) := by decide +kernel
theorem dL_law_381 : decode cL_law 381 = .ok (.iload_n 3, 1) := by decide +kernel
theorem dL_law_382 : decode cL_law 382 = .ok (.iconst 1, 1) := by decide +kernel
theorem dL_law_383 : decode cL_law 383 = .ok (.iadd, 1) := by decide +kernel
theorem dL_law_384 : decode cL_law 384 = .ok (.iaload, 1) := by decide +kernel
theorem dL_law_385 : decode cL_law 385 = .ok (.aload_n 0, 1) := by decide +kernel
theorem dL_law_386 : decode cL_law 386 = .ok (.iload_n 3, 1) := by decide +kernel
theorem dL_law_387 : decode cL_law 387 = .ok (.iconst 2, 1) := by decide +kernel
theorem dL_law_388 : decode cL_law 388 = .ok (.iadd, 1) := by decide +kernel
theorem dL_law_389 : decode cL_law 389 = .ok (.iaload, 1) := by decide +kernel
theorem dL_law_390 : decode cL_law 390 = .ok (.invokevirtual 46, 3) := by decide +kernel
theorem dL_law_393 : decode cL_law 393 = .ok (.aload_n 2, 1) := by decide +kernel
theorem dL_law_394 : decode cL_law 394 = .ok (.aload_n 0, 1) := by decide +kernel
theorem dL_law_395 : decode cL_law 395 = .ok (.iload_n 3, 1) := by decide +kernel
theorem dL_law_396 : decode cL_law 396 = .ok (.iconst 1, 1) := by decide +kernel
theorem dL_law_397 : decode cL_law 397 = .ok (.iadd, 1) := by decide +kernel
theorem dL_law_398 : decode cL_law 398 = .ok (.iaload, 1) := by decide +kernel
theorem dL_law_399 : decode cL_law 399 = .ok (.aload_n 0, 1) := by decide +kernel
theorem dL_law_400 : decode cL_law 400 = .ok (.iload_n 3, 1) := by decide +kernel
theorem dL_law_401 : decode cL_law 401 = .ok (.iconst 2, 1) := by decide +kernel
theorem dL_law_402 : decode cL_law 402 = .ok (.iadd, 1) := by decide +kernel
theorem dL_law_403 : decode cL_law 403 = .ok (.iaload, 1) := by decide +kernel
theorem dL_law_404 : decode cL_law 404 = .ok (.invokevirtual 49, 3) := by decide +kernel
theorem dL_law_407 : decode cL_law 407 = .ok (.if_icmp .eq 774, 3) := by decide +kernel
theorem dL_law_410 : decode cL_law 410 = .ok (.iconst 0, 1) := by decide +kernel
theorem dL_law_411 : decode cL_law 411 = .ok (.ireturn, 1) := by decide +kernel
theorem dL_law_412 : decode cL_law 412 = .ok (.aload_n 1, 1) := by decide +kernel
theorem dL_law_413 : decode cL_law 413 = .ok (.aload_n 0, 1) := by decide +kernel
theorem dL_law_414 : decode cL_law 414 = .ok (.iload_n 3, 1) := by decide +kernel
theorem dL_law_415 : decode cL_law 415 = .ok (.iconst 1, 1) := by decide +kernel
theorem dL_law_416 : decode cL_law 416 = .ok (.iadd, 1) := by decide +kernel
theorem dL_law_417 : decode cL_law 417 = .ok (.iaload, 1) := by decide +kernel
theorem dL_law_418 : decode cL_law 418 = .ok (.invokevirtual 50, 3) := by decide +kernel
theorem dL_law_421 : decode cL_law 421 = .ok (.aload_n 2, 1) := by decide +kernel
theorem dL_law_422 : decode cL_law 422 = .ok (.aload_n 0, 1) := by decide +kernel
theorem dL_law_423 : decode cL_law 423 = .ok (.iload_n 3, 1) := by decide +kernel
theorem dL_law_424 : decode cL_law 424 = .ok (.iconst 1, 1) := by decide +kernel
theorem dL_law_425 : decode cL_law 425 = .ok (.iadd, 1) := by decide +kernel
theorem dL_law_426 : decode cL_law 426 = .ok (.iaload, 1) := by decide +kernel
theorem dL_law_427 : decode cL_law 427 = .ok (.invokevirtual 53, 3) := by decide +kernel
theorem dL_law_430 : decode cL_law 430 = .ok (.if_icmp .eq 751, 3) := by decide +kernel
theorem dL_law_433 : decode cL_law 433 = .ok (.iconst 0, 1) := by decide +kernel
theorem dL_law_434 : decode cL_law 434 = .ok (.ireturn, 1) := by decide +kernel
theorem dL_law_435 : decode cL_law 435 = .ok (.aload_n 1, 1) := by decide +kernel
theorem dL_law_436 : decode cL_law 436 = .ok (.aload_n 0, 1) := by decide +kernel
theorem dL_law_437 : decode cL_law 437 = .ok (.iload_n 3, 1) := by decide +kernel
theorem dL_law_438 : decode cL_law 438 = .ok (.iconst 1, 1) := by decide +kernel
theorem dL_law_439 : decode cL_law 439 = .ok (.iadd, 1) := by decide +kernel
theorem dL_law_440 : decode cL_law 440 = .ok (.iaload, 1) := by decide +kernel
theorem dL_law_441 : decode cL_law 441 = .ok (.aload_n 0, 1) := by decide +kernel
theorem dL_law_442 : decode cL_law 442 = .ok (.iload_n 3, 1) := by decide +kernel
theorem dL_law_443 : decode cL_law 443 = .ok (.iconst 2, 1) := by decide +kernel
theorem dL_law_444 : decode cL_law 444 = .ok (.iadd, 1) := by decide +kernel
theorem dL_law_445 : decode cL_law 445 = .ok (.iaload, 1) := by decide +kernel
theorem dL_law_446 : decode cL_law 446 = .ok (.invokevirtual 54, 3) := by decide +kernel
theorem dL_law_449 : decode cL_law 449 = .ok (.aload_n 2, 1) := by decide +kernel
theorem dL_law_450 : decode cL_law 450 = .ok (.aload_n 0, 1) := by decide +kernel
theorem dL_law_451 : decode cL_law 451 = .ok (.iload_n 3, 1) := by decide +kernel
theorem dL_law_452 : decode cL_law 452 = .ok (.iconst 1, 1) := by decide +kernel
theorem dL_law_453 : decode cL_law 453 = .ok (.iadd, 1) := by decide +kernel
theorem dL_law_454 : decode cL_law 454 = .ok (.iaload, 1) := by decide +kernel
theorem dL_law_455 : decode cL_law 455 = .ok (.aload_n 0, 1) := by decide +kernel
theorem dL_law_456 : decode cL_law 456 = .ok (.iload_n 3, 1) := by decide +kernel
theorem dL_law_457 : decode cL_law 457 = .ok (.iconst 2, 1) := by decide +kernel
theorem dL_law_458 : decode cL_law 458 = .ok (.iadd, 1) := by decide +kernel
theorem dL_law_459 : decode cL_law 459 = .ok (.iaload, 1) := by decide +kernel
theorem dL_law_460 : decode cL_law 460 = .ok (.invokevirtual 57, 3) := by decide +kernel
theorem dL_law_463 : decode cL_law 463 = .ok (.if_icmp .eq 718, 3) := by decide +kernel
theorem dL_law_466 : decode cL_law 466 = .ok (.iconst 0, 1) := by decide +kernel
theorem dL_law_467 : decode cL_law 467 = .ok (.ireturn, 1) := by decide +kernel
theorem dL_law_468 : decode cL_law 468 = .ok (.aload_n 1, 1) := by decide +kernel
theorem dL_law_469 : decode cL_law 469 = .ok (.aload_n 0, 1) := by decide +kernel
theorem dL_law_470 : decode cL_law 470 = .ok (.iload_n 3, 1) := by decide +kernel
theorem dL_law_471 : decode cL_law 471 = .ok (.iconst 1, 1) := by decide +kernel
theorem dL_law_472 : decode cL_law 472 = .ok (.iadd, 1) := by decide +kernel
theorem dL_law_473 : decode cL_law 473 = .ok (.iaload, 1) := by decide +kernel
theorem dL_law_474 : decode cL_law 474 = .ok (.invokevirtual 58, 3) := by decide +kernel
theorem dL_law_477 : decode cL_law 477 = .ok (.aload_n 2, 1) := by decide +kernel
theorem dL_law_478 : decode cL_law 478 = .ok (.aload_n 0, 1) := by decide +kernel
theorem dL_law_479 : decode cL_law 479 = .ok (.iload_n 3, 1) := by decide +kernel
theorem dL_law_480 : decode cL_law 480 = .ok (.iconst 1, 1) := by decide +kernel
theorem dL_law_481 : decode cL_law 481 = .ok (.iadd, 1) := by decide +kernel
theorem dL_law_482 : decode cL_law 482 = .ok (.iaload, 1) := by decide +kernel
theorem dL_law_483 : decode cL_law 483 = .ok (.invokevirtual 61, 3) := by decide +kernel
theorem dL_law_486 : decode cL_law 486 = .ok (.if_icmp .eq 695, 3) := by decide +kernel
theorem dL_law_489 : decode cL_law 489 = .ok (.iconst 0, 1) := by decide +kernel
theorem dL_law_490 : decode cL_law 490 = .ok (.ireturn, 1) := by decide +kernel
theorem dL_law_491 : decode cL_law 491 = .ok (.aload_n 1, 1) := by decide +kernel
theorem dL_law_492 : decode cL_law 492 = .ok (.aload_n 0, 1) := by decide +kernel
theorem dL_law_493 : decode cL_law 493 = .ok (.iload_n 3, 1) := by decide +kernel
theorem dL_law_494 : decode cL_law 494 = .ok (.iconst 1, 1) := by decide +kernel
theorem dL_law_495 : decode cL_law 495 = .ok (.iadd, 1) := by decide +kernel
theorem dL_law_496 : decode cL_law 496 = .ok (.iaload, 1) := by decide +kernel
theorem dL_law_497 : decode cL_law 497 = .ok (.invokevirtual 62, 3) := by decide +kernel
theorem dL_law_500 : decode cL_law 500 = .ok (.aload_n 2, 1) := by decide +kernel
theorem dL_law_501 : decode cL_law 501 = .ok (.aload_n 0, 1) := by decide +kernel
theorem dL_law_502 : decode cL_law 502 = .ok (.iload_n 3, 1) := by decide +kernel
theorem dL_law_503 : decode cL_law 503 = .ok (.iconst 1, 1) := by decide +kernel
theorem dL_law_504 : decode cL_law 504 = .ok (.iadd, 1) := by decide +kernel
theorem dL_law_505 : decode cL_law 505 = .ok (.iaload, 1) := by decide +kernel
theorem dL_law_506 : decode cL_law 506 = .ok (.invokevirtual 65, 3) := by decide +kernel
theorem dL_law_509 : decode cL_law 509 = .ok (.if_icmp .eq 672, 3) := by decide +kernel
theorem dL_law_512 : decode cL_law 512 = .ok (.iconst 0, 1) := by decide +kernel
theorem dL_law_513 : decode cL_law 513 = .ok (.ireturn, 1) := by decide +kernel
theorem dL_law_514 : decode cL_law 514 = .ok (.aload_n 1, 1) := by decide +kernel
theorem dL_law_515 : decode cL_law 515 = .ok (.aload_n 0, 1) := by decide +kernel
theorem dL_law_516 : decode cL_law 516 = .ok (.iload_n 3, 1) := by decide +kernel
theorem dL_law_517 : decode cL_law 517 = .ok (.iconst 1, 1) := by decide +kernel
theorem dL_law_518 : decode cL_law 518 = .ok (.iadd, 1) := by decide +kernel
theorem dL_law_519 : decode cL_law 519 = .ok (.iaload, 1) := by decide +kernel
theorem dL_law_520 : decode cL_law 520 = .ok (.aload_n 0, 1) := by decide +kernel
theorem dL_law_521 : decode cL_law 521 = .ok (.iload_n 3, 1) := by decide +kernel
theorem dL_law_522 : decode cL_law 522 = .ok (.iconst 2, 1) := by decide +kernel
theorem dL_law_523 : decode cL_law 523 = .ok (.iadd, 1) := by decide +kernel
theorem dL_law_524 : decode cL_law 524 = .ok (.iaload, 1) := by decide +kernel
theorem dL_law_525 : decode cL_law 525 = .ok (.invokevirtual 66, 3) := by decide +kernel
theorem dL_law_528 : decode cL_law 528 = .ok (.aload_n 2, 1) := by decide +kernel
theorem dL_law_529 : decode cL_law 529 = .ok (.aload_n 0, 1) := by decide +kernel
theorem dL_law_530 : decode cL_law 530 = .ok (.iload_n 3, 1) := by decide +kernel
theorem dL_law_531 : decode cL_law 531 = .ok (.iconst 1, 1) := by decide +kernel
theorem dL_law_532 : decode cL_law 532 = .ok (.iadd, 1) := by decide +kernel
theorem dL_law_533 : decode cL_law 533 = .ok (.iaload, 1) := by decide +kernel
theorem dL_law_534 : decode cL_law 534 = .ok (.aload_n 0, 1) := by decide +kernel
theorem dL_law_535 : decode cL_law 535 = .ok (.iload_n 3, 1) := by decide +kernel
theorem dL_law_536 : decode cL_law 536 = .ok (.iconst 2, 1) := by decide +kernel
theorem dL_law_537 : decode cL_law 537 = .ok (.iadd, 1) := by decide +kernel
theorem dL_law_538 : decode cL_law 538 = .ok (.iaload, 1) := by decide +kernel
theorem dL_law_539 : decode cL_law 539 = .ok (.invokevirtual 69, 3) := by decide +kernel
theorem dL_law_542 : decode cL_law 542 = .ok (.if_icmp .eq 639, 3) := by decide +kernel
theorem dL_law_545 : decode cL_law 545 = .ok (.iconst 0, 1) := by decide +kernel
theorem dL_law_546 : decode cL_law 546 = .ok (.ireturn, 1) := by decide +kernel
theorem dL_law_547 : decode cL_law 547 = .ok (.aload_n 1, 1) := by decide +kernel
theorem dL_law_548 : decode cL_law 548 = .ok (.aload_n 0, 1) := by decide +kernel
theorem dL_law_549 : decode cL_law 549 = .ok (.iload_n 3, 1) := by decide +kernel
theorem dL_law_550 : decode cL_law 550 = .ok (.iconst 1, 1) := by decide +kernel
theorem dL_law_551 : decode cL_law 551 = .ok (.iadd, 1) := by decide +kernel
theorem dL_law_552 : decode cL_law 552 = .ok (.iaload, 1) := by decide +kernel
theorem dL_law_553 : decode cL_law 553 = .ok (.invokevirtual 70, 3) := by decide +kernel
theorem dL_law_556 : decode cL_law 556 = .ok (.aload_n 2, 1) := by decide +kernel
theorem dL_law_557 : decode cL_law 557 = .ok (.aload_n 0, 1) := by decide +kernel
theorem dL_law_558 : decode cL_law 558 = .ok (.iload_n 3, 1) := by decide +kernel
theorem dL_law_559 : decode cL_law 559 = .ok (.iconst 1, 1) := by decide +kernel
theorem dL_law_560 : decode cL_law 560 = .ok (.iadd, 1) := by decide +kernel
theorem dL_law_561 : decode cL_law 561 = .ok (.iaload, 1) := by decide +kernel
theorem dL_law_562 : decode cL_law 562 = .ok (.invokevirtual 73, 3) := by decide +kernel
theorem dL_law_565 : decode cL_law 565 = .ok (.if_icmp .eq 616, 3) := by decide +kernel
theorem dL_law_568 : decode cL_law 568 = .ok (.iconst 0, 1) := by decide +kernel
theorem dL_law_569 : decode cL_law 569 = .ok (.ireturn, 1) := by decide +kernel
theorem dL_law_570 : decode cL_law 570 = .ok (.aload_n 1, 1) := by decide +kernel
theorem dL_law_571 : decode cL_law 571 = .ok (.invokevirtual 74, 3) := by decide +kernel
theorem dL_law_574 : decode cL_law 574 = .ok (.aload_n 2, 1) := by decide +kernel
theorem dL_law_575 : decode cL_law 575 = .ok (.invokevirtual 77, 3) := by decide +kernel
theorem dL_law_578 : decode cL_law 578 = .ok (.if_icmp .eq 603, 3) := by decide +kernel
theorem dL_law_581 : decode cL_law 581 = .ok (.iconst 0, 1) := by decide +kernel
theorem dL_law_582 : decode cL_law 582 = .ok (.ireturn, 1) := by decide +kernel
theorem dL_law_583 : decode cL_law 583 = .ok (.aload_n 1, 1) := by decide +kernel
theorem dL_law_584 : decode cL_law 584 = .ok (.invokevirtual 78, 3) := by decide +kernel
theorem dL_law_587 : decode cL_law 587 = .ok (.aload_n 2, 1) := by decide +kernel
theorem dL_law_588 : decode cL_law 588 = .ok (.invokevirtual 81, 3) := by decide +kernel
theorem dL_law_591 : decode cL_law 591 = .ok (.if_icmp .eq 590, 3) := by decide +kernel
theorem dL_law_594 : decode cL_law 594 = .ok (.iconst 0, 1) := by decide +kernel
theorem dL_law_595 : decode cL_law 595 = .ok (.ireturn, 1) := by decide +kernel
theorem dL_law_596 : decode cL_law 596 = .ok (.aload_n 1, 1) := by decide +kernel
theorem dL_law_597 : decode cL_law 597 = .ok (.aload_n 0, 1) := by decide +kernel
theorem dL_law_598 : decode cL_law 598 = .ok (.iload_n 3, 1) := by decide +kernel
theorem dL_law_599 : decode cL_law 599 = .ok (.iconst 1, 1) := by decide +kernel
theorem dL_law_600 : decode cL_law 600 = .ok (.iadd, 1) := by decide +kernel
theorem dL_law_601 : decode cL_law 601 = .ok (.iaload, 1) := by decide +kernel
theorem dL_law_602 : decode cL_law 602 = .ok (.aload_n 0, 1) := by decide +kernel
theorem dL_law_603 : decode cL_law 603 = .ok (.iload_n 3, 1) := by decide +kernel
theorem dL_law_604 : decode cL_law 604 = .ok (.iconst 2, 1) := by decide +kernel
theorem dL_law_605 : decode cL_law 605 = .ok (.iadd, 1) := by decide +kernel
theorem dL_law_606 : decode cL_law 606 = .ok (.iaload, 1) := by decide +kernel
theorem dL_law_607 : decode cL_law 607 = .ok (.ifCond .eq 7, 3) := by decide +kernel
theorem dL_law_610 : decode cL_law 610 = .ok (.iconst 1, 1) := by decide +kernel
theorem dL_law_611 : decode cL_law 611 = .ok (.goto 4, 3) := by decide +kernel
theorem dL_law_614 : decode cL_law 614 = .ok (.iconst 0, 1) := by decide +kernel
theorem dL_law_615 : decode cL_law 615 = .ok (.invokevirtual 82, 3) := by decide +kernel
theorem dL_law_618 : decode cL_law 618 = .ok (.aload_n 2, 1) := by decide +kernel
theorem dL_law_619 : decode cL_law 619 = .ok (.aload_n 0, 1) := by decide +kernel
theorem dL_law_620 : decode cL_law 620 = .ok (.iload_n 3, 1) := by decide +kernel
theorem dL_law_621 : decode cL_law 621 = .ok (.iconst 1, 1) := by decide +kernel
theorem dL_law_622 : decode cL_law 622 = .ok (.iadd, 1) := by decide +kernel
theorem dL_law_623 : decode cL_law 623 = .ok (.iaload, 1) := by decide +kernel
theorem dL_law_624 : decode cL_law 624 = .ok (.aload_n 0, 1) := by decide +kernel
theorem dL_law_625 : decode cL_law 625 = .ok (.iload_n 3, 1) := by decide +kernel
theorem dL_law_626 : decode cL_law 626 = .ok (.iconst 2, 1) := by decide +kernel
theorem dL_law_627 : decode cL_law 627 = .ok (.iadd, 1) := by decide +kernel
theorem dL_law_628 : decode cL_law 628 = .ok (.iaload, 1) := by decide +kernel
theorem dL_law_629 : decode cL_law 629 = .ok (.ifCond .eq 7, 3) := by decide +kernel
theorem dL_law_632 : decode cL_law 632 = .ok (.iconst 1, 1) := by decide +kernel
theorem dL_law_633 : decode cL_law 633 = .ok (.goto 4, 3) := by decide +kernel
theorem dL_law_636 : decode cL_law 636 = .ok (.iconst 0, 1) := by decide +kernel
theorem dL_law_637 : decode cL_law 637 = .ok (.invokevirtual 86, 3) := by decide +kernel
theorem dL_law_640 : decode cL_law 640 = .ok (.if_icmp .eq 541, 3) := by decide +kernel
theorem dL_law_643 : decode cL_law 643 = .ok (.iconst 0, 1) := by decide +kernel
theorem dL_law_644 : decode cL_law 644 = .ok (.ireturn, 1) := by decide +kernel
theorem dL_law_645 : decode cL_law 645 = .ok (.aload_n 1, 1) := by decide +kernel
theorem dL_law_646 : decode cL_law 646 = .ok (.aload_n 0, 1) := by decide +kernel
theorem dL_law_647 : decode cL_law 647 = .ok (.iload_n 3, 1) := by decide +kernel
theorem dL_law_648 : decode cL_law 648 = .ok (.iconst 1, 1) := by decide +kernel
theorem dL_law_649 : decode cL_law 649 = .ok (.iadd, 1) := by decide +kernel
theorem dL_law_650 : decode cL_law 650 = .ok (.iaload, 1) := by decide +kernel
theorem dL_law_651 : decode cL_law 651 = .ok (.aload_n 0, 1) := by decide +kernel
theorem dL_law_652 : decode cL_law 652 = .ok (.iload_n 3, 1) := by decide +kernel
theorem dL_law_653 : decode cL_law 653 = .ok (.iconst 2, 1) := by decide +kernel
theorem dL_law_654 : decode cL_law 654 = .ok (.iadd, 1) := by decide +kernel
theorem dL_law_655 : decode cL_law 655 = .ok (.iaload, 1) := by decide +kernel
theorem dL_law_656 : decode cL_law 656 = .ok (.ifCond .eq 7, 3) := by decide +kernel
theorem dL_law_659 : decode cL_law 659 = .ok (.iconst 1, 1) := by decide +kernel
theorem dL_law_660 : decode cL_law 660 = .ok (.goto 4, 3) := by decide +kernel
theorem dL_law_663 : decode cL_law 663 = .ok (.iconst 0, 1) := by decide +kernel
theorem dL_law_664 : decode cL_law 664 = .ok (.invokevirtual 87, 3) := by decide +kernel
theorem dL_law_667 : decode cL_law 667 = .ok (.aload_n 2, 1) := by decide +kernel
theorem dL_law_668 : decode cL_law 668 = .ok (.aload_n 0, 1) := by decide +kernel
theorem dL_law_669 : decode cL_law 669 = .ok (.iload_n 3, 1) := by decide +kernel
theorem dL_law_670 : decode cL_law 670 = .ok (.iconst 1, 1) := by decide +kernel
theorem dL_law_671 : decode cL_law 671 = .ok (.iadd, 1) := by decide +kernel
theorem dL_law_672 : decode cL_law 672 = .ok (.iaload, 1) := by decide +kernel
theorem dL_law_673 : decode cL_law 673 = .ok (.aload_n 0, 1) := by decide +kernel
theorem dL_law_674 : decode cL_law 674 = .ok (.iload_n 3, 1) := by decide +kernel
theorem dL_law_675 : decode cL_law 675 = .ok (.iconst 2, 1) := by decide +kernel
theorem dL_law_676 : decode cL_law 676 = .ok (.iadd, 1) := by decide +kernel
theorem dL_law_677 : decode cL_law 677 = .ok (.iaload, 1) := by decide +kernel
theorem dL_law_678 : decode cL_law 678 = .ok (.ifCond .eq 7, 3) := by decide +kernel
theorem dL_law_681 : decode cL_law 681 = .ok (.iconst 1, 1) := by decide +kernel
theorem dL_law_682 : decode cL_law 682 = .ok (.goto 4, 3) := by decide +kernel
theorem dL_law_685 : decode cL_law 685 = .ok (.iconst 0, 1) := by decide +kernel
theorem dL_law_686 : decode cL_law 686 = .ok (.invokevirtual 90, 3) := by decide +kernel
theorem dL_law_689 : decode cL_law 689 = .ok (.if_icmp .eq 492, 3) := by decide +kernel
theorem dL_law_692 : decode cL_law 692 = .ok (.iconst 0, 1) := by decide +kernel
theorem dL_law_693 : decode cL_law 693 = .ok (.ireturn, 1) := by decide +kernel
theorem dL_law_694 : decode cL_law 694 = .ok (.aload_n 1, 1) := by decide +kernel
theorem dL_law_695 : decode cL_law 695 = .ok (.aload_n 0, 1) := by decide +kernel
theorem dL_law_696 : decode cL_law 696 = .ok (.iload_n 3, 1) := by decide +kernel
theorem dL_law_697 : decode cL_law 697 = .ok (.iconst 1, 1) := by decide +kernel
theorem dL_law_698 : decode cL_law 698 = .ok (.iadd, 1) := by decide +kernel
theorem dL_law_699 : decode cL_law 699 = .ok (.iaload, 1) := by decide +kernel
theorem dL_law_700 : decode cL_law 700 = .ok (.aload_n 0, 1) := by decide +kernel
theorem dL_law_701 : decode cL_law 701 = .ok (.iload_n 3, 1) := by decide +kernel
theorem dL_law_702 : decode cL_law 702 = .ok (.iconst 2, 1) := by decide +kernel
theorem dL_law_703 : decode cL_law 703 = .ok (.iadd, 1) := by decide +kernel
theorem dL_law_704 : decode cL_law 704 = .ok (.iaload, 1) := by decide +kernel
theorem dL_law_705 : decode cL_law 705 = .ok (.invokevirtual 91, 3) := by decide +kernel
theorem dL_law_708 : decode cL_law 708 = .ok (.aload_n 2, 1) := by decide +kernel
theorem dL_law_709 : decode cL_law 709 = .ok (.aload_n 0, 1) := by decide +kernel
theorem dL_law_710 : decode cL_law 710 = .ok (.iload_n 3, 1) := by decide +kernel
theorem dL_law_711 : decode cL_law 711 = .ok (.iconst 1, 1) := by decide +kernel
theorem dL_law_712 : decode cL_law 712 = .ok (.iadd, 1) := by decide +kernel
theorem dL_law_713 : decode cL_law 713 = .ok (.iaload, 1) := by decide +kernel
theorem dL_law_714 : decode cL_law 714 = .ok (.aload_n 0, 1) := by decide +kernel
theorem dL_law_715 : decode cL_law 715 = .ok (.iload_n 3, 1) := by decide +kernel
theorem dL_law_716 : decode cL_law 716 = .ok (.iconst 2, 1) := by decide +kernel
theorem dL_law_717 : decode cL_law 717 = .ok (.iadd, 1) := by decide +kernel
theorem dL_law_718 : decode cL_law 718 = .ok (.iaload, 1) := by decide +kernel
theorem dL_law_719 : decode cL_law 719 = .ok (.invokevirtual 94, 3) := by decide +kernel
theorem dL_law_722 : decode cL_law 722 = .ok (.if_icmp .eq 459, 3) := by decide +kernel
theorem dL_law_725 : decode cL_law 725 = .ok (.iconst 0, 1) := by decide +kernel
theorem dL_law_726 : decode cL_law 726 = .ok (.ireturn, 1) := by decide +kernel
theorem dL_law_727 : decode cL_law 727 = .ok (.aload_n 1, 1) := by decide +kernel
theorem dL_law_728 : decode cL_law 728 = .ok (.aload_n 0, 1) := by decide +kernel
theorem dL_law_729 : decode cL_law 729 = .ok (.iload_n 3, 1) := by decide +kernel
theorem dL_law_730 : decode cL_law 730 = .ok (.iconst 1, 1) := by decide +kernel
theorem dL_law_731 : decode cL_law 731 = .ok (.iadd, 1) := by decide +kernel
theorem dL_law_732 : decode cL_law 732 = .ok (.iaload, 1) := by decide +kernel
theorem dL_law_733 : decode cL_law 733 = .ok (.aload_n 0, 1) := by decide +kernel
theorem dL_law_734 : decode cL_law 734 = .ok (.iload_n 3, 1) := by decide +kernel
theorem dL_law_735 : decode cL_law 735 = .ok (.iconst 2, 1) := by decide +kernel
theorem dL_law_736 : decode cL_law 736 = .ok (.iadd, 1) := by decide +kernel
theorem dL_law_737 : decode cL_law 737 = .ok (.iaload, 1) := by decide +kernel
theorem dL_law_738 : decode cL_law 738 = .ok (.ifCond .eq 7, 3) := by decide +kernel
theorem dL_law_741 : decode cL_law 741 = .ok (.iconst 1, 1) := by decide +kernel
theorem dL_law_742 : decode cL_law 742 = .ok (.goto 4, 3) := by decide +kernel
theorem dL_law_745 : decode cL_law 745 = .ok (.iconst 0, 1) := by decide +kernel
theorem dL_law_746 : decode cL_law 746 = .ok (.invokevirtual 95, 3) := by decide +kernel
theorem dL_law_749 : decode cL_law 749 = .ok (.aload_n 2, 1) := by decide +kernel
theorem dL_law_750 : decode cL_law 750 = .ok (.aload_n 0, 1) := by decide +kernel
theorem dL_law_751 : decode cL_law 751 = .ok (.iload_n 3, 1) := by decide +kernel
theorem dL_law_752 : decode cL_law 752 = .ok (.iconst 1, 1) := by decide +kernel
theorem dL_law_753 : decode cL_law 753 = .ok (.iadd, 1) := by decide +kernel
theorem dL_law_754 : decode cL_law 754 = .ok (.iaload, 1) := by decide +kernel
theorem dL_law_755 : decode cL_law 755 = .ok (.aload_n 0, 1) := by decide +kernel
theorem dL_law_756 : decode cL_law 756 = .ok (.iload_n 3, 1) := by decide +kernel
theorem dL_law_757 : decode cL_law 757 = .ok (.iconst 2, 1) := by decide +kernel
theorem dL_law_758 : decode cL_law 758 = .ok (.iadd, 1) := by decide +kernel
theorem dL_law_759 : decode cL_law 759 = .ok (.iaload, 1) := by decide +kernel
theorem dL_law_760 : decode cL_law 760 = .ok (.ifCond .eq 7, 3) := by decide +kernel
theorem dL_law_763 : decode cL_law 763 = .ok (.iconst 1, 1) := by decide +kernel
theorem dL_law_764 : decode cL_law 764 = .ok (.goto 4, 3) := by decide +kernel
theorem dL_law_767 : decode cL_law 767 = .ok (.iconst 0, 1) := by decide +kernel
theorem dL_law_768 : decode cL_law 768 = .ok (.invokevirtual 98, 3) := by decide +kernel
theorem dL_law_771 : decode cL_law 771 = .ok (.if_icmp .eq 410, 3) := by decide +kernel
theorem dL_law_774 : decode cL_law 774 = .ok (.iconst 0, 1) := by decide +kernel
theorem dL_law_775 : decode cL_law 775 = .ok (.ireturn, 1) := by decide +kernel
theorem dL_law_776 : decode cL_law 776 = .ok (.aload_n 1, 1) := by decide +kernel
theorem dL_law_777 : decode cL_law 777 = .ok (.invokevirtual 99, 3) := by decide +kernel
theorem dL_law_780 : decode cL_law 780 = .ok (.aload_n 2, 1) := by decide +kernel
theorem dL_law_781 : decode cL_law 781 = .ok (.invokevirtual 102, 3) := by decide +kernel
theorem dL_law_784 : decode cL_law 784 = .ok (.if_icmp .eq 397, 3) := by decide +kernel
theorem dL_law_787 : decode cL_law 787 = .ok (.iconst 0, 1) := by decide +kernel
theorem dL_law_788 : decode cL_law 788 = .ok (.ireturn, 1) := by decide +kernel
theorem dL_law_789 : decode cL_law 789 = .ok (.aload_n 1, 1) := by decide +kernel
theorem dL_law_790 : decode cL_law 790 = .ok (.aload_n 0, 1) := by decide +kernel
theorem dL_law_791 : decode cL_law 791 = .ok (.iload_n 3, 1) := by decide +kernel
theorem dL_law_792 : decode cL_law 792 = .ok (.iconst 1, 1) := by decide +kernel
theorem dL_law_793 : decode cL_law 793 = .ok (.iadd, 1) := by decide +kernel
theorem dL_law_794 : decode cL_law 794 = .ok (.iaload, 1) := by decide +kernel
theorem dL_law_795 : decode cL_law 795 = .ok (.invokevirtual 103, 3) := by decide +kernel
theorem dL_law_798 : decode cL_law 798 = .ok (.aload_n 2, 1) := by decide +kernel
theorem dL_law_799 : decode cL_law 799 = .ok (.aload_n 0, 1) := by decide +kernel
theorem dL_law_800 : decode cL_law 800 = .ok (.iload_n 3, 1) := by decide +kernel
theorem dL_law_801 : decode cL_law 801 = .ok (.iconst 1, 1) := by decide +kernel
theorem dL_law_802 : decode cL_law 802 = .ok (.iadd, 1) := by decide +kernel
theorem dL_law_803 : decode cL_law 803 = .ok (.iaload, 1) := by decide +kernel
theorem dL_law_804 : decode cL_law 804 = .ok (.invokevirtual 106, 3) := by decide +kernel
theorem dL_law_807 : decode cL_law 807 = .ok (.if_icmp .eq 374, 3) := by decide +kernel
theorem dL_law_810 : decode cL_law 810 = .ok (.iconst 0, 1) := by decide +kernel
theorem dL_law_811 : decode cL_law 811 = .ok (.ireturn, 1) := by decide +kernel
theorem dL_law_812 : decode cL_law 812 = .ok (.aload_n 1, 1) := by decide +kernel
theorem dL_law_813 : decode cL_law 813 = .ok (.aload_n 0, 1) := by decide +kernel
theorem dL_law_814 : decode cL_law 814 = .ok (.iload_n 3, 1) := by decide +kernel
theorem dL_law_815 : decode cL_law 815 = .ok (.iconst 1, 1) := by decide +kernel
theorem dL_law_816 : decode cL_law 816 = .ok (.iadd, 1) := by decide +kernel
theorem dL_law_817 : decode cL_law 817 = .ok (.iaload, 1) := by decide +kernel
theorem dL_law_818 : decode cL_law 818 = .ok (.aload_n 0, 1) := by decide +kernel
theorem dL_law_819 : decode cL_law 819 = .ok (.iload_n 3, 1) := by decide +kernel
theorem dL_law_820 : decode cL_law 820 = .ok (.iconst 2, 1) := by decide +kernel
theorem dL_law_821 : decode cL_law 821 = .ok (.iadd, 1) := by decide +kernel
theorem dL_law_822 : decode cL_law 822 = .ok (.iaload, 1) := by decide +kernel
theorem dL_law_823 : decode cL_law 823 = .ok (.invokevirtual 107, 3) := by decide +kernel
theorem dL_law_826 : decode cL_law 826 = .ok (.aload_n 2, 1) := by decide +kernel
theorem dL_law_827 : decode cL_law 827 = .ok (.aload_n 0, 1) := by decide +kernel
theorem dL_law_828 : decode cL_law 828 = .ok (.iload_n 3, 1) := by decide +kernel
theorem dL_law_829 : decode cL_law 829 = .ok (.iconst 1, 1) := by decide +kernel
theorem dL_law_830 : decode cL_law 830 = .ok (.iadd, 1) := by decide +kernel
theorem dL_law_831 : decode cL_law 831 = .ok (.iaload, 1) := by decide +kernel
theorem dL_law_832 : decode cL_law 832 = .ok (.aload_n 0, 1) := by decide +kernel
theorem dL_law_833 : decode cL_law 833 = .ok (.iload_n 3, 1) := by decide +kernel
theorem dL_law_834 : decode cL_law 834 = .ok (.iconst 2, 1) := by decide +kernel
theorem dL_law_835 : decode cL_law 835 = .ok (.iadd, 1) := by decide +kernel
theorem dL_law_836 : decode cL_law 836 = .ok (.iaload, 1) := by decide +kernel
theorem dL_law_837 : decode cL_law 837 = .ok (.invokevirtual 110, 3) := by decide +kernel
theorem dL_law_840 : decode cL_law 840 = .ok (.if_icmp .eq 341, 3) := by decide +kernel
theorem dL_law_843 : decode cL_law 843 = .ok (.iconst 0, 1) := by decide +kernel
theorem dL_law_844 : decode cL_law 844 = .ok (.ireturn, 1) := by decide +kernel
theorem dL_law_845 : decode cL_law 845 = .ok (.aload_n 1, 1) := by decide +kernel
theorem dL_law_846 : decode cL_law 846 = .ok (.aload_n 0, 1) := by decide +kernel
theorem dL_law_847 : decode cL_law 847 = .ok (.iload_n 3, 1) := by decide +kernel
theorem dL_law_848 : decode cL_law 848 = .ok (.iconst 1, 1) := by decide +kernel
theorem dL_law_849 : decode cL_law 849 = .ok (.iadd, 1) := by decide +kernel
theorem dL_law_850 : decode cL_law 850 = .ok (.iaload, 1) := by decide +kernel
theorem dL_law_851 : decode cL_law 851 = .ok (.aload_n 0, 1) := by decide +kernel
theorem dL_law_852 : decode cL_law 852 = .ok (.iload_n 3, 1) := by decide +kernel
theorem dL_law_853 : decode cL_law 853 = .ok (.iconst 2, 1) := by decide +kernel
theorem dL_law_854 : decode cL_law 854 = .ok (.iadd, 1) := by decide +kernel
theorem dL_law_855 : decode cL_law 855 = .ok (.iaload, 1) := by decide +kernel
theorem dL_law_856 : decode cL_law 856 = .ok (.invokevirtual 111, 3) := by decide +kernel
theorem dL_law_859 : decode cL_law 859 = .ok (.aload_n 2, 1) := by decide +kernel
theorem dL_law_860 : decode cL_law 860 = .ok (.aload_n 0, 1) := by decide +kernel
theorem dL_law_861 : decode cL_law 861 = .ok (.iload_n 3, 1) := by decide +kernel
theorem dL_law_862 : decode cL_law 862 = .ok (.iconst 1, 1) := by decide +kernel
theorem dL_law_863 : decode cL_law 863 = .ok (.iadd, 1) := by decide +kernel
theorem dL_law_864 : decode cL_law 864 = .ok (.iaload, 1) := by decide +kernel
theorem dL_law_865 : decode cL_law 865 = .ok (.aload_n 0, 1) := by decide +kernel
theorem dL_law_866 : decode cL_law 866 = .ok (.iload_n 3, 1) := by decide +kernel
theorem dL_law_867 : decode cL_law 867 = .ok (.iconst 2, 1) := by decide +kernel
theorem dL_law_868 : decode cL_law 868 = .ok (.iadd, 1) := by decide +kernel
theorem dL_law_869 : decode cL_law 869 = .ok (.iaload, 1) := by decide +kernel
theorem dL_law_870 : decode cL_law 870 = .ok (.invokevirtual 114, 3) := by decide +kernel
theorem dL_law_873 : decode cL_law 873 = .ok (.if_icmp .eq 308, 3) := by decide +kernel
theorem dL_law_876 : decode cL_law 876 = .ok (.iconst 0, 1) := by decide +kernel
theorem dL_law_877 : decode cL_law 877 = .ok (.ireturn, 1) := by decide +kernel
theorem dL_law_878 : decode cL_law 878 = .ok (.aload_n 1, 1) := by decide +kernel
theorem dL_law_879 : decode cL_law 879 = .ok (.invokevirtual 115, 3) := by decide +kernel
theorem dL_law_882 : decode cL_law 882 = .ok (.aload_n 2, 1) := by decide +kernel
theorem dL_law_883 : decode cL_law 883 = .ok (.invokevirtual 118, 3) := by decide +kernel
theorem dL_law_886 : decode cL_law 886 = .ok (.if_icmp .eq 295, 3) := by decide +kernel
theorem dL_law_889 : decode cL_law 889 = .ok (.iconst 0, 1) := by decide +kernel
theorem dL_law_890 : decode cL_law 890 = .ok (.ireturn, 1) := by decide +kernel
theorem dL_law_891 : decode cL_law 891 = .ok (.aload_n 1, 1) := by decide +kernel
theorem dL_law_892 : decode cL_law 892 = .ok (.aload_n 0, 1) := by decide +kernel
theorem dL_law_893 : decode cL_law 893 = .ok (.iload_n 3, 1) := by decide +kernel
theorem dL_law_894 : decode cL_law 894 = .ok (.iconst 1, 1) := by decide +kernel
theorem dL_law_895 : decode cL_law 895 = .ok (.iadd, 1) := by decide +kernel
theorem dL_law_896 : decode cL_law 896 = .ok (.iaload, 1) := by decide +kernel
theorem dL_law_897 : decode cL_law 897 = .ok (.invokevirtual 119, 3) := by decide +kernel
theorem dL_law_900 : decode cL_law 900 = .ok (.aload_n 2, 1) := by decide +kernel
theorem dL_law_901 : decode cL_law 901 = .ok (.aload_n 0, 1) := by decide +kernel
theorem dL_law_902 : decode cL_law 902 = .ok (.iload_n 3, 1) := by decide +kernel
theorem dL_law_903 : decode cL_law 903 = .ok (.iconst 1, 1) := by decide +kernel
theorem dL_law_904 : decode cL_law 904 = .ok (.iadd, 1) := by decide +kernel
theorem dL_law_905 : decode cL_law 905 = .ok (.iaload, 1) := by decide +kernel
theorem dL_law_906 : decode cL_law 906 = .ok (.invokevirtual 122, 3) := by decide +kernel
theorem dL_law_909 : decode cL_law 909 = .ok (.if_icmp .eq 272, 3) := by decide +kernel
theorem dL_law_912 : decode cL_law 912 = .ok (.iconst 0, 1) := by decide +kernel
theorem dL_law_913 : decode cL_law 913 = .ok (.ireturn, 1) := by decide +kernel
theorem dL_law_914 : decode cL_law 914 = .ok (.aload_n 1, 1) := by decide +kernel
theorem dL_law_915 : decode cL_law 915 = .ok (.aload_n 0, 1) := by decide +kernel
theorem dL_law_916 : decode cL_law 916 = .ok (.iload_n 3, 1) := by decide +kernel
theorem dL_law_917 : decode cL_law 917 = .ok (.iconst 1, 1) := by decide +kernel
theorem dL_law_918 : decode cL_law 918 = .ok (.iadd, 1) := by decide +kernel
theorem dL_law_919 : decode cL_law 919 = .ok (.iaload, 1) := by decide +kernel
theorem dL_law_920 : decode cL_law 920 = .ok (.invokevirtual 123, 3) := by decide +kernel
theorem dL_law_923 : decode cL_law 923 = .ok (.aload_n 2, 1) := by decide +kernel
theorem dL_law_924 : decode cL_law 924 = .ok (.aload_n 0, 1) := by decide +kernel
theorem dL_law_925 : decode cL_law 925 = .ok (.iload_n 3, 1) := by decide +kernel
theorem dL_law_926 : decode cL_law 926 = .ok (.iconst 1, 1) := by decide +kernel
theorem dL_law_927 : decode cL_law 927 = .ok (.iadd, 1) := by decide +kernel
theorem dL_law_928 : decode cL_law 928 = .ok (.iaload, 1) := by decide +kernel
theorem dL_law_929 : decode cL_law 929 = .ok (.invokevirtual 126, 3) := by decide +kernel
theorem dL_law_932 : decode cL_law 932 = .ok (.if_icmp .eq 249, 3) := by decide +kernel
theorem dL_law_935 : decode cL_law 935 = .ok (.iconst 0, 1) := by decide +kernel
theorem dL_law_936 : decode cL_law 936 = .ok (.ireturn, 1) := by decide +kernel
theorem dL_law_937 : decode cL_law 937 = .ok (.aload_n 1, 1) := by decide +kernel
theorem dL_law_938 : decode cL_law 938 = .ok (.aload_n 0, 1) := by decide +kernel
theorem dL_law_939 : decode cL_law 939 = .ok (.iload_n 3, 1) := by decide +kernel
theorem dL_law_940 : decode cL_law 940 = .ok (.iconst 1, 1) := by decide +kernel
theorem dL_law_941 : decode cL_law 941 = .ok (.iadd, 1) := by decide +kernel
theorem dL_law_942 : decode cL_law 942 = .ok (.iaload, 1) := by decide +kernel
theorem dL_law_943 : decode cL_law 943 = .ok (.invokevirtual 127, 3) := by decide +kernel
theorem dL_law_946 : decode cL_law 946 = .ok (.aload_n 2, 1) := by decide +kernel
theorem dL_law_947 : decode cL_law 947 = .ok (.aload_n 0, 1) := by decide +kernel
theorem dL_law_948 : decode cL_law 948 = .ok (.iload_n 3, 1) := by decide +kernel
theorem dL_law_949 : decode cL_law 949 = .ok (.iconst 1, 1) := by decide +kernel
theorem dL_law_950 : decode cL_law 950 = .ok (.iadd, 1) := by decide +kernel
theorem dL_law_951 : decode cL_law 951 = .ok (.iaload, 1) := by decide +kernel
theorem dL_law_952 : decode cL_law 952 = .ok (.invokevirtual 130, 3) := by decide +kernel
theorem dL_law_955 : decode cL_law 955 = .ok (.if_icmp .eq 226, 3) := by decide +kernel
theorem dL_law_958 : decode cL_law 958 = .ok (.iconst 0, 1) := by decide +kernel
theorem dL_law_959 : decode cL_law 959 = .ok (.ireturn, 1) := by decide +kernel
theorem dL_law_960 : decode cL_law 960 = .ok (.aload_n 1, 1) := by decide +kernel
theorem dL_law_961 : decode cL_law 961 = .ok (.invokevirtual 131, 3) := by decide +kernel
theorem dL_law_964 : decode cL_law 964 = .ok (.aload_n 2, 1) := by decide +kernel
theorem dL_law_965 : decode cL_law 965 = .ok (.invokevirtual 134, 3) := by decide +kernel
theorem dL_law_968 : decode cL_law 968 = .ok (.if_icmp .eq 213, 3) := by decide +kernel
theorem dL_law_971 : decode cL_law 971 = .ok (.iconst 0, 1) := by decide +kernel
theorem dL_law_972 : decode cL_law 972 = .ok (.ireturn, 1) := by decide +kernel
theorem dL_law_973 : decode cL_law 973 = .ok (.aload_n 1, 1) := by decide +kernel
theorem dL_law_974 : decode cL_law 974 = .ok (.aload_n 0, 1) := by decide +kernel
theorem dL_law_975 : decode cL_law 975 = .ok (.iload_n 3, 1) := by decide +kernel
theorem dL_law_976 : decode cL_law 976 = .ok (.iconst 1, 1) := by decide +kernel
theorem dL_law_977 : decode cL_law 977 = .ok (.iadd, 1) := by decide +kernel
theorem dL_law_978 : decode cL_law 978 = .ok (.iaload, 1) := by decide +kernel
theorem dL_law_979 : decode cL_law 979 = .ok (.invokevirtual 135, 3) := by decide +kernel
theorem dL_law_982 : decode cL_law 982 = .ok (.aload_n 2, 1) := by decide +kernel
theorem dL_law_983 : decode cL_law 983 = .ok (.aload_n 0, 1) := by decide +kernel
theorem dL_law_984 : decode cL_law 984 = .ok (.iload_n 3, 1) := by decide +kernel
theorem dL_law_985 : decode cL_law 985 = .ok (.iconst 1, 1) := by decide +kernel
theorem dL_law_986 : decode cL_law 986 = .ok (.iadd, 1) := by decide +kernel
theorem dL_law_987 : decode cL_law 987 = .ok (.iaload, 1) := by decide +kernel
theorem dL_law_988 : decode cL_law 988 = .ok (.invokevirtual 138, 3) := by decide +kernel
theorem dL_law_991 : decode cL_law 991 = .ok (.if_icmp .eq 190, 3) := by decide +kernel
theorem dL_law_994 : decode cL_law 994 = .ok (.iconst 0, 1) := by decide +kernel
theorem dL_law_995 : decode cL_law 995 = .ok (.ireturn, 1) := by decide +kernel
theorem dL_law_996 : decode cL_law 996 = .ok (.aload_n 1, 1) := by decide +kernel
theorem dL_law_997 : decode cL_law 997 = .ok (.aload_n 0, 1) := by decide +kernel
theorem dL_law_998 : decode cL_law 998 = .ok (.iload_n 3, 1) := by decide +kernel
theorem dL_law_999 : decode cL_law 999 = .ok (.iconst 1, 1) := by decide +kernel
theorem dL_law_1000 : decode cL_law 1000 = .ok (.iadd, 1) := by decide +kernel
theorem dL_law_1001 : decode cL_law 1001 = .ok (.iaload, 1) := by decide +kernel
theorem dL_law_1002 : decode cL_law 1002 = .ok (.ifCond .eq 7, 3) := by decide +kernel
theorem dL_law_1005 : decode cL_law 1005 = .ok (.iconst 1, 1) := by decide +kernel
theorem dL_law_1006 : decode cL_law 1006 = .ok (.goto 4, 3) := by decide +kernel
theorem dL_law_1009 : decode cL_law 1009 = .ok (.iconst 0, 1) := by decide +kernel
theorem dL_law_1010 : decode cL_law 1010 = .ok (.invokevirtual 139, 3) := by decide +kernel
theorem dL_law_1013 : decode cL_law 1013 = .ok (.aload_n 2, 1) := by decide +kernel
theorem dL_law_1014 : decode cL_law 1014 = .ok (.aload_n 0, 1) := by decide +kernel
theorem dL_law_1015 : decode cL_law 1015 = .ok (.iload_n 3, 1) := by decide +kernel
theorem dL_law_1016 : decode cL_law 1016 = .ok (.iconst 1, 1) := by decide +kernel
theorem dL_law_1017 : decode cL_law 1017 = .ok (.iadd, 1) := by decide +kernel
theorem dL_law_1018 : decode cL_law 1018 = .ok (.iaload, 1) := by decide +kernel
theorem dL_law_1019 : decode cL_law 1019 = .ok (.ifCond .eq 7, 3) := by decide +kernel
theorem dL_law_1022 : decode cL_law 1022 = .ok (.iconst 1, 1) := by decide +kernel
theorem dL_law_1023 : decode cL_law 1023 = .ok (.goto 4, 3) := by decide +kernel
theorem dL_law_1026 : decode cL_law 1026 = .ok (.iconst 0, 1) := by decide +kernel
theorem dL_law_1027 : decode cL_law 1027 = .ok (.invokevirtual 143, 3) := by decide +kernel
theorem dL_law_1030 : decode cL_law 1030 = .ok (.if_icmp .eq 151, 3) := by decide +kernel
theorem dL_law_1033 : decode cL_law 1033 = .ok (.iconst 0, 1) := by decide +kernel
theorem dL_law_1034 : decode cL_law 1034 = .ok (.ireturn, 1) := by decide +kernel
theorem dL_law_1035 : decode cL_law 1035 = .ok (.aload_n 1, 1) := by decide +kernel
theorem dL_law_1036 : decode cL_law 1036 = .ok (.invokevirtual 144, 3) := by decide +kernel
theorem dL_law_1039 : decode cL_law 1039 = .ok (.f2d, 1) := by decide +kernel
theorem dL_law_1040 : decode cL_law 1040 = .ok (.dstore 4, 2) := by decide +kernel
theorem dL_law_1042 : decode cL_law 1042 = .ok (.aload_n 2, 1) := by decide +kernel
theorem dL_law_1043 : decode cL_law 1043 = .ok (.invokevirtual 148, 3) := by decide +kernel
theorem dL_law_1046 : decode cL_law 1046 = .ok (.f2d, 1) := by decide +kernel
theorem dL_law_1047 : decode cL_law 1047 = .ok (.dstore 6, 2) := by decide +kernel
theorem dL_law_1049 : decode cL_law 1049 = .ok (.dload 4, 2) := by decide +kernel
theorem dL_law_1051 : decode cL_law 1051 = .ok (.dload 6, 2) := by decide +kernel
theorem dL_law_1053 : decode cL_law 1053 = .ok (.dcmp .l, 1) := by decide +kernel
theorem dL_law_1054 : decode cL_law 1054 = .ok (.ifCond .eq 21, 3) := by decide +kernel
theorem dL_law_1057 : decode cL_law 1057 = .ok (.dload 4, 2) := by decide +kernel
theorem dL_law_1059 : decode cL_law 1059 = .ok (.dload 4, 2) := by decide +kernel
theorem dL_law_1061 : decode cL_law 1061 = .ok (.dcmp .l, 1) := by decide +kernel
theorem dL_law_1062 : decode cL_law 1062 = .ok (.ifCond .eq 11, 3) := by decide +kernel
theorem dL_law_1065 : decode cL_law 1065 = .ok (.dload 6, 2) := by decide +kernel
theorem dL_law_1067 : decode cL_law 1067 = .ok (.dload 6, 2) := by decide +kernel
theorem dL_law_1069 : decode cL_law 1069 = .ok (.dcmp .l, 1) := by decide +kernel
theorem dL_law_1070 : decode cL_law 1070 = .ok (.ifCond .ne 5, 3) := by decide +kernel
theorem dL_law_1073 : decode cL_law 1073 = .ok (.iconst 0, 1) := by decide +kernel
theorem dL_law_1074 : decode cL_law 1074 = .ok (.ireturn, 1) := by decide +kernel
theorem dL_law_1075 : decode cL_law 1075 = .ok (.goto 106, 3) := by decide +kernel
theorem dL_law_1078 : decode cL_law 1078 = .ok (.aload_n 1, 1) := by decide +kernel
theorem dL_law_1079 : decode cL_law 1079 = .ok (.invokevirtual 149, 3) := by decide +kernel
theorem dL_law_1082 : decode cL_law 1082 = .ok (.dstore 4, 2) := by decide +kernel
theorem dL_law_1084 : decode cL_law 1084 = .ok (.aload_n 2, 1) := by decide +kernel
theorem dL_law_1085 : decode cL_law 1085 = .ok (.invokevirtual 153, 3) := by decide +kernel
theorem dL_law_1088 : decode cL_law 1088 = .ok (.dstore 6, 2) := by decide +kernel
theorem dL_law_1090 : decode cL_law 1090 = .ok (.dload 4, 2) := by decide +kernel
theorem dL_law_1092 : decode cL_law 1092 = .ok (.dload 6, 2) := by decide +kernel
theorem dL_law_1094 : decode cL_law 1094 = .ok (.dcmp .l, 1) := by decide +kernel
theorem dL_law_1095 : decode cL_law 1095 = .ok (.ifCond .eq 21, 3) := by decide +kernel
theorem dL_law_1098 : decode cL_law 1098 = .ok (.dload 4, 2) := by decide +kernel
theorem dL_law_1100 : decode cL_law 1100 = .ok (.dload 4, 2) := by decide +kernel
theorem dL_law_1102 : decode cL_law 1102 = .ok (.dcmp .l, 1) := by decide +kernel
theorem dL_law_1103 : decode cL_law 1103 = .ok (.ifCond .eq 11, 3) := by decide +kernel
theorem dL_law_1106 : decode cL_law 1106 = .ok (.dload 6, 2) := by decide +kernel
theorem dL_law_1108 : decode cL_law 1108 = .ok (.dload 6, 2) := by decide +kernel
theorem dL_law_1110 : decode cL_law 1110 = .ok (.dcmp .l, 1) := by decide +kernel
theorem dL_law_1111 : decode cL_law 1111 = .ok (.ifCond .ne 5, 3) := by decide +kernel
theorem dL_law_1114 : decode cL_law 1114 = .ok (.iconst 0, 1) := by decide +kernel
theorem dL_law_1115 : decode cL_law 1115 = .ok (.ireturn, 1) := by decide +kernel
theorem dL_law_1116 : decode cL_law 1116 = .ok (.goto 65, 3) := by decide +kernel
theorem dL_law_1119 : decode cL_law 1119 = .ok (.aload_n 1, 1) := by decide +kernel
theorem dL_law_1120 : decode cL_law 1120 = .ok (.aload_n 0, 1) := by decide +kernel
theorem dL_law_1121 : decode cL_law 1121 = .ok (.iload_n 3, 1) := by decide +kernel
theorem dL_law_1122 : decode cL_law 1122 = .ok (.iconst 1, 1) := by decide +kernel
theorem dL_law_1123 : decode cL_law 1123 = .ok (.iadd, 1) := by decide +kernel
theorem dL_law_1124 : decode cL_law 1124 = .ok (.iaload, 1) := by decide +kernel
theorem dL_law_1125 : decode cL_law 1125 = .ok (.invokevirtual 154, 3) := by decide +kernel
theorem dL_law_1128 : decode cL_law 1128 = .ok (.aload_n 2, 1) := by decide +kernel
theorem dL_law_1129 : decode cL_law 1129 = .ok (.aload_n 0, 1) := by decide +kernel
theorem dL_law_1130 : decode cL_law 1130 = .ok (.iload_n 3, 1) := by decide +kernel
theorem dL_law_1131 : decode cL_law 1131 = .ok (.iconst 1, 1) := by decide +kernel
theorem dL_law_1132 : decode cL_law 1132 = .ok (.iadd, 1) := by decide +kernel
theorem dL_law_1133 : decode cL_law 1133 = .ok (.iaload, 1) := by decide +kernel
theorem dL_law_1134 : decode cL_law 1134 = .ok (.invokevirtual 157, 3) := by decide +kernel
theorem dL_law_1137 : decode cL_law 1137 = .ok (.if_icmp .eq 44, 3) := by decide +kernel
theorem dL_law_1140 : decode cL_law 1140 = .ok (.iconst 0, 1) := by decide +kernel
theorem dL_law_1141 : decode cL_law 1141 = .ok (.ireturn, 1) := by decide +kernel
theorem dL_law_1142 : decode cL_law 1142 = .ok (.aload_n 1, 1) := by decide +kernel
theorem dL_law_1143 : decode cL_law 1143 = .ok (.invokevirtual 158, 3) := by decide +kernel
theorem dL_law_1146 : decode cL_law 1146 = .ok (.aload_n 2, 1) := by decide +kernel
theorem dL_law_1147 : decode cL_law 1147 = .ok (.invokevirtual 161, 3) := by decide +kernel
theorem dL_law_1150 : decode cL_law 1150 = .ok (.if_icmp .eq 31, 3) := by decide +kernel
theorem dL_law_1153 : decode cL_law 1153 = .ok (.iconst 0, 1) := by decide +kernel
theorem dL_law_1154 : decode cL_law 1154 = .ok (.ireturn, 1) := by decide +kernel
theorem dL_law_1155 : decode cL_law 1155 = .ok (.aload_n 1, 1) := by decide +kernel
theorem dL_law_1156 : decode cL_law 1156 = .ok (.invokevirtual 162, 3) := by decide +kernel
theorem dL_law_1159 : decode cL_law 1159 = .ok (.aload_n 2, 1) := by decide +kernel
theorem dL_law_1160 : decode cL_law 1160 = .ok (.invokevirtual 165, 3) := by decide +kernel
theorem dL_law_1163 : decode cL_law 1163 = .ok (.if_icmp .eq 18, 3) := by decide +kernel
theorem dL_law_1166 : decode cL_law 1166 = .ok (.iconst 0, 1) := by decide +kernel
theorem dL_law_1167 : decode cL_law 1167 = .ok (.ireturn, 1) := by decide +kernel
theorem dL_law_1168 : decode cL_law 1168 = .ok (.aload_n 1, 1) := by decide +kernel
theorem dL_law_1169 : decode cL_law 1169 = .ok (.invokevirtual 166, 3) := by decide +kernel
theorem dL_law_1172 : decode cL_law 1172 = .ok (.aload_n 2, 1) := by decide +kernel
theorem dL_law_1173 : decode cL_law 1173 = .ok (.invokevirtual 169, 3) := by decide +kernel
theorem dL_law_1176 : decode cL_law 1176 = .ok (.if_icmp .eq 5, 3) := by decide +kernel
theorem dL_law_1179 : decode cL_law 1179 = .ok (.iconst 0, 1) := by decide +kernel
theorem dL_law_1180 : decode cL_law 1180 = .ok (.ireturn, 1) := by decide +kernel
theorem dL_law_1181 : decode cL_law 1181 = .ok (.iinc 3 4, 3) := by decide +kernel
theorem dL_law_1184 : decode cL_law 1184 = .ok (.goto (-1166), 3) := by decide +kernel
theorem dL_law_1187 : decode cL_law 1187 = .ok (.iconst 1, 1) := by decide +kernel
theorem dL_law_1188 : decode cL_law 1188 = .ok (.ireturn, 1) := by decide +kernel
theorem dX0_init_0 : decode cX0_init 0 = .ok (.aload_n 0, 1) := by decide +kernel
theorem dX0_init_1 : decode cX0_init 1 = .ok (.invokespecial 3, 3) := by decide +kernel
theorem dX0_init_4 : decode cX0_init 4 = .ok (.aload_n 0, 1) := by decide +kernel
theorem dX0_init_5 : decode cX0_init 5 = .ok (.bipush 8, 2) := by decide +kernel
theorem dX0_init_7 : decode cX0_init 7 = .ok (.newarray .int, 2) := by decide +kernel
theorem dX0_init_9 : decode cX0_init 9 = .ok (.putfield 9, 3) := by decide +kernel
theorem dX0_init_12 : decode cX0_init 12 = .ok (.aload_n 0, 1) := by decide +kernel
theorem dX0_init_13 : decode cX0_init 13 = .ok (.bipush 8, 2) := by decide +kernel
theorem dX0_init_15 : decode cX0_init 15 = .ok (.newarray .int, 2) := by decide +kernel
theorem dX0_init_17 : decode cX0_init 17 = .ok (.putfield 15, 3) := by decide +kernel
theorem dX0_init_20 : decode cX0_init 20 = .ok (.aload_n 0, 1) := by decide +kernel
theorem dX0_init_21 : decode cX0_init 21 = .ok (.iconst 0, 1) := by decide +kernel
theorem dX0_init_22 : decode cX0_init 22 = .ok (.putfield 18, 3) := by decide +kernel
theorem dX0_init_25 : decode cX0_init 25 = .ok (.return_, 1) := by decide +kernel
theorem dX0_has_0 : decode cX0_has 0 = .ok (.iload_n 1, 1) := by decide +kernel
theorem dX0_has_1 : decode cX0_has 1 = .ok (.ifCond .lt 15, 3) := by decide +kernel
theorem dX0_has_4 : decode cX0_has 4 = .ok (.iload_n 1, 1) := by decide +kernel
theorem dX0_has_5 : decode cX0_has 5 = .ok (.aload_n 0, 1) := by decide +kernel
theorem dX0_has_6 : decode cX0_has 6 = .ok (.getfield 18, 3) := by decide +kernel
theorem dX0_has_9 : decode cX0_has 9 = .ok (.if_icmp .ge 7, 3) := by decide +kernel
theorem dX0_has_12 : decode cX0_has 12 = .ok (.iconst 1, 1) := by decide +kernel
theorem dX0_has_13 : decode cX0_has 13 = .ok (.goto 4, 3) := by decide +kernel
theorem dX0_has_16 : decode cX0_has 16 = .ok (.iconst 0, 1) := by decide +kernel
theorem dX0_has_17 : decode cX0_has 17 = .ok (.ireturn, 1) := by decide +kernel
theorem dX0_polesOf_0 : decode cX0_polesOf 0 = .ok (.aload_n 0, 1) := by decide +kernel
theorem dX0_polesOf_1 : decode cX0_polesOf 1 = .ok (.getfield 9, 3) := by decide +kernel
theorem dX0_polesOf_4 : decode cX0_polesOf 4 = .ok (.iload_n 1, 1) := by decide +kernel
theorem dX0_polesOf_5 : decode cX0_polesOf 5 = .ok (.invokestatic 22, 3) := by decide +kernel
theorem dX0_polesOf_8 : decode cX0_polesOf 8 = .ok (.ireturn, 1) := by decide +kernel
theorem dX0_weeksOf_0 : decode cX0_weeksOf 0 = .ok (.aload_n 0, 1) := by decide +kernel
theorem dX0_weeksOf_1 : decode cX0_weeksOf 1 = .ok (.getfield 15, 3) := by decide +kernel
theorem dX0_weeksOf_4 : decode cX0_weeksOf 4 = .ok (.iload_n 1, 1) := by decide +kernel
theorem dX0_weeksOf_5 : decode cX0_weeksOf 5 = .ok (.invokestatic 22, 3) := by decide +kernel
theorem dX0_weeksOf_8 : decode cX0_weeksOf 8 = .ok (.ireturn, 1) := by decide +kernel
theorem dX0_allPoles_0 : decode cX0_allPoles 0 = .ok (.aload_n 0, 1) := by decide +kernel
theorem dX0_allPoles_1 : decode cX0_allPoles 1 = .ok (.getfield 9, 3) := by decide +kernel
theorem dX0_allPoles_4 : decode cX0_allPoles 4 = .ok (.aload_n 0, 1) := by decide +kernel
theorem dX0_allPoles_5 : decode cX0_allPoles 5 = .ok (.getfield 18, 3) := by decide +kernel
theorem dX0_allPoles_8 : decode cX0_allPoles 8 = .ok (.invokestatic 26, 3) := by decide +kernel
theorem dX0_allPoles_11 : decode cX0_allPoles 11 = .ok (.ireturn, 1) := by decide +kernel
theorem dX0_add_0 : decode cX0_add 0 = .ok (.aload_n 0, 1) := by decide +kernel
theorem dX0_add_1 : decode cX0_add 1 = .ok (.getfield 9, 3) := by decide +kernel
theorem dX0_add_4 : decode cX0_add 4 = .ok (.aload_n 0, 1) := by decide +kernel
theorem dX0_add_5 : decode cX0_add 5 = .ok (.getfield 18, 3) := by decide +kernel
theorem dX0_add_8 : decode cX0_add 8 = .ok (.iload_n 1, 1) := by decide +kernel
theorem dX0_add_9 : decode cX0_add 9 = .ok (.invokestatic 29, 3) := by decide +kernel
theorem dX0_add_12 : decode cX0_add 12 = .ok (.aload_n 0, 1) := by decide +kernel
theorem dX0_add_13 : decode cX0_add 13 = .ok (.getfield 15, 3) := by decide +kernel
theorem dX0_add_16 : decode cX0_add 16 = .ok (.aload_n 0, 1) := by decide +kernel
theorem dX0_add_17 : decode cX0_add 17 = .ok (.getfield 18, 3) := by decide +kernel
theorem dX0_add_20 : decode cX0_add 20 = .ok (.iload_n 2, 1) := by decide +kernel
theorem dX0_add_21 : decode cX0_add 21 = .ok (.invokestatic 29, 3) := by decide +kernel
theorem dX0_add_24 : decode cX0_add 24 = .ok (.aload_n 0, 1) := by decide +kernel
theorem dX0_add_25 : decode cX0_add 25 = .ok (.dup, 1) := by decide +kernel
theorem dX0_add_26 : decode cX0_add 26 = .ok (.getfield 18, 3) := by decide +kernel
theorem dX0_add_29 : decode cX0_add 29 = .ok (.iconst 1, 1) := by decide +kernel
theorem dX0_add_30 : decode cX0_add 30 = .ok (.iadd, 1) := by decide +kernel
theorem dX0_add_31 : decode cX0_add 31 = .ok (.putfield 18, 3) := by decide +kernel
theorem dX0_add_34 : decode cX0_add 34 = .ok (.aload_n 0, 1) := by decide +kernel
theorem dX0_add_35 : decode cX0_add 35 = .ok (.getfield 18, 3) := by decide +kernel
theorem dX0_add_38 : decode cX0_add 38 = .ok (.iconst 1, 1) := by decide +kernel
theorem dX0_add_39 : decode cX0_add 39 = .ok (.isub, 1) := by decide +kernel
theorem dX0_add_40 : decode cX0_add 40 = .ok (.ireturn, 1) := by decide +kernel
theorem dX0_takeOut_0 : decode cX0_takeOut 0 = .ok (.aload_n 0, 1) := by decide +kernel
theorem dX0_takeOut_1 : decode cX0_takeOut 1 = .ok (.getfield 9, 3) := by decide +kernel
theorem dX0_takeOut_4 : decode cX0_takeOut 4 = .ok (.iload_n 1, 1) := by decide +kernel
theorem dX0_takeOut_5 : decode cX0_takeOut 5 = .ok (.aload_n 0, 1) := by decide +kernel
theorem dX0_takeOut_6 : decode cX0_takeOut 6 = .ok (.iload_n 1, 1) := by decide +kernel
theorem dX0_takeOut_7 : decode cX0_takeOut 7 = .ok (.invokevirtual 33, 3) := by decide +kernel
theorem dX0_takeOut_10 : decode cX0_takeOut 10 = .ok (.iload_n 2, 1) := by decide +kernel
theorem dX0_takeOut_11 : decode cX0_takeOut 11 = .ok (.isub, 1) := by decide +kernel
theorem dX0_takeOut_12 : decode cX0_takeOut 12 = .ok (.invokestatic 29, 3) := by decide +kernel
theorem dX0_takeOut_15 : decode cX0_takeOut 15 = .ok (.return_, 1) := by decide +kernel
theorem dX0_getOlder_0 : decode cX0_getOlder 0 = .ok (.aload_n 0, 1) := by decide +kernel
theorem dX0_getOlder_1 : decode cX0_getOlder 1 = .ok (.getfield 15, 3) := by decide +kernel
theorem dX0_getOlder_4 : decode cX0_getOlder 4 = .ok (.aload_n 0, 1) := by decide +kernel
theorem dX0_getOlder_5 : decode cX0_getOlder 5 = .ok (.getfield 18, 3) := by decide +kernel
theorem dX0_getOlder_8 : decode cX0_getOlder 8 = .ok (.iconst 1, 1) := by decide +kernel
theorem dX0_getOlder_9 : decode cX0_getOlder 9 = .ok (.bipush 60, 2) := by decide +kernel
theorem dX0_getOlder_11 : decode cX0_getOlder 11 = .ok (.invokestatic 37, 3) := by decide +kernel
theorem dX0_getOlder_14 : decode cX0_getOlder 14 = .ok (.return_, 1) := by decide +kernel
theorem dX0_makeNone_0 : decode cX0_makeNone 0 = .ok (.aload_n 0, 1) := by decide +kernel
theorem dX0_makeNone_1 : decode cX0_makeNone 1 = .ok (.iconst 0, 1) := by decide +kernel
theorem dX0_makeNone_2 : decode cX0_makeNone 2 = .ok (.putfield 18, 3) := by decide +kernel
theorem dX0_makeNone_5 : decode cX0_makeNone 5 = .ok (.return_, 1) := by decide +kernel
theorem dX0_take_0 : decode cX0_take 0 = .ok (.aload_n 1, 1) := by decide +kernel
theorem dX0_take_1 : decode cX0_take 1 = .ok (.getfield 9, 3) := by decide +kernel
theorem dX0_take_4 : decode cX0_take 4 = .ok (.aload_n 0, 1) := by decide +kernel
theorem dX0_take_5 : decode cX0_take 5 = .ok (.getfield 9, 3) := by decide +kernel
theorem dX0_take_8 : decode cX0_take 8 = .ok (.invokestatic 41, 3) := by decide +kernel
theorem dX0_take_11 : decode cX0_take 11 = .ok (.aload_n 1, 1) := by decide +kernel
theorem dX0_take_12 : decode cX0_take 12 = .ok (.getfield 15, 3) := by decide +kernel
theorem dX0_take_15 : decode cX0_take 15 = .ok (.aload_n 0, 1) := by decide +kernel
theorem dX0_take_16 : decode cX0_take 16 = .ok (.getfield 15, 3) := by decide +kernel
theorem dX0_take_19 : decode cX0_take 19 = .ok (.invokestatic 41, 3) := by decide +kernel
theorem dX0_take_22 : decode cX0_take 22 = .ok (.aload_n 0, 1) := by decide +kernel
theorem dX0_take_23 : decode cX0_take 23 = .ok (.aload_n 1, 1) := by decide +kernel
theorem dX0_take_24 : decode cX0_take 24 = .ok (.getfield 18, 3) := by decide +kernel
theorem dX0_take_27 : decode cX0_take 27 = .ok (.putfield 18, 3) := by decide +kernel
theorem dX0_take_30 : decode cX0_take 30 = .ok (.return_, 1) := by decide +kernel
theorem dX1_init_0 : decode cX1_init 0 = .ok (.aload_n 0, 1) := by decide +kernel
theorem dX1_init_1 : decode cX1_init 1 = .ok (.invokespecial 3, 3) := by decide +kernel
theorem dX1_init_4 : decode cX1_init 4 = .ok (.aload_n 0, 1) := by decide +kernel
theorem dX1_init_5 : decode cX1_init 5 = .ok (.iconst 5, 1) := by decide +kernel
theorem dX1_init_6 : decode cX1_init 6 = .ok (.newarray .int, 2) := by decide +kernel
theorem dX1_init_8 : decode cX1_init 8 = .ok (.putfield 9, 3) := by decide +kernel
theorem dX1_init_11 : decode cX1_init 11 = .ok (.aload_n 0, 1) := by decide +kernel
theorem dX1_init_12 : decode cX1_init 12 = .ok (.iconst 5, 1) := by decide +kernel
theorem dX1_init_13 : decode cX1_init 13 = .ok (.newarray .int, 2) := by decide +kernel
theorem dX1_init_15 : decode cX1_init 15 = .ok (.putfield 15, 3) := by decide +kernel
theorem dX1_init_18 : decode cX1_init 18 = .ok (.aload_n 0, 1) := by decide +kernel
theorem dX1_init_19 : decode cX1_init 19 = .ok (.iconst 5, 1) := by decide +kernel
theorem dX1_init_20 : decode cX1_init 20 = .ok (.newarray .int, 2) := by decide +kernel
theorem dX1_init_22 : decode cX1_init 22 = .ok (.putfield 18, 3) := by decide +kernel
theorem dX1_init_25 : decode cX1_init 25 = .ok (.aload_n 0, 1) := by decide +kernel
theorem dX1_init_26 : decode cX1_init 26 = .ok (.iconst 0, 1) := by decide +kernel
theorem dX1_init_27 : decode cX1_init 27 = .ok (.putfield 21, 3) := by decide +kernel
theorem dX1_init_30 : decode cX1_init 30 = .ok (.return_, 1) := by decide +kernel
theorem dX1_has_0 : decode cX1_has 0 = .ok (.iload_n 1, 1) := by decide +kernel
theorem dX1_has_1 : decode cX1_has 1 = .ok (.ifCond .lt 15, 3) := by decide +kernel
theorem dX1_has_4 : decode cX1_has 4 = .ok (.iload_n 1, 1) := by decide +kernel
theorem dX1_has_5 : decode cX1_has 5 = .ok (.aload_n 0, 1) := by decide +kernel
theorem dX1_has_6 : decode cX1_has 6 = .ok (.getfield 21, 3) := by decide +kernel
theorem dX1_has_9 : decode cX1_has 9 = .ok (.if_icmp .ge 7, 3) := by decide +kernel
theorem dX1_has_12 : decode cX1_has 12 = .ok (.iconst 1, 1) := by decide +kernel
theorem dX1_has_13 : decode cX1_has 13 = .ok (.goto 4, 3) := by decide +kernel
theorem dX1_has_16 : decode cX1_has 16 = .ok (.iconst 0, 1) := by decide +kernel
theorem dX1_has_17 : decode cX1_has 17 = .ok (.ireturn, 1) := by decide +kernel
theorem dX1_skillOf_0 : decode cX1_skillOf 0 = .ok (.aload_n 0, 1) := by decide +kernel
theorem dX1_skillOf_1 : decode cX1_skillOf 1 = .ok (.getfield 9, 3) := by decide +kernel
theorem dX1_skillOf_4 : decode cX1_skillOf 4 = .ok (.iload_n 1, 1) := by decide +kernel
theorem dX1_skillOf_5 : decode cX1_skillOf 5 = .ok (.invokestatic 25, 3) := by decide +kernel
theorem dX1_skillOf_8 : decode cX1_skillOf 8 = .ok (.ireturn, 1) := by decide +kernel
theorem dX1_placeOf_0 : decode cX1_placeOf 0 = .ok (.aload_n 0, 1) := by decide +kernel
theorem dX1_placeOf_1 : decode cX1_placeOf 1 = .ok (.getfield 15, 3) := by decide +kernel
theorem dX1_placeOf_4 : decode cX1_placeOf 4 = .ok (.iload_n 1, 1) := by decide +kernel
theorem dX1_placeOf_5 : decode cX1_placeOf 5 = .ok (.invokestatic 25, 3) := by decide +kernel
theorem dX1_placeOf_8 : decode cX1_placeOf 8 = .ok (.ireturn, 1) := by decide +kernel
theorem dX1_hoursOf_0 : decode cX1_hoursOf 0 = .ok (.aload_n 0, 1) := by decide +kernel
theorem dX1_hoursOf_1 : decode cX1_hoursOf 1 = .ok (.getfield 18, 3) := by decide +kernel
theorem dX1_hoursOf_4 : decode cX1_hoursOf 4 = .ok (.iload_n 1, 1) := by decide +kernel
theorem dX1_hoursOf_5 : decode cX1_hoursOf 5 = .ok (.invokestatic 25, 3) := by decide +kernel
theorem dX1_hoursOf_8 : decode cX1_hoursOf 8 = .ok (.ireturn, 1) := by decide +kernel
theorem dX1_isUp_0 : decode cX1_isUp 0 = .ok (.aload_n 0, 1) := by decide +kernel
theorem dX1_isUp_1 : decode cX1_isUp 1 = .ok (.getfield 15, 3) := by decide +kernel
theorem dX1_isUp_4 : decode cX1_isUp 4 = .ok (.iload_n 1, 1) := by decide +kernel
theorem dX1_isUp_5 : decode cX1_isUp 5 = .ok (.invokestatic 25, 3) := by decide +kernel
theorem dX1_isUp_8 : decode cX1_isUp 8 = .ok (.bipush (-4), 2) := by decide +kernel
theorem dX1_isUp_10 : decode cX1_isUp 10 = .ok (.if_icmp .eq 7, 3) := by decide +kernel
theorem dX1_isUp_13 : decode cX1_isUp 13 = .ok (.iconst 1, 1) := by decide +kernel
theorem dX1_isUp_14 : decode cX1_isUp 14 = .ok (.goto 4, 3) := by decide +kernel
theorem dX1_isUp_17 : decode cX1_isUp 17 = .ok (.iconst 0, 1) := by decide +kernel
theorem dX1_isUp_18 : decode cX1_isUp 18 = .ok (.ireturn, 1) := by decide +kernel
theorem dX1_bitsOn_0 : decode cX1_bitsOn 0 = .ok (.iconst 0, 1) := by decide +kernel
theorem dX1_bitsOn_1 : decode cX1_bitsOn 1 = .ok (.istore_n 2, 1) := by decide +kernel
theorem dX1_bitsOn_2 : decode cX1_bitsOn 2 = .ok (.iconst 0, 1) := by decide +kernel
theorem dX1_bitsOn_3 : decode cX1_bitsOn 3 = .ok (.istore_n 3, 1) := by decide +kernel
theorem dX1_bitsOn_4 : decode cX1_bitsOn 4 = .ok (.iload_n 3, 1) := by decide +kernel
theorem dX1_bitsOn_5 : decode cX1_bitsOn 5 = .ok (.aload_n 0, 1) := by decide +kernel
theorem dX1_bitsOn_6 : decode cX1_bitsOn 6 = .ok (.getfield 21, 3) := by decide +kernel
theorem dX1_bitsOn_9 : decode cX1_bitsOn 9 = .ok (.if_icmp .ge 28, 3) := by decide +kernel
theorem dX1_bitsOn_12 : decode cX1_bitsOn 12 = .ok (.iload_n 2, 1) := by decide +kernel
theorem dX1_bitsOn_13 : decode cX1_bitsOn 13 = .ok (.aload_n 0, 1) := by decide +kernel
theorem dX1_bitsOn_14 : decode cX1_bitsOn 14 = .ok (.iload_n 3, 1) := by decide +kernel
theorem dX1_bitsOn_15 : decode cX1_bitsOn 15 = .ok (.invokevirtual 29, 3) := by decide +kernel
theorem dX1_bitsOn_18 : decode cX1_bitsOn 18 = .ok (.iload_n 1, 1) := by decide +kernel
theorem dX1_bitsOn_19 : decode cX1_bitsOn 19 = .ok (.if_icmp .ne 9, 3) := by decide +kernel
theorem dX1_bitsOn_22 : decode cX1_bitsOn 22 = .ok (.iconst 1, 1) := by decide +kernel
theorem dX1_bitsOn_23 : decode cX1_bitsOn 23 = .ok (.iload_n 3, 1) := by decide +kernel
theorem dX1_bitsOn_24 : decode cX1_bitsOn 24 = .ok (.ishl, 1) := by decide +kernel
theorem dX1_bitsOn_25 : decode cX1_bitsOn 25 = .ok (.goto 4, 3) := by decide +kernel
theorem dX1_bitsOn_28 : decode cX1_bitsOn 28 = .ok (.iconst 0, 1) := by decide +kernel
theorem dX1_bitsOn_29 : decode cX1_bitsOn 29 = .ok (.ior, 1) := by decide +kernel
theorem dX1_bitsOn_30 : decode cX1_bitsOn 30 = .ok (.istore_n 2, 1) := by decide +kernel
theorem dX1_bitsOn_31 : decode cX1_bitsOn 31 = .ok (.iinc 3 1, 3) := by decide +kernel
theorem dX1_bitsOn_34 : decode cX1_bitsOn 34 = .ok (.goto (-30), 3) := by decide +kernel
theorem dX1_bitsOn_37 : decode cX1_bitsOn 37 = .ok (.iload_n 2, 1) := by decide +kernel
theorem dX1_bitsOn_38 : decode cX1_bitsOn 38 = .ok (.ireturn, 1) := by decide +kernel
theorem dX1_howManyOn_0 : decode cX1_howManyOn 0 = .ok (.aload_n 0, 1) := by decide +kernel
theorem dX1_howManyOn_1 : decode cX1_howManyOn 1 = .ok (.iload_n 1, 1) := by decide +kernel
theorem dX1_howManyOn_2 : decode cX1_howManyOn 2 = .ok (.invokevirtual 33, 3) := by decide +kernel
theorem dX1_howManyOn_5 : decode cX1_howManyOn 5 = .ok (.invokestatic 36, 3) := by decide +kernel
theorem dX1_howManyOn_8 : decode cX1_howManyOn 8 = .ok (.ireturn, 1) := by decide +kernel
theorem dX1_howManyUp_0 : decode cX1_howManyUp 0 = .ok (.iconst 0, 1) := by decide +kernel
theorem dX1_howManyUp_1 : decode cX1_howManyUp 1 = .ok (.istore_n 1, 1) := by decide +kernel
theorem dX1_howManyUp_2 : decode cX1_howManyUp 2 = .ok (.iconst 0, 1) := by decide +kernel
theorem dX1_howManyUp_3 : decode cX1_howManyUp 3 = .ok (.istore_n 2, 1) := by decide +kernel
theorem dX1_howManyUp_4 : decode cX1_howManyUp 4 = .ok (.iload_n 2, 1) := by decide +kernel
theorem dX1_howManyUp_5 : decode cX1_howManyUp 5 = .ok (.aload_n 0, 1) := by decide +kernel
theorem dX1_howManyUp_6 : decode cX1_howManyUp 6 = .ok (.getfield 21, 3) := by decide +kernel
theorem dX1_howManyUp_9 : decode cX1_howManyUp 9 = .ok (.if_icmp .ge 25, 3) := by decide +kernel
theorem dX1_howManyUp_12 : decode cX1_howManyUp 12 = .ok (.iload_n 1, 1) := by decide +kernel
theorem dX1_howManyUp_13 : decode cX1_howManyUp 13 = .ok (.aload_n 0, 1) := by decide +kernel
theorem dX1_howManyUp_14 : decode cX1_howManyUp 14 = .ok (.iload_n 2, 1) := by decide +kernel
theorem dX1_howManyUp_15 : decode cX1_howManyUp 15 = .ok (.invokevirtual 41, 3) := by decide +kernel
theorem dX1_howManyUp_18 : decode cX1_howManyUp 18 = .ok (.ifCond .eq 7, 3) := by decide +kernel
theorem dX1_howManyUp_21 : decode cX1_howManyUp 21 = .ok (.iconst 1, 1) := by decide +kernel
theorem dX1_howManyUp_22 : decode cX1_howManyUp 22 = .ok (.goto 4, 3) := by decide +kernel
theorem dX1_howManyUp_25 : decode cX1_howManyUp 25 = .ok (.iconst 0, 1) := by decide +kernel
theorem dX1_howManyUp_26 : decode cX1_howManyUp 26 = .ok (.iadd, 1) := by decide +kernel
theorem dX1_howManyUp_27 : decode cX1_howManyUp 27 = .ok (.istore_n 1, 1) := by decide +kernel
theorem dX1_howManyUp_28 : decode cX1_howManyUp 28 = .ok (.iinc 2 1, 3) := by decide +kernel
theorem dX1_howManyUp_31 : decode cX1_howManyUp 31 = .ok (.goto (-27), 3) := by decide +kernel
theorem dX1_howManyUp_34 : decode cX1_howManyUp 34 = .ok (.iload_n 1, 1) := by decide +kernel
theorem dX1_howManyUp_35 : decode cX1_howManyUp 35 = .ok (.ireturn, 1) := by decide +kernel
theorem dX1_add_0 : decode cX1_add 0 = .ok (.aload_n 0, 1) := by decide +kernel
theorem dX1_add_1 : decode cX1_add 1 = .ok (.getfield 9, 3) := by decide +kernel
theorem dX1_add_4 : decode cX1_add 4 = .ok (.aload_n 0, 1) := by decide +kernel
theorem dX1_add_5 : decode cX1_add 5 = .ok (.getfield 21, 3) := by decide +kernel
theorem dX1_add_8 : decode cX1_add 8 = .ok (.iload_n 1, 1) := by decide +kernel
theorem dX1_add_9 : decode cX1_add 9 = .ok (.invokestatic 45, 3) := by decide +kernel
theorem dX1_add_12 : decode cX1_add 12 = .ok (.aload_n 0, 1) := by decide +kernel
theorem dX1_add_13 : decode cX1_add 13 = .ok (.getfield 15, 3) := by decide +kernel
theorem dX1_add_16 : decode cX1_add 16 = .ok (.aload_n 0, 1) := by decide +kernel
theorem dX1_add_17 : decode cX1_add 17 = .ok (.getfield 21, 3) := by decide +kernel
theorem dX1_add_20 : decode cX1_add 20 = .ok (.bipush (-4), 2) := by decide +kernel
theorem dX1_add_22 : decode cX1_add 22 = .ok (.invokestatic 45, 3) := by decide +kernel
theorem dX1_add_25 : decode cX1_add 25 = .ok (.aload_n 0, 1) := by decide +kernel
theorem dX1_add_26 : decode cX1_add 26 = .ok (.getfield 18, 3) := by decide +kernel
theorem dX1_add_29 : decode cX1_add 29 = .ok (.aload_n 0, 1) := by decide +kernel
theorem dX1_add_30 : decode cX1_add 30 = .ok (.getfield 21, 3) := by decide +kernel
theorem dX1_add_33 : decode cX1_add 33 = .ok (.iconst 0, 1) := by decide +kernel
theorem dX1_add_34 : decode cX1_add 34 = .ok (.invokestatic 45, 3) := by decide +kernel
theorem dX1_add_37 : decode cX1_add 37 = .ok (.aload_n 0, 1) := by decide +kernel
theorem dX1_add_38 : decode cX1_add 38 = .ok (.dup, 1) := by decide +kernel
theorem dX1_add_39 : decode cX1_add 39 = .ok (.getfield 21, 3) := by decide +kernel
theorem dX1_add_42 : decode cX1_add 42 = .ok (.iconst 1, 1) := by decide +kernel
theorem dX1_add_43 : decode cX1_add 43 = .ok (.iadd, 1) := by decide +kernel
theorem dX1_add_44 : decode cX1_add 44 = .ok (.putfield 21, 3) := by decide +kernel
theorem dX1_add_47 : decode cX1_add 47 = .ok (.aload_n 0, 1) := by decide +kernel
theorem dX1_add_48 : decode cX1_add 48 = .ok (.getfield 21, 3) := by decide +kernel
theorem dX1_add_51 : decode cX1_add 51 = .ok (.iconst 1, 1) := by decide +kernel
theorem dX1_add_52 : decode cX1_add 52 = .ok (.isub, 1) := by decide +kernel
theorem dX1_add_53 : decode cX1_add 53 = .ok (.ireturn, 1) := by decide +kernel
theorem dX1_moveTo_0 : decode cX1_moveTo 0 = .ok (.aload_n 0, 1) := by decide +kernel
theorem dX1_moveTo_1 : decode cX1_moveTo 1 = .ok (.getfield 15, 3) := by decide +kernel
theorem dX1_moveTo_4 : decode cX1_moveTo 4 = .ok (.iload_n 1, 1) := by decide +kernel
theorem dX1_moveTo_5 : decode cX1_moveTo 5 = .ok (.iload_n 2, 1) := by decide +kernel
theorem dX1_moveTo_6 : decode cX1_moveTo 6 = .ok (.invokestatic 45, 3) := by decide +kernel
theorem dX1_moveTo_9 : decode cX1_moveTo 9 = .ok (.return_, 1) := by decide +kernel
theorem dX1_addHours_0 : decode cX1_addHours 0 = .ok (.aload_n 0, 1) := by decide +kernel
theorem dX1_addHours_1 : decode cX1_addHours 1 = .ok (.getfield 18, 3) := by decide +kernel
theorem dX1_addHours_4 : decode cX1_addHours 4 = .ok (.iload_n 1, 1) := by decide +kernel
theorem dX1_addHours_5 : decode cX1_addHours 5 = .ok (.aload_n 0, 1) := by decide +kernel
theorem dX1_addHours_6 : decode cX1_addHours 6 = .ok (.getfield 18, 3) := by decide +kernel
theorem dX1_addHours_9 : decode cX1_addHours 9 = .ok (.iload_n 1, 1) := by decide +kernel
theorem dX1_addHours_10 : decode cX1_addHours 10 = .ok (.invokestatic 25, 3) := by decide +kernel
theorem dX1_addHours_13 : decode cX1_addHours 13 = .ok (.iload_n 2, 1) := by decide +kernel
theorem dX1_addHours_14 : decode cX1_addHours 14 = .ok (.iadd, 1) := by decide +kernel
theorem dX1_addHours_15 : decode cX1_addHours 15 = .ok (.invokestatic 45, 3) := by decide +kernel
theorem dX1_addHours_18 : decode cX1_addHours 18 = .ok (.return_, 1) := by decide +kernel
theorem dX1_comeDownFrom_0 : decode cX1_comeDownFrom 0 = .ok (.iconst 0, 1) := by decide +kernel
theorem dX1_comeDownFrom_1 : decode cX1_comeDownFrom 1 = .ok (.istore_n 2, 1) := by decide +kernel
theorem dX1_comeDownFrom_2 : decode cX1_comeDownFrom 2 = .ok (.iload_n 2, 1) := by decide +kernel
theorem dX1_comeDownFrom_3 : decode cX1_comeDownFrom 3 = .ok (.aload_n 0, 1) := by decide +kernel
theorem dX1_comeDownFrom_4 : decode cX1_comeDownFrom 4 = .ok (.getfield 21, 3) := by decide +kernel
theorem dX1_comeDownFrom_7 : decode cX1_comeDownFrom 7 = .ok (.if_icmp .ge 25, 3) := by decide +kernel
theorem dX1_comeDownFrom_10 : decode cX1_comeDownFrom 10 = .ok (.aload_n 0, 1) := by decide +kernel
theorem dX1_comeDownFrom_11 : decode cX1_comeDownFrom 11 = .ok (.iload_n 2, 1) := by decide +kernel
theorem dX1_comeDownFrom_12 : decode cX1_comeDownFrom 12 = .ok (.invokevirtual 29, 3) := by decide +kernel
theorem dX1_comeDownFrom_15 : decode cX1_comeDownFrom 15 = .ok (.iload_n 1, 1) := by decide +kernel
theorem dX1_comeDownFrom_16 : decode cX1_comeDownFrom 16 = .ok (.if_icmp .ne 10, 3) := by decide +kernel
theorem dX1_comeDownFrom_19 : decode cX1_comeDownFrom 19 = .ok (.aload_n 0, 1) := by decide +kernel
theorem dX1_comeDownFrom_20 : decode cX1_comeDownFrom 20 = .ok (.iload_n 2, 1) := by decide +kernel
theorem dX1_comeDownFrom_21 : decode cX1_comeDownFrom 21 = .ok (.bipush (-4), 2) := by decide +kernel
theorem dX1_comeDownFrom_23 : decode cX1_comeDownFrom 23 = .ok (.invokevirtual 49, 3) := by decide +kernel
theorem dX1_comeDownFrom_26 : decode cX1_comeDownFrom 26 = .ok (.iinc 2 1, 3) := by decide +kernel
theorem dX1_comeDownFrom_29 : decode cX1_comeDownFrom 29 = .ok (.goto (-27), 3) := by decide +kernel
theorem dX1_comeDownFrom_32 : decode cX1_comeDownFrom 32 = .ok (.return_, 1) := by decide +kernel
theorem dX1_allComeDown_0 : decode cX1_allComeDown 0 = .ok (.iconst 0, 1) := by decide +kernel
theorem dX1_allComeDown_1 : decode cX1_allComeDown 1 = .ok (.istore_n 1, 1) := by decide +kernel
theorem dX1_allComeDown_2 : decode cX1_allComeDown 2 = .ok (.iload_n 1, 1) := by decide +kernel
theorem dX1_allComeDown_3 : decode cX1_allComeDown 3 = .ok (.aload_n 0, 1) := by decide +kernel
theorem dX1_allComeDown_4 : decode cX1_allComeDown 4 = .ok (.getfield 21, 3) := by decide +kernel
theorem dX1_allComeDown_7 : decode cX1_allComeDown 7 = .ok (.if_icmp .ge 16, 3) := by decide +kernel
theorem dX1_allComeDown_10 : decode cX1_allComeDown 10 = .ok (.aload_n 0, 1) := by decide +kernel
theorem dX1_allComeDown_11 : decode cX1_allComeDown 11 = .ok (.iload_n 1, 1) := by decide +kernel
theorem dX1_allComeDown_12 : decode cX1_allComeDown 12 = .ok (.bipush (-4), 2) := by decide +kernel
theorem dX1_allComeDown_14 : decode cX1_allComeDown 14 = .ok (.invokevirtual 49, 3) := by decide +kernel
theorem dX1_allComeDown_17 : decode cX1_allComeDown 17 = .ok (.iinc 1 1, 3) := by decide +kernel
theorem dX1_allComeDown_20 : decode cX1_allComeDown 20 = .ok (.goto (-18), 3) := by decide +kernel
theorem dX1_allComeDown_23 : decode cX1_allComeDown 23 = .ok (.return_, 1) := by decide +kernel
theorem dX1_makeNone_0 : decode cX1_makeNone 0 = .ok (.aload_n 0, 1) := by decide +kernel
theorem dX1_makeNone_1 : decode cX1_makeNone 1 = .ok (.iconst 0, 1) := by decide +kernel
theorem dX1_makeNone_2 : decode cX1_makeNone 2 = .ok (.putfield 21, 3) := by decide +kernel
theorem dX1_makeNone_5 : decode cX1_makeNone 5 = .ok (.return_, 1) := by decide +kernel
theorem dX1_take_0 : decode cX1_take 0 = .ok (.aload_n 1, 1) := by decide +kernel
theorem dX1_take_1 : decode cX1_take 1 = .ok (.getfield 9, 3) := by decide +kernel
theorem dX1_take_4 : decode cX1_take 4 = .ok (.aload_n 0, 1) := by decide +kernel
theorem dX1_take_5 : decode cX1_take 5 = .ok (.getfield 9, 3) := by decide +kernel
theorem dX1_take_8 : decode cX1_take 8 = .ok (.invokestatic 53, 3) := by decide +kernel
theorem dX1_take_11 : decode cX1_take 11 = .ok (.aload_n 1, 1) := by decide +kernel
theorem dX1_take_12 : decode cX1_take 12 = .ok (.getfield 15, 3) := by decide +kernel
theorem dX1_take_15 : decode cX1_take 15 = .ok (.aload_n 0, 1) := by decide +kernel
theorem dX1_take_16 : decode cX1_take 16 = .ok (.getfield 15, 3) := by decide +kernel
theorem dX1_take_19 : decode cX1_take 19 = .ok (.invokestatic 53, 3) := by decide +kernel
theorem dX1_take_22 : decode cX1_take 22 = .ok (.aload_n 1, 1) := by decide +kernel
theorem dX1_take_23 : decode cX1_take 23 = .ok (.getfield 18, 3) := by decide +kernel
theorem dX1_take_26 : decode cX1_take 26 = .ok (.aload_n 0, 1) := by decide +kernel
theorem dX1_take_27 : decode cX1_take 27 = .ok (.getfield 18, 3) := by decide +kernel
theorem dX1_take_30 : decode cX1_take 30 = .ok (.invokestatic 53, 3) := by decide +kernel
theorem dX1_take_33 : decode cX1_take 33 = .ok (.aload_n 0, 1) := by decide +kernel
theorem dX1_take_34 : decode cX1_take 34 = .ok (.aload_n 1, 1) := by decide +kernel
theorem dX1_take_35 : decode cX1_take 35 = .ok (.getfield 21, 3) := by decide +kernel
theorem dX1_take_38 : decode cX1_take 38 = .ok (.putfield 21, 3) := by decide +kernel
theorem dX1_take_41 : decode cX1_take 41 = .ok (.return_, 1) := by decide +kernel
theorem dX2_init_0 : decode cX2_init 0 = .ok (.aload_n 0, 1) := by decide +kernel
theorem dX2_init_1 : decode cX2_init 1 = .ok (.invokespecial 3, 3) := by decide +kernel
theorem dX2_init_4 : decode cX2_init 4 = .ok (.aload_n 0, 1) := by decide +kernel
theorem dX2_init_5 : decode cX2_init 5 = .ok (.bipush 9, 2) := by decide +kernel
theorem dX2_init_7 : decode cX2_init 7 = .ok (.anewarray 11, 3) := by decide +kernel
theorem dX2_init_10 : decode cX2_init 10 = .ok (.putfield 13, 3) := by decide +kernel
theorem dX2_init_13 : decode cX2_init 13 = .ok (.aload_n 0, 1) := by decide +kernel
theorem dX2_init_14 : decode cX2_init 14 = .ok (.new 11, 3) := by decide +kernel
theorem dX2_init_17 : decode cX2_init 17 = .ok (.dup, 1) := by decide +kernel
theorem dX2_init_18 : decode cX2_init 18 = .ok (.invokespecial 17, 3) := by decide +kernel
theorem dX2_init_21 : decode cX2_init 21 = .ok (.putfield 18, 3) := by decide +kernel
theorem dX2_init_24 : decode cX2_init 24 = .ok (.aload_n 0, 1) := by decide +kernel
theorem dX2_init_25 : decode cX2_init 25 = .ok (.iconst 0, 1) := by decide +kernel
theorem dX2_init_26 : decode cX2_init 26 = .ok (.putfield 22, 3) := by decide +kernel
theorem dX2_init_29 : decode cX2_init 29 = .ok (.aload_n 0, 1) := by decide +kernel
theorem dX2_init_30 : decode cX2_init 30 = .ok (.iconst 0, 1) := by decide +kernel
theorem dX2_init_31 : decode cX2_init 31 = .ok (.putfield 26, 3) := by decide +kernel
theorem dX2_init_34 : decode cX2_init 34 = .ok (.iconst 0, 1) := by decide +kernel
theorem dX2_init_35 : decode cX2_init 35 = .ok (.istore_n 1, 1) := by decide +kernel
theorem dX2_init_36 : decode cX2_init 36 = .ok (.iload_n 1, 1) := by decide +kernel
theorem dX2_init_37 : decode cX2_init 37 = .ok (.aload_n 0, 1) := by decide +kernel
theorem dX2_init_38 : decode cX2_init 38 = .ok (.getfield 13, 3) := by decide +kernel
theorem dX2_init_41 : decode cX2_init 41 = .ok (.arraylength, 1) := by decide +kernel
theorem dX2_init_42 : decode cX2_init 42 = .ok (.if_icmp .ge 22, 3) := by decide +kernel
theorem dX2_init_45 : decode cX2_init 45 = .ok (.aload_n 0, 1) := by decide +kernel
theorem dX2_init_46 : decode cX2_init 46 = .ok (.getfield 13, 3) := by decide +kernel
theorem dX2_init_49 : decode cX2_init 49 = .ok (.iload_n 1, 1) := by decide +kernel
theorem dX2_init_50 : decode cX2_init 50 = .ok (.new 11, 3) := by decide +kernel
theorem dX2_init_53 : decode cX2_init 53 = .ok (.dup, 1) := by decide +kernel
theorem dX2_init_54 : decode cX2_init 54 = .ok (.invokespecial 17, 3) := by decide +kernel
theorem dX2_init_57 : decode cX2_init 57 = .ok (.aastore, 1) := by decide +kernel
theorem dX2_init_58 : decode cX2_init 58 = .ok (.iinc 1 1, 3) := by decide +kernel
theorem dX2_init_61 : decode cX2_init 61 = .ok (.goto (-25), 3) := by decide +kernel
theorem dX2_init_64 : decode cX2_init 64 = .ok (.return_, 1) := by decide +kernel
theorem dX2_note_0 : decode cX2_note 0 = .ok (.aload_n 0, 1) := by decide +kernel
theorem dX2_note_1 : decode cX2_note 1 = .ok (.invokevirtual 29, 3) := by decide +kernel
theorem dX2_note_4 : decode cX2_note 4 = .ok (.aload_n 1, 1) := by decide +kernel
theorem dX2_note_5 : decode cX2_note 5 = .ok (.invokevirtual 33, 3) := by decide +kernel
theorem dX2_note_8 : decode cX2_note 8 = .ok (.return_, 1) := by decide +kernel
theorem dX2_noted_0 : decode cX2_noted 0 = .ok (.aload_n 0, 1) := by decide +kernel
theorem dX2_noted_1 : decode cX2_noted 1 = .ok (.getfield 22, 3) := by decide +kernel
theorem dX2_noted_4 : decode cX2_noted 4 = .ok (.ifCond .lt 27, 3) := by decide +kernel
theorem dX2_noted_7 : decode cX2_noted 7 = .ok (.aload_n 0, 1) := by decide +kernel
theorem dX2_noted_8 : decode cX2_noted 8 = .ok (.getfield 22, 3) := by decide +kernel
theorem dX2_noted_11 : decode cX2_noted 11 = .ok (.aload_n 0, 1) := by decide +kernel
theorem dX2_noted_12 : decode cX2_noted 12 = .ok (.getfield 13, 3) := by decide +kernel
theorem dX2_noted_15 : decode cX2_noted 15 = .ok (.arraylength, 1) := by decide +kernel
theorem dX2_noted_16 : decode cX2_noted 16 = .ok (.if_icmp .ge 15, 3) := by decide +kernel
theorem dX2_noted_19 : decode cX2_noted 19 = .ok (.aload_n 0, 1) := by decide +kernel
theorem dX2_noted_20 : decode cX2_noted 20 = .ok (.getfield 13, 3) := by decide +kernel
theorem dX2_noted_23 : decode cX2_noted 23 = .ok (.aload_n 0, 1) := by decide +kernel
theorem dX2_noted_24 : decode cX2_noted 24 = .ok (.getfield 22, 3) := by decide +kernel
theorem dX2_noted_27 : decode cX2_noted 27 = .ok (.aaload, 1) := by decide +kernel
theorem dX2_noted_28 : decode cX2_noted 28 = .ok (.goto 4, 3) := by decide +kernel
theorem dX2_noted_31 : decode cX2_noted 31 = .ok (.aconst_null, 1) := by decide +kernel
theorem dX2_noted_32 : decode cX2_noted 32 = .ok (.astore_n 1, 1) := by decide +kernel
theorem dX2_noted_33 : decode cX2_noted 33 = .ok (.aload_n 1, 1) := by decide +kernel
theorem dX2_noted_34 : decode cX2_noted 34 = .ok (.ifnonnull 10, 3) := by decide +kernel
theorem dX2_noted_37 : decode cX2_noted 37 = .ok (.aload_n 0, 1) := by decide +kernel
theorem dX2_noted_38 : decode cX2_noted 38 = .ok (.getfield 18, 3) := by decide +kernel
theorem dX2_noted_41 : decode cX2_noted 41 = .ok (.goto 4, 3) := by decide +kernel
theorem dX2_noted_44 : decode cX2_noted 44 = .ok (.aload_n 1, 1) := by decide +kernel
theorem dX2_noted_45 : decode cX2_noted 45 = .ok (.areturn, 1) := by decide +kernel
theorem dX2_keepNoted_0 : decode cX2_keepNoted 0 = .ok (.aload_n 0, 1) := by decide +kernel
theorem dX2_keepNoted_1 : decode cX2_keepNoted 1 = .ok (.aload_n 0, 1) := by decide +kernel
theorem dX2_keepNoted_2 : decode cX2_keepNoted 2 = .ok (.getfield 22, 3) := by decide +kernel
theorem dX2_keepNoted_5 : decode cX2_keepNoted 5 = .ok (.iconst 1, 1) := by decide +kernel
theorem dX2_keepNoted_6 : decode cX2_keepNoted 6 = .ok (.iadd, 1) := by decide +kernel
theorem dX2_keepNoted_7 : decode cX2_keepNoted 7 = .ok (.bipush 9, 2) := by decide +kernel
theorem dX2_keepNoted_9 : decode cX2_keepNoted 9 = .ok (.irem, 1) := by decide +kernel
theorem dX2_keepNoted_10 : decode cX2_keepNoted 10 = .ok (.putfield 22, 3) := by decide +kernel
theorem dX2_keepNoted_13 : decode cX2_keepNoted 13 = .ok (.aload_n 0, 1) := by decide +kernel
theorem dX2_keepNoted_14 : decode cX2_keepNoted 14 = .ok (.aload_n 0, 1) := by decide +kernel
theorem dX2_keepNoted_15 : decode cX2_keepNoted 15 = .ok (.getfield 26, 3) := by decide +kernel
theorem dX2_keepNoted_18 : decode cX2_keepNoted 18 = .ok (.iconst 1, 1) := by decide +kernel
theorem dX2_keepNoted_19 : decode cX2_keepNoted 19 = .ok (.iadd, 1) := by decide +kernel
theorem dX2_keepNoted_20 : decode cX2_keepNoted 20 = .ok (.bipush 8, 2) := by decide +kernel
theorem dX2_keepNoted_22 : decode cX2_keepNoted 22 = .ok (.invokestatic 37, 3) := by decide +kernel
theorem dX2_keepNoted_25 : decode cX2_keepNoted 25 = .ok (.putfield 26, 3) := by decide +kernel
theorem dX2_keepNoted_28 : decode cX2_keepNoted 28 = .ok (.return_, 1) := by decide +kernel
theorem dX2_stepBack_0 : decode cX2_stepBack 0 = .ok (.aload_n 0, 1) := by decide +kernel
theorem dX2_stepBack_1 : decode cX2_stepBack 1 = .ok (.aload_n 0, 1) := by decide +kernel
theorem dX2_stepBack_2 : decode cX2_stepBack 2 = .ok (.getfield 22, 3) := by decide +kernel
theorem dX2_stepBack_5 : decode cX2_stepBack 5 = .ok (.bipush 9, 2) := by decide +kernel
theorem dX2_stepBack_7 : decode cX2_stepBack 7 = .ok (.iadd, 1) := by decide +kernel
theorem dX2_stepBack_8 : decode cX2_stepBack 8 = .ok (.iconst 1, 1) := by decide +kernel
theorem dX2_stepBack_9 : decode cX2_stepBack 9 = .ok (.isub, 1) := by decide +kernel
theorem dX2_stepBack_10 : decode cX2_stepBack 10 = .ok (.bipush 9, 2) := by decide +kernel
theorem dX2_stepBack_12 : decode cX2_stepBack 12 = .ok (.irem, 1) := by decide +kernel
theorem dX2_stepBack_13 : decode cX2_stepBack 13 = .ok (.putfield 22, 3) := by decide +kernel
theorem dX2_stepBack_16 : decode cX2_stepBack 16 = .ok (.aload_n 0, 1) := by decide +kernel
theorem dX2_stepBack_17 : decode cX2_stepBack 17 = .ok (.dup, 1) := by decide +kernel
theorem dX2_stepBack_18 : decode cX2_stepBack 18 = .ok (.getfield 26, 3) := by decide +kernel
theorem dX2_stepBack_21 : decode cX2_stepBack 21 = .ok (.iconst 1, 1) := by decide +kernel
theorem dX2_stepBack_22 : decode cX2_stepBack 22 = .ok (.isub, 1) := by decide +kernel
theorem dX2_stepBack_23 : decode cX2_stepBack 23 = .ok (.putfield 26, 3) := by decide +kernel
theorem dX2_stepBack_26 : decode cX2_stepBack 26 = .ok (.aload_n 0, 1) := by decide +kernel
theorem dX2_stepBack_27 : decode cX2_stepBack 27 = .ok (.invokevirtual 29, 3) := by decide +kernel
theorem dX2_stepBack_30 : decode cX2_stepBack 30 = .ok (.areturn, 1) := by decide +kernel
theorem dX2_forget_0 : decode cX2_forget 0 = .ok (.aload_n 0, 1) := by decide +kernel
theorem dX2_forget_1 : decode cX2_forget 1 = .ok (.iconst 0, 1) := by decide +kernel
theorem dX2_forget_2 : decode cX2_forget 2 = .ok (.putfield 26, 3) := by decide +kernel
theorem dX2_forget_5 : decode cX2_forget 5 = .ok (.return_, 1) := by decide +kernel
theorem dX3_init_0 : decode cX3_init 0 = .ok (.aload_n 0, 1) := by decide +kernel
theorem dX3_init_1 : decode cX3_init 1 = .ok (.invokespecial 3, 3) := by decide +kernel
theorem dX3_init_4 : decode cX3_init 4 = .ok (.aload_n 0, 1) := by decide +kernel
theorem dX3_init_5 : decode cX3_init 5 = .ok (.iconst 3, 1) := by decide +kernel
theorem dX3_init_6 : decode cX3_init 6 = .ok (.newarray .int, 2) := by decide +kernel
theorem dX3_init_8 : decode cX3_init 8 = .ok (.putfield 9, 3) := by decide +kernel
theorem dX3_init_11 : decode cX3_init 11 = .ok (.aload_n 0, 1) := by decide +kernel
theorem dX3_init_12 : decode cX3_init 12 = .ok (.iconst 3, 1) := by decide +kernel
theorem dX3_init_13 : decode cX3_init 13 = .ok (.newarray .int, 2) := by decide +kernel
theorem dX3_init_15 : decode cX3_init 15 = .ok (.putfield 15, 3) := by decide +kernel
theorem dX3_init_18 : decode cX3_init 18 = .ok (.aload_n 0, 1) := by decide +kernel
theorem dX3_init_19 : decode cX3_init 19 = .ok (.iconst 0, 1) := by decide +kernel
theorem dX3_init_20 : decode cX3_init 20 = .ok (.putfield 18, 3) := by decide +kernel
theorem dX3_init_23 : decode cX3_init 23 = .ok (.return_, 1) := by decide +kernel
theorem dX3_has_0 : decode cX3_has 0 = .ok (.iload_n 1, 1) := by decide +kernel
theorem dX3_has_1 : decode cX3_has 1 = .ok (.ifCond .lt 15, 3) := by decide +kernel
theorem dX3_has_4 : decode cX3_has 4 = .ok (.iload_n 1, 1) := by decide +kernel
theorem dX3_has_5 : decode cX3_has 5 = .ok (.aload_n 0, 1) := by decide +kernel
theorem dX3_has_6 : decode cX3_has 6 = .ok (.getfield 18, 3) := by decide +kernel
theorem dX3_has_9 : decode cX3_has 9 = .ok (.if_icmp .ge 7, 3) := by decide +kernel
theorem dX3_has_12 : decode cX3_has 12 = .ok (.iconst 1, 1) := by decide +kernel
theorem dX3_has_13 : decode cX3_has 13 = .ok (.goto 4, 3) := by decide +kernel
theorem dX3_has_16 : decode cX3_has 16 = .ok (.iconst 0, 1) := by decide +kernel
theorem dX3_has_17 : decode cX3_has 17 = .ok (.ireturn, 1) := by decide +kernel
theorem dX3_noseOf_0 : decode cX3_noseOf 0 = .ok (.aload_n 0, 1) := by decide +kernel
theorem dX3_noseOf_1 : decode cX3_noseOf 1 = .ok (.getfield 9, 3) := by decide +kernel
theorem dX3_noseOf_4 : decode cX3_noseOf 4 = .ok (.iload_n 1, 1) := by decide +kernel
theorem dX3_noseOf_5 : decode cX3_noseOf 5 = .ok (.invokestatic 22, 3) := by decide +kernel
theorem dX3_noseOf_8 : decode cX3_noseOf 8 = .ok (.ireturn, 1) := by decide +kernel
theorem dX3_findsOf_0 : decode cX3_findsOf 0 = .ok (.aload_n 0, 1) := by decide +kernel
theorem dX3_findsOf_1 : decode cX3_findsOf 1 = .ok (.getfield 15, 3) := by decide +kernel
theorem dX3_findsOf_4 : decode cX3_findsOf 4 = .ok (.iload_n 1, 1) := by decide +kernel
theorem dX3_findsOf_5 : decode cX3_findsOf 5 = .ok (.invokestatic 22, 3) := by decide +kernel
theorem dX3_findsOf_8 : decode cX3_findsOf 8 = .ok (.ireturn, 1) := by decide +kernel
theorem dX3_add_0 : decode cX3_add 0 = .ok (.aload_n 0, 1) := by decide +kernel
theorem dX3_add_1 : decode cX3_add 1 = .ok (.getfield 9, 3) := by decide +kernel
theorem dX3_add_4 : decode cX3_add 4 = .ok (.aload_n 0, 1) := by decide +kernel
theorem dX3_add_5 : decode cX3_add 5 = .ok (.getfield 18, 3) := by decide +kernel
theorem dX3_add_8 : decode cX3_add 8 = .ok (.iload_n 1, 1) := by decide +kernel
theorem dX3_add_9 : decode cX3_add 9 = .ok (.invokestatic 26, 3) := by decide +kernel
theorem dX3_add_12 : decode cX3_add 12 = .ok (.aload_n 0, 1) := by decide +kernel
theorem dX3_add_13 : decode cX3_add 13 = .ok (.getfield 15, 3) := by decide +kernel
theorem dX3_add_16 : decode cX3_add 16 = .ok (.aload_n 0, 1) := by decide +kernel
theorem dX3_add_17 : decode cX3_add 17 = .ok (.getfield 18, 3) := by decide +kernel
theorem dX3_add_20 : decode cX3_add 20 = .ok (.iconst 0, 1) := by decide +kernel
theorem dX3_add_21 : decode cX3_add 21 = .ok (.invokestatic 26, 3) := by decide +kernel
theorem dX3_add_24 : decode cX3_add 24 = .ok (.aload_n 0, 1) := by decide +kernel
theorem dX3_add_25 : decode cX3_add 25 = .ok (.dup, 1) := by decide +kernel
theorem dX3_add_26 : decode cX3_add 26 = .ok (.getfield 18, 3) := by decide +kernel
theorem dX3_add_29 : decode cX3_add 29 = .ok (.iconst 1, 1) := by decide +kernel
theorem dX3_add_30 : decode cX3_add 30 = .ok (.iadd, 1) := by decide +kernel
theorem dX3_add_31 : decode cX3_add 31 = .ok (.putfield 18, 3) := by decide +kernel
theorem dX3_add_34 : decode cX3_add 34 = .ok (.aload_n 0, 1) := by decide +kernel
theorem dX3_add_35 : decode cX3_add 35 = .ok (.getfield 18, 3) := by decide +kernel
theorem dX3_add_38 : decode cX3_add 38 = .ok (.iconst 1, 1) := by decide +kernel
theorem dX3_add_39 : decode cX3_add 39 = .ok (.isub, 1) := by decide +kernel
theorem dX3_add_40 : decode cX3_add 40 = .ok (.ireturn, 1) := by decide +kernel
theorem dX3_addFind_0 : decode cX3_addFind 0 = .ok (.aload_n 0, 1) := by decide +kernel
theorem dX3_addFind_1 : decode cX3_addFind 1 = .ok (.getfield 15, 3) := by decide +kernel
theorem dX3_addFind_4 : decode cX3_addFind 4 = .ok (.iload_n 1, 1) := by decide +kernel
theorem dX3_addFind_5 : decode cX3_addFind 5 = .ok (.aload_n 0, 1) := by decide +kernel
theorem dX3_addFind_6 : decode cX3_addFind 6 = .ok (.iload_n 1, 1) := by decide +kernel
theorem dX3_addFind_7 : decode cX3_addFind 7 = .ok (.invokevirtual 30, 3) := by decide +kernel
theorem dX3_addFind_10 : decode cX3_addFind 10 = .ok (.iconst 1, 1) := by decide +kernel
theorem dX3_addFind_11 : decode cX3_addFind 11 = .ok (.iadd, 1) := by decide +kernel
theorem dX3_addFind_12 : decode cX3_addFind 12 = .ok (.invokestatic 26, 3) := by decide +kernel
theorem dX3_addFind_15 : decode cX3_addFind 15 = .ok (.return_, 1) := by decide +kernel
theorem dX3_makeNone_0 : decode cX3_makeNone 0 = .ok (.aload_n 0, 1) := by decide +kernel
theorem dX3_makeNone_1 : decode cX3_makeNone 1 = .ok (.iconst 0, 1) := by decide +kernel
theorem dX3_makeNone_2 : decode cX3_makeNone 2 = .ok (.putfield 18, 3) := by decide +kernel
theorem dX3_makeNone_5 : decode cX3_makeNone 5 = .ok (.return_, 1) := by decide +kernel
theorem dX3_take_0 : decode cX3_take 0 = .ok (.aload_n 1, 1) := by decide +kernel
theorem dX3_take_1 : decode cX3_take 1 = .ok (.getfield 9, 3) := by decide +kernel
theorem dX3_take_4 : decode cX3_take 4 = .ok (.aload_n 0, 1) := by decide +kernel
theorem dX3_take_5 : decode cX3_take 5 = .ok (.getfield 9, 3) := by decide +kernel
theorem dX3_take_8 : decode cX3_take 8 = .ok (.invokestatic 34, 3) := by decide +kernel
theorem dX3_take_11 : decode cX3_take 11 = .ok (.aload_n 1, 1) := by decide +kernel
theorem dX3_take_12 : decode cX3_take 12 = .ok (.getfield 15, 3) := by decide +kernel
theorem dX3_take_15 : decode cX3_take 15 = .ok (.aload_n 0, 1) := by decide +kernel
theorem dX3_take_16 : decode cX3_take 16 = .ok (.getfield 15, 3) := by decide +kernel
theorem dX3_take_19 : decode cX3_take 19 = .ok (.invokestatic 34, 3) := by decide +kernel
theorem dX3_take_22 : decode cX3_take 22 = .ok (.aload_n 0, 1) := by decide +kernel
theorem dX3_take_23 : decode cX3_take 23 = .ok (.aload_n 1, 1) := by decide +kernel
theorem dX3_take_24 : decode cX3_take 24 = .ok (.getfield 18, 3) := by decide +kernel
theorem dX3_take_27 : decode cX3_take 27 = .ok (.putfield 18, 3) := by decide +kernel
theorem dX3_take_30 : decode cX3_take 30 = .ok (.return_, 1) := by decide +kernel
theorem dX4_init_0 : decode cX4_init 0 = .ok (.aload_n 0, 1) := by decide +kernel
theorem dX4_init_1 : decode cX4_init 1 = .ok (.invokespecial 1, 3) := by decide +kernel
theorem dX4_init_4 : decode cX4_init 4 = .ok (.aload_n 0, 1) := by decide +kernel
theorem dX4_init_5 : decode cX4_init 5 = .ok (.iconst 0, 1) := by decide +kernel
theorem dX4_init_6 : decode cX4_init 6 = .ok (.putfield 7, 3) := by decide +kernel
theorem dX4_init_9 : decode cX4_init 9 = .ok (.aload_n 0, 1) := by decide +kernel
theorem dX4_init_10 : decode cX4_init 10 = .ok (.iload_n 1, 1) := by decide +kernel
theorem dX4_init_11 : decode cX4_init 11 = .ok (.ifCond .le 7, 3) := by decide +kernel
theorem dX4_init_14 : decode cX4_init 14 = .ok (.iload_n 1, 1) := by decide +kernel
theorem dX4_init_15 : decode cX4_init 15 = .ok (.goto 4, 3) := by decide +kernel
theorem dX4_init_18 : decode cX4_init 18 = .ok (.iconst 0, 1) := by decide +kernel
theorem dX4_init_19 : decode cX4_init 19 = .ok (.newarray .char, 2) := by decide +kernel
theorem dX4_init_21 : decode cX4_init 21 = .ok (.putfield 13, 3) := by decide +kernel
theorem dX4_init_24 : decode cX4_init 24 = .ok (.return_, 1) := by decide +kernel
theorem dX4_makeEmpty_0 : decode cX4_makeEmpty 0 = .ok (.aload_n 0, 1) := by decide +kernel
theorem dX4_makeEmpty_1 : decode cX4_makeEmpty 1 = .ok (.iconst 0, 1) := by decide +kernel
theorem dX4_makeEmpty_2 : decode cX4_makeEmpty 2 = .ok (.putfield 7, 3) := by decide +kernel
theorem dX4_makeEmpty_5 : decode cX4_makeEmpty 5 = .ok (.return_, 1) := by decide +kernel
theorem dX4_put_0 : decode cX4_put 0 = .ok (.aload_n 0, 1) := by decide +kernel
theorem dX4_put_1 : decode cX4_put 1 = .ok (.getfield 7, 3) := by decide +kernel
theorem dX4_put_4 : decode cX4_put 4 = .ok (.ifCond .lt 35, 3) := by decide +kernel
theorem dX4_put_7 : decode cX4_put 7 = .ok (.aload_n 0, 1) := by decide +kernel
theorem dX4_put_8 : decode cX4_put 8 = .ok (.getfield 7, 3) := by decide +kernel
theorem dX4_put_11 : decode cX4_put 11 = .ok (.aload_n 0, 1) := by decide +kernel
theorem dX4_put_12 : decode cX4_put 12 = .ok (.getfield 13, 3) := by decide +kernel
theorem dX4_put_15 : decode cX4_put 15 = .ok (.arraylength, 1) := by decide +kernel
theorem dX4_put_16 : decode cX4_put 16 = .ok (.if_icmp .ge 23, 3) := by decide +kernel
theorem dX4_put_19 : decode cX4_put 19 = .ok (.aload_n 0, 1) := by decide +kernel
theorem dX4_put_20 : decode cX4_put 20 = .ok (.getfield 13, 3) := by decide +kernel
theorem dX4_put_23 : decode cX4_put 23 = .ok (.aload_n 0, 1) := by decide +kernel
theorem dX4_put_24 : decode cX4_put 24 = .ok (.getfield 7, 3) := by decide +kernel
theorem dX4_put_27 : decode cX4_put 27 = .ok (.iload_n 1, 1) := by decide +kernel
theorem dX4_put_28 : decode cX4_put 28 = .ok (.castore, 1) := by decide +kernel
theorem dX4_put_29 : decode cX4_put 29 = .ok (.aload_n 0, 1) := by decide +kernel
theorem dX4_put_30 : decode cX4_put 30 = .ok (.dup, 1) := by decide +kernel
theorem dX4_put_31 : decode cX4_put 31 = .ok (.getfield 7, 3) := by decide +kernel
theorem dX4_put_34 : decode cX4_put 34 = .ok (.iconst 1, 1) := by decide +kernel
theorem dX4_put_35 : decode cX4_put 35 = .ok (.iadd, 1) := by decide +kernel
theorem dX4_put_36 : decode cX4_put 36 = .ok (.putfield 7, 3) := by decide +kernel
theorem dX4_put_39 : decode cX4_put 39 = .ok (.return_, 1) := by decide +kernel
theorem dX4_putNumber_0 : decode cX4_putNumber 0 = .ok (.iload_n 1, 1) := by decide +kernel
theorem dX4_putNumber_1 : decode cX4_putNumber 1 = .ok (.bipush 9, 2) := by decide +kernel
theorem dX4_putNumber_3 : decode cX4_putNumber 3 = .ok (.if_icmp .le 18, 3) := by decide +kernel
theorem dX4_putNumber_6 : decode cX4_putNumber 6 = .ok (.aload_n 0, 1) := by decide +kernel
theorem dX4_putNumber_7 : decode cX4_putNumber 7 = .ok (.bipush 48, 2) := by decide +kernel
theorem dX4_putNumber_9 : decode cX4_putNumber 9 = .ok (.iload_n 1, 1) := by decide +kernel
theorem dX4_putNumber_10 : decode cX4_putNumber 10 = .ok (.bipush 10, 2) := by decide +kernel
theorem dX4_putNumber_12 : decode cX4_putNumber 12 = .ok (.idiv, 1) := by decide +kernel
theorem dX4_putNumber_13 : decode cX4_putNumber 13 = .ok (.bipush 10, 2) := by decide +kernel
theorem dX4_putNumber_15 : decode cX4_putNumber 15 = .ok (.irem, 1) := by decide +kernel
theorem dX4_putNumber_16 : decode cX4_putNumber 16 = .ok (.iadd, 1) := by decide +kernel
theorem dX4_putNumber_17 : decode cX4_putNumber 17 = .ok (.i2c, 1) := by decide +kernel
theorem dX4_putNumber_18 : decode cX4_putNumber 18 = .ok (.invokevirtual 17, 3) := by decide +kernel
theorem dX4_putNumber_21 : decode cX4_putNumber 21 = .ok (.aload_n 0, 1) := by decide +kernel
theorem dX4_putNumber_22 : decode cX4_putNumber 22 = .ok (.bipush 48, 2) := by decide +kernel
theorem dX4_putNumber_24 : decode cX4_putNumber 24 = .ok (.iload_n 1, 1) := by decide +kernel
theorem dX4_putNumber_25 : decode cX4_putNumber 25 = .ok (.bipush 10, 2) := by decide +kernel
theorem dX4_putNumber_27 : decode cX4_putNumber 27 = .ok (.irem, 1) := by decide +kernel
theorem dX4_putNumber_28 : decode cX4_putNumber 28 = .ok (.iadd, 1) := by decide +kernel
theorem dX4_putNumber_29 : decode cX4_putNumber 29 = .ok (.i2c, 1) := by decide +kernel
theorem dX4_putNumber_30 : decode cX4_putNumber 30 = .ok (.invokevirtual 17, 3) := by decide +kernel
theorem dX4_putNumber_33 : decode cX4_putNumber 33 = .ok (.return_, 1) := by decide +kernel
theorem dX4_signAt_0 : decode cX4_signAt 0 = .ok (.iload_n 1, 1) := by decide +kernel
theorem dX4_signAt_1 : decode cX4_signAt 1 = .ok (.ifCond .lt 29, 3) := by decide +kernel
theorem dX4_signAt_4 : decode cX4_signAt 4 = .ok (.iload_n 1, 1) := by decide +kernel
theorem dX4_signAt_5 : decode cX4_signAt 5 = .ok (.aload_n 0, 1) := by decide +kernel
theorem dX4_signAt_6 : decode cX4_signAt 6 = .ok (.getfield 7, 3) := by decide +kernel
theorem dX4_signAt_9 : decode cX4_signAt 9 = .ok (.if_icmp .ge 21, 3) := by decide +kernel
theorem dX4_signAt_12 : decode cX4_signAt 12 = .ok (.iload_n 1, 1) := by decide +kernel
theorem dX4_signAt_13 : decode cX4_signAt 13 = .ok (.aload_n 0, 1) := by decide +kernel
theorem dX4_signAt_14 : decode cX4_signAt 14 = .ok (.getfield 13, 3) := by decide +kernel
theorem dX4_signAt_17 : decode cX4_signAt 17 = .ok (.arraylength, 1) := by decide +kernel
theorem dX4_signAt_18 : decode cX4_signAt 18 = .ok (.if_icmp .ge 12, 3) := by decide +kernel
theorem dX4_signAt_21 : decode cX4_signAt 21 = .ok (.aload_n 0, 1) := by decide +kernel
theorem dX4_signAt_22 : decode cX4_signAt 22 = .ok (.getfield 13, 3) := by decide +kernel
theorem dX4_signAt_25 : decode cX4_signAt 25 = .ok (.iload_n 1, 1) := by decide +kernel
theorem dX4_signAt_26 : decode cX4_signAt 26 = .ok (.caload, 1) := by decide +kernel
theorem dX4_signAt_27 : decode cX4_signAt 27 = .ok (.goto 4, 3) := by decide +kernel
theorem dX4_signAt_30 : decode cX4_signAt 30 = .ok (.iconst 0, 1) := by decide +kernel
theorem dX4_signAt_31 : decode cX4_signAt 31 = .ok (.ireturn, 1) := by decide +kernel
theorem dX5_init_0 : decode cX5_init 0 = .ok (.aload_n 0, 1) := by decide +kernel
theorem dX5_init_1 : decode cX5_init 1 = .ok (.invokespecial 3, 3) := by decide +kernel
theorem dX5_init_4 : decode cX5_init 4 = .ok (.aload_n 0, 1) := by decide +kernel
theorem dX5_init_5 : decode cX5_init 5 = .ok (.bipush 20, 2) := by decide +kernel
theorem dX5_init_7 : decode cX5_init 7 = .ok (.newarray .int, 2) := by decide +kernel
theorem dX5_init_9 : decode cX5_init 9 = .ok (.putfield 9, 3) := by decide +kernel
theorem dX5_init_12 : decode cX5_init 12 = .ok (.aload_n 0, 1) := by decide +kernel
theorem dX5_init_13 : decode cX5_init 13 = .ok (.bipush 60, 2) := by decide +kernel
theorem dX5_init_15 : decode cX5_init 15 = .ok (.newarray .int, 2) := by decide +kernel
theorem dX5_init_17 : decode cX5_init 17 = .ok (.putfield 15, 3) := by decide +kernel
theorem dX5_init_20 : decode cX5_init 20 = .ok (.aload_n 0, 1) := by decide +kernel
theorem dX5_init_21 : decode cX5_init 21 = .ok (.iconst 0, 1) := by decide +kernel
theorem dX5_init_22 : decode cX5_init 22 = .ok (.putfield 18, 3) := by decide +kernel
theorem dX5_init_25 : decode cX5_init 25 = .ok (.aload_n 0, 1) := by decide +kernel
theorem dX5_init_26 : decode cX5_init 26 = .ok (.iconst 0, 1) := by decide +kernel
theorem dX5_init_27 : decode cX5_init 27 = .ok (.putfield 22, 3) := by decide +kernel
theorem dX5_init_30 : decode cX5_init 30 = .ok (.return_, 1) := by decide +kernel
theorem dX5_read_0 : decode cX5_read 0 = .ok (.aload_n 0, 1) := by decide +kernel
theorem dX5_read_1 : decode cX5_read 1 = .ok (.iconst 0, 1) := by decide +kernel
theorem dX5_read_2 : decode cX5_read 2 = .ok (.putfield 18, 3) := by decide +kernel
theorem dX5_read_5 : decode cX5_read 5 = .ok (.aload_n 0, 1) := by decide +kernel
theorem dX5_read_6 : decode cX5_read 6 = .ok (.iconst 0, 1) := by decide +kernel
theorem dX5_read_7 : decode cX5_read 7 = .ok (.putfield 22, 3) := by decide +kernel
theorem dX5_read_10 : decode cX5_read 10 = .ok (.iconst 0, 1) := by decide +kernel
theorem dX5_read_11 : decode cX5_read 11 = .ok (.istore_n 2, 1) := by decide +kernel
theorem dX5_read_12 : decode cX5_read 12 = .ok (.iload_n 2, 1) := by decide +kernel
theorem dX5_read_13 : decode cX5_read 13 = .ok (.bipush 20, 2) := by decide +kernel
theorem dX5_read_15 : decode cX5_read 15 = .ok (.if_icmp .ge 61, 3) := by decide +kernel
theorem dX5_read_18 : decode cX5_read 18 = .ok (.aload_n 0, 1) := by decide +kernel
theorem dX5_read_19 : decode cX5_read 19 = .ok (.aload_n 1, 1) := by decide +kernel
theorem dX5_read_20 : decode cX5_read 20 = .ok (.invokevirtual 25, 3) := by decide +kernel
theorem dX5_read_23 : decode cX5_read 23 = .ok (.ifCond .ne 8, 3) := by decide +kernel
theorem dX5_read_26 : decode cX5_read 26 = .ok (.aload_n 0, 1) := by decide +kernel
theorem dX5_read_27 : decode cX5_read 27 = .ok (.getfield 22, 3) := by decide +kernel
theorem dX5_read_30 : decode cX5_read 30 = .ok (.ireturn, 1) := by decide +kernel
theorem dX5_read_31 : decode cX5_read 31 = .ok (.aload_n 0, 1) := by decide +kernel
theorem dX5_read_32 : decode cX5_read 32 = .ok (.dup, 1) := by decide +kernel
theorem dX5_read_33 : decode cX5_read 33 = .ok (.getfield 18, 3) := by decide +kernel
theorem dX5_read_36 : decode cX5_read 36 = .ok (.iconst 1, 1) := by decide +kernel
theorem dX5_read_37 : decode cX5_read 37 = .ok (.iadd, 1) := by decide +kernel
theorem dX5_read_38 : decode cX5_read 38 = .ok (.putfield 18, 3) := by decide +kernel
theorem dX5_read_41 : decode cX5_read 41 = .ok (.aload_n 0, 1) := by decide +kernel
theorem dX5_read_42 : decode cX5_read 42 = .ok (.getfield 22, 3) := by decide +kernel
theorem dX5_read_45 : decode cX5_read 45 = .ok (.aload_n 1, 1) := by decide +kernel
theorem dX5_read_46 : decode cX5_read 46 = .ok (.getfield 29, 3) := by decide +kernel
theorem dX5_read_49 : decode cX5_read 49 = .ok (.if_icmp .lt 6, 3) := by decide +kernel
theorem dX5_read_52 : decode cX5_read 52 = .ok (.bipush (-4), 2) := by decide +kernel
theorem dX5_read_54 : decode cX5_read 54 = .ok (.ireturn, 1) := by decide +kernel
theorem dX5_read_55 : decode cX5_read 55 = .ok (.aload_n 0, 1) := by decide +kernel
theorem dX5_read_56 : decode cX5_read 56 = .ok (.aload_n 1, 1) := by decide +kernel
theorem dX5_read_57 : decode cX5_read 57 = .ok (.bipush 59, 2) := by decide +kernel
theorem dX5_read_59 : decode cX5_read 59 = .ok (.invokevirtual 34, 3) := by decide +kernel
theorem dX5_read_62 : decode cX5_read 62 = .ok (.ifCond .ne 8, 3) := by decide +kernel
theorem dX5_read_65 : decode cX5_read 65 = .ok (.aload_n 0, 1) := by decide +kernel
theorem dX5_read_66 : decode cX5_read 66 = .ok (.getfield 22, 3) := by decide +kernel
theorem dX5_read_69 : decode cX5_read 69 = .ok (.ireturn, 1) := by decide +kernel
theorem dX5_read_70 : decode cX5_read 70 = .ok (.iinc 2 1, 3) := by decide +kernel
theorem dX5_read_73 : decode cX5_read 73 = .ok (.goto (-61), 3) := by decide +kernel
theorem dX5_read_76 : decode cX5_read 76 = .ok (.aload_n 0, 1) := by decide +kernel
theorem dX5_read_77 : decode cX5_read 77 = .ok (.getfield 22, 3) := by decide +kernel
theorem dX5_read_80 : decode cX5_read 80 = .ok (.ireturn, 1) := by decide +kernel
theorem dX5_letterOf_0 : decode cX5_letterOf 0 = .ok (.aload_n 0, 1) := by decide +kernel
theorem dX5_letterOf_1 : decode cX5_letterOf 1 = .ok (.getfield 9, 3) := by decide +kernel
theorem dX5_letterOf_4 : decode cX5_letterOf 4 = .ok (.iload_n 1, 1) := by decide +kernel
theorem dX5_letterOf_5 : decode cX5_letterOf 5 = .ok (.invokestatic 38, 3) := by decide +kernel
theorem dX5_letterOf_8 : decode cX5_letterOf 8 = .ok (.ireturn, 1) := by decide +kernel
theorem dX5_numberOf_0 : decode cX5_numberOf 0 = .ok (.aload_n 0, 1) := by decide +kernel
theorem dX5_numberOf_1 : decode cX5_numberOf 1 = .ok (.getfield 15, 3) := by decide +kernel
theorem dX5_numberOf_4 : decode cX5_numberOf 4 = .ok (.iload_n 1, 1) := by decide +kernel
theorem dX5_numberOf_5 : decode cX5_numberOf 5 = .ok (.iconst 3, 1) := by decide +kernel
theorem dX5_numberOf_6 : decode cX5_numberOf 6 = .ok (.imul, 1) := by decide +kernel
theorem dX5_numberOf_7 : decode cX5_numberOf 7 = .ok (.iload_n 2, 1) := by decide +kernel
theorem dX5_numberOf_8 : decode cX5_numberOf 8 = .ok (.iadd, 1) := by decide +kernel
theorem dX5_numberOf_9 : decode cX5_numberOf 9 = .ok (.invokestatic 38, 3) := by decide +kernel
theorem dX5_numberOf_12 : decode cX5_numberOf 12 = .ok (.ireturn, 1) := by decide +kernel
theorem dX5_readOrder_0 : decode cX5_readOrder 0 = .ok (.aload_n 1, 1) := by decide +kernel
theorem dX5_readOrder_1 : decode cX5_readOrder 1 = .ok (.aload_n 0, 1) := by decide +kernel
theorem dX5_readOrder_2 : decode cX5_readOrder 2 = .ok (.getfield 22, 3) := by decide +kernel
theorem dX5_readOrder_5 : decode cX5_readOrder 5 = .ok (.invokevirtual 42, 3) := by decide +kernel
theorem dX5_readOrder_8 : decode cX5_readOrder 8 = .ok (.istore_n 2, 1) := by decide +kernel
theorem dX5_readOrder_9 : decode cX5_readOrder 9 = .ok (.iload_n 2, 1) := by decide +kernel
theorem dX5_readOrder_10 : decode cX5_readOrder 10 = .ok (.invokestatic 46, 3) := by decide +kernel
theorem dX5_readOrder_13 : decode cX5_readOrder 13 = .ok (.astore_n 3, 1) := by decide +kernel
theorem dX5_readOrder_14 : decode cX5_readOrder 14 = .ok (.aload_n 3, 1) := by decide +kernel
theorem dX5_readOrder_15 : decode cX5_readOrder 15 = .ok (.invokevirtual 50, 3) := by decide +kernel
theorem dX5_readOrder_18 : decode cX5_readOrder 18 = .ok (.ifCond .eq 5, 3) := by decide +kernel
theorem dX5_readOrder_21 : decode cX5_readOrder 21 = .ok (.iconst 0, 1) := by decide +kernel
theorem dX5_readOrder_22 : decode cX5_readOrder 22 = .ok (.ireturn, 1) := by decide +kernel
theorem dX5_readOrder_23 : decode cX5_readOrder 23 = .ok (.aload_n 0, 1) := by decide +kernel
theorem dX5_readOrder_24 : decode cX5_readOrder 24 = .ok (.getfield 9, 3) := by decide +kernel
theorem dX5_readOrder_27 : decode cX5_readOrder 27 = .ok (.aload_n 0, 1) := by decide +kernel
theorem dX5_readOrder_28 : decode cX5_readOrder 28 = .ok (.getfield 18, 3) := by decide +kernel
theorem dX5_readOrder_31 : decode cX5_readOrder 31 = .ok (.iload_n 2, 1) := by decide +kernel
theorem dX5_readOrder_32 : decode cX5_readOrder 32 = .ok (.invokestatic 56, 3) := by decide +kernel
theorem dX5_readOrder_35 : decode cX5_readOrder 35 = .ok (.aload_n 0, 1) := by decide +kernel
theorem dX5_readOrder_36 : decode cX5_readOrder 36 = .ok (.dup, 1) := by decide +kernel
theorem dX5_readOrder_37 : decode cX5_readOrder 37 = .ok (.getfield 22, 3) := by decide +kernel
theorem dX5_readOrder_40 : decode cX5_readOrder 40 = .ok (.iconst 1, 1) := by decide +kernel
theorem dX5_readOrder_41 : decode cX5_readOrder 41 = .ok (.iadd, 1) := by decide +kernel
theorem dX5_readOrder_42 : decode cX5_readOrder 42 = .ok (.putfield 22, 3) := by decide +kernel
theorem dX5_readOrder_45 : decode cX5_readOrder 45 = .ok (.iconst 0, 1) := by decide +kernel
theorem dX5_readOrder_46 : decode cX5_readOrder 46 = .ok (.istore 4, 2) := by decide +kernel
theorem dX5_readOrder_48 : decode cX5_readOrder 48 = .ok (.iconst 0, 1) := by decide +kernel
theorem dX5_readOrder_49 : decode cX5_readOrder 49 = .ok (.istore 5, 2) := by decide +kernel
theorem dX5_readOrder_51 : decode cX5_readOrder 51 = .ok (.iload 5, 2) := by decide +kernel
theorem dX5_readOrder_53 : decode cX5_readOrder 53 = .ok (.aload_n 3, 1) := by decide +kernel
theorem dX5_readOrder_54 : decode cX5_readOrder 54 = .ok (.invokevirtual 60, 3) := by decide +kernel
theorem dX5_readOrder_57 : decode cX5_readOrder 57 = .ok (.if_icmp .ge 95, 3) := by decide +kernel
theorem dX5_readOrder_60 : decode cX5_readOrder 60 = .ok (.aload_n 3, 1) := by decide +kernel
theorem dX5_readOrder_61 : decode cX5_readOrder 61 = .ok (.iload 5, 2) := by decide +kernel
theorem dX5_readOrder_63 : decode cX5_readOrder 63 = .ok (.invokevirtual 63, 3) := by decide +kernel
theorem dX5_readOrder_66 : decode cX5_readOrder 66 = .ok (.istore 6, 2) := by decide +kernel
theorem dX5_readOrder_68 : decode cX5_readOrder 68 = .ok (.iload 6, 2) := by decide +kernel
theorem dX5_readOrder_70 : decode cX5_readOrder 70 = .ok (.bipush 35, 2) := by decide +kernel
theorem dX5_readOrder_72 : decode cX5_readOrder 72 = .ok (.if_icmp .eq 14, 3) := by decide +kernel
theorem dX5_readOrder_75 : decode cX5_readOrder 75 = .ok (.iload 6, 2) := by decide +kernel
theorem dX5_readOrder_77 : decode cX5_readOrder 77 = .ok (.bipush 37, 2) := by decide +kernel
theorem dX5_readOrder_79 : decode cX5_readOrder 79 = .ok (.if_icmp .eq 7, 3) := by decide +kernel
theorem dX5_readOrder_82 : decode cX5_readOrder 82 = .ok (.iconst 1, 1) := by decide +kernel
theorem dX5_readOrder_83 : decode cX5_readOrder 83 = .ok (.goto 4, 3) := by decide +kernel
theorem dX5_readOrder_86 : decode cX5_readOrder 86 = .ok (.iconst 0, 1) := by decide +kernel
theorem dX5_readOrder_87 : decode cX5_readOrder 87 = .ok (.istore 7, 2) := by decide +kernel
theorem dX5_readOrder_89 : decode cX5_readOrder 89 = .ok (.iload 7, 2) := by decide +kernel
theorem dX5_readOrder_91 : decode cX5_readOrder 91 = .ok (.ifCond .eq 16, 3) := by decide +kernel
theorem dX5_readOrder_94 : decode cX5_readOrder 94 = .ok (.aload_n 0, 1) := by decide +kernel
theorem dX5_readOrder_95 : decode cX5_readOrder 95 = .ok (.aload_n 1, 1) := by decide +kernel
theorem dX5_readOrder_96 : decode cX5_readOrder 96 = .ok (.iload 6, 2) := by decide +kernel
theorem dX5_readOrder_98 : decode cX5_readOrder 98 = .ok (.invokevirtual 34, 3) := by decide +kernel
theorem dX5_readOrder_101 : decode cX5_readOrder 101 = .ok (.ifCond .ne 30, 3) := by decide +kernel
theorem dX5_readOrder_104 : decode cX5_readOrder 104 = .ok (.goto 25, 3) := by decide +kernel
theorem dX5_readOrder_107 : decode cX5_readOrder 107 = .ok (.aload_n 0, 1) := by decide +kernel
theorem dX5_readOrder_108 : decode cX5_readOrder 108 = .ok (.aload_n 1, 1) := by decide +kernel
theorem dX5_readOrder_109 : decode cX5_readOrder 109 = .ok (.iload 4, 2) := by decide +kernel
theorem dX5_readOrder_111 : decode cX5_readOrder 111 = .ok (.iload 6, 2) := by decide +kernel
theorem dX5_readOrder_113 : decode cX5_readOrder 113 = .ok (.bipush 37, 2) := by decide +kernel
theorem dX5_readOrder_115 : decode cX5_readOrder 115 = .ok (.if_icmp .ne 7, 3) := by decide +kernel
theorem dX5_readOrder_118 : decode cX5_readOrder 118 = .ok (.iconst 1, 1) := by decide +kernel
theorem dX5_readOrder_119 : decode cX5_readOrder 119 = .ok (.goto 4, 3) := by decide +kernel
theorem dX5_readOrder_122 : decode cX5_readOrder 122 = .ok (.iconst 0, 1) := by decide +kernel
theorem dX5_readOrder_123 : decode cX5_readOrder 123 = .ok (.invokevirtual 66, 3) := by decide +kernel
theorem dX5_readOrder_126 : decode cX5_readOrder 126 = .ok (.ifCond .ne 5, 3) := by decide +kernel
theorem dX5_readOrder_129 : decode cX5_readOrder 129 = .ok (.iconst 0, 1) := by decide +kernel
theorem dX5_readOrder_130 : decode cX5_readOrder 130 = .ok (.ireturn, 1) := by decide +kernel
theorem dX5_readOrder_131 : decode cX5_readOrder 131 = .ok (.iload 4, 2) := by decide +kernel
theorem dX5_readOrder_133 : decode cX5_readOrder 133 = .ok (.iload 7, 2) := by decide +kernel
theorem dX5_readOrder_135 : decode cX5_readOrder 135 = .ok (.ifCond .eq 7, 3) := by decide +kernel
theorem dX5_readOrder_138 : decode cX5_readOrder 138 = .ok (.iconst 0, 1) := by decide +kernel
theorem dX5_readOrder_139 : decode cX5_readOrder 139 = .ok (.goto 4, 3) := by decide +kernel
theorem dX5_readOrder_142 : decode cX5_readOrder 142 = .ok (.iconst 1, 1) := by decide +kernel
theorem dX5_readOrder_143 : decode cX5_readOrder 143 = .ok (.iadd, 1) := by decide +kernel
theorem dX5_readOrder_144 : decode cX5_readOrder 144 = .ok (.istore 4, 2) := by decide +kernel
theorem dX5_readOrder_146 : decode cX5_readOrder 146 = .ok (.iinc 5 1, 3) := by decide +kernel
theorem dX5_readOrder_149 : decode cX5_readOrder 149 = .ok (.goto (-98), 3) := by decide +kernel
theorem dX5_readOrder_152 : decode cX5_readOrder 152 = .ok (.iconst 1, 1) := by decide +kernel
theorem dX5_readOrder_153 : decode cX5_readOrder 153 = .ok (.ireturn, 1) := by decide +kernel
theorem dX5_formOf_0 : decode cX5_formOf 0 = .ok (.iload_n 0, 1) := by decide +kernel
theorem dX5_formOf_1 : decode cX5_formOf 1 = .ok (.tableswitch 110 98 117 #[95, 110, 98, 110, 110, 107, 110, 101, 110, 110, 104, 110, 107, 110, 110, 110, 110, 110, 98, 101], 95) := by decide +kernel
theorem dX5_formOf_96 : decode cX5_formOf 96 = .ok (.ldc 70, 2) := by decide +kernel
theorem dX5_formOf_98 : decode cX5_formOf 98 = .ok (.areturn, 1) := by decide +kernel
theorem dX5_formOf_99 : decode cX5_formOf 99 = .ok (.ldc 72, 2) := by decide +kernel
theorem dX5_formOf_101 : decode cX5_formOf 101 = .ok (.areturn, 1) := by decide +kernel
theorem dX5_formOf_102 : decode cX5_formOf 102 = .ok (.ldc 74, 2) := by decide +kernel
theorem dX5_formOf_104 : decode cX5_formOf 104 = .ok (.areturn, 1) := by decide +kernel
theorem dX5_formOf_105 : decode cX5_formOf 105 = .ok (.ldc 76, 2) := by decide +kernel
theorem dX5_formOf_107 : decode cX5_formOf 107 = .ok (.areturn, 1) := by decide +kernel
theorem dX5_formOf_108 : decode cX5_formOf 108 = .ok (.ldc 78, 2) := by decide +kernel
theorem dX5_formOf_110 : decode cX5_formOf 110 = .ok (.areturn, 1) := by decide +kernel
theorem dX5_formOf_111 : decode cX5_formOf 111 = .ok (.ldc 80, 2) := by decide +kernel
theorem dX5_formOf_113 : decode cX5_formOf 113 = .ok (.areturn, 1) := by decide +kernel
theorem dX5_readSign_0 : decode cX5_readSign 0 = .ok (.aload_n 1, 1) := by decide +kernel
theorem dX5_readSign_1 : decode cX5_readSign 1 = .ok (.aload_n 0, 1) := by decide +kernel
theorem dX5_readSign_2 : decode cX5_readSign 2 = .ok (.getfield 22, 3) := by decide +kernel
theorem dX5_readSign_5 : decode cX5_readSign 5 = .ok (.invokevirtual 42, 3) := by decide +kernel
theorem dX5_readSign_8 : decode cX5_readSign 8 = .ok (.iload_n 2, 1) := by decide +kernel
theorem dX5_readSign_9 : decode cX5_readSign 9 = .ok (.if_icmp .eq 5, 3) := by decide +kernel
theorem dX5_readSign_12 : decode cX5_readSign 12 = .ok (.iconst 0, 1) := by decide +kernel
theorem dX5_readSign_13 : decode cX5_readSign 13 = .ok (.ireturn, 1) := by decide +kernel
theorem dX5_readSign_14 : decode cX5_readSign 14 = .ok (.aload_n 0, 1) := by decide +kernel
theorem dX5_readSign_15 : decode cX5_readSign 15 = .ok (.dup, 1) := by decide +kernel
theorem dX5_readSign_16 : decode cX5_readSign 16 = .ok (.getfield 22, 3) := by decide +kernel
theorem dX5_readSign_19 : decode cX5_readSign 19 = .ok (.iconst 1, 1) := by decide +kernel
theorem dX5_readSign_20 : decode cX5_readSign 20 = .ok (.iadd, 1) := by decide +kernel
theorem dX5_readSign_21 : decode cX5_readSign 21 = .ok (.putfield 22, 3) := by decide +kernel
theorem dX5_readSign_24 : decode cX5_readSign 24 = .ok (.iconst 1, 1) := by decide +kernel
theorem dX5_readSign_25 : decode cX5_readSign 25 = .ok (.ireturn, 1) := by decide +kernel
theorem dX5_readNumber_0 : decode cX5_readNumber 0 = .ok (.aload_n 1, 1) := by decide +kernel
theorem dX5_readNumber_1 : decode cX5_readNumber 1 = .ok (.aload_n 0, 1) := by decide +kernel
theorem dX5_readNumber_2 : decode cX5_readNumber 2 = .ok (.getfield 22, 3) := by decide +kernel
theorem dX5_readNumber_5 : decode cX5_readNumber 5 = .ok (.invokevirtual 42, 3) := by decide +kernel
theorem dX5_readNumber_8 : decode cX5_readNumber 8 = .ok (.invokestatic 82, 3) := by decide +kernel
theorem dX5_readNumber_11 : decode cX5_readNumber 11 = .ok (.ifCond .ne 5, 3) := by decide +kernel
theorem dX5_readNumber_14 : decode cX5_readNumber 14 = .ok (.iconst 0, 1) := by decide +kernel
theorem dX5_readNumber_15 : decode cX5_readNumber 15 = .ok (.ireturn, 1) := by decide +kernel
theorem dX5_readNumber_16 : decode cX5_readNumber 16 = .ok (.aload_n 1, 1) := by decide +kernel
theorem dX5_readNumber_17 : decode cX5_readNumber 17 = .ok (.aload_n 0, 1) := by decide +kernel
theorem dX5_readNumber_18 : decode cX5_readNumber 18 = .ok (.getfield 22, 3) := by decide +kernel
theorem dX5_readNumber_21 : decode cX5_readNumber 21 = .ok (.invokevirtual 42, 3) := by decide +kernel
theorem dX5_readNumber_24 : decode cX5_readNumber 24 = .ok (.bipush 48, 2) := by decide +kernel
theorem dX5_readNumber_26 : decode cX5_readNumber 26 = .ok (.isub, 1) := by decide +kernel
theorem dX5_readNumber_27 : decode cX5_readNumber 27 = .ok (.istore 4, 2) := by decide +kernel
theorem dX5_readNumber_29 : decode cX5_readNumber 29 = .ok (.aload_n 0, 1) := by decide +kernel
theorem dX5_readNumber_30 : decode cX5_readNumber 30 = .ok (.dup, 1) := by decide +kernel
theorem dX5_readNumber_31 : decode cX5_readNumber 31 = .ok (.getfield 22, 3) := by decide +kernel
theorem dX5_readNumber_34 : decode cX5_readNumber 34 = .ok (.iconst 1, 1) := by decide +kernel
theorem dX5_readNumber_35 : decode cX5_readNumber 35 = .ok (.iadd, 1) := by decide +kernel
theorem dX5_readNumber_36 : decode cX5_readNumber 36 = .ok (.putfield 22, 3) := by decide +kernel
theorem dX5_readNumber_39 : decode cX5_readNumber 39 = .ok (.iload_n 3, 1) := by decide +kernel
theorem dX5_readNumber_40 : decode cX5_readNumber 40 = .ok (.ifCond .eq 46, 3) := by decide +kernel
theorem dX5_readNumber_43 : decode cX5_readNumber 43 = .ok (.aload_n 1, 1) := by decide +kernel
theorem dX5_readNumber_44 : decode cX5_readNumber 44 = .ok (.aload_n 0, 1) := by decide +kernel
theorem dX5_readNumber_45 : decode cX5_readNumber 45 = .ok (.getfield 22, 3) := by decide +kernel
theorem dX5_readNumber_48 : decode cX5_readNumber 48 = .ok (.invokevirtual 42, 3) := by decide +kernel
theorem dX5_readNumber_51 : decode cX5_readNumber 51 = .ok (.invokestatic 82, 3) := by decide +kernel
theorem dX5_readNumber_54 : decode cX5_readNumber 54 = .ok (.ifCond .eq 32, 3) := by decide +kernel
theorem dX5_readNumber_57 : decode cX5_readNumber 57 = .ok (.iload 4, 2) := by decide +kernel
theorem dX5_readNumber_59 : decode cX5_readNumber 59 = .ok (.bipush 10, 2) := by decide +kernel
theorem dX5_readNumber_61 : decode cX5_readNumber 61 = .ok (.imul, 1) := by decide +kernel
theorem dX5_readNumber_62 : decode cX5_readNumber 62 = .ok (.aload_n 1, 1) := by decide +kernel
theorem dX5_readNumber_63 : decode cX5_readNumber 63 = .ok (.aload_n 0, 1) := by decide +kernel
theorem dX5_readNumber_64 : decode cX5_readNumber 64 = .ok (.getfield 22, 3) := by decide +kernel
theorem dX5_readNumber_67 : decode cX5_readNumber 67 = .ok (.invokevirtual 42, 3) := by decide +kernel
theorem dX5_readNumber_70 : decode cX5_readNumber 70 = .ok (.iadd, 1) := by decide +kernel
theorem dX5_readNumber_71 : decode cX5_readNumber 71 = .ok (.bipush 48, 2) := by decide +kernel
theorem dX5_readNumber_73 : decode cX5_readNumber 73 = .ok (.isub, 1) := by decide +kernel
theorem dX5_readNumber_74 : decode cX5_readNumber 74 = .ok (.istore 4, 2) := by decide +kernel
theorem dX5_readNumber_76 : decode cX5_readNumber 76 = .ok (.aload_n 0, 1) := by decide +kernel
theorem dX5_readNumber_77 : decode cX5_readNumber 77 = .ok (.dup, 1) := by decide +kernel
theorem dX5_readNumber_78 : decode cX5_readNumber 78 = .ok (.getfield 22, 3) := by decide +kernel
theorem dX5_readNumber_81 : decode cX5_readNumber 81 = .ok (.iconst 1, 1) := by decide +kernel
theorem dX5_readNumber_82 : decode cX5_readNumber 82 = .ok (.iadd, 1) := by decide +kernel
theorem dX5_readNumber_83 : decode cX5_readNumber 83 = .ok (.putfield 22, 3) := by decide +kernel
theorem dX5_readNumber_86 : decode cX5_readNumber 86 = .ok (.aload_n 0, 1) := by decide +kernel
theorem dX5_readNumber_87 : decode cX5_readNumber 87 = .ok (.getfield 15, 3) := by decide +kernel
theorem dX5_readNumber_90 : decode cX5_readNumber 90 = .ok (.aload_n 0, 1) := by decide +kernel
theorem dX5_readNumber_91 : decode cX5_readNumber 91 = .ok (.getfield 18, 3) := by decide +kernel
theorem dX5_readNumber_94 : decode cX5_readNumber 94 = .ok (.iconst 3, 1) := by decide +kernel
theorem dX5_readNumber_95 : decode cX5_readNumber 95 = .ok (.imul, 1) := by decide +kernel
theorem dX5_readNumber_96 : decode cX5_readNumber 96 = .ok (.iload_n 2, 1) := by decide +kernel
theorem dX5_readNumber_97 : decode cX5_readNumber 97 = .ok (.iadd, 1) := by decide +kernel
theorem dX5_readNumber_98 : decode cX5_readNumber 98 = .ok (.iload 4, 2) := by decide +kernel
theorem dX5_readNumber_100 : decode cX5_readNumber 100 = .ok (.invokestatic 56, 3) := by decide +kernel
theorem dX5_readNumber_103 : decode cX5_readNumber 103 = .ok (.iconst 1, 1) := by decide +kernel
theorem dX5_readNumber_104 : decode cX5_readNumber 104 = .ok (.ireturn, 1) := by decide +kernel
theorem dX5_isDigit_0 : decode cX5_isDigit 0 = .ok (.iload_n 0, 1) := by decide +kernel
theorem dX5_isDigit_1 : decode cX5_isDigit 1 = .ok (.bipush 48, 2) := by decide +kernel
theorem dX5_isDigit_3 : decode cX5_isDigit 3 = .ok (.if_icmp .lt 13, 3) := by decide +kernel
theorem dX5_isDigit_6 : decode cX5_isDigit 6 = .ok (.iload_n 0, 1) := by decide +kernel
theorem dX5_isDigit_7 : decode cX5_isDigit 7 = .ok (.bipush 57, 2) := by decide +kernel
theorem dX5_isDigit_9 : decode cX5_isDigit 9 = .ok (.if_icmp .gt 7, 3) := by decide +kernel
theorem dX5_isDigit_12 : decode cX5_isDigit 12 = .ok (.iconst 1, 1) := by decide +kernel
theorem dX5_isDigit_13 : decode cX5_isDigit 13 = .ok (.goto 4, 3) := by decide +kernel
theorem dX5_isDigit_16 : decode cX5_isDigit 16 = .ok (.iconst 0, 1) := by decide +kernel
theorem dX5_isDigit_17 : decode cX5_isDigit 17 = .ok (.ireturn, 1) := by decide +kernel
theorem dX6_init_0 : decode cX6_init 0 = .ok (.aload_n 0, 1) := by decide +kernel
theorem dX6_init_1 : decode cX6_init 1 = .ok (.invokespecial 3, 3) := by decide +kernel
theorem dX6_init_4 : decode cX6_init 4 = .ok (.aload_n 0, 1) := by decide +kernel
theorem dX6_init_5 : decode cX6_init 5 = .ok (.iconst 3, 1) := by decide +kernel
theorem dX6_init_6 : decode cX6_init 6 = .ok (.newarray .int, 2) := by decide +kernel
theorem dX6_init_8 : decode cX6_init 8 = .ok (.putfield 11, 3) := by decide +kernel
theorem dX6_init_11 : decode cX6_init 11 = .ok (.aload_n 0, 1) := by decide +kernel
theorem dX6_init_12 : decode cX6_init 12 = .ok (.iconst 3, 1) := by decide +kernel
theorem dX6_init_13 : decode cX6_init 13 = .ok (.newarray .int, 2) := by decide +kernel
theorem dX6_init_15 : decode cX6_init 15 = .ok (.putfield 15, 3) := by decide +kernel
theorem dX6_init_18 : decode cX6_init 18 = .ok (.aload_n 0, 1) := by decide +kernel
theorem dX6_init_19 : decode cX6_init 19 = .ok (.iconst 0, 1) := by decide +kernel
theorem dX6_init_20 : decode cX6_init 20 = .ok (.putfield 18, 3) := by decide +kernel
theorem dX6_init_23 : decode cX6_init 23 = .ok (.return_, 1) := by decide +kernel
theorem dX6_refuse_0 : decode cX6_refuse 0 = .ok (.aload_n 0, 1) := by decide +kernel
theorem dX6_refuse_1 : decode cX6_refuse 1 = .ok (.iconst 0, 1) := by decide +kernel
theorem dX6_refuse_2 : decode cX6_refuse 2 = .ok (.putfield 18, 3) := by decide +kernel
theorem dX6_refuse_5 : decode cX6_refuse 5 = .ok (.aload_n 0, 1) := by decide +kernel
theorem dX6_refuse_6 : decode cX6_refuse 6 = .ok (.iload_n 1, 1) := by decide +kernel
theorem dX6_refuse_7 : decode cX6_refuse 7 = .ok (.iload_n 2, 1) := by decide +kernel
theorem dX6_refuse_8 : decode cX6_refuse 8 = .ok (.invokevirtual 22, 3) := by decide +kernel
theorem dX6_refuse_11 : decode cX6_refuse 11 = .ok (.bipush (-3), 2) := by decide +kernel
theorem dX6_refuse_13 : decode cX6_refuse 13 = .ok (.ireturn, 1) := by decide +kernel
theorem dX6_refuseShut_0 : decode cX6_refuseShut 0 = .ok (.aload_n 0, 1) := by decide +kernel
theorem dX6_refuseShut_1 : decode cX6_refuseShut 1 = .ok (.bipush 6, 2) := by decide +kernel
theorem dX6_refuseShut_3 : decode cX6_refuseShut 3 = .ok (.iload_n 1, 1) := by decide +kernel
theorem dX6_refuseShut_4 : decode cX6_refuseShut 4 = .ok (.invokevirtual 26, 3) := by decide +kernel
theorem dX6_refuseShut_7 : decode cX6_refuseShut 7 = .ok (.pop, 1) := by decide +kernel
theorem dX6_refuseShut_8 : decode cX6_refuseShut 8 = .ok (.aload_n 0, 1) := by decide +kernel
theorem dX6_refuseShut_9 : decode cX6_refuseShut 9 = .ok (.bipush 13, 2) := by decide +kernel
theorem dX6_refuseShut_11 : decode cX6_refuseShut 11 = .ok (.iload_n 2, 1) := by decide +kernel
theorem dX6_refuseShut_12 : decode cX6_refuseShut 12 = .ok (.invokevirtual 22, 3) := by decide +kernel
theorem dX6_refuseShut_15 : decode cX6_refuseShut 15 = .ok (.bipush (-3), 2) := by decide +kernel
theorem dX6_refuseShut_17 : decode cX6_refuseShut 17 = .ok (.ireturn, 1) := by decide +kernel
theorem dX6_refuseOrder_0 : decode cX6_refuseOrder 0 = .ok (.iload_n 2, 1) := by decide +kernel
theorem dX6_refuseOrder_1 : decode cX6_refuseOrder 1 = .ok (.ifCond .eq 10, 3) := by decide +kernel
theorem dX6_refuseOrder_4 : decode cX6_refuseOrder 4 = .ok (.aload_n 0, 1) := by decide +kernel
theorem dX6_refuseOrder_5 : decode cX6_refuseOrder 5 = .ok (.getfield 18, 3) := by decide +kernel
theorem dX6_refuseOrder_8 : decode cX6_refuseOrder 8 = .ok (.goto 4, 3) := by decide +kernel
theorem dX6_refuseOrder_11 : decode cX6_refuseOrder 11 = .ok (.iconst 0, 1) := by decide +kernel
theorem dX6_refuseOrder_12 : decode cX6_refuseOrder 12 = .ok (.istore_n 3, 1) := by decide +kernel
theorem dX6_refuseOrder_13 : decode cX6_refuseOrder 13 = .ok (.iload_n 3, 1) := by decide +kernel
theorem dX6_refuseOrder_14 : decode cX6_refuseOrder 14 = .ok (.istore 4, 2) := by decide +kernel
theorem dX6_refuseOrder_16 : decode cX6_refuseOrder 16 = .ok (.iload 4, 2) := by decide +kernel
theorem dX6_refuseOrder_18 : decode cX6_refuseOrder 18 = .ok (.ifCond .le 49, 3) := by decide +kernel
theorem dX6_refuseOrder_21 : decode cX6_refuseOrder 21 = .ok (.aload_n 0, 1) := by decide +kernel
theorem dX6_refuseOrder_22 : decode cX6_refuseOrder 22 = .ok (.getfield 11, 3) := by decide +kernel
theorem dX6_refuseOrder_25 : decode cX6_refuseOrder 25 = .ok (.iload 4, 2) := by decide +kernel
theorem dX6_refuseOrder_27 : decode cX6_refuseOrder 27 = .ok (.aload_n 0, 1) := by decide +kernel
theorem dX6_refuseOrder_28 : decode cX6_refuseOrder 28 = .ok (.getfield 11, 3) := by decide +kernel
theorem dX6_refuseOrder_31 : decode cX6_refuseOrder 31 = .ok (.iload 4, 2) := by decide +kernel
theorem dX6_refuseOrder_33 : decode cX6_refuseOrder 33 = .ok (.iconst 1, 1) := by decide +kernel
theorem dX6_refuseOrder_34 : decode cX6_refuseOrder 34 = .ok (.isub, 1) := by decide +kernel
theorem dX6_refuseOrder_35 : decode cX6_refuseOrder 35 = .ok (.invokestatic 30, 3) := by decide +kernel
theorem dX6_refuseOrder_38 : decode cX6_refuseOrder 38 = .ok (.invokestatic 34, 3) := by decide +kernel
theorem dX6_refuseOrder_41 : decode cX6_refuseOrder 41 = .ok (.aload_n 0, 1) := by decide +kernel
theorem dX6_refuseOrder_42 : decode cX6_refuseOrder 42 = .ok (.getfield 15, 3) := by decide +kernel
theorem dX6_refuseOrder_45 : decode cX6_refuseOrder 45 = .ok (.iload 4, 2) := by decide +kernel
theorem dX6_refuseOrder_47 : decode cX6_refuseOrder 47 = .ok (.aload_n 0, 1) := by decide +kernel
theorem dX6_refuseOrder_48 : decode cX6_refuseOrder 48 = .ok (.getfield 15, 3) := by decide +kernel
theorem dX6_refuseOrder_51 : decode cX6_refuseOrder 51 = .ok (.iload 4, 2) := by decide +kernel
theorem dX6_refuseOrder_53 : decode cX6_refuseOrder 53 = .ok (.iconst 1, 1) := by decide +kernel
theorem dX6_refuseOrder_54 : decode cX6_refuseOrder 54 = .ok (.isub, 1) := by decide +kernel
theorem dX6_refuseOrder_55 : decode cX6_refuseOrder 55 = .ok (.invokestatic 30, 3) := by decide +kernel
theorem dX6_refuseOrder_58 : decode cX6_refuseOrder 58 = .ok (.invokestatic 34, 3) := by decide +kernel
theorem dX6_refuseOrder_61 : decode cX6_refuseOrder 61 = .ok (.iinc 4 (-1), 3) := by decide +kernel
theorem dX6_refuseOrder_64 : decode cX6_refuseOrder 64 = .ok (.goto (-48), 3) := by decide +kernel
theorem dX6_refuseOrder_67 : decode cX6_refuseOrder 67 = .ok (.aload_n 0, 1) := by decide +kernel
theorem dX6_refuseOrder_68 : decode cX6_refuseOrder 68 = .ok (.getfield 11, 3) := by decide +kernel
theorem dX6_refuseOrder_71 : decode cX6_refuseOrder 71 = .ok (.iconst 0, 1) := by decide +kernel
theorem dX6_refuseOrder_72 : decode cX6_refuseOrder 72 = .ok (.bipush 12, 2) := by decide +kernel
theorem dX6_refuseOrder_74 : decode cX6_refuseOrder 74 = .ok (.invokestatic 34, 3) := by decide +kernel
theorem dX6_refuseOrder_77 : decode cX6_refuseOrder 77 = .ok (.aload_n 0, 1) := by decide +kernel
theorem dX6_refuseOrder_78 : decode cX6_refuseOrder 78 = .ok (.getfield 15, 3) := by decide +kernel
theorem dX6_refuseOrder_81 : decode cX6_refuseOrder 81 = .ok (.iconst 0, 1) := by decide +kernel
theorem dX6_refuseOrder_82 : decode cX6_refuseOrder 82 = .ok (.iload_n 1, 1) := by decide +kernel
theorem dX6_refuseOrder_83 : decode cX6_refuseOrder 83 = .ok (.invokestatic 34, 3) := by decide +kernel
theorem dX6_refuseOrder_86 : decode cX6_refuseOrder 86 = .ok (.aload_n 0, 1) := by decide +kernel
theorem dX6_refuseOrder_87 : decode cX6_refuseOrder 87 = .ok (.iload_n 3, 1) := by decide +kernel
theorem dX6_refuseOrder_88 : decode cX6_refuseOrder 88 = .ok (.iconst 1, 1) := by decide +kernel
theorem dX6_refuseOrder_89 : decode cX6_refuseOrder 89 = .ok (.iadd, 1) := by decide +kernel
theorem dX6_refuseOrder_90 : decode cX6_refuseOrder 90 = .ok (.iconst 3, 1) := by decide +kernel
theorem dX6_refuseOrder_91 : decode cX6_refuseOrder 91 = .ok (.invokestatic 38, 3) := by decide +kernel
theorem dX6_refuseOrder_94 : decode cX6_refuseOrder 94 = .ok (.putfield 18, 3) := by decide +kernel
theorem dX6_refuseOrder_97 : decode cX6_refuseOrder 97 = .ok (.bipush (-3), 2) := by decide +kernel
theorem dX6_refuseOrder_99 : decode cX6_refuseOrder 99 = .ok (.ireturn, 1) := by decide +kernel
theorem dX6_tell_0 : decode cX6_tell 0 = .ok (.iload_n 1, 1) := by decide +kernel
theorem dX6_tell_1 : decode cX6_tell 1 = .ok (.ifCond .ge 6, 3) := by decide +kernel
theorem dX6_tell_4 : decode cX6_tell 4 = .ok (.bipush (-2), 2) := by decide +kernel
theorem dX6_tell_6 : decode cX6_tell 6 = .ok (.ireturn, 1) := by decide +kernel
theorem dX6_tell_7 : decode cX6_tell 7 = .ok (.iload_n 1, 1) := by decide +kernel
theorem dX6_tell_8 : decode cX6_tell 8 = .ok (.aload_n 0, 1) := by decide +kernel
theorem dX6_tell_9 : decode cX6_tell 9 = .ok (.getfield 18, 3) := by decide +kernel
theorem dX6_tell_12 : decode cX6_tell 12 = .ok (.if_icmp .lt 6, 3) := by decide +kernel
theorem dX6_tell_15 : decode cX6_tell 15 = .ok (.bipush (-4), 2) := by decide +kernel
theorem dX6_tell_17 : decode cX6_tell 17 = .ok (.ireturn, 1) := by decide +kernel
theorem dX6_tell_18 : decode cX6_tell 18 = .ok (.iload_n 2, 1) := by decide +kernel
theorem dX6_tell_19 : decode cX6_tell 19 = .ok (.ifCond .eq 10, 3) := by decide +kernel
theorem dX6_tell_22 : decode cX6_tell 22 = .ok (.aload_n 0, 1) := by decide +kernel
theorem dX6_tell_23 : decode cX6_tell 23 = .ok (.getfield 15, 3) := by decide +kernel
theorem dX6_tell_26 : decode cX6_tell 26 = .ok (.goto 7, 3) := by decide +kernel
theorem dX6_tell_29 : decode cX6_tell 29 = .ok (.aload_n 0, 1) := by decide +kernel
theorem dX6_tell_30 : decode cX6_tell 30 = .ok (.getfield 11, 3) := by decide +kernel
theorem dX6_tell_33 : decode cX6_tell 33 = .ok (.iload_n 1, 1) := by decide +kernel
theorem dX6_tell_34 : decode cX6_tell 34 = .ok (.invokestatic 30, 3) := by decide +kernel
theorem dX6_tell_37 : decode cX6_tell 37 = .ok (.ireturn, 1) := by decide +kernel
theorem dX6_putBehind_0 : decode cX6_putBehind 0 = .ok (.aload_n 0, 1) := by decide +kernel
theorem dX6_putBehind_1 : decode cX6_putBehind 1 = .ok (.getfield 11, 3) := by decide +kernel
theorem dX6_putBehind_4 : decode cX6_putBehind 4 = .ok (.aload_n 0, 1) := by decide +kernel
theorem dX6_putBehind_5 : decode cX6_putBehind 5 = .ok (.getfield 18, 3) := by decide +kernel
theorem dX6_putBehind_8 : decode cX6_putBehind 8 = .ok (.iload_n 1, 1) := by decide +kernel
theorem dX6_putBehind_9 : decode cX6_putBehind 9 = .ok (.invokestatic 34, 3) := by decide +kernel
theorem dX6_putBehind_12 : decode cX6_putBehind 12 = .ok (.aload_n 0, 1) := by decide +kernel
theorem dX6_putBehind_13 : decode cX6_putBehind 13 = .ok (.getfield 15, 3) := by decide +kernel
theorem dX6_putBehind_16 : decode cX6_putBehind 16 = .ok (.aload_n 0, 1) := by decide +kernel
theorem dX6_putBehind_17 : decode cX6_putBehind 17 = .ok (.getfield 18, 3) := by decide +kernel
theorem dX6_putBehind_20 : decode cX6_putBehind 20 = .ok (.iload_n 2, 1) := by decide +kernel
theorem dX6_putBehind_21 : decode cX6_putBehind 21 = .ok (.invokestatic 34, 3) := by decide +kernel
theorem dX6_putBehind_24 : decode cX6_putBehind 24 = .ok (.aload_n 0, 1) := by decide +kernel
theorem dX6_putBehind_25 : decode cX6_putBehind 25 = .ok (.dup, 1) := by decide +kernel
theorem dX6_putBehind_26 : decode cX6_putBehind 26 = .ok (.getfield 18, 3) := by decide +kernel
theorem dX6_putBehind_29 : decode cX6_putBehind 29 = .ok (.iconst 1, 1) := by decide +kernel
theorem dX6_putBehind_30 : decode cX6_putBehind 30 = .ok (.iadd, 1) := by decide +kernel
theorem dX6_putBehind_31 : decode cX6_putBehind 31 = .ok (.putfield 18, 3) := by decide +kernel
theorem dX6_putBehind_34 : decode cX6_putBehind 34 = .ok (.return_, 1) := by decide +kernel
theorem dX7_init_0 : decode cX7_init 0 = .ok (.aload_n 0, 1) := by decide +kernel
theorem dX7_init_1 : decode cX7_init 1 = .ok (.invokespecial 3, 3) := by decide +kernel
theorem dX7_init_4 : decode cX7_init 4 = .ok (.aload_n 0, 1) := by decide +kernel
theorem dX7_init_5 : decode cX7_init 5 = .ok (.new 9, 3) := by decide +kernel
theorem dX7_init_8 : decode cX7_init 8 = .ok (.dup, 1) := by decide +kernel
theorem dX7_init_9 : decode cX7_init 9 = .ok (.invokespecial 11, 3) := by decide +kernel
theorem dX7_init_12 : decode cX7_init 12 = .ok (.putfield 12, 3) := by decide +kernel
theorem dX7_init_15 : decode cX7_init 15 = .ok (.aload_n 0, 1) := by decide +kernel
theorem dX7_init_16 : decode cX7_init 16 = .ok (.new 18, 3) := by decide +kernel
theorem dX7_init_19 : decode cX7_init 19 = .ok (.dup, 1) := by decide +kernel
theorem dX7_init_20 : decode cX7_init 20 = .ok (.invokespecial 20, 3) := by decide +kernel
theorem dX7_init_23 : decode cX7_init 23 = .ok (.putfield 21, 3) := by decide +kernel
theorem dX7_init_26 : decode cX7_init 26 = .ok (.aload_n 0, 1) := by decide +kernel
theorem dX7_init_27 : decode cX7_init 27 = .ok (.new 25, 3) := by decide +kernel
theorem dX7_init_30 : decode cX7_init 30 = .ok (.dup, 1) := by decide +kernel
theorem dX7_init_31 : decode cX7_init 31 = .ok (.invokespecial 27, 3) := by decide +kernel
theorem dX7_init_34 : decode cX7_init 34 = .ok (.putfield 28, 3) := by decide +kernel
theorem dX7_init_37 : decode cX7_init 37 = .ok (.aload_n 0, 1) := by decide +kernel
theorem dX7_init_38 : decode cX7_init 38 = .ok (.new 32, 3) := by decide +kernel
theorem dX7_init_41 : decode cX7_init 41 = .ok (.dup, 1) := by decide +kernel
theorem dX7_init_42 : decode cX7_init 42 = .ok (.invokespecial 34, 3) := by decide +kernel
theorem dX7_init_45 : decode cX7_init 45 = .ok (.putfield 35, 3) := by decide +kernel
theorem dX7_init_48 : decode cX7_init 48 = .ok (.aload_n 0, 1) := by decide +kernel
theorem dX7_init_49 : decode cX7_init 49 = .ok (.iconst 0, 1) := by decide +kernel
theorem dX7_init_50 : decode cX7_init 50 = .ok (.putfield 39, 3) := by decide +kernel
theorem dX7_init_53 : decode cX7_init 53 = .ok (.aload_n 0, 1) := by decide +kernel
theorem dX7_init_54 : decode cX7_init 54 = .ok (.iconst 0, 1) := by decide +kernel
theorem dX7_init_55 : decode cX7_init 55 = .ok (.putfield 43, 3) := by decide +kernel
theorem dX7_init_58 : decode cX7_init 58 = .ok (.aload_n 0, 1) := by decide +kernel
theorem dX7_init_59 : decode cX7_init 59 = .ok (.bipush 60, 2) := by decide +kernel
theorem dX7_init_61 : decode cX7_init 61 = .ok (.putfield 46, 3) := by decide +kernel
theorem dX7_init_64 : decode cX7_init 64 = .ok (.aload_n 0, 1) := by decide +kernel
theorem dX7_init_65 : decode cX7_init 65 = .ok (.bipush 20, 2) := by decide +kernel
theorem dX7_init_67 : decode cX7_init 67 = .ok (.putfield 49, 3) := by decide +kernel
theorem dX7_init_70 : decode cX7_init 70 = .ok (.aload_n 0, 1) := by decide +kernel
theorem dX7_init_71 : decode cX7_init 71 = .ok (.iconst 0, 1) := by decide +kernel
theorem dX7_init_72 : decode cX7_init 72 = .ok (.putfield 52, 3) := by decide +kernel
theorem dX7_init_75 : decode cX7_init 75 = .ok (.aload_n 0, 1) := by decide +kernel
theorem dX7_init_76 : decode cX7_init 76 = .ok (.iconst 0, 1) := by decide +kernel
theorem dX7_init_77 : decode cX7_init 77 = .ok (.putfield 55, 3) := by decide +kernel
theorem dX7_init_80 : decode cX7_init 80 = .ok (.aload_n 0, 1) := by decide +kernel
theorem dX7_init_81 : decode cX7_init 81 = .ok (.iconst 0, 1) := by decide +kernel
theorem dX7_init_82 : decode cX7_init 82 = .ok (.putfield 58, 3) := by decide +kernel
theorem dX7_init_85 : decode cX7_init 85 = .ok (.aload_n 0, 1) := by decide +kernel
theorem dX7_init_86 : decode cX7_init 86 = .ok (.iconst 0, 1) := by decide +kernel
theorem dX7_init_87 : decode cX7_init 87 = .ok (.putfield 61, 3) := by decide +kernel
theorem dX7_init_90 : decode cX7_init 90 = .ok (.aload_n 0, 1) := by decide +kernel
theorem dX7_init_91 : decode cX7_init 91 = .ok (.iconst 0, 1) := by decide +kernel
theorem dX7_init_92 : decode cX7_init 92 = .ok (.putfield 64, 3) := by decide +kernel
theorem dX7_init_95 : decode cX7_init 95 = .ok (.aload_n 0, 1) := by decide +kernel
theorem dX7_init_96 : decode cX7_init 96 = .ok (.iconst 0, 1) := by decide +kernel
theorem dX7_init_97 : decode cX7_init 97 = .ok (.putfield 67, 3) := by decide +kernel
theorem dX7_init_100 : decode cX7_init 100 = .ok (.return_, 1) := by decide +kernel
theorem dX7_isWarned_0 : decode cX7_isWarned 0 = .ok (.aload_n 0, 1) := by decide +kernel
theorem dX7_isWarned_1 : decode cX7_isWarned 1 = .ok (.getfield 43, 3) := by decide +kernel
theorem dX7_isWarned_4 : decode cX7_isWarned 4 = .ok (.iconst 3, 1) := by decide +kernel
theorem dX7_isWarned_5 : decode cX7_isWarned 5 = .ok (.if_icmp .lt 7, 3) := by decide +kernel
theorem dX7_isWarned_8 : decode cX7_isWarned 8 = .ok (.iconst 1, 1) := by decide +kernel
theorem dX7_isWarned_9 : decode cX7_isWarned 9 = .ok (.goto 4, 3) := by decide +kernel
theorem dX7_isWarned_12 : decode cX7_isWarned 12 = .ok (.iconst 0, 1) := by decide +kernel
theorem dX7_isWarned_13 : decode cX7_isWarned 13 = .ok (.ireturn, 1) := by decide +kernel
theorem dX7_passDay_0 : decode cX7_passDay 0 = .ok (.iconst 0, 1) := by decide +kernel
theorem dX7_passDay_1 : decode cX7_passDay 1 = .ok (.istore_n 1, 1) := by decide +kernel
theorem dX7_passDay_2 : decode cX7_passDay 2 = .ok (.iload_n 1, 1) := by decide +kernel
theorem dX7_passDay_3 : decode cX7_passDay 3 = .ok (.aload_n 0, 1) := by decide +kernel
theorem dX7_passDay_4 : decode cX7_passDay 4 = .ok (.getfield 28, 3) := by decide +kernel
theorem dX7_passDay_7 : decode cX7_passDay 7 = .ok (.getfield 70, 3) := by decide +kernel
theorem dX7_passDay_10 : decode cX7_passDay 10 = .ok (.if_icmp .ge 22, 3) := by decide +kernel
theorem dX7_passDay_13 : decode cX7_passDay 13 = .ok (.aload_n 0, 1) := by decide +kernel
theorem dX7_passDay_14 : decode cX7_passDay 14 = .ok (.iload_n 1, 1) := by decide +kernel
theorem dX7_passDay_15 : decode cX7_passDay 15 = .ok (.invokevirtual 73, 3) := by decide +kernel
theorem dX7_passDay_18 : decode cX7_passDay 18 = .ok (.ifCond .eq 8, 3) := by decide +kernel
theorem dX7_passDay_21 : decode cX7_passDay 21 = .ok (.aload_n 0, 1) := by decide +kernel
theorem dX7_passDay_22 : decode cX7_passDay 22 = .ok (.iload_n 1, 1) := by decide +kernel
theorem dX7_passDay_23 : decode cX7_passDay 23 = .ok (.invokevirtual 77, 3) := by decide +kernel
theorem dX7_passDay_26 : decode cX7_passDay 26 = .ok (.iinc 1 1, 3) := by decide +kernel
theorem dX7_passDay_29 : decode cX7_passDay 29 = .ok (.goto (-27), 3) := by decide +kernel
theorem dX7_passDay_32 : decode cX7_passDay 32 = .ok (.aload_n 0, 1) := by decide +kernel
theorem dX7_passDay_33 : decode cX7_passDay 33 = .ok (.getfield 43, 3) := by decide +kernel
theorem dX7_passDay_36 : decode cX7_passDay 36 = .ok (.bipush 8, 2) := by decide +kernel
theorem dX7_passDay_38 : decode cX7_passDay 38 = .ok (.if_icmp .lt 7, 3) := by decide +kernel
theorem dX7_passDay_41 : decode cX7_passDay 41 = .ok (.iconst 1, 1) := by decide +kernel
theorem dX7_passDay_42 : decode cX7_passDay 42 = .ok (.goto 4, 3) := by decide +kernel
theorem dX7_passDay_45 : decode cX7_passDay 45 = .ok (.iconst 0, 1) := by decide +kernel
theorem dX7_passDay_46 : decode cX7_passDay 46 = .ok (.istore_n 1, 1) := by decide +kernel
theorem dX7_passDay_47 : decode cX7_passDay 47 = .ok (.aload_n 0, 1) := by decide +kernel
theorem dX7_passDay_48 : decode cX7_passDay 48 = .ok (.getfield 21, 3) := by decide +kernel
theorem dX7_passDay_51 : decode cX7_passDay 51 = .ok (.iload_n 1, 1) := by decide +kernel
theorem dX7_passDay_52 : decode cX7_passDay 52 = .ok (.ifCond .eq 7, 3) := by decide +kernel
theorem dX7_passDay_55 : decode cX7_passDay 55 = .ok (.iconst 4, 1) := by decide +kernel
theorem dX7_passDay_56 : decode cX7_passDay 56 = .ok (.goto 4, 3) := by decide +kernel
theorem dX7_passDay_59 : decode cX7_passDay 59 = .ok (.iconst 1, 1) := by decide +kernel
theorem dX7_passDay_60 : decode cX7_passDay 60 = .ok (.invokevirtual 81, 3) := by decide +kernel
theorem dX7_passDay_63 : decode cX7_passDay 63 = .ok (.iload_n 1, 1) := by decide +kernel
theorem dX7_passDay_64 : decode cX7_passDay 64 = .ok (.ifCond .eq 18, 3) := by decide +kernel
theorem dX7_passDay_67 : decode cX7_passDay 67 = .ok (.aload_n 0, 1) := by decide +kernel
theorem dX7_passDay_68 : decode cX7_passDay 68 = .ok (.aload_n 0, 1) := by decide +kernel
theorem dX7_passDay_69 : decode cX7_passDay 69 = .ok (.getfield 21, 3) := by decide +kernel
theorem dX7_passDay_72 : decode cX7_passDay 72 = .ok (.aload_n 0, 1) := by decide +kernel
theorem dX7_passDay_73 : decode cX7_passDay 73 = .ok (.getfield 43, 3) := by decide +kernel
theorem dX7_passDay_76 : decode cX7_passDay 76 = .ok (.invokevirtual 84, 3) := by decide +kernel
theorem dX7_passDay_79 : decode cX7_passDay 79 = .ok (.invokevirtual 88, 3) := by decide +kernel
theorem dX7_passDay_82 : decode cX7_passDay 82 = .ok (.aload_n 0, 1) := by decide +kernel
theorem dX7_passDay_83 : decode cX7_passDay 83 = .ok (.dup, 1) := by decide +kernel
theorem dX7_passDay_84 : decode cX7_passDay 84 = .ok (.getfield 39, 3) := by decide +kernel
theorem dX7_passDay_87 : decode cX7_passDay 87 = .ok (.iconst 1, 1) := by decide +kernel
theorem dX7_passDay_88 : decode cX7_passDay 88 = .ok (.iadd, 1) := by decide +kernel
theorem dX7_passDay_89 : decode cX7_passDay 89 = .ok (.putfield 39, 3) := by decide +kernel
theorem dX7_passDay_92 : decode cX7_passDay 92 = .ok (.aload_n 0, 1) := by decide +kernel
theorem dX7_passDay_93 : decode cX7_passDay 93 = .ok (.bipush 20, 2) := by decide +kernel
theorem dX7_passDay_95 : decode cX7_passDay 95 = .ok (.putfield 49, 3) := by decide +kernel
theorem dX7_passDay_98 : decode cX7_passDay 98 = .ok (.aload_n 0, 1) := by decide +kernel
theorem dX7_passDay_99 : decode cX7_passDay 99 = .ok (.getfield 39, 3) := by decide +kernel
theorem dX7_passDay_102 : decode cX7_passDay 102 = .ok (.bipush 7, 2) := by decide +kernel
theorem dX7_passDay_104 : decode cX7_passDay 104 = .ok (.irem, 1) := by decide +kernel
theorem dX7_passDay_105 : decode cX7_passDay 105 = .ok (.ifCond .ne 17, 3) := by decide +kernel
theorem dX7_passDay_108 : decode cX7_passDay 108 = .ok (.aload_n 0, 1) := by decide +kernel
theorem dX7_passDay_109 : decode cX7_passDay 109 = .ok (.getfield 12, 3) := by decide +kernel
theorem dX7_passDay_112 : decode cX7_passDay 112 = .ok (.invokevirtual 91, 3) := by decide +kernel
theorem dX7_passDay_115 : decode cX7_passDay 115 = .ok (.aload_n 0, 1) := by decide +kernel
theorem dX7_passDay_116 : decode cX7_passDay 116 = .ok (.getfield 21, 3) := by decide +kernel
theorem dX7_passDay_119 : decode cX7_passDay 119 = .ok (.invokevirtual 94, 3) := by decide +kernel
theorem dX7_passDay_122 : decode cX7_passDay 122 = .ok (.return_, 1) := by decide +kernel
theorem dX7_wouldWork_0 : decode cX7_wouldWork 0 = .ok (.aload_n 0, 1) := by decide +kernel
theorem dX7_wouldWork_1 : decode cX7_wouldWork 1 = .ok (.getfield 28, 3) := by decide +kernel
theorem dX7_wouldWork_4 : decode cX7_wouldWork 4 = .ok (.iload_n 1, 1) := by decide +kernel
theorem dX7_wouldWork_5 : decode cX7_wouldWork 5 = .ok (.invokevirtual 97, 3) := by decide +kernel
theorem dX7_wouldWork_8 : decode cX7_wouldWork 8 = .ok (.ifCond .ne 5, 3) := by decide +kernel
theorem dX7_wouldWork_11 : decode cX7_wouldWork 11 = .ok (.iconst 0, 1) := by decide +kernel
theorem dX7_wouldWork_12 : decode cX7_wouldWork 12 = .ok (.ireturn, 1) := by decide +kernel
theorem dX7_wouldWork_13 : decode cX7_wouldWork 13 = .ok (.aload_n 0, 1) := by decide +kernel
theorem dX7_wouldWork_14 : decode cX7_wouldWork 14 = .ok (.getfield 28, 3) := by decide +kernel
theorem dX7_wouldWork_17 : decode cX7_wouldWork 17 = .ok (.iload_n 1, 1) := by decide +kernel
theorem dX7_wouldWork_18 : decode cX7_wouldWork 18 = .ok (.invokevirtual 100, 3) := by decide +kernel
theorem dX7_wouldWork_21 : decode cX7_wouldWork 21 = .ok (.istore_n 2, 1) := by decide +kernel
theorem dX7_wouldWork_22 : decode cX7_wouldWork 22 = .ok (.aload_n 0, 1) := by decide +kernel
theorem dX7_wouldWork_23 : decode cX7_wouldWork 23 = .ok (.getfield 21, 3) := by decide +kernel
theorem dX7_wouldWork_26 : decode cX7_wouldWork 26 = .ok (.iload_n 2, 1) := by decide +kernel
theorem dX7_wouldWork_27 : decode cX7_wouldWork 27 = .ok (.invokevirtual 103, 3) := by decide +kernel
theorem dX7_wouldWork_30 : decode cX7_wouldWork 30 = .ok (.bipush (-4), 2) := by decide +kernel
theorem dX7_wouldWork_32 : decode cX7_wouldWork 32 = .ok (.if_icmp .ne 29, 3) := by decide +kernel
theorem dX7_wouldWork_35 : decode cX7_wouldWork 35 = .ok (.aload_n 0, 1) := by decide +kernel
theorem dX7_wouldWork_36 : decode cX7_wouldWork 36 = .ok (.getfield 21, 3) := by decide +kernel
theorem dX7_wouldWork_39 : decode cX7_wouldWork 39 = .ok (.iload_n 2, 1) := by decide +kernel
theorem dX7_wouldWork_40 : decode cX7_wouldWork 40 = .ok (.invokevirtual 106, 3) := by decide +kernel
theorem dX7_wouldWork_43 : decode cX7_wouldWork 43 = .ok (.ifCond .le 18, 3) := by decide +kernel
theorem dX7_wouldWork_46 : decode cX7_wouldWork 46 = .ok (.aload_n 0, 1) := by decide +kernel
theorem dX7_wouldWork_47 : decode cX7_wouldWork 47 = .ok (.getfield 21, 3) := by decide +kernel
theorem dX7_wouldWork_50 : decode cX7_wouldWork 50 = .ok (.iload_n 2, 1) := by decide +kernel
theorem dX7_wouldWork_51 : decode cX7_wouldWork 51 = .ok (.invokevirtual 109, 3) := by decide +kernel
theorem dX7_wouldWork_54 : decode cX7_wouldWork 54 = .ok (.ifCond .le 7, 3) := by decide +kernel
theorem dX7_wouldWork_57 : decode cX7_wouldWork 57 = .ok (.iconst 1, 1) := by decide +kernel
theorem dX7_wouldWork_58 : decode cX7_wouldWork 58 = .ok (.goto 4, 3) := by decide +kernel
theorem dX7_wouldWork_61 : decode cX7_wouldWork 61 = .ok (.iconst 0, 1) := by decide +kernel
theorem dX7_wouldWork_62 : decode cX7_wouldWork 62 = .ok (.ireturn, 1) := by decide +kernel
theorem dX7_letWork_0 : decode cX7_letWork 0 = .ok (.aload_n 0, 1) := by decide +kernel
theorem dX7_letWork_1 : decode cX7_letWork 1 = .ok (.getfield 28, 3) := by decide +kernel
theorem dX7_letWork_4 : decode cX7_letWork 4 = .ok (.iload_n 1, 1) := by decide +kernel
theorem dX7_letWork_5 : decode cX7_letWork 5 = .ok (.invokevirtual 100, 3) := by decide +kernel
theorem dX7_letWork_8 : decode cX7_letWork 8 = .ok (.istore_n 2, 1) := by decide +kernel
theorem dX7_letWork_9 : decode cX7_letWork 9 = .ok (.aload_n 0, 1) := by decide +kernel
theorem dX7_letWork_10 : decode cX7_letWork 10 = .ok (.getfield 28, 3) := by decide +kernel
theorem dX7_letWork_13 : decode cX7_letWork 13 = .ok (.iload_n 1, 1) := by decide +kernel
theorem dX7_letWork_14 : decode cX7_letWork 14 = .ok (.invokevirtual 112, 3) := by decide +kernel
theorem dX7_letWork_17 : decode cX7_letWork 17 = .ok (.aload_n 0, 1) := by decide +kernel
theorem dX7_letWork_18 : decode cX7_letWork 18 = .ok (.getfield 21, 3) := by decide +kernel
theorem dX7_letWork_21 : decode cX7_letWork 21 = .ok (.iload_n 2, 1) := by decide +kernel
theorem dX7_letWork_22 : decode cX7_letWork 22 = .ok (.invokevirtual 106, 3) := by decide +kernel
theorem dX7_letWork_25 : decode cX7_letWork 25 = .ok (.invokestatic 115, 3) := by decide +kernel
theorem dX7_letWork_28 : decode cX7_letWork 28 = .ok (.istore_n 3, 1) := by decide +kernel
theorem dX7_letWork_29 : decode cX7_letWork 29 = .ok (.aload_n 0, 1) := by decide +kernel
theorem dX7_letWork_30 : decode cX7_letWork 30 = .ok (.getfield 21, 3) := by decide +kernel
theorem dX7_letWork_33 : decode cX7_letWork 33 = .ok (.iload_n 2, 1) := by decide +kernel
theorem dX7_letWork_34 : decode cX7_letWork 34 = .ok (.iload_n 3, 1) := by decide +kernel
theorem dX7_letWork_35 : decode cX7_letWork 35 = .ok (.invokevirtual 121, 3) := by decide +kernel
theorem dX7_letWork_38 : decode cX7_letWork 38 = .ok (.aload_n 0, 1) := by decide +kernel
theorem dX7_letWork_39 : decode cX7_letWork 39 = .ok (.getfield 28, 3) := by decide +kernel
theorem dX7_letWork_42 : decode cX7_letWork 42 = .ok (.iload_n 1, 1) := by decide +kernel
theorem dX7_letWork_43 : decode cX7_letWork 43 = .ok (.iload_n 3, 1) := by decide +kernel
theorem dX7_letWork_44 : decode cX7_letWork 44 = .ok (.invokevirtual 125, 3) := by decide +kernel
theorem dX7_letWork_47 : decode cX7_letWork 47 = .ok (.aload_n 0, 1) := by decide +kernel
theorem dX7_letWork_48 : decode cX7_letWork 48 = .ok (.dup, 1) := by decide +kernel
theorem dX7_letWork_49 : decode cX7_letWork 49 = .ok (.getfield 58, 3) := by decide +kernel
theorem dX7_letWork_52 : decode cX7_letWork 52 = .ok (.iload_n 3, 1) := by decide +kernel
theorem dX7_letWork_53 : decode cX7_letWork 53 = .ok (.iadd, 1) := by decide +kernel
theorem dX7_letWork_54 : decode cX7_letWork 54 = .ok (.putfield 58, 3) := by decide +kernel
theorem dX7_letWork_57 : decode cX7_letWork 57 = .ok (.return_, 1) := by decide +kernel
theorem dX7_letFallFrom_0 : decode cX7_letFallFrom 0 = .ok (.iload_n 1, 1) := by decide +kernel
theorem dX7_letFallFrom_1 : decode cX7_letFallFrom 1 = .ok (.bipush (-4), 2) := by decide +kernel
theorem dX7_letFallFrom_3 : decode cX7_letFallFrom 3 = .ok (.if_icmp .ne 4, 3) := by decide +kernel
theorem dX7_letFallFrom_6 : decode cX7_letFallFrom 6 = .ok (.return_, 1) := by decide +kernel
theorem dX7_letFallFrom_7 : decode cX7_letFallFrom 7 = .ok (.iload_n 1, 1) := by decide +kernel
theorem dX7_letFallFrom_8 : decode cX7_letFallFrom 8 = .ok (.istore_n 2, 1) := by decide +kernel
theorem dX7_letFallFrom_9 : decode cX7_letFallFrom 9 = .ok (.iload_n 2, 1) := by decide +kernel
theorem dX7_letFallFrom_10 : decode cX7_letFallFrom 10 = .ok (.aload_n 0, 1) := by decide +kernel
theorem dX7_letFallFrom_11 : decode cX7_letFallFrom 11 = .ok (.getfield 21, 3) := by decide +kernel
theorem dX7_letFallFrom_14 : decode cX7_letFallFrom 14 = .ok (.getfield 128, 3) := by decide +kernel
theorem dX7_letFallFrom_17 : decode cX7_letFallFrom 17 = .ok (.if_icmp .ge 53, 3) := by decide +kernel
theorem dX7_letFallFrom_20 : decode cX7_letFallFrom 20 = .ok (.aload_n 0, 1) := by decide +kernel
theorem dX7_letFallFrom_21 : decode cX7_letFallFrom 21 = .ok (.dup, 1) := by decide +kernel
theorem dX7_letFallFrom_22 : decode cX7_letFallFrom 22 = .ok (.getfield 64, 3) := by decide +kernel
theorem dX7_letFallFrom_25 : decode cX7_letFallFrom 25 = .ok (.iconst 1, 1) := by decide +kernel
theorem dX7_letFallFrom_26 : decode cX7_letFallFrom 26 = .ok (.iadd, 1) := by decide +kernel
theorem dX7_letFallFrom_27 : decode cX7_letFallFrom 27 = .ok (.putfield 64, 3) := by decide +kernel
theorem dX7_letFallFrom_30 : decode cX7_letFallFrom 30 = .ok (.aload_n 0, 1) := by decide +kernel
theorem dX7_letFallFrom_31 : decode cX7_letFallFrom 31 = .ok (.dup, 1) := by decide +kernel
theorem dX7_letFallFrom_32 : decode cX7_letFallFrom 32 = .ok (.getfield 67, 3) := by decide +kernel
theorem dX7_letFallFrom_35 : decode cX7_letFallFrom 35 = .ok (.aload_n 0, 1) := by decide +kernel
theorem dX7_letFallFrom_36 : decode cX7_letFallFrom 36 = .ok (.getfield 21, 3) := by decide +kernel
theorem dX7_letFallFrom_39 : decode cX7_letFallFrom 39 = .ok (.iload_n 2, 1) := by decide +kernel
theorem dX7_letFallFrom_40 : decode cX7_letFallFrom 40 = .ok (.invokevirtual 129, 3) := by decide +kernel
theorem dX7_letFallFrom_43 : decode cX7_letFallFrom 43 = .ok (.iadd, 1) := by decide +kernel
theorem dX7_letFallFrom_44 : decode cX7_letFallFrom 44 = .ok (.putfield 67, 3) := by decide +kernel
theorem dX7_letFallFrom_47 : decode cX7_letFallFrom 47 = .ok (.aload_n 0, 1) := by decide +kernel
theorem dX7_letFallFrom_48 : decode cX7_letFallFrom 48 = .ok (.dup, 1) := by decide +kernel
theorem dX7_letFallFrom_49 : decode cX7_letFallFrom 49 = .ok (.getfield 61, 3) := by decide +kernel
theorem dX7_letFallFrom_52 : decode cX7_letFallFrom 52 = .ok (.aload_n 0, 1) := by decide +kernel
theorem dX7_letFallFrom_53 : decode cX7_letFallFrom 53 = .ok (.getfield 21, 3) := by decide +kernel
theorem dX7_letFallFrom_56 : decode cX7_letFallFrom 56 = .ok (.iload_n 2, 1) := by decide +kernel
theorem dX7_letFallFrom_57 : decode cX7_letFallFrom 57 = .ok (.invokevirtual 106, 3) := by decide +kernel
theorem dX7_letFallFrom_60 : decode cX7_letFallFrom 60 = .ok (.iadd, 1) := by decide +kernel
theorem dX7_letFallFrom_61 : decode cX7_letFallFrom 61 = .ok (.putfield 61, 3) := by decide +kernel
theorem dX7_letFallFrom_64 : decode cX7_letFallFrom 64 = .ok (.iinc 2 1, 3) := by decide +kernel
theorem dX7_letFallFrom_67 : decode cX7_letFallFrom 67 = .ok (.goto (-58), 3) := by decide +kernel
theorem dX7_letFallFrom_70 : decode cX7_letFallFrom 70 = .ok (.aload_n 0, 1) := by decide +kernel
theorem dX7_letFallFrom_71 : decode cX7_letFallFrom 71 = .ok (.getfield 21, 3) := by decide +kernel
theorem dX7_letFallFrom_74 : decode cX7_letFallFrom 74 = .ok (.iload_n 1, 1) := by decide +kernel
theorem dX7_letFallFrom_75 : decode cX7_letFallFrom 75 = .ok (.invokevirtual 132, 3) := by decide +kernel
theorem dX7_letFallFrom_78 : decode cX7_letFallFrom 78 = .ok (.return_, 1) := by decide +kernel
theorem dX7_makeBare_0 : decode cX7_makeBare 0 = .ok (.aload_n 0, 1) := by decide +kernel
theorem dX7_makeBare_1 : decode cX7_makeBare 1 = .ok (.getfield 12, 3) := by decide +kernel
theorem dX7_makeBare_4 : decode cX7_makeBare 4 = .ok (.invokevirtual 135, 3) := by decide +kernel
theorem dX7_makeBare_7 : decode cX7_makeBare 7 = .ok (.aload_n 0, 1) := by decide +kernel
theorem dX7_makeBare_8 : decode cX7_makeBare 8 = .ok (.getfield 21, 3) := by decide +kernel
theorem dX7_makeBare_11 : decode cX7_makeBare 11 = .ok (.iconst 0, 1) := by decide +kernel
theorem dX7_makeBare_12 : decode cX7_makeBare 12 = .ok (.invokevirtual 132, 3) := by decide +kernel
theorem dX7_makeBare_15 : decode cX7_makeBare 15 = .ok (.aload_n 0, 1) := by decide +kernel
theorem dX7_makeBare_16 : decode cX7_makeBare 16 = .ok (.getfield 28, 3) := by decide +kernel
theorem dX7_makeBare_19 : decode cX7_makeBare 19 = .ok (.invokevirtual 138, 3) := by decide +kernel
theorem dX7_makeBare_22 : decode cX7_makeBare 22 = .ok (.aload_n 0, 1) := by decide +kernel
theorem dX7_makeBare_23 : decode cX7_makeBare 23 = .ok (.getfield 35, 3) := by decide +kernel
theorem dX7_makeBare_26 : decode cX7_makeBare 26 = .ok (.invokevirtual 139, 3) := by decide +kernel
theorem dX7_makeBare_29 : decode cX7_makeBare 29 = .ok (.aload_n 0, 1) := by decide +kernel
theorem dX7_makeBare_30 : decode cX7_makeBare 30 = .ok (.iconst 0, 1) := by decide +kernel
theorem dX7_makeBare_31 : decode cX7_makeBare 31 = .ok (.putfield 39, 3) := by decide +kernel
theorem dX7_makeBare_34 : decode cX7_makeBare 34 = .ok (.aload_n 0, 1) := by decide +kernel
theorem dX7_makeBare_35 : decode cX7_makeBare 35 = .ok (.iconst 0, 1) := by decide +kernel
theorem dX7_makeBare_36 : decode cX7_makeBare 36 = .ok (.putfield 43, 3) := by decide +kernel
theorem dX7_makeBare_39 : decode cX7_makeBare 39 = .ok (.aload_n 0, 1) := by decide +kernel
theorem dX7_makeBare_40 : decode cX7_makeBare 40 = .ok (.bipush 60, 2) := by decide +kernel
theorem dX7_makeBare_42 : decode cX7_makeBare 42 = .ok (.putfield 46, 3) := by decide +kernel
theorem dX7_makeBare_45 : decode cX7_makeBare 45 = .ok (.aload_n 0, 1) := by decide +kernel
theorem dX7_makeBare_46 : decode cX7_makeBare 46 = .ok (.bipush 20, 2) := by decide +kernel
theorem dX7_makeBare_48 : decode cX7_makeBare 48 = .ok (.putfield 49, 3) := by decide +kernel
theorem dX7_makeBare_51 : decode cX7_makeBare 51 = .ok (.aload_n 0, 1) := by decide +kernel
theorem dX7_makeBare_52 : decode cX7_makeBare 52 = .ok (.iconst 0, 1) := by decide +kernel
theorem dX7_makeBare_53 : decode cX7_makeBare 53 = .ok (.putfield 52, 3) := by decide +kernel
theorem dX7_makeBare_56 : decode cX7_makeBare 56 = .ok (.aload_n 0, 1) := by decide +kernel
theorem dX7_makeBare_57 : decode cX7_makeBare 57 = .ok (.iconst 0, 1) := by decide +kernel
theorem dX7_makeBare_58 : decode cX7_makeBare 58 = .ok (.putfield 55, 3) := by decide +kernel
theorem dX7_makeBare_61 : decode cX7_makeBare 61 = .ok (.aload_n 0, 1) := by decide +kernel
theorem dX7_makeBare_62 : decode cX7_makeBare 62 = .ok (.iconst 0, 1) := by decide +kernel
theorem dX7_makeBare_63 : decode cX7_makeBare 63 = .ok (.putfield 58, 3) := by decide +kernel
theorem dX7_makeBare_66 : decode cX7_makeBare 66 = .ok (.aload_n 0, 1) := by decide +kernel
theorem dX7_makeBare_67 : decode cX7_makeBare 67 = .ok (.iconst 0, 1) := by decide +kernel
theorem dX7_makeBare_68 : decode cX7_makeBare 68 = .ok (.putfield 61, 3) := by decide +kernel
theorem dX7_makeBare_71 : decode cX7_makeBare 71 = .ok (.aload_n 0, 1) := by decide +kernel
theorem dX7_makeBare_72 : decode cX7_makeBare 72 = .ok (.iconst 0, 1) := by decide +kernel
theorem dX7_makeBare_73 : decode cX7_makeBare 73 = .ok (.putfield 64, 3) := by decide +kernel
theorem dX7_makeBare_76 : decode cX7_makeBare 76 = .ok (.aload_n 0, 1) := by decide +kernel
theorem dX7_makeBare_77 : decode cX7_makeBare 77 = .ok (.iconst 0, 1) := by decide +kernel
theorem dX7_makeBare_78 : decode cX7_makeBare 78 = .ok (.putfield 67, 3) := by decide +kernel
theorem dX7_makeBare_81 : decode cX7_makeBare 81 = .ok (.return_, 1) := by decide +kernel
theorem dX7_take_0 : decode cX7_take 0 = .ok (.aload_n 0, 1) := by decide +kernel
theorem dX7_take_1 : decode cX7_take 1 = .ok (.getfield 12, 3) := by decide +kernel
theorem dX7_take_4 : decode cX7_take 4 = .ok (.aload_n 1, 1) := by decide +kernel
theorem dX7_take_5 : decode cX7_take 5 = .ok (.getfield 12, 3) := by decide +kernel
theorem dX7_take_8 : decode cX7_take 8 = .ok (.invokevirtual 140, 3) := by decide +kernel
theorem dX7_take_11 : decode cX7_take 11 = .ok (.aload_n 0, 1) := by decide +kernel
theorem dX7_take_12 : decode cX7_take 12 = .ok (.getfield 21, 3) := by decide +kernel
theorem dX7_take_15 : decode cX7_take 15 = .ok (.aload_n 1, 1) := by decide +kernel
theorem dX7_take_16 : decode cX7_take 16 = .ok (.getfield 21, 3) := by decide +kernel
theorem dX7_take_19 : decode cX7_take 19 = .ok (.invokevirtual 144, 3) := by decide +kernel
theorem dX7_take_22 : decode cX7_take 22 = .ok (.aload_n 0, 1) := by decide +kernel
theorem dX7_take_23 : decode cX7_take 23 = .ok (.getfield 28, 3) := by decide +kernel
theorem dX7_take_26 : decode cX7_take 26 = .ok (.aload_n 1, 1) := by decide +kernel
theorem dX7_take_27 : decode cX7_take 27 = .ok (.getfield 28, 3) := by decide +kernel
theorem dX7_take_30 : decode cX7_take 30 = .ok (.invokevirtual 147, 3) := by decide +kernel
theorem dX7_take_33 : decode cX7_take 33 = .ok (.aload_n 0, 1) := by decide +kernel
theorem dX7_take_34 : decode cX7_take 34 = .ok (.getfield 35, 3) := by decide +kernel
theorem dX7_take_37 : decode cX7_take 37 = .ok (.aload_n 1, 1) := by decide +kernel
theorem dX7_take_38 : decode cX7_take 38 = .ok (.getfield 35, 3) := by decide +kernel
theorem dX7_take_41 : decode cX7_take 41 = .ok (.invokevirtual 150, 3) := by decide +kernel
theorem dX7_take_44 : decode cX7_take 44 = .ok (.aload_n 0, 1) := by decide +kernel
theorem dX7_take_45 : decode cX7_take 45 = .ok (.aload_n 1, 1) := by decide +kernel
theorem dX7_take_46 : decode cX7_take 46 = .ok (.getfield 39, 3) := by decide +kernel
theorem dX7_take_49 : decode cX7_take 49 = .ok (.putfield 39, 3) := by decide +kernel
theorem dX7_take_52 : decode cX7_take 52 = .ok (.aload_n 0, 1) := by decide +kernel
theorem dX7_take_53 : decode cX7_take 53 = .ok (.aload_n 1, 1) := by decide +kernel
theorem dX7_take_54 : decode cX7_take 54 = .ok (.getfield 43, 3) := by decide +kernel
theorem dX7_take_57 : decode cX7_take 57 = .ok (.putfield 43, 3) := by decide +kernel
theorem dX7_take_60 : decode cX7_take 60 = .ok (.aload_n 0, 1) := by decide +kernel
theorem dX7_take_61 : decode cX7_take 61 = .ok (.aload_n 1, 1) := by decide +kernel
theorem dX7_take_62 : decode cX7_take 62 = .ok (.getfield 46, 3) := by decide +kernel
theorem dX7_take_65 : decode cX7_take 65 = .ok (.putfield 46, 3) := by decide +kernel
theorem dX7_take_68 : decode cX7_take 68 = .ok (.aload_n 0, 1) := by decide +kernel
theorem dX7_take_69 : decode cX7_take 69 = .ok (.aload_n 1, 1) := by decide +kernel
theorem dX7_take_70 : decode cX7_take 70 = .ok (.getfield 49, 3) := by decide +kernel
theorem dX7_take_73 : decode cX7_take 73 = .ok (.putfield 49, 3) := by decide +kernel
theorem dX7_take_76 : decode cX7_take 76 = .ok (.aload_n 0, 1) := by decide +kernel
theorem dX7_take_77 : decode cX7_take 77 = .ok (.aload_n 1, 1) := by decide +kernel
theorem dX7_take_78 : decode cX7_take 78 = .ok (.getfield 52, 3) := by decide +kernel
theorem dX7_take_81 : decode cX7_take 81 = .ok (.putfield 52, 3) := by decide +kernel
theorem dX7_take_84 : decode cX7_take 84 = .ok (.aload_n 0, 1) := by decide +kernel
theorem dX7_take_85 : decode cX7_take 85 = .ok (.aload_n 1, 1) := by decide +kernel
theorem dX7_take_86 : decode cX7_take 86 = .ok (.getfield 55, 3) := by decide +kernel
theorem dX7_take_89 : decode cX7_take 89 = .ok (.putfield 55, 3) := by decide +kernel
theorem dX7_take_92 : decode cX7_take 92 = .ok (.aload_n 0, 1) := by decide +kernel
theorem dX7_take_93 : decode cX7_take 93 = .ok (.aload_n 1, 1) := by decide +kernel
theorem dX7_take_94 : decode cX7_take 94 = .ok (.getfield 58, 3) := by decide +kernel
theorem dX7_take_97 : decode cX7_take 97 = .ok (.putfield 58, 3) := by decide +kernel
theorem dX7_take_100 : decode cX7_take 100 = .ok (.aload_n 0, 1) := by decide +kernel
theorem dX7_take_101 : decode cX7_take 101 = .ok (.aload_n 1, 1) := by decide +kernel
theorem dX7_take_102 : decode cX7_take 102 = .ok (.getfield 61, 3) := by decide +kernel
theorem dX7_take_105 : decode cX7_take 105 = .ok (.putfield 61, 3) := by decide +kernel
theorem dX7_take_108 : decode cX7_take 108 = .ok (.aload_n 0, 1) := by decide +kernel
theorem dX7_take_109 : decode cX7_take 109 = .ok (.aload_n 1, 1) := by decide +kernel
theorem dX7_take_110 : decode cX7_take 110 = .ok (.getfield 64, 3) := by decide +kernel
theorem dX7_take_113 : decode cX7_take 113 = .ok (.putfield 64, 3) := by decide +kernel
theorem dX7_take_116 : decode cX7_take 116 = .ok (.aload_n 0, 1) := by decide +kernel
theorem dX7_take_117 : decode cX7_take 117 = .ok (.aload_n 1, 1) := by decide +kernel
theorem dX7_take_118 : decode cX7_take 118 = .ok (.getfield 67, 3) := by decide +kernel
theorem dX7_take_121 : decode cX7_take 121 = .ok (.putfield 67, 3) := by decide +kernel
theorem dX7_take_124 : decode cX7_take 124 = .ok (.return_, 1) := by decide +kernel
theorem dX8_init_0 : decode cX8_init 0 = .ok (.aload_n 0, 1) := by decide +kernel
theorem dX8_init_1 : decode cX8_init 1 = .ok (.invokespecial 3, 3) := by decide +kernel
theorem dX8_init_4 : decode cX8_init 4 = .ok (.aload_n 0, 1) := by decide +kernel
theorem dX8_init_5 : decode cX8_init 5 = .ok (.new 9, 3) := by decide +kernel
theorem dX8_init_8 : decode cX8_init 8 = .ok (.dup, 1) := by decide +kernel
theorem dX8_init_9 : decode cX8_init 9 = .ok (.invokespecial 11, 3) := by decide +kernel
theorem dX8_init_12 : decode cX8_init 12 = .ok (.putfield 12, 3) := by decide +kernel
theorem dX8_init_15 : decode cX8_init 15 = .ok (.aload_n 0, 1) := by decide +kernel
theorem dX8_init_16 : decode cX8_init 16 = .ok (.new 18, 3) := by decide +kernel
theorem dX8_init_19 : decode cX8_init 19 = .ok (.dup, 1) := by decide +kernel
theorem dX8_init_20 : decode cX8_init 20 = .ok (.invokespecial 20, 3) := by decide +kernel
theorem dX8_init_23 : decode cX8_init 23 = .ok (.putfield 21, 3) := by decide +kernel
theorem dX8_init_26 : decode cX8_init 26 = .ok (.return_, 1) := by decide +kernel
theorem dX8_addBundle_0 : decode cX8_addBundle 0 = .ok (.iload_n 1, 1) := by decide +kernel
theorem dX8_addBundle_1 : decode cX8_addBundle 1 = .ok (.iconst 1, 1) := by decide +kernel
theorem dX8_addBundle_2 : decode cX8_addBundle 2 = .ok (.bipush 30, 2) := by decide +kernel
theorem dX8_addBundle_4 : decode cX8_addBundle 4 = .ok (.invokestatic 25, 3) := by decide +kernel
theorem dX8_addBundle_7 : decode cX8_addBundle 7 = .ok (.ifCond .eq 13, 3) := by decide +kernel
theorem dX8_addBundle_10 : decode cX8_addBundle 10 = .ok (.iload_n 2, 1) := by decide +kernel
theorem dX8_addBundle_11 : decode cX8_addBundle 11 = .ok (.iconst 0, 1) := by decide +kernel
theorem dX8_addBundle_12 : decode cX8_addBundle 12 = .ok (.bipush 60, 2) := by decide +kernel
theorem dX8_addBundle_14 : decode cX8_addBundle 14 = .ok (.invokestatic 25, 3) := by decide +kernel
theorem dX8_addBundle_17 : decode cX8_addBundle 17 = .ok (.ifCond .ne 6, 3) := by decide +kernel
theorem dX8_addBundle_20 : decode cX8_addBundle 20 = .ok (.bipush (-2), 2) := by decide +kernel
theorem dX8_addBundle_22 : decode cX8_addBundle 22 = .ok (.ireturn, 1) := by decide +kernel
theorem dX8_addBundle_23 : decode cX8_addBundle 23 = .ok (.aload_n 0, 1) := by decide +kernel
theorem dX8_addBundle_24 : decode cX8_addBundle 24 = .ok (.getfield 21, 3) := by decide +kernel
theorem dX8_addBundle_27 : decode cX8_addBundle 27 = .ok (.getfield 29, 3) := by decide +kernel
theorem dX8_addBundle_30 : decode cX8_addBundle 30 = .ok (.getfield 33, 3) := by decide +kernel
theorem dX8_addBundle_33 : decode cX8_addBundle 33 = .ok (.bipush 8, 2) := by decide +kernel
theorem dX8_addBundle_35 : decode cX8_addBundle 35 = .ok (.if_icmp .lt 14, 3) := by decide +kernel
theorem dX8_addBundle_38 : decode cX8_addBundle 38 = .ok (.aload_n 0, 1) := by decide +kernel
theorem dX8_addBundle_39 : decode cX8_addBundle 39 = .ok (.getfield 12, 3) := by decide +kernel
theorem dX8_addBundle_42 : decode cX8_addBundle 42 = .ok (.iconst 1, 1) := by decide +kernel
theorem dX8_addBundle_43 : decode cX8_addBundle 43 = .ok (.bipush 8, 2) := by decide +kernel
theorem dX8_addBundle_45 : decode cX8_addBundle 45 = .ok (.invokevirtual 39, 3) := by decide +kernel
theorem dX8_addBundle_48 : decode cX8_addBundle 48 = .ok (.ireturn, 1) := by decide +kernel
theorem dX8_addBundle_49 : decode cX8_addBundle 49 = .ok (.aload_n 0, 1) := by decide +kernel
theorem dX8_addBundle_50 : decode cX8_addBundle 50 = .ok (.getfield 21, 3) := by decide +kernel
theorem dX8_addBundle_53 : decode cX8_addBundle 53 = .ok (.getfield 29, 3) := by decide +kernel
theorem dX8_addBundle_56 : decode cX8_addBundle 56 = .ok (.iload_n 1, 1) := by decide +kernel
theorem dX8_addBundle_57 : decode cX8_addBundle 57 = .ok (.iload_n 2, 1) := by decide +kernel
theorem dX8_addBundle_58 : decode cX8_addBundle 58 = .ok (.invokevirtual 43, 3) := by decide +kernel
theorem dX8_addBundle_61 : decode cX8_addBundle 61 = .ok (.ireturn, 1) := by decide +kernel
theorem dX8_addStrips_0 : decode cX8_addStrips 0 = .ok (.iload_n 1, 1) := by decide +kernel
theorem dX8_addStrips_1 : decode cX8_addStrips 1 = .ok (.iconst 1, 1) := by decide +kernel
theorem dX8_addStrips_2 : decode cX8_addStrips 2 = .ok (.bipush 99, 2) := by decide +kernel
theorem dX8_addStrips_4 : decode cX8_addStrips 4 = .ok (.invokestatic 25, 3) := by decide +kernel
theorem dX8_addStrips_7 : decode cX8_addStrips 7 = .ok (.ifCond .ne 6, 3) := by decide +kernel
theorem dX8_addStrips_10 : decode cX8_addStrips 10 = .ok (.bipush (-2), 2) := by decide +kernel
theorem dX8_addStrips_12 : decode cX8_addStrips 12 = .ok (.ireturn, 1) := by decide +kernel
theorem dX8_addStrips_13 : decode cX8_addStrips 13 = .ok (.aload_n 0, 1) := by decide +kernel
theorem dX8_addStrips_14 : decode cX8_addStrips 14 = .ok (.getfield 21, 3) := by decide +kernel
theorem dX8_addStrips_17 : decode cX8_addStrips 17 = .ok (.aload_n 0, 1) := by decide +kernel
theorem dX8_addStrips_18 : decode cX8_addStrips 18 = .ok (.getfield 21, 3) := by decide +kernel
theorem dX8_addStrips_21 : decode cX8_addStrips 21 = .ok (.getfield 46, 3) := by decide +kernel
theorem dX8_addStrips_24 : decode cX8_addStrips 24 = .ok (.iload_n 1, 1) := by decide +kernel
theorem dX8_addStrips_25 : decode cX8_addStrips 25 = .ok (.iadd, 1) := by decide +kernel
theorem dX8_addStrips_26 : decode cX8_addStrips 26 = .ok (.sipush 200, 3) := by decide +kernel
theorem dX8_addStrips_29 : decode cX8_addStrips 29 = .ok (.invokestatic 49, 3) := by decide +kernel
theorem dX8_addStrips_32 : decode cX8_addStrips 32 = .ok (.putfield 46, 3) := by decide +kernel
theorem dX8_addStrips_35 : decode cX8_addStrips 35 = .ok (.aload_n 0, 1) := by decide +kernel
theorem dX8_addStrips_36 : decode cX8_addStrips 36 = .ok (.getfield 21, 3) := by decide +kernel
theorem dX8_addStrips_39 : decode cX8_addStrips 39 = .ok (.getfield 46, 3) := by decide +kernel
theorem dX8_addStrips_42 : decode cX8_addStrips 42 = .ok (.ireturn, 1) := by decide +kernel
theorem dX8_addStorey_0 : decode cX8_addStorey 0 = .ok (.aload_n 0, 1) := by decide +kernel
theorem dX8_addStorey_1 : decode cX8_addStorey 1 = .ok (.getfield 21, 3) := by decide +kernel
theorem dX8_addStorey_4 : decode cX8_addStorey 4 = .ok (.getfield 29, 3) := by decide +kernel
theorem dX8_addStorey_7 : decode cX8_addStorey 7 = .ok (.iload_n 1, 1) := by decide +kernel
theorem dX8_addStorey_8 : decode cX8_addStorey 8 = .ok (.invokevirtual 54, 3) := by decide +kernel
theorem dX8_addStorey_11 : decode cX8_addStorey 11 = .ok (.ifCond .ne 5, 3) := by decide +kernel
theorem dX8_addStorey_14 : decode cX8_addStorey 14 = .ok (.iconst (-1), 1) := by decide +kernel
theorem dX8_addStorey_15 : decode cX8_addStorey 15 = .ok (.ireturn, 1) := by decide +kernel
theorem dX8_addStorey_16 : decode cX8_addStorey 16 = .ok (.iload_n 2, 1) := by decide +kernel
theorem dX8_addStorey_17 : decode cX8_addStorey 17 = .ok (.iconst 4, 1) := by decide +kernel
theorem dX8_addStorey_18 : decode cX8_addStorey 18 = .ok (.bipush 8, 2) := by decide +kernel
theorem dX8_addStorey_20 : decode cX8_addStorey 20 = .ok (.invokestatic 25, 3) := by decide +kernel
theorem dX8_addStorey_23 : decode cX8_addStorey 23 = .ok (.ifCond .eq 13, 3) := by decide +kernel
theorem dX8_addStorey_26 : decode cX8_addStorey 26 = .ok (.iload_n 3, 1) := by decide +kernel
theorem dX8_addStorey_27 : decode cX8_addStorey 27 = .ok (.iconst 0, 1) := by decide +kernel
theorem dX8_addStorey_28 : decode cX8_addStorey 28 = .ok (.bipush 40, 2) := by decide +kernel
theorem dX8_addStorey_30 : decode cX8_addStorey 30 = .ok (.invokestatic 25, 3) := by decide +kernel
theorem dX8_addStorey_33 : decode cX8_addStorey 33 = .ok (.ifCond .ne 6, 3) := by decide +kernel
theorem dX8_addStorey_36 : decode cX8_addStorey 36 = .ok (.bipush (-2), 2) := by decide +kernel
theorem dX8_addStorey_38 : decode cX8_addStorey 38 = .ok (.ireturn, 1) := by decide +kernel
theorem dX8_addStorey_39 : decode cX8_addStorey 39 = .ok (.aload_n 0, 1) := by decide +kernel
theorem dX8_addStorey_40 : decode cX8_addStorey 40 = .ok (.getfield 21, 3) := by decide +kernel
theorem dX8_addStorey_43 : decode cX8_addStorey 43 = .ok (.getfield 58, 3) := by decide +kernel
theorem dX8_addStorey_46 : decode cX8_addStorey 46 = .ok (.getfield 62, 3) := by decide +kernel
theorem dX8_addStorey_49 : decode cX8_addStorey 49 = .ok (.bipush 10, 2) := by decide +kernel
theorem dX8_addStorey_51 : decode cX8_addStorey 51 = .ok (.if_icmp .lt 14, 3) := by decide +kernel
theorem dX8_addStorey_54 : decode cX8_addStorey 54 = .ok (.aload_n 0, 1) := by decide +kernel
theorem dX8_addStorey_55 : decode cX8_addStorey 55 = .ok (.getfield 12, 3) := by decide +kernel
theorem dX8_addStorey_58 : decode cX8_addStorey 58 = .ok (.iconst 1, 1) := by decide +kernel
theorem dX8_addStorey_59 : decode cX8_addStorey 59 = .ok (.bipush 10, 2) := by decide +kernel
theorem dX8_addStorey_61 : decode cX8_addStorey 61 = .ok (.invokevirtual 39, 3) := by decide +kernel
theorem dX8_addStorey_64 : decode cX8_addStorey 64 = .ok (.ireturn, 1) := by decide +kernel
theorem dX8_addStorey_65 : decode cX8_addStorey 65 = .ok (.aload_n 0, 1) := by decide +kernel
theorem dX8_addStorey_66 : decode cX8_addStorey 66 = .ok (.getfield 21, 3) := by decide +kernel
theorem dX8_addStorey_69 : decode cX8_addStorey 69 = .ok (.invokevirtual 65, 3) := by decide +kernel
theorem dX8_addStorey_72 : decode cX8_addStorey 72 = .ok (.ifCond .eq 19, 3) := by decide +kernel
theorem dX8_addStorey_75 : decode cX8_addStorey 75 = .ok (.aload_n 0, 1) := by decide +kernel
theorem dX8_addStorey_76 : decode cX8_addStorey 76 = .ok (.getfield 12, 3) := by decide +kernel
theorem dX8_addStorey_79 : decode cX8_addStorey 79 = .ok (.iconst 4, 1) := by decide +kernel
theorem dX8_addStorey_80 : decode cX8_addStorey 80 = .ok (.aload_n 0, 1) := by decide +kernel
theorem dX8_addStorey_81 : decode cX8_addStorey 81 = .ok (.getfield 21, 3) := by decide +kernel
theorem dX8_addStorey_84 : decode cX8_addStorey 84 = .ok (.getfield 69, 3) := by decide +kernel
theorem dX8_addStorey_87 : decode cX8_addStorey 87 = .ok (.invokevirtual 39, 3) := by decide +kernel
theorem dX8_addStorey_90 : decode cX8_addStorey 90 = .ok (.ireturn, 1) := by decide +kernel
theorem dX8_addStorey_91 : decode cX8_addStorey 91 = .ok (.aload_n 0, 1) := by decide +kernel
theorem dX8_addStorey_92 : decode cX8_addStorey 92 = .ok (.getfield 21, 3) := by decide +kernel
theorem dX8_addStorey_95 : decode cX8_addStorey 95 = .ok (.getfield 29, 3) := by decide +kernel
theorem dX8_addStorey_98 : decode cX8_addStorey 98 = .ok (.iload_n 1, 1) := by decide +kernel
theorem dX8_addStorey_99 : decode cX8_addStorey 99 = .ok (.invokevirtual 72, 3) := by decide +kernel
theorem dX8_addStorey_102 : decode cX8_addStorey 102 = .ok (.iload_n 2, 1) := by decide +kernel
theorem dX8_addStorey_103 : decode cX8_addStorey 103 = .ok (.if_icmp .ge 23, 3) := by decide +kernel
theorem dX8_addStorey_106 : decode cX8_addStorey 106 = .ok (.aload_n 0, 1) := by decide +kernel
theorem dX8_addStorey_107 : decode cX8_addStorey 107 = .ok (.getfield 12, 3) := by decide +kernel
theorem dX8_addStorey_110 : decode cX8_addStorey 110 = .ok (.iconst 2, 1) := by decide +kernel
theorem dX8_addStorey_111 : decode cX8_addStorey 111 = .ok (.aload_n 0, 1) := by decide +kernel
theorem dX8_addStorey_112 : decode cX8_addStorey 112 = .ok (.getfield 21, 3) := by decide +kernel
theorem dX8_addStorey_115 : decode cX8_addStorey 115 = .ok (.getfield 29, 3) := by decide +kernel
theorem dX8_addStorey_118 : decode cX8_addStorey 118 = .ok (.iload_n 1, 1) := by decide +kernel
theorem dX8_addStorey_119 : decode cX8_addStorey 119 = .ok (.invokevirtual 72, 3) := by decide +kernel
theorem dX8_addStorey_122 : decode cX8_addStorey 122 = .ok (.invokevirtual 39, 3) := by decide +kernel
theorem dX8_addStorey_125 : decode cX8_addStorey 125 = .ok (.ireturn, 1) := by decide +kernel
theorem dX8_addStorey_126 : decode cX8_addStorey 126 = .ok (.iload_n 2, 1) := by decide +kernel
theorem dX8_addStorey_127 : decode cX8_addStorey 127 = .ok (.iconst 2, 1) := by decide +kernel
theorem dX8_addStorey_128 : decode cX8_addStorey 128 = .ok (.imul, 1) := by decide +kernel
theorem dX8_addStorey_129 : decode cX8_addStorey 129 = .ok (.istore 4, 2) := by decide +kernel
theorem dX8_addStorey_131 : decode cX8_addStorey 131 = .ok (.aload_n 0, 1) := by decide +kernel
theorem dX8_addStorey_132 : decode cX8_addStorey 132 = .ok (.getfield 21, 3) := by decide +kernel
theorem dX8_addStorey_135 : decode cX8_addStorey 135 = .ok (.getfield 46, 3) := by decide +kernel
theorem dX8_addStorey_138 : decode cX8_addStorey 138 = .ok (.iload 4, 2) := by decide +kernel
theorem dX8_addStorey_140 : decode cX8_addStorey 140 = .ok (.if_icmp .ge 22, 3) := by decide +kernel
theorem dX8_addStorey_143 : decode cX8_addStorey 143 = .ok (.aload_n 0, 1) := by decide +kernel
theorem dX8_addStorey_144 : decode cX8_addStorey 144 = .ok (.getfield 12, 3) := by decide +kernel
theorem dX8_addStorey_147 : decode cX8_addStorey 147 = .ok (.iconst 3, 1) := by decide +kernel
theorem dX8_addStorey_148 : decode cX8_addStorey 148 = .ok (.iload 4, 2) := by decide +kernel
theorem dX8_addStorey_150 : decode cX8_addStorey 150 = .ok (.aload_n 0, 1) := by decide +kernel
theorem dX8_addStorey_151 : decode cX8_addStorey 151 = .ok (.getfield 21, 3) := by decide +kernel
theorem dX8_addStorey_154 : decode cX8_addStorey 154 = .ok (.getfield 46, 3) := by decide +kernel
theorem dX8_addStorey_157 : decode cX8_addStorey 157 = .ok (.isub, 1) := by decide +kernel
theorem dX8_addStorey_158 : decode cX8_addStorey 158 = .ok (.invokevirtual 39, 3) := by decide +kernel
theorem dX8_addStorey_161 : decode cX8_addStorey 161 = .ok (.ireturn, 1) := by decide +kernel
theorem dX8_addStorey_162 : decode cX8_addStorey 162 = .ok (.aload_n 0, 1) := by decide +kernel
theorem dX8_addStorey_163 : decode cX8_addStorey 163 = .ok (.getfield 21, 3) := by decide +kernel
theorem dX8_addStorey_166 : decode cX8_addStorey 166 = .ok (.getfield 29, 3) := by decide +kernel
theorem dX8_addStorey_169 : decode cX8_addStorey 169 = .ok (.iload_n 1, 1) := by decide +kernel
theorem dX8_addStorey_170 : decode cX8_addStorey 170 = .ok (.iload_n 2, 1) := by decide +kernel
theorem dX8_addStorey_171 : decode cX8_addStorey 171 = .ok (.invokevirtual 76, 3) := by decide +kernel
theorem dX8_addStorey_174 : decode cX8_addStorey 174 = .ok (.aload_n 0, 1) := by decide +kernel
theorem dX8_addStorey_175 : decode cX8_addStorey 175 = .ok (.getfield 21, 3) := by decide +kernel
theorem dX8_addStorey_178 : decode cX8_addStorey 178 = .ok (.dup, 1) := by decide +kernel
theorem dX8_addStorey_179 : decode cX8_addStorey 179 = .ok (.getfield 46, 3) := by decide +kernel
theorem dX8_addStorey_182 : decode cX8_addStorey 182 = .ok (.iload 4, 2) := by decide +kernel
theorem dX8_addStorey_184 : decode cX8_addStorey 184 = .ok (.isub, 1) := by decide +kernel
theorem dX8_addStorey_185 : decode cX8_addStorey 185 = .ok (.putfield 46, 3) := by decide +kernel
theorem dX8_addStorey_188 : decode cX8_addStorey 188 = .ok (.aload_n 0, 1) := by decide +kernel
theorem dX8_addStorey_189 : decode cX8_addStorey 189 = .ok (.getfield 21, 3) := by decide +kernel
theorem dX8_addStorey_192 : decode cX8_addStorey 192 = .ok (.dup, 1) := by decide +kernel
theorem dX8_addStorey_193 : decode cX8_addStorey 193 = .ok (.getfield 80, 3) := by decide +kernel
theorem dX8_addStorey_196 : decode cX8_addStorey 196 = .ok (.iload_n 3, 1) := by decide +kernel
theorem dX8_addStorey_197 : decode cX8_addStorey 197 = .ok (.iadd, 1) := by decide +kernel
theorem dX8_addStorey_198 : decode cX8_addStorey 198 = .ok (.putfield 80, 3) := by decide +kernel
theorem dX8_addStorey_201 : decode cX8_addStorey 201 = .ok (.aload_n 0, 1) := by decide +kernel
theorem dX8_addStorey_202 : decode cX8_addStorey 202 = .ok (.getfield 21, 3) := by decide +kernel
theorem dX8_addStorey_205 : decode cX8_addStorey 205 = .ok (.getfield 58, 3) := by decide +kernel
theorem dX8_addStorey_208 : decode cX8_addStorey 208 = .ok (.iload_n 2, 1) := by decide +kernel
theorem dX8_addStorey_209 : decode cX8_addStorey 209 = .ok (.aload_n 0, 1) := by decide +kernel
theorem dX8_addStorey_210 : decode cX8_addStorey 210 = .ok (.getfield 21, 3) := by decide +kernel
theorem dX8_addStorey_213 : decode cX8_addStorey 213 = .ok (.getfield 29, 3) := by decide +kernel
theorem dX8_addStorey_216 : decode cX8_addStorey 216 = .ok (.iload_n 1, 1) := by decide +kernel
theorem dX8_addStorey_217 : decode cX8_addStorey 217 = .ok (.invokevirtual 83, 3) := by decide +kernel
theorem dX8_addStorey_220 : decode cX8_addStorey 220 = .ok (.iload_n 3, 1) := by decide +kernel
theorem dX8_addStorey_221 : decode cX8_addStorey 221 = .ok (.invokevirtual 86, 3) := by decide +kernel
theorem dX8_addStorey_224 : decode cX8_addStorey 224 = .ok (.ireturn, 1) := by decide +kernel
theorem dX8_tieAnew_0 : decode cX8_tieAnew 0 = .ok (.aload_n 0, 1) := by decide +kernel
theorem dX8_tieAnew_1 : decode cX8_tieAnew 1 = .ok (.getfield 21, 3) := by decide +kernel
theorem dX8_tieAnew_4 : decode cX8_tieAnew 4 = .ok (.getfield 58, 3) := by decide +kernel
theorem dX8_tieAnew_7 : decode cX8_tieAnew 7 = .ok (.iload_n 1, 1) := by decide +kernel
theorem dX8_tieAnew_8 : decode cX8_tieAnew 8 = .ok (.invokevirtual 89, 3) := by decide +kernel
theorem dX8_tieAnew_11 : decode cX8_tieAnew 11 = .ok (.ifCond .ne 5, 3) := by decide +kernel
theorem dX8_tieAnew_14 : decode cX8_tieAnew 14 = .ok (.iconst (-1), 1) := by decide +kernel
theorem dX8_tieAnew_15 : decode cX8_tieAnew 15 = .ok (.ireturn, 1) := by decide +kernel
theorem dX8_tieAnew_16 : decode cX8_tieAnew 16 = .ok (.aload_n 0, 1) := by decide +kernel
theorem dX8_tieAnew_17 : decode cX8_tieAnew 17 = .ok (.getfield 21, 3) := by decide +kernel
theorem dX8_tieAnew_20 : decode cX8_tieAnew 20 = .ok (.invokevirtual 65, 3) := by decide +kernel
theorem dX8_tieAnew_23 : decode cX8_tieAnew 23 = .ok (.ifCond .eq 19, 3) := by decide +kernel
theorem dX8_tieAnew_26 : decode cX8_tieAnew 26 = .ok (.aload_n 0, 1) := by decide +kernel
theorem dX8_tieAnew_27 : decode cX8_tieAnew 27 = .ok (.getfield 12, 3) := by decide +kernel
theorem dX8_tieAnew_30 : decode cX8_tieAnew 30 = .ok (.iconst 4, 1) := by decide +kernel
theorem dX8_tieAnew_31 : decode cX8_tieAnew 31 = .ok (.aload_n 0, 1) := by decide +kernel
theorem dX8_tieAnew_32 : decode cX8_tieAnew 32 = .ok (.getfield 21, 3) := by decide +kernel
theorem dX8_tieAnew_35 : decode cX8_tieAnew 35 = .ok (.getfield 69, 3) := by decide +kernel
theorem dX8_tieAnew_38 : decode cX8_tieAnew 38 = .ok (.invokevirtual 39, 3) := by decide +kernel
theorem dX8_tieAnew_41 : decode cX8_tieAnew 41 = .ok (.ireturn, 1) := by decide +kernel
theorem dX8_tieAnew_42 : decode cX8_tieAnew 42 = .ok (.aload_n 0, 1) := by decide +kernel
theorem dX8_tieAnew_43 : decode cX8_tieAnew 43 = .ok (.getfield 21, 3) := by decide +kernel
theorem dX8_tieAnew_46 : decode cX8_tieAnew 46 = .ok (.getfield 58, 3) := by decide +kernel
theorem dX8_tieAnew_49 : decode cX8_tieAnew 49 = .ok (.iload_n 1, 1) := by decide +kernel
theorem dX8_tieAnew_50 : decode cX8_tieAnew 50 = .ok (.invokevirtual 90, 3) := by decide +kernel
theorem dX8_tieAnew_53 : decode cX8_tieAnew 53 = .ok (.istore_n 2, 1) := by decide +kernel
theorem dX8_tieAnew_54 : decode cX8_tieAnew 54 = .ok (.iload_n 2, 1) := by decide +kernel
theorem dX8_tieAnew_55 : decode cX8_tieAnew 55 = .ok (.ifCond .ne 14, 3) := by decide +kernel
theorem dX8_tieAnew_58 : decode cX8_tieAnew 58 = .ok (.aload_n 0, 1) := by decide +kernel
theorem dX8_tieAnew_59 : decode cX8_tieAnew 59 = .ok (.getfield 12, 3) := by decide +kernel
theorem dX8_tieAnew_62 : decode cX8_tieAnew 62 = .ok (.bipush 10, 2) := by decide +kernel
theorem dX8_tieAnew_64 : decode cX8_tieAnew 64 = .ok (.iload_n 1, 1) := by decide +kernel
theorem dX8_tieAnew_65 : decode cX8_tieAnew 65 = .ok (.invokevirtual 39, 3) := by decide +kernel
theorem dX8_tieAnew_68 : decode cX8_tieAnew 68 = .ok (.ireturn, 1) := by decide +kernel
theorem dX8_tieAnew_69 : decode cX8_tieAnew 69 = .ok (.aload_n 0, 1) := by decide +kernel
theorem dX8_tieAnew_70 : decode cX8_tieAnew 70 = .ok (.getfield 21, 3) := by decide +kernel
theorem dX8_tieAnew_73 : decode cX8_tieAnew 73 = .ok (.getfield 58, 3) := by decide +kernel
theorem dX8_tieAnew_76 : decode cX8_tieAnew 76 = .ok (.iload_n 1, 1) := by decide +kernel
theorem dX8_tieAnew_77 : decode cX8_tieAnew 77 = .ok (.invokevirtual 93, 3) := by decide +kernel
theorem dX8_tieAnew_80 : decode cX8_tieAnew 80 = .ok (.istore_n 3, 1) := by decide +kernel
theorem dX8_tieAnew_81 : decode cX8_tieAnew 81 = .ok (.aload_n 0, 1) := by decide +kernel
theorem dX8_tieAnew_82 : decode cX8_tieAnew 82 = .ok (.getfield 21, 3) := by decide +kernel
theorem dX8_tieAnew_85 : decode cX8_tieAnew 85 = .ok (.getfield 46, 3) := by decide +kernel
theorem dX8_tieAnew_88 : decode cX8_tieAnew 88 = .ok (.iload_n 3, 1) := by decide +kernel
theorem dX8_tieAnew_89 : decode cX8_tieAnew 89 = .ok (.if_icmp .ge 21, 3) := by decide +kernel
theorem dX8_tieAnew_92 : decode cX8_tieAnew 92 = .ok (.aload_n 0, 1) := by decide +kernel
theorem dX8_tieAnew_93 : decode cX8_tieAnew 93 = .ok (.getfield 12, 3) := by decide +kernel
theorem dX8_tieAnew_96 : decode cX8_tieAnew 96 = .ok (.iconst 3, 1) := by decide +kernel
theorem dX8_tieAnew_97 : decode cX8_tieAnew 97 = .ok (.iload_n 3, 1) := by decide +kernel
theorem dX8_tieAnew_98 : decode cX8_tieAnew 98 = .ok (.aload_n 0, 1) := by decide +kernel
theorem dX8_tieAnew_99 : decode cX8_tieAnew 99 = .ok (.getfield 21, 3) := by decide +kernel
theorem dX8_tieAnew_102 : decode cX8_tieAnew 102 = .ok (.getfield 46, 3) := by decide +kernel
theorem dX8_tieAnew_105 : decode cX8_tieAnew 105 = .ok (.isub, 1) := by decide +kernel
theorem dX8_tieAnew_106 : decode cX8_tieAnew 106 = .ok (.invokevirtual 39, 3) := by decide +kernel
theorem dX8_tieAnew_109 : decode cX8_tieAnew 109 = .ok (.ireturn, 1) := by decide +kernel
theorem dX8_tieAnew_110 : decode cX8_tieAnew 110 = .ok (.aload_n 0, 1) := by decide +kernel
theorem dX8_tieAnew_111 : decode cX8_tieAnew 111 = .ok (.getfield 21, 3) := by decide +kernel
theorem dX8_tieAnew_114 : decode cX8_tieAnew 114 = .ok (.dup, 1) := by decide +kernel
theorem dX8_tieAnew_115 : decode cX8_tieAnew 115 = .ok (.getfield 46, 3) := by decide +kernel
theorem dX8_tieAnew_118 : decode cX8_tieAnew 118 = .ok (.iload_n 3, 1) := by decide +kernel
theorem dX8_tieAnew_119 : decode cX8_tieAnew 119 = .ok (.isub, 1) := by decide +kernel
theorem dX8_tieAnew_120 : decode cX8_tieAnew 120 = .ok (.putfield 46, 3) := by decide +kernel
theorem dX8_tieAnew_123 : decode cX8_tieAnew 123 = .ok (.aload_n 0, 1) := by decide +kernel
theorem dX8_tieAnew_124 : decode cX8_tieAnew 124 = .ok (.getfield 21, 3) := by decide +kernel
theorem dX8_tieAnew_127 : decode cX8_tieAnew 127 = .ok (.getfield 58, 3) := by decide +kernel
theorem dX8_tieAnew_130 : decode cX8_tieAnew 130 = .ok (.iload_n 1, 1) := by decide +kernel
theorem dX8_tieAnew_131 : decode cX8_tieAnew 131 = .ok (.invokevirtual 96, 3) := by decide +kernel
theorem dX8_tieAnew_134 : decode cX8_tieAnew 134 = .ok (.iload_n 2, 1) := by decide +kernel
theorem dX8_tieAnew_135 : decode cX8_tieAnew 135 = .ok (.ireturn, 1) := by decide +kernel
theorem dX8_addCrew_0 : decode cX8_addCrew 0 = .ok (.iload_n 1, 1) := by decide +kernel
theorem dX8_addCrew_1 : decode cX8_addCrew 1 = .ok (.iconst 1, 1) := by decide +kernel
theorem dX8_addCrew_2 : decode cX8_addCrew 2 = .ok (.iconst 4, 1) := by decide +kernel
theorem dX8_addCrew_3 : decode cX8_addCrew 3 = .ok (.invokestatic 25, 3) := by decide +kernel
theorem dX8_addCrew_6 : decode cX8_addCrew 6 = .ok (.ifCond .ne 6, 3) := by decide +kernel
theorem dX8_addCrew_9 : decode cX8_addCrew 9 = .ok (.bipush (-2), 2) := by decide +kernel
theorem dX8_addCrew_11 : decode cX8_addCrew 11 = .ok (.ireturn, 1) := by decide +kernel
theorem dX8_addCrew_12 : decode cX8_addCrew 12 = .ok (.aload_n 0, 1) := by decide +kernel
theorem dX8_addCrew_13 : decode cX8_addCrew 13 = .ok (.getfield 21, 3) := by decide +kernel
theorem dX8_addCrew_16 : decode cX8_addCrew 16 = .ok (.getfield 100, 3) := by decide +kernel
theorem dX8_addCrew_19 : decode cX8_addCrew 19 = .ok (.getfield 104, 3) := by decide +kernel
theorem dX8_addCrew_22 : decode cX8_addCrew 22 = .ok (.iconst 5, 1) := by decide +kernel
theorem dX8_addCrew_23 : decode cX8_addCrew 23 = .ok (.if_icmp .lt 13, 3) := by decide +kernel
theorem dX8_addCrew_26 : decode cX8_addCrew 26 = .ok (.aload_n 0, 1) := by decide +kernel
theorem dX8_addCrew_27 : decode cX8_addCrew 27 = .ok (.getfield 12, 3) := by decide +kernel
theorem dX8_addCrew_30 : decode cX8_addCrew 30 = .ok (.iconst 1, 1) := by decide +kernel
theorem dX8_addCrew_31 : decode cX8_addCrew 31 = .ok (.iconst 5, 1) := by decide +kernel
theorem dX8_addCrew_32 : decode cX8_addCrew 32 = .ok (.invokevirtual 39, 3) := by decide +kernel
theorem dX8_addCrew_35 : decode cX8_addCrew 35 = .ok (.ireturn, 1) := by decide +kernel
theorem dX8_addCrew_36 : decode cX8_addCrew 36 = .ok (.aload_n 0, 1) := by decide +kernel
theorem dX8_addCrew_37 : decode cX8_addCrew 37 = .ok (.getfield 21, 3) := by decide +kernel
theorem dX8_addCrew_40 : decode cX8_addCrew 40 = .ok (.getfield 100, 3) := by decide +kernel
theorem dX8_addCrew_43 : decode cX8_addCrew 43 = .ok (.iload_n 1, 1) := by decide +kernel
theorem dX8_addCrew_44 : decode cX8_addCrew 44 = .ok (.invokevirtual 107, 3) := by decide +kernel
theorem dX8_addCrew_47 : decode cX8_addCrew 47 = .ok (.ireturn, 1) := by decide +kernel
theorem dX8_sendUp_0 : decode cX8_sendUp 0 = .ok (.aload_n 0, 1) := by decide +kernel
theorem dX8_sendUp_1 : decode cX8_sendUp 1 = .ok (.getfield 21, 3) := by decide +kernel
theorem dX8_sendUp_4 : decode cX8_sendUp 4 = .ok (.getfield 100, 3) := by decide +kernel
theorem dX8_sendUp_7 : decode cX8_sendUp 7 = .ok (.iload_n 1, 1) := by decide +kernel
theorem dX8_sendUp_8 : decode cX8_sendUp 8 = .ok (.invokevirtual 109, 3) := by decide +kernel
theorem dX8_sendUp_11 : decode cX8_sendUp 11 = .ok (.ifCond .eq 17, 3) := by decide +kernel
theorem dX8_sendUp_14 : decode cX8_sendUp 14 = .ok (.aload_n 0, 1) := by decide +kernel
theorem dX8_sendUp_15 : decode cX8_sendUp 15 = .ok (.getfield 21, 3) := by decide +kernel
theorem dX8_sendUp_18 : decode cX8_sendUp 18 = .ok (.getfield 58, 3) := by decide +kernel
theorem dX8_sendUp_21 : decode cX8_sendUp 21 = .ok (.iload_n 2, 1) := by decide +kernel
theorem dX8_sendUp_22 : decode cX8_sendUp 22 = .ok (.invokevirtual 89, 3) := by decide +kernel
theorem dX8_sendUp_25 : decode cX8_sendUp 25 = .ok (.ifCond .ne 5, 3) := by decide +kernel
theorem dX8_sendUp_28 : decode cX8_sendUp 28 = .ok (.iconst (-1), 1) := by decide +kernel
theorem dX8_sendUp_29 : decode cX8_sendUp 29 = .ok (.ireturn, 1) := by decide +kernel
theorem dX8_sendUp_30 : decode cX8_sendUp 30 = .ok (.aload_n 0, 1) := by decide +kernel
theorem dX8_sendUp_31 : decode cX8_sendUp 31 = .ok (.getfield 21, 3) := by decide +kernel
theorem dX8_sendUp_34 : decode cX8_sendUp 34 = .ok (.getfield 100, 3) := by decide +kernel
theorem dX8_sendUp_37 : decode cX8_sendUp 37 = .ok (.iload_n 1, 1) := by decide +kernel
theorem dX8_sendUp_38 : decode cX8_sendUp 38 = .ok (.invokevirtual 110, 3) := by decide +kernel
theorem dX8_sendUp_41 : decode cX8_sendUp 41 = .ok (.iload_n 2, 1) := by decide +kernel
theorem dX8_sendUp_42 : decode cX8_sendUp 42 = .ok (.if_icmp .ne 14, 3) := by decide +kernel
theorem dX8_sendUp_45 : decode cX8_sendUp 45 = .ok (.aload_n 0, 1) := by decide +kernel
theorem dX8_sendUp_46 : decode cX8_sendUp 46 = .ok (.getfield 12, 3) := by decide +kernel
theorem dX8_sendUp_49 : decode cX8_sendUp 49 = .ok (.bipush 7, 2) := by decide +kernel
theorem dX8_sendUp_51 : decode cX8_sendUp 51 = .ok (.iload_n 2, 1) := by decide +kernel
theorem dX8_sendUp_52 : decode cX8_sendUp 52 = .ok (.invokevirtual 39, 3) := by decide +kernel
theorem dX8_sendUp_55 : decode cX8_sendUp 55 = .ok (.ireturn, 1) := by decide +kernel
theorem dX8_sendUp_56 : decode cX8_sendUp 56 = .ok (.aload_n 0, 1) := by decide +kernel
theorem dX8_sendUp_57 : decode cX8_sendUp 57 = .ok (.getfield 21, 3) := by decide +kernel
theorem dX8_sendUp_60 : decode cX8_sendUp 60 = .ok (.invokevirtual 65, 3) := by decide +kernel
theorem dX8_sendUp_63 : decode cX8_sendUp 63 = .ok (.ifCond .eq 19, 3) := by decide +kernel
theorem dX8_sendUp_66 : decode cX8_sendUp 66 = .ok (.aload_n 0, 1) := by decide +kernel

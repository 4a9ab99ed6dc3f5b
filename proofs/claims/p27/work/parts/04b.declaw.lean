theorem dJ9_max_7cf53_0 : decode cJ9_max_7cf53 0 = .ok (.iload_n 0, 1) := by decide +kernel
theorem dJ9_max_7cf53_1 : decode cJ9_max_7cf53 1 = .ok (.iload_n 1, 1) := by decide +kernel
theorem dJ9_max_7cf53_2 : decode cJ9_max_7cf53 2 = .ok (.if_icmp .lt 7, 3) := by decide +kernel
theorem dJ9_max_7cf53_5 : decode cJ9_max_7cf53 5 = .ok (.iload_n 0, 1) := by decide +kernel
theorem dJ9_max_7cf53_6 : decode cJ9_max_7cf53 6 = .ok (.goto 4, 3) := by decide +kernel
theorem dJ9_max_7cf53_9 : decode cJ9_max_7cf53 9 = .ok (.iload_n 1, 1) := by decide +kernel
theorem dJ9_max_7cf53_10 : decode cJ9_max_7cf53 10 = .ok (.ireturn, 1) := by decide +kernel
theorem dJ9_max_f86c9_0 : decode cJ9_max_f86c9 0 = .ok (.lload_n 0, 1) := by decide +kernel
theorem dJ9_max_f86c9_1 : decode cJ9_max_f86c9 1 = .ok (.lload_n 2, 1) := by decide +kernel
theorem dJ9_max_f86c9_2 : decode cJ9_max_f86c9 2 = .ok (.lcmp, 1) := by decide +kernel
theorem dJ9_max_f86c9_3 : decode cJ9_max_f86c9 3 = .ok (.ifCond .lt 7, 3) := by decide +kernel
theorem dJ9_max_f86c9_6 : decode cJ9_max_f86c9 6 = .ok (.lload_n 0, 1) := by decide +kernel
theorem dJ9_max_f86c9_7 : decode cJ9_max_f86c9 7 = .ok (.goto 4, 3) := by decide +kernel
theorem dJ9_max_f86c9_10 : decode cJ9_max_f86c9 10 = .ok (.lload_n 2, 1) := by decide +kernel
theorem dJ9_max_f86c9_11 : decode cJ9_max_f86c9 11 = .ok (.lreturn, 1) := by decide +kernel
theorem dJ9_min_7cf53_0 : decode cJ9_min_7cf53 0 = .ok (.iload_n 0, 1) := by decide +kernel
theorem dJ9_min_7cf53_1 : decode cJ9_min_7cf53 1 = .ok (.iload_n 1, 1) := by decide +kernel
theorem dJ9_min_7cf53_2 : decode cJ9_min_7cf53 2 = .ok (.if_icmp .gt 7, 3) := by decide +kernel
theorem dJ9_min_7cf53_5 : decode cJ9_min_7cf53 5 = .ok (.iload_n 0, 1) := by decide +kernel
theorem dJ9_min_7cf53_6 : decode cJ9_min_7cf53 6 = .ok (.goto 4, 3) := by decide +kernel
theorem dJ9_min_7cf53_9 : decode cJ9_min_7cf53 9 = .ok (.iload_n 1, 1) := by decide +kernel
theorem dJ9_min_7cf53_10 : decode cJ9_min_7cf53 10 = .ok (.ireturn, 1) := by decide +kernel
theorem dJ9_min_f86c9_0 : decode cJ9_min_f86c9 0 = .ok (.lload_n 0, 1) := by decide +kernel
theorem dJ9_min_f86c9_1 : decode cJ9_min_f86c9 1 = .ok (.lload_n 2, 1) := by decide +kernel
theorem dJ9_min_f86c9_2 : decode cJ9_min_f86c9 2 = .ok (.lcmp, 1) := by decide +kernel
theorem dJ9_min_f86c9_3 : decode cJ9_min_f86c9 3 = .ok (.ifCond .gt 7, 3) := by decide +kernel
theorem dJ9_min_f86c9_6 : decode cJ9_min_f86c9 6 = .ok (.lload_n 0, 1) := by decide +kernel
theorem dJ9_min_f86c9_7 : decode cJ9_min_f86c9 7 = .ok (.goto 4, 3) := by decide +kernel
theorem dJ9_min_f86c9_10 : decode cJ9_min_f86c9 10 = .ok (.lload_n 2, 1) := by decide +kernel
theorem dJ9_min_f86c9_11 : decode cJ9_min_f86c9 11 = .ok (.lreturn, 1) := by decide +kernel
theorem dJ0_length_8abf5_0 : decode cJ0_length_8abf5 0 = .ok (.aload_n 0, 1) := by decide +kernel
theorem dJ0_length_8abf5_1 : decode cJ0_length_8abf5 1 = .ok (.getfield 9, 3) := by decide +kernel
theorem dJ0_length_8abf5_4 : decode cJ0_length_8abf5 4 = .ok (.arraylength, 1) := by decide +kernel
theorem dJ0_length_8abf5_5 : decode cJ0_length_8abf5 5 = .ok (.aload_n 0, 1) := by decide +kernel
theorem dJ0_length_8abf5_6 : decode cJ0_length_8abf5 6 = .ok (.invokevirtual 335, 3) := by decide +kernel
theorem dJ0_length_8abf5_9 : decode cJ0_length_8abf5 9 = .ok (.ishr, 1) := by decide +kernel
theorem dJ0_length_8abf5_10 : decode cJ0_length_8abf5 10 = .ok (.ireturn, 1) := by decide +kernel
theorem dJ0_charAt_5068e_0 : decode cJ0_charAt_5068e 0 = .ok (.aload_n 0, 1) := by decide +kernel
theorem dJ0_charAt_5068e_1 : decode cJ0_charAt_5068e 1 = .ok (.invokevirtual 492, 3) := by decide +kernel
theorem dJ0_charAt_5068e_4 : decode cJ0_charAt_5068e 4 = .ok (.ifCond .eq 12, 3) := by decide +kernel
theorem dJ0_charAt_5068e_7 : decode cJ0_charAt_5068e 7 = .ok (.aload_n 0, 1) := by decide +kernel
theorem dJ0_charAt_5068e_8 : decode cJ0_charAt_5068e 8 = .ok (.getfield 9, 3) := by decide +kernel
theorem dJ0_charAt_5068e_11 : decode cJ0_charAt_5068e 11 = .ok (.iload_n 1, 1) := by decide +kernel
theorem dJ0_charAt_5068e_12 : decode cJ0_charAt_5068e 12 = .ok (.invokestatic 495, 3) := by decide +kernel
theorem dJ0_charAt_5068e_15 : decode cJ0_charAt_5068e 15 = .ok (.ireturn, 1) := by decide +kernel
theorem dJ0_charAt_5068e_16 : decode cJ0_charAt_5068e 16 = .ok (.aload_n 0, 1) := by decide +kernel
theorem dJ0_charAt_5068e_17 : decode cJ0_charAt_5068e 17 = .ok (.getfield 9, 3) := by decide +kernel
theorem dJ0_charAt_5068e_20 : decode cJ0_charAt_5068e 20 = .ok (.iload_n 1, 1) := by decide +kernel
theorem dJ0_charAt_5068e_21 : decode cJ0_charAt_5068e 21 = .ok (.invokestatic 498, 3) := by decide +kernel
theorem dJ0_charAt_5068e_24 : decode cJ0_charAt_5068e 24 = .ok (.ireturn, 1) := by decide +kernel
theorem dJ0_coder_7d493_0 : decode cJ0_coder_7d493 0 = .ok (.getstatic 38, 3) := by decide +kernel
theorem dJ0_coder_7d493_3 : decode cJ0_coder_7d493 3 = .ok (.ifCond .eq 10, 3) := by decide +kernel
theorem dJ0_coder_7d493_6 : decode cJ0_coder_7d493 6 = .ok (.aload_n 0, 1) := by decide +kernel
theorem dJ0_coder_7d493_7 : decode cJ0_coder_7d493 7 = .ok (.getfield 15, 3) := by decide +kernel
theorem dJ0_coder_7d493_10 : decode cJ0_coder_7d493 10 = .ok (.goto 4, 3) := by decide +kernel
theorem dJ0_coder_7d493_13 : decode cJ0_coder_7d493 13 = .ok (.iconst 1, 1) := by decide +kernel
theorem dJ0_coder_7d493_14 : decode cJ0_coder_7d493 14 = .ok (.ireturn, 1) := by decide +kernel
theorem dJ0_isLatin1_aae02_0 : decode cJ0_isLatin1_aae02 0 = .ok (.getstatic 38, 3) := by decide +kernel
theorem dJ0_isLatin1_aae02_3 : decode cJ0_isLatin1_aae02 3 = .ok (.ifCond .eq 14, 3) := by decide +kernel
theorem dJ0_isLatin1_aae02_6 : decode cJ0_isLatin1_aae02 6 = .ok (.aload_n 0, 1) := by decide +kernel
theorem dJ0_isLatin1_aae02_7 : decode cJ0_isLatin1_aae02 7 = .ok (.getfield 15, 3) := by decide +kernel
theorem dJ0_isLatin1_aae02_10 : decode cJ0_isLatin1_aae02 10 = .ok (.ifCond .ne 7, 3) := by decide +kernel
theorem dJ0_isLatin1_aae02_13 : decode cJ0_isLatin1_aae02 13 = .ok (.iconst 1, 1) := by decide +kernel
theorem dJ0_isLatin1_aae02_14 : decode cJ0_isLatin1_aae02 14 = .ok (.goto 4, 3) := by decide +kernel
theorem dJ0_isLatin1_aae02_17 : decode cJ0_isLatin1_aae02 17 = .ok (.iconst 0, 1) := by decide +kernel
theorem dJ0_isLatin1_aae02_18 : decode cJ0_isLatin1_aae02 18 = .ok (.ireturn, 1) := by decide +kernel
theorem dJ0_checkIndex_df160_0 : decode cJ0_checkIndex_df160 0 = .ok (.iload_n 0, 1) := by decide +kernel
theorem dJ0_checkIndex_df160_1 : decode cJ0_checkIndex_df160 1 = .ok (.iload_n 1, 1) := by decide +kernel
theorem dJ0_checkIndex_df160_2 : decode cJ0_checkIndex_df160 2 = .ok (.getstatic 1053, 3) := by decide +kernel
theorem dJ0_checkIndex_df160_5 : decode cJ0_checkIndex_df160 5 = .ok (.invokestatic 1059, 3) := by decide +kernel
theorem dJ0_checkIndex_df160_8 : decode cJ0_checkIndex_df160 8 = .ok (.pop, 1) := by decide +kernel
theorem dJ0_checkIndex_df160_9 : decode cJ0_checkIndex_df160 9 = .ok (.return_, 1) := by decide +kernel
theorem dJ1_charAt_3b067_0 : decode cJ1_charAt_3b067 0 = .ok (.iload_n 1, 1) := by decide +kernel
theorem dJ1_charAt_3b067_1 : decode cJ1_charAt_3b067 1 = .ok (.aload_n 0, 1) := by decide +kernel
theorem dJ1_charAt_3b067_2 : decode cJ1_charAt_3b067 2 = .ok (.arraylength, 1) := by decide +kernel
theorem dJ1_charAt_3b067_3 : decode cJ1_charAt_3b067 3 = .ok (.invokestatic 9, 3) := by decide +kernel
theorem dJ1_charAt_3b067_6 : decode cJ1_charAt_3b067 6 = .ok (.aload_n 0, 1) := by decide +kernel
theorem dJ1_charAt_3b067_7 : decode cJ1_charAt_3b067 7 = .ok (.iload_n 1, 1) := by decide +kernel
theorem dJ1_charAt_3b067_8 : decode cJ1_charAt_3b067 8 = .ok (.baload, 1) := by decide +kernel
theorem dJ1_charAt_3b067_9 : decode cJ1_charAt_3b067 9 = .ok (.sipush 255, 3) := by decide +kernel
theorem dJ1_charAt_3b067_12 : decode cJ1_charAt_3b067 12 = .ok (.iand, 1) := by decide +kernel
theorem dJ1_charAt_3b067_13 : decode cJ1_charAt_3b067 13 = .ok (.i2c, 1) := by decide +kernel
theorem dJ1_charAt_3b067_14 : decode cJ1_charAt_3b067 14 = .ok (.ireturn, 1) := by decide +kernel
theorem dJ2_getChar_3b067_0 : decode cJ2_getChar_3b067 0 = .ok (.getstatic 44, 3) := by decide +kernel
theorem dJ2_getChar_3b067_3 : decode cJ2_getChar_3b067 3 = .ok (.ifCond .ne 25, 3) := by decide +kernel
theorem dJ2_getChar_3b067_6 : decode cJ2_getChar_3b067 6 = .ok (.iload_n 1, 1) := by decide +kernel
theorem dJ2_getChar_3b067_7 : decode cJ2_getChar_3b067 7 = .ok (.ifCond .lt 11, 3) := by decide +kernel
theorem dJ2_getChar_3b067_10 : decode cJ2_getChar_3b067 10 = .ok (.iload_n 1, 1) := by decide +kernel
theorem dJ2_getChar_3b067_11 : decode cJ2_getChar_3b067 11 = .ok (.aload_n 0, 1) := by decide +kernel
theorem dJ2_getChar_3b067_12 : decode cJ2_getChar_3b067 12 = .ok (.invokestatic 48, 3) := by decide +kernel
theorem dJ2_getChar_3b067_15 : decode cJ2_getChar_3b067 15 = .ok (.if_icmp .lt 13, 3) := by decide +kernel
theorem dJ2_getChar_3b067_18 : decode cJ2_getChar_3b067 18 = .ok (.new 52, 3) := by decide +kernel
theorem dJ2_getChar_3b067_21 : decode cJ2_getChar_3b067 21 = .ok (.dup, 1) := by decide +kernel
theorem dJ2_getChar_3b067_22 : decode cJ2_getChar_3b067 22 = .ok (.ldc 54, 2) := by decide +kernel
theorem dJ2_getChar_3b067_24 : decode cJ2_getChar_3b067 24 = .ok (.invokespecial 56, 3) := by decide +kernel
theorem dJ2_getChar_3b067_27 : decode cJ2_getChar_3b067 27 = .ok (.athrow, 1) := by decide +kernel
theorem dJ2_getChar_3b067_28 : decode cJ2_getChar_3b067 28 = .ok (.iload_n 1, 1) := by decide +kernel
theorem dJ2_getChar_3b067_29 : decode cJ2_getChar_3b067 29 = .ok (.iconst 1, 1) := by decide +kernel
theorem dJ2_getChar_3b067_30 : decode cJ2_getChar_3b067 30 = .ok (.ishl, 1) := by decide +kernel
theorem dJ2_getChar_3b067_31 : decode cJ2_getChar_3b067 31 = .ok (.istore_n 1, 1) := by decide +kernel
theorem dJ2_getChar_3b067_32 : decode cJ2_getChar_3b067 32 = .ok (.aload_n 0, 1) := by decide +kernel
theorem dJ2_getChar_3b067_33 : decode cJ2_getChar_3b067 33 = .ok (.iload_n 1, 1) := by decide +kernel
theorem dJ2_getChar_3b067_34 : decode cJ2_getChar_3b067 34 = .ok (.iinc 1 1, 3) := by decide +kernel
theorem dJ2_getChar_3b067_37 : decode cJ2_getChar_3b067 37 = .ok (.baload, 1) := by decide +kernel
theorem dJ2_getChar_3b067_38 : decode cJ2_getChar_3b067 38 = .ok (.sipush 255, 3) := by decide +kernel
theorem dJ2_getChar_3b067_41 : decode cJ2_getChar_3b067 41 = .ok (.iand, 1) := by decide +kernel
theorem dJ2_getChar_3b067_42 : decode cJ2_getChar_3b067 42 = .ok (.getstatic 59, 3) := by decide +kernel
theorem dJ2_getChar_3b067_45 : decode cJ2_getChar_3b067 45 = .ok (.ishl, 1) := by decide +kernel
theorem dJ2_getChar_3b067_46 : decode cJ2_getChar_3b067 46 = .ok (.aload_n 0, 1) := by decide +kernel
theorem dJ2_getChar_3b067_47 : decode cJ2_getChar_3b067 47 = .ok (.iload_n 1, 1) := by decide +kernel
theorem dJ2_getChar_3b067_48 : decode cJ2_getChar_3b067 48 = .ok (.baload, 1) := by decide +kernel
theorem dJ2_getChar_3b067_49 : decode cJ2_getChar_3b067 49 = .ok (.sipush 255, 3) := by decide +kernel
theorem dJ2_getChar_3b067_52 : decode cJ2_getChar_3b067 52 = .ok (.iand, 1) := by decide +kernel
theorem dJ2_getChar_3b067_53 : decode cJ2_getChar_3b067 53 = .ok (.getstatic 63, 3) := by decide +kernel
theorem dJ2_getChar_3b067_56 : decode cJ2_getChar_3b067 56 = .ok (.ishl, 1) := by decide +kernel
theorem dJ2_getChar_3b067_57 : decode cJ2_getChar_3b067 57 = .ok (.ior, 1) := by decide +kernel
theorem dJ2_getChar_3b067_58 : decode cJ2_getChar_3b067 58 = .ok (.i2c, 1) := by decide +kernel
theorem dJ2_getChar_3b067_59 : decode cJ2_getChar_3b067 59 = .ok (.ireturn, 1) := by decide +kernel
theorem dJ2_length_9d52b_0 : decode cJ2_length_9d52b 0 = .ok (.aload_n 0, 1) := by decide +kernel
theorem dJ2_length_9d52b_1 : decode cJ2_length_9d52b 1 = .ok (.arraylength, 1) := by decide +kernel
theorem dJ2_length_9d52b_2 : decode cJ2_length_9d52b 2 = .ok (.iconst 1, 1) := by decide +kernel
theorem dJ2_length_9d52b_3 : decode cJ2_length_9d52b 3 = .ok (.ishr, 1) := by decide +kernel
theorem dJ2_length_9d52b_4 : decode cJ2_length_9d52b 4 = .ok (.ireturn, 1) := by decide +kernel
theorem dJ2_charAt_3b067_0 : decode cJ2_charAt_3b067 0 = .ok (.iload_n 1, 1) := by decide +kernel
theorem dJ2_charAt_3b067_1 : decode cJ2_charAt_3b067 1 = .ok (.aload_n 0, 1) := by decide +kernel
theorem dJ2_charAt_3b067_2 : decode cJ2_charAt_3b067 2 = .ok (.invokestatic 67, 3) := by decide +kernel
theorem dJ2_charAt_3b067_5 : decode cJ2_charAt_3b067 5 = .ok (.aload_n 0, 1) := by decide +kernel
theorem dJ2_charAt_3b067_6 : decode cJ2_charAt_3b067 6 = .ok (.iload_n 1, 1) := by decide +kernel
theorem dJ2_charAt_3b067_7 : decode cJ2_charAt_3b067 7 = .ok (.invokestatic 71, 3) := by decide +kernel
theorem dJ2_charAt_3b067_10 : decode cJ2_charAt_3b067 10 = .ok (.ireturn, 1) := by decide +kernel
theorem dJ2_checkIndex_2214a_0 : decode cJ2_checkIndex_2214a 0 = .ok (.iload_n 0, 1) := by decide +kernel
theorem dJ2_checkIndex_2214a_1 : decode cJ2_checkIndex_2214a 1 = .ok (.aload_n 1, 1) := by decide +kernel
theorem dJ2_checkIndex_2214a_2 : decode cJ2_checkIndex_2214a 2 = .ok (.invokestatic 48, 3) := by decide +kernel
theorem dJ2_checkIndex_2214a_5 : decode cJ2_checkIndex_2214a 5 = .ok (.invokestatic 414, 3) := by decide +kernel
theorem dJ2_checkIndex_2214a_8 : decode cJ2_checkIndex_2214a 8 = .ok (.return_, 1) := by decide +kernel
theorem dJ3_checkIndex_8e157_0 : decode cJ3_checkIndex_8e157 0 = .ok (.iload_n 0, 1) := by decide +kernel
theorem dJ3_checkIndex_8e157_1 : decode cJ3_checkIndex_8e157 1 = .ok (.ifCond .lt 8, 3) := by decide +kernel
theorem dJ3_checkIndex_8e157_4 : decode cJ3_checkIndex_8e157 4 = .ok (.iload_n 0, 1) := by decide +kernel
theorem dJ3_checkIndex_8e157_5 : decode cJ3_checkIndex_8e157 5 = .ok (.iload_n 1, 1) := by decide +kernel
theorem dJ3_checkIndex_8e157_6 : decode cJ3_checkIndex_8e157 6 = .ok (.if_icmp .lt 10, 3) := by decide +kernel
theorem dJ3_checkIndex_8e157_9 : decode cJ3_checkIndex_8e157 9 = .ok (.aload_n 2, 1) := by decide +kernel
theorem dJ3_checkIndex_8e157_10 : decode cJ3_checkIndex_8e157 10 = .ok (.iload_n 0, 1) := by decide +kernel
theorem dJ3_checkIndex_8e157_11 : decode cJ3_checkIndex_8e157 11 = .ok (.iload_n 1, 1) := by decide +kernel
theorem dJ3_checkIndex_8e157_12 : decode cJ3_checkIndex_8e157 12 = .ok (.invokestatic 95, 3) := by decide +kernel
theorem dJ3_checkIndex_8e157_15 : decode cJ3_checkIndex_8e157 15 = .ok (.athrow, 1) := by decide +kernel
theorem dJ3_checkIndex_8e157_16 : decode cJ3_checkIndex_8e157 16 = .ok (.iload_n 0, 1) := by decide +kernel
theorem dJ3_checkIndex_8e157_17 : decode cJ3_checkIndex_8e157 17 = .ok (.ireturn, 1) := by decide +kernel
theorem dL_below_0 : decode cL_below 0 = .ok (.iload_n 0, 1) := by decide +kernel
theorem dL_below_1 : decode cL_below 1 = .ok (.ldc 7, 2) := by decide +kernel
theorem dL_below_3 : decode cL_below 3 = .ok (.iand, 1) := by decide +kernel
theorem dL_below_4 : decode cL_below 4 = .ok (.iload_n 1, 1) := by decide +kernel
theorem dL_below_5 : decode cL_below 5 = .ok (.irem, 1) := by decide +kernel
theorem dL_below_6 : decode cL_below 6 = .ok (.ireturn, 1) := by decide +kernel
theorem dL_cell_0 : decode cL_cell 0 = .ok (.iload_n 1, 1) := by decide +kernel
theorem dL_cell_1 : decode cL_cell 1 = .ok (.aload_n 0, 1) := by decide +kernel
theorem dL_cell_2 : decode cL_cell 2 = .ok (.arraylength, 1) := by decide +kernel
theorem dL_cell_3 : decode cL_cell 3 = .ok (.if_icmp .ge 9, 3) := by decide +kernel
theorem dL_cell_6 : decode cL_cell 6 = .ok (.aload_n 0, 1) := by decide +kernel
theorem dL_cell_7 : decode cL_cell 7 = .ok (.iload_n 1, 1) := by decide +kernel
theorem dL_cell_8 : decode cL_cell 8 = .ok (.iaload, 1) := by decide +kernel
theorem dL_cell_9 : decode cL_cell 9 = .ok (.goto 9, 3) := by decide +kernel
theorem dL_cell_12 : decode cL_cell 12 = .ok (.ldc 8, 2) := by decide +kernel
theorem dL_cell_14 : decode cL_cell 14 = .ok (.iload_n 1, 1) := by decide +kernel
theorem dL_cell_15 : decode cL_cell 15 = .ok (.iconst 3, 1) := by decide +kernel
theorem dL_cell_16 : decode cL_cell 16 = .ok (.iadd, 1) := by decide +kernel
theorem dL_cell_17 : decode cL_cell 17 = .ok (.imul, 1) := by decide +kernel
theorem dL_cell_18 : decode cL_cell 18 = .ok (.ireturn, 1) := by decide +kernel
theorem dL_put_0 : decode cL_put 0 = .ok (.iconst 0, 1) := by decide +kernel
theorem dL_put_1 : decode cL_put 1 = .ok (.istore_n 2, 1) := by decide +kernel
theorem dL_put_2 : decode cL_put 2 = .ok (.iload_n 2, 1) := by decide +kernel
theorem dL_put_3 : decode cL_put 3 = .ok (.aload_n 1, 1) := by decide +kernel
theorem dL_put_4 : decode cL_put 4 = .ok (.invokevirtual 9, 3) := by decide +kernel
theorem dL_put_7 : decode cL_put 7 = .ok (.if_icmp .ge 23, 3) := by decide +kernel
theorem dL_put_10 : decode cL_put 10 = .ok (.aload_n 0, 1) := by decide +kernel
theorem dL_put_11 : decode cL_put 11 = .ok (.iconst 1, 1) := by decide +kernel
theorem dL_put_12 : decode cL_put 12 = .ok (.aload_n 0, 1) := by decide +kernel
theorem dL_put_13 : decode cL_put 13 = .ok (.iconst 0, 1) := by decide +kernel
theorem dL_put_14 : decode cL_put 14 = .ok (.iaload, 1) := by decide +kernel
theorem dL_put_15 : decode cL_put 15 = .ok (.iadd, 1) := by decide +kernel
theorem dL_put_16 : decode cL_put 16 = .ok (.iload_n 2, 1) := by decide +kernel
theorem dL_put_17 : decode cL_put 17 = .ok (.iadd, 1) := by decide +kernel
theorem dL_put_18 : decode cL_put 18 = .ok (.aload_n 1, 1) := by decide +kernel
theorem dL_put_19 : decode cL_put 19 = .ok (.iload_n 2, 1) := by decide +kernel
theorem dL_put_20 : decode cL_put 20 = .ok (.invokevirtual 15, 3) := by decide +kernel
theorem dL_put_23 : decode cL_put 23 = .ok (.iastore, 1) := by decide +kernel
theorem dL_put_24 : decode cL_put 24 = .ok (.iinc 2 1, 3) := by decide +kernel
theorem dL_put_27 : decode cL_put 27 = .ok (.goto (-25), 3) := by decide +kernel
theorem dL_put_30 : decode cL_put 30 = .ok (.aload_n 0, 1) := by decide +kernel
theorem dL_put_31 : decode cL_put 31 = .ok (.iconst 0, 1) := by decide +kernel
theorem dL_put_32 : decode cL_put 32 = .ok (.dup2, 1) := by decide +kernel
theorem dL_put_33 : decode cL_put 33 = .ok (.iaload, 1) := by decide +kernel
theorem dL_put_34 : decode cL_put 34 = .ok (.aload_n 1, 1) := by decide +kernel
theorem dL_put_35 : decode cL_put 35 = .ok (.invokevirtual 9, 3) := by decide +kernel
theorem dL_put_38 : decode cL_put 38 = .ok (.iadd, 1) := by decide +kernel
theorem dL_put_39 : decode cL_put 39 = .ok (.iastore, 1) := by decide +kernel
theorem dL_put_40 : decode cL_put 40 = .ok (.return_, 1) := by decide +kernel
theorem dL_put__0 : decode cL_put_ 0 = .ok (.iload_n 1, 1) := by decide +kernel
theorem dL_put__1 : decode cL_put_ 1 = .ok (.bipush 9, 2) := by decide +kernel
theorem dL_put__3 : decode cL_put_ 3 = .ok (.if_icmp .le 11, 3) := by decide +kernel
theorem dL_put__6 : decode cL_put_ 6 = .ok (.aload_n 0, 1) := by decide +kernel
theorem dL_put__7 : decode cL_put_ 7 = .ok (.iload_n 1, 1) := by decide +kernel
theorem dL_put__8 : decode cL_put_ 8 = .ok (.bipush 10, 2) := by decide +kernel
theorem dL_put__10 : decode cL_put_ 10 = .ok (.idiv, 1) := by decide +kernel
theorem dL_put__11 : decode cL_put_ 11 = .ok (.invokestatic 19, 3) := by decide +kernel
theorem dL_put__14 : decode cL_put_ 14 = .ok (.aload_n 0, 1) := by decide +kernel
theorem dL_put__15 : decode cL_put_ 15 = .ok (.iconst 1, 1) := by decide +kernel
theorem dL_put__16 : decode cL_put_ 16 = .ok (.aload_n 0, 1) := by decide +kernel
theorem dL_put__17 : decode cL_put_ 17 = .ok (.iconst 0, 1) := by decide +kernel
theorem dL_put__18 : decode cL_put_ 18 = .ok (.iaload, 1) := by decide +kernel
theorem dL_put__19 : decode cL_put_ 19 = .ok (.iadd, 1) := by decide +kernel
theorem dL_put__20 : decode cL_put_ 20 = .ok (.bipush 48, 2) := by decide +kernel
theorem dL_put__22 : decode cL_put_ 22 = .ok (.iload_n 1, 1) := by decide +kernel
theorem dL_put__23 : decode cL_put_ 23 = .ok (.bipush 10, 2) := by decide +kernel
theorem dL_put__25 : decode cL_put_ 25 = .ok (.irem, 1) := by decide +kernel
theorem dL_put__26 : decode cL_put_ 26 = .ok (.iadd, 1) := by decide +kernel
theorem dL_put__27 : decode cL_put_ 27 = .ok (.iastore, 1) := by decide +kernel
theorem dL_put__28 : decode cL_put_ 28 = .ok (.aload_n 0, 1) := by decide +kernel
theorem dL_put__29 : decode cL_put_ 29 = .ok (.iconst 0, 1) := by decide +kernel
theorem dL_put__30 : decode cL_put_ 30 = .ok (.dup2, 1) := by decide +kernel
theorem dL_put__31 : decode cL_put_ 31 = .ok (.iaload, 1) := by decide +kernel
theorem dL_put__32 : decode cL_put_ 32 = .ok (.iconst 1, 1) := by decide +kernel
theorem dL_put__33 : decode cL_put_ 33 = .ok (.iadd, 1) := by decide +kernel
theorem dL_put__34 : decode cL_put_ 34 = .ok (.iastore, 1) := by decide +kernel
theorem dL_put__35 : decode cL_put_ 35 = .ok (.return_, 1) := by decide +kernel
theorem dL_lay_0 : decode cL_lay 0 = .ok (.aload_n 0, 1) := by decide +kernel
theorem dL_lay_1 : decode cL_lay 1 = .ok (.bipush 6, 2) := by decide +kernel
theorem dL_lay_3 : decode cL_lay 3 = .ok (.invokevirtual 25, 3) := by decide +kernel
theorem dL_lay_6 : decode cL_lay 6 = .ok (.istore_n 2, 1) := by decide +kernel
theorem dL_lay_7 : decode cL_lay 7 = .ok (.aload_n 1, 1) := by decide +kernel
theorem dL_lay_8 : decode cL_lay 8 = .ok (.iconst 0, 1) := by decide +kernel
theorem dL_lay_9 : decode cL_lay 9 = .ok (.iaload, 1) := by decide +kernel
theorem dL_lay_10 : decode cL_lay 10 = .ok (.istore_n 3, 1) := by decide +kernel
theorem dL_lay_11 : decode cL_lay 11 = .ok (.iconst 0, 1) := by decide +kernel
theorem dL_lay_12 : decode cL_lay 12 = .ok (.istore 4, 2) := by decide +kernel
theorem dL_lay_14 : decode cL_lay 14 = .ok (.iload 4, 2) := by decide +kernel
theorem dL_lay_16 : decode cL_lay 16 = .ok (.iload_n 3, 1) := by decide +kernel
theorem dL_lay_17 : decode cL_lay 17 = .ok (.if_icmp .ge 96, 3) := by decide +kernel
theorem dL_lay_20 : decode cL_lay 20 = .ok (.iconst 5, 1) := by decide +kernel
theorem dL_lay_21 : decode cL_lay 21 = .ok (.newarray .int, 2) := by decide +kernel
theorem dL_lay_23 : decode cL_lay 23 = .ok (.astore 5, 2) := by decide +kernel
theorem dL_lay_25 : decode cL_lay 25 = .ok (.iconst 0, 1) := by decide +kernel
theorem dL_lay_26 : decode cL_lay 26 = .ok (.istore 6, 2) := by decide +kernel
theorem dL_lay_28 : decode cL_lay 28 = .ok (.iload 6, 2) := by decide +kernel
theorem dL_lay_30 : decode cL_lay 30 = .ok (.bipush 20, 2) := by decide +kernel
theorem dL_lay_32 : decode cL_lay 32 = .ok (.if_icmp .ge 50, 3) := by decide +kernel
theorem dL_lay_35 : decode cL_lay 35 = .ok (.aload 5, 2) := by decide +kernel
theorem dL_lay_37 : decode cL_lay 37 = .ok (.iload 6, 2) := by decide +kernel
theorem dL_lay_39 : decode cL_lay 39 = .ok (.iconst 4, 1) := by decide +kernel
theorem dL_lay_40 : decode cL_lay 40 = .ok (.idiv, 1) := by decide +kernel
theorem dL_lay_41 : decode cL_lay 41 = .ok (.aload 5, 2) := by decide +kernel
theorem dL_lay_43 : decode cL_lay 43 = .ok (.iload 6, 2) := by decide +kernel
theorem dL_lay_45 : decode cL_lay 45 = .ok (.iconst 4, 1) := by decide +kernel
theorem dL_lay_46 : decode cL_lay 46 = .ok (.idiv, 1) := by decide +kernel
theorem dL_lay_47 : decode cL_lay 47 = .ok (.iaload, 1) := by decide +kernel
theorem dL_lay_48 : decode cL_lay 48 = .ok (.bipush 8, 2) := by decide +kernel
theorem dL_lay_50 : decode cL_lay 50 = .ok (.ishl, 1) := by decide +kernel
theorem dL_lay_51 : decode cL_lay 51 = .ok (.iload 4, 2) := by decide +kernel
theorem dL_lay_53 : decode cL_lay 53 = .ok (.iload 6, 2) := by decide +kernel
theorem dL_lay_55 : decode cL_lay 55 = .ok (.iadd, 1) := by decide +kernel
theorem dL_lay_56 : decode cL_lay 56 = .ok (.iload_n 3, 1) := by decide +kernel
theorem dL_lay_57 : decode cL_lay 57 = .ok (.if_icmp .ge 15, 3) := by decide +kernel
theorem dL_lay_60 : decode cL_lay 60 = .ok (.aload_n 1, 1) := by decide +kernel
theorem dL_lay_61 : decode cL_lay 61 = .ok (.iconst 1, 1) := by decide +kernel
theorem dL_lay_62 : decode cL_lay 62 = .ok (.iload 4, 2) := by decide +kernel
theorem dL_lay_64 : decode cL_lay 64 = .ok (.iadd, 1) := by decide +kernel
theorem dL_lay_65 : decode cL_lay 65 = .ok (.iload 6, 2) := by decide +kernel
theorem dL_lay_67 : decode cL_lay 67 = .ok (.iadd, 1) := by decide +kernel
theorem dL_lay_68 : decode cL_lay 68 = .ok (.iaload, 1) := by decide +kernel
theorem dL_lay_69 : decode cL_lay 69 = .ok (.goto 5, 3) := by decide +kernel
theorem dL_lay_72 : decode cL_lay 72 = .ok (.bipush 32, 2) := by decide +kernel
theorem dL_lay_74 : decode cL_lay 74 = .ok (.ior, 1) := by decide +kernel
theorem dL_lay_75 : decode cL_lay 75 = .ok (.iastore, 1) := by decide +kernel
theorem dL_lay_76 : decode cL_lay 76 = .ok (.iinc 6 1, 3) := by decide +kernel
theorem dL_lay_79 : decode cL_lay 79 = .ok (.goto (-51), 3) := by decide +kernel
theorem dL_lay_82 : decode cL_lay 82 = .ok (.aload_n 0, 1) := by decide +kernel
theorem dL_lay_83 : decode cL_lay 83 = .ok (.aload 5, 2) := by decide +kernel
theorem dL_lay_85 : decode cL_lay 85 = .ok (.iconst 0, 1) := by decide +kernel
theorem dL_lay_86 : decode cL_lay 86 = .ok (.iaload, 1) := by decide +kernel
theorem dL_lay_87 : decode cL_lay 87 = .ok (.aload 5, 2) := by decide +kernel
theorem dL_lay_89 : decode cL_lay 89 = .ok (.iconst 1, 1) := by decide +kernel
theorem dL_lay_90 : decode cL_lay 90 = .ok (.iaload, 1) := by decide +kernel
theorem dL_lay_91 : decode cL_lay 91 = .ok (.aload 5, 2) := by decide +kernel
theorem dL_lay_93 : decode cL_lay 93 = .ok (.iconst 2, 1) := by decide +kernel
theorem dL_lay_94 : decode cL_lay 94 = .ok (.iaload, 1) := by decide +kernel
theorem dL_lay_95 : decode cL_lay 95 = .ok (.aload 5, 2) := by decide +kernel
theorem dL_lay_97 : decode cL_lay 97 = .ok (.iconst 3, 1) := by decide +kernel
theorem dL_lay_98 : decode cL_lay 98 = .ok (.iaload, 1) := by decide +kernel
theorem dL_lay_99 : decode cL_lay 99 = .ok (.aload 5, 2) := by decide +kernel
theorem dL_lay_101 : decode cL_lay 101 = .ok (.iconst 4, 1) := by decide +kernel
theorem dL_lay_102 : decode cL_lay 102 = .ok (.iaload, 1) := by decide +kernel
theorem dL_lay_103 : decode cL_lay 103 = .ok (.invokevirtual 31, 3) := by decide +kernel
theorem dL_lay_106 : decode cL_lay 106 = .ok (.pop, 1) := by decide +kernel
theorem dL_lay_107 : decode cL_lay 107 = .ok (.iinc 4 20, 3) := by decide +kernel
theorem dL_lay_110 : decode cL_lay 110 = .ok (.goto (-96), 3) := by decide +kernel
theorem dL_lay_113 : decode cL_lay 113 = .ok (.aload_n 0, 1) := by decide +kernel
theorem dL_lay_114 : decode cL_lay 114 = .ok (.iload_n 2, 1) := by decide +kernel
theorem dL_lay_115 : decode cL_lay 115 = .ok (.iload_n 3, 1) := by decide +kernel
theorem dL_lay_116 : decode cL_lay 116 = .ok (.iadd, 1) := by decide +kernel
theorem dL_lay_117 : decode cL_lay 117 = .ok (.invokevirtual 35, 3) := by decide +kernel
theorem dL_lay_120 : decode cL_lay 120 = .ok (.iload_n 2, 1) := by decide +kernel
theorem dL_lay_121 : decode cL_lay 121 = .ok (.iload_n 3, 1) := by decide +kernel
theorem dL_lay_122 : decode cL_lay 122 = .ok (.iadd, 1) := by decide +kernel
theorem dL_lay_123 : decode cL_lay 123 = .ok (.if_icmp .ne 7, 3) := by decide +kernel
theorem dL_lay_126 : decode cL_lay 126 = .ok (.iconst 1, 1) := by decide +kernel
theorem dL_lay_127 : decode cL_lay 127 = .ok (.goto 4, 3) := by decide +kernel
theorem dL_lay_130 : decode cL_lay 130 = .ok (.iconst 0, 1) := by decide +kernel
theorem dL_lay_131 : decode cL_lay 131 = .ok (.ireturn, 1) := by decide +kernel
theorem dL_parts_0 : decode cL_parts 0 = .ok (.aload_n 0, 1) := by decide +kernel
theorem dL_parts_1 : decode cL_parts 1 = .ok (.ldc 38, 2) := by decide +kernel
theorem dL_parts_3 : decode cL_parts 3 = .ok (.invokestatic 40, 3) := by decide +kernel
theorem dL_parts_6 : decode cL_parts 6 = .ok (.iconst 4, 1) := by decide +kernel
theorem dL_parts_7 : decode cL_parts 7 = .ok (.anewarray 10, 3) := by decide +kernel
theorem dL_parts_10 : decode cL_parts 10 = .ok (.dup, 1) := by decide +kernel
theorem dL_parts_11 : decode cL_parts 11 = .ok (.iconst 0, 1) := by decide +kernel
theorem dL_parts_12 : decode cL_parts 12 = .ok (.ldc 43, 2) := by decide +kernel
theorem dL_parts_14 : decode cL_parts 14 = .ok (.aastore, 1) := by decide +kernel
theorem dL_parts_15 : decode cL_parts 15 = .ok (.dup, 1) := by decide +kernel
theorem dL_parts_16 : decode cL_parts 16 = .ok (.iconst 1, 1) := by decide +kernel
theorem dL_parts_17 : decode cL_parts 17 = .ok (.ldc 45, 2) := by decide +kernel
theorem dL_parts_19 : decode cL_parts 19 = .ok (.aastore, 1) := by decide +kernel
theorem dL_parts_20 : decode cL_parts 20 = .ok (.dup, 1) := by decide +kernel
theorem dL_parts_21 : decode cL_parts 21 = .ok (.iconst 2, 1) := by decide +kernel
theorem dL_parts_22 : decode cL_parts 22 = .ok (.ldc 47, 2) := by decide +kernel
theorem dL_parts_24 : decode cL_parts 24 = .ok (.aastore, 1) := by decide +kernel
theorem dL_parts_25 : decode cL_parts 25 = .ok (.dup, 1) := by decide +kernel
theorem dL_parts_26 : decode cL_parts 26 = .ok (.iconst 3, 1) := by decide +kernel
theorem dL_parts_27 : decode cL_parts 27 = .ok (.ldc 49, 2) := by decide +kernel
theorem dL_parts_29 : decode cL_parts 29 = .ok (.aastore, 1) := by decide +kernel
theorem dL_parts_30 : decode cL_parts 30 = .ok (.astore 5, 2) := by decide +kernel
theorem dL_parts_32 : decode cL_parts 32 = .ok (.bipush 10, 2) := by decide +kernel
theorem dL_parts_34 : decode cL_parts 34 = .ok (.anewarray 10, 3) := by decide +kernel
theorem dL_parts_37 : decode cL_parts 37 = .ok (.dup, 1) := by decide +kernel
theorem dL_parts_38 : decode cL_parts 38 = .ok (.iconst 0, 1) := by decide +kernel
theorem dL_parts_39 : decode cL_parts 39 = .ok (.ldc 51, 2) := by decide +kernel
theorem dL_parts_41 : decode cL_parts 41 = .ok (.aastore, 1) := by decide +kernel
theorem dL_parts_42 : decode cL_parts 42 = .ok (.dup, 1) := by decide +kernel
theorem dL_parts_43 : decode cL_parts 43 = .ok (.iconst 1, 1) := by decide +kernel
theorem dL_parts_44 : decode cL_parts 44 = .ok (.ldc 53, 2) := by decide +kernel
theorem dL_parts_46 : decode cL_parts 46 = .ok (.aastore, 1) := by decide +kernel
theorem dL_parts_47 : decode cL_parts 47 = .ok (.dup, 1) := by decide +kernel
theorem dL_parts_48 : decode cL_parts 48 = .ok (.iconst 2, 1) := by decide +kernel
theorem dL_parts_49 : decode cL_parts 49 = .ok (.ldc 55, 2) := by decide +kernel
theorem dL_parts_51 : decode cL_parts 51 = .ok (.aastore, 1) := by decide +kernel
theorem dL_parts_52 : decode cL_parts 52 = .ok (.dup, 1) := by decide +kernel
theorem dL_parts_53 : decode cL_parts 53 = .ok (.iconst 3, 1) := by decide +kernel
theorem dL_parts_54 : decode cL_parts 54 = .ok (.ldc 57, 2) := by decide +kernel
theorem dL_parts_56 : decode cL_parts 56 = .ok (.aastore, 1) := by decide +kernel
theorem dL_parts_57 : decode cL_parts 57 = .ok (.dup, 1) := by decide +kernel
theorem dL_parts_58 : decode cL_parts 58 = .ok (.iconst 4, 1) := by decide +kernel
theorem dL_parts_59 : decode cL_parts 59 = .ok (.ldc 59, 2) := by decide +kernel
theorem dL_parts_61 : decode cL_parts 61 = .ok (.aastore, 1) := by decide +kernel
theorem dL_parts_62 : decode cL_parts 62 = .ok (.dup, 1) := by decide +kernel
theorem dL_parts_63 : decode cL_parts 63 = .ok (.iconst 5, 1) := by decide +kernel
theorem dL_parts_64 : decode cL_parts 64 = .ok (.ldc 61, 2) := by decide +kernel
theorem dL_parts_66 : decode cL_parts 66 = .ok (.aastore, 1) := by decide +kernel
theorem dL_parts_67 : decode cL_parts 67 = .ok (.dup, 1) := by decide +kernel
theorem dL_parts_68 : decode cL_parts 68 = .ok (.bipush 6, 2) := by decide +kernel
theorem dL_parts_70 : decode cL_parts 70 = .ok (.ldc 63, 2) := by decide +kernel
theorem dL_parts_72 : decode cL_parts 72 = .ok (.aastore, 1) := by decide +kernel
theorem dL_parts_73 : decode cL_parts 73 = .ok (.dup, 1) := by decide +kernel
theorem dL_parts_74 : decode cL_parts 74 = .ok (.bipush 7, 2) := by decide +kernel
theorem dL_parts_76 : decode cL_parts 76 = .ok (.ldc 65, 2) := by decide +kernel
theorem dL_parts_78 : decode cL_parts 78 = .ok (.aastore, 1) := by decide +kernel
theorem dL_parts_79 : decode cL_parts 79 = .ok (.dup, 1) := by decide +kernel
theorem dL_parts_80 : decode cL_parts 80 = .ok (.bipush 8, 2) := by decide +kernel
theorem dL_parts_82 : decode cL_parts 82 = .ok (.ldc 67, 2) := by decide +kernel
theorem dL_parts_84 : decode cL_parts 84 = .ok (.aastore, 1) := by decide +kernel
theorem dL_parts_85 : decode cL_parts 85 = .ok (.dup, 1) := by decide +kernel
theorem dL_parts_86 : decode cL_parts 86 = .ok (.bipush 9, 2) := by decide +kernel
theorem dL_parts_88 : decode cL_parts 88 = .ok (.ldc 69, 2) := by decide +kernel
theorem dL_parts_90 : decode cL_parts 90 = .ok (.aastore, 1) := by decide +kernel
theorem dL_parts_91 : decode cL_parts 91 = .ok (.astore 6, 2) := by decide +kernel
theorem dL_parts_93 : decode cL_parts 93 = .ok (.iconst 4, 1) := by decide +kernel
theorem dL_parts_94 : decode cL_parts 94 = .ok (.aload_n 1, 1) := by decide +kernel
theorem dL_parts_95 : decode cL_parts 95 = .ok (.iload_n 2, 1) := by decide +kernel
theorem dL_parts_96 : decode cL_parts 96 = .ok (.invokestatic 71, 3) := by decide +kernel
theorem dL_parts_99 : decode cL_parts 99 = .ok (.iload_n 3, 1) := by decide +kernel
theorem dL_parts_100 : decode cL_parts 100 = .ok (.iconst 3, 1) := by decide +kernel
theorem dL_parts_101 : decode cL_parts 101 = .ok (.isub, 1) := by decide +kernel
theorem dL_parts_102 : decode cL_parts 102 = .ok (.invokestatic 75, 3) := by decide +kernel
theorem dL_parts_105 : decode cL_parts 105 = .ok (.iadd, 1) := by decide +kernel
theorem dL_parts_106 : decode cL_parts 106 = .ok (.istore 7, 2) := by decide +kernel
theorem dL_parts_108 : decode cL_parts 108 = .ok (.iconst 0, 1) := by decide +kernel
theorem dL_parts_109 : decode cL_parts 109 = .ok (.istore 8, 2) := by decide +kernel
theorem dL_parts_111 : decode cL_parts 111 = .ok (.iload 8, 2) := by decide +kernel
theorem dL_parts_113 : decode cL_parts 113 = .ok (.iload 7, 2) := by decide +kernel
theorem dL_parts_115 : decode cL_parts 115 = .ok (.if_icmp .ge 384, 3) := by decide +kernel
theorem dL_parts_118 : decode cL_parts 118 = .ok (.aload_n 1, 1) := by decide +kernel
theorem dL_parts_119 : decode cL_parts 119 = .ok (.iload_n 2, 1) := by decide +kernel
theorem dL_parts_120 : decode cL_parts 120 = .ok (.iconst 1, 1) := by decide +kernel
theorem dL_parts_121 : decode cL_parts 121 = .ok (.iadd, 1) := by decide +kernel
theorem dL_parts_122 : decode cL_parts 122 = .ok (.iload 8, 2) := by decide +kernel
theorem dL_parts_124 : decode cL_parts 124 = .ok (.bipush 6, 2) := by decide +kernel
theorem dL_parts_126 : decode cL_parts 126 = .ok (.irem, 1) := by decide +kernel
theorem dL_parts_127 : decode cL_parts 127 = .ok (.iadd, 1) := by decide +kernel
theorem dL_parts_128 : decode cL_parts 128 = .ok (.invokestatic 71, 3) := by decide +kernel
theorem dL_parts_131 : decode cL_parts 131 = .ok (.iload 8, 2) := by decide +kernel
theorem dL_parts_133 : decode cL_parts 133 = .ok (.bipush 6, 2) := by decide +kernel
theorem dL_parts_135 : decode cL_parts 135 = .ok (.idiv, 1) := by decide +kernel
theorem dL_parts_136 : decode cL_parts 136 = .ok (.iconst 5, 1) := by decide +kernel
theorem dL_parts_137 : decode cL_parts 137 = .ok (.imul, 1) := by decide +kernel
theorem dL_parts_138 : decode cL_parts 138 = .ok (.ishr, 1) := by decide +kernel
theorem dL_parts_139 : decode cL_parts 139 = .ok (.iload 8, 2) := by decide +kernel
theorem dL_parts_141 : decode cL_parts 141 = .ok (.sipush 911, 3) := by decide +kernel
theorem dL_parts_144 : decode cL_parts 144 = .ok (.imul, 1) := by decide +kernel
theorem dL_parts_145 : decode cL_parts 145 = .ok (.ixor, 1) := by decide +kernel
theorem dL_parts_146 : decode cL_parts 146 = .ok (.istore 9, 2) := by decide +kernel
theorem dL_parts_148 : decode cL_parts 148 = .ok (.iload 8, 2) := by decide +kernel
theorem dL_parts_150 : decode cL_parts 150 = .ok (.iconst 2, 1) := by decide +kernel
theorem dL_parts_151 : decode cL_parts 151 = .ok (.if_icmp .ge 15, 3) := by decide +kernel
theorem dL_parts_154 : decode cL_parts 154 = .ok (.bipush 10, 2) := by decide +kernel
theorem dL_parts_156 : decode cL_parts 156 = .ok (.iload 9, 2) := by decide +kernel
theorem dL_parts_158 : decode cL_parts 158 = .ok (.iconst 4, 1) := by decide +kernel
theorem dL_parts_159 : decode cL_parts 159 = .ok (.invokestatic 75, 3) := by decide +kernel
theorem dL_parts_162 : decode cL_parts 162 = .ok (.iadd, 1) := by decide +kernel
theorem dL_parts_163 : decode cL_parts 163 = .ok (.goto 10, 3) := by decide +kernel
theorem dL_parts_166 : decode cL_parts 166 = .ok (.iload 9, 2) := by decide +kernel
theorem dL_parts_168 : decode cL_parts 168 = .ok (.bipush 14, 2) := by decide +kernel
theorem dL_parts_170 : decode cL_parts 170 = .ok (.invokestatic 75, 3) := by decide +kernel
theorem dL_parts_173 : decode cL_parts 173 = .ok (.istore 10, 2) := by decide +kernel
theorem dL_parts_175 : decode cL_parts 175 = .ok (.iload 8, 2) := by decide +kernel
theorem dL_parts_177 : decode cL_parts 177 = .ok (.iconst 2, 1) := by decide +kernel
theorem dL_parts_178 : decode cL_parts 178 = .ok (.if_icmp .ge 7, 3) := by decide +kernel
theorem dL_parts_181 : decode cL_parts 181 = .ok (.iconst 0, 1) := by decide +kernel
theorem dL_parts_182 : decode cL_parts 182 = .ok (.goto 12, 3) := by decide +kernel
theorem dL_parts_185 : decode cL_parts 185 = .ok (.iload 9, 2) := by decide +kernel
theorem dL_parts_187 : decode cL_parts 187 = .ok (.iconst 4, 1) := by decide +kernel
theorem dL_parts_188 : decode cL_parts 188 = .ok (.ishr, 1) := by decide +kernel
theorem dL_parts_189 : decode cL_parts 189 = .ok (.iload 8, 2) := by decide +kernel
theorem dL_parts_191 : decode cL_parts 191 = .ok (.invokestatic 75, 3) := by decide +kernel
theorem dL_parts_194 : decode cL_parts 194 = .ok (.istore 11, 2) := by decide +kernel
theorem dL_parts_196 : decode cL_parts 196 = .ok (.iload 8, 2) := by decide +kernel
theorem dL_parts_198 : decode cL_parts 198 = .ok (.iconst 2, 1) := by decide +kernel
theorem dL_parts_199 : decode cL_parts 199 = .ok (.if_icmp .ge 7, 3) := by decide +kernel
theorem dL_parts_202 : decode cL_parts 202 = .ok (.iconst 0, 1) := by decide +kernel
theorem dL_parts_203 : decode cL_parts 203 = .ok (.goto 13, 3) := by decide +kernel
theorem dL_parts_206 : decode cL_parts 206 = .ok (.iload 9, 2) := by decide +kernel
theorem dL_parts_208 : decode cL_parts 208 = .ok (.bipush 7, 2) := by decide +kernel
theorem dL_parts_210 : decode cL_parts 210 = .ok (.ishr, 1) := by decide +kernel
theorem dL_parts_211 : decode cL_parts 211 = .ok (.iload 8, 2) := by decide +kernel
theorem dL_parts_213 : decode cL_parts 213 = .ok (.invokestatic 75, 3) := by decide +kernel
theorem dL_parts_216 : decode cL_parts 216 = .ok (.istore 12, 2) := by decide +kernel
theorem dL_parts_218 : decode cL_parts 218 = .ok (.iload 9, 2) := by decide +kernel
theorem dL_parts_220 : decode cL_parts 220 = .ok (.bipush 10, 2) := by decide +kernel
theorem dL_parts_222 : decode cL_parts 222 = .ok (.ishr, 1) := by decide +kernel
theorem dL_parts_223 : decode cL_parts 223 = .ok (.iconst 4, 1) := by decide +kernel
theorem dL_parts_224 : decode cL_parts 224 = .ok (.invokestatic 75, 3) := by decide +kernel
theorem dL_parts_227 : decode cL_parts 227 = .ok (.istore 13, 2) := by decide +kernel
theorem dL_parts_229 : decode cL_parts 229 = .ok (.iload 9, 2) := by decide +kernel
theorem dL_parts_231 : decode cL_parts 231 = .ok (.bipush 13, 2) := by decide +kernel
theorem dL_parts_233 : decode cL_parts 233 = .ok (.ishr, 1) := by decide +kernel
theorem dL_parts_234 : decode cL_parts 234 = .ok (.iconst 3, 1) := by decide +kernel
theorem dL_parts_235 : decode cL_parts 235 = .ok (.invokestatic 75, 3) := by decide +kernel
theorem dL_parts_238 : decode cL_parts 238 = .ok (.ifCond .ne 7, 3) := by decide +kernel
theorem dL_parts_241 : decode cL_parts 241 = .ok (.iconst (-1), 1) := by decide +kernel
theorem dL_parts_242 : decode cL_parts 242 = .ok (.goto 15, 3) := by decide +kernel
theorem dL_parts_245 : decode cL_parts 245 = .ok (.iload 13, 2) := by decide +kernel
theorem dL_parts_247 : decode cL_parts 247 = .ok (.iload 9, 2) := by decide +kernel
theorem dL_parts_249 : decode cL_parts 249 = .ok (.bipush 15, 2) := by decide +kernel
theorem dL_parts_251 : decode cL_parts 251 = .ok (.ishr, 1) := by decide +kernel
theorem dL_parts_252 : decode cL_parts 252 = .ok (.iconst 5, 1) := by decide +kernel
theorem dL_parts_253 : decode cL_parts 253 = .ok (.invokestatic 75, 3) := by decide +kernel
theorem dL_parts_256 : decode cL_parts 256 = .ok (.iadd, 1) := by decide +kernel
theorem dL_parts_257 : decode cL_parts 257 = .ok (.istore 14, 2) := by decide +kernel
theorem dL_parts_259 : decode cL_parts 259 = .ok (.iload 10, 2) := by decide +kernel
theorem dL_parts_261 : decode cL_parts 261 = .ok (.iconst 3, 1) := by decide +kernel
theorem dL_parts_262 : decode cL_parts 262 = .ok (.if_icmp .le 19, 3) := by decide +kernel
theorem dL_parts_265 : decode cL_parts 265 = .ok (.iload 10, 2) := by decide +kernel
theorem dL_parts_267 : decode cL_parts 267 = .ok (.bipush 7, 2) := by decide +kernel
theorem dL_parts_269 : decode cL_parts 269 = .ok (.if_icmp .ge 12, 3) := by decide +kernel
theorem dL_parts_272 : decode cL_parts 272 = .ok (.iload 14, 2) := by decide +kernel
theorem dL_parts_274 : decode cL_parts 274 = .ok (.ifCond .lt 7, 3) := by decide +kernel
theorem dL_parts_277 : decode cL_parts 277 = .ok (.iconst 1, 1) := by decide +kernel
theorem dL_parts_278 : decode cL_parts 278 = .ok (.goto 4, 3) := by decide +kernel
theorem dL_parts_281 : decode cL_parts 281 = .ok (.iconst 0, 1) := by decide +kernel
theorem dL_parts_282 : decode cL_parts 282 = .ok (.istore 15, 2) := by decide +kernel
theorem dL_parts_284 : decode cL_parts 284 = .ok (.iconst 5, 1) := by decide +kernel
theorem dL_parts_285 : decode cL_parts 285 = .ok (.newarray .int, 2) := by decide +kernel
theorem dL_parts_287 : decode cL_parts 287 = .ok (.dup, 1) := by decide +kernel
theorem dL_parts_288 : decode cL_parts 288 = .ok (.iconst 0, 1) := by decide +kernel
theorem dL_parts_289 : decode cL_parts 289 = .ok (.iload 10, 2) := by decide +kernel
theorem dL_parts_291 : decode cL_parts 291 = .ok (.iastore, 1) := by decide +kernel
theorem dL_parts_292 : decode cL_parts 292 = .ok (.dup, 1) := by decide +kernel
theorem dL_parts_293 : decode cL_parts 293 = .ok (.iconst 1, 1) := by decide +kernel
theorem dL_parts_294 : decode cL_parts 294 = .ok (.iload 11, 2) := by decide +kernel
theorem dL_parts_296 : decode cL_parts 296 = .ok (.iastore, 1) := by decide +kernel
theorem dL_parts_297 : decode cL_parts 297 = .ok (.dup, 1) := by decide +kernel
theorem dL_parts_298 : decode cL_parts 298 = .ok (.iconst 2, 1) := by decide +kernel
theorem dL_parts_299 : decode cL_parts 299 = .ok (.iload 12, 2) := by decide +kernel
theorem dL_parts_301 : decode cL_parts 301 = .ok (.iastore, 1) := by decide +kernel
theorem dL_parts_302 : decode cL_parts 302 = .ok (.dup, 1) := by decide +kernel
theorem dL_parts_303 : decode cL_parts 303 = .ok (.iconst 3, 1) := by decide +kernel
theorem dL_parts_304 : decode cL_parts 304 = .ok (.iload 15, 2) := by decide +kernel
theorem dL_parts_306 : decode cL_parts 306 = .ok (.ifCond .eq 8, 3) := by decide +kernel
theorem dL_parts_309 : decode cL_parts 309 = .ok (.iload 13, 2) := by decide +kernel
theorem dL_parts_311 : decode cL_parts 311 = .ok (.goto 4, 3) := by decide +kernel
theorem dL_parts_314 : decode cL_parts 314 = .ok (.iconst 0, 1) := by decide +kernel
theorem dL_parts_315 : decode cL_parts 315 = .ok (.iastore, 1) := by decide +kernel
theorem dL_parts_316 : decode cL_parts 316 = .ok (.dup, 1) := by decide +kernel
theorem dL_parts_317 : decode cL_parts 317 = .ok (.iconst 4, 1) := by decide +kernel
theorem dL_parts_318 : decode cL_parts 318 = .ok (.iload 15, 2) := by decide +kernel
theorem dL_parts_320 : decode cL_parts 320 = .ok (.ifCond .eq 8, 3) := by decide +kernel
theorem dL_parts_323 : decode cL_parts 323 = .ok (.iload 14, 2) := by decide +kernel
theorem dL_parts_325 : decode cL_parts 325 = .ok (.goto 4, 3) := by decide +kernel
theorem dL_parts_328 : decode cL_parts 328 = .ok (.iconst (-1), 1) := by decide +kernel
theorem dL_parts_329 : decode cL_parts 329 = .ok (.iastore, 1) := by decide +kernel
theorem dL_parts_330 : decode cL_parts 330 = .ok (.astore 16, 2) := by decide +kernel
theorem dL_parts_332 : decode cL_parts 332 = .ok (.iconst 0, 1) := by decide +kernel
theorem dL_parts_333 : decode cL_parts 333 = .ok (.istore 17, 2) := by decide +kernel
theorem dL_parts_335 : decode cL_parts 335 = .ok (.iload 17, 2) := by decide +kernel
theorem dL_parts_337 : decode cL_parts 337 = .ok (.iconst 5, 1) := by decide +kernel
theorem dL_parts_338 : decode cL_parts 338 = .ok (.if_icmp .ge 24, 3) := by decide +kernel
theorem dL_parts_341 : decode cL_parts 341 = .ok (.aload 4, 2) := by decide +kernel
theorem dL_parts_343 : decode cL_parts 343 = .ok (.iconst 5, 1) := by decide +kernel
theorem dL_parts_344 : decode cL_parts 344 = .ok (.iload 8, 2) := by decide +kernel
theorem dL_parts_346 : decode cL_parts 346 = .ok (.imul, 1) := by decide +kernel
theorem dL_parts_347 : decode cL_parts 347 = .ok (.iload 17, 2) := by decide +kernel
theorem dL_parts_349 : decode cL_parts 349 = .ok (.iadd, 1) := by decide +kernel
theorem dL_parts_350 : decode cL_parts 350 = .ok (.aload 16, 2) := by decide +kernel
theorem dL_parts_352 : decode cL_parts 352 = .ok (.iload 17, 2) := by decide +kernel
theorem dL_parts_354 : decode cL_parts 354 = .ok (.iaload, 1) := by decide +kernel
theorem dL_parts_355 : decode cL_parts 355 = .ok (.iastore, 1) := by decide +kernel
theorem dL_parts_356 : decode cL_parts 356 = .ok (.iinc 17 1, 3) := by decide +kernel
theorem dL_parts_359 : decode cL_parts 359 = .ok (.goto (-24), 3) := by decide +kernel
theorem dL_parts_362 : decode cL_parts 362 = .ok (.aload_n 0, 1) := by decide +kernel
theorem dL_parts_363 : decode cL_parts 363 = .ok (.ldc 79, 2) := by decide +kernel
theorem dL_parts_365 : decode cL_parts 365 = .ok (.invokestatic 40, 3) := by decide +kernel
theorem dL_parts_368 : decode cL_parts 368 = .ok (.aload_n 0, 1) := by decide +kernel
theorem dL_parts_369 : decode cL_parts 369 = .ok (.iload 8, 2) := by decide +kernel
theorem dL_parts_371 : decode cL_parts 371 = .ok (.invokestatic 19, 3) := by decide +kernel
theorem dL_parts_374 : decode cL_parts 374 = .ok (.aload_n 0, 1) := by decide +kernel
theorem dL_parts_375 : decode cL_parts 375 = .ok (.ldc 81, 2) := by decide +kernel
theorem dL_parts_377 : decode cL_parts 377 = .ok (.invokestatic 40, 3) := by decide +kernel
theorem dL_parts_380 : decode cL_parts 380 = .ok (.iload 10, 2) := by decide +kernel
theorem dL_parts_382 : decode cL_parts 382 = .ok (.bipush 9, 2) := by decide +kernel
theorem dL_parts_384 : decode cL_parts 384 = .ok (.if_icmp .le 18, 3) := by decide +kernel
theorem dL_parts_387 : decode cL_parts 387 = .ok (.aload_n 0, 1) := by decide +kernel
theorem dL_parts_388 : decode cL_parts 388 = .ok (.aload 5, 2) := by decide +kernel
theorem dL_parts_390 : decode cL_parts 390 = .ok (.iload 10, 2) := by decide +kernel
theorem dL_parts_392 : decode cL_parts 392 = .ok (.bipush 10, 2) := by decide +kernel
theorem dL_parts_394 : decode cL_parts 394 = .ok (.isub, 1) := by decide +kernel
theorem dL_parts_395 : decode cL_parts 395 = .ok (.aaload, 1) := by decide +kernel
theorem dL_parts_396 : decode cL_parts 396 = .ok (.invokestatic 40, 3) := by decide +kernel
theorem dL_parts_399 : decode cL_parts 399 = .ok (.goto 88, 3) := by decide +kernel
theorem dL_parts_402 : decode cL_parts 402 = .ok (.iload 10, 2) := by decide +kernel
theorem dL_parts_404 : decode cL_parts 404 = .ok (.iconst 5, 1) := by decide +kernel
theorem dL_parts_405 : decode cL_parts 405 = .ok (.if_icmp .le 15, 3) := by decide +kernel
theorem dL_parts_408 : decode cL_parts 408 = .ok (.aload_n 0, 1) := by decide +kernel
theorem dL_parts_409 : decode cL_parts 409 = .ok (.ldc 83, 2) := by decide +kernel
theorem dL_parts_411 : decode cL_parts 411 = .ok (.invokestatic 40, 3) := by decide +kernel
theorem dL_parts_414 : decode cL_parts 414 = .ok (.aload_n 0, 1) := by decide +kernel
theorem dL_parts_415 : decode cL_parts 415 = .ok (.iload 11, 2) := by decide +kernel
theorem dL_parts_417 : decode cL_parts 417 = .ok (.invokestatic 19, 3) := by decide +kernel
theorem dL_parts_420 : decode cL_parts 420 = .ok (.aload_n 0, 1) := by decide +kernel
theorem dL_parts_421 : decode cL_parts 421 = .ok (.aload 6, 2) := by decide +kernel
theorem dL_parts_423 : decode cL_parts 423 = .ok (.iload 10, 2) := by decide +kernel
theorem dL_parts_425 : decode cL_parts 425 = .ok (.aaload, 1) := by decide +kernel
theorem dL_parts_426 : decode cL_parts 426 = .ok (.invokestatic 40, 3) := by decide +kernel
theorem dL_parts_429 : decode cL_parts 429 = .ok (.iload 15, 2) := by decide +kernel
theorem dL_parts_431 : decode cL_parts 431 = .ok (.ifCond .eq 33, 3) := by decide +kernel
theorem dL_parts_434 : decode cL_parts 434 = .ok (.aload_n 0, 1) := by decide +kernel
theorem dL_parts_435 : decode cL_parts 435 = .ok (.ldc 85, 2) := by decide +kernel
theorem dL_parts_437 : decode cL_parts 437 = .ok (.invokestatic 40, 3) := by decide +kernel
theorem dL_parts_440 : decode cL_parts 440 = .ok (.aload_n 0, 1) := by decide +kernel
theorem dL_parts_441 : decode cL_parts 441 = .ok (.iload 13, 2) := by decide +kernel
theorem dL_parts_443 : decode cL_parts 443 = .ok (.invokestatic 19, 3) := by decide +kernel
theorem dL_parts_446 : decode cL_parts 446 = .ok (.aload_n 0, 1) := by decide +kernel
theorem dL_parts_447 : decode cL_parts 447 = .ok (.ldc 87, 2) := by decide +kernel
theorem dL_parts_449 : decode cL_parts 449 = .ok (.invokestatic 40, 3) := by decide +kernel
theorem dL_parts_452 : decode cL_parts 452 = .ok (.aload_n 0, 1) := by decide +kernel
theorem dL_parts_453 : decode cL_parts 453 = .ok (.iload 14, 2) := by decide +kernel
theorem dL_parts_455 : decode cL_parts 455 = .ok (.invokestatic 19, 3) := by decide +kernel
theorem dL_parts_458 : decode cL_parts 458 = .ok (.aload_n 0, 1) := by decide +kernel
theorem dL_parts_459 : decode cL_parts 459 = .ok (.ldc 89, 2) := by decide +kernel
theorem dL_parts_461 : decode cL_parts 461 = .ok (.invokestatic 40, 3) := by decide +kernel
theorem dL_parts_464 : decode cL_parts 464 = .ok (.aload_n 0, 1) := by decide +kernel
theorem dL_parts_465 : decode cL_parts 465 = .ok (.ldc 83, 2) := by decide +kernel
theorem dL_parts_467 : decode cL_parts 467 = .ok (.invokestatic 40, 3) := by decide +kernel
theorem dL_parts_470 : decode cL_parts 470 = .ok (.aload_n 0, 1) := by decide +kernel
theorem dL_parts_471 : decode cL_parts 471 = .ok (.iload 10, 2) := by decide +kernel
theorem dL_parts_473 : decode cL_parts 473 = .ok (.iconst 5, 1) := by decide +kernel
theorem dL_parts_474 : decode cL_parts 474 = .ok (.if_icmp .le 8, 3) := by decide +kernel
theorem dL_parts_477 : decode cL_parts 477 = .ok (.iload 12, 2) := by decide +kernel
theorem dL_parts_479 : decode cL_parts 479 = .ok (.goto 5, 3) := by decide +kernel
theorem dL_parts_482 : decode cL_parts 482 = .ok (.iload 11, 2) := by decide +kernel
theorem dL_parts_484 : decode cL_parts 484 = .ok (.invokestatic 19, 3) := by decide +kernel
theorem dL_parts_487 : decode cL_parts 487 = .ok (.aload_n 0, 1) := by decide +kernel
theorem dL_parts_488 : decode cL_parts 488 = .ok (.ldc 91, 2) := by decide +kernel
theorem dL_parts_490 : decode cL_parts 490 = .ok (.invokestatic 40, 3) := by decide +kernel
theorem dL_parts_493 : decode cL_parts 493 = .ok (.iinc 8 1, 3) := by decide +kernel
theorem dL_parts_496 : decode cL_parts 496 = .ok (.goto (-385), 3) := by decide +kernel
theorem dL_parts_499 : decode cL_parts 499 = .ok (.iload 7, 2) := by decide +kernel
theorem dL_parts_501 : decode cL_parts 501 = .ok (.ireturn, 1) := by decide +kernel
theorem dL_law_0 : decode cL_law 0 = .ok (.new 26, 3) := by decide +kernel
theorem dL_law_3 : decode cL_law 3 = .ok (.dup, 1) := by decide +kernel
theorem dL_law_4 : decode cL_law 4 = .ok (.invokespecial 93, 3) := by decide +kernel
theorem dL_law_7 : decode cL_law 7 = .ok (.astore_n 1, 1) := by decide +kernel
theorem dL_law_8 : decode cL_law 8 = .ok (.sipush 1700, 3) := by decide +kernel
theorem dL_law_11 : decode cL_law 11 = .ok (.newarray .int, 2) := by decide +kernel
theorem dL_law_13 : decode cL_law 13 = .ok (.astore_n 2, 1) := by decide +kernel
theorem dL_law_14 : decode cL_law 14 = .ok (.bipush 60, 2) := by decide +kernel
theorem dL_law_16 : decode cL_law 16 = .ok (.newarray .int, 2) := by decide +kernel
theorem dL_law_18 : decode cL_law 18 = .ok (.astore_n 3, 1) := by decide +kernel
theorem dL_law_19 : decode cL_law 19 = .ok (.aload_n 2, 1) := by decide +kernel
theorem dL_law_20 : decode cL_law 20 = .ok (.aload_n 0, 1) := by decide +kernel
theorem dL_law_21 : decode cL_law 21 = .ok (.iconst 0, 1) := by decide +kernel
theorem dL_law_22 : decode cL_law 22 = .ok (.bipush 6, 2) := by decide +kernel
theorem dL_law_24 : decode cL_law 24 = .ok (.aload_n 3, 1) := by decide +kernel
theorem dL_law_25 : decode cL_law 25 = .ok (.invokestatic 94, 3) := by decide +kernel
theorem dL_law_28 : decode cL_law 28 = .ok (.istore 4, 2) := by decide +kernel
theorem dL_law_30 : decode cL_law 30 = .ok (.aload_n 2, 1) := by decide +kernel
theorem dL_law_31 : decode cL_law 31 = .ok (.ldc 98, 2) := by decide +kernel
theorem dL_law_33 : decode cL_law 33 = .ok (.invokestatic 40, 3) := by decide +kernel
theorem dL_law_36 : decode cL_law 36 = .ok (.aload_n 2, 1) := by decide +kernel
theorem dL_law_37 : decode cL_law 37 = .ok (.iload 4, 2) := by decide +kernel
theorem dL_law_39 : decode cL_law 39 = .ok (.iconst 1, 1) := by decide +kernel
theorem dL_law_40 : decode cL_law 40 = .ok (.isub, 1) := by decide +kernel
theorem dL_law_41 : decode cL_law 41 = .ok (.invokestatic 19, 3) := by decide +kernel
theorem dL_law_44 : decode cL_law 44 = .ok (.aload_n 2, 1) := by decide +kernel
theorem dL_law_45 : decode cL_law 45 = .ok (.ldc 100, 2) := by decide +kernel
theorem dL_law_47 : decode cL_law 47 = .ok (.invokestatic 40, 3) := by decide +kernel
theorem dL_law_50 : decode cL_law 50 = .ok (.aload_n 2, 1) := by decide +kernel
theorem dL_law_51 : decode cL_law 51 = .ok (.iload 4, 2) := by decide +kernel
theorem dL_law_53 : decode cL_law 53 = .ok (.iconst 2, 1) := by decide +kernel
theorem dL_law_54 : decode cL_law 54 = .ok (.isub, 1) := by decide +kernel
theorem dL_law_55 : decode cL_law 55 = .ok (.invokestatic 19, 3) := by decide +kernel
theorem dL_law_58 : decode cL_law 58 = .ok (.aload_n 2, 1) := by decide +kernel
theorem dL_law_59 : decode cL_law 59 = .ok (.ldc 102, 2) := by decide +kernel
theorem dL_law_61 : decode cL_law 61 = .ok (.invokestatic 40, 3) := by decide +kernel
theorem dL_law_64 : decode cL_law 64 = .ok (.aload_n 1, 1) := by decide +kernel
theorem dL_law_65 : decode cL_law 65 = .ok (.aload_n 2, 1) := by decide +kernel
theorem dL_law_66 : decode cL_law 66 = .ok (.invokestatic 104, 3) := by decide +kernel
theorem dL_law_69 : decode cL_law 69 = .ok (.ifCond .ne 5, 3) := by decide +kernel
theorem dL_law_72 : decode cL_law 72 = .ok (.iconst 0, 1) := by decide +kernel
theorem dL_law_73 : decode cL_law 73 = .ok (.ireturn, 1) := by decide +kernel
theorem dL_law_74 : decode cL_law 74 = .ok (.aload_n 1, 1) := by decide +kernel
theorem dL_law_75 : decode cL_law 75 = .ok (.invokevirtual 108, 3) := by decide +kernel
theorem dL_law_78 : decode cL_law 78 = .ok (.istore 5, 2) := by decide +kernel
theorem dL_law_80 : decode cL_law 80 = .ok (.iload 4, 2) := by decide +kernel
theorem dL_law_82 : decode cL_law 82 = .ok (.bipush 7, 2) := by decide +kernel
theorem dL_law_84 : decode cL_law 84 = .ok (.iadd, 1) := by decide +kernel
theorem dL_law_85 : decode cL_law 85 = .ok (.bipush 12, 2) := by decide +kernel
theorem dL_law_87 : decode cL_law 87 = .ok (.if_icmp .le 15, 3) := by decide +kernel
theorem dL_law_90 : decode cL_law 90 = .ok (.iload 5, 2) := by decide +kernel
theorem dL_law_92 : decode cL_law 92 = .ok (.iconst 4, 1) := by decide +kernel
theorem dL_law_93 : decode cL_law 93 = .ok (.if_icmp .ne 7, 3) := by decide +kernel
theorem dL_law_96 : decode cL_law 96 = .ok (.iconst 1, 1) := by decide +kernel
theorem dL_law_97 : decode cL_law 97 = .ok (.goto 4, 3) := by decide +kernel
theorem dL_law_100 : decode cL_law 100 = .ok (.iconst 0, 1) := by decide +kernel
theorem dL_law_101 : decode cL_law 101 = .ok (.ireturn, 1) := by decide +kernel
theorem dL_law_102 : decode cL_law 102 = .ok (.iload 5, 2) := by decide +kernel
theorem dL_law_104 : decode cL_law 104 = .ok (.ifCond .eq 5, 3) := by decide +kernel
theorem dL_law_107 : decode cL_law 107 = .ok (.iconst 0, 1) := by decide +kernel
theorem dL_law_108 : decode cL_law 108 = .ok (.ireturn, 1) := by decide +kernel
theorem dL_law_109 : decode cL_law 109 = .ok (.iconst 1, 1) := by decide +kernel
theorem dL_law_110 : decode cL_law 110 = .ok (.aload_n 0, 1) := by decide +kernel
theorem dL_law_111 : decode cL_law 111 = .ok (.bipush 8, 2) := by decide +kernel
theorem dL_law_113 : decode cL_law 113 = .ok (.invokestatic 71, 3) := by decide +kernel
theorem dL_law_116 : decode cL_law 116 = .ok (.bipush 12, 2) := by decide +kernel
theorem dL_law_118 : decode cL_law 118 = .ok (.invokestatic 75, 3) := by decide +kernel
theorem dL_law_121 : decode cL_law 121 = .ok (.iadd, 1) := by decide +kernel
theorem dL_law_122 : decode cL_law 122 = .ok (.istore 6, 2) := by decide +kernel
theorem dL_law_124 : decode cL_law 124 = .ok (.iconst 0, 1) := by decide +kernel
theorem dL_law_125 : decode cL_law 125 = .ok (.istore 7, 2) := by decide +kernel
theorem dL_law_127 : decode cL_law 127 = .ok (.iload 7, 2) := by decide +kernel
theorem dL_law_129 : decode cL_law 129 = .ok (.iload 6, 2) := by decide +kernel
theorem dL_law_131 : decode cL_law 131 = .ok (.if_icmp .ge 318, 3) := by decide +kernel
theorem dL_law_134 : decode cL_law 134 = .ok (.aload_n 0, 1) := by decide +kernel
theorem dL_law_135 : decode cL_law 135 = .ok (.bipush 9, 2) := by decide +kernel
theorem dL_law_137 : decode cL_law 137 = .ok (.iload 7, 2) := by decide +kernel
theorem dL_law_139 : decode cL_law 139 = .ok (.iconst 5, 1) := by decide +kernel
theorem dL_law_140 : decode cL_law 140 = .ok (.irem, 1) := by decide +kernel
theorem dL_law_141 : decode cL_law 141 = .ok (.iadd, 1) := by decide +kernel
theorem dL_law_142 : decode cL_law 142 = .ok (.invokestatic 71, 3) := by decide +kernel
theorem dL_law_145 : decode cL_law 145 = .ok (.iload 7, 2) := by decide +kernel
theorem dL_law_147 : decode cL_law 147 = .ok (.iconst 5, 1) := by decide +kernel
theorem dL_law_148 : decode cL_law 148 = .ok (.idiv, 1) := by decide +kernel
theorem dL_law_149 : decode cL_law 149 = .ok (.iconst 5, 1) := by decide +kernel
theorem dL_law_150 : decode cL_law 150 = .ok (.imul, 1) := by decide +kernel
theorem dL_law_151 : decode cL_law 151 = .ok (.ishr, 1) := by decide +kernel
theorem dL_law_152 : decode cL_law 152 = .ok (.istore 8, 2) := by decide +kernel
theorem dL_law_154 : decode cL_law 154 = .ok (.aload_n 1, 1) := by decide +kernel
theorem dL_law_155 : decode cL_law 155 = .ok (.iconst 0, 1) := by decide +kernel
theorem dL_law_156 : decode cL_law 156 = .ok (.iload 8, 2) := by decide +kernel
theorem dL_law_158 : decode cL_law 158 = .ok (.iconst 4, 1) := by decide +kernel
theorem dL_law_159 : decode cL_law 159 = .ok (.invokestatic 75, 3) := by decide +kernel
theorem dL_law_162 : decode cL_law 162 = .ok (.i2l, 1) := by decide +kernel
theorem dL_law_163 : decode cL_law 163 = .ok (.invokevirtual 111, 3) := by decide +kernel
theorem dL_law_166 : decode cL_law 166 = .ok (.pop2, 1) := by decide +kernel
theorem dL_law_167 : decode cL_law 167 = .ok (.aload_n 1, 1) := by decide +kernel
theorem dL_law_168 : decode cL_law 168 = .ok (.iconst 1, 1) := by decide +kernel
theorem dL_law_169 : decode cL_law 169 = .ok (.iload 8, 2) := by decide +kernel
theorem dL_law_171 : decode cL_law 171 = .ok (.iconst 2, 1) := by decide +kernel
theorem dL_law_172 : decode cL_law 172 = .ok (.ishr, 1) := by decide +kernel
theorem dL_law_173 : decode cL_law 173 = .ok (.iconst 4, 1) := by decide +kernel
theorem dL_law_174 : decode cL_law 174 = .ok (.invokestatic 75, 3) := by decide +kernel
theorem dL_law_177 : decode cL_law 177 = .ok (.i2l, 1) := by decide +kernel
theorem dL_law_178 : decode cL_law 178 = .ok (.invokevirtual 111, 3) := by decide +kernel
theorem dL_law_181 : decode cL_law 181 = .ok (.pop2, 1) := by decide +kernel
theorem dL_law_182 : decode cL_law 182 = .ok (.aload_n 1, 1) := by decide +kernel
theorem dL_law_183 : decode cL_law 183 = .ok (.iload 8, 2) := by decide +kernel
theorem dL_law_185 : decode cL_law 185 = .ok (.iconst 4, 1) := by decide +kernel
theorem dL_law_186 : decode cL_law 186 = .ok (.ishr, 1) := by decide +kernel
theorem dL_law_187 : decode cL_law 187 = .ok (.iconst 3, 1) := by decide +kernel
theorem dL_law_188 : decode cL_law 188 = .ok (.invokestatic 75, 3) := by decide +kernel
theorem dL_law_191 : decode cL_law 191 = .ok (.invokevirtual 115, 3) := by decide +kernel
theorem dL_law_194 : decode cL_law 194 = .ok (.istore 9, 2) := by decide +kernel
theorem dL_law_196 : decode cL_law 196 = .ok (.aload_n 1, 1) := by decide +kernel
theorem dL_law_197 : decode cL_law 197 = .ok (.iload 4, 2) := by decide +kernel
theorem dL_law_199 : decode cL_law 199 = .ok (.iload 7, 2) := by decide +kernel
theorem dL_law_201 : decode cL_law 201 = .ok (.invokevirtual 118, 3) := by decide +kernel
theorem dL_law_204 : decode cL_law 204 = .ok (.istore 10, 2) := by decide +kernel
theorem dL_law_206 : decode cL_law 206 = .ok (.aload_n 1, 1) := by decide +kernel
theorem dL_law_207 : decode cL_law 207 = .ok (.iload 4, 2) := by decide +kernel
theorem dL_law_209 : decode cL_law 209 = .ok (.iconst 1, 1) := by decide +kernel
theorem dL_law_210 : decode cL_law 210 = .ok (.iadd, 1) := by decide +kernel
theorem dL_law_211 : decode cL_law 211 = .ok (.iload 7, 2) := by decide +kernel
theorem dL_law_213 : decode cL_law 213 = .ok (.invokevirtual 118, 3) := by decide +kernel
theorem dL_law_216 : decode cL_law 216 = .ok (.istore 11, 2) := by decide +kernel
theorem dL_law_218 : decode cL_law 218 = .ok (.aload_n 1, 1) := by decide +kernel
theorem dL_law_219 : decode cL_law 219 = .ok (.iload 4, 2) := by decide +kernel
theorem dL_law_221 : decode cL_law 221 = .ok (.iconst 2, 1) := by decide +kernel
theorem dL_law_222 : decode cL_law 222 = .ok (.iadd, 1) := by decide +kernel
theorem dL_law_223 : decode cL_law 223 = .ok (.iload 7, 2) := by decide +kernel
theorem dL_law_225 : decode cL_law 225 = .ok (.invokevirtual 118, 3) := by decide +kernel
theorem dL_law_228 : decode cL_law 228 = .ok (.istore 12, 2) := by decide +kernel
theorem dL_law_230 : decode cL_law 230 = .ok (.aload_n 1, 1) := by decide +kernel
theorem dL_law_231 : decode cL_law 231 = .ok (.iload 4, 2) := by decide +kernel
theorem dL_law_233 : decode cL_law 233 = .ok (.iconst 3, 1) := by decide +kernel
theorem dL_law_234 : decode cL_law 234 = .ok (.iadd, 1) := by decide +kernel
theorem dL_law_235 : decode cL_law 235 = .ok (.iload 7, 2) := by decide +kernel
theorem dL_law_237 : decode cL_law 237 = .ok (.invokevirtual 118, 3) := by decide +kernel
theorem dL_law_240 : decode cL_law 240 = .ok (.istore 13, 2) := by decide +kernel
theorem dL_law_242 : decode cL_law 242 = .ok (.aload_n 1, 1) := by decide +kernel
theorem dL_law_243 : decode cL_law 243 = .ok (.iload 4, 2) := by decide +kernel
theorem dL_law_245 : decode cL_law 245 = .ok (.iconst 4, 1) := by decide +kernel
theorem dL_law_246 : decode cL_law 246 = .ok (.iadd, 1) := by decide +kernel
theorem dL_law_247 : decode cL_law 247 = .ok (.iload 7, 2) := by decide +kernel
theorem dL_law_249 : decode cL_law 249 = .ok (.invokevirtual 118, 3) := by decide +kernel
theorem dL_law_252 : decode cL_law 252 = .ok (.istore 14, 2) := by decide +kernel
theorem dL_law_254 : decode cL_law 254 = .ok (.iload 12, 2) := by decide +kernel
theorem dL_law_256 : decode cL_law 256 = .ok (.iload 10, 2) := by decide +kernel
theorem dL_law_258 : decode cL_law 258 = .ok (.ifCond .ne 23, 3) := by decide +kernel
theorem dL_law_261 : decode cL_law 261 = .ok (.iload 7, 2) := by decide +kernel
theorem dL_law_263 : decode cL_law 263 = .ok (.ifCond .le 22, 3) := by decide +kernel
theorem dL_law_266 : decode cL_law 266 = .ok (.aload_n 1, 1) := by decide +kernel
theorem dL_law_267 : decode cL_law 267 = .ok (.iload 4, 2) := by decide +kernel
theorem dL_law_269 : decode cL_law 269 = .ok (.iconst 2, 1) := by decide +kernel
theorem dL_law_270 : decode cL_law 270 = .ok (.iadd, 1) := by decide +kernel
theorem dL_law_271 : decode cL_law 271 = .ok (.iload 7, 2) := by decide +kernel
theorem dL_law_273 : decode cL_law 273 = .ok (.iconst 1, 1) := by decide +kernel
theorem dL_law_274 : decode cL_law 274 = .ok (.isub, 1) := by decide +kernel
theorem dL_law_275 : decode cL_law 275 = .ok (.invokevirtual 118, 3) := by decide +kernel
theorem dL_law_278 : decode cL_law 278 = .ok (.ifCond .eq 7, 3) := by decide +kernel
theorem dL_law_281 : decode cL_law 281 = .ok (.iconst 1, 1) := by decide +kernel
theorem dL_law_282 : decode cL_law 282 = .ok (.goto 4, 3) := by decide +kernel
theorem dL_law_285 : decode cL_law 285 = .ok (.iconst 0, 1) := by decide +kernel
theorem dL_law_286 : decode cL_law 286 = .ok (.if_icmp .ne 38, 3) := by decide +kernel
theorem dL_law_289 : decode cL_law 289 = .ok (.iload 13, 2) := by decide +kernel
theorem dL_law_291 : decode cL_law 291 = .ok (.iload 10, 2) := by decide +kernel
theorem dL_law_293 : decode cL_law 293 = .ok (.ifCond .eq 27, 3) := by decide +kernel
theorem dL_law_296 : decode cL_law 296 = .ok (.iload 7, 2) := by decide +kernel
theorem dL_law_298 : decode cL_law 298 = .ok (.ifCond .eq 18, 3) := by decide +kernel
theorem dL_law_301 : decode cL_law 301 = .ok (.aload_n 1, 1) := by decide +kernel
theorem dL_law_302 : decode cL_law 302 = .ok (.iload 4, 2) := by decide +kernel
theorem dL_law_304 : decode cL_law 304 = .ok (.iconst 3, 1) := by decide +kernel
theorem dL_law_305 : decode cL_law 305 = .ok (.iadd, 1) := by decide +kernel
theorem dL_law_306 : decode cL_law 306 = .ok (.iload 7, 2) := by decide +kernel
theorem dL_law_308 : decode cL_law 308 = .ok (.iconst 1, 1) := by decide +kernel
theorem dL_law_309 : decode cL_law 309 = .ok (.isub, 1) := by decide +kernel
theorem dL_law_310 : decode cL_law 310 = .ok (.invokevirtual 118, 3) := by decide +kernel
theorem dL_law_313 : decode cL_law 313 = .ok (.ifCond .eq 7, 3) := by decide +kernel
theorem dL_law_316 : decode cL_law 316 = .ok (.iconst 1, 1) := by decide +kernel
theorem dL_law_317 : decode cL_law 317 = .ok (.goto 4, 3) := by decide +kernel
theorem dL_law_320 : decode cL_law 320 = .ok (.iconst 0, 1) := by decide +kernel
theorem dL_law_321 : decode cL_law 321 = .ok (.if_icmp .eq 5, 3) := by decide +kernel
theorem dL_law_324 : decode cL_law 324 = .ok (.iconst 0, 1) := by decide +kernel
theorem dL_law_325 : decode cL_law 325 = .ok (.ireturn, 1) := by decide +kernel
theorem dL_law_326 : decode cL_law 326 = .ok (.iload 14, 2) := by decide +kernel
theorem dL_law_328 : decode cL_law 328 = .ok (.iload 11, 2) := by decide +kernel
theorem dL_law_330 : decode cL_law 330 = .ok (.ifCond .ne 28, 3) := by decide +kernel
theorem dL_law_333 : decode cL_law 333 = .ok (.iload 10, 2) := by decide +kernel
theorem dL_law_335 : decode cL_law 335 = .ok (.ifCond .eq 27, 3) := by decide +kernel
theorem dL_law_338 : decode cL_law 338 = .ok (.iload 7, 2) := by decide +kernel
theorem dL_law_340 : decode cL_law 340 = .ok (.ifCond .le 22, 3) := by decide +kernel
theorem dL_law_343 : decode cL_law 343 = .ok (.aload_n 1, 1) := by decide +kernel
theorem dL_law_344 : decode cL_law 344 = .ok (.iload 4, 2) := by decide +kernel
theorem dL_law_346 : decode cL_law 346 = .ok (.iconst 4, 1) := by decide +kernel
theorem dL_law_347 : decode cL_law 347 = .ok (.iadd, 1) := by decide +kernel
theorem dL_law_348 : decode cL_law 348 = .ok (.iload 7, 2) := by decide +kernel
theorem dL_law_350 : decode cL_law 350 = .ok (.iconst 1, 1) := by decide +kernel
theorem dL_law_351 : decode cL_law 351 = .ok (.isub, 1) := by decide +kernel
theorem dL_law_352 : decode cL_law 352 = .ok (.invokevirtual 118, 3) := by decide +kernel
theorem dL_law_355 : decode cL_law 355 = .ok (.ifCond .eq 7, 3) := by decide +kernel
theorem dL_law_358 : decode cL_law 358 = .ok (.iconst 1, 1) := by decide +kernel
theorem dL_law_359 : decode cL_law 359 = .ok (.goto 4, 3) := by decide +kernel
theorem dL_law_362 : decode cL_law 362 = .ok (.iconst 0, 1) := by decide +kernel
theorem dL_law_363 : decode cL_law 363 = .ok (.if_icmp .ne 27, 3) := by decide +kernel
theorem dL_law_366 : decode cL_law 366 = .ok (.aload_n 1, 1) := by decide +kernel
theorem dL_law_367 : decode cL_law 367 = .ok (.iload 4, 2) := by decide +kernel
theorem dL_law_369 : decode cL_law 369 = .ok (.iconst 5, 1) := by decide +kernel
theorem dL_law_370 : decode cL_law 370 = .ok (.iadd, 1) := by decide +kernel
theorem dL_law_371 : decode cL_law 371 = .ok (.iload 7, 2) := by decide +kernel
theorem dL_law_373 : decode cL_law 373 = .ok (.invokevirtual 118, 3) := by decide +kernel
theorem dL_law_376 : decode cL_law 376 = .ok (.aload_n 1, 1) := by decide +kernel
theorem dL_law_377 : decode cL_law 377 = .ok (.iload 4, 2) := by decide +kernel
theorem dL_law_379 : decode cL_law 379 = .ok (.bipush 6, 2) := by decide +kernel
theorem dL_law_381 : decode cL_law 381 = .ok (.iadd, 1) := by decide +kernel
theorem dL_law_382 : decode cL_law 382 = .ok (.iload 7, 2) := by decide +kernel
theorem dL_law_384 : decode cL_law 384 = .ok (.invokevirtual 118, 3) := by decide +kernel
theorem dL_law_387 : decode cL_law 387 = .ok (.if_icmp .ne 5, 3) := by decide +kernel
theorem dL_law_390 : decode cL_law 390 = .ok (.iconst 0, 1) := by decide +kernel
theorem dL_law_391 : decode cL_law 391 = .ok (.ireturn, 1) := by decide +kernel
theorem dL_law_392 : decode cL_law 392 = .ok (.aload_n 1, 1) := by decide +kernel
theorem dL_law_393 : decode cL_law 393 = .ok (.iconst 0, 1) := by decide +kernel
theorem dL_law_394 : decode cL_law 394 = .ok (.iload 7, 2) := by decide +kernel
theorem dL_law_396 : decode cL_law 396 = .ok (.invokevirtual 122, 3) := by decide +kernel
theorem dL_law_399 : decode cL_law 399 = .ok (.iload 13, 2) := by decide +kernel
theorem dL_law_401 : decode cL_law 401 = .ok (.if_icmp .ne 40, 3) := by decide +kernel
theorem dL_law_404 : decode cL_law 404 = .ok (.aload_n 1, 1) := by decide +kernel
theorem dL_law_405 : decode cL_law 405 = .ok (.iconst 1, 1) := by decide +kernel
theorem dL_law_406 : decode cL_law 406 = .ok (.iload 7, 2) := by decide +kernel
theorem dL_law_408 : decode cL_law 408 = .ok (.invokevirtual 122, 3) := by decide +kernel
theorem dL_law_411 : decode cL_law 411 = .ok (.iload 13, 2) := by decide +kernel
theorem dL_law_413 : decode cL_law 413 = .ok (.if_icmp .ne 28, 3) := by decide +kernel
theorem dL_law_416 : decode cL_law 416 = .ok (.iload 9, 2) := by decide +kernel
theorem dL_law_418 : decode cL_law 418 = .ok (.iload 13, 2) := by decide +kernel
theorem dL_law_420 : decode cL_law 420 = .ok (.ifCond .eq 7, 3) := by decide +kernel
theorem dL_law_423 : decode cL_law 423 = .ok (.iconst 0, 1) := by decide +kernel
theorem dL_law_424 : decode cL_law 424 = .ok (.goto 4, 3) := by decide +kernel
theorem dL_law_427 : decode cL_law 427 = .ok (.iconst 2, 1) := by decide +kernel
theorem dL_law_428 : decode cL_law 428 = .ok (.if_icmp .ne 13, 3) := by decide +kernel
theorem dL_law_431 : decode cL_law 431 = .ok (.aload_n 1, 1) := by decide +kernel
theorem dL_law_432 : decode cL_law 432 = .ok (.iconst 0, 1) := by decide +kernel
theorem dL_law_433 : decode cL_law 433 = .ok (.iconst 1, 1) := by decide +kernel
theorem dL_law_434 : decode cL_law 434 = .ok (.invokevirtual 125, 3) := by decide +kernel
theorem dL_law_437 : decode cL_law 437 = .ok (.iconst (-1), 1) := by decide +kernel
theorem dL_law_438 : decode cL_law 438 = .ok (.if_icmp .eq 5, 3) := by decide +kernel
theorem dL_law_441 : decode cL_law 441 = .ok (.iconst 0, 1) := by decide +kernel
theorem dL_law_442 : decode cL_law 442 = .ok (.ireturn, 1) := by decide +kernel
theorem dL_law_443 : decode cL_law 443 = .ok (.iinc 7 1, 3) := by decide +kernel
theorem dL_law_446 : decode cL_law 446 = .ok (.goto (-319), 3) := by decide +kernel
theorem dL_law_449 : decode cL_law 449 = .ok (.aload_n 1, 1) := by decide +kernel
theorem dL_law_450 : decode cL_law 450 = .ok (.invokevirtual 128, 3) := by decide +kernel
theorem dL_law_453 : decode cL_law 453 = .ok (.pop, 1) := by decide +kernel
theorem dL_law_454 : decode cL_law 454 = .ok (.aload_n 1, 1) := by decide +kernel
theorem dL_law_455 : decode cL_law 455 = .ok (.invokevirtual 131, 3) := by decide +kernel
theorem dL_law_458 : decode cL_law 458 = .ok (.lstore 7, 2) := by decide +kernel
theorem dL_law_460 : decode cL_law 460 = .ok (.aload_n 0, 1) := by decide +kernel
theorem dL_law_461 : decode cL_law 461 = .ok (.bipush 14, 2) := by decide +kernel
theorem dL_law_463 : decode cL_law 463 = .ok (.invokestatic 71, 3) := by decide +kernel
theorem dL_law_466 : decode cL_law 466 = .ok (.iload 6, 2) := by decide +kernel
theorem dL_law_468 : decode cL_law 468 = .ok (.invokestatic 75, 3) := by decide +kernel
theorem dL_law_471 : decode cL_law 471 = .ok (.istore 9, 2) := by decide +kernel
theorem dL_law_473 : decode cL_law 473 = .ok (.aload_n 1, 1) := by decide +kernel
theorem dL_law_474 : decode cL_law 474 = .ok (.iload 9, 2) := by decide +kernel
theorem dL_law_476 : decode cL_law 476 = .ok (.invokevirtual 135, 3) := by decide +kernel
theorem dL_law_479 : decode cL_law 479 = .ok (.pop, 1) := by decide +kernel
theorem dL_law_480 : decode cL_law 480 = .ok (.aload_n 1, 1) := by decide +kernel
theorem dL_law_481 : decode cL_law 481 = .ok (.invokevirtual 138, 3) := by decide +kernel
theorem dL_law_484 : decode cL_law 484 = .ok (.istore 10, 2) := by decide +kernel
theorem dL_law_486 : decode cL_law 486 = .ok (.iload 10, 2) := by decide +kernel
theorem dL_law_488 : decode cL_law 488 = .ok (.iload 6, 2) := by decide +kernel
theorem dL_law_490 : decode cL_law 490 = .ok (.aload_n 1, 1) := by decide +kernel
theorem dL_law_491 : decode cL_law 491 = .ok (.iconst 0, 1) := by decide +kernel
theorem dL_law_492 : decode cL_law 492 = .ok (.iconst 1, 1) := by decide +kernel
theorem dL_law_493 : decode cL_law 493 = .ok (.invokevirtual 141, 3) := by decide +kernel
theorem dL_law_496 : decode cL_law 496 = .ok (.isub, 1) := by decide +kernel
theorem dL_law_497 : decode cL_law 497 = .ok (.if_icmp .ne 23, 3) := by decide +kernel
theorem dL_law_500 : decode cL_law 500 = .ok (.aload_n 1, 1) := by decide +kernel
theorem dL_law_501 : decode cL_law 501 = .ok (.iconst 4, 1) := by decide +kernel
theorem dL_law_502 : decode cL_law 502 = .ok (.invokevirtual 25, 3) := by decide +kernel
theorem dL_law_505 : decode cL_law 505 = .ok (.iload 6, 2) := by decide +kernel
theorem dL_law_507 : decode cL_law 507 = .ok (.if_icmp .ne 13, 3) := by decide +kernel
theorem dL_law_510 : decode cL_law 510 = .ok (.aload_n 1, 1) := by decide +kernel
theorem dL_law_511 : decode cL_law 511 = .ok (.invokevirtual 131, 3) := by decide +kernel
theorem dL_law_514 : decode cL_law 514 = .ok (.lload 7, 2) := by decide +kernel
theorem dL_law_516 : decode cL_law 516 = .ok (.lcmp, 1) := by decide +kernel
theorem dL_law_517 : decode cL_law 517 = .ok (.ifCond .eq 5, 3) := by decide +kernel
theorem dL_law_520 : decode cL_law 520 = .ok (.iconst 0, 1) := by decide +kernel
theorem dL_law_521 : decode cL_law 521 = .ok (.ireturn, 1) := by decide +kernel
theorem dL_law_522 : decode cL_law 522 = .ok (.aload_n 2, 1) := by decide +kernel
theorem dL_law_523 : decode cL_law 523 = .ok (.iconst 0, 1) := by decide +kernel
theorem dL_law_524 : decode cL_law 524 = .ok (.iconst 0, 1) := by decide +kernel
theorem dL_law_525 : decode cL_law 525 = .ok (.iastore, 1) := by decide +kernel
theorem dL_law_526 : decode cL_law 526 = .ok (.aload_n 2, 1) := by decide +kernel
theorem dL_law_527 : decode cL_law 527 = .ok (.ldc 144, 2) := by decide +kernel
theorem dL_law_529 : decode cL_law 529 = .ok (.invokestatic 40, 3) := by decide +kernel
theorem dL_law_532 : decode cL_law 532 = .ok (.aload_n 1, 1) := by decide +kernel
theorem dL_law_533 : decode cL_law 533 = .ok (.aload_n 2, 1) := by decide +kernel
theorem dL_law_534 : decode cL_law 534 = .ok (.invokestatic 104, 3) := by decide +kernel
theorem dL_law_537 : decode cL_law 537 = .ok (.ifCond .eq 10, 3) := by decide +kernel
theorem dL_law_540 : decode cL_law 540 = .ok (.aload_n 1, 1) := by decide +kernel
theorem dL_law_541 : decode cL_law 541 = .ok (.invokevirtual 146, 3) := by decide +kernel
theorem dL_law_544 : decode cL_law 544 = .ok (.ifCond .eq 5, 3) := by decide +kernel
theorem dL_law_547 : decode cL_law 547 = .ok (.iconst 0, 1) := by decide +kernel
theorem dL_law_548 : decode cL_law 548 = .ok (.ireturn, 1) := by decide +kernel
theorem dL_law_549 : decode cL_law 549 = .ok (.iconst 0, 1) := by decide +kernel
theorem dL_law_550 : decode cL_law 550 = .ok (.istore 11, 2) := by decide +kernel
theorem dL_law_552 : decode cL_law 552 = .ok (.iload 11, 2) := by decide +kernel
theorem dL_law_554 : decode cL_law 554 = .ok (.iload 6, 2) := by decide +kernel
theorem dL_law_556 : decode cL_law 556 = .ok (.if_icmp .ge 51, 3) := by decide +kernel
theorem dL_law_559 : decode cL_law 559 = .ok (.aload_n 1, 1) := by decide +kernel
theorem dL_law_560 : decode cL_law 560 = .ok (.iload 11, 2) := by decide +kernel
theorem dL_law_562 : decode cL_law 562 = .ok (.invokevirtual 149, 3) := by decide +kernel
theorem dL_law_565 : decode cL_law 565 = .ok (.aload_n 1, 1) := by decide +kernel
theorem dL_law_566 : decode cL_law 566 = .ok (.iload 4, 2) := by decide +kernel
theorem dL_law_568 : decode cL_law 568 = .ok (.iconst 4, 1) := by decide +kernel
theorem dL_law_569 : decode cL_law 569 = .ok (.iadd, 1) := by decide +kernel
theorem dL_law_570 : decode cL_law 570 = .ok (.iload 11, 2) := by decide +kernel
theorem dL_law_572 : decode cL_law 572 = .ok (.invokevirtual 118, 3) := by decide +kernel
theorem dL_law_575 : decode cL_law 575 = .ok (.ifCond .eq 20, 3) := by decide +kernel
theorem dL_law_578 : decode cL_law 578 = .ok (.aload_n 1, 1) := by decide +kernel
theorem dL_law_579 : decode cL_law 579 = .ok (.iload 4, 2) := by decide +kernel
theorem dL_law_581 : decode cL_law 581 = .ok (.iconst 5, 1) := by decide +kernel
theorem dL_law_582 : decode cL_law 582 = .ok (.iadd, 1) := by decide +kernel
theorem dL_law_583 : decode cL_law 583 = .ok (.iload 11, 2) := by decide +kernel
theorem dL_law_585 : decode cL_law 585 = .ok (.invokevirtual 118, 3) := by decide +kernel
theorem dL_law_588 : decode cL_law 588 = .ok (.ifCond .eq 7, 3) := by decide +kernel
theorem dL_law_591 : decode cL_law 591 = .ok (.iconst 1, 1) := by decide +kernel
theorem dL_law_592 : decode cL_law 592 = .ok (.goto 4, 3) := by decide +kernel
theorem dL_law_595 : decode cL_law 595 = .ok (.iconst 0, 1) := by decide +kernel
theorem dL_law_596 : decode cL_law 596 = .ok (.if_icmp .eq 5, 3) := by decide +kernel
theorem dL_law_599 : decode cL_law 599 = .ok (.iconst 0, 1) := by decide +kernel
theorem dL_law_600 : decode cL_law 600 = .ok (.ireturn, 1) := by decide +kernel
theorem dL_law_601 : decode cL_law 601 = .ok (.iinc 11 1, 3) := by decide +kernel
theorem dL_law_604 : decode cL_law 604 = .ok (.goto (-52), 3) := by decide +kernel
theorem dL_law_607 : decode cL_law 607 = .ok (.aload_n 1, 1) := by decide +kernel
theorem dL_law_608 : decode cL_law 608 = .ok (.iconst 0, 1) := by decide +kernel
theorem dL_law_609 : decode cL_law 609 = .ok (.invokevirtual 153, 3) := by decide +kernel
theorem dL_law_612 : decode cL_law 612 = .ok (.iload 10, 2) := by decide +kernel
theorem dL_law_614 : decode cL_law 614 = .ok (.i2d, 1) := by decide +kernel
theorem dL_law_615 : decode cL_law 615 = .ok (.iload 6, 2) := by decide +kernel
theorem dL_law_617 : decode cL_law 617 = .ok (.i2d, 1) := by decide +kernel
theorem dL_law_618 : decode cL_law 618 = .ok (.ddiv, 1) := by decide +kernel
theorem dL_law_619 : decode cL_law 619 = .ok (.dcmp .l, 1) := by decide +kernel
theorem dL_law_620 : decode cL_law 620 = .ok (.ifCond .ne 7, 3) := by decide +kernel
theorem dL_law_623 : decode cL_law 623 = .ok (.iconst 1, 1) := by decide +kernel
theorem dL_law_624 : decode cL_law 624 = .ok (.goto 4, 3) := by decide +kernel
theorem dL_law_627 : decode cL_law 627 = .ok (.iconst 0, 1) := by decide +kernel
theorem dL_law_628 : decode cL_law 628 = .ok (.ireturn, 1) := by decide +kernel

theorem dX0_init_0 : decode cX0_init 0 = .ok (.aload_n 0, 1) := by decide +kernel
theorem dX0_init_1 : decode cX0_init 1 = .ok (.invokespecial 3, 3) := by decide +kernel
theorem dX0_init_4 : decode cX0_init 4 = .ok (.aload_n 0, 1) := by decide +kernel
theorem dX0_init_5 : decode cX0_init 5 = .ok (.new 9, 3) := by decide +kernel
theorem dX0_init_8 : decode cX0_init 8 = .ok (.dup, 1) := by decide +kernel
theorem dX0_init_9 : decode cX0_init 9 = .ok (.bipush 120, 2) := by decide +kernel
theorem dX0_init_11 : decode cX0_init 11 = .ok (.invokespecial 11, 3) := by decide +kernel
theorem dX0_init_14 : decode cX0_init 14 = .ok (.putfield 14, 3) := by decide +kernel
theorem dX0_init_17 : decode cX0_init 17 = .ok (.aload_n 0, 1) := by decide +kernel
theorem dX0_init_18 : decode cX0_init 18 = .ok (.new 20, 3) := by decide +kernel
theorem dX0_init_21 : decode cX0_init 21 = .ok (.dup, 1) := by decide +kernel
theorem dX0_init_22 : decode cX0_init 22 = .ok (.bipush 8, 2) := by decide +kernel
theorem dX0_init_24 : decode cX0_init 24 = .ok (.invokespecial 22, 3) := by decide +kernel
theorem dX0_init_27 : decode cX0_init 27 = .ok (.putfield 23, 3) := by decide +kernel
theorem dX0_init_30 : decode cX0_init 30 = .ok (.return_, 1) := by decide +kernel
theorem dX0_lastTime_0 : decode cX0_lastTime 0 = .ok (.aload_n 0, 1) := by decide +kernel
theorem dX0_lastTime_1 : decode cX0_lastTime 1 = .ok (.getfield 27, 3) := by decide +kernel
theorem dX0_lastTime_4 : decode cX0_lastTime 4 = .ok (.ifCond .le 19, 3) := by decide +kernel
theorem dX0_lastTime_7 : decode cX0_lastTime 7 = .ok (.aload_n 0, 1) := by decide +kernel
theorem dX0_lastTime_8 : decode cX0_lastTime 8 = .ok (.getfield 14, 3) := by decide +kernel
theorem dX0_lastTime_11 : decode cX0_lastTime 11 = .ok (.aload_n 0, 1) := by decide +kernel
theorem dX0_lastTime_12 : decode cX0_lastTime 12 = .ok (.getfield 27, 3) := by decide +kernel
theorem dX0_lastTime_15 : decode cX0_lastTime 15 = .ok (.iconst 1, 1) := by decide +kernel
theorem dX0_lastTime_16 : decode cX0_lastTime 16 = .ok (.isub, 1) := by decide +kernel
theorem dX0_lastTime_17 : decode cX0_lastTime 17 = .ok (.invokevirtual 31, 3) := by decide +kernel
theorem dX0_lastTime_20 : decode cX0_lastTime 20 = .ok (.goto 4, 3) := by decide +kernel
theorem dX0_lastTime_23 : decode cX0_lastTime 23 = .ok (.iconst 0, 1) := by decide +kernel
theorem dX0_lastTime_24 : decode cX0_lastTime 24 = .ok (.ireturn, 1) := by decide +kernel
theorem dX0_copy_0 : decode cX0_copy 0 = .ok (.aload_n 0, 1) := by decide +kernel
theorem dX0_copy_1 : decode cX0_copy 1 = .ok (.aload_n 1, 1) := by decide +kernel
theorem dX0_copy_2 : decode cX0_copy 2 = .ok (.getfield 27, 3) := by decide +kernel
theorem dX0_copy_5 : decode cX0_copy 5 = .ok (.putfield 27, 3) := by decide +kernel
theorem dX0_copy_8 : decode cX0_copy 8 = .ok (.aload_n 0, 1) := by decide +kernel
theorem dX0_copy_9 : decode cX0_copy 9 = .ok (.aload_n 1, 1) := by decide +kernel
theorem dX0_copy_10 : decode cX0_copy 10 = .ok (.getfield 35, 3) := by decide +kernel
theorem dX0_copy_13 : decode cX0_copy 13 = .ok (.putfield 35, 3) := by decide +kernel
theorem dX0_copy_16 : decode cX0_copy 16 = .ok (.iconst 0, 1) := by decide +kernel
theorem dX0_copy_17 : decode cX0_copy 17 = .ok (.istore_n 2, 1) := by decide +kernel
theorem dX0_copy_18 : decode cX0_copy 18 = .ok (.iload_n 2, 1) := by decide +kernel
theorem dX0_copy_19 : decode cX0_copy 19 = .ok (.aload_n 0, 1) := by decide +kernel
theorem dX0_copy_20 : decode cX0_copy 20 = .ok (.getfield 27, 3) := by decide +kernel
theorem dX0_copy_23 : decode cX0_copy 23 = .ok (.if_icmp .ge 59, 3) := by decide +kernel
theorem dX0_copy_26 : decode cX0_copy 26 = .ok (.aload_n 0, 1) := by decide +kernel
theorem dX0_copy_27 : decode cX0_copy 27 = .ok (.getfield 14, 3) := by decide +kernel
theorem dX0_copy_30 : decode cX0_copy 30 = .ok (.iload_n 2, 1) := by decide +kernel
theorem dX0_copy_31 : decode cX0_copy 31 = .ok (.aload_n 1, 1) := by decide +kernel
theorem dX0_copy_32 : decode cX0_copy 32 = .ok (.getfield 14, 3) := by decide +kernel
theorem dX0_copy_35 : decode cX0_copy 35 = .ok (.iload_n 2, 1) := by decide +kernel
theorem dX0_copy_36 : decode cX0_copy 36 = .ok (.invokevirtual 31, 3) := by decide +kernel
theorem dX0_copy_39 : decode cX0_copy 39 = .ok (.invokevirtual 38, 3) := by decide +kernel
theorem dX0_copy_42 : decode cX0_copy 42 = .ok (.iconst 0, 1) := by decide +kernel
theorem dX0_copy_43 : decode cX0_copy 43 = .ok (.istore_n 3, 1) := by decide +kernel
theorem dX0_copy_44 : decode cX0_copy 44 = .ok (.iload_n 3, 1) := by decide +kernel
theorem dX0_copy_45 : decode cX0_copy 45 = .ok (.aload_n 0, 1) := by decide +kernel
theorem dX0_copy_46 : decode cX0_copy 46 = .ok (.getfield 35, 3) := by decide +kernel
theorem dX0_copy_49 : decode cX0_copy 49 = .ok (.if_icmp .ge 27, 3) := by decide +kernel
theorem dX0_copy_52 : decode cX0_copy 52 = .ok (.aload_n 0, 1) := by decide +kernel
theorem dX0_copy_53 : decode cX0_copy 53 = .ok (.getfield 23, 3) := by decide +kernel
theorem dX0_copy_56 : decode cX0_copy 56 = .ok (.iload_n 3, 1) := by decide +kernel
theorem dX0_copy_57 : decode cX0_copy 57 = .ok (.iload_n 2, 1) := by decide +kernel
theorem dX0_copy_58 : decode cX0_copy 58 = .ok (.aload_n 1, 1) := by decide +kernel
theorem dX0_copy_59 : decode cX0_copy 59 = .ok (.getfield 23, 3) := by decide +kernel
theorem dX0_copy_62 : decode cX0_copy 62 = .ok (.iload_n 3, 1) := by decide +kernel
theorem dX0_copy_63 : decode cX0_copy 63 = .ok (.iload_n 2, 1) := by decide +kernel
theorem dX0_copy_64 : decode cX0_copy 64 = .ok (.invokevirtual 42, 3) := by decide +kernel
theorem dX0_copy_67 : decode cX0_copy 67 = .ok (.invokevirtual 45, 3) := by decide +kernel
theorem dX0_copy_70 : decode cX0_copy 70 = .ok (.iinc 3 1, 3) := by decide +kernel
theorem dX0_copy_73 : decode cX0_copy 73 = .ok (.goto (-29), 3) := by decide +kernel
theorem dX0_copy_76 : decode cX0_copy 76 = .ok (.iinc 2 1, 3) := by decide +kernel
theorem dX0_copy_79 : decode cX0_copy 79 = .ok (.goto (-61), 3) := by decide +kernel
theorem dX0_copy_82 : decode cX0_copy 82 = .ok (.return_, 1) := by decide +kernel
theorem dX1_init_0 : decode cX1_init 0 = .ok (.aload_n 0, 1) := by decide +kernel
theorem dX1_init_1 : decode cX1_init 1 = .ok (.invokespecial 1, 3) := by decide +kernel
theorem dX1_init_4 : decode cX1_init 4 = .ok (.aload_n 0, 1) := by decide +kernel
theorem dX1_init_5 : decode cX1_init 5 = .ok (.iconst 0, 1) := by decide +kernel
theorem dX1_init_6 : decode cX1_init 6 = .ok (.iload_n 1, 1) := by decide +kernel
theorem dX1_init_7 : decode cX1_init 7 = .ok (.invokestatic 7, 3) := by decide +kernel
theorem dX1_init_10 : decode cX1_init 10 = .ok (.newarray .int, 2) := by decide +kernel
theorem dX1_init_12 : decode cX1_init 12 = .ok (.putfield 13, 3) := by decide +kernel
theorem dX1_init_15 : decode cX1_init 15 = .ok (.return_, 1) := by decide +kernel
theorem dX1_get_0 : decode cX1_get 0 = .ok (.iload_n 1, 1) := by decide +kernel
theorem dX1_get_1 : decode cX1_get 1 = .ok (.ifCond .lt 21, 3) := by decide +kernel
theorem dX1_get_4 : decode cX1_get 4 = .ok (.iload_n 1, 1) := by decide +kernel
theorem dX1_get_5 : decode cX1_get 5 = .ok (.aload_n 0, 1) := by decide +kernel
theorem dX1_get_6 : decode cX1_get 6 = .ok (.getfield 13, 3) := by decide +kernel
theorem dX1_get_9 : decode cX1_get 9 = .ok (.arraylength, 1) := by decide +kernel
theorem dX1_get_10 : decode cX1_get 10 = .ok (.if_icmp .ge 12, 3) := by decide +kernel
theorem dX1_get_13 : decode cX1_get 13 = .ok (.aload_n 0, 1) := by decide +kernel
theorem dX1_get_14 : decode cX1_get 14 = .ok (.getfield 13, 3) := by decide +kernel
theorem dX1_get_17 : decode cX1_get 17 = .ok (.iload_n 1, 1) := by decide +kernel
theorem dX1_get_18 : decode cX1_get 18 = .ok (.iaload, 1) := by decide +kernel
theorem dX1_get_19 : decode cX1_get 19 = .ok (.goto 4, 3) := by decide +kernel
theorem dX1_get_22 : decode cX1_get 22 = .ok (.iconst 0, 1) := by decide +kernel
theorem dX1_get_23 : decode cX1_get 23 = .ok (.ireturn, 1) := by decide +kernel
theorem dX1_put_0 : decode cX1_put 0 = .ok (.iload_n 1, 1) := by decide +kernel
theorem dX1_put_1 : decode cX1_put 1 = .ok (.ifCond .lt 19, 3) := by decide +kernel
theorem dX1_put_4 : decode cX1_put 4 = .ok (.iload_n 1, 1) := by decide +kernel
theorem dX1_put_5 : decode cX1_put 5 = .ok (.aload_n 0, 1) := by decide +kernel
theorem dX1_put_6 : decode cX1_put 6 = .ok (.getfield 13, 3) := by decide +kernel
theorem dX1_put_9 : decode cX1_put 9 = .ok (.arraylength, 1) := by decide +kernel
theorem dX1_put_10 : decode cX1_put 10 = .ok (.if_icmp .ge 10, 3) := by decide +kernel
theorem dX1_put_13 : decode cX1_put 13 = .ok (.aload_n 0, 1) := by decide +kernel
theorem dX1_put_14 : decode cX1_put 14 = .ok (.getfield 13, 3) := by decide +kernel
theorem dX1_put_17 : decode cX1_put 17 = .ok (.iload_n 1, 1) := by decide +kernel
theorem dX1_put_18 : decode cX1_put 18 = .ok (.iload_n 2, 1) := by decide +kernel
theorem dX1_put_19 : decode cX1_put 19 = .ok (.iastore, 1) := by decide +kernel
theorem dX1_put_20 : decode cX1_put 20 = .ok (.return_, 1) := by decide +kernel
theorem dX2_init_0 : decode cX2_init 0 = .ok (.aload_n 0, 1) := by decide +kernel
theorem dX2_init_1 : decode cX2_init 1 = .ok (.invokespecial 1, 3) := by decide +kernel
theorem dX2_init_4 : decode cX2_init 4 = .ok (.aload_n 0, 1) := by decide +kernel
theorem dX2_init_5 : decode cX2_init 5 = .ok (.iconst 0, 1) := by decide +kernel
theorem dX2_init_6 : decode cX2_init 6 = .ok (.iload_n 1, 1) := by decide +kernel
theorem dX2_init_7 : decode cX2_init 7 = .ok (.invokestatic 7, 3) := by decide +kernel
theorem dX2_init_10 : decode cX2_init 10 = .ok (.newarray .long, 2) := by decide +kernel
theorem dX2_init_12 : decode cX2_init 12 = .ok (.putfield 13, 3) := by decide +kernel
theorem dX2_init_15 : decode cX2_init 15 = .ok (.return_, 1) := by decide +kernel
theorem dX2_get_0 : decode cX2_get 0 = .ok (.iload_n 1, 1) := by decide +kernel
theorem dX2_get_1 : decode cX2_get 1 = .ok (.ifCond .lt 21, 3) := by decide +kernel
theorem dX2_get_4 : decode cX2_get 4 = .ok (.iload_n 1, 1) := by decide +kernel
theorem dX2_get_5 : decode cX2_get 5 = .ok (.aload_n 0, 1) := by decide +kernel
theorem dX2_get_6 : decode cX2_get 6 = .ok (.getfield 13, 3) := by decide +kernel
theorem dX2_get_9 : decode cX2_get 9 = .ok (.arraylength, 1) := by decide +kernel
theorem dX2_get_10 : decode cX2_get 10 = .ok (.if_icmp .ge 12, 3) := by decide +kernel
theorem dX2_get_13 : decode cX2_get 13 = .ok (.aload_n 0, 1) := by decide +kernel
theorem dX2_get_14 : decode cX2_get 14 = .ok (.getfield 13, 3) := by decide +kernel
theorem dX2_get_17 : decode cX2_get 17 = .ok (.iload_n 1, 1) := by decide +kernel
theorem dX2_get_18 : decode cX2_get 18 = .ok (.laload, 1) := by decide +kernel
theorem dX2_get_19 : decode cX2_get 19 = .ok (.goto 4, 3) := by decide +kernel
theorem dX2_get_22 : decode cX2_get 22 = .ok (.lconst 0, 1) := by decide +kernel
theorem dX2_get_23 : decode cX2_get 23 = .ok (.lreturn, 1) := by decide +kernel
theorem dX2_put_0 : decode cX2_put 0 = .ok (.iload_n 1, 1) := by decide +kernel
theorem dX2_put_1 : decode cX2_put 1 = .ok (.ifCond .lt 19, 3) := by decide +kernel
theorem dX2_put_4 : decode cX2_put 4 = .ok (.iload_n 1, 1) := by decide +kernel
theorem dX2_put_5 : decode cX2_put 5 = .ok (.aload_n 0, 1) := by decide +kernel
theorem dX2_put_6 : decode cX2_put 6 = .ok (.getfield 13, 3) := by decide +kernel
theorem dX2_put_9 : decode cX2_put 9 = .ok (.arraylength, 1) := by decide +kernel
theorem dX2_put_10 : decode cX2_put 10 = .ok (.if_icmp .ge 10, 3) := by decide +kernel
theorem dX2_put_13 : decode cX2_put 13 = .ok (.aload_n 0, 1) := by decide +kernel
theorem dX2_put_14 : decode cX2_put 14 = .ok (.getfield 13, 3) := by decide +kernel
theorem dX2_put_17 : decode cX2_put 17 = .ok (.iload_n 1, 1) := by decide +kernel
theorem dX2_put_18 : decode cX2_put 18 = .ok (.lload_n 2, 1) := by decide +kernel
theorem dX2_put_19 : decode cX2_put 19 = .ok (.lastore, 1) := by decide +kernel
theorem dX2_put_20 : decode cX2_put 20 = .ok (.return_, 1) := by decide +kernel
theorem dX3_init_0 : decode cX3_init 0 = .ok (.aload_n 0, 1) := by decide +kernel
theorem dX3_init_1 : decode cX3_init 1 = .ok (.invokespecial 3, 3) := by decide +kernel
theorem dX3_init_4 : decode cX3_init 4 = .ok (.aload_n 0, 1) := by decide +kernel
theorem dX3_init_5 : decode cX3_init 5 = .ok (.new 9, 3) := by decide +kernel
theorem dX3_init_8 : decode cX3_init 8 = .ok (.dup, 1) := by decide +kernel
theorem dX3_init_9 : decode cX3_init 9 = .ok (.sipush 1200, 3) := by decide +kernel
theorem dX3_init_12 : decode cX3_init 12 = .ok (.invokespecial 11, 3) := by decide +kernel
theorem dX3_init_15 : decode cX3_init 15 = .ok (.putfield 14, 3) := by decide +kernel
theorem dX3_init_18 : decode cX3_init 18 = .ok (.aload_n 0, 1) := by decide +kernel
theorem dX3_init_19 : decode cX3_init 19 = .ok (.new 9, 3) := by decide +kernel
theorem dX3_init_22 : decode cX3_init 22 = .ok (.dup, 1) := by decide +kernel
theorem dX3_init_23 : decode cX3_init 23 = .ok (.sipush 1200, 3) := by decide +kernel
theorem dX3_init_26 : decode cX3_init 26 = .ok (.invokespecial 11, 3) := by decide +kernel
theorem dX3_init_29 : decode cX3_init 29 = .ok (.putfield 20, 3) := by decide +kernel
theorem dX3_init_32 : decode cX3_init 32 = .ok (.aload_n 0, 1) := by decide +kernel
theorem dX3_init_33 : decode cX3_init 33 = .ok (.new 9, 3) := by decide +kernel
theorem dX3_init_36 : decode cX3_init 36 = .ok (.dup, 1) := by decide +kernel
theorem dX3_init_37 : decode cX3_init 37 = .ok (.sipush 1200, 3) := by decide +kernel
theorem dX3_init_40 : decode cX3_init 40 = .ok (.invokespecial 11, 3) := by decide +kernel
theorem dX3_init_43 : decode cX3_init 43 = .ok (.putfield 23, 3) := by decide +kernel
theorem dX3_init_46 : decode cX3_init 46 = .ok (.aload_n 0, 1) := by decide +kernel
theorem dX3_init_47 : decode cX3_init 47 = .ok (.new 9, 3) := by decide +kernel
theorem dX3_init_50 : decode cX3_init 50 = .ok (.dup, 1) := by decide +kernel
theorem dX3_init_51 : decode cX3_init 51 = .ok (.sipush 1200, 3) := by decide +kernel
theorem dX3_init_54 : decode cX3_init 54 = .ok (.invokespecial 11, 3) := by decide +kernel
theorem dX3_init_57 : decode cX3_init 57 = .ok (.putfield 26, 3) := by decide +kernel
theorem dX3_init_60 : decode cX3_init 60 = .ok (.aload_n 0, 1) := by decide +kernel
theorem dX3_init_61 : decode cX3_init 61 = .ok (.new 9, 3) := by decide +kernel
theorem dX3_init_64 : decode cX3_init 64 = .ok (.dup, 1) := by decide +kernel
theorem dX3_init_65 : decode cX3_init 65 = .ok (.sipush 1200, 3) := by decide +kernel
theorem dX3_init_68 : decode cX3_init 68 = .ok (.invokespecial 11, 3) := by decide +kernel
theorem dX3_init_71 : decode cX3_init 71 = .ok (.putfield 29, 3) := by decide +kernel
theorem dX3_init_74 : decode cX3_init 74 = .ok (.aload_n 0, 1) := by decide +kernel
theorem dX3_init_75 : decode cX3_init 75 = .ok (.new 9, 3) := by decide +kernel
theorem dX3_init_78 : decode cX3_init 78 = .ok (.dup, 1) := by decide +kernel
theorem dX3_init_79 : decode cX3_init 79 = .ok (.sipush 1200, 3) := by decide +kernel
theorem dX3_init_82 : decode cX3_init 82 = .ok (.invokespecial 11, 3) := by decide +kernel
theorem dX3_init_85 : decode cX3_init 85 = .ok (.putfield 32, 3) := by decide +kernel
theorem dX3_init_88 : decode cX3_init 88 = .ok (.aload_n 0, 1) := by decide +kernel
theorem dX3_init_89 : decode cX3_init 89 = .ok (.new 9, 3) := by decide +kernel
theorem dX3_init_92 : decode cX3_init 92 = .ok (.dup, 1) := by decide +kernel
theorem dX3_init_93 : decode cX3_init 93 = .ok (.sipush 1200, 3) := by decide +kernel
theorem dX3_init_96 : decode cX3_init 96 = .ok (.invokespecial 11, 3) := by decide +kernel
theorem dX3_init_99 : decode cX3_init 99 = .ok (.putfield 35, 3) := by decide +kernel
theorem dX3_init_102 : decode cX3_init 102 = .ok (.return_, 1) := by decide +kernel
theorem dX3_beginAt_0 : decode cX3_beginAt 0 = .ok (.aload_n 0, 1) := by decide +kernel
theorem dX3_beginAt_1 : decode cX3_beginAt 1 = .ok (.iload_n 1, 1) := by decide +kernel
theorem dX3_beginAt_2 : decode cX3_beginAt 2 = .ok (.putfield 38, 3) := by decide +kernel
theorem dX3_beginAt_5 : decode cX3_beginAt 5 = .ok (.aload_n 0, 1) := by decide +kernel
theorem dX3_beginAt_6 : decode cX3_beginAt 6 = .ok (.iload_n 1, 1) := by decide +kernel
theorem dX3_beginAt_7 : decode cX3_beginAt 7 = .ok (.sipush 400, 3) := by decide +kernel
theorem dX3_beginAt_10 : decode cX3_beginAt 10 = .ok (.iadd, 1) := by decide +kernel
theorem dX3_beginAt_11 : decode cX3_beginAt 11 = .ok (.putfield 42, 3) := by decide +kernel
theorem dX3_beginAt_14 : decode cX3_beginAt 14 = .ok (.return_, 1) := by decide +kernel
theorem dX3_add_0 : decode cX3_add 0 = .ok (.aload_n 0, 1) := by decide +kernel
theorem dX3_add_1 : decode cX3_add 1 = .ok (.getfield 38, 3) := by decide +kernel
theorem dX3_add_4 : decode cX3_add 4 = .ok (.aload_n 0, 1) := by decide +kernel
theorem dX3_add_5 : decode cX3_add 5 = .ok (.getfield 42, 3) := by decide +kernel
theorem dX3_add_8 : decode cX3_add 8 = .ok (.if_icmp .lt 5, 3) := by decide +kernel
theorem dX3_add_11 : decode cX3_add 11 = .ok (.iconst (-1), 1) := by decide +kernel
theorem dX3_add_12 : decode cX3_add 12 = .ok (.ireturn, 1) := by decide +kernel
theorem dX3_add_13 : decode cX3_add 13 = .ok (.aload_n 0, 1) := by decide +kernel
theorem dX3_add_14 : decode cX3_add 14 = .ok (.getfield 38, 3) := by decide +kernel
theorem dX3_add_17 : decode cX3_add 17 = .ok (.istore 5, 2) := by decide +kernel
theorem dX3_add_19 : decode cX3_add 19 = .ok (.aload_n 0, 1) := by decide +kernel
theorem dX3_add_20 : decode cX3_add 20 = .ok (.dup, 1) := by decide +kernel
theorem dX3_add_21 : decode cX3_add 21 = .ok (.getfield 38, 3) := by decide +kernel
theorem dX3_add_24 : decode cX3_add 24 = .ok (.iconst 1, 1) := by decide +kernel
theorem dX3_add_25 : decode cX3_add 25 = .ok (.iadd, 1) := by decide +kernel
theorem dX3_add_26 : decode cX3_add 26 = .ok (.putfield 38, 3) := by decide +kernel
theorem dX3_add_29 : decode cX3_add 29 = .ok (.aload_n 0, 1) := by decide +kernel
theorem dX3_add_30 : decode cX3_add 30 = .ok (.getfield 14, 3) := by decide +kernel
theorem dX3_add_33 : decode cX3_add 33 = .ok (.iload 5, 2) := by decide +kernel
theorem dX3_add_35 : decode cX3_add 35 = .ok (.iload_n 1, 1) := by decide +kernel
theorem dX3_add_36 : decode cX3_add 36 = .ok (.invokevirtual 45, 3) := by decide +kernel
theorem dX3_add_39 : decode cX3_add 39 = .ok (.aload_n 0, 1) := by decide +kernel
theorem dX3_add_40 : decode cX3_add 40 = .ok (.getfield 20, 3) := by decide +kernel
theorem dX3_add_43 : decode cX3_add 43 = .ok (.iload 5, 2) := by decide +kernel
theorem dX3_add_45 : decode cX3_add 45 = .ok (.iload_n 2, 1) := by decide +kernel
theorem dX3_add_46 : decode cX3_add 46 = .ok (.invokevirtual 45, 3) := by decide +kernel
theorem dX3_add_49 : decode cX3_add 49 = .ok (.aload_n 0, 1) := by decide +kernel
theorem dX3_add_50 : decode cX3_add 50 = .ok (.getfield 23, 3) := by decide +kernel
theorem dX3_add_53 : decode cX3_add 53 = .ok (.iload 5, 2) := by decide +kernel
theorem dX3_add_55 : decode cX3_add 55 = .ok (.iload_n 3, 1) := by decide +kernel
theorem dX3_add_56 : decode cX3_add 56 = .ok (.invokevirtual 45, 3) := by decide +kernel
theorem dX3_add_59 : decode cX3_add 59 = .ok (.aload_n 0, 1) := by decide +kernel
theorem dX3_add_60 : decode cX3_add 60 = .ok (.getfield 26, 3) := by decide +kernel
theorem dX3_add_63 : decode cX3_add 63 = .ok (.iload 5, 2) := by decide +kernel
theorem dX3_add_65 : decode cX3_add 65 = .ok (.iload 4, 2) := by decide +kernel
theorem dX3_add_67 : decode cX3_add 67 = .ok (.invokevirtual 45, 3) := by decide +kernel
theorem dX3_add_70 : decode cX3_add 70 = .ok (.aload_n 0, 1) := by decide +kernel
theorem dX3_add_71 : decode cX3_add 71 = .ok (.getfield 29, 3) := by decide +kernel
theorem dX3_add_74 : decode cX3_add 74 = .ok (.iload 5, 2) := by decide +kernel
theorem dX3_add_76 : decode cX3_add 76 = .ok (.iconst (-1), 1) := by decide +kernel
theorem dX3_add_77 : decode cX3_add 77 = .ok (.invokevirtual 45, 3) := by decide +kernel
theorem dX3_add_80 : decode cX3_add 80 = .ok (.aload_n 0, 1) := by decide +kernel
theorem dX3_add_81 : decode cX3_add 81 = .ok (.getfield 32, 3) := by decide +kernel
theorem dX3_add_84 : decode cX3_add 84 = .ok (.iload 5, 2) := by decide +kernel
theorem dX3_add_86 : decode cX3_add 86 = .ok (.iconst 0, 1) := by decide +kernel
theorem dX3_add_87 : decode cX3_add 87 = .ok (.invokevirtual 45, 3) := by decide +kernel
theorem dX3_add_90 : decode cX3_add 90 = .ok (.aload_n 0, 1) := by decide +kernel
theorem dX3_add_91 : decode cX3_add 91 = .ok (.getfield 35, 3) := by decide +kernel
theorem dX3_add_94 : decode cX3_add 94 = .ok (.iload 5, 2) := by decide +kernel
theorem dX3_add_96 : decode cX3_add 96 = .ok (.ldc 49, 2) := by decide +kernel
theorem dX3_add_98 : decode cX3_add 98 = .ok (.invokevirtual 45, 3) := by decide +kernel
theorem dX3_add_101 : decode cX3_add 101 = .ok (.iload 5, 2) := by decide +kernel
theorem dX3_add_103 : decode cX3_add 103 = .ok (.ireturn, 1) := by decide +kernel
theorem dX3_bound_0 : decode cX3_bound 0 = .ok (.aload_n 0, 1) := by decide +kernel
theorem dX3_bound_1 : decode cX3_bound 1 = .ok (.getfield 32, 3) := by decide +kernel
theorem dX3_bound_4 : decode cX3_bound 4 = .ok (.iload_n 1, 1) := by decide +kernel
theorem dX3_bound_5 : decode cX3_bound 5 = .ok (.iload_n 2, 1) := by decide +kernel
theorem dX3_bound_6 : decode cX3_bound 6 = .ok (.invokevirtual 45, 3) := by decide +kernel
theorem dX3_bound_9 : decode cX3_bound 9 = .ok (.aload_n 0, 1) := by decide +kernel
theorem dX3_bound_10 : decode cX3_bound 10 = .ok (.getfield 35, 3) := by decide +kernel
theorem dX3_bound_13 : decode cX3_bound 13 = .ok (.iload_n 1, 1) := by decide +kernel
theorem dX3_bound_14 : decode cX3_bound 14 = .ok (.iload_n 3, 1) := by decide +kernel
theorem dX3_bound_15 : decode cX3_bound 15 = .ok (.invokevirtual 45, 3) := by decide +kernel
theorem dX3_bound_18 : decode cX3_bound 18 = .ok (.return_, 1) := by decide +kernel
theorem dX4_init_0 : decode cX4_init 0 = .ok (.aload_n 0, 1) := by decide +kernel
theorem dX4_init_1 : decode cX4_init 1 = .ok (.invokespecial 3, 3) := by decide +kernel
theorem dX4_init_4 : decode cX4_init 4 = .ok (.aload_n 0, 1) := by decide +kernel
theorem dX4_init_5 : decode cX4_init 5 = .ok (.aload_n 1, 1) := by decide +kernel
theorem dX4_init_6 : decode cX4_init 6 = .ok (.putfield 9, 3) := by decide +kernel
theorem dX4_init_9 : decode cX4_init 9 = .ok (.aload_n 0, 1) := by decide +kernel
theorem dX4_init_10 : decode cX4_init 10 = .ok (.aload_n 2, 1) := by decide +kernel
theorem dX4_init_11 : decode cX4_init 11 = .ok (.putfield 15, 3) := by decide +kernel
theorem dX4_init_14 : decode cX4_init 14 = .ok (.aload_n 0, 1) := by decide +kernel
theorem dX4_init_15 : decode cX4_init 15 = .ok (.aload_n 3, 1) := by decide +kernel
theorem dX4_init_16 : decode cX4_init 16 = .ok (.putfield 19, 3) := by decide +kernel
theorem dX4_init_19 : decode cX4_init 19 = .ok (.aload_n 0, 1) := by decide +kernel
theorem dX4_init_20 : decode cX4_init 20 = .ok (.iconst (-1), 1) := by decide +kernel
theorem dX4_init_21 : decode cX4_init 21 = .ok (.putfield 23, 3) := by decide +kernel
theorem dX4_init_24 : decode cX4_init 24 = .ok (.return_, 1) := by decide +kernel
theorem dX4_readProgram_0 : decode cX4_readProgram 0 = .ok (.aload_n 0, 1) := by decide +kernel
theorem dX4_readProgram_1 : decode cX4_readProgram 1 = .ok (.iconst 0, 1) := by decide +kernel
theorem dX4_readProgram_2 : decode cX4_readProgram 2 = .ok (.invokevirtual 27, 3) := by decide +kernel
theorem dX4_readProgram_5 : decode cX4_readProgram 5 = .ok (.aload_n 0, 1) := by decide +kernel
theorem dX4_readProgram_6 : decode cX4_readProgram 6 = .ok (.invokevirtual 31, 3) := by decide +kernel
theorem dX4_readProgram_9 : decode cX4_readProgram 9 = .ok (.iconst 1, 1) := by decide +kernel
theorem dX4_readProgram_10 : decode cX4_readProgram 10 = .ok (.istore_n 1, 1) := by decide +kernel
theorem dX4_readProgram_11 : decode cX4_readProgram 11 = .ok (.iload_n 1, 1) := by decide +kernel
theorem dX4_readProgram_12 : decode cX4_readProgram 12 = .ok (.sipush 400, 3) := by decide +kernel
theorem dX4_readProgram_15 : decode cX4_readProgram 15 = .ok (.if_icmp .ge 29, 3) := by decide +kernel
theorem dX4_readProgram_18 : decode cX4_readProgram 18 = .ok (.aload_n 0, 1) := by decide +kernel
theorem dX4_readProgram_19 : decode cX4_readProgram 19 = .ok (.getfield 34, 3) := by decide +kernel
theorem dX4_readProgram_22 : decode cX4_readProgram 22 = .ok (.bipush 53, 2) := by decide +kernel
theorem dX4_readProgram_24 : decode cX4_readProgram 24 = .ok (.if_icmp .eq 20, 3) := by decide +kernel
theorem dX4_readProgram_27 : decode cX4_readProgram 27 = .ok (.aload_n 0, 1) := by decide +kernel
theorem dX4_readProgram_28 : decode cX4_readProgram 28 = .ok (.getfield 37, 3) := by decide +kernel
theorem dX4_readProgram_31 : decode cX4_readProgram 31 = .ok (.ifCond .ne 13, 3) := by decide +kernel
theorem dX4_readProgram_34 : decode cX4_readProgram 34 = .ok (.aload_n 0, 1) := by decide +kernel
theorem dX4_readProgram_35 : decode cX4_readProgram 35 = .ok (.invokevirtual 31, 3) := by decide +kernel
theorem dX4_readProgram_38 : decode cX4_readProgram 38 = .ok (.iinc 1 1, 3) := by decide +kernel
theorem dX4_readProgram_41 : decode cX4_readProgram 41 = .ok (.goto (-30), 3) := by decide +kernel
theorem dX4_readProgram_44 : decode cX4_readProgram 44 = .ok (.aload_n 0, 1) := by decide +kernel
theorem dX4_readProgram_45 : decode cX4_readProgram 45 = .ok (.getfield 19, 3) := by decide +kernel
theorem dX4_readProgram_48 : decode cX4_readProgram 48 = .ok (.getfield 41, 3) := by decide +kernel
theorem dX4_readProgram_51 : decode cX4_readProgram 51 = .ok (.iconst 3, 1) := by decide +kernel
theorem dX4_readProgram_52 : decode cX4_readProgram 52 = .ok (.invokevirtual 47, 3) := by decide +kernel
theorem dX4_readProgram_55 : decode cX4_readProgram 55 = .ok (.ifCond .ne 13, 3) := by decide +kernel
theorem dX4_readProgram_58 : decode cX4_readProgram 58 = .ok (.aload_n 0, 1) := by decide +kernel
theorem dX4_readProgram_59 : decode cX4_readProgram 59 = .ok (.bipush 6, 2) := by decide +kernel
theorem dX4_readProgram_61 : decode cX4_readProgram 61 = .ok (.aload_n 0, 1) := by decide +kernel
theorem dX4_readProgram_62 : decode cX4_readProgram 62 = .ok (.getfield 53, 3) := by decide +kernel
theorem dX4_readProgram_65 : decode cX4_readProgram 65 = .ok (.invokevirtual 56, 3) := by decide +kernel
theorem dX4_readProgram_68 : decode cX4_readProgram 68 = .ok (.return_, 1) := by decide +kernel
theorem dX4_readQuestion_0 : decode cX4_readQuestion 0 = .ok (.aload_n 0, 1) := by decide +kernel
theorem dX4_readQuestion_1 : decode cX4_readQuestion 1 = .ok (.iload_n 1, 1) := by decide +kernel
theorem dX4_readQuestion_2 : decode cX4_readQuestion 2 = .ok (.invokevirtual 27, 3) := by decide +kernel
theorem dX4_readQuestion_5 : decode cX4_readQuestion 5 = .ok (.aload_n 0, 1) := by decide +kernel
theorem dX4_readQuestion_6 : decode cX4_readQuestion 6 = .ok (.iconst 0, 1) := by decide +kernel
theorem dX4_readQuestion_7 : decode cX4_readQuestion 7 = .ok (.invokevirtual 60, 3) := by decide +kernel
theorem dX4_readQuestion_10 : decode cX4_readQuestion 10 = .ok (.istore_n 2, 1) := by decide +kernel
theorem dX4_readQuestion_11 : decode cX4_readQuestion 11 = .ok (.aload_n 0, 1) := by decide +kernel
theorem dX4_readQuestion_12 : decode cX4_readQuestion 12 = .ok (.getfield 34, 3) := by decide +kernel
theorem dX4_readQuestion_15 : decode cX4_readQuestion 15 = .ok (.bipush 53, 2) := by decide +kernel
theorem dX4_readQuestion_17 : decode cX4_readQuestion 17 = .ok (.if_icmp .eq 7, 3) := by decide +kernel
theorem dX4_readQuestion_20 : decode cX4_readQuestion 20 = .ok (.aload_n 0, 1) := by decide +kernel
theorem dX4_readQuestion_21 : decode cX4_readQuestion 21 = .ok (.invokevirtual 63, 3) := by decide +kernel
theorem dX4_readQuestion_24 : decode cX4_readQuestion 24 = .ok (.iload_n 2, 1) := by decide +kernel
theorem dX4_readQuestion_25 : decode cX4_readQuestion 25 = .ok (.ireturn, 1) := by decide +kernel
theorem dX4_beginAt_0 : decode cX4_beginAt 0 = .ok (.aload_n 0, 1) := by decide +kernel
theorem dX4_beginAt_1 : decode cX4_beginAt 1 = .ok (.getfield 15, 3) := by decide +kernel
theorem dX4_beginAt_4 : decode cX4_beginAt 4 = .ok (.iload_n 1, 1) := by decide +kernel
theorem dX4_beginAt_5 : decode cX4_beginAt 5 = .ok (.invokevirtual 66, 3) := by decide +kernel
theorem dX4_beginAt_8 : decode cX4_beginAt 8 = .ok (.aload_n 0, 1) := by decide +kernel
theorem dX4_beginAt_9 : decode cX4_beginAt 9 = .ok (.iconst 0, 1) := by decide +kernel
theorem dX4_beginAt_10 : decode cX4_beginAt 10 = .ok (.putfield 69, 3) := by decide +kernel
theorem dX4_beginAt_13 : decode cX4_beginAt 13 = .ok (.aload_n 0, 1) := by decide +kernel
theorem dX4_beginAt_14 : decode cX4_beginAt 14 = .ok (.iconst (-1), 1) := by decide +kernel
theorem dX4_beginAt_15 : decode cX4_beginAt 15 = .ok (.putfield 23, 3) := by decide +kernel
theorem dX4_beginAt_18 : decode cX4_beginAt 18 = .ok (.aload_n 0, 1) := by decide +kernel
theorem dX4_beginAt_19 : decode cX4_beginAt 19 = .ok (.iconst 0, 1) := by decide +kernel
theorem dX4_beginAt_20 : decode cX4_beginAt 20 = .ok (.putfield 37, 3) := by decide +kernel
theorem dX4_beginAt_23 : decode cX4_beginAt 23 = .ok (.aload_n 0, 1) := by decide +kernel
theorem dX4_beginAt_24 : decode cX4_beginAt 24 = .ok (.iconst (-1), 1) := by decide +kernel
theorem dX4_beginAt_25 : decode cX4_beginAt 25 = .ok (.putfield 72, 3) := by decide +kernel
theorem dX4_beginAt_28 : decode cX4_beginAt 28 = .ok (.aload_n 0, 1) := by decide +kernel
theorem dX4_beginAt_29 : decode cX4_beginAt 29 = .ok (.invokevirtual 75, 3) := by decide +kernel
theorem dX4_beginAt_32 : decode cX4_beginAt 32 = .ok (.return_, 1) := by decide +kernel
theorem dX4_advance_0 : decode cX4_advance 0 = .ok (.aload_n 0, 1) := by decide +kernel
theorem dX4_advance_1 : decode cX4_advance 1 = .ok (.getfield 37, 3) := by decide +kernel
theorem dX4_advance_4 : decode cX4_advance 4 = .ok (.ifCond .ne 67, 3) := by decide +kernel
theorem dX4_advance_7 : decode cX4_advance 7 = .ok (.aload_n 0, 1) := by decide +kernel
theorem dX4_advance_8 : decode cX4_advance 8 = .ok (.dup, 1) := by decide +kernel
theorem dX4_advance_9 : decode cX4_advance 9 = .ok (.getfield 72, 3) := by decide +kernel
theorem dX4_advance_12 : decode cX4_advance 12 = .ok (.iconst 1, 1) := by decide +kernel
theorem dX4_advance_13 : decode cX4_advance 13 = .ok (.iadd, 1) := by decide +kernel
theorem dX4_advance_14 : decode cX4_advance 14 = .ok (.putfield 72, 3) := by decide +kernel
theorem dX4_advance_17 : decode cX4_advance 17 = .ok (.aload_n 0, 1) := by decide +kernel
theorem dX4_advance_18 : decode cX4_advance 18 = .ok (.aload_n 0, 1) := by decide +kernel
theorem dX4_advance_19 : decode cX4_advance 19 = .ok (.getfield 9, 3) := by decide +kernel
theorem dX4_advance_22 : decode cX4_advance 22 = .ok (.getfield 78, 3) := by decide +kernel
theorem dX4_advance_25 : decode cX4_advance 25 = .ok (.aload_n 0, 1) := by decide +kernel
theorem dX4_advance_26 : decode cX4_advance 26 = .ok (.getfield 72, 3) := by decide +kernel
theorem dX4_advance_29 : decode cX4_advance 29 = .ok (.invokevirtual 47, 3) := by decide +kernel
theorem dX4_advance_32 : decode cX4_advance 32 = .ok (.putfield 34, 3) := by decide +kernel
theorem dX4_advance_35 : decode cX4_advance 35 = .ok (.aload_n 0, 1) := by decide +kernel
theorem dX4_advance_36 : decode cX4_advance 36 = .ok (.aload_n 0, 1) := by decide +kernel
theorem dX4_advance_37 : decode cX4_advance 37 = .ok (.getfield 9, 3) := by decide +kernel
theorem dX4_advance_40 : decode cX4_advance 40 = .ok (.getfield 83, 3) := by decide +kernel
theorem dX4_advance_43 : decode cX4_advance 43 = .ok (.aload_n 0, 1) := by decide +kernel
theorem dX4_advance_44 : decode cX4_advance 44 = .ok (.getfield 72, 3) := by decide +kernel
theorem dX4_advance_47 : decode cX4_advance 47 = .ok (.invokevirtual 47, 3) := by decide +kernel
theorem dX4_advance_50 : decode cX4_advance 50 = .ok (.putfield 53, 3) := by decide +kernel
theorem dX4_advance_53 : decode cX4_advance 53 = .ok (.aload_n 0, 1) := by decide +kernel
theorem dX4_advance_54 : decode cX4_advance 54 = .ok (.aload_n 0, 1) := by decide +kernel
theorem dX4_advance_55 : decode cX4_advance 55 = .ok (.getfield 9, 3) := by decide +kernel
theorem dX4_advance_58 : decode cX4_advance 58 = .ok (.getfield 86, 3) := by decide +kernel
theorem dX4_advance_61 : decode cX4_advance 61 = .ok (.aload_n 0, 1) := by decide +kernel
theorem dX4_advance_62 : decode cX4_advance 62 = .ok (.getfield 72, 3) := by decide +kernel
theorem dX4_advance_65 : decode cX4_advance 65 = .ok (.invokevirtual 90, 3) := by decide +kernel
theorem dX4_advance_68 : decode cX4_advance 68 = .ok (.putfield 95, 3) := by decide +kernel
theorem dX4_advance_71 : decode cX4_advance 71 = .ok (.return_, 1) := by decide +kernel
theorem dX4_fail_0 : decode cX4_fail 0 = .ok (.aload_n 0, 1) := by decide +kernel
theorem dX4_fail_1 : decode cX4_fail 1 = .ok (.getfield 37, 3) := by decide +kernel
theorem dX4_fail_4 : decode cX4_fail 4 = .ok (.ifCond .ne 27, 3) := by decide +kernel
theorem dX4_fail_7 : decode cX4_fail 7 = .ok (.aload_n 0, 1) := by decide +kernel
theorem dX4_fail_8 : decode cX4_fail 8 = .ok (.iconst 1, 1) := by decide +kernel
theorem dX4_fail_9 : decode cX4_fail 9 = .ok (.putfield 37, 3) := by decide +kernel
theorem dX4_fail_12 : decode cX4_fail 12 = .ok (.aload_n 0, 1) := by decide +kernel
theorem dX4_fail_13 : decode cX4_fail 13 = .ok (.iconst 1, 1) := by decide +kernel
theorem dX4_fail_14 : decode cX4_fail 14 = .ok (.putfield 69, 3) := by decide +kernel
theorem dX4_fail_17 : decode cX4_fail 17 = .ok (.aload_n 0, 1) := by decide +kernel
theorem dX4_fail_18 : decode cX4_fail 18 = .ok (.aload_n 0, 1) := by decide +kernel
theorem dX4_fail_19 : decode cX4_fail 19 = .ok (.getfield 53, 3) := by decide +kernel
theorem dX4_fail_22 : decode cX4_fail 22 = .ok (.putfield 23, 3) := by decide +kernel
theorem dX4_fail_25 : decode cX4_fail 25 = .ok (.aload_n 0, 1) := by decide +kernel
theorem dX4_fail_26 : decode cX4_fail 26 = .ok (.bipush 54, 2) := by decide +kernel
theorem dX4_fail_28 : decode cX4_fail 28 = .ok (.putfield 34, 3) := by decide +kernel
theorem dX4_fail_31 : decode cX4_fail 31 = .ok (.return_, 1) := by decide +kernel
theorem dX4_complain_0 : decode cX4_complain 0 = .ok (.aload_n 0, 1) := by decide +kernel
theorem dX4_complain_1 : decode cX4_complain 1 = .ok (.getfield 69, 3) := by decide +kernel
theorem dX4_complain_4 : decode cX4_complain 4 = .ok (.ifCond .ne 13, 3) := by decide +kernel
theorem dX4_complain_7 : decode cX4_complain 7 = .ok (.aload_n 0, 1) := by decide +kernel
theorem dX4_complain_8 : decode cX4_complain 8 = .ok (.iload_n 1, 1) := by decide +kernel
theorem dX4_complain_9 : decode cX4_complain 9 = .ok (.putfield 69, 3) := by decide +kernel
theorem dX4_complain_12 : decode cX4_complain 12 = .ok (.aload_n 0, 1) := by decide +kernel
theorem dX4_complain_13 : decode cX4_complain 13 = .ok (.iload_n 2, 1) := by decide +kernel
theorem dX4_complain_14 : decode cX4_complain 14 = .ok (.putfield 23, 3) := by decide +kernel
theorem dX4_complain_17 : decode cX4_complain 17 = .ok (.return_, 1) := by decide +kernel
theorem dX4_expect_0 : decode cX4_expect 0 = .ok (.aload_n 0, 1) := by decide +kernel
theorem dX4_expect_1 : decode cX4_expect 1 = .ok (.getfield 34, 3) := by decide +kernel
theorem dX4_expect_4 : decode cX4_expect 4 = .ok (.iload_n 1, 1) := by decide +kernel
theorem dX4_expect_5 : decode cX4_expect 5 = .ok (.if_icmp .ne 10, 3) := by decide +kernel
theorem dX4_expect_8 : decode cX4_expect 8 = .ok (.aload_n 0, 1) := by decide +kernel
theorem dX4_expect_9 : decode cX4_expect 9 = .ok (.invokevirtual 75, 3) := by decide +kernel
theorem dX4_expect_12 : decode cX4_expect 12 = .ok (.goto 7, 3) := by decide +kernel
theorem dX4_expect_15 : decode cX4_expect 15 = .ok (.aload_n 0, 1) := by decide +kernel
theorem dX4_expect_16 : decode cX4_expect 16 = .ok (.invokevirtual 63, 3) := by decide +kernel
theorem dX4_expect_19 : decode cX4_expect 19 = .ok (.return_, 1) := by decide +kernel
theorem dX4_deepen_0 : decode cX4_deepen 0 = .ok (.iload_n 1, 1) := by decide +kernel
theorem dX4_deepen_1 : decode cX4_deepen 1 = .ok (.bipush 10, 2) := by decide +kernel
theorem dX4_deepen_3 : decode cX4_deepen 3 = .ok (.if_icmp .ge 10, 3) := by decide +kernel
theorem dX4_deepen_6 : decode cX4_deepen 6 = .ok (.aload_n 0, 1) := by decide +kernel
theorem dX4_deepen_7 : decode cX4_deepen 7 = .ok (.invokevirtual 75, 3) := by decide +kernel
theorem dX4_deepen_10 : decode cX4_deepen 10 = .ok (.goto 7, 3) := by decide +kernel
theorem dX4_deepen_13 : decode cX4_deepen 13 = .ok (.aload_n 0, 1) := by decide +kernel
theorem dX4_deepen_14 : decode cX4_deepen 14 = .ok (.invokevirtual 63, 3) := by decide +kernel
theorem dX4_deepen_17 : decode cX4_deepen 17 = .ok (.return_, 1) := by decide +kernel
theorem dX4_readItem_0 : decode cX4_readItem 0 = .ok (.aload_n 0, 1) := by decide +kernel
theorem dX4_readItem_1 : decode cX4_readItem 1 = .ok (.getfield 34, 3) := by decide +kernel
theorem dX4_readItem_4 : decode cX4_readItem 4 = .ok (.istore_n 1, 1) := by decide +kernel
theorem dX4_readItem_5 : decode cX4_readItem 5 = .ok (.iload_n 1, 1) := by decide +kernel
theorem dX4_readItem_6 : decode cX4_readItem 6 = .ok (.ifCond .lt 8, 3) := by decide +kernel
theorem dX4_readItem_9 : decode cX4_readItem 9 = .ok (.iload_n 1, 1) := by decide +kernel
theorem dX4_readItem_10 : decode cX4_readItem 10 = .ok (.iconst 3, 1) := by decide +kernel
theorem dX4_readItem_11 : decode cX4_readItem 11 = .ok (.if_icmp .le 8, 3) := by decide +kernel
theorem dX4_readItem_14 : decode cX4_readItem 14 = .ok (.aload_n 0, 1) := by decide +kernel
theorem dX4_readItem_15 : decode cX4_readItem 15 = .ok (.invokevirtual 63, 3) := by decide +kernel
theorem dX4_readItem_18 : decode cX4_readItem 18 = .ok (.return_, 1) := by decide +kernel
theorem dX4_readItem_19 : decode cX4_readItem 19 = .ok (.aload_n 0, 1) := by decide +kernel
theorem dX4_readItem_20 : decode cX4_readItem 20 = .ok (.getfield 19, 3) := by decide +kernel
theorem dX4_readItem_23 : decode cX4_readItem 23 = .ok (.iload_n 1, 1) := by decide +kernel
theorem dX4_readItem_24 : decode cX4_readItem 24 = .ok (.invokevirtual 99, 3) := by decide +kernel
theorem dX4_readItem_27 : decode cX4_readItem 27 = .ok (.ifCond .eq 12, 3) := by decide +kernel
theorem dX4_readItem_30 : decode cX4_readItem 30 = .ok (.aload_n 0, 1) := by decide +kernel
theorem dX4_readItem_31 : decode cX4_readItem 31 = .ok (.iconst 4, 1) := by decide +kernel
theorem dX4_readItem_32 : decode cX4_readItem 32 = .ok (.aload_n 0, 1) := by decide +kernel
theorem dX4_readItem_33 : decode cX4_readItem 33 = .ok (.getfield 53, 3) := by decide +kernel
theorem dX4_readItem_36 : decode cX4_readItem 36 = .ok (.invokevirtual 56, 3) := by decide +kernel
theorem dX4_readItem_39 : decode cX4_readItem 39 = .ok (.aload_n 0, 1) := by decide +kernel
theorem dX4_readItem_40 : decode cX4_readItem 40 = .ok (.invokevirtual 75, 3) := by decide +kernel
theorem dX4_readItem_43 : decode cX4_readItem 43 = .ok (.aload_n 0, 1) := by decide +kernel
theorem dX4_readItem_44 : decode cX4_readItem 44 = .ok (.getfield 95, 3) := by decide +kernel
theorem dX4_readItem_47 : decode cX4_readItem 47 = .ok (.lstore_n 2, 1) := by decide +kernel
theorem dX4_readItem_48 : decode cX4_readItem 48 = .ok (.aload_n 0, 1) := by decide +kernel
theorem dX4_readItem_49 : decode cX4_readItem 49 = .ok (.invokevirtual 103, 3) := by decide +kernel
theorem dX4_readItem_52 : decode cX4_readItem 52 = .ok (.aload_n 0, 1) := by decide +kernel
theorem dX4_readItem_53 : decode cX4_readItem 53 = .ok (.iload_n 1, 1) := by decide +kernel
theorem dX4_readItem_54 : decode cX4_readItem 54 = .ok (.iconst 3, 1) := by decide +kernel
theorem dX4_readItem_55 : decode cX4_readItem 55 = .ok (.if_icmp .ne 8, 3) := by decide +kernel
theorem dX4_readItem_58 : decode cX4_readItem 58 = .ok (.bipush 37, 2) := by decide +kernel
theorem dX4_readItem_60 : decode cX4_readItem 60 = .ok (.goto 15, 3) := by decide +kernel
theorem dX4_readItem_63 : decode cX4_readItem 63 = .ok (.iload_n 1, 1) := by decide +kernel
theorem dX4_readItem_64 : decode cX4_readItem 64 = .ok (.iconst 1, 1) := by decide +kernel
theorem dX4_readItem_65 : decode cX4_readItem 65 = .ok (.if_icmp .ne 8, 3) := by decide +kernel
theorem dX4_readItem_68 : decode cX4_readItem 68 = .ok (.bipush 38, 2) := by decide +kernel
theorem dX4_readItem_70 : decode cX4_readItem 70 = .ok (.goto 5, 3) := by decide +kernel
theorem dX4_readItem_73 : decode cX4_readItem 73 = .ok (.bipush 44, 2) := by decide +kernel
theorem dX4_readItem_75 : decode cX4_readItem 75 = .ok (.invokevirtual 106, 3) := by decide +kernel
theorem dX4_readItem_78 : decode cX4_readItem 78 = .ok (.iload_n 1, 1) := by decide +kernel
theorem dX4_readItem_79 : decode cX4_readItem 79 = .ok (.ifCond .ne 10, 3) := by decide +kernel
theorem dX4_readItem_82 : decode cX4_readItem 82 = .ok (.aload_n 0, 1) := by decide +kernel
theorem dX4_readItem_83 : decode cX4_readItem 83 = .ok (.invokevirtual 109, 3) := by decide +kernel
theorem dX4_readItem_86 : decode cX4_readItem 86 = .ok (.goto 21, 3) := by decide +kernel
theorem dX4_readItem_89 : decode cX4_readItem 89 = .ok (.iload_n 1, 1) := by decide +kernel
theorem dX4_readItem_90 : decode cX4_readItem 90 = .ok (.iconst 2, 1) := by decide +kernel
theorem dX4_readItem_91 : decode cX4_readItem 91 = .ok (.if_icmp .ne 11, 3) := by decide +kernel
theorem dX4_readItem_94 : decode cX4_readItem 94 = .ok (.aload_n 0, 1) := by decide +kernel
theorem dX4_readItem_95 : decode cX4_readItem 95 = .ok (.iconst 0, 1) := by decide +kernel
theorem dX4_readItem_96 : decode cX4_readItem 96 = .ok (.invokevirtual 113, 3) := by decide +kernel
theorem dX4_readItem_99 : decode cX4_readItem 99 = .ok (.goto 8, 3) := by decide +kernel
theorem dX4_readItem_102 : decode cX4_readItem 102 = .ok (.aload_n 0, 1) := by decide +kernel
theorem dX4_readItem_103 : decode cX4_readItem 103 = .ok (.iconst 0, 1) := by decide +kernel
theorem dX4_readItem_104 : decode cX4_readItem 104 = .ok (.invokevirtual 60, 3) := by decide +kernel
theorem dX4_readItem_107 : decode cX4_readItem 107 = .ok (.istore 4, 2) := by decide +kernel
theorem dX4_readItem_109 : decode cX4_readItem 109 = .ok (.iload_n 1, 1) := by decide +kernel
theorem dX4_readItem_110 : decode cX4_readItem 110 = .ok (.iconst 3, 1) := by decide +kernel
theorem dX4_readItem_111 : decode cX4_readItem 111 = .ok (.if_icmp .ne 7, 3) := by decide +kernel
theorem dX4_readItem_114 : decode cX4_readItem 114 = .ok (.aload_n 0, 1) := by decide +kernel
theorem dX4_readItem_115 : decode cX4_readItem 115 = .ok (.invokevirtual 116, 3) := by decide +kernel
theorem dX4_readItem_118 : decode cX4_readItem 118 = .ok (.aload_n 0, 1) := by decide +kernel
theorem dX4_readItem_119 : decode cX4_readItem 119 = .ok (.bipush 36, 2) := by decide +kernel
theorem dX4_readItem_121 : decode cX4_readItem 121 = .ok (.invokevirtual 106, 3) := by decide +kernel
theorem dX4_readItem_124 : decode cX4_readItem 124 = .ok (.aload_n 0, 1) := by decide +kernel
theorem dX4_readItem_125 : decode cX4_readItem 125 = .ok (.getfield 69, 3) := by decide +kernel
theorem dX4_readItem_128 : decode cX4_readItem 128 = .ok (.ifCond .ne 14, 3) := by decide +kernel
theorem dX4_readItem_131 : decode cX4_readItem 131 = .ok (.aload_n 0, 1) := by decide +kernel
theorem dX4_readItem_132 : decode cX4_readItem 132 = .ok (.getfield 19, 3) := by decide +kernel
theorem dX4_readItem_135 : decode cX4_readItem 135 = .ok (.lload_n 2, 1) := by decide +kernel
theorem dX4_readItem_136 : decode cX4_readItem 136 = .ok (.iload_n 1, 1) := by decide +kernel
theorem dX4_readItem_137 : decode cX4_readItem 137 = .ok (.iload 4, 2) := by decide +kernel
theorem dX4_readItem_139 : decode cX4_readItem 139 = .ok (.invokevirtual 119, 3) := by decide +kernel
theorem dX4_readItem_142 : decode cX4_readItem 142 = .ok (.return_, 1) := by decide +kernel
theorem dX4_readNewName_0 : decode cX4_readNewName 0 = .ok (.aload_n 0, 1) := by decide +kernel
theorem dX4_readNewName_1 : decode cX4_readNewName 1 = .ok (.getfield 34, 3) := by decide +kernel
theorem dX4_readNewName_4 : decode cX4_readNewName 4 = .ok (.bipush 51, 2) := by decide +kernel
theorem dX4_readNewName_6 : decode cX4_readNewName 6 = .ok (.if_icmp .ne 27, 3) := by decide +kernel
theorem dX4_readNewName_9 : decode cX4_readNewName 9 = .ok (.aload_n 0, 1) := by decide +kernel
theorem dX4_readNewName_10 : decode cX4_readNewName 10 = .ok (.getfield 19, 3) := by decide +kernel
theorem dX4_readNewName_13 : decode cX4_readNewName 13 = .ok (.aload_n 0, 1) := by decide +kernel
theorem dX4_readNewName_14 : decode cX4_readNewName 14 = .ok (.getfield 95, 3) := by decide +kernel
theorem dX4_readNewName_17 : decode cX4_readNewName 17 = .ok (.invokevirtual 123, 3) := by decide +kernel
theorem dX4_readNewName_20 : decode cX4_readNewName 20 = .ok (.iconst (-1), 1) := by decide +kernel
theorem dX4_readNewName_21 : decode cX4_readNewName 21 = .ok (.if_icmp .eq 12, 3) := by decide +kernel
theorem dX4_readNewName_24 : decode cX4_readNewName 24 = .ok (.aload_n 0, 1) := by decide +kernel
theorem dX4_readNewName_25 : decode cX4_readNewName 25 = .ok (.iconst 3, 1) := by decide +kernel
theorem dX4_readNewName_26 : decode cX4_readNewName 26 = .ok (.aload_n 0, 1) := by decide +kernel
theorem dX4_readNewName_27 : decode cX4_readNewName 27 = .ok (.getfield 53, 3) := by decide +kernel
theorem dX4_readNewName_30 : decode cX4_readNewName 30 = .ok (.invokevirtual 56, 3) := by decide +kernel
theorem dX4_readNewName_33 : decode cX4_readNewName 33 = .ok (.aload_n 0, 1) := by decide +kernel
theorem dX4_readNewName_34 : decode cX4_readNewName 34 = .ok (.bipush 51, 2) := by decide +kernel
theorem dX4_readNewName_36 : decode cX4_readNewName 36 = .ok (.invokevirtual 106, 3) := by decide +kernel
theorem dX4_readNewName_39 : decode cX4_readNewName 39 = .ok (.return_, 1) := by decide +kernel
theorem dX4_readFirstValue_0 : decode cX4_readFirstValue 0 = .ok (.aload_n 0, 1) := by decide +kernel
theorem dX4_readFirstValue_1 : decode cX4_readFirstValue 1 = .ok (.getfield 19, 3) := by decide +kernel
theorem dX4_readFirstValue_4 : decode cX4_readFirstValue 4 = .ok (.getfield 41, 3) := by decide +kernel
theorem dX4_readFirstValue_7 : decode cX4_readFirstValue 7 = .ok (.iconst 0, 1) := by decide +kernel
theorem dX4_readFirstValue_8 : decode cX4_readFirstValue 8 = .ok (.invokevirtual 47, 3) := by decide +kernel
theorem dX4_readFirstValue_11 : decode cX4_readFirstValue 11 = .ok (.istore_n 1, 1) := by decide +kernel
theorem dX4_readFirstValue_12 : decode cX4_readFirstValue 12 = .ok (.aload_n 0, 1) := by decide +kernel
theorem dX4_readFirstValue_13 : decode cX4_readFirstValue 13 = .ok (.getfield 34, 3) := by decide +kernel
theorem dX4_readFirstValue_16 : decode cX4_readFirstValue 16 = .ok (.bipush 40, 2) := by decide +kernel
theorem dX4_readFirstValue_18 : decode cX4_readFirstValue 18 = .ok (.if_icmp .ne 7, 3) := by decide +kernel
theorem dX4_readFirstValue_21 : decode cX4_readFirstValue 21 = .ok (.iconst 1, 1) := by decide +kernel
theorem dX4_readFirstValue_22 : decode cX4_readFirstValue 22 = .ok (.goto 4, 3) := by decide +kernel
theorem dX4_readFirstValue_25 : decode cX4_readFirstValue 25 = .ok (.iconst 0, 1) := by decide +kernel
theorem dX4_readFirstValue_26 : decode cX4_readFirstValue 26 = .ok (.istore_n 2, 1) := by decide +kernel
theorem dX4_readFirstValue_27 : decode cX4_readFirstValue 27 = .ok (.iload_n 2, 1) := by decide +kernel
theorem dX4_readFirstValue_28 : decode cX4_readFirstValue 28 = .ok (.ifCond .eq 7, 3) := by decide +kernel
theorem dX4_readFirstValue_31 : decode cX4_readFirstValue 31 = .ok (.aload_n 0, 1) := by decide +kernel
theorem dX4_readFirstValue_32 : decode cX4_readFirstValue 32 = .ok (.invokevirtual 75, 3) := by decide +kernel
theorem dX4_readFirstValue_35 : decode cX4_readFirstValue 35 = .ok (.aload_n 0, 1) := by decide +kernel
theorem dX4_readFirstValue_36 : decode cX4_readFirstValue 36 = .ok (.getfield 19, 3) := by decide +kernel
theorem dX4_readFirstValue_39 : decode cX4_readFirstValue 39 = .ok (.getfield 127, 3) := by decide +kernel
theorem dX4_readFirstValue_42 : decode cX4_readFirstValue 42 = .ok (.iload_n 1, 1) := by decide +kernel
theorem dX4_readFirstValue_43 : decode cX4_readFirstValue 43 = .ok (.iload_n 2, 1) := by decide +kernel
theorem dX4_readFirstValue_44 : decode cX4_readFirstValue 44 = .ok (.ifCond .eq 11, 3) := by decide +kernel
theorem dX4_readFirstValue_47 : decode cX4_readFirstValue 47 = .ok (.aload_n 0, 1) := by decide +kernel
theorem dX4_readFirstValue_48 : decode cX4_readFirstValue 48 = .ok (.getfield 95, 3) := by decide +kernel
theorem dX4_readFirstValue_51 : decode cX4_readFirstValue 51 = .ok (.lneg, 1) := by decide +kernel
theorem dX4_readFirstValue_52 : decode cX4_readFirstValue 52 = .ok (.goto 7, 3) := by decide +kernel
theorem dX4_readFirstValue_55 : decode cX4_readFirstValue 55 = .ok (.aload_n 0, 1) := by decide +kernel
theorem dX4_readFirstValue_56 : decode cX4_readFirstValue 56 = .ok (.getfield 95, 3) := by decide +kernel
theorem dX4_readFirstValue_59 : decode cX4_readFirstValue 59 = .ok (.invokevirtual 130, 3) := by decide +kernel
theorem dX4_readFirstValue_62 : decode cX4_readFirstValue 62 = .ok (.aload_n 0, 1) := by decide +kernel
theorem dX4_readFirstValue_63 : decode cX4_readFirstValue 63 = .ok (.bipush 52, 2) := by decide +kernel
theorem dX4_readFirstValue_65 : decode cX4_readFirstValue 65 = .ok (.invokevirtual 106, 3) := by decide +kernel
theorem dX4_readFirstValue_68 : decode cX4_readFirstValue 68 = .ok (.iload_n 1, 1) := by decide +kernel
theorem dX4_readFirstValue_69 : decode cX4_readFirstValue 69 = .ok (.ireturn, 1) := by decide +kernel
theorem dX4_readLevel_0 : decode cX4_readLevel 0 = .ok (.iconst 5, 1) := by decide +kernel
theorem dX4_readLevel_1 : decode cX4_readLevel 1 = .ok (.istore_n 1, 1) := by decide +kernel
theorem dX4_readLevel_2 : decode cX4_readLevel 2 = .ok (.aload_n 0, 1) := by decide +kernel
theorem dX4_readLevel_3 : decode cX4_readLevel 3 = .ok (.getfield 34, 3) := by decide +kernel
theorem dX4_readLevel_6 : decode cX4_readLevel 6 = .ok (.iconst 4, 1) := by decide +kernel
theorem dX4_readLevel_7 : decode cX4_readLevel 7 = .ok (.if_icmp .ne 43, 3) := by decide +kernel
theorem dX4_readLevel_10 : decode cX4_readLevel 10 = .ok (.aload_n 0, 1) := by decide +kernel
theorem dX4_readLevel_11 : decode cX4_readLevel 11 = .ok (.invokevirtual 75, 3) := by decide +kernel
theorem dX4_readLevel_14 : decode cX4_readLevel 14 = .ok (.aload_n 0, 1) := by decide +kernel
theorem dX4_readLevel_15 : decode cX4_readLevel 15 = .ok (.getfield 95, 3) := by decide +kernel
theorem dX4_readLevel_18 : decode cX4_readLevel 18 = .ok (.l2i, 1) := by decide +kernel
theorem dX4_readLevel_19 : decode cX4_readLevel 19 = .ok (.istore_n 1, 1) := by decide +kernel
theorem dX4_readLevel_20 : decode cX4_readLevel 20 = .ok (.aload_n 0, 1) := by decide +kernel
theorem dX4_readLevel_21 : decode cX4_readLevel 21 = .ok (.getfield 34, 3) := by decide +kernel
theorem dX4_readLevel_24 : decode cX4_readLevel 24 = .ok (.bipush 52, 2) := by decide +kernel
theorem dX4_readLevel_26 : decode cX4_readLevel 26 = .ok (.if_icmp .ne 18, 3) := by decide +kernel
theorem dX4_readLevel_29 : decode cX4_readLevel 29 = .ok (.iload_n 1, 1) := by decide +kernel
theorem dX4_readLevel_30 : decode cX4_readLevel 30 = .ok (.bipush 9, 2) := by decide +kernel
theorem dX4_readLevel_32 : decode cX4_readLevel 32 = .ok (.if_icmp .le 12, 3) := by decide +kernel
theorem dX4_readLevel_35 : decode cX4_readLevel 35 = .ok (.aload_n 0, 1) := by decide +kernel
theorem dX4_readLevel_36 : decode cX4_readLevel 36 = .ok (.iconst 5, 1) := by decide +kernel
theorem dX4_readLevel_37 : decode cX4_readLevel 37 = .ok (.aload_n 0, 1) := by decide +kernel
theorem dX4_readLevel_38 : decode cX4_readLevel 38 = .ok (.getfield 53, 3) := by decide +kernel
theorem dX4_readLevel_41 : decode cX4_readLevel 41 = .ok (.invokevirtual 56, 3) := by decide +kernel
theorem dX4_readLevel_44 : decode cX4_readLevel 44 = .ok (.aload_n 0, 1) := by decide +kernel
theorem dX4_readLevel_45 : decode cX4_readLevel 45 = .ok (.bipush 52, 2) := by decide +kernel
theorem dX4_readLevel_47 : decode cX4_readLevel 47 = .ok (.invokevirtual 106, 3) := by decide +kernel
theorem dX4_readLevel_50 : decode cX4_readLevel 50 = .ok (.aload_n 0, 1) := by decide +kernel
theorem dX4_readLevel_51 : decode cX4_readLevel 51 = .ok (.getfield 19, 3) := by decide +kernel
theorem dX4_readLevel_54 : decode cX4_readLevel 54 = .ok (.getfield 134, 3) := by decide +kernel
theorem dX4_readLevel_57 : decode cX4_readLevel 57 = .ok (.aload_n 0, 1) := by decide +kernel
theorem dX4_readLevel_58 : decode cX4_readLevel 58 = .ok (.getfield 19, 3) := by decide +kernel
theorem dX4_readLevel_61 : decode cX4_readLevel 61 = .ok (.getfield 41, 3) := by decide +kernel
theorem dX4_readLevel_64 : decode cX4_readLevel 64 = .ok (.iconst 3, 1) := by decide +kernel
theorem dX4_readLevel_65 : decode cX4_readLevel 65 = .ok (.invokevirtual 47, 3) := by decide +kernel
theorem dX4_readLevel_68 : decode cX4_readLevel 68 = .ok (.iload_n 1, 1) := by decide +kernel
theorem dX4_readLevel_69 : decode cX4_readLevel 69 = .ok (.invokevirtual 137, 3) := by decide +kernel
theorem dX4_readLevel_72 : decode cX4_readLevel 72 = .ok (.return_, 1) := by decide +kernel
theorem dX4_readBounds_0 : decode cX4_readBounds 0 = .ok (.aload_n 0, 1) := by decide +kernel
theorem dX4_readBounds_1 : decode cX4_readBounds 1 = .ok (.iconst 0, 1) := by decide +kernel
theorem dX4_readBounds_2 : decode cX4_readBounds 2 = .ok (.putfield 139, 3) := by decide +kernel
theorem dX4_readBounds_5 : decode cX4_readBounds 5 = .ok (.aload_n 0, 1) := by decide +kernel
theorem dX4_readBounds_6 : decode cX4_readBounds 6 = .ok (.ldc 142, 2) := by decide +kernel
theorem dX4_readBounds_8 : decode cX4_readBounds 8 = .ok (.putfield 143, 3) := by decide +kernel
theorem dX4_readBounds_11 : decode cX4_readBounds 11 = .ok (.aload_n 0, 1) := by decide +kernel
theorem dX4_readBounds_12 : decode cX4_readBounds 12 = .ok (.getfield 34, 3) := by decide +kernel
theorem dX4_readBounds_15 : decode cX4_readBounds 15 = .ok (.bipush 34, 2) := by decide +kernel
theorem dX4_readBounds_17 : decode cX4_readBounds 17 = .ok (.if_icmp .ne 116, 3) := by decide +kernel
theorem dX4_readBounds_20 : decode cX4_readBounds 20 = .ok (.aload_n 0, 1) := by decide +kernel
theorem dX4_readBounds_21 : decode cX4_readBounds 21 = .ok (.invokevirtual 75, 3) := by decide +kernel
theorem dX4_readBounds_24 : decode cX4_readBounds 24 = .ok (.aload_n 0, 1) := by decide +kernel
theorem dX4_readBounds_25 : decode cX4_readBounds 25 = .ok (.aload_n 0, 1) := by decide +kernel
theorem dX4_readBounds_26 : decode cX4_readBounds 26 = .ok (.getfield 95, 3) := by decide +kernel
theorem dX4_readBounds_29 : decode cX4_readBounds 29 = .ok (.l2i, 1) := by decide +kernel
theorem dX4_readBounds_30 : decode cX4_readBounds 30 = .ok (.putfield 139, 3) := by decide +kernel
theorem dX4_readBounds_33 : decode cX4_readBounds 33 = .ok (.aload_n 0, 1) := by decide +kernel
theorem dX4_readBounds_34 : decode cX4_readBounds 34 = .ok (.getfield 34, 3) := by decide +kernel
theorem dX4_readBounds_37 : decode cX4_readBounds 37 = .ok (.bipush 52, 2) := by decide +kernel
theorem dX4_readBounds_39 : decode cX4_readBounds 39 = .ok (.if_icmp .ne 22, 3) := by decide +kernel
theorem dX4_readBounds_42 : decode cX4_readBounds 42 = .ok (.aload_n 0, 1) := by decide +kernel
theorem dX4_readBounds_43 : decode cX4_readBounds 43 = .ok (.getfield 139, 3) := by decide +kernel
theorem dX4_readBounds_46 : decode cX4_readBounds 46 = .ok (.sipush 1000, 3) := by decide +kernel
theorem dX4_readBounds_49 : decode cX4_readBounds 49 = .ok (.if_icmp .le 12, 3) := by decide +kernel
theorem dX4_readBounds_52 : decode cX4_readBounds 52 = .ok (.aload_n 0, 1) := by decide +kernel
theorem dX4_readBounds_53 : decode cX4_readBounds 53 = .ok (.iconst 5, 1) := by decide +kernel
theorem dX4_readBounds_54 : decode cX4_readBounds 54 = .ok (.aload_n 0, 1) := by decide +kernel
theorem dX4_readBounds_55 : decode cX4_readBounds 55 = .ok (.getfield 53, 3) := by decide +kernel
theorem dX4_readBounds_58 : decode cX4_readBounds 58 = .ok (.invokevirtual 56, 3) := by decide +kernel
theorem dX4_readBounds_61 : decode cX4_readBounds 61 = .ok (.aload_n 0, 1) := by decide +kernel
theorem dX4_readBounds_62 : decode cX4_readBounds 62 = .ok (.bipush 52, 2) := by decide +kernel
theorem dX4_readBounds_64 : decode cX4_readBounds 64 = .ok (.invokevirtual 106, 3) := by decide +kernel
theorem dX4_readBounds_67 : decode cX4_readBounds 67 = .ok (.aload_n 0, 1) := by decide +kernel
theorem dX4_readBounds_68 : decode cX4_readBounds 68 = .ok (.bipush 50, 2) := by decide +kernel
theorem dX4_readBounds_70 : decode cX4_readBounds 70 = .ok (.invokevirtual 106, 3) := by decide +kernel
theorem dX4_readBounds_73 : decode cX4_readBounds 73 = .ok (.aload_n 0, 1) := by decide +kernel
theorem dX4_readBounds_74 : decode cX4_readBounds 74 = .ok (.aload_n 0, 1) := by decide +kernel
theorem dX4_readBounds_75 : decode cX4_readBounds 75 = .ok (.getfield 95, 3) := by decide +kernel
theorem dX4_readBounds_78 : decode cX4_readBounds 78 = .ok (.l2i, 1) := by decide +kernel
theorem dX4_readBounds_79 : decode cX4_readBounds 79 = .ok (.putfield 143, 3) := by decide +kernel
theorem dX4_readBounds_82 : decode cX4_readBounds 82 = .ok (.aload_n 0, 1) := by decide +kernel
theorem dX4_readBounds_83 : decode cX4_readBounds 83 = .ok (.getfield 34, 3) := by decide +kernel
theorem dX4_readBounds_86 : decode cX4_readBounds 86 = .ok (.bipush 52, 2) := by decide +kernel
theorem dX4_readBounds_88 : decode cX4_readBounds 88 = .ok (.if_icmp .ne 33, 3) := by decide +kernel
theorem dX4_readBounds_91 : decode cX4_readBounds 91 = .ok (.aload_n 0, 1) := by decide +kernel
theorem dX4_readBounds_92 : decode cX4_readBounds 92 = .ok (.getfield 143, 3) := by decide +kernel
theorem dX4_readBounds_95 : decode cX4_readBounds 95 = .ok (.aload_n 0, 1) := by decide +kernel
theorem dX4_readBounds_96 : decode cX4_readBounds 96 = .ok (.getfield 139, 3) := by decide +kernel
theorem dX4_readBounds_99 : decode cX4_readBounds 99 = .ok (.if_icmp .lt 13, 3) := by decide +kernel
theorem dX4_readBounds_102 : decode cX4_readBounds 102 = .ok (.aload_n 0, 1) := by decide +kernel
theorem dX4_readBounds_103 : decode cX4_readBounds 103 = .ok (.getfield 143, 3) := by decide +kernel
theorem dX4_readBounds_106 : decode cX4_readBounds 106 = .ok (.sipush 1000, 3) := by decide +kernel
theorem dX4_readBounds_109 : decode cX4_readBounds 109 = .ok (.if_icmp .le 12, 3) := by decide +kernel
theorem dX4_readBounds_112 : decode cX4_readBounds 112 = .ok (.aload_n 0, 1) := by decide +kernel
theorem dX4_readBounds_113 : decode cX4_readBounds 113 = .ok (.iconst 5, 1) := by decide +kernel
theorem dX4_readBounds_114 : decode cX4_readBounds 114 = .ok (.aload_n 0, 1) := by decide +kernel
theorem dX4_readBounds_115 : decode cX4_readBounds 115 = .ok (.getfield 53, 3) := by decide +kernel
theorem dX4_readBounds_118 : decode cX4_readBounds 118 = .ok (.invokevirtual 56, 3) := by decide +kernel
theorem dX4_readBounds_121 : decode cX4_readBounds 121 = .ok (.aload_n 0, 1) := by decide +kernel
theorem dX4_readBounds_122 : decode cX4_readBounds 122 = .ok (.bipush 52, 2) := by decide +kernel
theorem dX4_readBounds_124 : decode cX4_readBounds 124 = .ok (.invokevirtual 106, 3) := by decide +kernel
theorem dX4_readBounds_127 : decode cX4_readBounds 127 = .ok (.aload_n 0, 1) := by decide +kernel
theorem dX4_readBounds_128 : decode cX4_readBounds 128 = .ok (.bipush 35, 2) := by decide +kernel
theorem dX4_readBounds_130 : decode cX4_readBounds 130 = .ok (.invokevirtual 106, 3) := by decide +kernel
theorem dX4_readBounds_133 : decode cX4_readBounds 133 = .ok (.return_, 1) := by decide +kernel
theorem dX4_formula_0 : decode cX4_formula 0 = .ok (.aload_n 0, 1) := by decide +kernel
theorem dX4_formula_1 : decode cX4_formula 1 = .ok (.getfield 53, 3) := by decide +kernel
theorem dX4_formula_4 : decode cX4_formula 4 = .ok (.istore_n 2, 1) := by decide +kernel
theorem dX4_formula_5 : decode cX4_formula 5 = .ok (.aload_n 0, 1) := by decide +kernel
theorem dX4_formula_6 : decode cX4_formula 6 = .ok (.iload_n 1, 1) := by decide +kernel
theorem dX4_formula_7 : decode cX4_formula 7 = .ok (.invokevirtual 146, 3) := by decide +kernel
theorem dX4_formula_10 : decode cX4_formula 10 = .ok (.istore_n 3, 1) := by decide +kernel
theorem dX4_formula_11 : decode cX4_formula 11 = .ok (.iconst 0, 1) := by decide +kernel
theorem dX4_formula_12 : decode cX4_formula 12 = .ok (.istore 4, 2) := by decide +kernel
theorem dX4_formula_14 : decode cX4_formula 14 = .ok (.iload 4, 2) := by decide +kernel
theorem dX4_formula_16 : decode cX4_formula 16 = .ok (.sipush 400, 3) := by decide +kernel
theorem dX4_formula_19 : decode cX4_formula 19 = .ok (.if_icmp .ge 57, 3) := by decide +kernel
theorem dX4_formula_22 : decode cX4_formula 22 = .ok (.aload_n 0, 1) := by decide +kernel
theorem dX4_formula_23 : decode cX4_formula 23 = .ok (.getfield 34, 3) := by decide +kernel
theorem dX4_formula_26 : decode cX4_formula 26 = .ok (.bipush 14, 2) := by decide +kernel
theorem dX4_formula_28 : decode cX4_formula 28 = .ok (.if_icmp .ne 48, 3) := by decide +kernel
theorem dX4_formula_31 : decode cX4_formula 31 = .ok (.aload_n 0, 1) := by decide +kernel
theorem dX4_formula_32 : decode cX4_formula 32 = .ok (.invokevirtual 75, 3) := by decide +kernel
theorem dX4_formula_35 : decode cX4_formula 35 = .ok (.aload_n 0, 1) := by decide +kernel
theorem dX4_formula_36 : decode cX4_formula 36 = .ok (.iload_n 1, 1) := by decide +kernel
theorem dX4_formula_37 : decode cX4_formula 37 = .ok (.invokevirtual 146, 3) := by decide +kernel
theorem dX4_formula_40 : decode cX4_formula 40 = .ok (.istore 5, 2) := by decide +kernel
theorem dX4_formula_42 : decode cX4_formula 42 = .ok (.aload_n 0, 1) := by decide +kernel
theorem dX4_formula_43 : decode cX4_formula 43 = .ok (.getfield 15, 3) := by decide +kernel
theorem dX4_formula_46 : decode cX4_formula 46 = .ok (.aload_n 0, 1) := by decide +kernel
theorem dX4_formula_47 : decode cX4_formula 47 = .ok (.getfield 34, 3) := by decide +kernel
theorem dX4_formula_50 : decode cX4_formula 50 = .ok (.bipush 14, 2) := by decide +kernel
theorem dX4_formula_52 : decode cX4_formula 52 = .ok (.if_icmp .ne 8, 3) := by decide +kernel
theorem dX4_formula_55 : decode cX4_formula 55 = .ok (.bipush 12, 2) := by decide +kernel
theorem dX4_formula_57 : decode cX4_formula 57 = .ok (.goto 5, 3) := by decide +kernel
theorem dX4_formula_60 : decode cX4_formula 60 = .ok (.bipush 14, 2) := by decide +kernel
theorem dX4_formula_62 : decode cX4_formula 62 = .ok (.iload_n 2, 1) := by decide +kernel
theorem dX4_formula_63 : decode cX4_formula 63 = .ok (.iload_n 3, 1) := by decide +kernel
theorem dX4_formula_64 : decode cX4_formula 64 = .ok (.iload 5, 2) := by decide +kernel
theorem dX4_formula_66 : decode cX4_formula 66 = .ok (.invokevirtual 149, 3) := by decide +kernel
theorem dX4_formula_69 : decode cX4_formula 69 = .ok (.istore_n 3, 1) := by decide +kernel
theorem dX4_formula_70 : decode cX4_formula 70 = .ok (.iinc 4 1, 3) := by decide +kernel
theorem dX4_formula_73 : decode cX4_formula 73 = .ok (.goto (-59), 3) := by decide +kernel
theorem dX4_formula_76 : decode cX4_formula 76 = .ok (.iload_n 3, 1) := by decide +kernel
theorem dX4_formula_77 : decode cX4_formula 77 = .ok (.ireturn, 1) := by decide +kernel
theorem dX4_either_0 : decode cX4_either 0 = .ok (.aload_n 0, 1) := by decide +kernel
theorem dX4_either_1 : decode cX4_either 1 = .ok (.getfield 53, 3) := by decide +kernel
theorem dX4_either_4 : decode cX4_either 4 = .ok (.istore_n 2, 1) := by decide +kernel
theorem dX4_either_5 : decode cX4_either 5 = .ok (.aload_n 0, 1) := by decide +kernel
theorem dX4_either_6 : decode cX4_either 6 = .ok (.iload_n 1, 1) := by decide +kernel
theorem dX4_either_7 : decode cX4_either 7 = .ok (.invokevirtual 152, 3) := by decide +kernel
theorem dX4_either_10 : decode cX4_either 10 = .ok (.istore_n 3, 1) := by decide +kernel
theorem dX4_either_11 : decode cX4_either 11 = .ok (.iconst 0, 1) := by decide +kernel
theorem dX4_either_12 : decode cX4_either 12 = .ok (.istore 4, 2) := by decide +kernel
theorem dX4_either_14 : decode cX4_either 14 = .ok (.iload 4, 2) := by decide +kernel
theorem dX4_either_16 : decode cX4_either 16 = .ok (.sipush 400, 3) := by decide +kernel
theorem dX4_either_19 : decode cX4_either 19 = .ok (.if_icmp .ge 43, 3) := by decide +kernel
theorem dX4_either_22 : decode cX4_either 22 = .ok (.aload_n 0, 1) := by decide +kernel
theorem dX4_either_23 : decode cX4_either 23 = .ok (.getfield 34, 3) := by decide +kernel
theorem dX4_either_26 : decode cX4_either 26 = .ok (.bipush 13, 2) := by decide +kernel
theorem dX4_either_28 : decode cX4_either 28 = .ok (.if_icmp .ne 34, 3) := by decide +kernel
theorem dX4_either_31 : decode cX4_either 31 = .ok (.aload_n 0, 1) := by decide +kernel
theorem dX4_either_32 : decode cX4_either 32 = .ok (.invokevirtual 75, 3) := by decide +kernel
theorem dX4_either_35 : decode cX4_either 35 = .ok (.aload_n 0, 1) := by decide +kernel
theorem dX4_either_36 : decode cX4_either 36 = .ok (.iload_n 1, 1) := by decide +kernel
theorem dX4_either_37 : decode cX4_either 37 = .ok (.invokevirtual 152, 3) := by decide +kernel
theorem dX4_either_40 : decode cX4_either 40 = .ok (.istore 5, 2) := by decide +kernel
theorem dX4_either_42 : decode cX4_either 42 = .ok (.aload_n 0, 1) := by decide +kernel
theorem dX4_either_43 : decode cX4_either 43 = .ok (.getfield 15, 3) := by decide +kernel
theorem dX4_either_46 : decode cX4_either 46 = .ok (.bipush 13, 2) := by decide +kernel
theorem dX4_either_48 : decode cX4_either 48 = .ok (.iload_n 2, 1) := by decide +kernel
theorem dX4_either_49 : decode cX4_either 49 = .ok (.iload_n 3, 1) := by decide +kernel
theorem dX4_either_50 : decode cX4_either 50 = .ok (.iload 5, 2) := by decide +kernel
theorem dX4_either_52 : decode cX4_either 52 = .ok (.invokevirtual 149, 3) := by decide +kernel
theorem dX4_either_55 : decode cX4_either 55 = .ok (.istore_n 3, 1) := by decide +kernel
theorem dX4_either_56 : decode cX4_either 56 = .ok (.iinc 4 1, 3) := by decide +kernel
theorem dX4_either_59 : decode cX4_either 59 = .ok (.goto (-45), 3) := by decide +kernel
theorem dX4_either_62 : decode cX4_either 62 = .ok (.iload_n 3, 1) := by decide +kernel
theorem dX4_either_63 : decode cX4_either 63 = .ok (.ireturn, 1) := by decide +kernel
theorem dX4_both_0 : decode cX4_both 0 = .ok (.aload_n 0, 1) := by decide +kernel
theorem dX4_both_1 : decode cX4_both 1 = .ok (.getfield 53, 3) := by decide +kernel
theorem dX4_both_4 : decode cX4_both 4 = .ok (.istore_n 2, 1) := by decide +kernel
theorem dX4_both_5 : decode cX4_both 5 = .ok (.aload_n 0, 1) := by decide +kernel
theorem dX4_both_6 : decode cX4_both 6 = .ok (.iload_n 1, 1) := by decide +kernel
theorem dX4_both_7 : decode cX4_both 7 = .ok (.invokevirtual 155, 3) := by decide +kernel
theorem dX4_both_10 : decode cX4_both 10 = .ok (.istore_n 3, 1) := by decide +kernel
theorem dX4_both_11 : decode cX4_both 11 = .ok (.iconst 0, 1) := by decide +kernel
theorem dX4_both_12 : decode cX4_both 12 = .ok (.istore 4, 2) := by decide +kernel
theorem dX4_both_14 : decode cX4_both 14 = .ok (.iload 4, 2) := by decide +kernel
theorem dX4_both_16 : decode cX4_both 16 = .ok (.sipush 400, 3) := by decide +kernel
theorem dX4_both_19 : decode cX4_both 19 = .ok (.if_icmp .ge 43, 3) := by decide +kernel
theorem dX4_both_22 : decode cX4_both 22 = .ok (.aload_n 0, 1) := by decide +kernel
theorem dX4_both_23 : decode cX4_both 23 = .ok (.getfield 34, 3) := by decide +kernel
theorem dX4_both_26 : decode cX4_both 26 = .ok (.bipush 12, 2) := by decide +kernel
theorem dX4_both_28 : decode cX4_both 28 = .ok (.if_icmp .ne 34, 3) := by decide +kernel
theorem dX4_both_31 : decode cX4_both 31 = .ok (.aload_n 0, 1) := by decide +kernel
theorem dX4_both_32 : decode cX4_both 32 = .ok (.invokevirtual 75, 3) := by decide +kernel
theorem dX4_both_35 : decode cX4_both 35 = .ok (.aload_n 0, 1) := by decide +kernel
theorem dX4_both_36 : decode cX4_both 36 = .ok (.iload_n 1, 1) := by decide +kernel
theorem dX4_both_37 : decode cX4_both 37 = .ok (.invokevirtual 155, 3) := by decide +kernel
theorem dX4_both_40 : decode cX4_both 40 = .ok (.istore 5, 2) := by decide +kernel
theorem dX4_both_42 : decode cX4_both 42 = .ok (.aload_n 0, 1) := by decide +kernel
theorem dX4_both_43 : decode cX4_both 43 = .ok (.getfield 15, 3) := by decide +kernel
theorem dX4_both_46 : decode cX4_both 46 = .ok (.bipush 12, 2) := by decide +kernel
theorem dX4_both_48 : decode cX4_both 48 = .ok (.iload_n 2, 1) := by decide +kernel
theorem dX4_both_49 : decode cX4_both 49 = .ok (.iload_n 3, 1) := by decide +kernel
theorem dX4_both_50 : decode cX4_both 50 = .ok (.iload 5, 2) := by decide +kernel
theorem dX4_both_52 : decode cX4_both 52 = .ok (.invokevirtual 149, 3) := by decide +kernel
theorem dX4_both_55 : decode cX4_both 55 = .ok (.istore_n 3, 1) := by decide +kernel
theorem dX4_both_56 : decode cX4_both 56 = .ok (.iinc 4 1, 3) := by decide +kernel
theorem dX4_both_59 : decode cX4_both 59 = .ok (.goto (-45), 3) := by decide +kernel
theorem dX4_both_62 : decode cX4_both 62 = .ok (.iload_n 3, 1) := by decide +kernel
theorem dX4_both_63 : decode cX4_both 63 = .ok (.ireturn, 1) := by decide +kernel
theorem dX4_since_0 : decode cX4_since 0 = .ok (.aload_n 0, 1) := by decide +kernel
theorem dX4_since_1 : decode cX4_since 1 = .ok (.getfield 53, 3) := by decide +kernel
theorem dX4_since_4 : decode cX4_since 4 = .ok (.istore_n 2, 1) := by decide +kernel
theorem dX4_since_5 : decode cX4_since 5 = .ok (.aload_n 0, 1) := by decide +kernel
theorem dX4_since_6 : decode cX4_since 6 = .ok (.iload_n 1, 1) := by decide +kernel
theorem dX4_since_7 : decode cX4_since 7 = .ok (.invokevirtual 158, 3) := by decide +kernel
theorem dX4_since_10 : decode cX4_since 10 = .ok (.istore_n 3, 1) := by decide +kernel
theorem dX4_since_11 : decode cX4_since 11 = .ok (.aload_n 0, 1) := by decide +kernel
theorem dX4_since_12 : decode cX4_since 12 = .ok (.getfield 34, 3) := by decide +kernel
theorem dX4_since_15 : decode cX4_since 15 = .ok (.bipush 11, 2) := by decide +kernel
theorem dX4_since_17 : decode cX4_since 17 = .ok (.if_icmp .eq 5, 3) := by decide +kernel
theorem dX4_since_20 : decode cX4_since 20 = .ok (.iload_n 3, 1) := by decide +kernel
theorem dX4_since_21 : decode cX4_since 21 = .ok (.ireturn, 1) := by decide +kernel
theorem dX4_since_22 : decode cX4_since 22 = .ok (.aload_n 0, 1) := by decide +kernel
theorem dX4_since_23 : decode cX4_since 23 = .ok (.invokevirtual 75, 3) := by decide +kernel
theorem dX4_since_26 : decode cX4_since 26 = .ok (.aload_n 0, 1) := by decide +kernel
theorem dX4_since_27 : decode cX4_since 27 = .ok (.invokevirtual 161, 3) := by decide +kernel
theorem dX4_since_30 : decode cX4_since 30 = .ok (.aload_n 0, 1) := by decide +kernel
theorem dX4_since_31 : decode cX4_since 31 = .ok (.getfield 139, 3) := by decide +kernel
theorem dX4_since_34 : decode cX4_since 34 = .ok (.istore 4, 2) := by decide +kernel
theorem dX4_since_36 : decode cX4_since 36 = .ok (.aload_n 0, 1) := by decide +kernel
theorem dX4_since_37 : decode cX4_since 37 = .ok (.getfield 143, 3) := by decide +kernel
theorem dX4_since_40 : decode cX4_since 40 = .ok (.istore 5, 2) := by decide +kernel
theorem dX4_since_42 : decode cX4_since 42 = .ok (.aload_n 0, 1) := by decide +kernel
theorem dX4_since_43 : decode cX4_since 43 = .ok (.iload_n 1, 1) := by decide +kernel
theorem dX4_since_44 : decode cX4_since 44 = .ok (.invokevirtual 158, 3) := by decide +kernel
theorem dX4_since_47 : decode cX4_since 47 = .ok (.istore 6, 2) := by decide +kernel
theorem dX4_since_49 : decode cX4_since 49 = .ok (.aload_n 0, 1) := by decide +kernel
theorem dX4_since_50 : decode cX4_since 50 = .ok (.getfield 15, 3) := by decide +kernel
theorem dX4_since_53 : decode cX4_since 53 = .ok (.bipush 11, 2) := by decide +kernel
theorem dX4_since_55 : decode cX4_since 55 = .ok (.iload_n 2, 1) := by decide +kernel
theorem dX4_since_56 : decode cX4_since 56 = .ok (.iload_n 3, 1) := by decide +kernel
theorem dX4_since_57 : decode cX4_since 57 = .ok (.iload 6, 2) := by decide +kernel
theorem dX4_since_59 : decode cX4_since 59 = .ok (.invokevirtual 149, 3) := by decide +kernel
theorem dX4_since_62 : decode cX4_since 62 = .ok (.istore 7, 2) := by decide +kernel
theorem dX4_since_64 : decode cX4_since 64 = .ok (.aload_n 0, 1) := by decide +kernel
theorem dX4_since_65 : decode cX4_since 65 = .ok (.getfield 15, 3) := by decide +kernel
theorem dX4_since_68 : decode cX4_since 68 = .ok (.iload 7, 2) := by decide +kernel
theorem dX4_since_70 : decode cX4_since 70 = .ok (.iload 4, 2) := by decide +kernel
theorem dX4_since_72 : decode cX4_since 72 = .ok (.iload 5, 2) := by decide +kernel
theorem dX4_since_74 : decode cX4_since 74 = .ok (.invokevirtual 164, 3) := by decide +kernel
theorem dX4_since_77 : decode cX4_since 77 = .ok (.iload 7, 2) := by decide +kernel
theorem dX4_since_79 : decode cX4_since 79 = .ok (.ireturn, 1) := by decide +kernel
theorem dX4_one_0 : decode cX4_one 0 = .ok (.aload_n 0, 1) := by decide +kernel
theorem dX4_one_1 : decode cX4_one 1 = .ok (.getfield 34, 3) := by decide +kernel
theorem dX4_one_4 : decode cX4_one 4 = .ok (.tableswitch 151 5 32 #[128, 128, 128, 128, 128, 128, 151, 151, 151, 151, 146, 140, 140, 151, 151, 151, 151, 151, 151, 151, 151, 151, 151, 151, 151, 151, 151, 134], 128) := by decide +kernel
theorem dX4_one_132 : decode cX4_one 132 = .ok (.aload_n 0, 1) := by decide +kernel
theorem dX4_one_133 : decode cX4_one 133 = .ok (.iload_n 1, 1) := by decide +kernel
theorem dX4_one_134 : decode cX4_one 134 = .ok (.invokevirtual 168, 3) := by decide +kernel
theorem dX4_one_137 : decode cX4_one 137 = .ok (.ireturn, 1) := by decide +kernel
theorem dX4_one_138 : decode cX4_one 138 = .ok (.aload_n 0, 1) := by decide +kernel
theorem dX4_one_139 : decode cX4_one 139 = .ok (.iload_n 1, 1) := by decide +kernel
theorem dX4_one_140 : decode cX4_one 140 = .ok (.invokevirtual 171, 3) := by decide +kernel
theorem dX4_one_143 : decode cX4_one 143 = .ok (.ireturn, 1) := by decide +kernel
theorem dX4_one_144 : decode cX4_one 144 = .ok (.aload_n 0, 1) := by decide +kernel
theorem dX4_one_145 : decode cX4_one 145 = .ok (.iconst 0, 1) := by decide +kernel
theorem dX4_one_146 : decode cX4_one 146 = .ok (.invokevirtual 174, 3) := by decide +kernel
theorem dX4_one_149 : decode cX4_one 149 = .ok (.ireturn, 1) := by decide +kernel
theorem dX4_one_150 : decode cX4_one 150 = .ok (.aload_n 0, 1) := by decide +kernel
theorem dX4_one_151 : decode cX4_one 151 = .ok (.invokevirtual 177, 3) := by decide +kernel
theorem dX4_one_154 : decode cX4_one 154 = .ok (.ireturn, 1) := by decide +kernel
theorem dX4_one_155 : decode cX4_one 155 = .ok (.aload_n 0, 1) := by decide +kernel
theorem dX4_one_156 : decode cX4_one 156 = .ok (.iload_n 1, 1) := by decide +kernel
theorem dX4_one_157 : decode cX4_one 157 = .ok (.invokevirtual 180, 3) := by decide +kernel
theorem dX4_one_160 : decode cX4_one 160 = .ok (.ireturn, 1) := by decide +kernel
theorem dX4_prefixed_0 : decode cX4_prefixed 0 = .ok (.aload_n 0, 1) := by decide +kernel
theorem dX4_prefixed_1 : decode cX4_prefixed 1 = .ok (.getfield 34, 3) := by decide +kernel
theorem dX4_prefixed_4 : decode cX4_prefixed 4 = .ok (.istore_n 2, 1) := by decide +kernel
theorem dX4_prefixed_5 : decode cX4_prefixed 5 = .ok (.aload_n 0, 1) := by decide +kernel
theorem dX4_prefixed_6 : decode cX4_prefixed 6 = .ok (.getfield 53, 3) := by decide +kernel
theorem dX4_prefixed_9 : decode cX4_prefixed 9 = .ok (.istore_n 3, 1) := by decide +kernel
theorem dX4_prefixed_10 : decode cX4_prefixed 10 = .ok (.aload_n 0, 1) := by decide +kernel
theorem dX4_prefixed_11 : decode cX4_prefixed 11 = .ok (.iload_n 1, 1) := by decide +kernel
theorem dX4_prefixed_12 : decode cX4_prefixed 12 = .ok (.invokevirtual 183, 3) := by decide +kernel
theorem dX4_prefixed_15 : decode cX4_prefixed 15 = .ok (.aload_n 0, 1) := by decide +kernel
theorem dX4_prefixed_16 : decode cX4_prefixed 16 = .ok (.iconst 0, 1) := by decide +kernel
theorem dX4_prefixed_17 : decode cX4_prefixed 17 = .ok (.putfield 139, 3) := by decide +kernel
theorem dX4_prefixed_20 : decode cX4_prefixed 20 = .ok (.aload_n 0, 1) := by decide +kernel
theorem dX4_prefixed_21 : decode cX4_prefixed 21 = .ok (.ldc 142, 2) := by decide +kernel
theorem dX4_prefixed_23 : decode cX4_prefixed 23 = .ok (.putfield 143, 3) := by decide +kernel
theorem dX4_prefixed_26 : decode cX4_prefixed 26 = .ok (.iload_n 2, 1) := by decide +kernel
theorem dX4_prefixed_27 : decode cX4_prefixed 27 = .ok (.bipush 9, 2) := by decide +kernel
theorem dX4_prefixed_29 : decode cX4_prefixed 29 = .ok (.if_icmp .eq 9, 3) := by decide +kernel
theorem dX4_prefixed_32 : decode cX4_prefixed 32 = .ok (.iload_n 2, 1) := by decide +kernel
theorem dX4_prefixed_33 : decode cX4_prefixed 33 = .ok (.bipush 10, 2) := by decide +kernel
theorem dX4_prefixed_35 : decode cX4_prefixed 35 = .ok (.if_icmp .ne 7, 3) := by decide +kernel
theorem dX4_prefixed_38 : decode cX4_prefixed 38 = .ok (.aload_n 0, 1) := by decide +kernel
theorem dX4_prefixed_39 : decode cX4_prefixed 39 = .ok (.invokevirtual 161, 3) := by decide +kernel
theorem dX4_prefixed_42 : decode cX4_prefixed 42 = .ok (.aload_n 0, 1) := by decide +kernel
theorem dX4_prefixed_43 : decode cX4_prefixed 43 = .ok (.getfield 139, 3) := by decide +kernel
theorem dX4_prefixed_46 : decode cX4_prefixed 46 = .ok (.istore 4, 2) := by decide +kernel
theorem dX4_prefixed_48 : decode cX4_prefixed 48 = .ok (.aload_n 0, 1) := by decide +kernel
theorem dX4_prefixed_49 : decode cX4_prefixed 49 = .ok (.getfield 143, 3) := by decide +kernel
theorem dX4_prefixed_52 : decode cX4_prefixed 52 = .ok (.istore 5, 2) := by decide +kernel
theorem dX4_prefixed_54 : decode cX4_prefixed 54 = .ok (.aload_n 0, 1) := by decide +kernel
theorem dX4_prefixed_55 : decode cX4_prefixed 55 = .ok (.iload_n 1, 1) := by decide +kernel
theorem dX4_prefixed_56 : decode cX4_prefixed 56 = .ok (.iconst 1, 1) := by decide +kernel
theorem dX4_prefixed_57 : decode cX4_prefixed 57 = .ok (.iadd, 1) := by decide +kernel
theorem dX4_prefixed_58 : decode cX4_prefixed 58 = .ok (.invokevirtual 158, 3) := by decide +kernel
theorem dX4_prefixed_61 : decode cX4_prefixed 61 = .ok (.istore 6, 2) := by decide +kernel
theorem dX4_prefixed_63 : decode cX4_prefixed 63 = .ok (.aload_n 0, 1) := by decide +kernel
theorem dX4_prefixed_64 : decode cX4_prefixed 64 = .ok (.getfield 15, 3) := by decide +kernel
theorem dX4_prefixed_67 : decode cX4_prefixed 67 = .ok (.iload_n 2, 1) := by decide +kernel
theorem dX4_prefixed_68 : decode cX4_prefixed 68 = .ok (.iload_n 3, 1) := by decide +kernel
theorem dX4_prefixed_69 : decode cX4_prefixed 69 = .ok (.iload 6, 2) := by decide +kernel
theorem dX4_prefixed_71 : decode cX4_prefixed 71 = .ok (.iconst (-1), 1) := by decide +kernel
theorem dX4_prefixed_72 : decode cX4_prefixed 72 = .ok (.invokevirtual 149, 3) := by decide +kernel
theorem dX4_prefixed_75 : decode cX4_prefixed 75 = .ok (.istore 7, 2) := by decide +kernel
theorem dX4_prefixed_77 : decode cX4_prefixed 77 = .ok (.aload_n 0, 1) := by decide +kernel
theorem dX4_prefixed_78 : decode cX4_prefixed 78 = .ok (.getfield 15, 3) := by decide +kernel
theorem dX4_prefixed_81 : decode cX4_prefixed 81 = .ok (.iload 7, 2) := by decide +kernel
theorem dX4_prefixed_83 : decode cX4_prefixed 83 = .ok (.iload 4, 2) := by decide +kernel
theorem dX4_prefixed_85 : decode cX4_prefixed 85 = .ok (.iload 5, 2) := by decide +kernel
theorem dX4_prefixed_87 : decode cX4_prefixed 87 = .ok (.invokevirtual 164, 3) := by decide +kernel
theorem dX4_prefixed_90 : decode cX4_prefixed 90 = .ok (.iload 7, 2) := by decide +kernel
theorem dX4_prefixed_92 : decode cX4_prefixed 92 = .ok (.ireturn, 1) := by decide +kernel
theorem dX4_braced_0 : decode cX4_braced 0 = .ok (.aload_n 0, 1) := by decide +kernel
theorem dX4_braced_1 : decode cX4_braced 1 = .ok (.getfield 34, 3) := by decide +kernel
theorem dX4_braced_4 : decode cX4_braced 4 = .ok (.bipush 32, 2) := by decide +kernel
theorem dX4_braced_6 : decode cX4_braced 6 = .ok (.if_icmp .eq 9, 3) := by decide +kernel
theorem dX4_braced_9 : decode cX4_braced 9 = .ok (.aload_n 0, 1) := by decide +kernel
theorem dX4_braced_10 : decode cX4_braced 10 = .ok (.invokevirtual 63, 3) := by decide +kernel
theorem dX4_braced_13 : decode cX4_braced 13 = .ok (.iconst (-1), 1) := by decide +kernel
theorem dX4_braced_14 : decode cX4_braced 14 = .ok (.ireturn, 1) := by decide +kernel
theorem dX4_braced_15 : decode cX4_braced 15 = .ok (.aload_n 0, 1) := by decide +kernel
theorem dX4_braced_16 : decode cX4_braced 16 = .ok (.iload_n 1, 1) := by decide +kernel
theorem dX4_braced_17 : decode cX4_braced 17 = .ok (.invokevirtual 183, 3) := by decide +kernel
theorem dX4_braced_20 : decode cX4_braced 20 = .ok (.aload_n 0, 1) := by decide +kernel
theorem dX4_braced_21 : decode cX4_braced 21 = .ok (.iload_n 1, 1) := by decide +kernel
theorem dX4_braced_22 : decode cX4_braced 22 = .ok (.iconst 1, 1) := by decide +kernel
theorem dX4_braced_23 : decode cX4_braced 23 = .ok (.iadd, 1) := by decide +kernel
theorem dX4_braced_24 : decode cX4_braced 24 = .ok (.invokevirtual 60, 3) := by decide +kernel
theorem dX4_braced_27 : decode cX4_braced 27 = .ok (.istore_n 2, 1) := by decide +kernel
theorem dX4_braced_28 : decode cX4_braced 28 = .ok (.aload_n 0, 1) := by decide +kernel
theorem dX4_braced_29 : decode cX4_braced 29 = .ok (.bipush 33, 2) := by decide +kernel
theorem dX4_braced_31 : decode cX4_braced 31 = .ok (.invokevirtual 106, 3) := by decide +kernel
theorem dX4_braced_34 : decode cX4_braced 34 = .ok (.iload_n 2, 1) := by decide +kernel
theorem dX4_braced_35 : decode cX4_braced 35 = .ok (.ireturn, 1) := by decide +kernel
theorem dX4_single_0 : decode cX4_single 0 = .ok (.aload_n 0, 1) := by decide +kernel
theorem dX4_single_1 : decode cX4_single 1 = .ok (.getfield 15, 3) := by decide +kernel
theorem dX4_single_4 : decode cX4_single 4 = .ok (.aload_n 0, 1) := by decide +kernel
theorem dX4_single_5 : decode cX4_single 5 = .ok (.getfield 34, 3) := by decide +kernel
theorem dX4_single_8 : decode cX4_single 8 = .ok (.aload_n 0, 1) := by decide +kernel
theorem dX4_single_9 : decode cX4_single 9 = .ok (.getfield 53, 3) := by decide +kernel
theorem dX4_single_12 : decode cX4_single 12 = .ok (.iload_n 1, 1) := by decide +kernel
theorem dX4_single_13 : decode cX4_single 13 = .ok (.iconst (-1), 1) := by decide +kernel
theorem dX4_single_14 : decode cX4_single 14 = .ok (.invokevirtual 149, 3) := by decide +kernel
theorem dX4_single_17 : decode cX4_single 17 = .ok (.istore_n 2, 1) := by decide +kernel
theorem dX4_single_18 : decode cX4_single 18 = .ok (.aload_n 0, 1) := by decide +kernel
theorem dX4_single_19 : decode cX4_single 19 = .ok (.invokevirtual 75, 3) := by decide +kernel
theorem dX4_single_22 : decode cX4_single 22 = .ok (.iload_n 2, 1) := by decide +kernel
theorem dX4_single_23 : decode cX4_single 23 = .ok (.ireturn, 1) := by decide +kernel
theorem dX4_named_0 : decode cX4_named 0 = .ok (.aload_n 0, 1) := by decide +kernel
theorem dX4_named_1 : decode cX4_named 1 = .ok (.invokevirtual 75, 3) := by decide +kernel
theorem dX4_named_4 : decode cX4_named 4 = .ok (.aload_n 0, 1) := by decide +kernel
theorem dX4_named_5 : decode cX4_named 5 = .ok (.getfield 19, 3) := by decide +kernel
theorem dX4_named_8 : decode cX4_named 8 = .ok (.aload_n 0, 1) := by decide +kernel
theorem dX4_named_9 : decode cX4_named 9 = .ok (.getfield 95, 3) := by decide +kernel
theorem dX4_named_12 : decode cX4_named 12 = .ok (.invokevirtual 123, 3) := by decide +kernel
theorem dX4_named_15 : decode cX4_named 15 = .ok (.istore_n 1, 1) := by decide +kernel
theorem dX4_named_16 : decode cX4_named 16 = .ok (.aload_n 0, 1) := by decide +kernel
theorem dX4_named_17 : decode cX4_named 17 = .ok (.getfield 19, 3) := by decide +kernel
theorem dX4_named_20 : decode cX4_named 20 = .ok (.iload_n 1, 1) := by decide +kernel
theorem dX4_named_21 : decode cX4_named 21 = .ok (.invokevirtual 186, 3) := by decide +kernel
theorem dX4_named_24 : decode cX4_named 24 = .ok (.istore_n 2, 1) := by decide +kernel
theorem dX4_named_25 : decode cX4_named 25 = .ok (.aload_n 0, 1) := by decide +kernel
theorem dX4_named_26 : decode cX4_named 26 = .ok (.getfield 34, 3) := by decide +kernel
theorem dX4_named_29 : decode cX4_named 29 = .ok (.bipush 51, 2) := by decide +kernel
theorem dX4_named_31 : decode cX4_named 31 = .ok (.if_icmp .ne 22, 3) := by decide +kernel
theorem dX4_named_34 : decode cX4_named 34 = .ok (.iload_n 2, 1) := by decide +kernel
theorem dX4_named_35 : decode cX4_named 35 = .ok (.iconst 1, 1) := by decide +kernel
theorem dX4_named_36 : decode cX4_named 36 = .ok (.if_icmp .eq 17, 3) := by decide +kernel
theorem dX4_named_39 : decode cX4_named 39 = .ok (.iload_n 2, 1) := by decide +kernel
theorem dX4_named_40 : decode cX4_named 40 = .ok (.iconst 3, 1) := by decide +kernel
theorem dX4_named_41 : decode cX4_named 41 = .ok (.if_icmp .eq 12, 3) := by decide +kernel
theorem dX4_named_44 : decode cX4_named 44 = .ok (.aload_n 0, 1) := by decide +kernel
theorem dX4_named_45 : decode cX4_named 45 = .ok (.iconst 2, 1) := by decide +kernel
theorem dX4_named_46 : decode cX4_named 46 = .ok (.aload_n 0, 1) := by decide +kernel
theorem dX4_named_47 : decode cX4_named 47 = .ok (.getfield 53, 3) := by decide +kernel
theorem dX4_named_50 : decode cX4_named 50 = .ok (.invokevirtual 56, 3) := by decide +kernel
theorem dX4_named_53 : decode cX4_named 53 = .ok (.aload_n 0, 1) := by decide +kernel
theorem dX4_named_54 : decode cX4_named 54 = .ok (.bipush 51, 2) := by decide +kernel
theorem dX4_named_56 : decode cX4_named 56 = .ok (.invokevirtual 106, 3) := by decide +kernel
theorem dX4_named_59 : decode cX4_named 59 = .ok (.aload_n 0, 1) := by decide +kernel
theorem dX4_named_60 : decode cX4_named 60 = .ok (.getfield 19, 3) := by decide +kernel
theorem dX4_named_63 : decode cX4_named 63 = .ok (.getfield 189, 3) := by decide +kernel
theorem dX4_named_66 : decode cX4_named 66 = .ok (.iload_n 1, 1) := by decide +kernel
theorem dX4_named_67 : decode cX4_named 67 = .ok (.invokevirtual 47, 3) := by decide +kernel
theorem dX4_named_70 : decode cX4_named 70 = .ok (.ireturn, 1) := by decide +kernel
theorem dX4_compare_0 : decode cX4_compare 0 = .ok (.aload_n 0, 1) := by decide +kernel
theorem dX4_compare_1 : decode cX4_compare 1 = .ok (.getfield 53, 3) := by decide +kernel
theorem dX4_compare_4 : decode cX4_compare 4 = .ok (.istore_n 2, 1) := by decide +kernel
theorem dX4_compare_5 : decode cX4_compare 5 = .ok (.aload_n 0, 1) := by decide +kernel
theorem dX4_compare_6 : decode cX4_compare 6 = .ok (.iload_n 1, 1) := by decide +kernel
theorem dX4_compare_7 : decode cX4_compare 7 = .ok (.invokevirtual 113, 3) := by decide +kernel
theorem dX4_compare_10 : decode cX4_compare 10 = .ok (.istore_n 3, 1) := by decide +kernel
theorem dX4_compare_11 : decode cX4_compare 11 = .ok (.aload_n 0, 1) := by decide +kernel
theorem dX4_compare_12 : decode cX4_compare 12 = .ok (.getfield 34, 3) := by decide +kernel
theorem dX4_compare_15 : decode cX4_compare 15 = .ok (.istore 4, 2) := by decide +kernel
theorem dX4_compare_17 : decode cX4_compare 17 = .ok (.iload 4, 2) := by decide +kernel
theorem dX4_compare_19 : decode cX4_compare 19 = .ok (.bipush 44, 2) := by decide +kernel
theorem dX4_compare_21 : decode cX4_compare 21 = .ok (.if_icmp .lt 10, 3) := by decide +kernel
theorem dX4_compare_24 : decode cX4_compare 24 = .ok (.iload 4, 2) := by decide +kernel
theorem dX4_compare_26 : decode cX4_compare 26 = .ok (.bipush 49, 2) := by decide +kernel
theorem dX4_compare_28 : decode cX4_compare 28 = .ok (.if_icmp .le 9, 3) := by decide +kernel
theorem dX4_compare_31 : decode cX4_compare 31 = .ok (.aload_n 0, 1) := by decide +kernel
theorem dX4_compare_32 : decode cX4_compare 32 = .ok (.invokevirtual 63, 3) := by decide +kernel
theorem dX4_compare_35 : decode cX4_compare 35 = .ok (.iconst (-1), 1) := by decide +kernel
theorem dX4_compare_36 : decode cX4_compare 36 = .ok (.ireturn, 1) := by decide +kernel
theorem dX4_compare_37 : decode cX4_compare 37 = .ok (.aload_n 0, 1) := by decide +kernel
theorem dX4_compare_38 : decode cX4_compare 38 = .ok (.invokevirtual 75, 3) := by decide +kernel
theorem dX4_compare_41 : decode cX4_compare 41 = .ok (.aload_n 0, 1) := by decide +kernel
theorem dX4_compare_42 : decode cX4_compare 42 = .ok (.iload_n 1, 1) := by decide +kernel
theorem dX4_compare_43 : decode cX4_compare 43 = .ok (.invokevirtual 113, 3) := by decide +kernel
theorem dX4_compare_46 : decode cX4_compare 46 = .ok (.istore 5, 2) := by decide +kernel
theorem dX4_compare_48 : decode cX4_compare 48 = .ok (.aload_n 0, 1) := by decide +kernel
theorem dX4_compare_49 : decode cX4_compare 49 = .ok (.getfield 15, 3) := by decide +kernel
theorem dX4_compare_52 : decode cX4_compare 52 = .ok (.iload 4, 2) := by decide +kernel
theorem dX4_compare_54 : decode cX4_compare 54 = .ok (.iload_n 2, 1) := by decide +kernel
theorem dX4_compare_55 : decode cX4_compare 55 = .ok (.iload_n 3, 1) := by decide +kernel
theorem dX4_compare_56 : decode cX4_compare 56 = .ok (.iload 5, 2) := by decide +kernel
theorem dX4_compare_58 : decode cX4_compare 58 = .ok (.invokevirtual 149, 3) := by decide +kernel
theorem dX4_compare_61 : decode cX4_compare 61 = .ok (.ireturn, 1) := by decide +kernel
theorem dX4_expression_0 : decode cX4_expression 0 = .ok (.aload_n 0, 1) := by decide +kernel
theorem dX4_expression_1 : decode cX4_expression 1 = .ok (.getfield 53, 3) := by decide +kernel
theorem dX4_expression_4 : decode cX4_expression 4 = .ok (.istore_n 2, 1) := by decide +kernel
theorem dX4_expression_5 : decode cX4_expression 5 = .ok (.aload_n 0, 1) := by decide +kernel
theorem dX4_expression_6 : decode cX4_expression 6 = .ok (.iload_n 1, 1) := by decide +kernel
theorem dX4_expression_7 : decode cX4_expression 7 = .ok (.invokevirtual 192, 3) := by decide +kernel
theorem dX4_expression_10 : decode cX4_expression 10 = .ok (.istore_n 3, 1) := by decide +kernel
theorem dX4_expression_11 : decode cX4_expression 11 = .ok (.iconst 0, 1) := by decide +kernel
theorem dX4_expression_12 : decode cX4_expression 12 = .ok (.istore 4, 2) := by decide +kernel
theorem dX4_expression_14 : decode cX4_expression 14 = .ok (.iload 4, 2) := by decide +kernel
theorem dX4_expression_16 : decode cX4_expression 16 = .ok (.sipush 400, 3) := by decide +kernel
theorem dX4_expression_19 : decode cX4_expression 19 = .ok (.if_icmp .ge 58, 3) := by decide +kernel
theorem dX4_expression_22 : decode cX4_expression 22 = .ok (.aload_n 0, 1) := by decide +kernel
theorem dX4_expression_23 : decode cX4_expression 23 = .ok (.getfield 34, 3) := by decide +kernel
theorem dX4_expression_26 : decode cX4_expression 26 = .ok (.bipush 39, 2) := by decide +kernel
theorem dX4_expression_28 : decode cX4_expression 28 = .ok (.if_icmp .eq 12, 3) := by decide +kernel
theorem dX4_expression_31 : decode cX4_expression 31 = .ok (.aload_n 0, 1) := by decide +kernel
theorem dX4_expression_32 : decode cX4_expression 32 = .ok (.getfield 34, 3) := by decide +kernel
theorem dX4_expression_35 : decode cX4_expression 35 = .ok (.bipush 40, 2) := by decide +kernel
theorem dX4_expression_37 : decode cX4_expression 37 = .ok (.if_icmp .ne 40, 3) := by decide +kernel
theorem dX4_expression_40 : decode cX4_expression 40 = .ok (.aload_n 0, 1) := by decide +kernel
theorem dX4_expression_41 : decode cX4_expression 41 = .ok (.getfield 34, 3) := by decide +kernel
theorem dX4_expression_44 : decode cX4_expression 44 = .ok (.istore 5, 2) := by decide +kernel
theorem dX4_expression_46 : decode cX4_expression 46 = .ok (.aload_n 0, 1) := by decide +kernel
theorem dX4_expression_47 : decode cX4_expression 47 = .ok (.invokevirtual 75, 3) := by decide +kernel
theorem dX4_expression_50 : decode cX4_expression 50 = .ok (.aload_n 0, 1) := by decide +kernel
theorem dX4_expression_51 : decode cX4_expression 51 = .ok (.iload_n 1, 1) := by decide +kernel
theorem dX4_expression_52 : decode cX4_expression 52 = .ok (.invokevirtual 192, 3) := by decide +kernel
theorem dX4_expression_55 : decode cX4_expression 55 = .ok (.istore 6, 2) := by decide +kernel
theorem dX4_expression_57 : decode cX4_expression 57 = .ok (.aload_n 0, 1) := by decide +kernel
theorem dX4_expression_58 : decode cX4_expression 58 = .ok (.getfield 15, 3) := by decide +kernel
theorem dX4_expression_61 : decode cX4_expression 61 = .ok (.iload 5, 2) := by decide +kernel
theorem dX4_expression_63 : decode cX4_expression 63 = .ok (.iload_n 2, 1) := by decide +kernel
theorem dX4_expression_64 : decode cX4_expression 64 = .ok (.iload_n 3, 1) := by decide +kernel
theorem dX4_expression_65 : decode cX4_expression 65 = .ok (.iload 6, 2) := by decide +kernel
theorem dX4_expression_67 : decode cX4_expression 67 = .ok (.invokevirtual 149, 3) := by decide +kernel
theorem dX4_expression_70 : decode cX4_expression 70 = .ok (.istore_n 3, 1) := by decide +kernel
theorem dX4_expression_71 : decode cX4_expression 71 = .ok (.iinc 4 1, 3) := by decide +kernel
theorem dX4_expression_74 : decode cX4_expression 74 = .ok (.goto (-60), 3) := by decide +kernel
theorem dX4_expression_77 : decode cX4_expression 77 = .ok (.iload_n 3, 1) := by decide +kernel
theorem dX4_expression_78 : decode cX4_expression 78 = .ok (.ireturn, 1) := by decide +kernel
theorem dX4_product_0 : decode cX4_product 0 = .ok (.aload_n 0, 1) := by decide +kernel
theorem dX4_product_1 : decode cX4_product 1 = .ok (.getfield 53, 3) := by decide +kernel
theorem dX4_product_4 : decode cX4_product 4 = .ok (.istore_n 2, 1) := by decide +kernel
theorem dX4_product_5 : decode cX4_product 5 = .ok (.aload_n 0, 1) := by decide +kernel
theorem dX4_product_6 : decode cX4_product 6 = .ok (.iload_n 1, 1) := by decide +kernel
theorem dX4_product_7 : decode cX4_product 7 = .ok (.invokevirtual 195, 3) := by decide +kernel
theorem dX4_product_10 : decode cX4_product 10 = .ok (.istore_n 3, 1) := by decide +kernel
theorem dX4_product_11 : decode cX4_product 11 = .ok (.iconst 0, 1) := by decide +kernel
theorem dX4_product_12 : decode cX4_product 12 = .ok (.istore 4, 2) := by decide +kernel
theorem dX4_product_14 : decode cX4_product 14 = .ok (.iload 4, 2) := by decide +kernel
theorem dX4_product_16 : decode cX4_product 16 = .ok (.sipush 400, 3) := by decide +kernel
theorem dX4_product_19 : decode cX4_product 19 = .ok (.if_icmp .ge 58, 3) := by decide +kernel
theorem dX4_product_22 : decode cX4_product 22 = .ok (.aload_n 0, 1) := by decide +kernel
theorem dX4_product_23 : decode cX4_product 23 = .ok (.getfield 34, 3) := by decide +kernel
theorem dX4_product_26 : decode cX4_product 26 = .ok (.bipush 41, 2) := by decide +kernel
theorem dX4_product_28 : decode cX4_product 28 = .ok (.if_icmp .lt 49, 3) := by decide +kernel
theorem dX4_product_31 : decode cX4_product 31 = .ok (.aload_n 0, 1) := by decide +kernel
theorem dX4_product_32 : decode cX4_product 32 = .ok (.getfield 34, 3) := by decide +kernel
theorem dX4_product_35 : decode cX4_product 35 = .ok (.bipush 43, 2) := by decide +kernel
theorem dX4_product_37 : decode cX4_product 37 = .ok (.if_icmp .gt 40, 3) := by decide +kernel
theorem dX4_product_40 : decode cX4_product 40 = .ok (.aload_n 0, 1) := by decide +kernel
theorem dX4_product_41 : decode cX4_product 41 = .ok (.getfield 34, 3) := by decide +kernel
theorem dX4_product_44 : decode cX4_product 44 = .ok (.istore 5, 2) := by decide +kernel
theorem dX4_product_46 : decode cX4_product 46 = .ok (.aload_n 0, 1) := by decide +kernel
theorem dX4_product_47 : decode cX4_product 47 = .ok (.invokevirtual 75, 3) := by decide +kernel
theorem dX4_product_50 : decode cX4_product 50 = .ok (.aload_n 0, 1) := by decide +kernel
theorem dX4_product_51 : decode cX4_product 51 = .ok (.iload_n 1, 1) := by decide +kernel
theorem dX4_product_52 : decode cX4_product 52 = .ok (.invokevirtual 195, 3) := by decide +kernel
theorem dX4_product_55 : decode cX4_product 55 = .ok (.istore 6, 2) := by decide +kernel
theorem dX4_product_57 : decode cX4_product 57 = .ok (.aload_n 0, 1) := by decide +kernel
theorem dX4_product_58 : decode cX4_product 58 = .ok (.getfield 15, 3) := by decide +kernel
theorem dX4_product_61 : decode cX4_product 61 = .ok (.iload 5, 2) := by decide +kernel
theorem dX4_product_63 : decode cX4_product 63 = .ok (.iload_n 2, 1) := by decide +kernel
theorem dX4_product_64 : decode cX4_product 64 = .ok (.iload_n 3, 1) := by decide +kernel
theorem dX4_product_65 : decode cX4_product 65 = .ok (.iload 6, 2) := by decide +kernel
theorem dX4_product_67 : decode cX4_product 67 = .ok (.invokevirtual 149, 3) := by decide +kernel
theorem dX4_product_70 : decode cX4_product 70 = .ok (.istore_n 3, 1) := by decide +kernel
theorem dX4_product_71 : decode cX4_product 71 = .ok (.iinc 4 1, 3) := by decide +kernel
theorem dX4_product_74 : decode cX4_product 74 = .ok (.goto (-60), 3) := by decide +kernel
theorem dX4_product_77 : decode cX4_product 77 = .ok (.iload_n 3, 1) := by decide +kernel
theorem dX4_product_78 : decode cX4_product 78 = .ok (.ireturn, 1) := by decide +kernel
theorem dX4_factor_0 : decode cX4_factor 0 = .ok (.aload_n 0, 1) := by decide +kernel
theorem dX4_factor_1 : decode cX4_factor 1 = .ok (.getfield 34, 3) := by decide +kernel
theorem dX4_factor_4 : decode cX4_factor 4 = .ok (.tableswitch 195 18 52 #[189, 195, 195, 183, 183, 183, 183, 189, 189, 189, 166, 166, 177, 195, 195, 195, 195, 195, 195, 195, 195, 195, 183, 195, 195, 195, 195, 195, 195, 195, 195, 195, 195, 172, 156], 156) := by decide +kernel
theorem dX4_factor_160 : decode cX4_factor 160 = .ok (.aload_n 0, 1) := by decide +kernel
theorem dX4_factor_161 : decode cX4_factor 161 = .ok (.aload_n 0, 1) := by decide +kernel
theorem dX4_factor_162 : decode cX4_factor 162 = .ok (.getfield 95, 3) := by decide +kernel
theorem dX4_factor_165 : decode cX4_factor 165 = .ok (.l2i, 1) := by decide +kernel
theorem dX4_factor_166 : decode cX4_factor 166 = .ok (.invokevirtual 174, 3) := by decide +kernel
theorem dX4_factor_169 : decode cX4_factor 169 = .ok (.ireturn, 1) := by decide +kernel
theorem dX4_factor_170 : decode cX4_factor 170 = .ok (.aload_n 0, 1) := by decide +kernel
theorem dX4_factor_171 : decode cX4_factor 171 = .ok (.iconst 0, 1) := by decide +kernel
theorem dX4_factor_172 : decode cX4_factor 172 = .ok (.invokevirtual 174, 3) := by decide +kernel
theorem dX4_factor_175 : decode cX4_factor 175 = .ok (.ireturn, 1) := by decide +kernel
theorem dX4_factor_176 : decode cX4_factor 176 = .ok (.aload_n 0, 1) := by decide +kernel
theorem dX4_factor_177 : decode cX4_factor 177 = .ok (.invokevirtual 198, 3) := by decide +kernel
theorem dX4_factor_180 : decode cX4_factor 180 = .ok (.ireturn, 1) := by decide +kernel
theorem dX4_factor_181 : decode cX4_factor 181 = .ok (.aload_n 0, 1) := by decide +kernel
theorem dX4_factor_182 : decode cX4_factor 182 = .ok (.iload_n 1, 1) := by decide +kernel
theorem dX4_factor_183 : decode cX4_factor 183 = .ok (.invokevirtual 201, 3) := by decide +kernel
theorem dX4_factor_186 : decode cX4_factor 186 = .ok (.ireturn, 1) := by decide +kernel
theorem dX4_factor_187 : decode cX4_factor 187 = .ok (.aload_n 0, 1) := by decide +kernel
theorem dX4_factor_188 : decode cX4_factor 188 = .ok (.iload_n 1, 1) := by decide +kernel
theorem dX4_factor_189 : decode cX4_factor 189 = .ok (.invokevirtual 204, 3) := by decide +kernel
theorem dX4_factor_192 : decode cX4_factor 192 = .ok (.ireturn, 1) := by decide +kernel
theorem dX4_factor_193 : decode cX4_factor 193 = .ok (.aload_n 0, 1) := by decide +kernel
theorem dX4_factor_194 : decode cX4_factor 194 = .ok (.iload_n 1, 1) := by decide +kernel
theorem dX4_factor_195 : decode cX4_factor 195 = .ok (.invokevirtual 207, 3) := by decide +kernel
theorem dX4_factor_198 : decode cX4_factor 198 = .ok (.ireturn, 1) := by decide +kernel
theorem dX4_factor_199 : decode cX4_factor 199 = .ok (.aload_n 0, 1) := by decide +kernel
theorem dX4_factor_200 : decode cX4_factor 200 = .ok (.invokevirtual 63, 3) := by decide +kernel
theorem dX4_factor_203 : decode cX4_factor 203 = .ok (.iconst (-1), 1) := by decide +kernel
theorem dX4_factor_204 : decode cX4_factor 204 = .ok (.ireturn, 1) := by decide +kernel
theorem dX4_variable_0 : decode cX4_variable 0 = .ok (.aload_n 0, 1) := by decide +kernel
theorem dX4_variable_1 : decode cX4_variable 1 = .ok (.getfield 19, 3) := by decide +kernel
theorem dX4_variable_4 : decode cX4_variable 4 = .ok (.aload_n 0, 1) := by decide +kernel
theorem dX4_variable_5 : decode cX4_variable 5 = .ok (.getfield 95, 3) := by decide +kernel
theorem dX4_variable_8 : decode cX4_variable 8 = .ok (.invokevirtual 123, 3) := by decide +kernel
theorem dX4_variable_11 : decode cX4_variable 11 = .ok (.istore_n 1, 1) := by decide +kernel
theorem dX4_variable_12 : decode cX4_variable 12 = .ok (.aload_n 0, 1) := by decide +kernel
theorem dX4_variable_13 : decode cX4_variable 13 = .ok (.getfield 19, 3) := by decide +kernel
theorem dX4_variable_16 : decode cX4_variable 16 = .ok (.iload_n 1, 1) := by decide +kernel
theorem dX4_variable_17 : decode cX4_variable 17 = .ok (.invokevirtual 186, 3) := by decide +kernel
theorem dX4_variable_20 : decode cX4_variable 20 = .ok (.istore_n 2, 1) := by decide +kernel
theorem dX4_variable_21 : decode cX4_variable 21 = .ok (.iload_n 2, 1) := by decide +kernel
theorem dX4_variable_22 : decode cX4_variable 22 = .ok (.ifCond .ne 34, 3) := by decide +kernel
theorem dX4_variable_25 : decode cX4_variable 25 = .ok (.aload_n 0, 1) := by decide +kernel
theorem dX4_variable_26 : decode cX4_variable 26 = .ok (.getfield 15, 3) := by decide +kernel
theorem dX4_variable_29 : decode cX4_variable 29 = .ok (.iconst 0, 1) := by decide +kernel
theorem dX4_variable_30 : decode cX4_variable 30 = .ok (.aload_n 0, 1) := by decide +kernel
theorem dX4_variable_31 : decode cX4_variable 31 = .ok (.getfield 53, 3) := by decide +kernel
theorem dX4_variable_34 : decode cX4_variable 34 = .ok (.aload_n 0, 1) := by decide +kernel
theorem dX4_variable_35 : decode cX4_variable 35 = .ok (.getfield 19, 3) := by decide +kernel
theorem dX4_variable_38 : decode cX4_variable 38 = .ok (.getfield 189, 3) := by decide +kernel
theorem dX4_variable_41 : decode cX4_variable 41 = .ok (.iload_n 1, 1) := by decide +kernel
theorem dX4_variable_42 : decode cX4_variable 42 = .ok (.invokevirtual 47, 3) := by decide +kernel
theorem dX4_variable_45 : decode cX4_variable 45 = .ok (.iconst (-1), 1) := by decide +kernel
theorem dX4_variable_46 : decode cX4_variable 46 = .ok (.invokevirtual 149, 3) := by decide +kernel
theorem dX4_variable_49 : decode cX4_variable 49 = .ok (.istore_n 3, 1) := by decide +kernel
theorem dX4_variable_50 : decode cX4_variable 50 = .ok (.aload_n 0, 1) := by decide +kernel
theorem dX4_variable_51 : decode cX4_variable 51 = .ok (.invokevirtual 75, 3) := by decide +kernel
theorem dX4_variable_54 : decode cX4_variable 54 = .ok (.iload_n 3, 1) := by decide +kernel
theorem dX4_variable_55 : decode cX4_variable 55 = .ok (.ireturn, 1) := by decide +kernel
theorem dX4_variable_56 : decode cX4_variable 56 = .ok (.iload_n 2, 1) := by decide +kernel
theorem dX4_variable_57 : decode cX4_variable 57 = .ok (.iconst 2, 1) := by decide +kernel
theorem dX4_variable_58 : decode cX4_variable 58 = .ok (.if_icmp .eq 12, 3) := by decide +kernel
theorem dX4_variable_61 : decode cX4_variable 61 = .ok (.aload_n 0, 1) := by decide +kernel
theorem dX4_variable_62 : decode cX4_variable 62 = .ok (.iconst 2, 1) := by decide +kernel
theorem dX4_variable_63 : decode cX4_variable 63 = .ok (.aload_n 0, 1) := by decide +kernel
theorem dX4_variable_64 : decode cX4_variable 64 = .ok (.getfield 53, 3) := by decide +kernel
theorem dX4_variable_67 : decode cX4_variable 67 = .ok (.invokevirtual 56, 3) := by decide +kernel
theorem dX4_variable_70 : decode cX4_variable 70 = .ok (.aload_n 0, 1) := by decide +kernel
theorem dX4_variable_71 : decode cX4_variable 71 = .ok (.invokevirtual 75, 3) := by decide +kernel
theorem dX4_variable_74 : decode cX4_variable 74 = .ok (.aload_n 0, 1) := by decide +kernel
theorem dX4_variable_75 : decode cX4_variable 75 = .ok (.getfield 19, 3) := by decide +kernel
theorem dX4_variable_78 : decode cX4_variable 78 = .ok (.getfield 189, 3) := by decide +kernel
theorem dX4_variable_81 : decode cX4_variable 81 = .ok (.iload_n 1, 1) := by decide +kernel
theorem dX4_variable_82 : decode cX4_variable 82 = .ok (.invokevirtual 47, 3) := by decide +kernel
theorem dX4_variable_85 : decode cX4_variable 85 = .ok (.ireturn, 1) := by decide +kernel
theorem dX4_bracketed_0 : decode cX4_bracketed 0 = .ok (.aload_n 0, 1) := by decide +kernel
theorem dX4_bracketed_1 : decode cX4_bracketed 1 = .ok (.iload_n 1, 1) := by decide +kernel
theorem dX4_bracketed_2 : decode cX4_bracketed 2 = .ok (.invokevirtual 183, 3) := by decide +kernel
theorem dX4_bracketed_5 : decode cX4_bracketed 5 = .ok (.aload_n 0, 1) := by decide +kernel
theorem dX4_bracketed_6 : decode cX4_bracketed 6 = .ok (.iload_n 1, 1) := by decide +kernel
theorem dX4_bracketed_7 : decode cX4_bracketed 7 = .ok (.iconst 1, 1) := by decide +kernel
theorem dX4_bracketed_8 : decode cX4_bracketed 8 = .ok (.iadd, 1) := by decide +kernel
theorem dX4_bracketed_9 : decode cX4_bracketed 9 = .ok (.invokevirtual 113, 3) := by decide +kernel
theorem dX4_bracketed_12 : decode cX4_bracketed 12 = .ok (.istore_n 2, 1) := by decide +kernel
theorem dX4_bracketed_13 : decode cX4_bracketed 13 = .ok (.aload_n 0, 1) := by decide +kernel
theorem dX4_bracketed_14 : decode cX4_bracketed 14 = .ok (.bipush 31, 2) := by decide +kernel
theorem dX4_bracketed_16 : decode cX4_bracketed 16 = .ok (.invokevirtual 106, 3) := by decide +kernel
theorem dX4_bracketed_19 : decode cX4_bracketed 19 = .ok (.iload_n 2, 1) := by decide +kernel
theorem dX4_bracketed_20 : decode cX4_bracketed 20 = .ok (.ireturn, 1) := by decide +kernel
theorem dX4_prefixedFactor_0 : decode cX4_prefixedFactor 0 = .ok (.aload_n 0, 1) := by decide +kernel
theorem dX4_prefixedFactor_1 : decode cX4_prefixedFactor 1 = .ok (.getfield 34, 3) := by decide +kernel
theorem dX4_prefixedFactor_4 : decode cX4_prefixedFactor 4 = .ok (.bipush 40, 2) := by decide +kernel
theorem dX4_prefixedFactor_6 : decode cX4_prefixedFactor 6 = .ok (.if_icmp .ne 8, 3) := by decide +kernel
theorem dX4_prefixedFactor_9 : decode cX4_prefixedFactor 9 = .ok (.bipush 55, 2) := by decide +kernel
theorem dX4_prefixedFactor_11 : decode cX4_prefixedFactor 11 = .ok (.goto 7, 3) := by decide +kernel
theorem dX4_prefixedFactor_14 : decode cX4_prefixedFactor 14 = .ok (.aload_n 0, 1) := by decide +kernel
theorem dX4_prefixedFactor_15 : decode cX4_prefixedFactor 15 = .ok (.getfield 34, 3) := by decide +kernel
theorem dX4_prefixedFactor_18 : decode cX4_prefixedFactor 18 = .ok (.istore_n 2, 1) := by decide +kernel
theorem dX4_prefixedFactor_19 : decode cX4_prefixedFactor 19 = .ok (.aload_n 0, 1) := by decide +kernel
theorem dX4_prefixedFactor_20 : decode cX4_prefixedFactor 20 = .ok (.getfield 53, 3) := by decide +kernel
theorem dX4_prefixedFactor_23 : decode cX4_prefixedFactor 23 = .ok (.istore_n 3, 1) := by decide +kernel
theorem dX4_prefixedFactor_24 : decode cX4_prefixedFactor 24 = .ok (.aload_n 0, 1) := by decide +kernel
theorem dX4_prefixedFactor_25 : decode cX4_prefixedFactor 25 = .ok (.iload_n 1, 1) := by decide +kernel
theorem dX4_prefixedFactor_26 : decode cX4_prefixedFactor 26 = .ok (.invokevirtual 183, 3) := by decide +kernel
theorem dX4_prefixedFactor_29 : decode cX4_prefixedFactor 29 = .ok (.aload_n 0, 1) := by decide +kernel
theorem dX4_prefixedFactor_30 : decode cX4_prefixedFactor 30 = .ok (.iload_n 1, 1) := by decide +kernel
theorem dX4_prefixedFactor_31 : decode cX4_prefixedFactor 31 = .ok (.iconst 1, 1) := by decide +kernel
theorem dX4_prefixedFactor_32 : decode cX4_prefixedFactor 32 = .ok (.iadd, 1) := by decide +kernel
theorem dX4_prefixedFactor_33 : decode cX4_prefixedFactor 33 = .ok (.invokevirtual 195, 3) := by decide +kernel
theorem dX4_prefixedFactor_36 : decode cX4_prefixedFactor 36 = .ok (.istore 4, 2) := by decide +kernel
theorem dX4_prefixedFactor_38 : decode cX4_prefixedFactor 38 = .ok (.aload_n 0, 1) := by decide +kernel
theorem dX4_prefixedFactor_39 : decode cX4_prefixedFactor 39 = .ok (.getfield 15, 3) := by decide +kernel
theorem dX4_prefixedFactor_42 : decode cX4_prefixedFactor 42 = .ok (.iload_n 2, 1) := by decide +kernel
theorem dX4_prefixedFactor_43 : decode cX4_prefixedFactor 43 = .ok (.iload_n 3, 1) := by decide +kernel
theorem dX4_prefixedFactor_44 : decode cX4_prefixedFactor 44 = .ok (.iload 4, 2) := by decide +kernel
theorem dX4_prefixedFactor_46 : decode cX4_prefixedFactor 46 = .ok (.iconst (-1), 1) := by decide +kernel
theorem dX4_prefixedFactor_47 : decode cX4_prefixedFactor 47 = .ok (.invokevirtual 149, 3) := by decide +kernel
theorem dX4_prefixedFactor_50 : decode cX4_prefixedFactor 50 = .ok (.ireturn, 1) := by decide +kernel
theorem dX4_factorOfFormula_0 : decode cX4_factorOfFormula 0 = .ok (.aload_n 0, 1) := by decide +kernel
theorem dX4_factorOfFormula_1 : decode cX4_factorOfFormula 1 = .ok (.getfield 34, 3) := by decide +kernel
theorem dX4_factorOfFormula_4 : decode cX4_factorOfFormula 4 = .ok (.istore_n 2, 1) := by decide +kernel
theorem dX4_factorOfFormula_5 : decode cX4_factorOfFormula 5 = .ok (.aload_n 0, 1) := by decide +kernel
theorem dX4_factorOfFormula_6 : decode cX4_factorOfFormula 6 = .ok (.getfield 53, 3) := by decide +kernel
theorem dX4_factorOfFormula_9 : decode cX4_factorOfFormula 9 = .ok (.istore_n 3, 1) := by decide +kernel
theorem dX4_factorOfFormula_10 : decode cX4_factorOfFormula 10 = .ok (.aload_n 0, 1) := by decide +kernel
theorem dX4_factorOfFormula_11 : decode cX4_factorOfFormula 11 = .ok (.invokevirtual 75, 3) := by decide +kernel
theorem dX4_factorOfFormula_14 : decode cX4_factorOfFormula 14 = .ok (.aload_n 0, 1) := by decide +kernel
theorem dX4_factorOfFormula_15 : decode cX4_factorOfFormula 15 = .ok (.iload_n 1, 1) := by decide +kernel
theorem dX4_factorOfFormula_16 : decode cX4_factorOfFormula 16 = .ok (.invokevirtual 171, 3) := by decide +kernel
theorem dX4_factorOfFormula_19 : decode cX4_factorOfFormula 19 = .ok (.istore 4, 2) := by decide +kernel
theorem dX4_factorOfFormula_21 : decode cX4_factorOfFormula 21 = .ok (.iconst (-1), 1) := by decide +kernel
theorem dX4_factorOfFormula_22 : decode cX4_factorOfFormula 22 = .ok (.istore 5, 2) := by decide +kernel
theorem dX4_factorOfFormula_24 : decode cX4_factorOfFormula 24 = .ok (.iconst (-1), 1) := by decide +kernel
theorem dX4_factorOfFormula_25 : decode cX4_factorOfFormula 25 = .ok (.istore 6, 2) := by decide +kernel
theorem dX4_factorOfFormula_27 : decode cX4_factorOfFormula 27 = .ok (.iload_n 2, 1) := by decide +kernel
theorem dX4_factorOfFormula_28 : decode cX4_factorOfFormula 28 = .ok (.bipush 26, 2) := by decide +kernel
theorem dX4_factorOfFormula_30 : decode cX4_factorOfFormula 30 = .ok (.if_icmp .ne 12, 3) := by decide +kernel
theorem dX4_factorOfFormula_33 : decode cX4_factorOfFormula 33 = .ok (.aload_n 0, 1) := by decide +kernel
theorem dX4_factorOfFormula_34 : decode cX4_factorOfFormula 34 = .ok (.iload_n 1, 1) := by decide +kernel
theorem dX4_factorOfFormula_35 : decode cX4_factorOfFormula 35 = .ok (.iconst 1, 1) := by decide +kernel
theorem dX4_factorOfFormula_36 : decode cX4_factorOfFormula 36 = .ok (.iadd, 1) := by decide +kernel
theorem dX4_factorOfFormula_37 : decode cX4_factorOfFormula 37 = .ok (.invokevirtual 195, 3) := by decide +kernel
theorem dX4_factorOfFormula_40 : decode cX4_factorOfFormula 40 = .ok (.istore 5, 2) := by decide +kernel
theorem dX4_factorOfFormula_42 : decode cX4_factorOfFormula 42 = .ok (.iload_n 2, 1) := by decide +kernel
theorem dX4_factorOfFormula_43 : decode cX4_factorOfFormula 43 = .ok (.bipush 18, 2) := by decide +kernel
theorem dX4_factorOfFormula_45 : decode cX4_factorOfFormula 45 = .ok (.if_icmp .ne 33, 3) := by decide +kernel
theorem dX4_factorOfFormula_48 : decode cX4_factorOfFormula 48 = .ok (.aload_n 0, 1) := by decide +kernel
theorem dX4_factorOfFormula_49 : decode cX4_factorOfFormula 49 = .ok (.bipush 19, 2) := by decide +kernel
theorem dX4_factorOfFormula_51 : decode cX4_factorOfFormula 51 = .ok (.invokevirtual 106, 3) := by decide +kernel
theorem dX4_factorOfFormula_54 : decode cX4_factorOfFormula 54 = .ok (.aload_n 0, 1) := by decide +kernel
theorem dX4_factorOfFormula_55 : decode cX4_factorOfFormula 55 = .ok (.iload_n 1, 1) := by decide +kernel
theorem dX4_factorOfFormula_56 : decode cX4_factorOfFormula 56 = .ok (.iconst 1, 1) := by decide +kernel
theorem dX4_factorOfFormula_57 : decode cX4_factorOfFormula 57 = .ok (.iadd, 1) := by decide +kernel
theorem dX4_factorOfFormula_58 : decode cX4_factorOfFormula 58 = .ok (.invokevirtual 195, 3) := by decide +kernel
theorem dX4_factorOfFormula_61 : decode cX4_factorOfFormula 61 = .ok (.istore 5, 2) := by decide +kernel
theorem dX4_factorOfFormula_63 : decode cX4_factorOfFormula 63 = .ok (.aload_n 0, 1) := by decide +kernel
theorem dX4_factorOfFormula_64 : decode cX4_factorOfFormula 64 = .ok (.bipush 20, 2) := by decide +kernel
theorem dX4_factorOfFormula_66 : decode cX4_factorOfFormula 66 = .ok (.invokevirtual 106, 3) := by decide +kernel
theorem dX4_factorOfFormula_69 : decode cX4_factorOfFormula 69 = .ok (.aload_n 0, 1) := by decide +kernel
theorem dX4_factorOfFormula_70 : decode cX4_factorOfFormula 70 = .ok (.iload_n 1, 1) := by decide +kernel
theorem dX4_factorOfFormula_71 : decode cX4_factorOfFormula 71 = .ok (.iconst 1, 1) := by decide +kernel
theorem dX4_factorOfFormula_72 : decode cX4_factorOfFormula 72 = .ok (.iadd, 1) := by decide +kernel
theorem dX4_factorOfFormula_73 : decode cX4_factorOfFormula 73 = .ok (.invokevirtual 195, 3) := by decide +kernel
theorem dX4_factorOfFormula_76 : decode cX4_factorOfFormula 76 = .ok (.istore 6, 2) := by decide +kernel
theorem dX4_factorOfFormula_78 : decode cX4_factorOfFormula 78 = .ok (.aload_n 0, 1) := by decide +kernel
theorem dX4_factorOfFormula_79 : decode cX4_factorOfFormula 79 = .ok (.getfield 15, 3) := by decide +kernel
theorem dX4_factorOfFormula_82 : decode cX4_factorOfFormula 82 = .ok (.iload_n 2, 1) := by decide +kernel
theorem dX4_factorOfFormula_83 : decode cX4_factorOfFormula 83 = .ok (.iload_n 3, 1) := by decide +kernel
theorem dX4_factorOfFormula_84 : decode cX4_factorOfFormula 84 = .ok (.iload 4, 2) := by decide +kernel
theorem dX4_factorOfFormula_86 : decode cX4_factorOfFormula 86 = .ok (.iload 5, 2) := by decide +kernel
theorem dX4_factorOfFormula_88 : decode cX4_factorOfFormula 88 = .ok (.invokevirtual 149, 3) := by decide +kernel
theorem dX4_factorOfFormula_91 : decode cX4_factorOfFormula 91 = .ok (.istore 7, 2) := by decide +kernel
theorem dX4_factorOfFormula_93 : decode cX4_factorOfFormula 93 = .ok (.aload_n 0, 1) := by decide +kernel
theorem dX4_factorOfFormula_94 : decode cX4_factorOfFormula 94 = .ok (.getfield 15, 3) := by decide +kernel
theorem dX4_factorOfFormula_97 : decode cX4_factorOfFormula 97 = .ok (.getfield 210, 3) := by decide +kernel
theorem dX4_factorOfFormula_100 : decode cX4_factorOfFormula 100 = .ok (.iload 7, 2) := by decide +kernel
theorem dX4_factorOfFormula_102 : decode cX4_factorOfFormula 102 = .ok (.iload 6, 2) := by decide +kernel
theorem dX4_factorOfFormula_104 : decode cX4_factorOfFormula 104 = .ok (.invokevirtual 137, 3) := by decide +kernel
theorem dX4_factorOfFormula_107 : decode cX4_factorOfFormula 107 = .ok (.iload 7, 2) := by decide +kernel
theorem dX4_factorOfFormula_109 : decode cX4_factorOfFormula 109 = .ok (.ireturn, 1) := by decide +kernel
theorem dX5_init_0 : decode cX5_init 0 = .ok (.aload_n 0, 1) := by decide +kernel
theorem dX5_init_1 : decode cX5_init 1 = .ok (.invokespecial 3, 3) := by decide +kernel
theorem dX5_init_4 : decode cX5_init 4 = .ok (.aload_n 0, 1) := by decide +kernel
theorem dX5_init_5 : decode cX5_init 5 = .ok (.new 9, 3) := by decide +kernel
theorem dX5_init_8 : decode cX5_init 8 = .ok (.dup, 1) := by decide +kernel
theorem dX5_init_9 : decode cX5_init 9 = .ok (.bipush 44, 2) := by decide +kernel
theorem dX5_init_11 : decode cX5_init 11 = .ok (.invokespecial 11, 3) := by decide +kernel
theorem dX5_init_14 : decode cX5_init 14 = .ok (.putfield 14, 3) := by decide +kernel
theorem dX5_init_17 : decode cX5_init 17 = .ok (.aload_n 0, 1) := by decide +kernel
theorem dX5_init_18 : decode cX5_init 18 = .ok (.new 20, 3) := by decide +kernel
theorem dX5_init_21 : decode cX5_init 21 = .ok (.dup, 1) := by decide +kernel
theorem dX5_init_22 : decode cX5_init 22 = .ok (.bipush 44, 2) := by decide +kernel
theorem dX5_init_24 : decode cX5_init 24 = .ok (.invokespecial 22, 3) := by decide +kernel
theorem dX5_init_27 : decode cX5_init 27 = .ok (.putfield 23, 3) := by decide +kernel
theorem dX5_init_30 : decode cX5_init 30 = .ok (.aload_n 0, 1) := by decide +kernel
theorem dX5_init_31 : decode cX5_init 31 = .ok (.new 20, 3) := by decide +kernel
theorem dX5_init_34 : decode cX5_init 34 = .ok (.dup, 1) := by decide +kernel
theorem dX5_init_35 : decode cX5_init 35 = .ok (.bipush 44, 2) := by decide +kernel
theorem dX5_init_37 : decode cX5_init 37 = .ok (.invokespecial 22, 3) := by decide +kernel
theorem dX5_init_40 : decode cX5_init 40 = .ok (.putfield 27, 3) := by decide +kernel
theorem dX5_init_43 : decode cX5_init 43 = .ok (.aload_n 0, 1) := by decide +kernel
theorem dX5_init_44 : decode cX5_init 44 = .ok (.new 20, 3) := by decide +kernel
theorem dX5_init_47 : decode cX5_init 47 = .ok (.dup, 1) := by decide +kernel
theorem dX5_init_48 : decode cX5_init 48 = .ok (.iconst 4, 1) := by decide +kernel
theorem dX5_init_49 : decode cX5_init 49 = .ok (.invokespecial 22, 3) := by decide +kernel
theorem dX5_init_52 : decode cX5_init 52 = .ok (.putfield 30, 3) := by decide +kernel
theorem dX5_init_55 : decode cX5_init 55 = .ok (.aload_n 0, 1) := by decide +kernel
theorem dX5_init_56 : decode cX5_init 56 = .ok (.new 20, 3) := by decide +kernel
theorem dX5_init_59 : decode cX5_init 59 = .ok (.dup, 1) := by decide +kernel
theorem dX5_init_60 : decode cX5_init 60 = .ok (.bipush 48, 2) := by decide +kernel
theorem dX5_init_62 : decode cX5_init 62 = .ok (.invokespecial 22, 3) := by decide +kernel
theorem dX5_init_65 : decode cX5_init 65 = .ok (.putfield 33, 3) := by decide +kernel
theorem dX5_init_68 : decode cX5_init 68 = .ok (.aload_n 0, 1) := by decide +kernel
theorem dX5_init_69 : decode cX5_init 69 = .ok (.new 9, 3) := by decide +kernel
theorem dX5_init_72 : decode cX5_init 72 = .ok (.dup, 1) := by decide +kernel
theorem dX5_init_73 : decode cX5_init 73 = .ok (.bipush 8, 2) := by decide +kernel
theorem dX5_init_75 : decode cX5_init 75 = .ok (.invokespecial 11, 3) := by decide +kernel
theorem dX5_init_78 : decode cX5_init 78 = .ok (.putfield 36, 3) := by decide +kernel
theorem dX5_init_81 : decode cX5_init 81 = .ok (.aload_n 0, 1) := by decide +kernel
theorem dX5_init_82 : decode cX5_init 82 = .ok (.new 20, 3) := by decide +kernel
theorem dX5_init_85 : decode cX5_init 85 = .ok (.dup, 1) := by decide +kernel
theorem dX5_init_86 : decode cX5_init 86 = .ok (.bipush 12, 2) := by decide +kernel
theorem dX5_init_88 : decode cX5_init 88 = .ok (.invokespecial 22, 3) := by decide +kernel
theorem dX5_init_91 : decode cX5_init 91 = .ok (.putfield 39, 3) := by decide +kernel
theorem dX5_init_94 : decode cX5_init 94 = .ok (.return_, 1) := by decide +kernel
theorem dX5_clear_0 : decode cX5_clear 0 = .ok (.aload_n 0, 1) := by decide +kernel
theorem dX5_clear_1 : decode cX5_clear 1 = .ok (.iconst 0, 1) := by decide +kernel
theorem dX5_clear_2 : decode cX5_clear 2 = .ok (.putfield 42, 3) := by decide +kernel
theorem dX5_clear_5 : decode cX5_clear 5 = .ok (.aload_n 0, 1) := by decide +kernel
theorem dX5_clear_6 : decode cX5_clear 6 = .ok (.iconst 0, 1) := by decide +kernel
theorem dX5_clear_7 : decode cX5_clear 7 = .ok (.putfield 46, 3) := by decide +kernel
theorem dX5_clear_10 : decode cX5_clear 10 = .ok (.aload_n 0, 1) := by decide +kernel
theorem dX5_clear_11 : decode cX5_clear 11 = .ok (.iconst 0, 1) := by decide +kernel
theorem dX5_clear_12 : decode cX5_clear 12 = .ok (.putfield 50, 3) := by decide +kernel
theorem dX5_clear_15 : decode cX5_clear 15 = .ok (.iconst 0, 1) := by decide +kernel
theorem dX5_clear_16 : decode cX5_clear 16 = .ok (.istore_n 1, 1) := by decide +kernel
theorem dX5_clear_17 : decode cX5_clear 17 = .ok (.iload_n 1, 1) := by decide +kernel
theorem dX5_clear_18 : decode cX5_clear 18 = .ok (.iconst 3, 1) := by decide +kernel
theorem dX5_clear_19 : decode cX5_clear 19 = .ok (.if_icmp .gt 18, 3) := by decide +kernel
theorem dX5_clear_22 : decode cX5_clear 22 = .ok (.aload_n 0, 1) := by decide +kernel
theorem dX5_clear_23 : decode cX5_clear 23 = .ok (.getfield 30, 3) := by decide +kernel
theorem dX5_clear_26 : decode cX5_clear 26 = .ok (.iload_n 1, 1) := by decide +kernel
theorem dX5_clear_27 : decode cX5_clear 27 = .ok (.iconst 0, 1) := by decide +kernel
theorem dX5_clear_28 : decode cX5_clear 28 = .ok (.invokevirtual 53, 3) := by decide +kernel
theorem dX5_clear_31 : decode cX5_clear 31 = .ok (.iinc 1 1, 3) := by decide +kernel
theorem dX5_clear_34 : decode cX5_clear 34 = .ok (.goto (-17), 3) := by decide +kernel
theorem dX5_clear_37 : decode cX5_clear 37 = .ok (.return_, 1) := by decide +kernel
theorem dX5_isFull_0 : decode cX5_isFull 0 = .ok (.aload_n 0, 1) := by decide +kernel
theorem dX5_isFull_1 : decode cX5_isFull 1 = .ok (.getfield 30, 3) := by decide +kernel
theorem dX5_isFull_4 : decode cX5_isFull 4 = .ok (.iload_n 1, 1) := by decide +kernel
theorem dX5_isFull_5 : decode cX5_isFull 5 = .ok (.invokevirtual 57, 3) := by decide +kernel
theorem dX5_isFull_8 : decode cX5_isFull 8 = .ok (.iload_n 1, 1) := by decide +kernel
theorem dX5_isFull_9 : decode cX5_isFull 9 = .ok (.ifCond .ne 8, 3) := by decide +kernel
theorem dX5_isFull_12 : decode cX5_isFull 12 = .ok (.bipush 8, 2) := by decide +kernel
theorem dX5_isFull_14 : decode cX5_isFull 14 = .ok (.goto 5, 3) := by decide +kernel
theorem dX5_isFull_17 : decode cX5_isFull 17 = .ok (.bipush 12, 2) := by decide +kernel
theorem dX5_isFull_19 : decode cX5_isFull 19 = .ok (.if_icmp .lt 7, 3) := by decide +kernel
theorem dX5_isFull_22 : decode cX5_isFull 22 = .ok (.iconst 1, 1) := by decide +kernel
theorem dX5_isFull_23 : decode cX5_isFull 23 = .ok (.goto 4, 3) := by decide +kernel
theorem dX5_isFull_26 : decode cX5_isFull 26 = .ok (.iconst 0, 1) := by decide +kernel
theorem dX5_isFull_27 : decode cX5_isFull 27 = .ok (.ireturn, 1) := by decide +kernel
theorem dX5_find_0 : decode cX5_find 0 = .ok (.iconst 0, 1) := by decide +kernel
theorem dX5_find_1 : decode cX5_find 1 = .ok (.istore_n 3, 1) := by decide +kernel
theorem dX5_find_2 : decode cX5_find 2 = .ok (.iload_n 3, 1) := by decide +kernel
theorem dX5_find_3 : decode cX5_find 3 = .ok (.aload_n 0, 1) := by decide +kernel
theorem dX5_find_4 : decode cX5_find 4 = .ok (.getfield 42, 3) := by decide +kernel
theorem dX5_find_7 : decode cX5_find 7 = .ok (.if_icmp .ge 24, 3) := by decide +kernel
theorem dX5_find_10 : decode cX5_find 10 = .ok (.aload_n 0, 1) := by decide +kernel
theorem dX5_find_11 : decode cX5_find 11 = .ok (.getfield 14, 3) := by decide +kernel
theorem dX5_find_14 : decode cX5_find 14 = .ok (.iload_n 3, 1) := by decide +kernel
theorem dX5_find_15 : decode cX5_find 15 = .ok (.invokevirtual 61, 3) := by decide +kernel
theorem dX5_find_18 : decode cX5_find 18 = .ok (.lload_n 1, 1) := by decide +kernel
theorem dX5_find_19 : decode cX5_find 19 = .ok (.lcmp, 1) := by decide +kernel
theorem dX5_find_20 : decode cX5_find 20 = .ok (.ifCond .ne 5, 3) := by decide +kernel
theorem dX5_find_23 : decode cX5_find 23 = .ok (.iload_n 3, 1) := by decide +kernel
theorem dX5_find_24 : decode cX5_find 24 = .ok (.ireturn, 1) := by decide +kernel
theorem dX5_find_25 : decode cX5_find 25 = .ok (.iinc 3 1, 3) := by decide +kernel
theorem dX5_find_28 : decode cX5_find 28 = .ok (.goto (-26), 3) := by decide +kernel
theorem dX5_find_31 : decode cX5_find 31 = .ok (.iconst (-1), 1) := by decide +kernel
theorem dX5_find_32 : decode cX5_find 32 = .ok (.ireturn, 1) := by decide +kernel
theorem dX5_sortOf_0 : decode cX5_sortOf 0 = .ok (.iload_n 1, 1) := by decide +kernel
theorem dX5_sortOf_1 : decode cX5_sortOf 1 = .ok (.iconst (-1), 1) := by decide +kernel
theorem dX5_sortOf_2 : decode cX5_sortOf 2 = .ok (.if_icmp .ne 7, 3) := by decide +kernel
theorem dX5_sortOf_5 : decode cX5_sortOf 5 = .ok (.iconst (-1), 1) := by decide +kernel
theorem dX5_sortOf_6 : decode cX5_sortOf 6 = .ok (.goto 11, 3) := by decide +kernel
theorem dX5_sortOf_9 : decode cX5_sortOf 9 = .ok (.aload_n 0, 1) := by decide +kernel
theorem dX5_sortOf_10 : decode cX5_sortOf 10 = .ok (.getfield 23, 3) := by decide +kernel
theorem dX5_sortOf_13 : decode cX5_sortOf 13 = .ok (.iload_n 1, 1) := by decide +kernel
theorem dX5_sortOf_14 : decode cX5_sortOf 14 = .ok (.invokevirtual 57, 3) := by decide +kernel
theorem dX5_sortOf_17 : decode cX5_sortOf 17 = .ok (.ireturn, 1) := by decide +kernel
theorem dX5_add_0 : decode cX5_add 0 = .ok (.aload_n 0, 1) := by decide +kernel
theorem dX5_add_1 : decode cX5_add 1 = .ok (.getfield 14, 3) := by decide +kernel
theorem dX5_add_4 : decode cX5_add 4 = .ok (.aload_n 0, 1) := by decide +kernel
theorem dX5_add_5 : decode cX5_add 5 = .ok (.getfield 42, 3) := by decide +kernel
theorem dX5_add_8 : decode cX5_add 8 = .ok (.lload_n 1, 1) := by decide +kernel
theorem dX5_add_9 : decode cX5_add 9 = .ok (.invokevirtual 64, 3) := by decide +kernel
theorem dX5_add_12 : decode cX5_add 12 = .ok (.aload_n 0, 1) := by decide +kernel
theorem dX5_add_13 : decode cX5_add 13 = .ok (.getfield 23, 3) := by decide +kernel
theorem dX5_add_16 : decode cX5_add 16 = .ok (.aload_n 0, 1) := by decide +kernel
theorem dX5_add_17 : decode cX5_add 17 = .ok (.getfield 42, 3) := by decide +kernel
theorem dX5_add_20 : decode cX5_add 20 = .ok (.iload_n 3, 1) := by decide +kernel
theorem dX5_add_21 : decode cX5_add 21 = .ok (.invokevirtual 53, 3) := by decide +kernel
theorem dX5_add_24 : decode cX5_add 24 = .ok (.aload_n 0, 1) := by decide +kernel
theorem dX5_add_25 : decode cX5_add 25 = .ok (.getfield 27, 3) := by decide +kernel
theorem dX5_add_28 : decode cX5_add 28 = .ok (.aload_n 0, 1) := by decide +kernel
theorem dX5_add_29 : decode cX5_add 29 = .ok (.getfield 42, 3) := by decide +kernel
theorem dX5_add_32 : decode cX5_add 32 = .ok (.iload 4, 2) := by decide +kernel
theorem dX5_add_34 : decode cX5_add 34 = .ok (.invokevirtual 53, 3) := by decide +kernel
theorem dX5_add_37 : decode cX5_add 37 = .ok (.aload_n 0, 1) := by decide +kernel
theorem dX5_add_38 : decode cX5_add 38 = .ok (.dup, 1) := by decide +kernel
theorem dX5_add_39 : decode cX5_add 39 = .ok (.getfield 42, 3) := by decide +kernel
theorem dX5_add_42 : decode cX5_add 42 = .ok (.iconst 1, 1) := by decide +kernel
theorem dX5_add_43 : decode cX5_add 43 = .ok (.iadd, 1) := by decide +kernel
theorem dX5_add_44 : decode cX5_add 44 = .ok (.putfield 42, 3) := by decide +kernel
theorem dX5_add_47 : decode cX5_add 47 = .ok (.aload_n 0, 1) := by decide +kernel
theorem dX5_add_48 : decode cX5_add 48 = .ok (.getfield 30, 3) := by decide +kernel
theorem dX5_add_51 : decode cX5_add 51 = .ok (.iload_n 3, 1) := by decide +kernel
theorem dX5_add_52 : decode cX5_add 52 = .ok (.invokevirtual 57, 3) := by decide +kernel
theorem dX5_add_55 : decode cX5_add 55 = .ok (.istore 5, 2) := by decide +kernel
theorem dX5_add_57 : decode cX5_add 57 = .ok (.aload_n 0, 1) := by decide +kernel
theorem dX5_add_58 : decode cX5_add 58 = .ok (.getfield 33, 3) := by decide +kernel
theorem dX5_add_61 : decode cX5_add 61 = .ok (.iload_n 3, 1) := by decide +kernel
theorem dX5_add_62 : decode cX5_add 62 = .ok (.bipush 12, 2) := by decide +kernel
theorem dX5_add_64 : decode cX5_add 64 = .ok (.imul, 1) := by decide +kernel
theorem dX5_add_65 : decode cX5_add 65 = .ok (.iload 5, 2) := by decide +kernel
theorem dX5_add_67 : decode cX5_add 67 = .ok (.iadd, 1) := by decide +kernel
theorem dX5_add_68 : decode cX5_add 68 = .ok (.iload 4, 2) := by decide +kernel
theorem dX5_add_70 : decode cX5_add 70 = .ok (.invokevirtual 53, 3) := by decide +kernel
theorem dX5_add_73 : decode cX5_add 73 = .ok (.aload_n 0, 1) := by decide +kernel
theorem dX5_add_74 : decode cX5_add 74 = .ok (.getfield 30, 3) := by decide +kernel
theorem dX5_add_77 : decode cX5_add 77 = .ok (.iload_n 3, 1) := by decide +kernel
theorem dX5_add_78 : decode cX5_add 78 = .ok (.iload 5, 2) := by decide +kernel
theorem dX5_add_80 : decode cX5_add 80 = .ok (.iconst 1, 1) := by decide +kernel
theorem dX5_add_81 : decode cX5_add 81 = .ok (.iadd, 1) := by decide +kernel
theorem dX5_add_82 : decode cX5_add 82 = .ok (.invokevirtual 53, 3) := by decide +kernel
theorem dX5_add_85 : decode cX5_add 85 = .ok (.return_, 1) := by decide +kernel
theorem dX5_rootOf_0 : decode cX5_rootOf 0 = .ok (.aload_n 0, 1) := by decide +kernel
theorem dX5_rootOf_1 : decode cX5_rootOf 1 = .ok (.getfield 33, 3) := by decide +kernel
theorem dX5_rootOf_4 : decode cX5_rootOf 4 = .ok (.iload_n 1, 1) := by decide +kernel
theorem dX5_rootOf_5 : decode cX5_rootOf 5 = .ok (.bipush 12, 2) := by decide +kernel
theorem dX5_rootOf_7 : decode cX5_rootOf 7 = .ok (.imul, 1) := by decide +kernel
theorem dX5_rootOf_8 : decode cX5_rootOf 8 = .ok (.iload_n 2, 1) := by decide +kernel
theorem dX5_rootOf_9 : decode cX5_rootOf 9 = .ok (.iadd, 1) := by decide +kernel
theorem dX5_rootOf_10 : decode cX5_rootOf 10 = .ok (.invokevirtual 57, 3) := by decide +kernel
theorem dX5_rootOf_13 : decode cX5_rootOf 13 = .ok (.ireturn, 1) := by decide +kernel
theorem dX6_init_0 : decode cX6_init 0 = .ok (.aload_n 0, 1) := by decide +kernel
theorem dX6_init_1 : decode cX6_init 1 = .ok (.invokespecial 3, 3) := by decide +kernel
theorem dX6_init_4 : decode cX6_init 4 = .ok (.aload_n 0, 1) := by decide +kernel
theorem dX6_init_5 : decode cX6_init 5 = .ok (.new 9, 3) := by decide +kernel
theorem dX6_init_8 : decode cX6_init 8 = .ok (.dup, 1) := by decide +kernel
theorem dX6_init_9 : decode cX6_init 9 = .ok (.sipush 1200, 3) := by decide +kernel
theorem dX6_init_12 : decode cX6_init 12 = .ok (.invokespecial 11, 3) := by decide +kernel
theorem dX6_init_15 : decode cX6_init 15 = .ok (.putfield 14, 3) := by decide +kernel
theorem dX6_init_18 : decode cX6_init 18 = .ok (.aload_n 0, 1) := by decide +kernel
theorem dX6_init_19 : decode cX6_init 19 = .ok (.aload_n 1, 1) := by decide +kernel
theorem dX6_init_20 : decode cX6_init 20 = .ok (.putfield 20, 3) := by decide +kernel
theorem dX6_init_23 : decode cX6_init 23 = .ok (.aload_n 0, 1) := by decide +kernel
theorem dX6_init_24 : decode cX6_init 24 = .ok (.aload_n 2, 1) := by decide +kernel
theorem dX6_init_25 : decode cX6_init 25 = .ok (.putfield 24, 3) := by decide +kernel
theorem dX6_init_28 : decode cX6_init 28 = .ok (.return_, 1) := by decide +kernel
theorem dX6_reckon_0 : decode cX6_reckon 0 = .ok (.iload_n 1, 1) := by decide +kernel
theorem dX6_reckon_1 : decode cX6_reckon 1 = .ok (.istore 4, 2) := by decide +kernel
theorem dX6_reckon_3 : decode cX6_reckon 3 = .ok (.iload 4, 2) := by decide +kernel
theorem dX6_reckon_5 : decode cX6_reckon 5 = .ok (.iload_n 2, 1) := by decide +kernel
theorem dX6_reckon_6 : decode cX6_reckon 6 = .ok (.if_icmp .ge 63, 3) := by decide +kernel
theorem dX6_reckon_9 : decode cX6_reckon 9 = .ok (.aload_n 0, 1) := by decide +kernel
theorem dX6_reckon_10 : decode cX6_reckon 10 = .ok (.getfield 14, 3) := by decide +kernel
theorem dX6_reckon_13 : decode cX6_reckon 13 = .ok (.iload 4, 2) := by decide +kernel
theorem dX6_reckon_15 : decode cX6_reckon 15 = .ok (.iload_n 3, 1) := by decide +kernel
theorem dX6_reckon_16 : decode cX6_reckon 16 = .ok (.aload_n 0, 1) := by decide +kernel
theorem dX6_reckon_17 : decode cX6_reckon 17 = .ok (.getfield 20, 3) := by decide +kernel
theorem dX6_reckon_20 : decode cX6_reckon 20 = .ok (.getfield 28, 3) := by decide +kernel
theorem dX6_reckon_23 : decode cX6_reckon 23 = .ok (.iload 4, 2) := by decide +kernel
theorem dX6_reckon_25 : decode cX6_reckon 25 = .ok (.invokevirtual 34, 3) := by decide +kernel
theorem dX6_reckon_28 : decode cX6_reckon 28 = .ok (.invokestatic 40, 3) := by decide +kernel
theorem dX6_reckon_31 : decode cX6_reckon 31 = .ok (.ifCond .eq 22, 3) := by decide +kernel
theorem dX6_reckon_34 : decode cX6_reckon 34 = .ok (.aload_n 0, 1) := by decide +kernel
theorem dX6_reckon_35 : decode cX6_reckon 35 = .ok (.iload 4, 2) := by decide +kernel
theorem dX6_reckon_37 : decode cX6_reckon 37 = .ok (.iload_n 3, 1) := by decide +kernel
theorem dX6_reckon_38 : decode cX6_reckon 38 = .ok (.invokevirtual 44, 3) := by decide +kernel
theorem dX6_reckon_41 : decode cX6_reckon 41 = .ok (.ifCond .eq 7, 3) := by decide +kernel
theorem dX6_reckon_44 : decode cX6_reckon 44 = .ok (.iconst 1, 1) := by decide +kernel
theorem dX6_reckon_45 : decode cX6_reckon 45 = .ok (.goto 4, 3) := by decide +kernel
theorem dX6_reckon_48 : decode cX6_reckon 48 = .ok (.iconst 0, 1) := by decide +kernel
theorem dX6_reckon_49 : decode cX6_reckon 49 = .ok (.i2l, 1) := by decide +kernel
theorem dX6_reckon_50 : decode cX6_reckon 50 = .ok (.goto 10, 3) := by decide +kernel
theorem dX6_reckon_53 : decode cX6_reckon 53 = .ok (.aload_n 0, 1) := by decide +kernel
theorem dX6_reckon_54 : decode cX6_reckon 54 = .ok (.iload 4, 2) := by decide +kernel
theorem dX6_reckon_56 : decode cX6_reckon 56 = .ok (.iload_n 3, 1) := by decide +kernel
theorem dX6_reckon_57 : decode cX6_reckon 57 = .ok (.invokevirtual 48, 3) := by decide +kernel
theorem dX6_reckon_60 : decode cX6_reckon 60 = .ok (.invokevirtual 52, 3) := by decide +kernel
theorem dX6_reckon_63 : decode cX6_reckon 63 = .ok (.iinc 4 1, 3) := by decide +kernel
theorem dX6_reckon_66 : decode cX6_reckon 66 = .ok (.goto (-63), 3) := by decide +kernel
theorem dX6_reckon_69 : decode cX6_reckon 69 = .ok (.return_, 1) := by decide +kernel
theorem dX6_isFormula_0 : decode cX6_isFormula 0 = .ok (.iload_n 0, 1) := by decide +kernel
theorem dX6_isFormula_1 : decode cX6_isFormula 1 = .ok (.iconst 5, 1) := by decide +kernel
theorem dX6_isFormula_2 : decode cX6_isFormula 2 = .ok (.if_icmp .lt 9, 3) := by decide +kernel
theorem dX6_isFormula_5 : decode cX6_isFormula 5 = .ok (.iload_n 0, 1) := by decide +kernel
theorem dX6_isFormula_6 : decode cX6_isFormula 6 = .ok (.bipush 17, 2) := by decide +kernel
theorem dX6_isFormula_8 : decode cX6_isFormula 8 = .ok (.if_icmp .le 15, 3) := by decide +kernel
theorem dX6_isFormula_11 : decode cX6_isFormula 11 = .ok (.iload_n 0, 1) := by decide +kernel
theorem dX6_isFormula_12 : decode cX6_isFormula 12 = .ok (.bipush 44, 2) := by decide +kernel
theorem dX6_isFormula_14 : decode cX6_isFormula 14 = .ok (.if_icmp .lt 13, 3) := by decide +kernel
theorem dX6_isFormula_17 : decode cX6_isFormula 17 = .ok (.iload_n 0, 1) := by decide +kernel
theorem dX6_isFormula_18 : decode cX6_isFormula 18 = .ok (.bipush 49, 2) := by decide +kernel
theorem dX6_isFormula_20 : decode cX6_isFormula 20 = .ok (.if_icmp .gt 7, 3) := by decide +kernel
theorem dX6_isFormula_23 : decode cX6_isFormula 23 = .ok (.iconst 1, 1) := by decide +kernel
theorem dX6_isFormula_24 : decode cX6_isFormula 24 = .ok (.goto 4, 3) := by decide +kernel
theorem dX6_isFormula_27 : decode cX6_isFormula 27 = .ok (.iconst 0, 1) := by decide +kernel
theorem dX6_isFormula_28 : decode cX6_isFormula 28 = .ok (.ireturn, 1) := by decide +kernel
theorem dX6_first_0 : decode cX6_first 0 = .ok (.aload_n 0, 1) := by decide +kernel
theorem dX6_first_1 : decode cX6_first 1 = .ok (.getfield 14, 3) := by decide +kernel
theorem dX6_first_4 : decode cX6_first 4 = .ok (.aload_n 0, 1) := by decide +kernel
theorem dX6_first_5 : decode cX6_first 5 = .ok (.getfield 20, 3) := by decide +kernel
theorem dX6_first_8 : decode cX6_first 8 = .ok (.getfield 56, 3) := by decide +kernel
theorem dX6_first_11 : decode cX6_first 11 = .ok (.iload_n 1, 1) := by decide +kernel
theorem dX6_first_12 : decode cX6_first 12 = .ok (.invokevirtual 34, 3) := by decide +kernel
theorem dX6_first_15 : decode cX6_first 15 = .ok (.iload_n 2, 1) := by decide +kernel
theorem dX6_first_16 : decode cX6_first 16 = .ok (.invokevirtual 59, 3) := by decide +kernel
theorem dX6_first_19 : decode cX6_first 19 = .ok (.lreturn, 1) := by decide +kernel
theorem dX6_second_0 : decode cX6_second 0 = .ok (.aload_n 0, 1) := by decide +kernel
theorem dX6_second_1 : decode cX6_second 1 = .ok (.getfield 14, 3) := by decide +kernel
theorem dX6_second_4 : decode cX6_second 4 = .ok (.aload_n 0, 1) := by decide +kernel
theorem dX6_second_5 : decode cX6_second 5 = .ok (.getfield 20, 3) := by decide +kernel
theorem dX6_second_8 : decode cX6_second 8 = .ok (.getfield 61, 3) := by decide +kernel
theorem dX6_second_11 : decode cX6_second 11 = .ok (.iload_n 1, 1) := by decide +kernel
theorem dX6_second_12 : decode cX6_second 12 = .ok (.invokevirtual 34, 3) := by decide +kernel
theorem dX6_second_15 : decode cX6_second 15 = .ok (.iload_n 2, 1) := by decide +kernel
theorem dX6_second_16 : decode cX6_second 16 = .ok (.invokevirtual 59, 3) := by decide +kernel
theorem dX6_second_19 : decode cX6_second 19 = .ok (.lreturn, 1) := by decide +kernel
theorem dX6_holds_0 : decode cX6_holds 0 = .ok (.aload_n 0, 1) := by decide +kernel
theorem dX6_holds_1 : decode cX6_holds 1 = .ok (.iload_n 1, 1) := by decide +kernel
theorem dX6_holds_2 : decode cX6_holds 2 = .ok (.iload_n 2, 1) := by decide +kernel
theorem dX6_holds_3 : decode cX6_holds 3 = .ok (.invokevirtual 64, 3) := by decide +kernel
theorem dX6_holds_6 : decode cX6_holds 6 = .ok (.lstore_n 3, 1) := by decide +kernel
theorem dX6_holds_7 : decode cX6_holds 7 = .ok (.aload_n 0, 1) := by decide +kernel
theorem dX6_holds_8 : decode cX6_holds 8 = .ok (.iload_n 1, 1) := by decide +kernel
theorem dX6_holds_9 : decode cX6_holds 9 = .ok (.iload_n 2, 1) := by decide +kernel
theorem dX6_holds_10 : decode cX6_holds 10 = .ok (.invokevirtual 67, 3) := by decide +kernel
theorem dX6_holds_13 : decode cX6_holds 13 = .ok (.lstore 5, 2) := by decide +kernel
theorem dX6_holds_15 : decode cX6_holds 15 = .ok (.aload_n 0, 1) := by decide +kernel
theorem dX6_holds_16 : decode cX6_holds 16 = .ok (.iload_n 1, 1) := by decide +kernel
theorem dX6_holds_17 : decode cX6_holds 17 = .ok (.iload_n 2, 1) := by decide +kernel
theorem dX6_holds_18 : decode cX6_holds 18 = .ok (.iconst 1, 1) := by decide +kernel
theorem dX6_holds_19 : decode cX6_holds 19 = .ok (.isub, 1) := by decide +kernel
theorem dX6_holds_20 : decode cX6_holds 20 = .ok (.invokevirtual 64, 3) := by decide +kernel
theorem dX6_holds_23 : decode cX6_holds 23 = .ok (.lconst 0, 1) := by decide +kernel
theorem dX6_holds_24 : decode cX6_holds 24 = .ok (.lcmp, 1) := by decide +kernel
theorem dX6_holds_25 : decode cX6_holds 25 = .ok (.ifCond .eq 7, 3) := by decide +kernel
theorem dX6_holds_28 : decode cX6_holds 28 = .ok (.iconst 1, 1) := by decide +kernel
theorem dX6_holds_29 : decode cX6_holds 29 = .ok (.goto 4, 3) := by decide +kernel
theorem dX6_holds_32 : decode cX6_holds 32 = .ok (.iconst 0, 1) := by decide +kernel
theorem dX6_holds_33 : decode cX6_holds 33 = .ok (.istore 7, 2) := by decide +kernel
theorem dX6_holds_35 : decode cX6_holds 35 = .ok (.aload_n 0, 1) := by decide +kernel
theorem dX6_holds_36 : decode cX6_holds 36 = .ok (.getfield 20, 3) := by decide +kernel
theorem dX6_holds_39 : decode cX6_holds 39 = .ok (.getfield 28, 3) := by decide +kernel
theorem dX6_holds_42 : decode cX6_holds 42 = .ok (.iload_n 1, 1) := by decide +kernel
theorem dX6_holds_43 : decode cX6_holds 43 = .ok (.invokevirtual 34, 3) := by decide +kernel
theorem dX6_holds_46 : decode cX6_holds 46 = .ok (.tableswitch 401 5 49 #[196, 265, 268, 285, 302, 309, 316, 208, 227, 246, 401, 194, 401, 401, 401, 401, 401, 401, 401, 401, 401, 401, 401, 401, 401, 401, 401, 401, 401, 401, 401, 401, 401, 401, 401, 401, 401, 401, 401, 323, 336, 349, 362, 375, 388], 194) := by decide +kernel
theorem dX6_holds_240 : decode cX6_holds 240 = .ok (.iconst 1, 1) := by decide +kernel
theorem dX6_holds_241 : decode cX6_holds 241 = .ok (.ireturn, 1) := by decide +kernel
theorem dX6_holds_242 : decode cX6_holds 242 = .ok (.lload_n 3, 1) := by decide +kernel
theorem dX6_holds_243 : decode cX6_holds 243 = .ok (.lconst 0, 1) := by decide +kernel
theorem dX6_holds_244 : decode cX6_holds 244 = .ok (.lcmp, 1) := by decide +kernel
theorem dX6_holds_245 : decode cX6_holds 245 = .ok (.ifCond .ne 7, 3) := by decide +kernel
theorem dX6_holds_248 : decode cX6_holds 248 = .ok (.iconst 1, 1) := by decide +kernel
theorem dX6_holds_249 : decode cX6_holds 249 = .ok (.goto 4, 3) := by decide +kernel
theorem dX6_holds_252 : decode cX6_holds 252 = .ok (.iconst 0, 1) := by decide +kernel
theorem dX6_holds_253 : decode cX6_holds 253 = .ok (.ireturn, 1) := by decide +kernel
theorem dX6_holds_254 : decode cX6_holds 254 = .ok (.lload_n 3, 1) := by decide +kernel
theorem dX6_holds_255 : decode cX6_holds 255 = .ok (.lconst 0, 1) := by decide +kernel
theorem dX6_holds_256 : decode cX6_holds 256 = .ok (.lcmp, 1) := by decide +kernel
theorem dX6_holds_257 : decode cX6_holds 257 = .ok (.ifCond .eq 14, 3) := by decide +kernel
theorem dX6_holds_260 : decode cX6_holds 260 = .ok (.lload 5, 2) := by decide +kernel
theorem dX6_holds_262 : decode cX6_holds 262 = .ok (.lconst 0, 1) := by decide +kernel
theorem dX6_holds_263 : decode cX6_holds 263 = .ok (.lcmp, 1) := by decide +kernel
theorem dX6_holds_264 : decode cX6_holds 264 = .ok (.ifCond .eq 7, 3) := by decide +kernel
theorem dX6_holds_267 : decode cX6_holds 267 = .ok (.iconst 1, 1) := by decide +kernel
theorem dX6_holds_268 : decode cX6_holds 268 = .ok (.goto 4, 3) := by decide +kernel
theorem dX6_holds_271 : decode cX6_holds 271 = .ok (.iconst 0, 1) := by decide +kernel
theorem dX6_holds_272 : decode cX6_holds 272 = .ok (.ireturn, 1) := by decide +kernel
theorem dX6_holds_273 : decode cX6_holds 273 = .ok (.lload_n 3, 1) := by decide +kernel
theorem dX6_holds_274 : decode cX6_holds 274 = .ok (.lconst 0, 1) := by decide +kernel
theorem dX6_holds_275 : decode cX6_holds 275 = .ok (.lcmp, 1) := by decide +kernel
theorem dX6_holds_276 : decode cX6_holds 276 = .ok (.ifCond .ne 10, 3) := by decide +kernel
theorem dX6_holds_279 : decode cX6_holds 279 = .ok (.lload 5, 2) := by decide +kernel
theorem dX6_holds_281 : decode cX6_holds 281 = .ok (.lconst 0, 1) := by decide +kernel
theorem dX6_holds_282 : decode cX6_holds 282 = .ok (.lcmp, 1) := by decide +kernel
theorem dX6_holds_283 : decode cX6_holds 283 = .ok (.ifCond .eq 7, 3) := by decide +kernel
theorem dX6_holds_286 : decode cX6_holds 286 = .ok (.iconst 1, 1) := by decide +kernel
theorem dX6_holds_287 : decode cX6_holds 287 = .ok (.goto 4, 3) := by decide +kernel
theorem dX6_holds_290 : decode cX6_holds 290 = .ok (.iconst 0, 1) := by decide +kernel
theorem dX6_holds_291 : decode cX6_holds 291 = .ok (.ireturn, 1) := by decide +kernel
theorem dX6_holds_292 : decode cX6_holds 292 = .ok (.lload_n 3, 1) := by decide +kernel
theorem dX6_holds_293 : decode cX6_holds 293 = .ok (.lconst 0, 1) := by decide +kernel
theorem dX6_holds_294 : decode cX6_holds 294 = .ok (.lcmp, 1) := by decide +kernel
theorem dX6_holds_295 : decode cX6_holds 295 = .ok (.ifCond .eq 10, 3) := by decide +kernel
theorem dX6_holds_298 : decode cX6_holds 298 = .ok (.lload 5, 2) := by decide +kernel
theorem dX6_holds_300 : decode cX6_holds 300 = .ok (.lconst 0, 1) := by decide +kernel
theorem dX6_holds_301 : decode cX6_holds 301 = .ok (.lcmp, 1) := by decide +kernel
theorem dX6_holds_302 : decode cX6_holds 302 = .ok (.ifCond .eq 7, 3) := by decide +kernel
theorem dX6_holds_305 : decode cX6_holds 305 = .ok (.iconst 1, 1) := by decide +kernel
theorem dX6_holds_306 : decode cX6_holds 306 = .ok (.goto 4, 3) := by decide +kernel
theorem dX6_holds_309 : decode cX6_holds 309 = .ok (.iconst 0, 1) := by decide +kernel
theorem dX6_holds_310 : decode cX6_holds 310 = .ok (.ireturn, 1) := by decide +kernel
theorem dX6_holds_311 : decode cX6_holds 311 = .ok (.iload 7, 2) := by decide +kernel
theorem dX6_holds_313 : decode cX6_holds 313 = .ok (.ireturn, 1) := by decide +kernel
theorem dX6_holds_314 : decode cX6_holds 314 = .ok (.lload_n 3, 1) := by decide +kernel
theorem dX6_holds_315 : decode cX6_holds 315 = .ok (.lconst 0, 1) := by decide +kernel
theorem dX6_holds_316 : decode cX6_holds 316 = .ok (.lcmp, 1) := by decide +kernel
theorem dX6_holds_317 : decode cX6_holds 317 = .ok (.ifCond .eq 12, 3) := by decide +kernel
theorem dX6_holds_320 : decode cX6_holds 320 = .ok (.iload 7, 2) := by decide +kernel
theorem dX6_holds_322 : decode cX6_holds 322 = .ok (.ifCond .ne 7, 3) := by decide +kernel
theorem dX6_holds_325 : decode cX6_holds 325 = .ok (.iconst 1, 1) := by decide +kernel
theorem dX6_holds_326 : decode cX6_holds 326 = .ok (.goto 4, 3) := by decide +kernel
theorem dX6_holds_329 : decode cX6_holds 329 = .ok (.iconst 0, 1) := by decide +kernel
theorem dX6_holds_330 : decode cX6_holds 330 = .ok (.ireturn, 1) := by decide +kernel
theorem dX6_holds_331 : decode cX6_holds 331 = .ok (.lload_n 3, 1) := by decide +kernel
theorem dX6_holds_332 : decode cX6_holds 332 = .ok (.lconst 0, 1) := by decide +kernel
theorem dX6_holds_333 : decode cX6_holds 333 = .ok (.lcmp, 1) := by decide +kernel
theorem dX6_holds_334 : decode cX6_holds 334 = .ok (.ifCond .ne 12, 3) := by decide +kernel
theorem dX6_holds_337 : decode cX6_holds 337 = .ok (.iload 7, 2) := by decide +kernel
theorem dX6_holds_339 : decode cX6_holds 339 = .ok (.ifCond .eq 7, 3) := by decide +kernel
theorem dX6_holds_342 : decode cX6_holds 342 = .ok (.iconst 1, 1) := by decide +kernel
theorem dX6_holds_343 : decode cX6_holds 343 = .ok (.goto 4, 3) := by decide +kernel
theorem dX6_holds_346 : decode cX6_holds 346 = .ok (.iconst 0, 1) := by decide +kernel
theorem dX6_holds_347 : decode cX6_holds 347 = .ok (.ireturn, 1) := by decide +kernel
theorem dX6_holds_348 : decode cX6_holds 348 = .ok (.aload_n 0, 1) := by decide +kernel
theorem dX6_holds_349 : decode cX6_holds 349 = .ok (.iload_n 1, 1) := by decide +kernel
theorem dX6_holds_350 : decode cX6_holds 350 = .ok (.iload_n 2, 1) := by decide +kernel
theorem dX6_holds_351 : decode cX6_holds 351 = .ok (.invokevirtual 70, 3) := by decide +kernel
theorem dX6_holds_354 : decode cX6_holds 354 = .ok (.ireturn, 1) := by decide +kernel
theorem dX6_holds_355 : decode cX6_holds 355 = .ok (.aload_n 0, 1) := by decide +kernel
theorem dX6_holds_356 : decode cX6_holds 356 = .ok (.iload_n 1, 1) := by decide +kernel
theorem dX6_holds_357 : decode cX6_holds 357 = .ok (.iload_n 2, 1) := by decide +kernel
theorem dX6_holds_358 : decode cX6_holds 358 = .ok (.invokevirtual 73, 3) := by decide +kernel
theorem dX6_holds_361 : decode cX6_holds 361 = .ok (.ireturn, 1) := by decide +kernel
theorem dX6_holds_362 : decode cX6_holds 362 = .ok (.aload_n 0, 1) := by decide +kernel
theorem dX6_holds_363 : decode cX6_holds 363 = .ok (.iload_n 1, 1) := by decide +kernel
theorem dX6_holds_364 : decode cX6_holds 364 = .ok (.iload_n 2, 1) := by decide +kernel
theorem dX6_holds_365 : decode cX6_holds 365 = .ok (.invokevirtual 76, 3) := by decide +kernel
theorem dX6_holds_368 : decode cX6_holds 368 = .ok (.ireturn, 1) := by decide +kernel
theorem dX6_holds_369 : decode cX6_holds 369 = .ok (.lload_n 3, 1) := by decide +kernel
theorem dX6_holds_370 : decode cX6_holds 370 = .ok (.lload 5, 2) := by decide +kernel
theorem dX6_holds_372 : decode cX6_holds 372 = .ok (.lcmp, 1) := by decide +kernel
theorem dX6_holds_373 : decode cX6_holds 373 = .ok (.ifCond .ne 7, 3) := by decide +kernel
theorem dX6_holds_376 : decode cX6_holds 376 = .ok (.iconst 1, 1) := by decide +kernel
theorem dX6_holds_377 : decode cX6_holds 377 = .ok (.goto 4, 3) := by decide +kernel
theorem dX6_holds_380 : decode cX6_holds 380 = .ok (.iconst 0, 1) := by decide +kernel
theorem dX6_holds_381 : decode cX6_holds 381 = .ok (.ireturn, 1) := by decide +kernel
theorem dX6_holds_382 : decode cX6_holds 382 = .ok (.lload_n 3, 1) := by decide +kernel
theorem dX6_holds_383 : decode cX6_holds 383 = .ok (.lload 5, 2) := by decide +kernel
theorem dX6_holds_385 : decode cX6_holds 385 = .ok (.lcmp, 1) := by decide +kernel
theorem dX6_holds_386 : decode cX6_holds 386 = .ok (.ifCond .eq 7, 3) := by decide +kernel
theorem dX6_holds_389 : decode cX6_holds 389 = .ok (.iconst 1, 1) := by decide +kernel
theorem dX6_holds_390 : decode cX6_holds 390 = .ok (.goto 4, 3) := by decide +kernel
theorem dX6_holds_393 : decode cX6_holds 393 = .ok (.iconst 0, 1) := by decide +kernel
theorem dX6_holds_394 : decode cX6_holds 394 = .ok (.ireturn, 1) := by decide +kernel
theorem dX6_holds_395 : decode cX6_holds 395 = .ok (.lload_n 3, 1) := by decide +kernel
theorem dX6_holds_396 : decode cX6_holds 396 = .ok (.lload 5, 2) := by decide +kernel
theorem dX6_holds_398 : decode cX6_holds 398 = .ok (.lcmp, 1) := by decide +kernel
theorem dX6_holds_399 : decode cX6_holds 399 = .ok (.ifCond .ge 7, 3) := by decide +kernel
theorem dX6_holds_402 : decode cX6_holds 402 = .ok (.iconst 1, 1) := by decide +kernel
theorem dX6_holds_403 : decode cX6_holds 403 = .ok (.goto 4, 3) := by decide +kernel
theorem dX6_holds_406 : decode cX6_holds 406 = .ok (.iconst 0, 1) := by decide +kernel
theorem dX6_holds_407 : decode cX6_holds 407 = .ok (.ireturn, 1) := by decide +kernel
theorem dX6_holds_408 : decode cX6_holds 408 = .ok (.lload_n 3, 1) := by decide +kernel
theorem dX6_holds_409 : decode cX6_holds 409 = .ok (.lload 5, 2) := by decide +kernel
theorem dX6_holds_411 : decode cX6_holds 411 = .ok (.lcmp, 1) := by decide +kernel
theorem dX6_holds_412 : decode cX6_holds 412 = .ok (.ifCond .le 7, 3) := by decide +kernel
theorem dX6_holds_415 : decode cX6_holds 415 = .ok (.iconst 1, 1) := by decide +kernel
theorem dX6_holds_416 : decode cX6_holds 416 = .ok (.goto 4, 3) := by decide +kernel
theorem dX6_holds_419 : decode cX6_holds 419 = .ok (.iconst 0, 1) := by decide +kernel
theorem dX6_holds_420 : decode cX6_holds 420 = .ok (.ireturn, 1) := by decide +kernel
theorem dX6_holds_421 : decode cX6_holds 421 = .ok (.lload_n 3, 1) := by decide +kernel
theorem dX6_holds_422 : decode cX6_holds 422 = .ok (.lload 5, 2) := by decide +kernel
theorem dX6_holds_424 : decode cX6_holds 424 = .ok (.lcmp, 1) := by decide +kernel
theorem dX6_holds_425 : decode cX6_holds 425 = .ok (.ifCond .gt 7, 3) := by decide +kernel
theorem dX6_holds_428 : decode cX6_holds 428 = .ok (.iconst 1, 1) := by decide +kernel
theorem dX6_holds_429 : decode cX6_holds 429 = .ok (.goto 4, 3) := by decide +kernel
theorem dX6_holds_432 : decode cX6_holds 432 = .ok (.iconst 0, 1) := by decide +kernel
theorem dX6_holds_433 : decode cX6_holds 433 = .ok (.ireturn, 1) := by decide +kernel
theorem dX6_holds_434 : decode cX6_holds 434 = .ok (.lload_n 3, 1) := by decide +kernel
theorem dX6_holds_435 : decode cX6_holds 435 = .ok (.lload 5, 2) := by decide +kernel
theorem dX6_holds_437 : decode cX6_holds 437 = .ok (.lcmp, 1) := by decide +kernel
theorem dX6_holds_438 : decode cX6_holds 438 = .ok (.ifCond .lt 7, 3) := by decide +kernel
theorem dX6_holds_441 : decode cX6_holds 441 = .ok (.iconst 1, 1) := by decide +kernel
theorem dX6_holds_442 : decode cX6_holds 442 = .ok (.goto 4, 3) := by decide +kernel
theorem dX6_holds_445 : decode cX6_holds 445 = .ok (.iconst 0, 1) := by decide +kernel
theorem dX6_holds_446 : decode cX6_holds 446 = .ok (.ireturn, 1) := by decide +kernel
theorem dX6_holds_447 : decode cX6_holds 447 = .ok (.iconst 0, 1) := by decide +kernel
theorem dX6_holds_448 : decode cX6_holds 448 = .ok (.ireturn, 1) := by decide +kernel
theorem dX6_isEndless_0 : decode cX6_isEndless 0 = .ok (.aload_n 0, 1) := by decide +kernel
theorem dX6_isEndless_1 : decode cX6_isEndless 1 = .ok (.getfield 20, 3) := by decide +kernel
theorem dX6_isEndless_4 : decode cX6_isEndless 4 = .ok (.getfield 79, 3) := by decide +kernel
theorem dX6_isEndless_7 : decode cX6_isEndless 7 = .ok (.iload_n 1, 1) := by decide +kernel
theorem dX6_isEndless_8 : decode cX6_isEndless 8 = .ok (.invokevirtual 34, 3) := by decide +kernel
theorem dX6_isEndless_11 : decode cX6_isEndless 11 = .ok (.ldc 82, 2) := by decide +kernel
theorem dX6_isEndless_13 : decode cX6_isEndless 13 = .ok (.if_icmp .ne 7, 3) := by decide +kernel
theorem dX6_isEndless_16 : decode cX6_isEndless 16 = .ok (.iconst 1, 1) := by decide +kernel
theorem dX6_isEndless_17 : decode cX6_isEndless 17 = .ok (.goto 4, 3) := by decide +kernel
theorem dX6_isEndless_20 : decode cX6_isEndless 20 = .ok (.iconst 0, 1) := by decide +kernel
theorem dX6_isEndless_21 : decode cX6_isEndless 21 = .ok (.ireturn, 1) := by decide +kernel
theorem dX6_age_0 : decode cX6_age 0 = .ok (.aload_n 0, 1) := by decide +kernel
theorem dX6_age_1 : decode cX6_age 1 = .ok (.getfield 24, 3) := by decide +kernel
theorem dX6_age_4 : decode cX6_age 4 = .ok (.getfield 83, 3) := by decide +kernel
theorem dX6_age_7 : decode cX6_age 7 = .ok (.iload_n 1, 1) := by decide +kernel
theorem dX6_age_8 : decode cX6_age 8 = .ok (.invokevirtual 34, 3) := by decide +kernel
theorem dX6_age_11 : decode cX6_age 11 = .ok (.aload_n 0, 1) := by decide +kernel
theorem dX6_age_12 : decode cX6_age 12 = .ok (.getfield 24, 3) := by decide +kernel
theorem dX6_age_15 : decode cX6_age 15 = .ok (.getfield 83, 3) := by decide +kernel
theorem dX6_age_18 : decode cX6_age 18 = .ok (.iload_n 2, 1) := by decide +kernel
theorem dX6_age_19 : decode cX6_age 19 = .ok (.invokevirtual 34, 3) := by decide +kernel
theorem dX6_age_22 : decode cX6_age 22 = .ok (.isub, 1) := by decide +kernel
theorem dX6_age_23 : decode cX6_age 23 = .ok (.ireturn, 1) := by decide +kernel
theorem dX6_once_0 : decode cX6_once 0 = .ok (.aload_n 0, 1) := by decide +kernel
theorem dX6_once_1 : decode cX6_once 1 = .ok (.iload_n 1, 1) := by decide +kernel
theorem dX6_once_2 : decode cX6_once 2 = .ok (.invokevirtual 88, 3) := by decide +kernel
theorem dX6_once_5 : decode cX6_once 5 = .ok (.ifCond .eq 36, 3) := by decide +kernel
theorem dX6_once_8 : decode cX6_once 8 = .ok (.aload_n 0, 1) := by decide +kernel
theorem dX6_once_9 : decode cX6_once 9 = .ok (.iload_n 1, 1) := by decide +kernel
theorem dX6_once_10 : decode cX6_once 10 = .ok (.iload_n 2, 1) := by decide +kernel
theorem dX6_once_11 : decode cX6_once 11 = .ok (.invokevirtual 64, 3) := by decide +kernel
theorem dX6_once_14 : decode cX6_once 14 = .ok (.lconst 0, 1) := by decide +kernel
theorem dX6_once_15 : decode cX6_once 15 = .ok (.lcmp, 1) := by decide +kernel
theorem dX6_once_16 : decode cX6_once 16 = .ok (.ifCond .ne 19, 3) := by decide +kernel
theorem dX6_once_19 : decode cX6_once 19 = .ok (.aload_n 0, 1) := by decide +kernel
theorem dX6_once_20 : decode cX6_once 20 = .ok (.getfield 14, 3) := by decide +kernel
theorem dX6_once_23 : decode cX6_once 23 = .ok (.iload_n 1, 1) := by decide +kernel
theorem dX6_once_24 : decode cX6_once 24 = .ok (.iload_n 2, 1) := by decide +kernel
theorem dX6_once_25 : decode cX6_once 25 = .ok (.iconst 1, 1) := by decide +kernel
theorem dX6_once_26 : decode cX6_once 26 = .ok (.isub, 1) := by decide +kernel
theorem dX6_once_27 : decode cX6_once 27 = .ok (.invokevirtual 59, 3) := by decide +kernel
theorem dX6_once_30 : decode cX6_once 30 = .ok (.lconst 0, 1) := by decide +kernel
theorem dX6_once_31 : decode cX6_once 31 = .ok (.lcmp, 1) := by decide +kernel
theorem dX6_once_32 : decode cX6_once 32 = .ok (.ifCond .eq 7, 3) := by decide +kernel
theorem dX6_once_35 : decode cX6_once 35 = .ok (.iconst 1, 1) := by decide +kernel
theorem dX6_once_36 : decode cX6_once 36 = .ok (.goto 4, 3) := by decide +kernel
theorem dX6_once_39 : decode cX6_once 39 = .ok (.iconst 0, 1) := by decide +kernel
theorem dX6_once_40 : decode cX6_once 40 = .ok (.ireturn, 1) := by decide +kernel
theorem dX6_once_41 : decode cX6_once 41 = .ok (.aload_n 0, 1) := by decide +kernel
theorem dX6_once_42 : decode cX6_once 42 = .ok (.getfield 20, 3) := by decide +kernel
theorem dX6_once_45 : decode cX6_once 45 = .ok (.getfield 79, 3) := by decide +kernel
theorem dX6_once_48 : decode cX6_once 48 = .ok (.iload_n 1, 1) := by decide +kernel
theorem dX6_once_49 : decode cX6_once 49 = .ok (.invokevirtual 34, 3) := by decide +kernel
theorem dX6_once_52 : decode cX6_once 52 = .ok (.istore_n 3, 1) := by decide +kernel
theorem dX6_once_53 : decode cX6_once 53 = .ok (.aload_n 0, 1) := by decide +kernel
theorem dX6_once_54 : decode cX6_once 54 = .ok (.getfield 20, 3) := by decide +kernel
theorem dX6_once_57 : decode cX6_once 57 = .ok (.getfield 91, 3) := by decide +kernel
theorem dX6_once_60 : decode cX6_once 60 = .ok (.iload_n 1, 1) := by decide +kernel
theorem dX6_once_61 : decode cX6_once 61 = .ok (.invokevirtual 34, 3) := by decide +kernel
theorem dX6_once_64 : decode cX6_once 64 = .ok (.istore 4, 2) := by decide +kernel
theorem dX6_once_66 : decode cX6_once 66 = .ok (.iload_n 2, 1) := by decide +kernel
theorem dX6_once_67 : decode cX6_once 67 = .ok (.istore 5, 2) := by decide +kernel
theorem dX6_once_69 : decode cX6_once 69 = .ok (.iload 5, 2) := by decide +kernel
theorem dX6_once_71 : decode cX6_once 71 = .ok (.ifCond .lt 46, 3) := by decide +kernel
theorem dX6_once_74 : decode cX6_once 74 = .ok (.aload_n 0, 1) := by decide +kernel
theorem dX6_once_75 : decode cX6_once 75 = .ok (.iload_n 2, 1) := by decide +kernel
theorem dX6_once_76 : decode cX6_once 76 = .ok (.iload 5, 2) := by decide +kernel
theorem dX6_once_78 : decode cX6_once 78 = .ok (.invokevirtual 94, 3) := by decide +kernel
theorem dX6_once_81 : decode cX6_once 81 = .ok (.iload_n 3, 1) := by decide +kernel
theorem dX6_once_82 : decode cX6_once 82 = .ok (.if_icmp .gt 35, 3) := by decide +kernel
theorem dX6_once_85 : decode cX6_once 85 = .ok (.aload_n 0, 1) := by decide +kernel
theorem dX6_once_86 : decode cX6_once 86 = .ok (.iload_n 2, 1) := by decide +kernel
theorem dX6_once_87 : decode cX6_once 87 = .ok (.iload 5, 2) := by decide +kernel
theorem dX6_once_89 : decode cX6_once 89 = .ok (.invokevirtual 94, 3) := by decide +kernel
theorem dX6_once_92 : decode cX6_once 92 = .ok (.iload 4, 2) := by decide +kernel
theorem dX6_once_94 : decode cX6_once 94 = .ok (.if_icmp .lt 17, 3) := by decide +kernel
theorem dX6_once_97 : decode cX6_once 97 = .ok (.aload_n 0, 1) := by decide +kernel
theorem dX6_once_98 : decode cX6_once 98 = .ok (.iload_n 1, 1) := by decide +kernel
theorem dX6_once_99 : decode cX6_once 99 = .ok (.iload 5, 2) := by decide +kernel
theorem dX6_once_101 : decode cX6_once 101 = .ok (.invokevirtual 64, 3) := by decide +kernel
theorem dX6_once_104 : decode cX6_once 104 = .ok (.lconst 0, 1) := by decide +kernel
theorem dX6_once_105 : decode cX6_once 105 = .ok (.lcmp, 1) := by decide +kernel
theorem dX6_once_106 : decode cX6_once 106 = .ok (.ifCond .eq 5, 3) := by decide +kernel
theorem dX6_once_109 : decode cX6_once 109 = .ok (.iconst 1, 1) := by decide +kernel
theorem dX6_once_110 : decode cX6_once 110 = .ok (.ireturn, 1) := by decide +kernel
theorem dX6_once_111 : decode cX6_once 111 = .ok (.iinc 5 (-1), 3) := by decide +kernel
theorem dX6_once_114 : decode cX6_once 114 = .ok (.goto (-45), 3) := by decide +kernel
theorem dX6_once_117 : decode cX6_once 117 = .ok (.iconst 0, 1) := by decide +kernel
theorem dX6_once_118 : decode cX6_once 118 = .ok (.ireturn, 1) := by decide +kernel
theorem dX6_always_0 : decode cX6_always 0 = .ok (.aload_n 0, 1) := by decide +kernel
theorem dX6_always_1 : decode cX6_always 1 = .ok (.iload_n 1, 1) := by decide +kernel
theorem dX6_always_2 : decode cX6_always 2 = .ok (.invokevirtual 88, 3) := by decide +kernel
theorem dX6_always_5 : decode cX6_always 5 = .ok (.ifCond .eq 40, 3) := by decide +kernel
theorem dX6_always_8 : decode cX6_always 8 = .ok (.aload_n 0, 1) := by decide +kernel
theorem dX6_always_9 : decode cX6_always 9 = .ok (.iload_n 1, 1) := by decide +kernel
theorem dX6_always_10 : decode cX6_always 10 = .ok (.iload_n 2, 1) := by decide +kernel
theorem dX6_always_11 : decode cX6_always 11 = .ok (.invokevirtual 64, 3) := by decide +kernel
theorem dX6_always_14 : decode cX6_always 14 = .ok (.lconst 0, 1) := by decide +kernel
theorem dX6_always_15 : decode cX6_always 15 = .ok (.lcmp, 1) := by decide +kernel
theorem dX6_always_16 : decode cX6_always 16 = .ok (.ifCond .eq 27, 3) := by decide +kernel
theorem dX6_always_19 : decode cX6_always 19 = .ok (.iload_n 2, 1) := by decide +kernel
theorem dX6_always_20 : decode cX6_always 20 = .ok (.ifCond .eq 19, 3) := by decide +kernel
theorem dX6_always_23 : decode cX6_always 23 = .ok (.aload_n 0, 1) := by decide +kernel
theorem dX6_always_24 : decode cX6_always 24 = .ok (.getfield 14, 3) := by decide +kernel
theorem dX6_always_27 : decode cX6_always 27 = .ok (.iload_n 1, 1) := by decide +kernel
theorem dX6_always_28 : decode cX6_always 28 = .ok (.iload_n 2, 1) := by decide +kernel
theorem dX6_always_29 : decode cX6_always 29 = .ok (.iconst 1, 1) := by decide +kernel
theorem dX6_always_30 : decode cX6_always 30 = .ok (.isub, 1) := by decide +kernel
theorem dX6_always_31 : decode cX6_always 31 = .ok (.invokevirtual 59, 3) := by decide +kernel
theorem dX6_always_34 : decode cX6_always 34 = .ok (.lconst 0, 1) := by decide +kernel
theorem dX6_always_35 : decode cX6_always 35 = .ok (.lcmp, 1) := by decide +kernel
theorem dX6_always_36 : decode cX6_always 36 = .ok (.ifCond .eq 7, 3) := by decide +kernel
theorem dX6_always_39 : decode cX6_always 39 = .ok (.iconst 1, 1) := by decide +kernel
theorem dX6_always_40 : decode cX6_always 40 = .ok (.goto 4, 3) := by decide +kernel
theorem dX6_always_43 : decode cX6_always 43 = .ok (.iconst 0, 1) := by decide +kernel
theorem dX6_always_44 : decode cX6_always 44 = .ok (.ireturn, 1) := by decide +kernel
theorem dX6_always_45 : decode cX6_always 45 = .ok (.aload_n 0, 1) := by decide +kernel
theorem dX6_always_46 : decode cX6_always 46 = .ok (.iload_n 1, 1) := by decide +kernel
theorem dX6_always_47 : decode cX6_always 47 = .ok (.iload_n 2, 1) := by decide +kernel
theorem dX6_always_48 : decode cX6_always 48 = .ok (.invokevirtual 98, 3) := by decide +kernel
theorem dX6_always_51 : decode cX6_always 51 = .ok (.iconst (-1), 1) := by decide +kernel
theorem dX6_always_52 : decode cX6_always 52 = .ok (.if_icmp .ne 7, 3) := by decide +kernel
theorem dX6_always_55 : decode cX6_always 55 = .ok (.iconst 1, 1) := by decide +kernel
theorem dX6_always_56 : decode cX6_always 56 = .ok (.goto 4, 3) := by decide +kernel
theorem dX6_always_59 : decode cX6_always 59 = .ok (.iconst 0, 1) := by decide +kernel
theorem dX6_always_60 : decode cX6_always 60 = .ok (.ireturn, 1) := by decide +kernel
theorem dX6_firstBreak_0 : decode cX6_firstBreak 0 = .ok (.aload_n 0, 1) := by decide +kernel
theorem dX6_firstBreak_1 : decode cX6_firstBreak 1 = .ok (.getfield 20, 3) := by decide +kernel
theorem dX6_firstBreak_4 : decode cX6_firstBreak 4 = .ok (.getfield 79, 3) := by decide +kernel
theorem dX6_firstBreak_7 : decode cX6_firstBreak 7 = .ok (.iload_n 1, 1) := by decide +kernel
theorem dX6_firstBreak_8 : decode cX6_firstBreak 8 = .ok (.invokevirtual 34, 3) := by decide +kernel
theorem dX6_firstBreak_11 : decode cX6_firstBreak 11 = .ok (.istore_n 3, 1) := by decide +kernel
theorem dX6_firstBreak_12 : decode cX6_firstBreak 12 = .ok (.aload_n 0, 1) := by decide +kernel
theorem dX6_firstBreak_13 : decode cX6_firstBreak 13 = .ok (.getfield 20, 3) := by decide +kernel
theorem dX6_firstBreak_16 : decode cX6_firstBreak 16 = .ok (.getfield 91, 3) := by decide +kernel
theorem dX6_firstBreak_19 : decode cX6_firstBreak 19 = .ok (.iload_n 1, 1) := by decide +kernel
theorem dX6_firstBreak_20 : decode cX6_firstBreak 20 = .ok (.invokevirtual 34, 3) := by decide +kernel
theorem dX6_firstBreak_23 : decode cX6_firstBreak 23 = .ok (.istore 4, 2) := by decide +kernel
theorem dX6_firstBreak_25 : decode cX6_firstBreak 25 = .ok (.iconst 0, 1) := by decide +kernel
theorem dX6_firstBreak_26 : decode cX6_firstBreak 26 = .ok (.istore 5, 2) := by decide +kernel
theorem dX6_firstBreak_28 : decode cX6_firstBreak 28 = .ok (.iload 5, 2) := by decide +kernel
theorem dX6_firstBreak_30 : decode cX6_firstBreak 30 = .ok (.iload_n 2, 1) := by decide +kernel
theorem dX6_firstBreak_31 : decode cX6_firstBreak 31 = .ok (.if_icmp .gt 46, 3) := by decide +kernel
theorem dX6_firstBreak_34 : decode cX6_firstBreak 34 = .ok (.aload_n 0, 1) := by decide +kernel
theorem dX6_firstBreak_35 : decode cX6_firstBreak 35 = .ok (.iload_n 2, 1) := by decide +kernel
theorem dX6_firstBreak_36 : decode cX6_firstBreak 36 = .ok (.iload 5, 2) := by decide +kernel
theorem dX6_firstBreak_38 : decode cX6_firstBreak 38 = .ok (.invokevirtual 94, 3) := by decide +kernel
theorem dX6_firstBreak_41 : decode cX6_firstBreak 41 = .ok (.istore 6, 2) := by decide +kernel
theorem dX6_firstBreak_43 : decode cX6_firstBreak 43 = .ok (.iload 6, 2) := by decide +kernel
theorem dX6_firstBreak_45 : decode cX6_firstBreak 45 = .ok (.iload 4, 2) := by decide +kernel
theorem dX6_firstBreak_47 : decode cX6_firstBreak 47 = .ok (.if_icmp .lt 24, 3) := by decide +kernel
theorem dX6_firstBreak_50 : decode cX6_firstBreak 50 = .ok (.iload 6, 2) := by decide +kernel
theorem dX6_firstBreak_52 : decode cX6_firstBreak 52 = .ok (.iload_n 3, 1) := by decide +kernel
theorem dX6_firstBreak_53 : decode cX6_firstBreak 53 = .ok (.if_icmp .gt 18, 3) := by decide +kernel
theorem dX6_firstBreak_56 : decode cX6_firstBreak 56 = .ok (.aload_n 0, 1) := by decide +kernel
theorem dX6_firstBreak_57 : decode cX6_firstBreak 57 = .ok (.iload_n 1, 1) := by decide +kernel
theorem dX6_firstBreak_58 : decode cX6_firstBreak 58 = .ok (.iload 5, 2) := by decide +kernel
theorem dX6_firstBreak_60 : decode cX6_firstBreak 60 = .ok (.invokevirtual 64, 3) := by decide +kernel
theorem dX6_firstBreak_63 : decode cX6_firstBreak 63 = .ok (.lconst 0, 1) := by decide +kernel
theorem dX6_firstBreak_64 : decode cX6_firstBreak 64 = .ok (.lcmp, 1) := by decide +kernel
theorem dX6_firstBreak_65 : decode cX6_firstBreak 65 = .ok (.ifCond .ne 6, 3) := by decide +kernel
theorem dX6_firstBreak_68 : decode cX6_firstBreak 68 = .ok (.iload 5, 2) := by decide +kernel
theorem dX6_firstBreak_70 : decode cX6_firstBreak 70 = .ok (.ireturn, 1) := by decide +kernel
theorem dX6_firstBreak_71 : decode cX6_firstBreak 71 = .ok (.iinc 5 1, 3) := by decide +kernel
theorem dX6_firstBreak_74 : decode cX6_firstBreak 74 = .ok (.goto (-46), 3) := by decide +kernel
theorem dX6_firstBreak_77 : decode cX6_firstBreak 77 = .ok (.iconst (-1), 1) := by decide +kernel
theorem dX6_firstBreak_78 : decode cX6_firstBreak 78 = .ok (.ireturn, 1) := by decide +kernel
theorem dX6_since_0 : decode cX6_since 0 = .ok (.aload_n 0, 1) := by decide +kernel
theorem dX6_since_1 : decode cX6_since 1 = .ok (.iload_n 1, 1) := by decide +kernel
theorem dX6_since_2 : decode cX6_since 2 = .ok (.invokevirtual 88, 3) := by decide +kernel
theorem dX6_since_5 : decode cX6_since 5 = .ok (.ifCond .eq 47, 3) := by decide +kernel
theorem dX6_since_8 : decode cX6_since 8 = .ok (.aload_n 0, 1) := by decide +kernel
theorem dX6_since_9 : decode cX6_since 9 = .ok (.iload_n 1, 1) := by decide +kernel
theorem dX6_since_10 : decode cX6_since 10 = .ok (.iload_n 2, 1) := by decide +kernel
theorem dX6_since_11 : decode cX6_since 11 = .ok (.invokevirtual 67, 3) := by decide +kernel
theorem dX6_since_14 : decode cX6_since 14 = .ok (.lconst 0, 1) := by decide +kernel
theorem dX6_since_15 : decode cX6_since 15 = .ok (.lcmp, 1) := by decide +kernel
theorem dX6_since_16 : decode cX6_since 16 = .ok (.ifCond .ne 30, 3) := by decide +kernel
theorem dX6_since_19 : decode cX6_since 19 = .ok (.aload_n 0, 1) := by decide +kernel
theorem dX6_since_20 : decode cX6_since 20 = .ok (.iload_n 1, 1) := by decide +kernel
theorem dX6_since_21 : decode cX6_since 21 = .ok (.iload_n 2, 1) := by decide +kernel
theorem dX6_since_22 : decode cX6_since 22 = .ok (.invokevirtual 64, 3) := by decide +kernel
theorem dX6_since_25 : decode cX6_since 25 = .ok (.lconst 0, 1) := by decide +kernel
theorem dX6_since_26 : decode cX6_since 26 = .ok (.lcmp, 1) := by decide +kernel
theorem dX6_since_27 : decode cX6_since 27 = .ok (.ifCond .eq 23, 3) := by decide +kernel
theorem dX6_since_30 : decode cX6_since 30 = .ok (.aload_n 0, 1) := by decide +kernel
theorem dX6_since_31 : decode cX6_since 31 = .ok (.getfield 14, 3) := by decide +kernel
theorem dX6_since_34 : decode cX6_since 34 = .ok (.iload_n 1, 1) := by decide +kernel
theorem dX6_since_35 : decode cX6_since 35 = .ok (.iload_n 2, 1) := by decide +kernel
theorem dX6_since_36 : decode cX6_since 36 = .ok (.iconst 1, 1) := by decide +kernel
theorem dX6_since_37 : decode cX6_since 37 = .ok (.isub, 1) := by decide +kernel
theorem dX6_since_38 : decode cX6_since 38 = .ok (.invokevirtual 59, 3) := by decide +kernel
theorem dX6_since_41 : decode cX6_since 41 = .ok (.lconst 0, 1) := by decide +kernel
theorem dX6_since_42 : decode cX6_since 42 = .ok (.lcmp, 1) := by decide +kernel
theorem dX6_since_43 : decode cX6_since 43 = .ok (.ifCond .eq 7, 3) := by decide +kernel
theorem dX6_since_46 : decode cX6_since 46 = .ok (.iconst 1, 1) := by decide +kernel
theorem dX6_since_47 : decode cX6_since 47 = .ok (.goto 4, 3) := by decide +kernel
theorem dX6_since_50 : decode cX6_since 50 = .ok (.iconst 0, 1) := by decide +kernel
theorem dX6_since_51 : decode cX6_since 51 = .ok (.ireturn, 1) := by decide +kernel
theorem dX6_since_52 : decode cX6_since 52 = .ok (.aload_n 0, 1) := by decide +kernel
theorem dX6_since_53 : decode cX6_since 53 = .ok (.getfield 20, 3) := by decide +kernel
theorem dX6_since_56 : decode cX6_since 56 = .ok (.getfield 79, 3) := by decide +kernel
theorem dX6_since_59 : decode cX6_since 59 = .ok (.iload_n 1, 1) := by decide +kernel
theorem dX6_since_60 : decode cX6_since 60 = .ok (.invokevirtual 34, 3) := by decide +kernel
theorem dX6_since_63 : decode cX6_since 63 = .ok (.istore_n 3, 1) := by decide +kernel
theorem dX6_since_64 : decode cX6_since 64 = .ok (.aload_n 0, 1) := by decide +kernel
theorem dX6_since_65 : decode cX6_since 65 = .ok (.getfield 20, 3) := by decide +kernel
theorem dX6_since_68 : decode cX6_since 68 = .ok (.getfield 91, 3) := by decide +kernel
theorem dX6_since_71 : decode cX6_since 71 = .ok (.iload_n 1, 1) := by decide +kernel
theorem dX6_since_72 : decode cX6_since 72 = .ok (.invokevirtual 34, 3) := by decide +kernel
theorem dX6_since_75 : decode cX6_since 75 = .ok (.istore 4, 2) := by decide +kernel
theorem dX6_since_77 : decode cX6_since 77 = .ok (.iload_n 2, 1) := by decide +kernel
theorem dX6_since_78 : decode cX6_since 78 = .ok (.istore 5, 2) := by decide +kernel
theorem dX6_since_80 : decode cX6_since 80 = .ok (.iload 5, 2) := by decide +kernel
theorem dX6_since_82 : decode cX6_since 82 = .ok (.ifCond .lt 60, 3) := by decide +kernel
theorem dX6_since_85 : decode cX6_since 85 = .ok (.aload_n 0, 1) := by decide +kernel
theorem dX6_since_86 : decode cX6_since 86 = .ok (.iload_n 2, 1) := by decide +kernel
theorem dX6_since_87 : decode cX6_since 87 = .ok (.iload 5, 2) := by decide +kernel
theorem dX6_since_89 : decode cX6_since 89 = .ok (.invokevirtual 94, 3) := by decide +kernel
theorem dX6_since_92 : decode cX6_since 92 = .ok (.iload_n 3, 1) := by decide +kernel
theorem dX6_since_93 : decode cX6_since 93 = .ok (.if_icmp .gt 49, 3) := by decide +kernel
theorem dX6_since_96 : decode cX6_since 96 = .ok (.aload_n 0, 1) := by decide +kernel
theorem dX6_since_97 : decode cX6_since 97 = .ok (.iload_n 2, 1) := by decide +kernel
theorem dX6_since_98 : decode cX6_since 98 = .ok (.iload 5, 2) := by decide +kernel
theorem dX6_since_100 : decode cX6_since 100 = .ok (.invokevirtual 94, 3) := by decide +kernel
theorem dX6_since_103 : decode cX6_since 103 = .ok (.iload 4, 2) := by decide +kernel
theorem dX6_since_105 : decode cX6_since 105 = .ok (.if_icmp .lt 17, 3) := by decide +kernel
theorem dX6_since_108 : decode cX6_since 108 = .ok (.aload_n 0, 1) := by decide +kernel
theorem dX6_since_109 : decode cX6_since 109 = .ok (.iload_n 1, 1) := by decide +kernel
theorem dX6_since_110 : decode cX6_since 110 = .ok (.iload 5, 2) := by decide +kernel
theorem dX6_since_112 : decode cX6_since 112 = .ok (.invokevirtual 67, 3) := by decide +kernel
theorem dX6_since_115 : decode cX6_since 115 = .ok (.lconst 0, 1) := by decide +kernel
theorem dX6_since_116 : decode cX6_since 116 = .ok (.lcmp, 1) := by decide +kernel
theorem dX6_since_117 : decode cX6_since 117 = .ok (.ifCond .eq 5, 3) := by decide +kernel
theorem dX6_since_120 : decode cX6_since 120 = .ok (.iconst 1, 1) := by decide +kernel
theorem dX6_since_121 : decode cX6_since 121 = .ok (.ireturn, 1) := by decide +kernel
theorem dX6_since_122 : decode cX6_since 122 = .ok (.aload_n 0, 1) := by decide +kernel
theorem dX6_since_123 : decode cX6_since 123 = .ok (.iload_n 1, 1) := by decide +kernel
theorem dX6_since_124 : decode cX6_since 124 = .ok (.iload 5, 2) := by decide +kernel
theorem dX6_since_126 : decode cX6_since 126 = .ok (.invokevirtual 64, 3) := by decide +kernel
theorem dX6_since_129 : decode cX6_since 129 = .ok (.lconst 0, 1) := by decide +kernel
theorem dX6_since_130 : decode cX6_since 130 = .ok (.lcmp, 1) := by decide +kernel
theorem dX6_since_131 : decode cX6_since 131 = .ok (.ifCond .ne 5, 3) := by decide +kernel
theorem dX6_since_134 : decode cX6_since 134 = .ok (.iconst 0, 1) := by decide +kernel
theorem dX6_since_135 : decode cX6_since 135 = .ok (.ireturn, 1) := by decide +kernel
theorem dX6_since_136 : decode cX6_since 136 = .ok (.iinc 5 (-1), 3) := by decide +kernel
theorem dX6_since_139 : decode cX6_since 139 = .ok (.goto (-59), 3) := by decide +kernel
theorem dX6_since_142 : decode cX6_since 142 = .ok (.iconst 0, 1) := by decide +kernel
theorem dX6_since_143 : decode cX6_since 143 = .ok (.ireturn, 1) := by decide +kernel
theorem dX6_number_0 : decode cX6_number 0 = .ok (.aload_n 0, 1) := by decide +kernel
theorem dX6_number_1 : decode cX6_number 1 = .ok (.iload_n 1, 1) := by decide +kernel
theorem dX6_number_2 : decode cX6_number 2 = .ok (.iload_n 2, 1) := by decide +kernel
theorem dX6_number_3 : decode cX6_number 3 = .ok (.invokevirtual 64, 3) := by decide +kernel
theorem dX6_number_6 : decode cX6_number 6 = .ok (.lstore_n 3, 1) := by decide +kernel
theorem dX6_number_7 : decode cX6_number 7 = .ok (.aload_n 0, 1) := by decide +kernel
theorem dX6_number_8 : decode cX6_number 8 = .ok (.iload_n 1, 1) := by decide +kernel
theorem dX6_number_9 : decode cX6_number 9 = .ok (.iload_n 2, 1) := by decide +kernel
theorem dX6_number_10 : decode cX6_number 10 = .ok (.invokevirtual 67, 3) := by decide +kernel
theorem dX6_number_13 : decode cX6_number 13 = .ok (.lstore 5, 2) := by decide +kernel
theorem dX6_number_15 : decode cX6_number 15 = .ok (.aload_n 0, 1) := by decide +kernel
theorem dX6_number_16 : decode cX6_number 16 = .ok (.getfield 14, 3) := by decide +kernel
theorem dX6_number_19 : decode cX6_number 19 = .ok (.iload_n 1, 1) := by decide +kernel
theorem dX6_number_20 : decode cX6_number 20 = .ok (.iload_n 2, 1) := by decide +kernel
theorem dX6_number_21 : decode cX6_number 21 = .ok (.iconst 1, 1) := by decide +kernel
theorem dX6_number_22 : decode cX6_number 22 = .ok (.isub, 1) := by decide +kernel
theorem dX6_number_23 : decode cX6_number 23 = .ok (.invokevirtual 59, 3) := by decide +kernel
theorem dX6_number_26 : decode cX6_number 26 = .ok (.lstore 7, 2) := by decide +kernel
theorem dX6_number_28 : decode cX6_number 28 = .ok (.aload_n 0, 1) := by decide +kernel
theorem dX6_number_29 : decode cX6_number 29 = .ok (.getfield 20, 3) := by decide +kernel
theorem dX6_number_32 : decode cX6_number 32 = .ok (.getfield 28, 3) := by decide +kernel
theorem dX6_number_35 : decode cX6_number 35 = .ok (.iload_n 1, 1) := by decide +kernel
theorem dX6_number_36 : decode cX6_number 36 = .ok (.invokevirtual 34, 3) := by decide +kernel
theorem dX6_number_39 : decode cX6_number 39 = .ok (.tableswitch 451 0 55 #[250, 451, 451, 451, 451, 451, 451, 451, 451, 451, 451, 451, 451, 451, 451, 451, 451, 451, 420, 451, 451, 339, 348, 363, 378, 383, 406, 388, 273, 286, 451, 451, 451, 451, 451, 451, 451, 451, 451, 289, 294, 299, 304, 320, 451, 451, 451, 451, 451, 451, 451, 451, 237, 451, 451, 336], 237) := by decide +kernel
theorem dX6_number_276 : decode cX6_number 276 = .ok (.aload_n 0, 1) := by decide +kernel
theorem dX6_number_277 : decode cX6_number 277 = .ok (.getfield 20, 3) := by decide +kernel
theorem dX6_number_280 : decode cX6_number 280 = .ok (.getfield 56, 3) := by decide +kernel
theorem dX6_number_283 : decode cX6_number 283 = .ok (.iload_n 1, 1) := by decide +kernel
theorem dX6_number_284 : decode cX6_number 284 = .ok (.invokevirtual 34, 3) := by decide +kernel
theorem dX6_number_287 : decode cX6_number 287 = .ok (.i2l, 1) := by decide +kernel
theorem dX6_number_288 : decode cX6_number 288 = .ok (.lreturn, 1) := by decide +kernel
theorem dX6_number_289 : decode cX6_number 289 = .ok (.aload_n 0, 1) := by decide +kernel
theorem dX6_number_290 : decode cX6_number 290 = .ok (.getfield 24, 3) := by decide +kernel
theorem dX6_number_293 : decode cX6_number 293 = .ok (.getfield 101, 3) := by decide +kernel
theorem dX6_number_296 : decode cX6_number 296 = .ok (.aload_n 0, 1) := by decide +kernel
theorem dX6_number_297 : decode cX6_number 297 = .ok (.getfield 20, 3) := by decide +kernel
theorem dX6_number_300 : decode cX6_number 300 = .ok (.getfield 56, 3) := by decide +kernel
theorem dX6_number_303 : decode cX6_number 303 = .ok (.iload_n 1, 1) := by decide +kernel
theorem dX6_number_304 : decode cX6_number 304 = .ok (.invokevirtual 34, 3) := by decide +kernel
theorem dX6_number_307 : decode cX6_number 307 = .ok (.iload_n 2, 1) := by decide +kernel
theorem dX6_number_308 : decode cX6_number 308 = .ok (.invokevirtual 59, 3) := by decide +kernel
theorem dX6_number_311 : decode cX6_number 311 = .ok (.lreturn, 1) := by decide +kernel
theorem dX6_number_312 : decode cX6_number 312 = .ok (.aload_n 0, 1) := by decide +kernel
theorem dX6_number_313 : decode cX6_number 313 = .ok (.getfield 24, 3) := by decide +kernel
theorem dX6_number_316 : decode cX6_number 316 = .ok (.getfield 83, 3) := by decide +kernel
theorem dX6_number_319 : decode cX6_number 319 = .ok (.iload_n 2, 1) := by decide +kernel
theorem dX6_number_320 : decode cX6_number 320 = .ok (.invokevirtual 34, 3) := by decide +kernel
theorem dX6_number_323 : decode cX6_number 323 = .ok (.i2l, 1) := by decide +kernel
theorem dX6_number_324 : decode cX6_number 324 = .ok (.lreturn, 1) := by decide +kernel
theorem dX6_number_325 : decode cX6_number 325 = .ok (.iload_n 2, 1) := by decide +kernel
theorem dX6_number_326 : decode cX6_number 326 = .ok (.i2l, 1) := by decide +kernel
theorem dX6_number_327 : decode cX6_number 327 = .ok (.lreturn, 1) := by decide +kernel
theorem dX6_number_328 : decode cX6_number 328 = .ok (.lload_n 3, 1) := by decide +kernel
theorem dX6_number_329 : decode cX6_number 329 = .ok (.lload 5, 2) := by decide +kernel
theorem dX6_number_331 : decode cX6_number 331 = .ok (.ladd, 1) := by decide +kernel
theorem dX6_number_332 : decode cX6_number 332 = .ok (.lreturn, 1) := by decide +kernel
theorem dX6_number_333 : decode cX6_number 333 = .ok (.lload_n 3, 1) := by decide +kernel
theorem dX6_number_334 : decode cX6_number 334 = .ok (.lload 5, 2) := by decide +kernel
theorem dX6_number_336 : decode cX6_number 336 = .ok (.lsub, 1) := by decide +kernel
theorem dX6_number_337 : decode cX6_number 337 = .ok (.lreturn, 1) := by decide +kernel
theorem dX6_number_338 : decode cX6_number 338 = .ok (.lload_n 3, 1) := by decide +kernel
theorem dX6_number_339 : decode cX6_number 339 = .ok (.lload 5, 2) := by decide +kernel
theorem dX6_number_341 : decode cX6_number 341 = .ok (.lmul, 1) := by decide +kernel
theorem dX6_number_342 : decode cX6_number 342 = .ok (.lreturn, 1) := by decide +kernel
theorem dX6_number_343 : decode cX6_number 343 = .ok (.lload 5, 2) := by decide +kernel
theorem dX6_number_345 : decode cX6_number 345 = .ok (.lconst 0, 1) := by decide +kernel
theorem dX6_number_346 : decode cX6_number 346 = .ok (.lcmp, 1) := by decide +kernel
theorem dX6_number_347 : decode cX6_number 347 = .ok (.ifCond .ne 7, 3) := by decide +kernel
theorem dX6_number_350 : decode cX6_number 350 = .ok (.lconst 0, 1) := by decide +kernel
theorem dX6_number_351 : decode cX6_number 351 = .ok (.goto 7, 3) := by decide +kernel
theorem dX6_number_354 : decode cX6_number 354 = .ok (.lload_n 3, 1) := by decide +kernel
theorem dX6_number_355 : decode cX6_number 355 = .ok (.lload 5, 2) := by decide +kernel
theorem dX6_number_357 : decode cX6_number 357 = .ok (.ldiv, 1) := by decide +kernel
theorem dX6_number_358 : decode cX6_number 358 = .ok (.lreturn, 1) := by decide +kernel
theorem dX6_number_359 : decode cX6_number 359 = .ok (.lload 5, 2) := by decide +kernel
theorem dX6_number_361 : decode cX6_number 361 = .ok (.lconst 0, 1) := by decide +kernel
theorem dX6_number_362 : decode cX6_number 362 = .ok (.lcmp, 1) := by decide +kernel
theorem dX6_number_363 : decode cX6_number 363 = .ok (.ifCond .ne 7, 3) := by decide +kernel
theorem dX6_number_366 : decode cX6_number 366 = .ok (.lconst 0, 1) := by decide +kernel
theorem dX6_number_367 : decode cX6_number 367 = .ok (.goto 7, 3) := by decide +kernel
theorem dX6_number_370 : decode cX6_number 370 = .ok (.lload_n 3, 1) := by decide +kernel
theorem dX6_number_371 : decode cX6_number 371 = .ok (.lload 5, 2) := by decide +kernel
theorem dX6_number_373 : decode cX6_number 373 = .ok (.lrem, 1) := by decide +kernel
theorem dX6_number_374 : decode cX6_number 374 = .ok (.lreturn, 1) := by decide +kernel
theorem dX6_number_375 : decode cX6_number 375 = .ok (.lload_n 3, 1) := by decide +kernel
theorem dX6_number_376 : decode cX6_number 376 = .ok (.lneg, 1) := by decide +kernel
theorem dX6_number_377 : decode cX6_number 377 = .ok (.lreturn, 1) := by decide +kernel
theorem dX6_number_378 : decode cX6_number 378 = .ok (.aload_n 0, 1) := by decide +kernel
theorem dX6_number_379 : decode cX6_number 379 = .ok (.iload_n 1, 1) := by decide +kernel
theorem dX6_number_380 : decode cX6_number 380 = .ok (.iload_n 2, 1) := by decide +kernel
theorem dX6_number_381 : decode cX6_number 381 = .ok (.iconst 1, 1) := by decide +kernel
theorem dX6_number_382 : decode cX6_number 382 = .ok (.isub, 1) := by decide +kernel
theorem dX6_number_383 : decode cX6_number 383 = .ok (.invokevirtual 64, 3) := by decide +kernel
theorem dX6_number_386 : decode cX6_number 386 = .ok (.lreturn, 1) := by decide +kernel
theorem dX6_number_387 : decode cX6_number 387 = .ok (.iload_n 2, 1) := by decide +kernel
theorem dX6_number_388 : decode cX6_number 388 = .ok (.ifCond .ne 7, 3) := by decide +kernel
theorem dX6_number_391 : decode cX6_number 391 = .ok (.lload_n 3, 1) := by decide +kernel
theorem dX6_number_392 : decode cX6_number 392 = .ok (.goto 9, 3) := by decide +kernel
theorem dX6_number_395 : decode cX6_number 395 = .ok (.lload 7, 2) := by decide +kernel
theorem dX6_number_397 : decode cX6_number 397 = .ok (.lload_n 3, 1) := by decide +kernel
theorem dX6_number_398 : decode cX6_number 398 = .ok (.invokestatic 104, 3) := by decide +kernel
theorem dX6_number_401 : decode cX6_number 401 = .ok (.lreturn, 1) := by decide +kernel
theorem dX6_number_402 : decode cX6_number 402 = .ok (.iload_n 2, 1) := by decide +kernel
theorem dX6_number_403 : decode cX6_number 403 = .ok (.ifCond .ne 7, 3) := by decide +kernel
theorem dX6_number_406 : decode cX6_number 406 = .ok (.lload_n 3, 1) := by decide +kernel
theorem dX6_number_407 : decode cX6_number 407 = .ok (.goto 9, 3) := by decide +kernel
theorem dX6_number_410 : decode cX6_number 410 = .ok (.lload 7, 2) := by decide +kernel
theorem dX6_number_412 : decode cX6_number 412 = .ok (.lload_n 3, 1) := by decide +kernel
theorem dX6_number_413 : decode cX6_number 413 = .ok (.invokestatic 110, 3) := by decide +kernel
theorem dX6_number_416 : decode cX6_number 416 = .ok (.lreturn, 1) := by decide +kernel
theorem dX6_number_417 : decode cX6_number 417 = .ok (.lload 7, 2) := by decide +kernel
theorem dX6_number_419 : decode cX6_number 419 = .ok (.lload_n 3, 1) := by decide +kernel
theorem dX6_number_420 : decode cX6_number 420 = .ok (.ladd, 1) := by decide +kernel
theorem dX6_number_421 : decode cX6_number 421 = .ok (.lreturn, 1) := by decide +kernel
theorem dX6_number_422 : decode cX6_number 422 = .ok (.lload 7, 2) := by decide +kernel
theorem dX6_number_424 : decode cX6_number 424 = .ok (.lload_n 3, 1) := by decide +kernel
theorem dX6_number_425 : decode cX6_number 425 = .ok (.ladd, 1) := by decide +kernel
theorem dX6_number_426 : decode cX6_number 426 = .ok (.lreturn, 1) := by decide +kernel
theorem dX6_number_427 : decode cX6_number 427 = .ok (.lload_n 3, 1) := by decide +kernel
theorem dX6_number_428 : decode cX6_number 428 = .ok (.lconst 0, 1) := by decide +kernel
theorem dX6_number_429 : decode cX6_number 429 = .ok (.lcmp, 1) := by decide +kernel
theorem dX6_number_430 : decode cX6_number 430 = .ok (.ifCond .eq 7, 3) := by decide +kernel
theorem dX6_number_433 : decode cX6_number 433 = .ok (.lconst 0, 1) := by decide +kernel
theorem dX6_number_434 : decode cX6_number 434 = .ok (.goto 10, 3) := by decide +kernel
theorem dX6_number_437 : decode cX6_number 437 = .ok (.aload_n 0, 1) := by decide +kernel
theorem dX6_number_438 : decode cX6_number 438 = .ok (.lload 7, 2) := by decide +kernel
theorem dX6_number_440 : decode cX6_number 440 = .ok (.iload_n 2, 1) := by decide +kernel
theorem dX6_number_441 : decode cX6_number 441 = .ok (.invokevirtual 113, 3) := by decide +kernel
theorem dX6_number_444 : decode cX6_number 444 = .ok (.lreturn, 1) := by decide +kernel
theorem dX6_number_445 : decode cX6_number 445 = .ok (.lload_n 3, 1) := by decide +kernel
theorem dX6_number_446 : decode cX6_number 446 = .ok (.lconst 0, 1) := by decide +kernel
theorem dX6_number_447 : decode cX6_number 447 = .ok (.lcmp, 1) := by decide +kernel
theorem dX6_number_448 : decode cX6_number 448 = .ok (.ifCond .eq 8, 3) := by decide +kernel
theorem dX6_number_451 : decode cX6_number 451 = .ok (.lload 5, 2) := by decide +kernel
theorem dX6_number_453 : decode cX6_number 453 = .ok (.goto 5, 3) := by decide +kernel
theorem dX6_number_456 : decode cX6_number 456 = .ok (.lload 7, 2) := by decide +kernel
theorem dX6_number_458 : decode cX6_number 458 = .ok (.lreturn, 1) := by decide +kernel
theorem dX6_number_459 : decode cX6_number 459 = .ok (.lload_n 3, 1) := by decide +kernel
theorem dX6_number_460 : decode cX6_number 460 = .ok (.lconst 0, 1) := by decide +kernel
theorem dX6_number_461 : decode cX6_number 461 = .ok (.lcmp, 1) := by decide +kernel
theorem dX6_number_462 : decode cX6_number 462 = .ok (.ifCond .eq 8, 3) := by decide +kernel
theorem dX6_number_465 : decode cX6_number 465 = .ok (.lload 5, 2) := by decide +kernel
theorem dX6_number_467 : decode cX6_number 467 = .ok (.goto 22, 3) := by decide +kernel
theorem dX6_number_470 : decode cX6_number 470 = .ok (.aload_n 0, 1) := by decide +kernel
theorem dX6_number_471 : decode cX6_number 471 = .ok (.getfield 14, 3) := by decide +kernel
theorem dX6_number_474 : decode cX6_number 474 = .ok (.aload_n 0, 1) := by decide +kernel
theorem dX6_number_475 : decode cX6_number 475 = .ok (.getfield 20, 3) := by decide +kernel
theorem dX6_number_478 : decode cX6_number 478 = .ok (.getfield 117, 3) := by decide +kernel
theorem dX6_number_481 : decode cX6_number 481 = .ok (.iload_n 1, 1) := by decide +kernel
theorem dX6_number_482 : decode cX6_number 482 = .ok (.invokevirtual 34, 3) := by decide +kernel
theorem dX6_number_485 : decode cX6_number 485 = .ok (.iload_n 2, 1) := by decide +kernel
theorem dX6_number_486 : decode cX6_number 486 = .ok (.invokevirtual 59, 3) := by decide +kernel
theorem dX6_number_489 : decode cX6_number 489 = .ok (.lreturn, 1) := by decide +kernel
theorem dX6_number_490 : decode cX6_number 490 = .ok (.lconst 0, 1) := by decide +kernel
theorem dX6_number_491 : decode cX6_number 491 = .ok (.lreturn, 1) := by decide +kernel
theorem dX6_ageOfLast_0 : decode cX6_ageOfLast 0 = .ok (.iload_n 3, 1) := by decide +kernel
theorem dX6_ageOfLast_1 : decode cX6_ageOfLast 1 = .ok (.ifCond .eq 9, 3) := by decide +kernel
theorem dX6_ageOfLast_4 : decode cX6_ageOfLast 4 = .ok (.lload_n 1, 1) := by decide +kernel
theorem dX6_ageOfLast_5 : decode cX6_ageOfLast 5 = .ok (.lconst 0, 1) := by decide +kernel
theorem dX6_ageOfLast_6 : decode cX6_ageOfLast 6 = .ok (.lcmp, 1) := by decide +kernel
theorem dX6_ageOfLast_7 : decode cX6_ageOfLast 7 = .ok (.ifCond .ge 9, 3) := by decide +kernel
theorem dX6_ageOfLast_10 : decode cX6_ageOfLast 10 = .ok (.ldc2_w 120, 3) := by decide +kernel
theorem dX6_ageOfLast_13 : decode cX6_ageOfLast 13 = .ok (.goto 14, 3) := by decide +kernel
theorem dX6_ageOfLast_16 : decode cX6_ageOfLast 16 = .ok (.lload_n 1, 1) := by decide +kernel
theorem dX6_ageOfLast_17 : decode cX6_ageOfLast 17 = .ok (.aload_n 0, 1) := by decide +kernel
theorem dX6_ageOfLast_18 : decode cX6_ageOfLast 18 = .ok (.iload_n 3, 1) := by decide +kernel
theorem dX6_ageOfLast_19 : decode cX6_ageOfLast 19 = .ok (.iload_n 3, 1) := by decide +kernel
theorem dX6_ageOfLast_20 : decode cX6_ageOfLast 20 = .ok (.iconst 1, 1) := by decide +kernel
theorem dX6_ageOfLast_21 : decode cX6_ageOfLast 21 = .ok (.isub, 1) := by decide +kernel
theorem dX6_ageOfLast_22 : decode cX6_ageOfLast 22 = .ok (.invokevirtual 94, 3) := by decide +kernel
theorem dX6_ageOfLast_25 : decode cX6_ageOfLast 25 = .ok (.i2l, 1) := by decide +kernel
theorem dX6_ageOfLast_26 : decode cX6_ageOfLast 26 = .ok (.ladd, 1) := by decide +kernel
theorem dX6_ageOfLast_27 : decode cX6_ageOfLast 27 = .ok (.lreturn, 1) := by decide +kernel
theorem dX7_init_0 : decode cX7_init 0 = .ok (.aload_n 0, 1) := by decide +kernel
theorem dX7_init_1 : decode cX7_init 1 = .ok (.invokespecial 3, 3) := by decide +kernel
theorem dX7_init_4 : decode cX7_init 4 = .ok (.aload_n 0, 1) := by decide +kernel
theorem dX7_init_5 : decode cX7_init 5 = .ok (.iconst 0, 1) := by decide +kernel
theorem dX7_init_6 : decode cX7_init 6 = .ok (.iload_n 1, 1) := by decide +kernel
theorem dX7_init_7 : decode cX7_init 7 = .ok (.invokestatic 9, 3) := by decide +kernel
theorem dX7_init_10 : decode cX7_init 10 = .ok (.bipush 120, 2) := by decide +kernel
theorem dX7_init_12 : decode cX7_init 12 = .ok (.multianewarray 15 2, 4) := by decide +kernel
theorem dX7_init_16 : decode cX7_init 16 = .ok (.putfield 17, 3) := by decide +kernel
theorem dX7_init_19 : decode cX7_init 19 = .ok (.return_, 1) := by decide +kernel
theorem dX7_get_0 : decode cX7_get 0 = .ok (.iload_n 1, 1) := by decide +kernel
theorem dX7_get_1 : decode cX7_get 1 = .ok (.ifCond .lt 12, 3) := by decide +kernel
theorem dX7_get_4 : decode cX7_get 4 = .ok (.iload_n 1, 1) := by decide +kernel
theorem dX7_get_5 : decode cX7_get 5 = .ok (.aload_n 0, 1) := by decide +kernel
theorem dX7_get_6 : decode cX7_get 6 = .ok (.getfield 17, 3) := by decide +kernel
theorem dX7_get_9 : decode cX7_get 9 = .ok (.arraylength, 1) := by decide +kernel
theorem dX7_get_10 : decode cX7_get 10 = .ok (.if_icmp .lt 5, 3) := by decide +kernel
theorem dX7_get_13 : decode cX7_get 13 = .ok (.lconst 0, 1) := by decide +kernel
theorem dX7_get_14 : decode cX7_get 14 = .ok (.lreturn, 1) := by decide +kernel
theorem dX7_get_15 : decode cX7_get 15 = .ok (.aload_n 0, 1) := by decide +kernel
theorem dX7_get_16 : decode cX7_get 16 = .ok (.getfield 17, 3) := by decide +kernel
theorem dX7_get_19 : decode cX7_get 19 = .ok (.iload_n 1, 1) := by decide +kernel
theorem dX7_get_20 : decode cX7_get 20 = .ok (.aaload, 1) := by decide +kernel
theorem dX7_get_21 : decode cX7_get 21 = .ok (.astore_n 3, 1) := by decide +kernel
theorem dX7_get_22 : decode cX7_get 22 = .ok (.aload_n 3, 1) := by decide +kernel
theorem dX7_get_23 : decode cX7_get 23 = .ok (.ifnull 19, 3) := by decide +kernel
theorem dX7_get_26 : decode cX7_get 26 = .ok (.iload_n 2, 1) := by decide +kernel
theorem dX7_get_27 : decode cX7_get 27 = .ok (.ifCond .lt 15, 3) := by decide +kernel
theorem dX7_get_30 : decode cX7_get 30 = .ok (.iload_n 2, 1) := by decide +kernel
theorem dX7_get_31 : decode cX7_get 31 = .ok (.aload_n 3, 1) := by decide +kernel
theorem dX7_get_32 : decode cX7_get 32 = .ok (.arraylength, 1) := by decide +kernel
theorem dX7_get_33 : decode cX7_get 33 = .ok (.if_icmp .ge 9, 3) := by decide +kernel
theorem dX7_get_36 : decode cX7_get 36 = .ok (.aload_n 3, 1) := by decide +kernel
theorem dX7_get_37 : decode cX7_get 37 = .ok (.iload_n 2, 1) := by decide +kernel
theorem dX7_get_38 : decode cX7_get 38 = .ok (.laload, 1) := by decide +kernel
theorem dX7_get_39 : decode cX7_get 39 = .ok (.goto 4, 3) := by decide +kernel
theorem dX7_get_42 : decode cX7_get 42 = .ok (.lconst 0, 1) := by decide +kernel
theorem dX7_get_43 : decode cX7_get 43 = .ok (.lreturn, 1) := by decide +kernel
theorem dX7_put_0 : decode cX7_put 0 = .ok (.iload_n 1, 1) := by decide +kernel
theorem dX7_put_1 : decode cX7_put 1 = .ok (.ifCond .lt 41, 3) := by decide +kernel
theorem dX7_put_4 : decode cX7_put 4 = .ok (.iload_n 1, 1) := by decide +kernel
theorem dX7_put_5 : decode cX7_put 5 = .ok (.aload_n 0, 1) := by decide +kernel
theorem dX7_put_6 : decode cX7_put 6 = .ok (.getfield 17, 3) := by decide +kernel
theorem dX7_put_9 : decode cX7_put 9 = .ok (.arraylength, 1) := by decide +kernel
theorem dX7_put_10 : decode cX7_put 10 = .ok (.if_icmp .ge 32, 3) := by decide +kernel
theorem dX7_put_13 : decode cX7_put 13 = .ok (.aload_n 0, 1) := by decide +kernel
theorem dX7_put_14 : decode cX7_put 14 = .ok (.getfield 17, 3) := by decide +kernel
theorem dX7_put_17 : decode cX7_put 17 = .ok (.iload_n 1, 1) := by decide +kernel
theorem dX7_put_18 : decode cX7_put 18 = .ok (.aaload, 1) := by decide +kernel
theorem dX7_put_19 : decode cX7_put 19 = .ok (.astore 5, 2) := by decide +kernel
theorem dX7_put_21 : decode cX7_put 21 = .ok (.aload 5, 2) := by decide +kernel
theorem dX7_put_23 : decode cX7_put 23 = .ok (.ifnull 19, 3) := by decide +kernel
theorem dX7_put_26 : decode cX7_put 26 = .ok (.iload_n 2, 1) := by decide +kernel
theorem dX7_put_27 : decode cX7_put 27 = .ok (.ifCond .lt 15, 3) := by decide +kernel
theorem dX7_put_30 : decode cX7_put 30 = .ok (.iload_n 2, 1) := by decide +kernel
theorem dX7_put_31 : decode cX7_put 31 = .ok (.aload 5, 2) := by decide +kernel
theorem dX7_put_33 : decode cX7_put 33 = .ok (.arraylength, 1) := by decide +kernel
theorem dX7_put_34 : decode cX7_put 34 = .ok (.if_icmp .ge 8, 3) := by decide +kernel
theorem dX7_put_37 : decode cX7_put 37 = .ok (.aload 5, 2) := by decide +kernel
theorem dX7_put_39 : decode cX7_put 39 = .ok (.iload_n 2, 1) := by decide +kernel
theorem dX7_put_40 : decode cX7_put 40 = .ok (.lload_n 3, 1) := by decide +kernel
theorem dX7_put_41 : decode cX7_put 41 = .ok (.lastore, 1) := by decide +kernel
theorem dX7_put_42 : decode cX7_put 42 = .ok (.return_, 1) := by decide +kernel
theorem dX8_init_0 : decode cX8_init 0 = .ok (.aload_n 0, 1) := by decide +kernel
theorem dX8_init_1 : decode cX8_init 1 = .ok (.invokespecial 3, 3) := by decide +kernel
theorem dX8_init_4 : decode cX8_init 4 = .ok (.aload_n 0, 1) := by decide +kernel
theorem dX8_init_5 : decode cX8_init 5 = .ok (.new 9, 3) := by decide +kernel
theorem dX8_init_8 : decode cX8_init 8 = .ok (.dup, 1) := by decide +kernel
theorem dX8_init_9 : decode cX8_init 9 = .ok (.sipush 1800, 3) := by decide +kernel
theorem dX8_init_12 : decode cX8_init 12 = .ok (.invokespecial 11, 3) := by decide +kernel
theorem dX8_init_15 : decode cX8_init 15 = .ok (.putfield 14, 3) := by decide +kernel
theorem dX8_init_18 : decode cX8_init 18 = .ok (.return_, 1) := by decide +kernel
theorem dX8_append_0 : decode cX8_append 0 = .ok (.bipush 24, 2) := by decide +kernel
theorem dX8_append_2 : decode cX8_append 2 = .ok (.istore_n 2, 1) := by decide +kernel
theorem dX8_append_3 : decode cX8_append 3 = .ok (.iload_n 2, 1) := by decide +kernel
theorem dX8_append_4 : decode cX8_append 4 = .ok (.ifCond .lt 37, 3) := by decide +kernel
theorem dX8_append_7 : decode cX8_append 7 = .ok (.aload_n 0, 1) := by decide +kernel
theorem dX8_append_8 : decode cX8_append 8 = .ok (.getfield 14, 3) := by decide +kernel
theorem dX8_append_11 : decode cX8_append 11 = .ok (.aload_n 0, 1) := by decide +kernel
theorem dX8_append_12 : decode cX8_append 12 = .ok (.getfield 20, 3) := by decide +kernel
theorem dX8_append_15 : decode cX8_append 15 = .ok (.iload_n 1, 1) := by decide +kernel
theorem dX8_append_16 : decode cX8_append 16 = .ok (.iload_n 2, 1) := by decide +kernel
theorem dX8_append_17 : decode cX8_append 17 = .ok (.ishr, 1) := by decide +kernel
theorem dX8_append_18 : decode cX8_append 18 = .ok (.sipush 255, 3) := by decide +kernel
theorem dX8_append_21 : decode cX8_append 21 = .ok (.iand, 1) := by decide +kernel
theorem dX8_append_22 : decode cX8_append 22 = .ok (.invokevirtual 24, 3) := by decide +kernel
theorem dX8_append_25 : decode cX8_append 25 = .ok (.aload_n 0, 1) := by decide +kernel
theorem dX8_append_26 : decode cX8_append 26 = .ok (.dup, 1) := by decide +kernel
theorem dX8_append_27 : decode cX8_append 27 = .ok (.getfield 20, 3) := by decide +kernel
theorem dX8_append_30 : decode cX8_append 30 = .ok (.iconst 1, 1) := by decide +kernel
theorem dX8_append_31 : decode cX8_append 31 = .ok (.iadd, 1) := by decide +kernel
theorem dX8_append_32 : decode cX8_append 32 = .ok (.putfield 20, 3) := by decide +kernel
theorem dX8_append_35 : decode cX8_append 35 = .ok (.iinc 2 (-8), 3) := by decide +kernel
theorem dX8_append_38 : decode cX8_append 38 = .ok (.goto (-35), 3) := by decide +kernel
theorem dX8_append_41 : decode cX8_append 41 = .ok (.return_, 1) := by decide +kernel
theorem dX8_byteAt_0 : decode cX8_byteAt 0 = .ok (.iload_n 1, 1) := by decide +kernel
theorem dX8_byteAt_1 : decode cX8_byteAt 1 = .ok (.aload_n 0, 1) := by decide +kernel
theorem dX8_byteAt_2 : decode cX8_byteAt 2 = .ok (.getfield 20, 3) := by decide +kernel
theorem dX8_byteAt_5 : decode cX8_byteAt 5 = .ok (.if_icmp .ge 14, 3) := by decide +kernel
theorem dX8_byteAt_8 : decode cX8_byteAt 8 = .ok (.aload_n 0, 1) := by decide +kernel
theorem dX8_byteAt_9 : decode cX8_byteAt 9 = .ok (.getfield 14, 3) := by decide +kernel
theorem dX8_byteAt_12 : decode cX8_byteAt 12 = .ok (.iload_n 1, 1) := by decide +kernel
theorem dX8_byteAt_13 : decode cX8_byteAt 13 = .ok (.invokevirtual 28, 3) := by decide +kernel
theorem dX8_byteAt_16 : decode cX8_byteAt 16 = .ok (.goto 4, 3) := by decide +kernel
theorem dX8_byteAt_19 : decode cX8_byteAt 19 = .ok (.iconst (-1), 1) := by decide +kernel
theorem dX8_byteAt_20 : decode cX8_byteAt 20 = .ok (.ireturn, 1) := by decide +kernel
theorem dX9_init_0 : decode cX9_init 0 = .ok (.aload_n 0, 1) := by decide +kernel
theorem dX9_init_1 : decode cX9_init 1 = .ok (.invokespecial 3, 3) := by decide +kernel
theorem dX9_init_4 : decode cX9_init 4 = .ok (.aload_n 0, 1) := by decide +kernel
theorem dX9_init_5 : decode cX9_init 5 = .ok (.aload_n 1, 1) := by decide +kernel
theorem dX9_init_6 : decode cX9_init 6 = .ok (.putfield 9, 3) := by decide +kernel
theorem dX9_init_9 : decode cX9_init 9 = .ok (.aload_n 0, 1) := by decide +kernel
theorem dX9_init_10 : decode cX9_init 10 = .ok (.invokestatic 15, 3) := by decide +kernel
theorem dX9_init_13 : decode cX9_init 13 = .ok (.putfield 19, 3) := by decide +kernel
theorem dX9_init_16 : decode cX9_init 16 = .ok (.aload_n 0, 1) := by decide +kernel
theorem dX9_init_17 : decode cX9_init 17 = .ok (.new 23, 3) := by decide +kernel
theorem dX9_init_20 : decode cX9_init 20 = .ok (.dup, 1) := by decide +kernel
theorem dX9_init_21 : decode cX9_init 21 = .ok (.sipush 401, 3) := by decide +kernel
theorem dX9_init_24 : decode cX9_init 24 = .ok (.invokespecial 25, 3) := by decide +kernel
theorem dX9_init_27 : decode cX9_init 27 = .ok (.putfield 28, 3) := by decide +kernel
theorem dX9_init_30 : decode cX9_init 30 = .ok (.aload_n 0, 1) := by decide +kernel
theorem dX9_init_31 : decode cX9_init 31 = .ok (.new 23, 3) := by decide +kernel
theorem dX9_init_34 : decode cX9_init 34 = .ok (.dup, 1) := by decide +kernel
theorem dX9_init_35 : decode cX9_init 35 = .ok (.sipush 401, 3) := by decide +kernel
theorem dX9_init_38 : decode cX9_init 38 = .ok (.invokespecial 25, 3) := by decide +kernel
theorem dX9_init_41 : decode cX9_init 41 = .ok (.putfield 32, 3) := by decide +kernel
theorem dX9_init_44 : decode cX9_init 44 = .ok (.aload_n 0, 1) := by decide +kernel
theorem dX9_init_45 : decode cX9_init 45 = .ok (.new 35, 3) := by decide +kernel
theorem dX9_init_48 : decode cX9_init 48 = .ok (.dup, 1) := by decide +kernel
theorem dX9_init_49 : decode cX9_init 49 = .ok (.sipush 401, 3) := by decide +kernel
theorem dX9_init_52 : decode cX9_init 52 = .ok (.invokespecial 37, 3) := by decide +kernel
theorem dX9_init_55 : decode cX9_init 55 = .ok (.putfield 38, 3) := by decide +kernel
theorem dX9_init_58 : decode cX9_init 58 = .ok (.return_, 1) := by decide +kernel
theorem dX9_packKeywords_0 : decode cX9_packKeywords 0 = .ok (.new 35, 3) := by decide +kernel
theorem dX9_packKeywords_3 : decode cX9_packKeywords 3 = .ok (.dup, 1) := by decide +kernel
theorem dX9_packKeywords_4 : decode cX9_packKeywords 4 = .ok (.bipush 30, 2) := by decide +kernel
theorem dX9_packKeywords_6 : decode cX9_packKeywords 6 = .ok (.invokespecial 37, 3) := by decide +kernel
theorem dX9_packKeywords_9 : decode cX9_packKeywords 9 = .ok (.astore_n 0, 1) := by decide +kernel
theorem dX9_packKeywords_10 : decode cX9_packKeywords 10 = .ok (.lconst 0, 1) := by decide +kernel
theorem dX9_packKeywords_11 : decode cX9_packKeywords 11 = .ok (.lstore_n 1, 1) := by decide +kernel
theorem dX9_packKeywords_12 : decode cX9_packKeywords 12 = .ok (.iconst 0, 1) := by decide +kernel
theorem dX9_packKeywords_13 : decode cX9_packKeywords 13 = .ok (.istore_n 3, 1) := by decide +kernel
theorem dX9_packKeywords_14 : decode cX9_packKeywords 14 = .ok (.iconst 0, 1) := by decide +kernel
theorem dX9_packKeywords_15 : decode cX9_packKeywords 15 = .ok (.istore 4, 2) := by decide +kernel
theorem dX9_packKeywords_17 : decode cX9_packKeywords 17 = .ok (.iload 4, 2) := by decide +kernel
theorem dX9_packKeywords_19 : decode cX9_packKeywords 19 = .ok (.ldc 41, 2) := by decide +kernel
theorem dX9_packKeywords_21 : decode cX9_packKeywords 21 = .ok (.invokevirtual 43, 3) := by decide +kernel
theorem dX9_packKeywords_24 : decode cX9_packKeywords 24 = .ok (.if_icmp .ge 49, 3) := by decide +kernel
theorem dX9_packKeywords_27 : decode cX9_packKeywords 27 = .ok (.ldc 41, 2) := by decide +kernel
theorem dX9_packKeywords_29 : decode cX9_packKeywords 29 = .ok (.iload 4, 2) := by decide +kernel
theorem dX9_packKeywords_31 : decode cX9_packKeywords 31 = .ok (.invokevirtual 49, 3) := by decide +kernel
theorem dX9_packKeywords_34 : decode cX9_packKeywords 34 = .ok (.istore 5, 2) := by decide +kernel
theorem dX9_packKeywords_36 : decode cX9_packKeywords 36 = .ok (.iload 5, 2) := by decide +kernel
theorem dX9_packKeywords_38 : decode cX9_packKeywords 38 = .ok (.bipush 32, 2) := by decide +kernel
theorem dX9_packKeywords_40 : decode cX9_packKeywords 40 = .ok (.if_icmp .ne 17, 3) := by decide +kernel
theorem dX9_packKeywords_43 : decode cX9_packKeywords 43 = .ok (.aload_n 0, 1) := by decide +kernel
theorem dX9_packKeywords_44 : decode cX9_packKeywords 44 = .ok (.iload_n 3, 1) := by decide +kernel
theorem dX9_packKeywords_45 : decode cX9_packKeywords 45 = .ok (.lload_n 1, 1) := by decide +kernel
theorem dX9_packKeywords_46 : decode cX9_packKeywords 46 = .ok (.invokevirtual 53, 3) := by decide +kernel
theorem dX9_packKeywords_49 : decode cX9_packKeywords 49 = .ok (.iinc 3 1, 3) := by decide +kernel
theorem dX9_packKeywords_52 : decode cX9_packKeywords 52 = .ok (.lconst 0, 1) := by decide +kernel
theorem dX9_packKeywords_53 : decode cX9_packKeywords 53 = .ok (.lstore_n 1, 1) := by decide +kernel
theorem dX9_packKeywords_54 : decode cX9_packKeywords 54 = .ok (.goto 13, 3) := by decide +kernel
theorem dX9_packKeywords_57 : decode cX9_packKeywords 57 = .ok (.lload_n 1, 1) := by decide +kernel
theorem dX9_packKeywords_58 : decode cX9_packKeywords 58 = .ok (.ldc2_w 57, 3) := by decide +kernel
theorem dX9_packKeywords_61 : decode cX9_packKeywords 61 = .ok (.lmul, 1) := by decide +kernel
theorem dX9_packKeywords_62 : decode cX9_packKeywords 62 = .ok (.iload 5, 2) := by decide +kernel
theorem dX9_packKeywords_64 : decode cX9_packKeywords 64 = .ok (.i2l, 1) := by decide +kernel
theorem dX9_packKeywords_65 : decode cX9_packKeywords 65 = .ok (.ladd, 1) := by decide +kernel
theorem dX9_packKeywords_66 : decode cX9_packKeywords 66 = .ok (.lstore_n 1, 1) := by decide +kernel
theorem dX9_packKeywords_67 : decode cX9_packKeywords 67 = .ok (.iinc 4 1, 3) := by decide +kernel
theorem dX9_packKeywords_70 : decode cX9_packKeywords 70 = .ok (.goto (-53), 3) := by decide +kernel
theorem dX9_packKeywords_73 : decode cX9_packKeywords 73 = .ok (.aload_n 0, 1) := by decide +kernel
theorem dX9_packKeywords_74 : decode cX9_packKeywords 74 = .ok (.iload_n 3, 1) := by decide +kernel
theorem dX9_packKeywords_75 : decode cX9_packKeywords 75 = .ok (.lload_n 1, 1) := by decide +kernel
theorem dX9_packKeywords_76 : decode cX9_packKeywords 76 = .ok (.invokevirtual 53, 3) := by decide +kernel
theorem dX9_packKeywords_79 : decode cX9_packKeywords 79 = .ok (.aload_n 0, 1) := by decide +kernel
theorem dX9_packKeywords_80 : decode cX9_packKeywords 80 = .ok (.areturn, 1) := by decide +kernel
theorem dX9_read_0 : decode cX9_read 0 = .ok (.aload_n 0, 1) := by decide +kernel
theorem dX9_read_1 : decode cX9_read 1 = .ok (.iconst 0, 1) := by decide +kernel
theorem dX9_read_2 : decode cX9_read 2 = .ok (.putfield 59, 3) := by decide +kernel
theorem dX9_read_5 : decode cX9_read 5 = .ok (.iconst 1, 1) := by decide +kernel
theorem dX9_read_6 : decode cX9_read 6 = .ok (.istore_n 1, 1) := by decide +kernel
theorem dX9_read_7 : decode cX9_read 7 = .ok (.iconst 0, 1) := by decide +kernel
theorem dX9_read_8 : decode cX9_read 8 = .ok (.istore_n 2, 1) := by decide +kernel
theorem dX9_read_9 : decode cX9_read 9 = .ok (.iload_n 1, 1) := by decide +kernel
theorem dX9_read_10 : decode cX9_read 10 = .ok (.ifCond .eq 81, 3) := by decide +kernel
theorem dX9_read_13 : decode cX9_read 13 = .ok (.iload_n 2, 1) := by decide +kernel
theorem dX9_read_14 : decode cX9_read 14 = .ok (.sipush 400, 3) := by decide +kernel
theorem dX9_read_17 : decode cX9_read 17 = .ok (.if_icmp .gt 74, 3) := by decide +kernel
theorem dX9_read_20 : decode cX9_read 20 = .ok (.aload_n 0, 1) := by decide +kernel
theorem dX9_read_21 : decode cX9_read 21 = .ok (.invokevirtual 63, 3) := by decide +kernel
theorem dX9_read_24 : decode cX9_read 24 = .ok (.aload_n 0, 1) := by decide +kernel
theorem dX9_read_25 : decode cX9_read 25 = .ok (.getfield 32, 3) := by decide +kernel
theorem dX9_read_28 : decode cX9_read 28 = .ok (.iload_n 2, 1) := by decide +kernel
theorem dX9_read_29 : decode cX9_read 29 = .ok (.aload_n 0, 1) := by decide +kernel
theorem dX9_read_30 : decode cX9_read 30 = .ok (.getfield 59, 3) := by decide +kernel
theorem dX9_read_33 : decode cX9_read 33 = .ok (.invokevirtual 66, 3) := by decide +kernel
theorem dX9_read_36 : decode cX9_read 36 = .ok (.aload_n 0, 1) := by decide +kernel
theorem dX9_read_37 : decode cX9_read 37 = .ok (.iload_n 2, 1) := by decide +kernel
theorem dX9_read_38 : decode cX9_read 38 = .ok (.invokevirtual 69, 3) := by decide +kernel
theorem dX9_read_41 : decode cX9_read 41 = .ok (.istore_n 3, 1) := by decide +kernel
theorem dX9_read_42 : decode cX9_read 42 = .ok (.iload_n 2, 1) := by decide +kernel
theorem dX9_read_43 : decode cX9_read 43 = .ok (.sipush 400, 3) := by decide +kernel
theorem dX9_read_46 : decode cX9_read 46 = .ok (.if_icmp .ne 12, 3) := by decide +kernel
theorem dX9_read_49 : decode cX9_read 49 = .ok (.iload_n 3, 1) := by decide +kernel
theorem dX9_read_50 : decode cX9_read 50 = .ok (.bipush 53, 2) := by decide +kernel
theorem dX9_read_52 : decode cX9_read 52 = .ok (.if_icmp .eq 6, 3) := by decide +kernel
theorem dX9_read_55 : decode cX9_read 55 = .ok (.bipush 54, 2) := by decide +kernel
theorem dX9_read_57 : decode cX9_read 57 = .ok (.istore_n 3, 1) := by decide +kernel
theorem dX9_read_58 : decode cX9_read 58 = .ok (.aload_n 0, 1) := by decide +kernel
theorem dX9_read_59 : decode cX9_read 59 = .ok (.getfield 28, 3) := by decide +kernel
theorem dX9_read_62 : decode cX9_read 62 = .ok (.iload_n 2, 1) := by decide +kernel
theorem dX9_read_63 : decode cX9_read 63 = .ok (.iload_n 3, 1) := by decide +kernel
theorem dX9_read_64 : decode cX9_read 64 = .ok (.invokevirtual 66, 3) := by decide +kernel
theorem dX9_read_67 : decode cX9_read 67 = .ok (.iload_n 3, 1) := by decide +kernel
theorem dX9_read_68 : decode cX9_read 68 = .ok (.bipush 53, 2) := by decide +kernel
theorem dX9_read_70 : decode cX9_read 70 = .ok (.if_icmp .eq 13, 3) := by decide +kernel
theorem dX9_read_73 : decode cX9_read 73 = .ok (.iload_n 3, 1) := by decide +kernel
theorem dX9_read_74 : decode cX9_read 74 = .ok (.bipush 54, 2) := by decide +kernel
theorem dX9_read_76 : decode cX9_read 76 = .ok (.if_icmp .eq 7, 3) := by decide +kernel
theorem dX9_read_79 : decode cX9_read 79 = .ok (.iconst 1, 1) := by decide +kernel
theorem dX9_read_80 : decode cX9_read 80 = .ok (.goto 4, 3) := by decide +kernel
theorem dX9_read_83 : decode cX9_read 83 = .ok (.iconst 0, 1) := by decide +kernel
theorem dX9_read_84 : decode cX9_read 84 = .ok (.istore_n 1, 1) := by decide +kernel
theorem dX9_read_85 : decode cX9_read 85 = .ok (.iinc 2 1, 3) := by decide +kernel
theorem dX9_read_88 : decode cX9_read 88 = .ok (.goto (-79), 3) := by decide +kernel
theorem dX9_read_91 : decode cX9_read 91 = .ok (.return_, 1) := by decide +kernel
theorem dX9_skipBlanks_0 : decode cX9_skipBlanks 0 = .ok (.aload_n 0, 1) := by decide +kernel
theorem dX9_skipBlanks_1 : decode cX9_skipBlanks 1 = .ok (.getfield 59, 3) := by decide +kernel
theorem dX9_skipBlanks_4 : decode cX9_skipBlanks 4 = .ok (.aload_n 0, 1) := by decide +kernel
theorem dX9_skipBlanks_5 : decode cX9_skipBlanks 5 = .ok (.getfield 9, 3) := by decide +kernel
theorem dX9_skipBlanks_8 : decode cX9_skipBlanks 8 = .ok (.getfield 73, 3) := by decide +kernel
theorem dX9_skipBlanks_11 : decode cX9_skipBlanks 11 = .ok (.if_icmp .ge 48, 3) := by decide +kernel
theorem dX9_skipBlanks_14 : decode cX9_skipBlanks 14 = .ok (.aload_n 0, 1) := by decide +kernel
theorem dX9_skipBlanks_15 : decode cX9_skipBlanks 15 = .ok (.getfield 9, 3) := by decide +kernel
theorem dX9_skipBlanks_18 : decode cX9_skipBlanks 18 = .ok (.aload_n 0, 1) := by decide +kernel
theorem dX9_skipBlanks_19 : decode cX9_skipBlanks 19 = .ok (.getfield 59, 3) := by decide +kernel
theorem dX9_skipBlanks_22 : decode cX9_skipBlanks 22 = .ok (.invokevirtual 77, 3) := by decide +kernel
theorem dX9_skipBlanks_25 : decode cX9_skipBlanks 25 = .ok (.bipush 32, 2) := by decide +kernel
theorem dX9_skipBlanks_27 : decode cX9_skipBlanks 27 = .ok (.if_icmp .eq 19, 3) := by decide +kernel
theorem dX9_skipBlanks_30 : decode cX9_skipBlanks 30 = .ok (.aload_n 0, 1) := by decide +kernel
theorem dX9_skipBlanks_31 : decode cX9_skipBlanks 31 = .ok (.getfield 9, 3) := by decide +kernel
theorem dX9_skipBlanks_34 : decode cX9_skipBlanks 34 = .ok (.aload_n 0, 1) := by decide +kernel
theorem dX9_skipBlanks_35 : decode cX9_skipBlanks 35 = .ok (.getfield 59, 3) := by decide +kernel
theorem dX9_skipBlanks_38 : decode cX9_skipBlanks 38 = .ok (.invokevirtual 77, 3) := by decide +kernel
theorem dX9_skipBlanks_41 : decode cX9_skipBlanks 41 = .ok (.bipush 10, 2) := by decide +kernel
theorem dX9_skipBlanks_43 : decode cX9_skipBlanks 43 = .ok (.if_icmp .ne 16, 3) := by decide +kernel
theorem dX9_skipBlanks_46 : decode cX9_skipBlanks 46 = .ok (.aload_n 0, 1) := by decide +kernel
theorem dX9_skipBlanks_47 : decode cX9_skipBlanks 47 = .ok (.dup, 1) := by decide +kernel
theorem dX9_skipBlanks_48 : decode cX9_skipBlanks 48 = .ok (.getfield 59, 3) := by decide +kernel
theorem dX9_skipBlanks_51 : decode cX9_skipBlanks 51 = .ok (.iconst 1, 1) := by decide +kernel
theorem dX9_skipBlanks_52 : decode cX9_skipBlanks 52 = .ok (.iadd, 1) := by decide +kernel
theorem dX9_skipBlanks_53 : decode cX9_skipBlanks 53 = .ok (.putfield 59, 3) := by decide +kernel
theorem dX9_skipBlanks_56 : decode cX9_skipBlanks 56 = .ok (.goto (-56), 3) := by decide +kernel
theorem dX9_skipBlanks_59 : decode cX9_skipBlanks 59 = .ok (.return_, 1) := by decide +kernel
theorem dX9_readToken_0 : decode cX9_readToken 0 = .ok (.aload_n 0, 1) := by decide +kernel
theorem dX9_readToken_1 : decode cX9_readToken 1 = .ok (.getfield 9, 3) := by decide +kernel
theorem dX9_readToken_4 : decode cX9_readToken 4 = .ok (.aload_n 0, 1) := by decide +kernel
theorem dX9_readToken_5 : decode cX9_readToken 5 = .ok (.getfield 59, 3) := by decide +kernel
theorem dX9_readToken_8 : decode cX9_readToken 8 = .ok (.invokevirtual 77, 3) := by decide +kernel
theorem dX9_readToken_11 : decode cX9_readToken 11 = .ok (.istore_n 2, 1) := by decide +kernel
theorem dX9_readToken_12 : decode cX9_readToken 12 = .ok (.iload_n 2, 1) := by decide +kernel
theorem dX9_readToken_13 : decode cX9_readToken 13 = .ok (.iconst (-1), 1) := by decide +kernel
theorem dX9_readToken_14 : decode cX9_readToken 14 = .ok (.if_icmp .ne 6, 3) := by decide +kernel
theorem dX9_readToken_17 : decode cX9_readToken 17 = .ok (.bipush 53, 2) := by decide +kernel
theorem dX9_readToken_19 : decode cX9_readToken 19 = .ok (.ireturn, 1) := by decide +kernel
theorem dX9_readToken_20 : decode cX9_readToken 20 = .ok (.iload_n 2, 1) := by decide +kernel
theorem dX9_readToken_21 : decode cX9_readToken 21 = .ok (.invokestatic 80, 3) := by decide +kernel
theorem dX9_readToken_24 : decode cX9_readToken 24 = .ok (.ifCond .eq 9, 3) := by decide +kernel
theorem dX9_readToken_27 : decode cX9_readToken 27 = .ok (.aload_n 0, 1) := by decide +kernel
theorem dX9_readToken_28 : decode cX9_readToken 28 = .ok (.iload_n 1, 1) := by decide +kernel
theorem dX9_readToken_29 : decode cX9_readToken 29 = .ok (.invokevirtual 84, 3) := by decide +kernel
theorem dX9_readToken_32 : decode cX9_readToken 32 = .ok (.ireturn, 1) := by decide +kernel
theorem dX9_readToken_33 : decode cX9_readToken 33 = .ok (.iload_n 2, 1) := by decide +kernel
theorem dX9_readToken_34 : decode cX9_readToken 34 = .ok (.invokestatic 87, 3) := by decide +kernel
theorem dX9_readToken_37 : decode cX9_readToken 37 = .ok (.ifCond .eq 11, 3) := by decide +kernel
theorem dX9_readToken_40 : decode cX9_readToken 40 = .ok (.aload_n 0, 1) := by decide +kernel
theorem dX9_readToken_41 : decode cX9_readToken 41 = .ok (.iload_n 1, 1) := by decide +kernel
theorem dX9_readToken_42 : decode cX9_readToken 42 = .ok (.invokevirtual 90, 3) := by decide +kernel
theorem dX9_readToken_45 : decode cX9_readToken 45 = .ok (.goto 8, 3) := by decide +kernel
theorem dX9_readToken_48 : decode cX9_readToken 48 = .ok (.aload_n 0, 1) := by decide +kernel
theorem dX9_readToken_49 : decode cX9_readToken 49 = .ok (.iload_n 2, 1) := by decide +kernel
theorem dX9_readToken_50 : decode cX9_readToken 50 = .ok (.invokevirtual 93, 3) := by decide +kernel
theorem dX9_readToken_53 : decode cX9_readToken 53 = .ok (.ireturn, 1) := by decide +kernel
theorem dX9_readWord_0 : decode cX9_readWord 0 = .ok (.aload_n 0, 1) := by decide +kernel
theorem dX9_readWord_1 : decode cX9_readWord 1 = .ok (.getfield 59, 3) := by decide +kernel
theorem dX9_readWord_4 : decode cX9_readWord 4 = .ok (.istore_n 2, 1) := by decide +kernel
theorem dX9_readWord_5 : decode cX9_readWord 5 = .ok (.lconst 0, 1) := by decide +kernel
theorem dX9_readWord_6 : decode cX9_readWord 6 = .ok (.lstore_n 3, 1) := by decide +kernel
theorem dX9_readWord_7 : decode cX9_readWord 7 = .ok (.aload_n 0, 1) := by decide +kernel
theorem dX9_readWord_8 : decode cX9_readWord 8 = .ok (.getfield 59, 3) := by decide +kernel
theorem dX9_readWord_11 : decode cX9_readWord 11 = .ok (.aload_n 0, 1) := by decide +kernel
theorem dX9_readWord_12 : decode cX9_readWord 12 = .ok (.getfield 9, 3) := by decide +kernel
theorem dX9_readWord_15 : decode cX9_readWord 15 = .ok (.getfield 73, 3) := by decide +kernel
theorem dX9_readWord_18 : decode cX9_readWord 18 = .ok (.if_icmp .ge 69, 3) := by decide +kernel
theorem dX9_readWord_21 : decode cX9_readWord 21 = .ok (.aload_n 0, 1) := by decide +kernel
theorem dX9_readWord_22 : decode cX9_readWord 22 = .ok (.getfield 9, 3) := by decide +kernel
theorem dX9_readWord_25 : decode cX9_readWord 25 = .ok (.aload_n 0, 1) := by decide +kernel
theorem dX9_readWord_26 : decode cX9_readWord 26 = .ok (.getfield 59, 3) := by decide +kernel
theorem dX9_readWord_29 : decode cX9_readWord 29 = .ok (.invokevirtual 77, 3) := by decide +kernel
theorem dX9_readWord_32 : decode cX9_readWord 32 = .ok (.invokestatic 80, 3) := by decide +kernel
theorem dX9_readWord_35 : decode cX9_readWord 35 = .ok (.ifCond .ne 20, 3) := by decide +kernel
theorem dX9_readWord_38 : decode cX9_readWord 38 = .ok (.aload_n 0, 1) := by decide +kernel
theorem dX9_readWord_39 : decode cX9_readWord 39 = .ok (.getfield 9, 3) := by decide +kernel
theorem dX9_readWord_42 : decode cX9_readWord 42 = .ok (.aload_n 0, 1) := by decide +kernel
theorem dX9_readWord_43 : decode cX9_readWord 43 = .ok (.getfield 59, 3) := by decide +kernel
theorem dX9_readWord_46 : decode cX9_readWord 46 = .ok (.invokevirtual 77, 3) := by decide +kernel
theorem dX9_readWord_49 : decode cX9_readWord 49 = .ok (.invokestatic 87, 3) := by decide +kernel
theorem dX9_readWord_52 : decode cX9_readWord 52 = .ok (.ifCond .eq 35, 3) := by decide +kernel
theorem dX9_readWord_55 : decode cX9_readWord 55 = .ok (.lload_n 3, 1) := by decide +kernel
theorem dX9_readWord_56 : decode cX9_readWord 56 = .ok (.ldc2_w 57, 3) := by decide +kernel
theorem dX9_readWord_59 : decode cX9_readWord 59 = .ok (.lmul, 1) := by decide +kernel
theorem dX9_readWord_60 : decode cX9_readWord 60 = .ok (.aload_n 0, 1) := by decide +kernel
theorem dX9_readWord_61 : decode cX9_readWord 61 = .ok (.getfield 9, 3) := by decide +kernel
theorem dX9_readWord_64 : decode cX9_readWord 64 = .ok (.aload_n 0, 1) := by decide +kernel
theorem dX9_readWord_65 : decode cX9_readWord 65 = .ok (.getfield 59, 3) := by decide +kernel
theorem dX9_readWord_68 : decode cX9_readWord 68 = .ok (.invokevirtual 77, 3) := by decide +kernel
theorem dX9_readWord_71 : decode cX9_readWord 71 = .ok (.i2l, 1) := by decide +kernel
theorem dX9_readWord_72 : decode cX9_readWord 72 = .ok (.ladd, 1) := by decide +kernel
theorem dX9_readWord_73 : decode cX9_readWord 73 = .ok (.lstore_n 3, 1) := by decide +kernel
theorem dX9_readWord_74 : decode cX9_readWord 74 = .ok (.aload_n 0, 1) := by decide +kernel
theorem dX9_readWord_75 : decode cX9_readWord 75 = .ok (.dup, 1) := by decide +kernel
theorem dX9_readWord_76 : decode cX9_readWord 76 = .ok (.getfield 59, 3) := by decide +kernel
theorem dX9_readWord_79 : decode cX9_readWord 79 = .ok (.iconst 1, 1) := by decide +kernel
theorem dX9_readWord_80 : decode cX9_readWord 80 = .ok (.iadd, 1) := by decide +kernel
theorem dX9_readWord_81 : decode cX9_readWord 81 = .ok (.putfield 59, 3) := by decide +kernel
theorem dX9_readWord_84 : decode cX9_readWord 84 = .ok (.goto (-77), 3) := by decide +kernel
theorem dX9_readWord_87 : decode cX9_readWord 87 = .ok (.aload_n 0, 1) := by decide +kernel
theorem dX9_readWord_88 : decode cX9_readWord 88 = .ok (.getfield 38, 3) := by decide +kernel
theorem dX9_readWord_91 : decode cX9_readWord 91 = .ok (.iload_n 1, 1) := by decide +kernel
theorem dX9_readWord_92 : decode cX9_readWord 92 = .ok (.lload_n 3, 1) := by decide +kernel
theorem dX9_readWord_93 : decode cX9_readWord 93 = .ok (.invokevirtual 53, 3) := by decide +kernel
theorem dX9_readWord_96 : decode cX9_readWord 96 = .ok (.aload_n 0, 1) := by decide +kernel
theorem dX9_readWord_97 : decode cX9_readWord 97 = .ok (.getfield 59, 3) := by decide +kernel
theorem dX9_readWord_100 : decode cX9_readWord 100 = .ok (.iload_n 2, 1) := by decide +kernel
theorem dX9_readWord_101 : decode cX9_readWord 101 = .ok (.isub, 1) := by decide +kernel
theorem dX9_readWord_102 : decode cX9_readWord 102 = .ok (.bipush 8, 2) := by decide +kernel
theorem dX9_readWord_104 : decode cX9_readWord 104 = .ok (.if_icmp .le 8, 3) := by decide +kernel
theorem dX9_readWord_107 : decode cX9_readWord 107 = .ok (.bipush 54, 2) := by decide +kernel
theorem dX9_readWord_109 : decode cX9_readWord 109 = .ok (.goto 8, 3) := by decide +kernel
theorem dX9_readWord_112 : decode cX9_readWord 112 = .ok (.aload_n 0, 1) := by decide +kernel
theorem dX9_readWord_113 : decode cX9_readWord 113 = .ok (.lload_n 3, 1) := by decide +kernel
theorem dX9_readWord_114 : decode cX9_readWord 114 = .ok (.invokevirtual 96, 3) := by decide +kernel
theorem dX9_readWord_117 : decode cX9_readWord 117 = .ok (.ireturn, 1) := by decide +kernel
theorem dX9_sortOfWord_0 : decode cX9_sortOfWord 0 = .ok (.iconst 0, 1) := by decide +kernel
theorem dX9_sortOfWord_1 : decode cX9_sortOfWord 1 = .ok (.istore_n 3, 1) := by decide +kernel
theorem dX9_sortOfWord_2 : decode cX9_sortOfWord 2 = .ok (.iload_n 3, 1) := by decide +kernel
theorem dX9_sortOfWord_3 : decode cX9_sortOfWord 3 = .ok (.bipush 30, 2) := by decide +kernel
theorem dX9_sortOfWord_5 : decode cX9_sortOfWord 5 = .ok (.if_icmp .ge 24, 3) := by decide +kernel
theorem dX9_sortOfWord_8 : decode cX9_sortOfWord 8 = .ok (.aload_n 0, 1) := by decide +kernel
theorem dX9_sortOfWord_9 : decode cX9_sortOfWord 9 = .ok (.getfield 19, 3) := by decide +kernel
theorem dX9_sortOfWord_12 : decode cX9_sortOfWord 12 = .ok (.iload_n 3, 1) := by decide +kernel
theorem dX9_sortOfWord_13 : decode cX9_sortOfWord 13 = .ok (.invokevirtual 100, 3) := by decide +kernel
theorem dX9_sortOfWord_16 : decode cX9_sortOfWord 16 = .ok (.lload_n 1, 1) := by decide +kernel
theorem dX9_sortOfWord_17 : decode cX9_sortOfWord 17 = .ok (.lcmp, 1) := by decide +kernel
theorem dX9_sortOfWord_18 : decode cX9_sortOfWord 18 = .ok (.ifCond .ne 5, 3) := by decide +kernel
theorem dX9_sortOfWord_21 : decode cX9_sortOfWord 21 = .ok (.iload_n 3, 1) := by decide +kernel
theorem dX9_sortOfWord_22 : decode cX9_sortOfWord 22 = .ok (.ireturn, 1) := by decide +kernel
theorem dX9_sortOfWord_23 : decode cX9_sortOfWord 23 = .ok (.iinc 3 1, 3) := by decide +kernel
theorem dX9_sortOfWord_26 : decode cX9_sortOfWord 26 = .ok (.goto (-24), 3) := by decide +kernel
theorem dX9_sortOfWord_29 : decode cX9_sortOfWord 29 = .ok (.bipush 51, 2) := by decide +kernel
theorem dX9_sortOfWord_31 : decode cX9_sortOfWord 31 = .ok (.ireturn, 1) := by decide +kernel
theorem dX9_readNumber_0 : decode cX9_readNumber 0 = .ok (.aload_n 0, 1) := by decide +kernel
theorem dX9_readNumber_1 : decode cX9_readNumber 1 = .ok (.getfield 59, 3) := by decide +kernel
theorem dX9_readNumber_4 : decode cX9_readNumber 4 = .ok (.istore_n 2, 1) := by decide +kernel
theorem dX9_readNumber_5 : decode cX9_readNumber 5 = .ok (.lconst 0, 1) := by decide +kernel
theorem dX9_readNumber_6 : decode cX9_readNumber 6 = .ok (.lstore_n 3, 1) := by decide +kernel
theorem dX9_readNumber_7 : decode cX9_readNumber 7 = .ok (.aload_n 0, 1) := by decide +kernel
theorem dX9_readNumber_8 : decode cX9_readNumber 8 = .ok (.getfield 59, 3) := by decide +kernel
theorem dX9_readNumber_11 : decode cX9_readNumber 11 = .ok (.aload_n 0, 1) := by decide +kernel
theorem dX9_readNumber_12 : decode cX9_readNumber 12 = .ok (.getfield 9, 3) := by decide +kernel
theorem dX9_readNumber_15 : decode cX9_readNumber 15 = .ok (.getfield 73, 3) := by decide +kernel
theorem dX9_readNumber_18 : decode cX9_readNumber 18 = .ok (.if_icmp .ge 55, 3) := by decide +kernel
theorem dX9_readNumber_21 : decode cX9_readNumber 21 = .ok (.aload_n 0, 1) := by decide +kernel
theorem dX9_readNumber_22 : decode cX9_readNumber 22 = .ok (.getfield 9, 3) := by decide +kernel
theorem dX9_readNumber_25 : decode cX9_readNumber 25 = .ok (.aload_n 0, 1) := by decide +kernel
theorem dX9_readNumber_26 : decode cX9_readNumber 26 = .ok (.getfield 59, 3) := by decide +kernel
theorem dX9_readNumber_29 : decode cX9_readNumber 29 = .ok (.invokevirtual 77, 3) := by decide +kernel
theorem dX9_readNumber_32 : decode cX9_readNumber 32 = .ok (.invokestatic 87, 3) := by decide +kernel
theorem dX9_readNumber_35 : decode cX9_readNumber 35 = .ok (.ifCond .eq 38, 3) := by decide +kernel
theorem dX9_readNumber_38 : decode cX9_readNumber 38 = .ok (.lload_n 3, 1) := by decide +kernel
theorem dX9_readNumber_39 : decode cX9_readNumber 39 = .ok (.ldc2_w 104, 3) := by decide +kernel
theorem dX9_readNumber_42 : decode cX9_readNumber 42 = .ok (.lmul, 1) := by decide +kernel
theorem dX9_readNumber_43 : decode cX9_readNumber 43 = .ok (.aload_n 0, 1) := by decide +kernel
theorem dX9_readNumber_44 : decode cX9_readNumber 44 = .ok (.getfield 9, 3) := by decide +kernel
theorem dX9_readNumber_47 : decode cX9_readNumber 47 = .ok (.aload_n 0, 1) := by decide +kernel
theorem dX9_readNumber_48 : decode cX9_readNumber 48 = .ok (.getfield 59, 3) := by decide +kernel
theorem dX9_readNumber_51 : decode cX9_readNumber 51 = .ok (.invokevirtual 77, 3) := by decide +kernel
theorem dX9_readNumber_54 : decode cX9_readNumber 54 = .ok (.bipush 48, 2) := by decide +kernel
theorem dX9_readNumber_56 : decode cX9_readNumber 56 = .ok (.isub, 1) := by decide +kernel
theorem dX9_readNumber_57 : decode cX9_readNumber 57 = .ok (.i2l, 1) := by decide +kernel
theorem dX9_readNumber_58 : decode cX9_readNumber 58 = .ok (.ladd, 1) := by decide +kernel
theorem dX9_readNumber_59 : decode cX9_readNumber 59 = .ok (.lstore_n 3, 1) := by decide +kernel
theorem dX9_readNumber_60 : decode cX9_readNumber 60 = .ok (.aload_n 0, 1) := by decide +kernel
theorem dX9_readNumber_61 : decode cX9_readNumber 61 = .ok (.dup, 1) := by decide +kernel
theorem dX9_readNumber_62 : decode cX9_readNumber 62 = .ok (.getfield 59, 3) := by decide +kernel
theorem dX9_readNumber_65 : decode cX9_readNumber 65 = .ok (.iconst 1, 1) := by decide +kernel
theorem dX9_readNumber_66 : decode cX9_readNumber 66 = .ok (.iadd, 1) := by decide +kernel
theorem dX9_readNumber_67 : decode cX9_readNumber 67 = .ok (.putfield 59, 3) := by decide +kernel
theorem dX9_readNumber_70 : decode cX9_readNumber 70 = .ok (.goto (-63), 3) := by decide +kernel
theorem dX9_readNumber_73 : decode cX9_readNumber 73 = .ok (.aload_n 0, 1) := by decide +kernel
theorem dX9_readNumber_74 : decode cX9_readNumber 74 = .ok (.getfield 38, 3) := by decide +kernel
theorem dX9_readNumber_77 : decode cX9_readNumber 77 = .ok (.iload_n 1, 1) := by decide +kernel
theorem dX9_readNumber_78 : decode cX9_readNumber 78 = .ok (.lload_n 3, 1) := by decide +kernel
theorem dX9_readNumber_79 : decode cX9_readNumber 79 = .ok (.invokevirtual 53, 3) := by decide +kernel
theorem dX9_readNumber_82 : decode cX9_readNumber 82 = .ok (.aload_n 0, 1) := by decide +kernel
theorem dX9_readNumber_83 : decode cX9_readNumber 83 = .ok (.getfield 59, 3) := by decide +kernel
theorem dX9_readNumber_86 : decode cX9_readNumber 86 = .ok (.iload_n 2, 1) := by decide +kernel
theorem dX9_readNumber_87 : decode cX9_readNumber 87 = .ok (.isub, 1) := by decide +kernel
theorem dX9_readNumber_88 : decode cX9_readNumber 88 = .ok (.bipush 6, 2) := by decide +kernel
theorem dX9_readNumber_90 : decode cX9_readNumber 90 = .ok (.if_icmp .le 8, 3) := by decide +kernel
theorem dX9_readNumber_93 : decode cX9_readNumber 93 = .ok (.bipush 54, 2) := by decide +kernel
theorem dX9_readNumber_95 : decode cX9_readNumber 95 = .ok (.goto 5, 3) := by decide +kernel
theorem dX9_readNumber_98 : decode cX9_readNumber 98 = .ok (.bipush 52, 2) := by decide +kernel
theorem dX9_readNumber_100 : decode cX9_readNumber 100 = .ok (.ireturn, 1) := by decide +kernel
theorem dX9_readSymbol_0 : decode cX9_readSymbol 0 = .ok (.iload_n 1, 1) := by decide +kernel
theorem dX9_readSymbol_1 : decode cX9_readSymbol 1 = .ok (.aload_n 0, 1) := by decide +kernel
theorem dX9_readSymbol_2 : decode cX9_readSymbol 2 = .ok (.getfield 9, 3) := by decide +kernel
theorem dX9_readSymbol_5 : decode cX9_readSymbol 5 = .ok (.aload_n 0, 1) := by decide +kernel
theorem dX9_readSymbol_6 : decode cX9_readSymbol 6 = .ok (.getfield 59, 3) := by decide +kernel
theorem dX9_readSymbol_9 : decode cX9_readSymbol 9 = .ok (.iconst 1, 1) := by decide +kernel
theorem dX9_readSymbol_10 : decode cX9_readSymbol 10 = .ok (.iadd, 1) := by decide +kernel
theorem dX9_readSymbol_11 : decode cX9_readSymbol 11 = .ok (.invokevirtual 77, 3) := by decide +kernel
theorem dX9_readSymbol_14 : decode cX9_readSymbol 14 = .ok (.invokestatic 106, 3) := by decide +kernel
theorem dX9_readSymbol_17 : decode cX9_readSymbol 17 = .ok (.istore_n 2, 1) := by decide +kernel
theorem dX9_readSymbol_18 : decode cX9_readSymbol 18 = .ok (.iload_n 2, 1) := by decide +kernel
theorem dX9_readSymbol_19 : decode cX9_readSymbol 19 = .ok (.bipush 54, 2) := by decide +kernel
theorem dX9_readSymbol_21 : decode cX9_readSymbol 21 = .ok (.if_icmp .eq 15, 3) := by decide +kernel
theorem dX9_readSymbol_24 : decode cX9_readSymbol 24 = .ok (.aload_n 0, 1) := by decide +kernel
theorem dX9_readSymbol_25 : decode cX9_readSymbol 25 = .ok (.dup, 1) := by decide +kernel
theorem dX9_readSymbol_26 : decode cX9_readSymbol 26 = .ok (.getfield 59, 3) := by decide +kernel
theorem dX9_readSymbol_29 : decode cX9_readSymbol 29 = .ok (.iconst 2, 1) := by decide +kernel
theorem dX9_readSymbol_30 : decode cX9_readSymbol 30 = .ok (.iadd, 1) := by decide +kernel
theorem dX9_readSymbol_31 : decode cX9_readSymbol 31 = .ok (.putfield 59, 3) := by decide +kernel
theorem dX9_readSymbol_34 : decode cX9_readSymbol 34 = .ok (.iload_n 2, 1) := by decide +kernel
theorem dX9_readSymbol_35 : decode cX9_readSymbol 35 = .ok (.ireturn, 1) := by decide +kernel
theorem dX9_readSymbol_36 : decode cX9_readSymbol 36 = .ok (.aload_n 0, 1) := by decide +kernel
theorem dX9_readSymbol_37 : decode cX9_readSymbol 37 = .ok (.dup, 1) := by decide +kernel
theorem dX9_readSymbol_38 : decode cX9_readSymbol 38 = .ok (.getfield 59, 3) := by decide +kernel
theorem dX9_readSymbol_41 : decode cX9_readSymbol 41 = .ok (.iconst 1, 1) := by decide +kernel
theorem dX9_readSymbol_42 : decode cX9_readSymbol 42 = .ok (.iadd, 1) := by decide +kernel
theorem dX9_readSymbol_43 : decode cX9_readSymbol 43 = .ok (.putfield 59, 3) := by decide +kernel
theorem dX9_readSymbol_46 : decode cX9_readSymbol 46 = .ok (.iload_n 1, 1) := by decide +kernel
theorem dX9_readSymbol_47 : decode cX9_readSymbol 47 = .ok (.invokestatic 110, 3) := by decide +kernel
theorem dX9_readSymbol_50 : decode cX9_readSymbol 50 = .ok (.ireturn, 1) := by decide +kernel
theorem dX9_symbolOfTwo_0 : decode cX9_symbolOfTwo 0 = .ok (.iload_n 1, 1) := by decide +kernel
theorem dX9_symbolOfTwo_1 : decode cX9_symbolOfTwo 1 = .ok (.bipush 61, 2) := by decide +kernel
theorem dX9_symbolOfTwo_3 : decode cX9_symbolOfTwo 3 = .ok (.if_icmp .ne 49, 3) := by decide +kernel
theorem dX9_symbolOfTwo_6 : decode cX9_symbolOfTwo 6 = .ok (.iload_n 0, 1) := by decide +kernel
theorem dX9_symbolOfTwo_7 : decode cX9_symbolOfTwo 7 = .ok (.tableswitch 42 58 62 #[33, 42, 36, 42, 39], 33) := by decide +kernel
theorem dX9_symbolOfTwo_40 : decode cX9_symbolOfTwo 40 = .ok (.bipush 38, 2) := by decide +kernel
theorem dX9_symbolOfTwo_42 : decode cX9_symbolOfTwo 42 = .ok (.ireturn, 1) := by decide +kernel
theorem dX9_symbolOfTwo_43 : decode cX9_symbolOfTwo 43 = .ok (.bipush 48, 2) := by decide +kernel
theorem dX9_symbolOfTwo_45 : decode cX9_symbolOfTwo 45 = .ok (.ireturn, 1) := by decide +kernel
theorem dX9_symbolOfTwo_46 : decode cX9_symbolOfTwo 46 = .ok (.bipush 49, 2) := by decide +kernel
theorem dX9_symbolOfTwo_48 : decode cX9_symbolOfTwo 48 = .ok (.ireturn, 1) := by decide +kernel
theorem dX9_symbolOfTwo_49 : decode cX9_symbolOfTwo 49 = .ok (.bipush 54, 2) := by decide +kernel
theorem dX9_symbolOfTwo_51 : decode cX9_symbolOfTwo 51 = .ok (.ireturn, 1) := by decide +kernel
theorem dX9_symbolOfTwo_52 : decode cX9_symbolOfTwo 52 = .ok (.iload_n 0, 1) := by decide +kernel
theorem dX9_symbolOfTwo_53 : decode cX9_symbolOfTwo 53 = .ok (.bipush 60, 2) := by decide +kernel
theorem dX9_symbolOfTwo_55 : decode cX9_symbolOfTwo 55 = .ok (.if_icmp .ne 12, 3) := by decide +kernel
theorem dX9_symbolOfTwo_58 : decode cX9_symbolOfTwo 58 = .ok (.iload_n 1, 1) := by decide +kernel
theorem dX9_symbolOfTwo_59 : decode cX9_symbolOfTwo 59 = .ok (.bipush 62, 2) := by decide +kernel
theorem dX9_symbolOfTwo_61 : decode cX9_symbolOfTwo 61 = .ok (.if_icmp .ne 6, 3) := by decide +kernel
theorem dX9_symbolOfTwo_64 : decode cX9_symbolOfTwo 64 = .ok (.bipush 45, 2) := by decide +kernel
theorem dX9_symbolOfTwo_66 : decode cX9_symbolOfTwo 66 = .ok (.ireturn, 1) := by decide +kernel
theorem dX9_symbolOfTwo_67 : decode cX9_symbolOfTwo 67 = .ok (.iload_n 0, 1) := by decide +kernel
theorem dX9_symbolOfTwo_68 : decode cX9_symbolOfTwo 68 = .ok (.bipush 46, 2) := by decide +kernel
theorem dX9_symbolOfTwo_70 : decode cX9_symbolOfTwo 70 = .ok (.if_icmp .ne 14, 3) := by decide +kernel
theorem dX9_symbolOfTwo_73 : decode cX9_symbolOfTwo 73 = .ok (.iload_n 1, 1) := by decide +kernel
theorem dX9_symbolOfTwo_74 : decode cX9_symbolOfTwo 74 = .ok (.bipush 46, 2) := by decide +kernel
theorem dX9_symbolOfTwo_76 : decode cX9_symbolOfTwo 76 = .ok (.if_icmp .ne 8, 3) := by decide +kernel
theorem dX9_symbolOfTwo_79 : decode cX9_symbolOfTwo 79 = .ok (.bipush 50, 2) := by decide +kernel
theorem dX9_symbolOfTwo_81 : decode cX9_symbolOfTwo 81 = .ok (.goto 5, 3) := by decide +kernel
theorem dX9_symbolOfTwo_84 : decode cX9_symbolOfTwo 84 = .ok (.bipush 54, 2) := by decide +kernel
theorem dX9_symbolOfTwo_86 : decode cX9_symbolOfTwo 86 = .ok (.ireturn, 1) := by decide +kernel
theorem dX9_symbolOfOne_0 : decode cX9_symbolOfOne 0 = .ok (.iload_n 0, 1) := by decide +kernel
theorem dX9_symbolOfOne_1 : decode cX9_symbolOfOne 1 = .ok (.lookupswitch 187 #[(37, 178), (40, 139), (41, 142), (42, 172), (43, 166), (45, 169), (47, 175), (58, 160), (59, 157), (60, 181), (61, 163), (62, 184), (91, 151), (93, 154), (123, 145), (125, 148)], 139) := by decide +kernel
theorem dX9_symbolOfOne_140 : decode cX9_symbolOfOne 140 = .ok (.bipush 30, 2) := by decide +kernel
theorem dX9_symbolOfOne_142 : decode cX9_symbolOfOne 142 = .ok (.ireturn, 1) := by decide +kernel
theorem dX9_symbolOfOne_143 : decode cX9_symbolOfOne 143 = .ok (.bipush 31, 2) := by decide +kernel
theorem dX9_symbolOfOne_145 : decode cX9_symbolOfOne 145 = .ok (.ireturn, 1) := by decide +kernel
theorem dX9_symbolOfOne_146 : decode cX9_symbolOfOne 146 = .ok (.bipush 32, 2) := by decide +kernel
theorem dX9_symbolOfOne_148 : decode cX9_symbolOfOne 148 = .ok (.ireturn, 1) := by decide +kernel
theorem dX9_symbolOfOne_149 : decode cX9_symbolOfOne 149 = .ok (.bipush 33, 2) := by decide +kernel
theorem dX9_symbolOfOne_151 : decode cX9_symbolOfOne 151 = .ok (.ireturn, 1) := by decide +kernel
theorem dX9_symbolOfOne_152 : decode cX9_symbolOfOne 152 = .ok (.bipush 34, 2) := by decide +kernel
theorem dX9_symbolOfOne_154 : decode cX9_symbolOfOne 154 = .ok (.ireturn, 1) := by decide +kernel
theorem dX9_symbolOfOne_155 : decode cX9_symbolOfOne 155 = .ok (.bipush 35, 2) := by decide +kernel
theorem dX9_symbolOfOne_157 : decode cX9_symbolOfOne 157 = .ok (.ireturn, 1) := by decide +kernel
theorem dX9_symbolOfOne_158 : decode cX9_symbolOfOne 158 = .ok (.bipush 36, 2) := by decide +kernel
theorem dX9_symbolOfOne_160 : decode cX9_symbolOfOne 160 = .ok (.ireturn, 1) := by decide +kernel
theorem dX9_symbolOfOne_161 : decode cX9_symbolOfOne 161 = .ok (.bipush 37, 2) := by decide +kernel
theorem dX9_symbolOfOne_163 : decode cX9_symbolOfOne 163 = .ok (.ireturn, 1) := by decide +kernel
theorem dX9_symbolOfOne_164 : decode cX9_symbolOfOne 164 = .ok (.bipush 44, 2) := by decide +kernel
theorem dX9_symbolOfOne_166 : decode cX9_symbolOfOne 166 = .ok (.ireturn, 1) := by decide +kernel
theorem dX9_symbolOfOne_167 : decode cX9_symbolOfOne 167 = .ok (.bipush 39, 2) := by decide +kernel
theorem dX9_symbolOfOne_169 : decode cX9_symbolOfOne 169 = .ok (.ireturn, 1) := by decide +kernel
theorem dX9_symbolOfOne_170 : decode cX9_symbolOfOne 170 = .ok (.bipush 40, 2) := by decide +kernel
theorem dX9_symbolOfOne_172 : decode cX9_symbolOfOne 172 = .ok (.ireturn, 1) := by decide +kernel
theorem dX9_symbolOfOne_173 : decode cX9_symbolOfOne 173 = .ok (.bipush 41, 2) := by decide +kernel
theorem dX9_symbolOfOne_175 : decode cX9_symbolOfOne 175 = .ok (.ireturn, 1) := by decide +kernel
theorem dX9_symbolOfOne_176 : decode cX9_symbolOfOne 176 = .ok (.bipush 42, 2) := by decide +kernel
theorem dX9_symbolOfOne_178 : decode cX9_symbolOfOne 178 = .ok (.ireturn, 1) := by decide +kernel
theorem dX9_symbolOfOne_179 : decode cX9_symbolOfOne 179 = .ok (.bipush 43, 2) := by decide +kernel
theorem dX9_symbolOfOne_181 : decode cX9_symbolOfOne 181 = .ok (.ireturn, 1) := by decide +kernel
theorem dX9_symbolOfOne_182 : decode cX9_symbolOfOne 182 = .ok (.bipush 46, 2) := by decide +kernel
theorem dX9_symbolOfOne_184 : decode cX9_symbolOfOne 184 = .ok (.ireturn, 1) := by decide +kernel
theorem dX9_symbolOfOne_185 : decode cX9_symbolOfOne 185 = .ok (.bipush 47, 2) := by decide +kernel
theorem dX9_symbolOfOne_187 : decode cX9_symbolOfOne 187 = .ok (.ireturn, 1) := by decide +kernel
theorem dX9_symbolOfOne_188 : decode cX9_symbolOfOne 188 = .ok (.bipush 54, 2) := by decide +kernel
theorem dX9_symbolOfOne_190 : decode cX9_symbolOfOne 190 = .ok (.ireturn, 1) := by decide +kernel
theorem dX9_isLetter_0 : decode cX9_isLetter 0 = .ok (.iload_n 0, 1) := by decide +kernel
theorem dX9_isLetter_1 : decode cX9_isLetter 1 = .ok (.bipush 97, 2) := by decide +kernel
theorem dX9_isLetter_3 : decode cX9_isLetter 3 = .ok (.if_icmp .lt 13, 3) := by decide +kernel
theorem dX9_isLetter_6 : decode cX9_isLetter 6 = .ok (.iload_n 0, 1) := by decide +kernel
theorem dX9_isLetter_7 : decode cX9_isLetter 7 = .ok (.bipush 122, 2) := by decide +kernel
theorem dX9_isLetter_9 : decode cX9_isLetter 9 = .ok (.if_icmp .gt 7, 3) := by decide +kernel
theorem dX9_isLetter_12 : decode cX9_isLetter 12 = .ok (.iconst 1, 1) := by decide +kernel
theorem dX9_isLetter_13 : decode cX9_isLetter 13 = .ok (.goto 4, 3) := by decide +kernel
theorem dX9_isLetter_16 : decode cX9_isLetter 16 = .ok (.iconst 0, 1) := by decide +kernel
theorem dX9_isLetter_17 : decode cX9_isLetter 17 = .ok (.ireturn, 1) := by decide +kernel
theorem dX9_isDigit_0 : decode cX9_isDigit 0 = .ok (.iload_n 0, 1) := by decide +kernel
theorem dX9_isDigit_1 : decode cX9_isDigit 1 = .ok (.bipush 48, 2) := by decide +kernel
theorem dX9_isDigit_3 : decode cX9_isDigit 3 = .ok (.if_icmp .lt 13, 3) := by decide +kernel
theorem dX9_isDigit_6 : decode cX9_isDigit 6 = .ok (.iload_n 0, 1) := by decide +kernel
theorem dX9_isDigit_7 : decode cX9_isDigit 7 = .ok (.bipush 57, 2) := by decide +kernel
theorem dX9_isDigit_9 : decode cX9_isDigit 9 = .ok (.if_icmp .gt 7, 3) := by decide +kernel
theorem dX9_isDigit_12 : decode cX9_isDigit 12 = .ok (.iconst 1, 1) := by decide +kernel
theorem dX9_isDigit_13 : decode cX9_isDigit 13 = .ok (.goto 4, 3) := by decide +kernel
theorem dX9_isDigit_16 : decode cX9_isDigit 16 = .ok (.iconst 0, 1) := by decide +kernel
theorem dX9_isDigit_17 : decode cX9_isDigit 17 = .ok (.ireturn, 1) := by decide +kernel

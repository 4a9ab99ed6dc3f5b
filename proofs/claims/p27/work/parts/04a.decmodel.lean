theorem dX10_init_0 : decode cX10_init 0 = .ok (.aload_n 0, 1) := by decide +kernel
theorem dX10_init_1 : decode cX10_init 1 = .ok (.invokespecial 1, 3) := by decide +kernel
theorem dX10_init_4 : decode cX10_init 4 = .ok (.aload_n 0, 1) := by decide +kernel
theorem dX10_init_5 : decode cX10_init 5 = .ok (.new 7, 3) := by decide +kernel
theorem dX10_init_8 : decode cX10_init 8 = .ok (.dup, 1) := by decide +kernel
theorem dX10_init_9 : decode cX10_init 9 = .ok (.invokespecial 9, 3) := by decide +kernel
theorem dX10_init_12 : decode cX10_init 12 = .ok (.putfield 10, 3) := by decide +kernel
theorem dX10_init_15 : decode cX10_init 15 = .ok (.aload_n 0, 1) := by decide +kernel
theorem dX10_init_16 : decode cX10_init 16 = .ok (.new 16, 3) := by decide +kernel
theorem dX10_init_19 : decode cX10_init 19 = .ok (.dup, 1) := by decide +kernel
theorem dX10_init_20 : decode cX10_init 20 = .ok (.aload_n 0, 1) := by decide +kernel
theorem dX10_init_21 : decode cX10_init 21 = .ok (.getfield 10, 3) := by decide +kernel
theorem dX10_init_24 : decode cX10_init 24 = .ok (.invokespecial 18, 3) := by decide +kernel
theorem dX10_init_27 : decode cX10_init 27 = .ok (.putfield 21, 3) := by decide +kernel
theorem dX10_init_30 : decode cX10_init 30 = .ok (.aload_n 0, 1) := by decide +kernel
theorem dX10_init_31 : decode cX10_init 31 = .ok (.new 25, 3) := by decide +kernel
theorem dX10_init_34 : decode cX10_init 34 = .ok (.dup, 1) := by decide +kernel
theorem dX10_init_35 : decode cX10_init 35 = .ok (.invokespecial 27, 3) := by decide +kernel
theorem dX10_init_38 : decode cX10_init 38 = .ok (.putfield 28, 3) := by decide +kernel
theorem dX10_init_41 : decode cX10_init 41 = .ok (.aload_n 0, 1) := by decide +kernel
theorem dX10_init_42 : decode cX10_init 42 = .ok (.new 32, 3) := by decide +kernel
theorem dX10_init_45 : decode cX10_init 45 = .ok (.dup, 1) := by decide +kernel
theorem dX10_init_46 : decode cX10_init 46 = .ok (.invokespecial 34, 3) := by decide +kernel
theorem dX10_init_49 : decode cX10_init 49 = .ok (.putfield 35, 3) := by decide +kernel
theorem dX10_init_52 : decode cX10_init 52 = .ok (.aload_n 0, 1) := by decide +kernel
theorem dX10_init_53 : decode cX10_init 53 = .ok (.new 39, 3) := by decide +kernel
theorem dX10_init_56 : decode cX10_init 56 = .ok (.dup, 1) := by decide +kernel
theorem dX10_init_57 : decode cX10_init 57 = .ok (.aload_n 0, 1) := by decide +kernel
theorem dX10_init_58 : decode cX10_init 58 = .ok (.getfield 21, 3) := by decide +kernel
theorem dX10_init_61 : decode cX10_init 61 = .ok (.aload_n 0, 1) := by decide +kernel
theorem dX10_init_62 : decode cX10_init 62 = .ok (.getfield 28, 3) := by decide +kernel
theorem dX10_init_65 : decode cX10_init 65 = .ok (.aload_n 0, 1) := by decide +kernel
theorem dX10_init_66 : decode cX10_init 66 = .ok (.getfield 35, 3) := by decide +kernel
theorem dX10_init_69 : decode cX10_init 69 = .ok (.invokespecial 41, 3) := by decide +kernel
theorem dX10_init_72 : decode cX10_init 72 = .ok (.putfield 44, 3) := by decide +kernel
theorem dX10_init_75 : decode cX10_init 75 = .ok (.aload_n 0, 1) := by decide +kernel
theorem dX10_init_76 : decode cX10_init 76 = .ok (.new 48, 3) := by decide +kernel
theorem dX10_init_79 : decode cX10_init 79 = .ok (.dup, 1) := by decide +kernel
theorem dX10_init_80 : decode cX10_init 80 = .ok (.invokespecial 50, 3) := by decide +kernel
theorem dX10_init_83 : decode cX10_init 83 = .ok (.putfield 51, 3) := by decide +kernel
theorem dX10_init_86 : decode cX10_init 86 = .ok (.aload_n 0, 1) := by decide +kernel
theorem dX10_init_87 : decode cX10_init 87 = .ok (.new 48, 3) := by decide +kernel
theorem dX10_init_90 : decode cX10_init 90 = .ok (.dup, 1) := by decide +kernel
theorem dX10_init_91 : decode cX10_init 91 = .ok (.invokespecial 50, 3) := by decide +kernel
theorem dX10_init_94 : decode cX10_init 94 = .ok (.putfield 55, 3) := by decide +kernel
theorem dX10_init_97 : decode cX10_init 97 = .ok (.aload_n 0, 1) := by decide +kernel
theorem dX10_init_98 : decode cX10_init 98 = .ok (.new 58, 3) := by decide +kernel
theorem dX10_init_101 : decode cX10_init 101 = .ok (.dup, 1) := by decide +kernel
theorem dX10_init_102 : decode cX10_init 102 = .ok (.aload_n 0, 1) := by decide +kernel
theorem dX10_init_103 : decode cX10_init 103 = .ok (.getfield 28, 3) := by decide +kernel
theorem dX10_init_106 : decode cX10_init 106 = .ok (.aload_n 0, 1) := by decide +kernel
theorem dX10_init_107 : decode cX10_init 107 = .ok (.getfield 51, 3) := by decide +kernel
theorem dX10_init_110 : decode cX10_init 110 = .ok (.invokespecial 60, 3) := by decide +kernel
theorem dX10_init_113 : decode cX10_init 113 = .ok (.putfield 63, 3) := by decide +kernel
theorem dX10_init_116 : decode cX10_init 116 = .ok (.aload_n 0, 1) := by decide +kernel
theorem dX10_init_117 : decode cX10_init 117 = .ok (.new 67, 3) := by decide +kernel
theorem dX10_init_120 : decode cX10_init 120 = .ok (.dup, 1) := by decide +kernel
theorem dX10_init_121 : decode cX10_init 121 = .ok (.bipush 8, 2) := by decide +kernel
theorem dX10_init_123 : decode cX10_init 123 = .ok (.invokespecial 69, 3) := by decide +kernel
theorem dX10_init_126 : decode cX10_init 126 = .ok (.putfield 72, 3) := by decide +kernel
theorem dX10_init_129 : decode cX10_init 129 = .ok (.aload_n 0, 1) := by decide +kernel
theorem dX10_init_130 : decode cX10_init 130 = .ok (.iconst (-1), 1) := by decide +kernel
theorem dX10_init_131 : decode cX10_init 131 = .ok (.putfield 76, 3) := by decide +kernel
theorem dX10_init_134 : decode cX10_init 134 = .ok (.aload_n 0, 1) := by decide +kernel
theorem dX10_init_135 : decode cX10_init 135 = .ok (.sipush 400, 3) := by decide +kernel
theorem dX10_init_138 : decode cX10_init 138 = .ok (.putfield 80, 3) := by decide +kernel
theorem dX10_init_141 : decode cX10_init 141 = .ok (.aload_n 0, 1) := by decide +kernel
theorem dX10_init_142 : decode cX10_init 142 = .ok (.sipush 400, 3) := by decide +kernel
theorem dX10_init_145 : decode cX10_init 145 = .ok (.putfield 83, 3) := by decide +kernel
theorem dX10_init_148 : decode cX10_init 148 = .ok (.return_, 1) := by decide +kernel
theorem dX10_feed_0 : decode cX10_feed 0 = .ok (.aload_n 0, 1) := by decide +kernel
theorem dX10_feed_1 : decode cX10_feed 1 = .ok (.getfield 10, 3) := by decide +kernel
theorem dX10_feed_4 : decode cX10_feed 4 = .ok (.getfield 86, 3) := by decide +kernel
theorem dX10_feed_7 : decode cX10_feed 7 = .ok (.sipush 1780, 3) := by decide +kernel
theorem dX10_feed_10 : decode cX10_feed 10 = .ok (.if_icmp .le 13, 3) := by decide +kernel
theorem dX10_feed_13 : decode cX10_feed 13 = .ok (.new 89, 3) := by decide +kernel
theorem dX10_feed_16 : decode cX10_feed 16 = .ok (.dup, 1) := by decide +kernel
theorem dX10_feed_17 : decode cX10_feed 17 = .ok (.ldc 91, 2) := by decide +kernel
theorem dX10_feed_19 : decode cX10_feed 19 = .ok (.invokespecial 93, 3) := by decide +kernel
theorem dX10_feed_22 : decode cX10_feed 22 = .ok (.athrow, 1) := by decide +kernel
theorem dX10_feed_23 : decode cX10_feed 23 = .ok (.aload_n 0, 1) := by decide +kernel
theorem dX10_feed_24 : decode cX10_feed 24 = .ok (.getfield 10, 3) := by decide +kernel
theorem dX10_feed_27 : decode cX10_feed 27 = .ok (.iload_n 1, 1) := by decide +kernel
theorem dX10_feed_28 : decode cX10_feed 28 = .ok (.invokevirtual 96, 3) := by decide +kernel
theorem dX10_feed_31 : decode cX10_feed 31 = .ok (.aload_n 0, 1) := by decide +kernel
theorem dX10_feed_32 : decode cX10_feed 32 = .ok (.getfield 10, 3) := by decide +kernel
theorem dX10_feed_35 : decode cX10_feed 35 = .ok (.iload_n 2, 1) := by decide +kernel
theorem dX10_feed_36 : decode cX10_feed 36 = .ok (.invokevirtual 96, 3) := by decide +kernel
theorem dX10_feed_39 : decode cX10_feed 39 = .ok (.aload_n 0, 1) := by decide +kernel
theorem dX10_feed_40 : decode cX10_feed 40 = .ok (.getfield 10, 3) := by decide +kernel
theorem dX10_feed_43 : decode cX10_feed 43 = .ok (.iload_n 3, 1) := by decide +kernel
theorem dX10_feed_44 : decode cX10_feed 44 = .ok (.invokevirtual 96, 3) := by decide +kernel
theorem dX10_feed_47 : decode cX10_feed 47 = .ok (.aload_n 0, 1) := by decide +kernel
theorem dX10_feed_48 : decode cX10_feed 48 = .ok (.getfield 10, 3) := by decide +kernel
theorem dX10_feed_51 : decode cX10_feed 51 = .ok (.iload 4, 2) := by decide +kernel
theorem dX10_feed_53 : decode cX10_feed 53 = .ok (.invokevirtual 96, 3) := by decide +kernel
theorem dX10_feed_56 : decode cX10_feed 56 = .ok (.aload_n 0, 1) := by decide +kernel
theorem dX10_feed_57 : decode cX10_feed 57 = .ok (.getfield 10, 3) := by decide +kernel
theorem dX10_feed_60 : decode cX10_feed 60 = .ok (.iload 5, 2) := by decide +kernel
theorem dX10_feed_62 : decode cX10_feed 62 = .ok (.invokevirtual 96, 3) := by decide +kernel
theorem dX10_feed_65 : decode cX10_feed 65 = .ok (.aload_n 0, 1) := by decide +kernel
theorem dX10_feed_66 : decode cX10_feed 66 = .ok (.getfield 10, 3) := by decide +kernel
theorem dX10_feed_69 : decode cX10_feed 69 = .ok (.getfield 86, 3) := by decide +kernel
theorem dX10_feed_72 : decode cX10_feed 72 = .ok (.ireturn, 1) := by decide +kernel
theorem dX10_trim_0 : decode cX10_trim 0 = .ok (.iload_n 1, 1) := by decide +kernel
theorem dX10_trim_1 : decode cX10_trim 1 = .ok (.ifCond .lt 14, 3) := by decide +kernel
theorem dX10_trim_4 : decode cX10_trim 4 = .ok (.iload_n 1, 1) := by decide +kernel
theorem dX10_trim_5 : decode cX10_trim 5 = .ok (.aload_n 0, 1) := by decide +kernel
theorem dX10_trim_6 : decode cX10_trim 6 = .ok (.getfield 10, 3) := by decide +kernel
theorem dX10_trim_9 : decode cX10_trim 9 = .ok (.getfield 86, 3) := by decide +kernel
theorem dX10_trim_12 : decode cX10_trim 12 = .ok (.if_icmp .le 13, 3) := by decide +kernel
theorem dX10_trim_15 : decode cX10_trim 15 = .ok (.new 99, 3) := by decide +kernel
theorem dX10_trim_18 : decode cX10_trim 18 = .ok (.dup, 1) := by decide +kernel
theorem dX10_trim_19 : decode cX10_trim 19 = .ok (.ldc 101, 2) := by decide +kernel
theorem dX10_trim_21 : decode cX10_trim 21 = .ok (.invokespecial 103, 3) := by decide +kernel
theorem dX10_trim_24 : decode cX10_trim 24 = .ok (.athrow, 1) := by decide +kernel
theorem dX10_trim_25 : decode cX10_trim 25 = .ok (.aload_n 0, 1) := by decide +kernel
theorem dX10_trim_26 : decode cX10_trim 26 = .ok (.getfield 10, 3) := by decide +kernel
theorem dX10_trim_29 : decode cX10_trim 29 = .ok (.iload_n 1, 1) := by decide +kernel
theorem dX10_trim_30 : decode cX10_trim 30 = .ok (.putfield 86, 3) := by decide +kernel
theorem dX10_trim_33 : decode cX10_trim 33 = .ok (.iload_n 1, 1) := by decide +kernel
theorem dX10_trim_34 : decode cX10_trim 34 = .ok (.ireturn, 1) := by decide +kernel
theorem dX10_compile_0 : decode cX10_compile 0 = .ok (.aload_n 0, 1) := by decide +kernel
theorem dX10_compile_1 : decode cX10_compile 1 = .ok (.getfield 35, 3) := by decide +kernel
theorem dX10_compile_4 : decode cX10_compile 4 = .ok (.invokevirtual 104, 3) := by decide +kernel
theorem dX10_compile_7 : decode cX10_compile 7 = .ok (.aload_n 0, 1) := by decide +kernel
theorem dX10_compile_8 : decode cX10_compile 8 = .ok (.iconst 0, 1) := by decide +kernel
theorem dX10_compile_9 : decode cX10_compile 9 = .ok (.putfield 107, 3) := by decide +kernel
theorem dX10_compile_12 : decode cX10_compile 12 = .ok (.aload_n 0, 1) := by decide +kernel
theorem dX10_compile_13 : decode cX10_compile 13 = .ok (.getfield 21, 3) := by decide +kernel
theorem dX10_compile_16 : decode cX10_compile 16 = .ok (.invokevirtual 111, 3) := by decide +kernel
theorem dX10_compile_19 : decode cX10_compile 19 = .ok (.aload_n 0, 1) := by decide +kernel
theorem dX10_compile_20 : decode cX10_compile 20 = .ok (.getfield 44, 3) := by decide +kernel
theorem dX10_compile_23 : decode cX10_compile 23 = .ok (.invokevirtual 114, 3) := by decide +kernel
theorem dX10_compile_26 : decode cX10_compile 26 = .ok (.aload_n 0, 1) := by decide +kernel
theorem dX10_compile_27 : decode cX10_compile 27 = .ok (.getfield 10, 3) := by decide +kernel
theorem dX10_compile_30 : decode cX10_compile 30 = .ok (.iconst 0, 1) := by decide +kernel
theorem dX10_compile_31 : decode cX10_compile 31 = .ok (.putfield 86, 3) := by decide +kernel
theorem dX10_compile_34 : decode cX10_compile 34 = .ok (.aload_n 0, 1) := by decide +kernel
theorem dX10_compile_35 : decode cX10_compile 35 = .ok (.aload_n 0, 1) := by decide +kernel
theorem dX10_compile_36 : decode cX10_compile 36 = .ok (.getfield 44, 3) := by decide +kernel
theorem dX10_compile_39 : decode cX10_compile 39 = .ok (.getfield 117, 3) := by decide +kernel
theorem dX10_compile_42 : decode cX10_compile 42 = .ok (.putfield 76, 3) := by decide +kernel
theorem dX10_compile_45 : decode cX10_compile 45 = .ok (.aload_n 0, 1) := by decide +kernel
theorem dX10_compile_46 : decode cX10_compile 46 = .ok (.getfield 44, 3) := by decide +kernel
theorem dX10_compile_49 : decode cX10_compile 49 = .ok (.getfield 120, 3) := by decide +kernel
theorem dX10_compile_52 : decode cX10_compile 52 = .ok (.ifCond .ne 28, 3) := by decide +kernel
theorem dX10_compile_55 : decode cX10_compile 55 = .ok (.aload_n 0, 1) := by decide +kernel
theorem dX10_compile_56 : decode cX10_compile 56 = .ok (.getfield 35, 3) := by decide +kernel
theorem dX10_compile_59 : decode cX10_compile 59 = .ok (.iconst 1, 1) := by decide +kernel
theorem dX10_compile_60 : decode cX10_compile 60 = .ok (.putfield 123, 3) := by decide +kernel
theorem dX10_compile_63 : decode cX10_compile 63 = .ok (.aload_n 0, 1) := by decide +kernel
theorem dX10_compile_64 : decode cX10_compile 64 = .ok (.getfield 35, 3) := by decide +kernel
theorem dX10_compile_67 : decode cX10_compile 67 = .ok (.aload_n 0, 1) := by decide +kernel
theorem dX10_compile_68 : decode cX10_compile 68 = .ok (.getfield 28, 3) := by decide +kernel
theorem dX10_compile_71 : decode cX10_compile 71 = .ok (.getfield 126, 3) := by decide +kernel
theorem dX10_compile_74 : decode cX10_compile 74 = .ok (.putfield 129, 3) := by decide +kernel
theorem dX10_compile_77 : decode cX10_compile 77 = .ok (.goto 10, 3) := by decide +kernel
theorem dX10_compile_80 : decode cX10_compile 80 = .ok (.aload_n 0, 1) := by decide +kernel
theorem dX10_compile_81 : decode cX10_compile 81 = .ok (.getfield 35, 3) := by decide +kernel
theorem dX10_compile_84 : decode cX10_compile 84 = .ok (.invokevirtual 104, 3) := by decide +kernel
theorem dX10_compile_87 : decode cX10_compile 87 = .ok (.aload_n 0, 1) := by decide +kernel
theorem dX10_compile_88 : decode cX10_compile 88 = .ok (.invokevirtual 132, 3) := by decide +kernel
theorem dX10_compile_91 : decode cX10_compile 91 = .ok (.aload_n 0, 1) := by decide +kernel
theorem dX10_compile_92 : decode cX10_compile 92 = .ok (.getfield 44, 3) := by decide +kernel
theorem dX10_compile_95 : decode cX10_compile 95 = .ok (.getfield 120, 3) := by decide +kernel
theorem dX10_compile_98 : decode cX10_compile 98 = .ok (.ireturn, 1) := by decide +kernel
theorem dX10_count_0 : decode cX10_count 0 = .ok (.iload_n 1, 1) := by decide +kernel
theorem dX10_count_1 : decode cX10_count 1 = .ok (.ifCond .lt 9, 3) := by decide +kernel
theorem dX10_count_4 : decode cX10_count 4 = .ok (.iload_n 1, 1) := by decide +kernel
theorem dX10_count_5 : decode cX10_count 5 = .ok (.bipush 7, 2) := by decide +kernel
theorem dX10_count_7 : decode cX10_count 7 = .ok (.if_icmp .lt 13, 3) := by decide +kernel
theorem dX10_count_10 : decode cX10_count 10 = .ok (.new 135, 3) := by decide +kernel
theorem dX10_count_13 : decode cX10_count 13 = .ok (.dup, 1) := by decide +kernel
theorem dX10_count_14 : decode cX10_count 14 = .ok (.ldc 137, 2) := by decide +kernel
theorem dX10_count_16 : decode cX10_count 16 = .ok (.invokespecial 139, 3) := by decide +kernel
theorem dX10_count_19 : decode cX10_count 19 = .ok (.athrow, 1) := by decide +kernel
theorem dX10_count_20 : decode cX10_count 20 = .ok (.aload_n 0, 1) := by decide +kernel
theorem dX10_count_21 : decode cX10_count 21 = .ok (.iload_n 1, 1) := by decide +kernel
theorem dX10_count_22 : decode cX10_count 22 = .ok (.invokevirtual 140, 3) := by decide +kernel
theorem dX10_count_25 : decode cX10_count 25 = .ok (.ireturn, 1) := by decide +kernel
theorem dX10_set_0 : decode cX10_set 0 = .ok (.aload_n 0, 1) := by decide +kernel
theorem dX10_set_1 : decode cX10_set 1 = .ok (.iconst 0, 1) := by decide +kernel
theorem dX10_set_2 : decode cX10_set 2 = .ok (.iload_n 1, 1) := by decide +kernel
theorem dX10_set_3 : decode cX10_set 3 = .ok (.invokevirtual 144, 3) := by decide +kernel
theorem dX10_set_6 : decode cX10_set 6 = .ok (.ifCond .ne 13, 3) := by decide +kernel
theorem dX10_set_9 : decode cX10_set 9 = .ok (.new 135, 3) := by decide +kernel
theorem dX10_set_12 : decode cX10_set 12 = .ok (.dup, 1) := by decide +kernel
theorem dX10_set_13 : decode cX10_set 13 = .ok (.ldc 148, 2) := by decide +kernel
theorem dX10_set_15 : decode cX10_set 15 = .ok (.invokespecial 139, 3) := by decide +kernel
theorem dX10_set_18 : decode cX10_set 18 = .ok (.athrow, 1) := by decide +kernel
theorem dX10_set_19 : decode cX10_set 19 = .ok (.aload_n 0, 1) := by decide +kernel
theorem dX10_set_20 : decode cX10_set 20 = .ok (.getfield 72, 3) := by decide +kernel
theorem dX10_set_23 : decode cX10_set 23 = .ok (.iload_n 1, 1) := by decide +kernel
theorem dX10_set_24 : decode cX10_set 24 = .ok (.invokevirtual 150, 3) := by decide +kernel
theorem dX10_set_27 : decode cX10_set 27 = .ok (.lstore 4, 2) := by decide +kernel
theorem dX10_set_29 : decode cX10_set 29 = .ok (.aload_n 0, 1) := by decide +kernel
theorem dX10_set_30 : decode cX10_set 30 = .ok (.getfield 72, 3) := by decide +kernel
theorem dX10_set_33 : decode cX10_set 33 = .ok (.iload_n 1, 1) := by decide +kernel
theorem dX10_set_34 : decode cX10_set 34 = .ok (.lload_n 2, 1) := by decide +kernel
theorem dX10_set_35 : decode cX10_set 35 = .ok (.invokevirtual 154, 3) := by decide +kernel
theorem dX10_set_38 : decode cX10_set 38 = .ok (.lload 4, 2) := by decide +kernel
theorem dX10_set_40 : decode cX10_set 40 = .ok (.lreturn, 1) := by decide +kernel
theorem dX10_tick_0 : decode cX10_tick 0 = .ok (.iload_n 1, 1) := by decide +kernel
theorem dX10_tick_1 : decode cX10_tick 1 = .ok (.ifCond .lt 10, 3) := by decide +kernel
theorem dX10_tick_4 : decode cX10_tick 4 = .ok (.iload_n 1, 1) := by decide +kernel
theorem dX10_tick_5 : decode cX10_tick 5 = .ok (.sipush 1000, 3) := by decide +kernel
theorem dX10_tick_8 : decode cX10_tick 8 = .ok (.if_icmp .le 13, 3) := by decide +kernel
theorem dX10_tick_11 : decode cX10_tick 11 = .ok (.new 99, 3) := by decide +kernel
theorem dX10_tick_14 : decode cX10_tick 14 = .ok (.dup, 1) := by decide +kernel
theorem dX10_tick_15 : decode cX10_tick 15 = .ok (.ldc 158, 2) := by decide +kernel
theorem dX10_tick_17 : decode cX10_tick 17 = .ok (.invokespecial 103, 3) := by decide +kernel
theorem dX10_tick_20 : decode cX10_tick 20 = .ok (.athrow, 1) := by decide +kernel
theorem dX10_tick_21 : decode cX10_tick 21 = .ok (.aload_n 0, 1) := by decide +kernel
theorem dX10_tick_22 : decode cX10_tick 22 = .ok (.getfield 35, 3) := by decide +kernel
theorem dX10_tick_25 : decode cX10_tick 25 = .ok (.getfield 123, 3) := by decide +kernel
theorem dX10_tick_28 : decode cX10_tick 28 = .ok (.ifCond .eq 15, 3) := by decide +kernel
theorem dX10_tick_31 : decode cX10_tick 31 = .ok (.aload_n 0, 1) := by decide +kernel
theorem dX10_tick_32 : decode cX10_tick 32 = .ok (.getfield 51, 3) := by decide +kernel
theorem dX10_tick_35 : decode cX10_tick 35 = .ok (.getfield 160, 3) := by decide +kernel
theorem dX10_tick_38 : decode cX10_tick 38 = .ok (.bipush 120, 2) := by decide +kernel
theorem dX10_tick_40 : decode cX10_tick 40 = .ok (.if_icmp .lt 13, 3) := by decide +kernel
theorem dX10_tick_43 : decode cX10_tick 43 = .ok (.new 89, 3) := by decide +kernel
theorem dX10_tick_46 : decode cX10_tick 46 = .ok (.dup, 1) := by decide +kernel
theorem dX10_tick_47 : decode cX10_tick 47 = .ok (.ldc 163, 2) := by decide +kernel
theorem dX10_tick_49 : decode cX10_tick 49 = .ok (.invokespecial 93, 3) := by decide +kernel
theorem dX10_tick_52 : decode cX10_tick 52 = .ok (.athrow, 1) := by decide +kernel
theorem dX10_tick_53 : decode cX10_tick 53 = .ok (.aload_n 0, 1) := by decide +kernel
theorem dX10_tick_54 : decode cX10_tick 54 = .ok (.aload_n 0, 1) := by decide +kernel
theorem dX10_tick_55 : decode cX10_tick 55 = .ok (.getfield 51, 3) := by decide +kernel
theorem dX10_tick_58 : decode cX10_tick 58 = .ok (.invokevirtual 165, 3) := by decide +kernel
theorem dX10_tick_61 : decode cX10_tick 61 = .ok (.iload_n 1, 1) := by decide +kernel
theorem dX10_tick_62 : decode cX10_tick 62 = .ok (.iadd, 1) := by decide +kernel
theorem dX10_tick_63 : decode cX10_tick 63 = .ok (.invokevirtual 169, 3) := by decide +kernel
theorem dX10_tick_66 : decode cX10_tick 66 = .ok (.aload_n 0, 1) := by decide +kernel
theorem dX10_tick_67 : decode cX10_tick 67 = .ok (.iconst 0, 1) := by decide +kernel
theorem dX10_tick_68 : decode cX10_tick 68 = .ok (.invokevirtual 172, 3) := by decide +kernel
theorem dX10_tick_71 : decode cX10_tick 71 = .ok (.ireturn, 1) := by decide +kernel
theorem dX10_back_0 : decode cX10_back 0 = .ok (.iload_n 1, 1) := by decide +kernel
theorem dX10_back_1 : decode cX10_back 1 = .ok (.ifCond .lt 14, 3) := by decide +kernel
theorem dX10_back_4 : decode cX10_back 4 = .ok (.iload_n 1, 1) := by decide +kernel
theorem dX10_back_5 : decode cX10_back 5 = .ok (.aload_n 0, 1) := by decide +kernel
theorem dX10_back_6 : decode cX10_back 6 = .ok (.getfield 51, 3) := by decide +kernel
theorem dX10_back_9 : decode cX10_back 9 = .ok (.getfield 160, 3) := by decide +kernel
theorem dX10_back_12 : decode cX10_back 12 = .ok (.if_icmp .le 13, 3) := by decide +kernel
theorem dX10_back_15 : decode cX10_back 15 = .ok (.new 99, 3) := by decide +kernel
theorem dX10_back_18 : decode cX10_back 18 = .ok (.dup, 1) := by decide +kernel
theorem dX10_back_19 : decode cX10_back 19 = .ok (.ldc 175, 2) := by decide +kernel
theorem dX10_back_21 : decode cX10_back 21 = .ok (.invokespecial 103, 3) := by decide +kernel
theorem dX10_back_24 : decode cX10_back 24 = .ok (.athrow, 1) := by decide +kernel
theorem dX10_back_25 : decode cX10_back 25 = .ok (.aload_n 0, 1) := by decide +kernel
theorem dX10_back_26 : decode cX10_back 26 = .ok (.getfield 51, 3) := by decide +kernel
theorem dX10_back_29 : decode cX10_back 29 = .ok (.iload_n 1, 1) := by decide +kernel
theorem dX10_back_30 : decode cX10_back 30 = .ok (.putfield 160, 3) := by decide +kernel
theorem dX10_back_33 : decode cX10_back 33 = .ok (.aload_n 0, 1) := by decide +kernel
theorem dX10_back_34 : decode cX10_back 34 = .ok (.getfield 51, 3) := by decide +kernel
theorem dX10_back_37 : decode cX10_back 37 = .ok (.invokevirtual 165, 3) := by decide +kernel
theorem dX10_back_40 : decode cX10_back 40 = .ok (.ireturn, 1) := by decide +kernel
theorem dX10_keep_0 : decode cX10_keep 0 = .ok (.aload_n 0, 1) := by decide +kernel
theorem dX10_keep_1 : decode cX10_keep 1 = .ok (.getfield 55, 3) := by decide +kernel
theorem dX10_keep_4 : decode cX10_keep 4 = .ok (.aload_n 0, 1) := by decide +kernel
theorem dX10_keep_5 : decode cX10_keep 5 = .ok (.getfield 51, 3) := by decide +kernel
theorem dX10_keep_8 : decode cX10_keep 8 = .ok (.invokevirtual 179, 3) := by decide +kernel
theorem dX10_keep_11 : decode cX10_keep 11 = .ok (.aload_n 0, 1) := by decide +kernel
theorem dX10_keep_12 : decode cX10_keep 12 = .ok (.getfield 55, 3) := by decide +kernel
theorem dX10_keep_15 : decode cX10_keep 15 = .ok (.getfield 160, 3) := by decide +kernel
theorem dX10_keep_18 : decode cX10_keep 18 = .ok (.ireturn, 1) := by decide +kernel
theorem dX10_replay_0 : decode cX10_replay 0 = .ok (.aload_n 0, 1) := by decide +kernel
theorem dX10_replay_1 : decode cX10_replay 1 = .ok (.getfield 35, 3) := by decide +kernel
theorem dX10_replay_4 : decode cX10_replay 4 = .ok (.getfield 123, 3) := by decide +kernel
theorem dX10_replay_7 : decode cX10_replay 7 = .ok (.ifCond .ne 13, 3) := by decide +kernel
theorem dX10_replay_10 : decode cX10_replay 10 = .ok (.new 89, 3) := by decide +kernel
theorem dX10_replay_13 : decode cX10_replay 13 = .ok (.dup, 1) := by decide +kernel
theorem dX10_replay_14 : decode cX10_replay 14 = .ok (.ldc 177, 2) := by decide +kernel
theorem dX10_replay_16 : decode cX10_replay 16 = .ok (.invokespecial 93, 3) := by decide +kernel
theorem dX10_replay_19 : decode cX10_replay 19 = .ok (.athrow, 1) := by decide +kernel
theorem dX10_replay_20 : decode cX10_replay 20 = .ok (.aload_n 0, 1) := by decide +kernel
theorem dX10_replay_21 : decode cX10_replay 21 = .ok (.invokevirtual 132, 3) := by decide +kernel
theorem dX10_replay_24 : decode cX10_replay 24 = .ok (.aload_n 0, 1) := by decide +kernel
theorem dX10_replay_25 : decode cX10_replay 25 = .ok (.getfield 55, 3) := by decide +kernel
theorem dX10_replay_28 : decode cX10_replay 28 = .ok (.getfield 183, 3) := by decide +kernel
theorem dX10_replay_31 : decode cX10_replay 31 = .ok (.aload_n 0, 1) := by decide +kernel
theorem dX10_replay_32 : decode cX10_replay 32 = .ok (.getfield 51, 3) := by decide +kernel
theorem dX10_replay_35 : decode cX10_replay 35 = .ok (.getfield 183, 3) := by decide +kernel
theorem dX10_replay_38 : decode cX10_replay 38 = .ok (.invokestatic 186, 3) := by decide +kernel
theorem dX10_replay_41 : decode cX10_replay 41 = .ok (.istore_n 1, 1) := by decide +kernel
theorem dX10_replay_42 : decode cX10_replay 42 = .ok (.iconst 0, 1) := by decide +kernel
theorem dX10_replay_43 : decode cX10_replay 43 = .ok (.istore_n 2, 1) := by decide +kernel
theorem dX10_replay_44 : decode cX10_replay 44 = .ok (.iconst 0, 1) := by decide +kernel
theorem dX10_replay_45 : decode cX10_replay 45 = .ok (.istore_n 3, 1) := by decide +kernel
theorem dX10_replay_46 : decode cX10_replay 46 = .ok (.iload_n 3, 1) := by decide +kernel
theorem dX10_replay_47 : decode cX10_replay 47 = .ok (.aload_n 0, 1) := by decide +kernel
theorem dX10_replay_48 : decode cX10_replay 48 = .ok (.getfield 55, 3) := by decide +kernel
theorem dX10_replay_51 : decode cX10_replay 51 = .ok (.getfield 160, 3) := by decide +kernel
theorem dX10_replay_54 : decode cX10_replay 54 = .ok (.if_icmp .ge 72, 3) := by decide +kernel
theorem dX10_replay_57 : decode cX10_replay 57 = .ok (.iconst 0, 1) := by decide +kernel
theorem dX10_replay_58 : decode cX10_replay 58 = .ok (.istore 4, 2) := by decide +kernel
theorem dX10_replay_60 : decode cX10_replay 60 = .ok (.iload 4, 2) := by decide +kernel
theorem dX10_replay_62 : decode cX10_replay 62 = .ok (.iload_n 1, 1) := by decide +kernel
theorem dX10_replay_63 : decode cX10_replay 63 = .ok (.if_icmp .ge 31, 3) := by decide +kernel
theorem dX10_replay_66 : decode cX10_replay 66 = .ok (.aload_n 0, 1) := by decide +kernel
theorem dX10_replay_67 : decode cX10_replay 67 = .ok (.getfield 72, 3) := by decide +kernel
theorem dX10_replay_70 : decode cX10_replay 70 = .ok (.iload 4, 2) := by decide +kernel
theorem dX10_replay_72 : decode cX10_replay 72 = .ok (.aload_n 0, 1) := by decide +kernel
theorem dX10_replay_73 : decode cX10_replay 73 = .ok (.getfield 55, 3) := by decide +kernel
theorem dX10_replay_76 : decode cX10_replay 76 = .ok (.getfield 192, 3) := by decide +kernel
theorem dX10_replay_79 : decode cX10_replay 79 = .ok (.iload 4, 2) := by decide +kernel
theorem dX10_replay_81 : decode cX10_replay 81 = .ok (.iload_n 3, 1) := by decide +kernel
theorem dX10_replay_82 : decode cX10_replay 82 = .ok (.invokevirtual 196, 3) := by decide +kernel
theorem dX10_replay_85 : decode cX10_replay 85 = .ok (.invokevirtual 154, 3) := by decide +kernel
theorem dX10_replay_88 : decode cX10_replay 88 = .ok (.iinc 4 1, 3) := by decide +kernel
theorem dX10_replay_91 : decode cX10_replay 91 = .ok (.goto (-31), 3) := by decide +kernel
theorem dX10_replay_94 : decode cX10_replay 94 = .ok (.aload_n 0, 1) := by decide +kernel
theorem dX10_replay_95 : decode cX10_replay 95 = .ok (.aload_n 0, 1) := by decide +kernel
theorem dX10_replay_96 : decode cX10_replay 96 = .ok (.getfield 55, 3) := by decide +kernel
theorem dX10_replay_99 : decode cX10_replay 99 = .ok (.getfield 201, 3) := by decide +kernel
theorem dX10_replay_102 : decode cX10_replay 102 = .ok (.iload_n 3, 1) := by decide +kernel
theorem dX10_replay_103 : decode cX10_replay 103 = .ok (.invokevirtual 205, 3) := by decide +kernel
theorem dX10_replay_106 : decode cX10_replay 106 = .ok (.invokevirtual 169, 3) := by decide +kernel
theorem dX10_replay_109 : decode cX10_replay 109 = .ok (.aload_n 0, 1) := by decide +kernel
theorem dX10_replay_110 : decode cX10_replay 110 = .ok (.iconst 0, 1) := by decide +kernel
theorem dX10_replay_111 : decode cX10_replay 111 = .ok (.invokevirtual 172, 3) := by decide +kernel
theorem dX10_replay_114 : decode cX10_replay 114 = .ok (.ifCond .ne 6, 3) := by decide +kernel
theorem dX10_replay_117 : decode cX10_replay 117 = .ok (.iinc 2 1, 3) := by decide +kernel
theorem dX10_replay_120 : decode cX10_replay 120 = .ok (.iinc 3 1, 3) := by decide +kernel
theorem dX10_replay_123 : decode cX10_replay 123 = .ok (.goto (-77), 3) := by decide +kernel
theorem dX10_replay_126 : decode cX10_replay 126 = .ok (.iload_n 2, 1) := by decide +kernel
theorem dX10_replay_127 : decode cX10_replay 127 = .ok (.ireturn, 1) := by decide +kernel
theorem dX10_let_0 : decode cX10_let 0 = .ok (.aload_n 0, 1) := by decide +kernel
theorem dX10_let_1 : decode cX10_let 1 = .ok (.iconst 1, 1) := by decide +kernel
theorem dX10_let_2 : decode cX10_let 2 = .ok (.iload_n 1, 1) := by decide +kernel
theorem dX10_let_3 : decode cX10_let 3 = .ok (.invokevirtual 144, 3) := by decide +kernel
theorem dX10_let_6 : decode cX10_let 6 = .ok (.ifCond .eq 11, 3) := by decide +kernel
theorem dX10_let_9 : decode cX10_let 9 = .ok (.aload_n 0, 1) := by decide +kernel
theorem dX10_let_10 : decode cX10_let 10 = .ok (.iload_n 2, 1) := by decide +kernel
theorem dX10_let_11 : decode cX10_let 11 = .ok (.invokevirtual 209, 3) := by decide +kernel
theorem dX10_let_14 : decode cX10_let 14 = .ok (.ifCond .ne 13, 3) := by decide +kernel
theorem dX10_let_17 : decode cX10_let 17 = .ok (.new 135, 3) := by decide +kernel
theorem dX10_let_20 : decode cX10_let 20 = .ok (.dup, 1) := by decide +kernel
theorem dX10_let_21 : decode cX10_let 21 = .ok (.ldc 223, 2) := by decide +kernel
theorem dX10_let_23 : decode cX10_let 23 = .ok (.invokespecial 139, 3) := by decide +kernel
theorem dX10_let_26 : decode cX10_let 26 = .ok (.athrow, 1) := by decide +kernel
theorem dX10_let_27 : decode cX10_let 27 = .ok (.aload_n 0, 1) := by decide +kernel
theorem dX10_let_28 : decode cX10_let 28 = .ok (.iconst 1, 1) := by decide +kernel
theorem dX10_let_29 : decode cX10_let 29 = .ok (.iload_n 1, 1) := by decide +kernel
theorem dX10_let_30 : decode cX10_let 30 = .ok (.iload_n 2, 1) := by decide +kernel
theorem dX10_let_31 : decode cX10_let 31 = .ok (.invokevirtual 219, 3) := by decide +kernel
theorem dX10_let_34 : decode cX10_let 34 = .ok (.lconst 0, 1) := by decide +kernel
theorem dX10_let_35 : decode cX10_let 35 = .ok (.lcmp, 1) := by decide +kernel
theorem dX10_let_36 : decode cX10_let 36 = .ok (.ifCond .eq 7, 3) := by decide +kernel
theorem dX10_let_39 : decode cX10_let 39 = .ok (.iconst 1, 1) := by decide +kernel
theorem dX10_let_40 : decode cX10_let 40 = .ok (.goto 4, 3) := by decide +kernel
theorem dX10_let_43 : decode cX10_let 43 = .ok (.iconst 0, 1) := by decide +kernel
theorem dX10_let_44 : decode cX10_let 44 = .ok (.ireturn, 1) := by decide +kernel
theorem dX10_watch_0 : decode cX10_watch 0 = .ok (.aload_n 0, 1) := by decide +kernel
theorem dX10_watch_1 : decode cX10_watch 1 = .ok (.iconst 3, 1) := by decide +kernel
theorem dX10_watch_2 : decode cX10_watch 2 = .ok (.iload_n 1, 1) := by decide +kernel
theorem dX10_watch_3 : decode cX10_watch 3 = .ok (.invokevirtual 144, 3) := by decide +kernel
theorem dX10_watch_6 : decode cX10_watch 6 = .ok (.ifCond .eq 11, 3) := by decide +kernel
theorem dX10_watch_9 : decode cX10_watch 9 = .ok (.aload_n 0, 1) := by decide +kernel
theorem dX10_watch_10 : decode cX10_watch 10 = .ok (.iload_n 2, 1) := by decide +kernel
theorem dX10_watch_11 : decode cX10_watch 11 = .ok (.invokevirtual 209, 3) := by decide +kernel
theorem dX10_watch_14 : decode cX10_watch 14 = .ok (.ifCond .ne 13, 3) := by decide +kernel
theorem dX10_watch_17 : decode cX10_watch 17 = .ok (.new 135, 3) := by decide +kernel
theorem dX10_watch_20 : decode cX10_watch 20 = .ok (.dup, 1) := by decide +kernel
theorem dX10_watch_21 : decode cX10_watch 21 = .ok (.ldc 225, 2) := by decide +kernel
theorem dX10_watch_23 : decode cX10_watch 23 = .ok (.invokespecial 139, 3) := by decide +kernel
theorem dX10_watch_26 : decode cX10_watch 26 = .ok (.athrow, 1) := by decide +kernel
theorem dX10_watch_27 : decode cX10_watch 27 = .ok (.aload_n 0, 1) := by decide +kernel
theorem dX10_watch_28 : decode cX10_watch 28 = .ok (.iconst 3, 1) := by decide +kernel
theorem dX10_watch_29 : decode cX10_watch 29 = .ok (.iload_n 1, 1) := by decide +kernel
theorem dX10_watch_30 : decode cX10_watch 30 = .ok (.iload_n 2, 1) := by decide +kernel
theorem dX10_watch_31 : decode cX10_watch 31 = .ok (.invokevirtual 219, 3) := by decide +kernel
theorem dX10_watch_34 : decode cX10_watch 34 = .ok (.lconst 0, 1) := by decide +kernel
theorem dX10_watch_35 : decode cX10_watch 35 = .ok (.lcmp, 1) := by decide +kernel
theorem dX10_watch_36 : decode cX10_watch 36 = .ok (.ifCond .eq 7, 3) := by decide +kernel
theorem dX10_watch_39 : decode cX10_watch 39 = .ok (.iconst 1, 1) := by decide +kernel
theorem dX10_watch_40 : decode cX10_watch 40 = .ok (.goto 4, 3) := by decide +kernel
theorem dX10_watch_43 : decode cX10_watch 43 = .ok (.iconst 0, 1) := by decide +kernel
theorem dX10_watch_44 : decode cX10_watch 44 = .ok (.ireturn, 1) := by decide +kernel
theorem dX10_told_0 : decode cX10_told 0 = .ok (.aload_n 0, 1) := by decide +kernel
theorem dX10_told_1 : decode cX10_told 1 = .ok (.iconst 3, 1) := by decide +kernel
theorem dX10_told_2 : decode cX10_told 2 = .ok (.iload_n 1, 1) := by decide +kernel
theorem dX10_told_3 : decode cX10_told 3 = .ok (.invokevirtual 144, 3) := by decide +kernel
theorem dX10_told_6 : decode cX10_told 6 = .ok (.ifCond .eq 12, 3) := by decide +kernel
theorem dX10_told_9 : decode cX10_told 9 = .ok (.iload_n 2, 1) := by decide +kernel
theorem dX10_told_10 : decode cX10_told 10 = .ok (.ifCond .lt 8, 3) := by decide +kernel
theorem dX10_told_13 : decode cX10_told 13 = .ok (.iload_n 2, 1) := by decide +kernel
theorem dX10_told_14 : decode cX10_told 14 = .ok (.iconst 5, 1) := by decide +kernel
theorem dX10_told_15 : decode cX10_told 15 = .ok (.if_icmp .lt 13, 3) := by decide +kernel
theorem dX10_told_18 : decode cX10_told 18 = .ok (.new 135, 3) := by decide +kernel
theorem dX10_told_21 : decode cX10_told 21 = .ok (.dup, 1) := by decide +kernel
theorem dX10_told_22 : decode cX10_told 22 = .ok (.ldc 227, 2) := by decide +kernel
theorem dX10_told_24 : decode cX10_told 24 = .ok (.invokespecial 139, 3) := by decide +kernel
theorem dX10_told_27 : decode cX10_told 27 = .ok (.athrow, 1) := by decide +kernel
theorem dX10_told_28 : decode cX10_told 28 = .ok (.aload_n 0, 1) := by decide +kernel
theorem dX10_told_29 : decode cX10_told 29 = .ok (.iload_n 1, 1) := by decide +kernel
theorem dX10_told_30 : decode cX10_told 30 = .ok (.iload_n 2, 1) := by decide +kernel
theorem dX10_told_31 : decode cX10_told 31 = .ok (.invokevirtual 229, 3) := by decide +kernel
theorem dX10_told_34 : decode cX10_told 34 = .ok (.ireturn, 1) := by decide +kernel
theorem dX10_differ_0 : decode cX10_differ 0 = .ok (.aload_n 0, 1) := by decide +kernel
theorem dX10_differ_1 : decode cX10_differ 1 = .ok (.iconst 3, 1) := by decide +kernel
theorem dX10_differ_2 : decode cX10_differ 2 = .ok (.iload_n 1, 1) := by decide +kernel
theorem dX10_differ_3 : decode cX10_differ 3 = .ok (.invokevirtual 144, 3) := by decide +kernel
theorem dX10_differ_6 : decode cX10_differ 6 = .ok (.ifCond .eq 12, 3) := by decide +kernel
theorem dX10_differ_9 : decode cX10_differ 9 = .ok (.aload_n 0, 1) := by decide +kernel
theorem dX10_differ_10 : decode cX10_differ 10 = .ok (.iconst 3, 1) := by decide +kernel
theorem dX10_differ_11 : decode cX10_differ 11 = .ok (.iload_n 2, 1) := by decide +kernel
theorem dX10_differ_12 : decode cX10_differ 12 = .ok (.invokevirtual 144, 3) := by decide +kernel
theorem dX10_differ_15 : decode cX10_differ 15 = .ok (.ifCond .ne 13, 3) := by decide +kernel
theorem dX10_differ_18 : decode cX10_differ 18 = .ok (.new 135, 3) := by decide +kernel
theorem dX10_differ_21 : decode cX10_differ 21 = .ok (.dup, 1) := by decide +kernel
theorem dX10_differ_22 : decode cX10_differ 22 = .ok (.ldc 252, 2) := by decide +kernel
theorem dX10_differ_24 : decode cX10_differ 24 = .ok (.invokespecial 139, 3) := by decide +kernel
theorem dX10_differ_27 : decode cX10_differ 27 = .ok (.athrow, 1) := by decide +kernel
theorem dX10_differ_28 : decode cX10_differ 28 = .ok (.iconst 0, 1) := by decide +kernel
theorem dX10_differ_29 : decode cX10_differ 29 = .ok (.istore_n 3, 1) := by decide +kernel
theorem dX10_differ_30 : decode cX10_differ 30 = .ok (.iload_n 3, 1) := by decide +kernel
theorem dX10_differ_31 : decode cX10_differ 31 = .ok (.aload_n 0, 1) := by decide +kernel
theorem dX10_differ_32 : decode cX10_differ 32 = .ok (.getfield 51, 3) := by decide +kernel
theorem dX10_differ_35 : decode cX10_differ 35 = .ok (.getfield 160, 3) := by decide +kernel
theorem dX10_differ_38 : decode cX10_differ 38 = .ok (.if_icmp .ge 29, 3) := by decide +kernel
theorem dX10_differ_41 : decode cX10_differ 41 = .ok (.aload_n 0, 1) := by decide +kernel
theorem dX10_differ_42 : decode cX10_differ 42 = .ok (.iconst 3, 1) := by decide +kernel
theorem dX10_differ_43 : decode cX10_differ 43 = .ok (.iload_n 1, 1) := by decide +kernel
theorem dX10_differ_44 : decode cX10_differ 44 = .ok (.iload_n 3, 1) := by decide +kernel
theorem dX10_differ_45 : decode cX10_differ 45 = .ok (.invokevirtual 219, 3) := by decide +kernel
theorem dX10_differ_48 : decode cX10_differ 48 = .ok (.aload_n 0, 1) := by decide +kernel
theorem dX10_differ_49 : decode cX10_differ 49 = .ok (.iconst 3, 1) := by decide +kernel
theorem dX10_differ_50 : decode cX10_differ 50 = .ok (.iload_n 2, 1) := by decide +kernel
theorem dX10_differ_51 : decode cX10_differ 51 = .ok (.iload_n 3, 1) := by decide +kernel
theorem dX10_differ_52 : decode cX10_differ 52 = .ok (.invokevirtual 219, 3) := by decide +kernel
theorem dX10_differ_55 : decode cX10_differ 55 = .ok (.lcmp, 1) := by decide +kernel
theorem dX10_differ_56 : decode cX10_differ 56 = .ok (.ifCond .eq 5, 3) := by decide +kernel
theorem dX10_differ_59 : decode cX10_differ 59 = .ok (.iload_n 3, 1) := by decide +kernel
theorem dX10_differ_60 : decode cX10_differ 60 = .ok (.ireturn, 1) := by decide +kernel
theorem dX10_differ_61 : decode cX10_differ 61 = .ok (.iinc 3 1, 3) := by decide +kernel
theorem dX10_differ_64 : decode cX10_differ 64 = .ok (.goto (-34), 3) := by decide +kernel
theorem dX10_differ_67 : decode cX10_differ 67 = .ok (.iconst (-1), 1) := by decide +kernel
theorem dX10_differ_68 : decode cX10_differ 68 = .ok (.ireturn, 1) := by decide +kernel
theorem dX10_share_0 : decode cX10_share 0 = .ok (.aload_n 0, 1) := by decide +kernel
theorem dX10_share_1 : decode cX10_share 1 = .ok (.iconst 3, 1) := by decide +kernel
theorem dX10_share_2 : decode cX10_share 2 = .ok (.iload_n 1, 1) := by decide +kernel
theorem dX10_share_3 : decode cX10_share 3 = .ok (.invokevirtual 144, 3) := by decide +kernel
theorem dX10_share_6 : decode cX10_share 6 = .ok (.ifCond .ne 13, 3) := by decide +kernel
theorem dX10_share_9 : decode cX10_share 9 = .ok (.new 135, 3) := by decide +kernel
theorem dX10_share_12 : decode cX10_share 12 = .ok (.dup, 1) := by decide +kernel
theorem dX10_share_13 : decode cX10_share 13 = .ok (.ldc 252, 2) := by decide +kernel
theorem dX10_share_15 : decode cX10_share 15 = .ok (.invokespecial 139, 3) := by decide +kernel
theorem dX10_share_18 : decode cX10_share 18 = .ok (.athrow, 1) := by decide +kernel
theorem dX10_share_19 : decode cX10_share 19 = .ok (.aload_n 0, 1) := by decide +kernel
theorem dX10_share_20 : decode cX10_share 20 = .ok (.getfield 51, 3) := by decide +kernel
theorem dX10_share_23 : decode cX10_share 23 = .ok (.getfield 160, 3) := by decide +kernel
theorem dX10_share_26 : decode cX10_share 26 = .ok (.istore_n 2, 1) := by decide +kernel
theorem dX10_share_27 : decode cX10_share 27 = .ok (.iload_n 2, 1) := by decide +kernel
theorem dX10_share_28 : decode cX10_share 28 = .ok (.ifCond .ne 5, 3) := by decide +kernel
theorem dX10_share_31 : decode cX10_share 31 = .ok (.dconst 1, 1) := by decide +kernel
theorem dX10_share_32 : decode cX10_share 32 = .ok (.dreturn, 1) := by decide +kernel
theorem dX10_share_33 : decode cX10_share 33 = .ok (.iload_n 2, 1) := by decide +kernel
theorem dX10_share_34 : decode cX10_share 34 = .ok (.aload_n 0, 1) := by decide +kernel
theorem dX10_share_35 : decode cX10_share 35 = .ok (.iload_n 1, 1) := by decide +kernel
theorem dX10_share_36 : decode cX10_share 36 = .ok (.invokevirtual 254, 3) := by decide +kernel
theorem dX10_share_39 : decode cX10_share 39 = .ok (.isub, 1) := by decide +kernel
theorem dX10_share_40 : decode cX10_share 40 = .ok (.i2d, 1) := by decide +kernel
theorem dX10_share_41 : decode cX10_share 41 = .ok (.iload_n 2, 1) := by decide +kernel
theorem dX10_share_42 : decode cX10_share 42 = .ok (.i2d, 1) := by decide +kernel
theorem dX10_share_43 : decode cX10_share 43 = .ok (.ddiv, 1) := by decide +kernel
theorem dX10_share_44 : decode cX10_share 44 = .ok (.dreturn, 1) := by decide +kernel
theorem dX10_ask_0 : decode cX10_ask 0 = .ok (.aload_n 0, 1) := by decide +kernel
theorem dX10_ask_1 : decode cX10_ask 1 = .ok (.getfield 80, 3) := by decide +kernel
theorem dX10_ask_4 : decode cX10_ask 4 = .ok (.sipush 400, 3) := by decide +kernel
theorem dX10_ask_7 : decode cX10_ask 7 = .ok (.if_icmp .ne 9, 3) := by decide +kernel
theorem dX10_ask_10 : decode cX10_ask 10 = .ok (.sipush 800, 3) := by decide +kernel
theorem dX10_ask_13 : decode cX10_ask 13 = .ok (.goto 6, 3) := by decide +kernel
theorem dX10_ask_16 : decode cX10_ask 16 = .ok (.sipush 400, 3) := by decide +kernel
theorem dX10_ask_19 : decode cX10_ask 19 = .ok (.istore_n 1, 1) := by decide +kernel
theorem dX10_ask_20 : decode cX10_ask 20 = .ok (.aload_n 0, 1) := by decide +kernel
theorem dX10_ask_21 : decode cX10_ask 21 = .ok (.getfield 21, 3) := by decide +kernel
theorem dX10_ask_24 : decode cX10_ask 24 = .ok (.invokevirtual 111, 3) := by decide +kernel
theorem dX10_ask_27 : decode cX10_ask 27 = .ok (.aload_n 0, 1) := by decide +kernel
theorem dX10_ask_28 : decode cX10_ask 28 = .ok (.getfield 44, 3) := by decide +kernel
theorem dX10_ask_31 : decode cX10_ask 31 = .ok (.iload_n 1, 1) := by decide +kernel
theorem dX10_ask_32 : decode cX10_ask 32 = .ok (.invokevirtual 257, 3) := by decide +kernel
theorem dX10_ask_35 : decode cX10_ask 35 = .ok (.istore_n 2, 1) := by decide +kernel
theorem dX10_ask_36 : decode cX10_ask 36 = .ok (.aload_n 0, 1) := by decide +kernel
theorem dX10_ask_37 : decode cX10_ask 37 = .ok (.getfield 10, 3) := by decide +kernel
theorem dX10_ask_40 : decode cX10_ask 40 = .ok (.iconst 0, 1) := by decide +kernel
theorem dX10_ask_41 : decode cX10_ask 41 = .ok (.putfield 86, 3) := by decide +kernel
theorem dX10_ask_44 : decode cX10_ask 44 = .ok (.aload_n 0, 1) := by decide +kernel
theorem dX10_ask_45 : decode cX10_ask 45 = .ok (.aload_n 0, 1) := by decide +kernel
theorem dX10_ask_46 : decode cX10_ask 46 = .ok (.getfield 44, 3) := by decide +kernel
theorem dX10_ask_49 : decode cX10_ask 49 = .ok (.getfield 117, 3) := by decide +kernel
theorem dX10_ask_52 : decode cX10_ask 52 = .ok (.putfield 76, 3) := by decide +kernel
theorem dX10_ask_55 : decode cX10_ask 55 = .ok (.aload_n 0, 1) := by decide +kernel
theorem dX10_ask_56 : decode cX10_ask 56 = .ok (.getfield 44, 3) := by decide +kernel
theorem dX10_ask_59 : decode cX10_ask 59 = .ok (.getfield 120, 3) := by decide +kernel
theorem dX10_ask_62 : decode cX10_ask 62 = .ok (.ifCond .eq 11, 3) := by decide +kernel
theorem dX10_ask_65 : decode cX10_ask 65 = .ok (.aload_n 0, 1) := by decide +kernel
theorem dX10_ask_66 : decode cX10_ask 66 = .ok (.getfield 44, 3) := by decide +kernel
theorem dX10_ask_69 : decode cX10_ask 69 = .ok (.getfield 120, 3) := by decide +kernel
theorem dX10_ask_72 : decode cX10_ask 72 = .ok (.ireturn, 1) := by decide +kernel
theorem dX10_ask_73 : decode cX10_ask 73 = .ok (.aload_n 0, 1) := by decide +kernel
theorem dX10_ask_74 : decode cX10_ask 74 = .ok (.iconst 1, 1) := by decide +kernel
theorem dX10_ask_75 : decode cX10_ask 75 = .ok (.putfield 107, 3) := by decide +kernel
theorem dX10_ask_78 : decode cX10_ask 78 = .ok (.aload_n 0, 1) := by decide +kernel
theorem dX10_ask_79 : decode cX10_ask 79 = .ok (.iload_n 2, 1) := by decide +kernel
theorem dX10_ask_80 : decode cX10_ask 80 = .ok (.putfield 260, 3) := by decide +kernel
theorem dX10_ask_83 : decode cX10_ask 83 = .ok (.aload_n 0, 1) := by decide +kernel
theorem dX10_ask_84 : decode cX10_ask 84 = .ok (.iload_n 1, 1) := by decide +kernel
theorem dX10_ask_85 : decode cX10_ask 85 = .ok (.putfield 80, 3) := by decide +kernel
theorem dX10_ask_88 : decode cX10_ask 88 = .ok (.aload_n 0, 1) := by decide +kernel
theorem dX10_ask_89 : decode cX10_ask 89 = .ok (.aload_n 0, 1) := by decide +kernel
theorem dX10_ask_90 : decode cX10_ask 90 = .ok (.getfield 28, 3) := by decide +kernel
theorem dX10_ask_93 : decode cX10_ask 93 = .ok (.getfield 126, 3) := by decide +kernel
theorem dX10_ask_96 : decode cX10_ask 96 = .ok (.putfield 83, 3) := by decide +kernel
theorem dX10_ask_99 : decode cX10_ask 99 = .ok (.iconst 0, 1) := by decide +kernel
theorem dX10_ask_100 : decode cX10_ask 100 = .ok (.istore_n 3, 1) := by decide +kernel
theorem dX10_ask_101 : decode cX10_ask 101 = .ok (.iload_n 3, 1) := by decide +kernel
theorem dX10_ask_102 : decode cX10_ask 102 = .ok (.aload_n 0, 1) := by decide +kernel
theorem dX10_ask_103 : decode cX10_ask 103 = .ok (.getfield 51, 3) := by decide +kernel
theorem dX10_ask_106 : decode cX10_ask 106 = .ok (.getfield 160, 3) := by decide +kernel
theorem dX10_ask_109 : decode cX10_ask 109 = .ok (.if_icmp .ge 25, 3) := by decide +kernel
theorem dX10_ask_112 : decode cX10_ask 112 = .ok (.aload_n 0, 1) := by decide +kernel
theorem dX10_ask_113 : decode cX10_ask 113 = .ok (.getfield 63, 3) := by decide +kernel
theorem dX10_ask_116 : decode cX10_ask 116 = .ok (.aload_n 0, 1) := by decide +kernel
theorem dX10_ask_117 : decode cX10_ask 117 = .ok (.getfield 80, 3) := by decide +kernel
theorem dX10_ask_120 : decode cX10_ask 120 = .ok (.aload_n 0, 1) := by decide +kernel
theorem dX10_ask_121 : decode cX10_ask 121 = .ok (.getfield 83, 3) := by decide +kernel
theorem dX10_ask_124 : decode cX10_ask 124 = .ok (.iload_n 3, 1) := by decide +kernel
theorem dX10_ask_125 : decode cX10_ask 125 = .ok (.invokevirtual 263, 3) := by decide +kernel
theorem dX10_ask_128 : decode cX10_ask 128 = .ok (.iinc 3 1, 3) := by decide +kernel
theorem dX10_ask_131 : decode cX10_ask 131 = .ok (.goto (-30), 3) := by decide +kernel
theorem dX10_ask_134 : decode cX10_ask 134 = .ok (.iconst 0, 1) := by decide +kernel
theorem dX10_ask_135 : decode cX10_ask 135 = .ok (.ireturn, 1) := by decide +kernel
theorem dX10_answer_0 : decode cX10_answer 0 = .ok (.aload_n 0, 1) := by decide +kernel
theorem dX10_answer_1 : decode cX10_answer 1 = .ok (.iload_n 1, 1) := by decide +kernel
theorem dX10_answer_2 : decode cX10_answer 2 = .ok (.invokevirtual 209, 3) := by decide +kernel
theorem dX10_answer_5 : decode cX10_answer 5 = .ok (.ifCond .ne 13, 3) := by decide +kernel
theorem dX10_answer_8 : decode cX10_answer 8 = .ok (.new 135, 3) := by decide +kernel
theorem dX10_answer_11 : decode cX10_answer 11 = .ok (.dup, 1) := by decide +kernel
theorem dX10_answer_12 : decode cX10_answer 12 = .ok (.ldc 213, 2) := by decide +kernel
theorem dX10_answer_14 : decode cX10_answer 14 = .ok (.invokespecial 139, 3) := by decide +kernel
theorem dX10_answer_17 : decode cX10_answer 17 = .ok (.athrow, 1) := by decide +kernel
theorem dX10_answer_18 : decode cX10_answer 18 = .ok (.aload_n 0, 1) := by decide +kernel
theorem dX10_answer_19 : decode cX10_answer 19 = .ok (.getfield 107, 3) := by decide +kernel
theorem dX10_answer_22 : decode cX10_answer 22 = .ok (.ifCond .ne 14, 3) := by decide +kernel
theorem dX10_answer_25 : decode cX10_answer 25 = .ok (.new 89, 3) := by decide +kernel
theorem dX10_answer_28 : decode cX10_answer 28 = .ok (.dup, 1) := by decide +kernel
theorem dX10_answer_29 : decode cX10_answer 29 = .ok (.ldc_w 267, 3) := by decide +kernel
theorem dX10_answer_32 : decode cX10_answer 32 = .ok (.invokespecial 93, 3) := by decide +kernel
theorem dX10_answer_35 : decode cX10_answer 35 = .ok (.athrow, 1) := by decide +kernel
theorem dX10_answer_36 : decode cX10_answer 36 = .ok (.aload_n 0, 1) := by decide +kernel
theorem dX10_answer_37 : decode cX10_answer 37 = .ok (.getfield 63, 3) := by decide +kernel
theorem dX10_answer_40 : decode cX10_answer 40 = .ok (.getfield 269, 3) := by decide +kernel
theorem dX10_answer_43 : decode cX10_answer 43 = .ok (.aload_n 0, 1) := by decide +kernel
theorem dX10_answer_44 : decode cX10_answer 44 = .ok (.getfield 260, 3) := by decide +kernel
theorem dX10_answer_47 : decode cX10_answer 47 = .ok (.iload_n 1, 1) := by decide +kernel
theorem dX10_answer_48 : decode cX10_answer 48 = .ok (.invokevirtual 196, 3) := by decide +kernel
theorem dX10_answer_51 : decode cX10_answer 51 = .ok (.lconst 0, 1) := by decide +kernel
theorem dX10_answer_52 : decode cX10_answer 52 = .ok (.lcmp, 1) := by decide +kernel
theorem dX10_answer_53 : decode cX10_answer 53 = .ok (.ifCond .eq 7, 3) := by decide +kernel
theorem dX10_answer_56 : decode cX10_answer 56 = .ok (.iconst 1, 1) := by decide +kernel
theorem dX10_answer_57 : decode cX10_answer 57 = .ok (.goto 4, 3) := by decide +kernel
theorem dX10_answer_60 : decode cX10_answer 60 = .ok (.iconst 0, 1) := by decide +kernel
theorem dX10_answer_61 : decode cX10_answer 61 = .ok (.ireturn, 1) := by decide +kernel
theorem dX10_digest_0 : decode cX10_digest 0 = .ok (.ldc2_w 272, 3) := by decide +kernel
theorem dX10_digest_3 : decode cX10_digest 3 = .ok (.lstore_n 1, 1) := by decide +kernel
theorem dX10_digest_4 : decode cX10_digest 4 = .ok (.iconst 0, 1) := by decide +kernel
theorem dX10_digest_5 : decode cX10_digest 5 = .ok (.istore_n 3, 1) := by decide +kernel
theorem dX10_digest_6 : decode cX10_digest 6 = .ok (.iload_n 3, 1) := by decide +kernel
theorem dX10_digest_7 : decode cX10_digest 7 = .ok (.bipush 7, 2) := by decide +kernel
theorem dX10_digest_9 : decode cX10_digest 9 = .ok (.if_icmp .ge 22, 3) := by decide +kernel
theorem dX10_digest_12 : decode cX10_digest 12 = .ok (.lload_n 1, 1) := by decide +kernel
theorem dX10_digest_13 : decode cX10_digest 13 = .ok (.ldc2_w 274, 3) := by decide +kernel
theorem dX10_digest_16 : decode cX10_digest 16 = .ok (.lmul, 1) := by decide +kernel
theorem dX10_digest_17 : decode cX10_digest 17 = .ok (.aload_n 0, 1) := by decide +kernel
theorem dX10_digest_18 : decode cX10_digest 18 = .ok (.iload_n 3, 1) := by decide +kernel
theorem dX10_digest_19 : decode cX10_digest 19 = .ok (.invokevirtual 140, 3) := by decide +kernel
theorem dX10_digest_22 : decode cX10_digest 22 = .ok (.i2l, 1) := by decide +kernel
theorem dX10_digest_23 : decode cX10_digest 23 = .ok (.ladd, 1) := by decide +kernel
theorem dX10_digest_24 : decode cX10_digest 24 = .ok (.lstore_n 1, 1) := by decide +kernel
theorem dX10_digest_25 : decode cX10_digest 25 = .ok (.iinc 3 1, 3) := by decide +kernel
theorem dX10_digest_28 : decode cX10_digest 28 = .ok (.goto (-22), 3) := by decide +kernel
theorem dX10_digest_31 : decode cX10_digest 31 = .ok (.iconst 0, 1) := by decide +kernel
theorem dX10_digest_32 : decode cX10_digest 32 = .ok (.istore_n 3, 1) := by decide +kernel
theorem dX10_digest_33 : decode cX10_digest 33 = .ok (.iload_n 3, 1) := by decide +kernel
theorem dX10_digest_34 : decode cX10_digest 34 = .ok (.aload_n 0, 1) := by decide +kernel
theorem dX10_digest_35 : decode cX10_digest 35 = .ok (.getfield 51, 3) := by decide +kernel
theorem dX10_digest_38 : decode cX10_digest 38 = .ok (.getfield 160, 3) := by decide +kernel
theorem dX10_digest_41 : decode cX10_digest 41 = .ok (.if_icmp .ge 16, 3) := by decide +kernel
theorem dX10_digest_44 : decode cX10_digest 44 = .ok (.aload_n 0, 1) := by decide +kernel
theorem dX10_digest_45 : decode cX10_digest 45 = .ok (.lload_n 1, 1) := by decide +kernel
theorem dX10_digest_46 : decode cX10_digest 46 = .ok (.iload_n 3, 1) := by decide +kernel
theorem dX10_digest_47 : decode cX10_digest 47 = .ok (.invokevirtual 276, 3) := by decide +kernel
theorem dX10_digest_50 : decode cX10_digest 50 = .ok (.lstore_n 1, 1) := by decide +kernel
theorem dX10_digest_51 : decode cX10_digest 51 = .ok (.iinc 3 1, 3) := by decide +kernel
theorem dX10_digest_54 : decode cX10_digest 54 = .ok (.goto (-21), 3) := by decide +kernel
theorem dX10_digest_57 : decode cX10_digest 57 = .ok (.iconst 0, 1) := by decide +kernel
theorem dX10_digest_58 : decode cX10_digest 58 = .ok (.istore_n 3, 1) := by decide +kernel
theorem dX10_digest_59 : decode cX10_digest 59 = .ok (.iload_n 3, 1) := by decide +kernel
theorem dX10_digest_60 : decode cX10_digest 60 = .ok (.aload_n 0, 1) := by decide +kernel
theorem dX10_digest_61 : decode cX10_digest 61 = .ok (.iconst 3, 1) := by decide +kernel
theorem dX10_digest_62 : decode cX10_digest 62 = .ok (.invokevirtual 140, 3) := by decide +kernel
theorem dX10_digest_65 : decode cX10_digest 65 = .ok (.if_icmp .ge 39, 3) := by decide +kernel
theorem dX10_digest_68 : decode cX10_digest 68 = .ok (.iconst 0, 1) := by decide +kernel
theorem dX10_digest_69 : decode cX10_digest 69 = .ok (.istore 4, 2) := by decide +kernel
theorem dX10_digest_71 : decode cX10_digest 71 = .ok (.iload 4, 2) := by decide +kernel
theorem dX10_digest_73 : decode cX10_digest 73 = .ok (.iconst 5, 1) := by decide +kernel
theorem dX10_digest_74 : decode cX10_digest 74 = .ok (.if_icmp .ge 24, 3) := by decide +kernel
theorem dX10_digest_77 : decode cX10_digest 77 = .ok (.lload_n 1, 1) := by decide +kernel
theorem dX10_digest_78 : decode cX10_digest 78 = .ok (.ldc2_w 274, 3) := by decide +kernel
theorem dX10_digest_81 : decode cX10_digest 81 = .ok (.lmul, 1) := by decide +kernel
theorem dX10_digest_82 : decode cX10_digest 82 = .ok (.aload_n 0, 1) := by decide +kernel
theorem dX10_digest_83 : decode cX10_digest 83 = .ok (.iload_n 3, 1) := by decide +kernel
theorem dX10_digest_84 : decode cX10_digest 84 = .ok (.iload 4, 2) := by decide +kernel
theorem dX10_digest_86 : decode cX10_digest 86 = .ok (.invokevirtual 229, 3) := by decide +kernel
theorem dX10_digest_89 : decode cX10_digest 89 = .ok (.i2l, 1) := by decide +kernel
theorem dX10_digest_90 : decode cX10_digest 90 = .ok (.ladd, 1) := by decide +kernel
theorem dX10_digest_91 : decode cX10_digest 91 = .ok (.lstore_n 1, 1) := by decide +kernel
theorem dX10_digest_92 : decode cX10_digest 92 = .ok (.iinc 4 1, 3) := by decide +kernel
theorem dX10_digest_95 : decode cX10_digest 95 = .ok (.goto (-24), 3) := by decide +kernel
theorem dX10_digest_98 : decode cX10_digest 98 = .ok (.iinc 3 1, 3) := by decide +kernel
theorem dX10_digest_101 : decode cX10_digest 101 = .ok (.goto (-42), 3) := by decide +kernel
theorem dX10_digest_104 : decode cX10_digest 104 = .ok (.iconst 0, 1) := by decide +kernel
theorem dX10_digest_105 : decode cX10_digest 105 = .ok (.istore_n 3, 1) := by decide +kernel
theorem dX10_digest_106 : decode cX10_digest 106 = .ok (.iload_n 3, 1) := by decide +kernel
theorem dX10_digest_107 : decode cX10_digest 107 = .ok (.aload_n 0, 1) := by decide +kernel
theorem dX10_digest_108 : decode cX10_digest 108 = .ok (.iconst 0, 1) := by decide +kernel
theorem dX10_digest_109 : decode cX10_digest 109 = .ok (.invokevirtual 140, 3) := by decide +kernel
theorem dX10_digest_112 : decode cX10_digest 112 = .ok (.if_icmp .ge 24, 3) := by decide +kernel
theorem dX10_digest_115 : decode cX10_digest 115 = .ok (.lload_n 1, 1) := by decide +kernel
theorem dX10_digest_116 : decode cX10_digest 116 = .ok (.ldc2_w 274, 3) := by decide +kernel
theorem dX10_digest_119 : decode cX10_digest 119 = .ok (.lmul, 1) := by decide +kernel
theorem dX10_digest_120 : decode cX10_digest 120 = .ok (.aload_n 0, 1) := by decide +kernel
theorem dX10_digest_121 : decode cX10_digest 121 = .ok (.getfield 72, 3) := by decide +kernel
theorem dX10_digest_124 : decode cX10_digest 124 = .ok (.iload_n 3, 1) := by decide +kernel
theorem dX10_digest_125 : decode cX10_digest 125 = .ok (.invokevirtual 150, 3) := by decide +kernel
theorem dX10_digest_128 : decode cX10_digest 128 = .ok (.ladd, 1) := by decide +kernel
theorem dX10_digest_129 : decode cX10_digest 129 = .ok (.lstore_n 1, 1) := by decide +kernel
theorem dX10_digest_130 : decode cX10_digest 130 = .ok (.iinc 3 1, 3) := by decide +kernel
theorem dX10_digest_133 : decode cX10_digest 133 = .ok (.goto (-27), 3) := by decide +kernel
theorem dX10_digest_136 : decode cX10_digest 136 = .ok (.lload_n 1, 1) := by decide +kernel
theorem dX10_digest_137 : decode cX10_digest 137 = .ok (.lreturn, 1) := by decide +kernel
theorem dX10_digestStep_0 : decode cX10_digestStep 0 = .ok (.lload_n 1, 1) := by decide +kernel
theorem dX10_digestStep_1 : decode cX10_digestStep 1 = .ok (.ldc2_w 274, 3) := by decide +kernel
theorem dX10_digestStep_4 : decode cX10_digestStep 4 = .ok (.lmul, 1) := by decide +kernel
theorem dX10_digestStep_5 : decode cX10_digestStep 5 = .ok (.aload_n 0, 1) := by decide +kernel
theorem dX10_digestStep_6 : decode cX10_digestStep 6 = .ok (.getfield 51, 3) := by decide +kernel
theorem dX10_digestStep_9 : decode cX10_digestStep 9 = .ok (.getfield 201, 3) := by decide +kernel
theorem dX10_digestStep_12 : decode cX10_digestStep 12 = .ok (.iload_n 3, 1) := by decide +kernel
theorem dX10_digestStep_13 : decode cX10_digestStep 13 = .ok (.invokevirtual 205, 3) := by decide +kernel
theorem dX10_digestStep_16 : decode cX10_digestStep 16 = .ok (.i2l, 1) := by decide +kernel
theorem dX10_digestStep_17 : decode cX10_digestStep 17 = .ok (.ladd, 1) := by decide +kernel
theorem dX10_digestStep_18 : decode cX10_digestStep 18 = .ok (.lstore 4, 2) := by decide +kernel
theorem dX10_digestStep_20 : decode cX10_digestStep 20 = .ok (.iconst 0, 1) := by decide +kernel
theorem dX10_digestStep_21 : decode cX10_digestStep 21 = .ok (.istore 6, 2) := by decide +kernel
theorem dX10_digestStep_23 : decode cX10_digestStep 23 = .ok (.iload 6, 2) := by decide +kernel
theorem dX10_digestStep_25 : decode cX10_digestStep 25 = .ok (.aload_n 0, 1) := by decide +kernel
theorem dX10_digestStep_26 : decode cX10_digestStep 26 = .ok (.iconst 0, 1) := by decide +kernel
theorem dX10_digestStep_27 : decode cX10_digestStep 27 = .ok (.invokevirtual 140, 3) := by decide +kernel
theorem dX10_digestStep_30 : decode cX10_digestStep 30 = .ok (.if_icmp .ge 31, 3) := by decide +kernel
theorem dX10_digestStep_33 : decode cX10_digestStep 33 = .ok (.lload 4, 2) := by decide +kernel
theorem dX10_digestStep_35 : decode cX10_digestStep 35 = .ok (.ldc2_w 274, 3) := by decide +kernel
theorem dX10_digestStep_38 : decode cX10_digestStep 38 = .ok (.lmul, 1) := by decide +kernel
theorem dX10_digestStep_39 : decode cX10_digestStep 39 = .ok (.aload_n 0, 1) := by decide +kernel
theorem dX10_digestStep_40 : decode cX10_digestStep 40 = .ok (.getfield 51, 3) := by decide +kernel
theorem dX10_digestStep_43 : decode cX10_digestStep 43 = .ok (.getfield 192, 3) := by decide +kernel
theorem dX10_digestStep_46 : decode cX10_digestStep 46 = .ok (.iload 6, 2) := by decide +kernel
theorem dX10_digestStep_48 : decode cX10_digestStep 48 = .ok (.iload_n 3, 1) := by decide +kernel
theorem dX10_digestStep_49 : decode cX10_digestStep 49 = .ok (.invokevirtual 196, 3) := by decide +kernel
theorem dX10_digestStep_52 : decode cX10_digestStep 52 = .ok (.ladd, 1) := by decide +kernel
theorem dX10_digestStep_53 : decode cX10_digestStep 53 = .ok (.lstore 4, 2) := by decide +kernel
theorem dX10_digestStep_55 : decode cX10_digestStep 55 = .ok (.iinc 6 1, 3) := by decide +kernel
theorem dX10_digestStep_58 : decode cX10_digestStep 58 = .ok (.goto (-35), 3) := by decide +kernel
theorem dX10_digestStep_61 : decode cX10_digestStep 61 = .ok (.aload_n 0, 1) := by decide +kernel
theorem dX10_digestStep_62 : decode cX10_digestStep 62 = .ok (.lload 4, 2) := by decide +kernel
theorem dX10_digestStep_64 : decode cX10_digestStep 64 = .ok (.iconst 2, 1) := by decide +kernel
theorem dX10_digestStep_65 : decode cX10_digestStep 65 = .ok (.iload_n 3, 1) := by decide +kernel
theorem dX10_digestStep_66 : decode cX10_digestStep 66 = .ok (.invokevirtual 280, 3) := by decide +kernel
theorem dX10_digestStep_69 : decode cX10_digestStep 69 = .ok (.lstore 4, 2) := by decide +kernel
theorem dX10_digestStep_71 : decode cX10_digestStep 71 = .ok (.aload_n 0, 1) := by decide +kernel
theorem dX10_digestStep_72 : decode cX10_digestStep 72 = .ok (.lload 4, 2) := by decide +kernel
theorem dX10_digestStep_74 : decode cX10_digestStep 74 = .ok (.iconst 1, 1) := by decide +kernel
theorem dX10_digestStep_75 : decode cX10_digestStep 75 = .ok (.iload_n 3, 1) := by decide +kernel
theorem dX10_digestStep_76 : decode cX10_digestStep 76 = .ok (.invokevirtual 280, 3) := by decide +kernel
theorem dX10_digestStep_79 : decode cX10_digestStep 79 = .ok (.lstore 4, 2) := by decide +kernel
theorem dX10_digestStep_81 : decode cX10_digestStep 81 = .ok (.aload_n 0, 1) := by decide +kernel
theorem dX10_digestStep_82 : decode cX10_digestStep 82 = .ok (.lload 4, 2) := by decide +kernel
theorem dX10_digestStep_84 : decode cX10_digestStep 84 = .ok (.iconst 3, 1) := by decide +kernel
theorem dX10_digestStep_85 : decode cX10_digestStep 85 = .ok (.iload_n 3, 1) := by decide +kernel
theorem dX10_digestStep_86 : decode cX10_digestStep 86 = .ok (.invokevirtual 280, 3) := by decide +kernel
theorem dX10_digestStep_89 : decode cX10_digestStep 89 = .ok (.lreturn, 1) := by decide +kernel
theorem dX10_digestSort_0 : decode cX10_digestSort 0 = .ok (.lload_n 1, 1) := by decide +kernel
theorem dX10_digestSort_1 : decode cX10_digestSort 1 = .ok (.lstore 5, 2) := by decide +kernel
theorem dX10_digestSort_3 : decode cX10_digestSort 3 = .ok (.iconst 0, 1) := by decide +kernel
theorem dX10_digestSort_4 : decode cX10_digestSort 4 = .ok (.istore 7, 2) := by decide +kernel
theorem dX10_digestSort_6 : decode cX10_digestSort 6 = .ok (.iload 7, 2) := by decide +kernel
theorem dX10_digestSort_8 : decode cX10_digestSort 8 = .ok (.aload_n 0, 1) := by decide +kernel
theorem dX10_digestSort_9 : decode cX10_digestSort 9 = .ok (.iload_n 3, 1) := by decide +kernel
theorem dX10_digestSort_10 : decode cX10_digestSort 10 = .ok (.invokevirtual 140, 3) := by decide +kernel
theorem dX10_digestSort_13 : decode cX10_digestSort 13 = .ok (.if_icmp .ge 27, 3) := by decide +kernel
theorem dX10_digestSort_16 : decode cX10_digestSort 16 = .ok (.lload 5, 2) := by decide +kernel
theorem dX10_digestSort_18 : decode cX10_digestSort 18 = .ok (.ldc2_w 274, 3) := by decide +kernel
theorem dX10_digestSort_21 : decode cX10_digestSort 21 = .ok (.lmul, 1) := by decide +kernel
theorem dX10_digestSort_22 : decode cX10_digestSort 22 = .ok (.aload_n 0, 1) := by decide +kernel
theorem dX10_digestSort_23 : decode cX10_digestSort 23 = .ok (.iload_n 3, 1) := by decide +kernel
theorem dX10_digestSort_24 : decode cX10_digestSort 24 = .ok (.iload 7, 2) := by decide +kernel
theorem dX10_digestSort_26 : decode cX10_digestSort 26 = .ok (.iload 4, 2) := by decide +kernel
theorem dX10_digestSort_28 : decode cX10_digestSort 28 = .ok (.invokevirtual 219, 3) := by decide +kernel
theorem dX10_digestSort_31 : decode cX10_digestSort 31 = .ok (.ladd, 1) := by decide +kernel
theorem dX10_digestSort_32 : decode cX10_digestSort 32 = .ok (.lstore 5, 2) := by decide +kernel
theorem dX10_digestSort_34 : decode cX10_digestSort 34 = .ok (.iinc 7 1, 3) := by decide +kernel
theorem dX10_digestSort_37 : decode cX10_digestSort 37 = .ok (.goto (-31), 3) := by decide +kernel
theorem dX10_digestSort_40 : decode cX10_digestSort 40 = .ok (.lload 5, 2) := by decide +kernel
theorem dX10_digestSort_42 : decode cX10_digestSort 42 = .ok (.lreturn, 1) := by decide +kernel
theorem dX10_howMany_0 : decode cX10_howMany 0 = .ok (.iload_n 1, 1) := by decide +kernel
theorem dX10_howMany_1 : decode cX10_howMany 1 = .ok (.tableswitch 51 4 6 #[27, 35, 43], 27) := by decide +kernel
theorem dX10_howMany_28 : decode cX10_howMany 28 = .ok (.aload_n 0, 1) := by decide +kernel
theorem dX10_howMany_29 : decode cX10_howMany 29 = .ok (.getfield 51, 3) := by decide +kernel
theorem dX10_howMany_32 : decode cX10_howMany 32 = .ok (.getfield 160, 3) := by decide +kernel
theorem dX10_howMany_35 : decode cX10_howMany 35 = .ok (.ireturn, 1) := by decide +kernel
theorem dX10_howMany_36 : decode cX10_howMany 36 = .ok (.aload_n 0, 1) := by decide +kernel
theorem dX10_howMany_37 : decode cX10_howMany 37 = .ok (.getfield 55, 3) := by decide +kernel
theorem dX10_howMany_40 : decode cX10_howMany 40 = .ok (.getfield 160, 3) := by decide +kernel
theorem dX10_howMany_43 : decode cX10_howMany 43 = .ok (.ireturn, 1) := by decide +kernel
theorem dX10_howMany_44 : decode cX10_howMany 44 = .ok (.aload_n 0, 1) := by decide +kernel
theorem dX10_howMany_45 : decode cX10_howMany 45 = .ok (.getfield 10, 3) := by decide +kernel
theorem dX10_howMany_48 : decode cX10_howMany 48 = .ok (.getfield 86, 3) := by decide +kernel
theorem dX10_howMany_51 : decode cX10_howMany 51 = .ok (.ireturn, 1) := by decide +kernel
theorem dX10_howMany_52 : decode cX10_howMany 52 = .ok (.aload_n 0, 1) := by decide +kernel
theorem dX10_howMany_53 : decode cX10_howMany 53 = .ok (.getfield 35, 3) := by decide +kernel
theorem dX10_howMany_56 : decode cX10_howMany 56 = .ok (.getfield 284, 3) := by decide +kernel
theorem dX10_howMany_59 : decode cX10_howMany 59 = .ok (.iload_n 1, 1) := by decide +kernel
theorem dX10_howMany_60 : decode cX10_howMany 60 = .ok (.invokevirtual 205, 3) := by decide +kernel
theorem dX10_howMany_63 : decode cX10_howMany 63 = .ok (.ireturn, 1) := by decide +kernel
theorem dX10_isItem_0 : decode cX10_isItem 0 = .ok (.iload_n 2, 1) := by decide +kernel
theorem dX10_isItem_1 : decode cX10_isItem 1 = .ok (.ifCond .lt 22, 3) := by decide +kernel
theorem dX10_isItem_4 : decode cX10_isItem 4 = .ok (.iload_n 2, 1) := by decide +kernel
theorem dX10_isItem_5 : decode cX10_isItem 5 = .ok (.aload_n 0, 1) := by decide +kernel
theorem dX10_isItem_6 : decode cX10_isItem 6 = .ok (.getfield 35, 3) := by decide +kernel
theorem dX10_isItem_9 : decode cX10_isItem 9 = .ok (.getfield 284, 3) := by decide +kernel
theorem dX10_isItem_12 : decode cX10_isItem 12 = .ok (.iload_n 1, 1) := by decide +kernel
theorem dX10_isItem_13 : decode cX10_isItem 13 = .ok (.invokevirtual 205, 3) := by decide +kernel
theorem dX10_isItem_16 : decode cX10_isItem 16 = .ok (.if_icmp .ge 7, 3) := by decide +kernel
theorem dX10_isItem_19 : decode cX10_isItem 19 = .ok (.iconst 1, 1) := by decide +kernel
theorem dX10_isItem_20 : decode cX10_isItem 20 = .ok (.goto 4, 3) := by decide +kernel
theorem dX10_isItem_23 : decode cX10_isItem 23 = .ok (.iconst 0, 1) := by decide +kernel
theorem dX10_isItem_24 : decode cX10_isItem 24 = .ok (.ireturn, 1) := by decide +kernel
theorem dX10_isStep_0 : decode cX10_isStep 0 = .ok (.iload_n 1, 1) := by decide +kernel
theorem dX10_isStep_1 : decode cX10_isStep 1 = .ok (.ifCond .lt 18, 3) := by decide +kernel
theorem dX10_isStep_4 : decode cX10_isStep 4 = .ok (.iload_n 1, 1) := by decide +kernel
theorem dX10_isStep_5 : decode cX10_isStep 5 = .ok (.aload_n 0, 1) := by decide +kernel
theorem dX10_isStep_6 : decode cX10_isStep 6 = .ok (.getfield 51, 3) := by decide +kernel
theorem dX10_isStep_9 : decode cX10_isStep 9 = .ok (.getfield 160, 3) := by decide +kernel
theorem dX10_isStep_12 : decode cX10_isStep 12 = .ok (.if_icmp .ge 7, 3) := by decide +kernel
theorem dX10_isStep_15 : decode cX10_isStep 15 = .ok (.iconst 1, 1) := by decide +kernel
theorem dX10_isStep_16 : decode cX10_isStep 16 = .ok (.goto 4, 3) := by decide +kernel
theorem dX10_isStep_19 : decode cX10_isStep 19 = .ok (.iconst 0, 1) := by decide +kernel
theorem dX10_isStep_20 : decode cX10_isStep 20 = .ok (.ireturn, 1) := by decide +kernel
theorem dX10_reckoned_0 : decode cX10_reckoned 0 = .ok (.aload_n 0, 1) := by decide +kernel
theorem dX10_reckoned_1 : decode cX10_reckoned 1 = .ok (.getfield 63, 3) := by decide +kernel
theorem dX10_reckoned_4 : decode cX10_reckoned 4 = .ok (.getfield 269, 3) := by decide +kernel
theorem dX10_reckoned_7 : decode cX10_reckoned 7 = .ok (.aload_n 0, 1) := by decide +kernel
theorem dX10_reckoned_8 : decode cX10_reckoned 8 = .ok (.getfield 35, 3) := by decide +kernel
theorem dX10_reckoned_11 : decode cX10_reckoned 11 = .ok (.iload_n 1, 1) := by decide +kernel
theorem dX10_reckoned_12 : decode cX10_reckoned 12 = .ok (.iload_n 2, 1) := by decide +kernel
theorem dX10_reckoned_13 : decode cX10_reckoned 13 = .ok (.invokevirtual 236, 3) := by decide +kernel
theorem dX10_reckoned_16 : decode cX10_reckoned 16 = .ok (.iload_n 3, 1) := by decide +kernel
theorem dX10_reckoned_17 : decode cX10_reckoned 17 = .ok (.invokevirtual 196, 3) := by decide +kernel
theorem dX10_reckoned_20 : decode cX10_reckoned 20 = .ok (.lreturn, 1) := by decide +kernel
theorem dX10_begin_0 : decode cX10_begin 0 = .ok (.aload_n 0, 1) := by decide +kernel
theorem dX10_begin_1 : decode cX10_begin 1 = .ok (.getfield 51, 3) := by decide +kernel
theorem dX10_begin_4 : decode cX10_begin 4 = .ok (.iconst 0, 1) := by decide +kernel
theorem dX10_begin_5 : decode cX10_begin 5 = .ok (.putfield 160, 3) := by decide +kernel
theorem dX10_begin_8 : decode cX10_begin 8 = .ok (.aload_n 0, 1) := by decide +kernel
theorem dX10_begin_9 : decode cX10_begin 9 = .ok (.getfield 51, 3) := by decide +kernel
theorem dX10_begin_12 : decode cX10_begin 12 = .ok (.aload_n 0, 1) := by decide +kernel
theorem dX10_begin_13 : decode cX10_begin 13 = .ok (.iconst 0, 1) := by decide +kernel
theorem dX10_begin_14 : decode cX10_begin 14 = .ok (.invokevirtual 140, 3) := by decide +kernel
theorem dX10_begin_17 : decode cX10_begin 17 = .ok (.putfield 183, 3) := by decide +kernel
theorem dX10_begin_20 : decode cX10_begin 20 = .ok (.iconst 0, 1) := by decide +kernel
theorem dX10_begin_21 : decode cX10_begin 21 = .ok (.istore_n 1, 1) := by decide +kernel
theorem dX10_begin_22 : decode cX10_begin 22 = .ok (.iload_n 1, 1) := by decide +kernel
theorem dX10_begin_23 : decode cX10_begin 23 = .ok (.bipush 8, 2) := by decide +kernel
theorem dX10_begin_25 : decode cX10_begin 25 = .ok (.if_icmp .ge 28, 3) := by decide +kernel
theorem dX10_begin_28 : decode cX10_begin 28 = .ok (.aload_n 0, 1) := by decide +kernel
theorem dX10_begin_29 : decode cX10_begin 29 = .ok (.getfield 72, 3) := by decide +kernel
theorem dX10_begin_32 : decode cX10_begin 32 = .ok (.iload_n 1, 1) := by decide +kernel
theorem dX10_begin_33 : decode cX10_begin 33 = .ok (.aload_n 0, 1) := by decide +kernel
theorem dX10_begin_34 : decode cX10_begin 34 = .ok (.getfield 35, 3) := by decide +kernel
theorem dX10_begin_37 : decode cX10_begin 37 = .ok (.getfield 287, 3) := by decide +kernel
theorem dX10_begin_40 : decode cX10_begin 40 = .ok (.iload_n 1, 1) := by decide +kernel
theorem dX10_begin_41 : decode cX10_begin 41 = .ok (.invokevirtual 150, 3) := by decide +kernel
theorem dX10_begin_44 : decode cX10_begin 44 = .ok (.invokevirtual 154, 3) := by decide +kernel
theorem dX10_begin_47 : decode cX10_begin 47 = .ok (.iinc 1 1, 3) := by decide +kernel
theorem dX10_begin_50 : decode cX10_begin 50 = .ok (.goto (-28), 3) := by decide +kernel
theorem dX10_begin_53 : decode cX10_begin 53 = .ok (.return_, 1) := by decide +kernel
theorem dX10_doStep_0 : decode cX10_doStep 0 = .ok (.aload_n 0, 1) := by decide +kernel
theorem dX10_doStep_1 : decode cX10_doStep 1 = .ok (.getfield 51, 3) := by decide +kernel
theorem dX10_doStep_4 : decode cX10_doStep 4 = .ok (.getfield 160, 3) := by decide +kernel
theorem dX10_doStep_7 : decode cX10_doStep 7 = .ok (.istore_n 2, 1) := by decide +kernel
theorem dX10_doStep_8 : decode cX10_doStep 8 = .ok (.aload_n 0, 1) := by decide +kernel
theorem dX10_doStep_9 : decode cX10_doStep 9 = .ok (.getfield 51, 3) := by decide +kernel
theorem dX10_doStep_12 : decode cX10_doStep 12 = .ok (.getfield 201, 3) := by decide +kernel
theorem dX10_doStep_15 : decode cX10_doStep 15 = .ok (.iload_n 2, 1) := by decide +kernel
theorem dX10_doStep_16 : decode cX10_doStep 16 = .ok (.iload_n 1, 1) := by decide +kernel
theorem dX10_doStep_17 : decode cX10_doStep 17 = .ok (.invokevirtual 290, 3) := by decide +kernel
theorem dX10_doStep_20 : decode cX10_doStep 20 = .ok (.iconst 0, 1) := by decide +kernel
theorem dX10_doStep_21 : decode cX10_doStep 21 = .ok (.istore_n 3, 1) := by decide +kernel
theorem dX10_doStep_22 : decode cX10_doStep 22 = .ok (.iload_n 3, 1) := by decide +kernel
theorem dX10_doStep_23 : decode cX10_doStep 23 = .ok (.aload_n 0, 1) := by decide +kernel
theorem dX10_doStep_24 : decode cX10_doStep 24 = .ok (.getfield 51, 3) := by decide +kernel
theorem dX10_doStep_27 : decode cX10_doStep 27 = .ok (.getfield 183, 3) := by decide +kernel
theorem dX10_doStep_30 : decode cX10_doStep 30 = .ok (.if_icmp .ge 29, 3) := by decide +kernel
theorem dX10_doStep_33 : decode cX10_doStep 33 = .ok (.aload_n 0, 1) := by decide +kernel
theorem dX10_doStep_34 : decode cX10_doStep 34 = .ok (.getfield 51, 3) := by decide +kernel
theorem dX10_doStep_37 : decode cX10_doStep 37 = .ok (.getfield 192, 3) := by decide +kernel
theorem dX10_doStep_40 : decode cX10_doStep 40 = .ok (.iload_n 3, 1) := by decide +kernel
theorem dX10_doStep_41 : decode cX10_doStep 41 = .ok (.iload_n 2, 1) := by decide +kernel
theorem dX10_doStep_42 : decode cX10_doStep 42 = .ok (.aload_n 0, 1) := by decide +kernel
theorem dX10_doStep_43 : decode cX10_doStep 43 = .ok (.getfield 72, 3) := by decide +kernel
theorem dX10_doStep_46 : decode cX10_doStep 46 = .ok (.iload_n 3, 1) := by decide +kernel
theorem dX10_doStep_47 : decode cX10_doStep 47 = .ok (.invokevirtual 150, 3) := by decide +kernel
theorem dX10_doStep_50 : decode cX10_doStep 50 = .ok (.invokevirtual 292, 3) := by decide +kernel
theorem dX10_doStep_53 : decode cX10_doStep 53 = .ok (.iinc 3 1, 3) := by decide +kernel
theorem dX10_doStep_56 : decode cX10_doStep 56 = .ok (.goto (-34), 3) := by decide +kernel
theorem dX10_doStep_59 : decode cX10_doStep 59 = .ok (.aload_n 0, 1) := by decide +kernel
theorem dX10_doStep_60 : decode cX10_doStep 60 = .ok (.getfield 51, 3) := by decide +kernel
theorem dX10_doStep_63 : decode cX10_doStep 63 = .ok (.iload_n 2, 1) := by decide +kernel
theorem dX10_doStep_64 : decode cX10_doStep 64 = .ok (.iconst 1, 1) := by decide +kernel
theorem dX10_doStep_65 : decode cX10_doStep 65 = .ok (.iadd, 1) := by decide +kernel
theorem dX10_doStep_66 : decode cX10_doStep 66 = .ok (.putfield 160, 3) := by decide +kernel
theorem dX10_doStep_69 : decode cX10_doStep 69 = .ok (.aload_n 0, 1) := by decide +kernel
theorem dX10_doStep_70 : decode cX10_doStep 70 = .ok (.getfield 63, 3) := by decide +kernel
theorem dX10_doStep_73 : decode cX10_doStep 73 = .ok (.iconst 0, 1) := by decide +kernel
theorem dX10_doStep_74 : decode cX10_doStep 74 = .ok (.aload_n 0, 1) := by decide +kernel
theorem dX10_doStep_75 : decode cX10_doStep 75 = .ok (.getfield 35, 3) := by decide +kernel
theorem dX10_doStep_78 : decode cX10_doStep 78 = .ok (.getfield 129, 3) := by decide +kernel
theorem dX10_doStep_81 : decode cX10_doStep 81 = .ok (.iload_n 2, 1) := by decide +kernel
theorem dX10_doStep_82 : decode cX10_doStep 82 = .ok (.invokevirtual 263, 3) := by decide +kernel
theorem dX10_doStep_85 : decode cX10_doStep 85 = .ok (.aload_n 0, 1) := by decide +kernel
theorem dX10_doStep_86 : decode cX10_doStep 86 = .ok (.getfield 107, 3) := by decide +kernel
theorem dX10_doStep_89 : decode cX10_doStep 89 = .ok (.ifCond .eq 19, 3) := by decide +kernel
theorem dX10_doStep_92 : decode cX10_doStep 92 = .ok (.aload_n 0, 1) := by decide +kernel
theorem dX10_doStep_93 : decode cX10_doStep 93 = .ok (.getfield 63, 3) := by decide +kernel
theorem dX10_doStep_96 : decode cX10_doStep 96 = .ok (.aload_n 0, 1) := by decide +kernel
theorem dX10_doStep_97 : decode cX10_doStep 97 = .ok (.getfield 80, 3) := by decide +kernel
theorem dX10_doStep_100 : decode cX10_doStep 100 = .ok (.aload_n 0, 1) := by decide +kernel
theorem dX10_doStep_101 : decode cX10_doStep 101 = .ok (.getfield 83, 3) := by decide +kernel
theorem dX10_doStep_104 : decode cX10_doStep 104 = .ok (.iload_n 2, 1) := by decide +kernel
theorem dX10_doStep_105 : decode cX10_doStep 105 = .ok (.invokevirtual 263, 3) := by decide +kernel
theorem dX10_doStep_108 : decode cX10_doStep 108 = .ok (.return_, 1) := by decide +kernel
theorem dX10_broken_0 : decode cX10_broken 0 = .ok (.iconst 0, 1) := by decide +kernel
theorem dX10_broken_1 : decode cX10_broken 1 = .ok (.istore_n 2, 1) := by decide +kernel
theorem dX10_broken_2 : decode cX10_broken 2 = .ok (.aload_n 0, 1) := by decide +kernel
theorem dX10_broken_3 : decode cX10_broken 3 = .ok (.getfield 51, 3) := by decide +kernel
theorem dX10_broken_6 : decode cX10_broken 6 = .ok (.getfield 160, 3) := by decide +kernel
theorem dX10_broken_9 : decode cX10_broken 9 = .ok (.ifCond .le 58, 3) := by decide +kernel
theorem dX10_broken_12 : decode cX10_broken 12 = .ok (.iconst 0, 1) := by decide +kernel
theorem dX10_broken_13 : decode cX10_broken 13 = .ok (.istore_n 3, 1) := by decide +kernel
theorem dX10_broken_14 : decode cX10_broken 14 = .ok (.iload_n 3, 1) := by decide +kernel
theorem dX10_broken_15 : decode cX10_broken 15 = .ok (.aload_n 0, 1) := by decide +kernel
theorem dX10_broken_16 : decode cX10_broken 16 = .ok (.iconst 3, 1) := by decide +kernel
theorem dX10_broken_17 : decode cX10_broken 17 = .ok (.invokevirtual 140, 3) := by decide +kernel
theorem dX10_broken_20 : decode cX10_broken 20 = .ok (.if_icmp .ge 47, 3) := by decide +kernel
theorem dX10_broken_23 : decode cX10_broken 23 = .ok (.aload_n 0, 1) := by decide +kernel
theorem dX10_broken_24 : decode cX10_broken 24 = .ok (.getfield 35, 3) := by decide +kernel
theorem dX10_broken_27 : decode cX10_broken 27 = .ok (.getfield 295, 3) := by decide +kernel
theorem dX10_broken_30 : decode cX10_broken 30 = .ok (.iload_n 3, 1) := by decide +kernel
theorem dX10_broken_31 : decode cX10_broken 31 = .ok (.invokevirtual 205, 3) := by decide +kernel
theorem dX10_broken_34 : decode cX10_broken 34 = .ok (.iload_n 1, 1) := by decide +kernel
theorem dX10_broken_35 : decode cX10_broken 35 = .ok (.if_icmp .lt 26, 3) := by decide +kernel
theorem dX10_broken_38 : decode cX10_broken 38 = .ok (.aload_n 0, 1) := by decide +kernel
theorem dX10_broken_39 : decode cX10_broken 39 = .ok (.iconst 3, 1) := by decide +kernel
theorem dX10_broken_40 : decode cX10_broken 40 = .ok (.iload_n 3, 1) := by decide +kernel
theorem dX10_broken_41 : decode cX10_broken 41 = .ok (.aload_n 0, 1) := by decide +kernel
theorem dX10_broken_42 : decode cX10_broken 42 = .ok (.getfield 51, 3) := by decide +kernel
theorem dX10_broken_45 : decode cX10_broken 45 = .ok (.getfield 160, 3) := by decide +kernel
theorem dX10_broken_48 : decode cX10_broken 48 = .ok (.iconst 1, 1) := by decide +kernel
theorem dX10_broken_49 : decode cX10_broken 49 = .ok (.isub, 1) := by decide +kernel
theorem dX10_broken_50 : decode cX10_broken 50 = .ok (.invokevirtual 219, 3) := by decide +kernel
theorem dX10_broken_53 : decode cX10_broken 53 = .ok (.lconst 0, 1) := by decide +kernel
theorem dX10_broken_54 : decode cX10_broken 54 = .ok (.lcmp, 1) := by decide +kernel
theorem dX10_broken_55 : decode cX10_broken 55 = .ok (.ifCond .ne 6, 3) := by decide +kernel
theorem dX10_broken_58 : decode cX10_broken 58 = .ok (.iinc 2 1, 3) := by decide +kernel
theorem dX10_broken_61 : decode cX10_broken 61 = .ok (.iinc 3 1, 3) := by decide +kernel
theorem dX10_broken_64 : decode cX10_broken 64 = .ok (.goto (-50), 3) := by decide +kernel
theorem dX10_broken_67 : decode cX10_broken 67 = .ok (.iload_n 2, 1) := by decide +kernel
theorem dX10_broken_68 : decode cX10_broken 68 = .ok (.ireturn, 1) := by decide +kernel
theorem dX10_toldOf_0 : decode cX10_toldOf 0 = .ok (.iload_n 2, 1) := by decide +kernel
theorem dX10_toldOf_1 : decode cX10_toldOf 1 = .ok (.tableswitch 61 0 3 #[31, 43, 49, 55], 31) := by decide +kernel
theorem dX10_toldOf_32 : decode cX10_toldOf 32 = .ok (.aload_n 0, 1) := by decide +kernel
theorem dX10_toldOf_33 : decode cX10_toldOf 33 = .ok (.getfield 35, 3) := by decide +kernel
theorem dX10_toldOf_36 : decode cX10_toldOf 36 = .ok (.getfield 295, 3) := by decide +kernel
theorem dX10_toldOf_39 : decode cX10_toldOf 39 = .ok (.iload_n 1, 1) := by decide +kernel
theorem dX10_toldOf_40 : decode cX10_toldOf 40 = .ok (.invokevirtual 205, 3) := by decide +kernel
theorem dX10_toldOf_43 : decode cX10_toldOf 43 = .ok (.ireturn, 1) := by decide +kernel
theorem dX10_toldOf_44 : decode cX10_toldOf 44 = .ok (.aload_n 0, 1) := by decide +kernel
theorem dX10_toldOf_45 : decode cX10_toldOf 45 = .ok (.iload_n 1, 1) := by decide +kernel
theorem dX10_toldOf_46 : decode cX10_toldOf 46 = .ok (.invokevirtual 254, 3) := by decide +kernel
theorem dX10_toldOf_49 : decode cX10_toldOf 49 = .ok (.ireturn, 1) := by decide +kernel
theorem dX10_toldOf_50 : decode cX10_toldOf 50 = .ok (.aload_n 0, 1) := by decide +kernel
theorem dX10_toldOf_51 : decode cX10_toldOf 51 = .ok (.iload_n 1, 1) := by decide +kernel
theorem dX10_toldOf_52 : decode cX10_toldOf 52 = .ok (.invokevirtual 298, 3) := by decide +kernel
theorem dX10_toldOf_55 : decode cX10_toldOf 55 = .ok (.ireturn, 1) := by decide +kernel
theorem dX10_toldOf_56 : decode cX10_toldOf 56 = .ok (.aload_n 0, 1) := by decide +kernel
theorem dX10_toldOf_57 : decode cX10_toldOf 57 = .ok (.iload_n 1, 1) := by decide +kernel
theorem dX10_toldOf_58 : decode cX10_toldOf 58 = .ok (.invokevirtual 301, 3) := by decide +kernel
theorem dX10_toldOf_61 : decode cX10_toldOf 61 = .ok (.ireturn, 1) := by decide +kernel
theorem dX10_toldOf_62 : decode cX10_toldOf 62 = .ok (.aload_n 0, 1) := by decide +kernel
theorem dX10_toldOf_63 : decode cX10_toldOf 63 = .ok (.iload_n 1, 1) := by decide +kernel
theorem dX10_toldOf_64 : decode cX10_toldOf 64 = .ok (.invokevirtual 304, 3) := by decide +kernel
theorem dX10_toldOf_67 : decode cX10_toldOf 67 = .ok (.ireturn, 1) := by decide +kernel
theorem dX10_misses_0 : decode cX10_misses 0 = .ok (.iconst 0, 1) := by decide +kernel
theorem dX10_misses_1 : decode cX10_misses 1 = .ok (.istore_n 2, 1) := by decide +kernel
theorem dX10_misses_2 : decode cX10_misses 2 = .ok (.iconst 0, 1) := by decide +kernel
theorem dX10_misses_3 : decode cX10_misses 3 = .ok (.istore_n 3, 1) := by decide +kernel
theorem dX10_misses_4 : decode cX10_misses 4 = .ok (.iload_n 3, 1) := by decide +kernel
theorem dX10_misses_5 : decode cX10_misses 5 = .ok (.aload_n 0, 1) := by decide +kernel
theorem dX10_misses_6 : decode cX10_misses 6 = .ok (.getfield 51, 3) := by decide +kernel
theorem dX10_misses_9 : decode cX10_misses 9 = .ok (.getfield 160, 3) := by decide +kernel
theorem dX10_misses_12 : decode cX10_misses 12 = .ok (.if_icmp .ge 24, 3) := by decide +kernel
theorem dX10_misses_15 : decode cX10_misses 15 = .ok (.aload_n 0, 1) := by decide +kernel
theorem dX10_misses_16 : decode cX10_misses 16 = .ok (.iconst 3, 1) := by decide +kernel
theorem dX10_misses_17 : decode cX10_misses 17 = .ok (.iload_n 1, 1) := by decide +kernel
theorem dX10_misses_18 : decode cX10_misses 18 = .ok (.iload_n 3, 1) := by decide +kernel
theorem dX10_misses_19 : decode cX10_misses 19 = .ok (.invokevirtual 219, 3) := by decide +kernel
theorem dX10_misses_22 : decode cX10_misses 22 = .ok (.lconst 0, 1) := by decide +kernel
theorem dX10_misses_23 : decode cX10_misses 23 = .ok (.lcmp, 1) := by decide +kernel
theorem dX10_misses_24 : decode cX10_misses 24 = .ok (.ifCond .ne 6, 3) := by decide +kernel
theorem dX10_misses_27 : decode cX10_misses 27 = .ok (.iinc 2 1, 3) := by decide +kernel
theorem dX10_misses_30 : decode cX10_misses 30 = .ok (.iinc 3 1, 3) := by decide +kernel
theorem dX10_misses_33 : decode cX10_misses 33 = .ok (.goto (-29), 3) := by decide +kernel
theorem dX10_misses_36 : decode cX10_misses 36 = .ok (.iload_n 2, 1) := by decide +kernel
theorem dX10_misses_37 : decode cX10_misses 37 = .ok (.ireturn, 1) := by decide +kernel
theorem dX10_firstMiss_0 : decode cX10_firstMiss 0 = .ok (.iconst 0, 1) := by decide +kernel
theorem dX10_firstMiss_1 : decode cX10_firstMiss 1 = .ok (.istore_n 2, 1) := by decide +kernel
theorem dX10_firstMiss_2 : decode cX10_firstMiss 2 = .ok (.iload_n 2, 1) := by decide +kernel
theorem dX10_firstMiss_3 : decode cX10_firstMiss 3 = .ok (.aload_n 0, 1) := by decide +kernel
theorem dX10_firstMiss_4 : decode cX10_firstMiss 4 = .ok (.getfield 51, 3) := by decide +kernel
theorem dX10_firstMiss_7 : decode cX10_firstMiss 7 = .ok (.getfield 160, 3) := by decide +kernel
theorem dX10_firstMiss_10 : decode cX10_firstMiss 10 = .ok (.if_icmp .ge 23, 3) := by decide +kernel
theorem dX10_firstMiss_13 : decode cX10_firstMiss 13 = .ok (.aload_n 0, 1) := by decide +kernel
theorem dX10_firstMiss_14 : decode cX10_firstMiss 14 = .ok (.iconst 3, 1) := by decide +kernel
theorem dX10_firstMiss_15 : decode cX10_firstMiss 15 = .ok (.iload_n 1, 1) := by decide +kernel
theorem dX10_firstMiss_16 : decode cX10_firstMiss 16 = .ok (.iload_n 2, 1) := by decide +kernel
theorem dX10_firstMiss_17 : decode cX10_firstMiss 17 = .ok (.invokevirtual 219, 3) := by decide +kernel
theorem dX10_firstMiss_20 : decode cX10_firstMiss 20 = .ok (.lconst 0, 1) := by decide +kernel
theorem dX10_firstMiss_21 : decode cX10_firstMiss 21 = .ok (.lcmp, 1) := by decide +kernel
theorem dX10_firstMiss_22 : decode cX10_firstMiss 22 = .ok (.ifCond .ne 5, 3) := by decide +kernel
theorem dX10_firstMiss_25 : decode cX10_firstMiss 25 = .ok (.iload_n 2, 1) := by decide +kernel
theorem dX10_firstMiss_26 : decode cX10_firstMiss 26 = .ok (.ireturn, 1) := by decide +kernel
theorem dX10_firstMiss_27 : decode cX10_firstMiss 27 = .ok (.iinc 2 1, 3) := by decide +kernel
theorem dX10_firstMiss_30 : decode cX10_firstMiss 30 = .ok (.goto (-28), 3) := by decide +kernel
theorem dX10_firstMiss_33 : decode cX10_firstMiss 33 = .ok (.iconst (-1), 1) := by decide +kernel
theorem dX10_firstMiss_34 : decode cX10_firstMiss 34 = .ok (.ireturn, 1) := by decide +kernel
theorem dX10_longestMiss_0 : decode cX10_longestMiss 0 = .ok (.iconst 0, 1) := by decide +kernel
theorem dX10_longestMiss_1 : decode cX10_longestMiss 1 = .ok (.istore_n 2, 1) := by decide +kernel
theorem dX10_longestMiss_2 : decode cX10_longestMiss 2 = .ok (.iconst 0, 1) := by decide +kernel
theorem dX10_longestMiss_3 : decode cX10_longestMiss 3 = .ok (.istore_n 3, 1) := by decide +kernel
theorem dX10_longestMiss_4 : decode cX10_longestMiss 4 = .ok (.iconst 0, 1) := by decide +kernel
theorem dX10_longestMiss_5 : decode cX10_longestMiss 5 = .ok (.istore 4, 2) := by decide +kernel
theorem dX10_longestMiss_7 : decode cX10_longestMiss 7 = .ok (.iload 4, 2) := by decide +kernel
theorem dX10_longestMiss_9 : decode cX10_longestMiss 9 = .ok (.aload_n 0, 1) := by decide +kernel
theorem dX10_longestMiss_10 : decode cX10_longestMiss 10 = .ok (.getfield 51, 3) := by decide +kernel
theorem dX10_longestMiss_13 : decode cX10_longestMiss 13 = .ok (.getfield 160, 3) := by decide +kernel
theorem dX10_longestMiss_16 : decode cX10_longestMiss 16 = .ok (.if_icmp .ge 36, 3) := by decide +kernel
theorem dX10_longestMiss_19 : decode cX10_longestMiss 19 = .ok (.aload_n 0, 1) := by decide +kernel
theorem dX10_longestMiss_20 : decode cX10_longestMiss 20 = .ok (.iconst 3, 1) := by decide +kernel
theorem dX10_longestMiss_21 : decode cX10_longestMiss 21 = .ok (.iload_n 1, 1) := by decide +kernel
theorem dX10_longestMiss_22 : decode cX10_longestMiss 22 = .ok (.iload 4, 2) := by decide +kernel
theorem dX10_longestMiss_24 : decode cX10_longestMiss 24 = .ok (.invokevirtual 219, 3) := by decide +kernel
theorem dX10_longestMiss_27 : decode cX10_longestMiss 27 = .ok (.lconst 0, 1) := by decide +kernel
theorem dX10_longestMiss_28 : decode cX10_longestMiss 28 = .ok (.lcmp, 1) := by decide +kernel
theorem dX10_longestMiss_29 : decode cX10_longestMiss 29 = .ok (.ifCond .ne 9, 3) := by decide +kernel
theorem dX10_longestMiss_32 : decode cX10_longestMiss 32 = .ok (.iload_n 3, 1) := by decide +kernel
theorem dX10_longestMiss_33 : decode cX10_longestMiss 33 = .ok (.iconst 1, 1) := by decide +kernel
theorem dX10_longestMiss_34 : decode cX10_longestMiss 34 = .ok (.iadd, 1) := by decide +kernel
theorem dX10_longestMiss_35 : decode cX10_longestMiss 35 = .ok (.goto 4, 3) := by decide +kernel
theorem dX10_longestMiss_38 : decode cX10_longestMiss 38 = .ok (.iconst 0, 1) := by decide +kernel
theorem dX10_longestMiss_39 : decode cX10_longestMiss 39 = .ok (.istore_n 3, 1) := by decide +kernel
theorem dX10_longestMiss_40 : decode cX10_longestMiss 40 = .ok (.iload_n 2, 1) := by decide +kernel
theorem dX10_longestMiss_41 : decode cX10_longestMiss 41 = .ok (.iload_n 3, 1) := by decide +kernel
theorem dX10_longestMiss_42 : decode cX10_longestMiss 42 = .ok (.invokestatic 307, 3) := by decide +kernel
theorem dX10_longestMiss_45 : decode cX10_longestMiss 45 = .ok (.istore_n 2, 1) := by decide +kernel
theorem dX10_longestMiss_46 : decode cX10_longestMiss 46 = .ok (.iinc 4 1, 3) := by decide +kernel
theorem dX10_longestMiss_49 : decode cX10_longestMiss 49 = .ok (.goto (-42), 3) := by decide +kernel
theorem dX10_longestMiss_52 : decode cX10_longestMiss 52 = .ok (.iload_n 2, 1) := by decide +kernel
theorem dX10_longestMiss_53 : decode cX10_longestMiss 53 = .ok (.ireturn, 1) := by decide +kernel
theorem dX10_latestMiss_0 : decode cX10_latestMiss 0 = .ok (.iconst 0, 1) := by decide +kernel
theorem dX10_latestMiss_1 : decode cX10_latestMiss 1 = .ok (.istore_n 2, 1) := by decide +kernel
theorem dX10_latestMiss_2 : decode cX10_latestMiss 2 = .ok (.iconst 0, 1) := by decide +kernel
theorem dX10_latestMiss_3 : decode cX10_latestMiss 3 = .ok (.istore_n 3, 1) := by decide +kernel
theorem dX10_latestMiss_4 : decode cX10_latestMiss 4 = .ok (.iload_n 3, 1) := by decide +kernel
theorem dX10_latestMiss_5 : decode cX10_latestMiss 5 = .ok (.aload_n 0, 1) := by decide +kernel
theorem dX10_latestMiss_6 : decode cX10_latestMiss 6 = .ok (.getfield 51, 3) := by decide +kernel
theorem dX10_latestMiss_9 : decode cX10_latestMiss 9 = .ok (.getfield 160, 3) := by decide +kernel
theorem dX10_latestMiss_12 : decode cX10_latestMiss 12 = .ok (.if_icmp .ge 29, 3) := by decide +kernel
theorem dX10_latestMiss_15 : decode cX10_latestMiss 15 = .ok (.aload_n 0, 1) := by decide +kernel
theorem dX10_latestMiss_16 : decode cX10_latestMiss 16 = .ok (.iconst 3, 1) := by decide +kernel
theorem dX10_latestMiss_17 : decode cX10_latestMiss 17 = .ok (.iload_n 1, 1) := by decide +kernel
theorem dX10_latestMiss_18 : decode cX10_latestMiss 18 = .ok (.iload_n 3, 1) := by decide +kernel
theorem dX10_latestMiss_19 : decode cX10_latestMiss 19 = .ok (.invokevirtual 219, 3) := by decide +kernel
theorem dX10_latestMiss_22 : decode cX10_latestMiss 22 = .ok (.lconst 0, 1) := by decide +kernel
theorem dX10_latestMiss_23 : decode cX10_latestMiss 23 = .ok (.lcmp, 1) := by decide +kernel
theorem dX10_latestMiss_24 : decode cX10_latestMiss 24 = .ok (.ifCond .ne 9, 3) := by decide +kernel
theorem dX10_latestMiss_27 : decode cX10_latestMiss 27 = .ok (.iload_n 2, 1) := by decide +kernel
theorem dX10_latestMiss_28 : decode cX10_latestMiss 28 = .ok (.iconst 1, 1) := by decide +kernel
theorem dX10_latestMiss_29 : decode cX10_latestMiss 29 = .ok (.iadd, 1) := by decide +kernel
theorem dX10_latestMiss_30 : decode cX10_latestMiss 30 = .ok (.goto 4, 3) := by decide +kernel
theorem dX10_latestMiss_33 : decode cX10_latestMiss 33 = .ok (.iconst 0, 1) := by decide +kernel
theorem dX10_latestMiss_34 : decode cX10_latestMiss 34 = .ok (.istore_n 2, 1) := by decide +kernel
theorem dX10_latestMiss_35 : decode cX10_latestMiss 35 = .ok (.iinc 3 1, 3) := by decide +kernel
theorem dX10_latestMiss_38 : decode cX10_latestMiss 38 = .ok (.goto (-34), 3) := by decide +kernel
theorem dX10_latestMiss_41 : decode cX10_latestMiss 41 = .ok (.iload_n 2, 1) := by decide +kernel
theorem dX10_latestMiss_42 : decode cX10_latestMiss 42 = .ok (.ireturn, 1) := by decide +kernel

theorem dX11_init_0 : decode cX11_init 0 = .ok (.aload_n 0, 1) := by decide +kernel
theorem dX11_init_1 : decode cX11_init 1 = .ok (.invokespecial 3, 3) := by decide +kernel
theorem dX11_init_4 : decode cX11_init 4 = .ok (.aload_n 0, 1) := by decide +kernel
theorem dX11_init_5 : decode cX11_init 5 = .ok (.sipush 1800, 3) := by decide +kernel
theorem dX11_init_8 : decode cX11_init 8 = .ok (.newarray .int, 2) := by decide +kernel
theorem dX11_init_10 : decode cX11_init 10 = .ok (.putfield 9, 3) := by decide +kernel
theorem dX11_init_13 : decode cX11_init 13 = .ok (.aload_n 0, 1) := by decide +kernel
theorem dX11_init_14 : decode cX11_init 14 = .ok (.iconst (-1), 1) := by decide +kernel
theorem dX11_init_15 : decode cX11_init 15 = .ok (.putfield 13, 3) := by decide +kernel
theorem dX11_init_18 : decode cX11_init 18 = .ok (.aload_n 0, 1) := by decide +kernel
theorem dX11_init_19 : decode cX11_init 19 = .ok (.sipush 1801, 3) := by decide +kernel
theorem dX11_init_22 : decode cX11_init 22 = .ok (.newarray .int, 2) := by decide +kernel
theorem dX11_init_24 : decode cX11_init 24 = .ok (.putfield 17, 3) := by decide +kernel
theorem dX11_init_27 : decode cX11_init 27 = .ok (.aload_n 0, 1) := by decide +kernel
theorem dX11_init_28 : decode cX11_init 28 = .ok (.sipush 1801, 3) := by decide +kernel
theorem dX11_init_31 : decode cX11_init 31 = .ok (.newarray .int, 2) := by decide +kernel
theorem dX11_init_33 : decode cX11_init 33 = .ok (.putfield 20, 3) := by decide +kernel
theorem dX11_init_36 : decode cX11_init 36 = .ok (.aload_n 0, 1) := by decide +kernel
theorem dX11_init_37 : decode cX11_init 37 = .ok (.sipush 1801, 3) := by decide +kernel
theorem dX11_init_40 : decode cX11_init 40 = .ok (.newarray .int, 2) := by decide +kernel
theorem dX11_init_42 : decode cX11_init 42 = .ok (.putfield 23, 3) := by decide +kernel
theorem dX11_init_45 : decode cX11_init 45 = .ok (.aload_n 0, 1) := by decide +kernel
theorem dX11_init_46 : decode cX11_init 46 = .ok (.sipush 1203, 3) := by decide +kernel
theorem dX11_init_49 : decode cX11_init 49 = .ok (.newarray .int, 2) := by decide +kernel
theorem dX11_init_51 : decode cX11_init 51 = .ok (.putfield 26, 3) := by decide +kernel
theorem dX11_init_54 : decode cX11_init 54 = .ok (.aload_n 0, 1) := by decide +kernel
theorem dX11_init_55 : decode cX11_init 55 = .ok (.sipush 1203, 3) := by decide +kernel
theorem dX11_init_58 : decode cX11_init 58 = .ok (.newarray .int, 2) := by decide +kernel
theorem dX11_init_60 : decode cX11_init 60 = .ok (.putfield 29, 3) := by decide +kernel
theorem dX11_init_63 : decode cX11_init 63 = .ok (.aload_n 0, 1) := by decide +kernel
theorem dX11_init_64 : decode cX11_init 64 = .ok (.sipush 1203, 3) := by decide +kernel
theorem dX11_init_67 : decode cX11_init 67 = .ok (.newarray .int, 2) := by decide +kernel
theorem dX11_init_69 : decode cX11_init 69 = .ok (.putfield 32, 3) := by decide +kernel
theorem dX11_init_72 : decode cX11_init 72 = .ok (.aload_n 0, 1) := by decide +kernel
theorem dX11_init_73 : decode cX11_init 73 = .ok (.sipush 1203, 3) := by decide +kernel
theorem dX11_init_76 : decode cX11_init 76 = .ok (.newarray .int, 2) := by decide +kernel
theorem dX11_init_78 : decode cX11_init 78 = .ok (.putfield 35, 3) := by decide +kernel
theorem dX11_init_81 : decode cX11_init 81 = .ok (.aload_n 0, 1) := by decide +kernel
theorem dX11_init_82 : decode cX11_init 82 = .ok (.sipush 1203, 3) := by decide +kernel
theorem dX11_init_85 : decode cX11_init 85 = .ok (.newarray .int, 2) := by decide +kernel
theorem dX11_init_87 : decode cX11_init 87 = .ok (.putfield 38, 3) := by decide +kernel
theorem dX11_init_90 : decode cX11_init 90 = .ok (.aload_n 0, 1) := by decide +kernel
theorem dX11_init_91 : decode cX11_init 91 = .ok (.sipush 1203, 3) := by decide +kernel
theorem dX11_init_94 : decode cX11_init 94 = .ok (.newarray .int, 2) := by decide +kernel
theorem dX11_init_96 : decode cX11_init 96 = .ok (.putfield 41, 3) := by decide +kernel
theorem dX11_init_99 : decode cX11_init 99 = .ok (.aload_n 0, 1) := by decide +kernel
theorem dX11_init_100 : decode cX11_init 100 = .ok (.sipush 1203, 3) := by decide +kernel
theorem dX11_init_103 : decode cX11_init 103 = .ok (.newarray .int, 2) := by decide +kernel
theorem dX11_init_105 : decode cX11_init 105 = .ok (.putfield 44, 3) := by decide +kernel
theorem dX11_init_108 : decode cX11_init 108 = .ok (.aload_n 0, 1) := by decide +kernel
theorem dX11_init_109 : decode cX11_init 109 = .ok (.ldc 47, 2) := by decide +kernel
theorem dX11_init_111 : decode cX11_init 111 = .ok (.newarray .long, 2) := by decide +kernel
theorem dX11_init_113 : decode cX11_init 113 = .ok (.putfield 48, 3) := by decide +kernel
theorem dX11_init_116 : decode cX11_init 116 = .ok (.aload_n 0, 1) := by decide +kernel
theorem dX11_init_117 : decode cX11_init 117 = .ok (.bipush 44, 2) := by decide +kernel
theorem dX11_init_119 : decode cX11_init 119 = .ok (.newarray .long, 2) := by decide +kernel
theorem dX11_init_121 : decode cX11_init 121 = .ok (.putfield 52, 3) := by decide +kernel
theorem dX11_init_124 : decode cX11_init 124 = .ok (.aload_n 0, 1) := by decide +kernel
theorem dX11_init_125 : decode cX11_init 125 = .ok (.bipush 44, 2) := by decide +kernel
theorem dX11_init_127 : decode cX11_init 127 = .ok (.newarray .int, 2) := by decide +kernel
theorem dX11_init_129 : decode cX11_init 129 = .ok (.putfield 55, 3) := by decide +kernel
theorem dX11_init_132 : decode cX11_init 132 = .ok (.aload_n 0, 1) := by decide +kernel
theorem dX11_init_133 : decode cX11_init 133 = .ok (.bipush 44, 2) := by decide +kernel
theorem dX11_init_135 : decode cX11_init 135 = .ok (.newarray .int, 2) := by decide +kernel
theorem dX11_init_137 : decode cX11_init 137 = .ok (.putfield 58, 3) := by decide +kernel
theorem dX11_init_140 : decode cX11_init 140 = .ok (.aload_n 0, 1) := by decide +kernel
theorem dX11_init_141 : decode cX11_init 141 = .ok (.iconst 4, 1) := by decide +kernel
theorem dX11_init_142 : decode cX11_init 142 = .ok (.newarray .int, 2) := by decide +kernel
theorem dX11_init_144 : decode cX11_init 144 = .ok (.putfield 61, 3) := by decide +kernel
theorem dX11_init_147 : decode cX11_init 147 = .ok (.aload_n 0, 1) := by decide +kernel
theorem dX11_init_148 : decode cX11_init 148 = .ok (.bipush 8, 2) := by decide +kernel
theorem dX11_init_150 : decode cX11_init 150 = .ok (.newarray .long, 2) := by decide +kernel
theorem dX11_init_152 : decode cX11_init 152 = .ok (.putfield 64, 3) := by decide +kernel
theorem dX11_init_155 : decode cX11_init 155 = .ok (.aload_n 0, 1) := by decide +kernel
theorem dX11_init_156 : decode cX11_init 156 = .ok (.bipush 48, 2) := by decide +kernel
theorem dX11_init_158 : decode cX11_init 158 = .ok (.newarray .int, 2) := by decide +kernel
theorem dX11_init_160 : decode cX11_init 160 = .ok (.putfield 67, 3) := by decide +kernel
theorem dX11_init_163 : decode cX11_init 163 = .ok (.aload_n 0, 1) := by decide +kernel
theorem dX11_init_164 : decode cX11_init 164 = .ok (.bipush 12, 2) := by decide +kernel
theorem dX11_init_166 : decode cX11_init 166 = .ok (.newarray .int, 2) := by decide +kernel
theorem dX11_init_168 : decode cX11_init 168 = .ok (.putfield 70, 3) := by decide +kernel
theorem dX11_init_171 : decode cX11_init 171 = .ok (.aload_n 0, 1) := by decide +kernel
theorem dX11_init_172 : decode cX11_init 172 = .ok (.iconst (-1), 1) := by decide +kernel
theorem dX11_init_173 : decode cX11_init 173 = .ok (.putfield 73, 3) := by decide +kernel
theorem dX11_init_176 : decode cX11_init 176 = .ok (.aload_n 0, 1) := by decide +kernel
theorem dX11_init_177 : decode cX11_init 177 = .ok (.bipush 120, 2) := by decide +kernel
theorem dX11_init_179 : decode cX11_init 179 = .ok (.newarray .int, 2) := by decide +kernel
theorem dX11_init_181 : decode cX11_init 181 = .ok (.putfield 76, 3) := by decide +kernel
theorem dX11_init_184 : decode cX11_init 184 = .ok (.aload_n 0, 1) := by decide +kernel
theorem dX11_init_185 : decode cX11_init 185 = .ok (.sipush 960, 3) := by decide +kernel
theorem dX11_init_188 : decode cX11_init 188 = .ok (.newarray .long, 2) := by decide +kernel
theorem dX11_init_190 : decode cX11_init 190 = .ok (.putfield 79, 3) := by decide +kernel
theorem dX11_init_193 : decode cX11_init 193 = .ok (.aload_n 0, 1) := by decide +kernel
theorem dX11_init_194 : decode cX11_init 194 = .ok (.bipush 8, 2) := by decide +kernel
theorem dX11_init_196 : decode cX11_init 196 = .ok (.newarray .long, 2) := by decide +kernel
theorem dX11_init_198 : decode cX11_init 198 = .ok (.putfield 82, 3) := by decide +kernel
theorem dX11_init_201 : decode cX11_init 201 = .ok (.aload_n 0, 1) := by decide +kernel
theorem dX11_init_202 : decode cX11_init 202 = .ok (.bipush 120, 2) := by decide +kernel
theorem dX11_init_204 : decode cX11_init 204 = .ok (.newarray .int, 2) := by decide +kernel
theorem dX11_init_206 : decode cX11_init 206 = .ok (.putfield 85, 3) := by decide +kernel
theorem dX11_init_209 : decode cX11_init 209 = .ok (.aload_n 0, 1) := by decide +kernel
theorem dX11_init_210 : decode cX11_init 210 = .ok (.sipush 960, 3) := by decide +kernel
theorem dX11_init_213 : decode cX11_init 213 = .ok (.newarray .long, 2) := by decide +kernel
theorem dX11_init_215 : decode cX11_init 215 = .ok (.putfield 88, 3) := by decide +kernel
theorem dX11_init_218 : decode cX11_init 218 = .ok (.return_, 1) := by decide +kernel
theorem dX11_thrown_0 : decode cX11_thrown 0 = .ok (.aload_n 0, 1) := by decide +kernel
theorem dX11_thrown_1 : decode cX11_thrown 1 = .ok (.getfield 91, 3) := by decide +kernel
theorem dX11_thrown_4 : decode cX11_thrown 4 = .ok (.ireturn, 1) := by decide +kernel
theorem dX11_no_0 : decode cX11_no 0 = .ok (.aload_n 0, 1) := by decide +kernel
theorem dX11_no_1 : decode cX11_no 1 = .ok (.iload_n 1, 1) := by decide +kernel
theorem dX11_no_2 : decode cX11_no 2 = .ok (.putfield 91, 3) := by decide +kernel
theorem dX11_no_5 : decode cX11_no 5 = .ok (.iconst 0, 1) := by decide +kernel
theorem dX11_no_6 : decode cX11_no 6 = .ok (.ireturn, 1) := by decide +kernel
theorem dX11_isIn_0 : decode cX11_isIn 0 = .ok (.iload_n 0, 1) := by decide +kernel
theorem dX11_isIn_1 : decode cX11_isIn 1 = .ok (.iload_n 1, 1) := by decide +kernel
theorem dX11_isIn_2 : decode cX11_isIn 2 = .ok (.if_icmp .lt 12, 3) := by decide +kernel
theorem dX11_isIn_5 : decode cX11_isIn 5 = .ok (.iload_n 0, 1) := by decide +kernel
theorem dX11_isIn_6 : decode cX11_isIn 6 = .ok (.iload_n 2, 1) := by decide +kernel
theorem dX11_isIn_7 : decode cX11_isIn 7 = .ok (.if_icmp .gt 7, 3) := by decide +kernel
theorem dX11_isIn_10 : decode cX11_isIn 10 = .ok (.iconst 1, 1) := by decide +kernel
theorem dX11_isIn_11 : decode cX11_isIn 11 = .ok (.goto 4, 3) := by decide +kernel
theorem dX11_isIn_14 : decode cX11_isIn 14 = .ok (.iconst 0, 1) := by decide +kernel
theorem dX11_isIn_15 : decode cX11_isIn 15 = .ok (.ireturn, 1) := by decide +kernel
theorem dX11_feed_0 : decode cX11_feed 0 = .ok (.aload_n 0, 1) := by decide +kernel
theorem dX11_feed_1 : decode cX11_feed 1 = .ok (.iconst 0, 1) := by decide +kernel
theorem dX11_feed_2 : decode cX11_feed 2 = .ok (.putfield 91, 3) := by decide +kernel
theorem dX11_feed_5 : decode cX11_feed 5 = .ok (.aload_n 0, 1) := by decide +kernel
theorem dX11_feed_6 : decode cX11_feed 6 = .ok (.getfield 94, 3) := by decide +kernel
theorem dX11_feed_9 : decode cX11_feed 9 = .ok (.bipush 20, 2) := by decide +kernel
theorem dX11_feed_11 : decode cX11_feed 11 = .ok (.iadd, 1) := by decide +kernel
theorem dX11_feed_12 : decode cX11_feed 12 = .ok (.sipush 1800, 3) := by decide +kernel
theorem dX11_feed_15 : decode cX11_feed 15 = .ok (.if_icmp .le 9, 3) := by decide +kernel
theorem dX11_feed_18 : decode cX11_feed 18 = .ok (.aload_n 0, 1) := by decide +kernel
theorem dX11_feed_19 : decode cX11_feed 19 = .ok (.iconst 1, 1) := by decide +kernel
theorem dX11_feed_20 : decode cX11_feed 20 = .ok (.invokevirtual 97, 3) := by decide +kernel
theorem dX11_feed_23 : decode cX11_feed 23 = .ok (.ireturn, 1) := by decide +kernel
theorem dX11_feed_24 : decode cX11_feed 24 = .ok (.iconst 5, 1) := by decide +kernel
theorem dX11_feed_25 : decode cX11_feed 25 = .ok (.newarray .int, 2) := by decide +kernel
theorem dX11_feed_27 : decode cX11_feed 27 = .ok (.dup, 1) := by decide +kernel
theorem dX11_feed_28 : decode cX11_feed 28 = .ok (.iconst 0, 1) := by decide +kernel
theorem dX11_feed_29 : decode cX11_feed 29 = .ok (.iload_n 1, 1) := by decide +kernel
theorem dX11_feed_30 : decode cX11_feed 30 = .ok (.iastore, 1) := by decide +kernel
theorem dX11_feed_31 : decode cX11_feed 31 = .ok (.dup, 1) := by decide +kernel
theorem dX11_feed_32 : decode cX11_feed 32 = .ok (.iconst 1, 1) := by decide +kernel
theorem dX11_feed_33 : decode cX11_feed 33 = .ok (.iload_n 2, 1) := by decide +kernel
theorem dX11_feed_34 : decode cX11_feed 34 = .ok (.iastore, 1) := by decide +kernel
theorem dX11_feed_35 : decode cX11_feed 35 = .ok (.dup, 1) := by decide +kernel
theorem dX11_feed_36 : decode cX11_feed 36 = .ok (.iconst 2, 1) := by decide +kernel
theorem dX11_feed_37 : decode cX11_feed 37 = .ok (.iload_n 3, 1) := by decide +kernel
theorem dX11_feed_38 : decode cX11_feed 38 = .ok (.iastore, 1) := by decide +kernel
theorem dX11_feed_39 : decode cX11_feed 39 = .ok (.dup, 1) := by decide +kernel
theorem dX11_feed_40 : decode cX11_feed 40 = .ok (.iconst 3, 1) := by decide +kernel
theorem dX11_feed_41 : decode cX11_feed 41 = .ok (.iload 4, 2) := by decide +kernel
theorem dX11_feed_43 : decode cX11_feed 43 = .ok (.iastore, 1) := by decide +kernel
theorem dX11_feed_44 : decode cX11_feed 44 = .ok (.dup, 1) := by decide +kernel
theorem dX11_feed_45 : decode cX11_feed 45 = .ok (.iconst 4, 1) := by decide +kernel
theorem dX11_feed_46 : decode cX11_feed 46 = .ok (.iload 5, 2) := by decide +kernel
theorem dX11_feed_48 : decode cX11_feed 48 = .ok (.iastore, 1) := by decide +kernel
theorem dX11_feed_49 : decode cX11_feed 49 = .ok (.astore 6, 2) := by decide +kernel
theorem dX11_feed_51 : decode cX11_feed 51 = .ok (.aload 6, 2) := by decide +kernel
theorem dX11_feed_53 : decode cX11_feed 53 = .ok (.astore 7, 2) := by decide +kernel
theorem dX11_feed_55 : decode cX11_feed 55 = .ok (.aload 7, 2) := by decide +kernel
theorem dX11_feed_57 : decode cX11_feed 57 = .ok (.arraylength, 1) := by decide +kernel
theorem dX11_feed_58 : decode cX11_feed 58 = .ok (.istore 8, 2) := by decide +kernel
theorem dX11_feed_60 : decode cX11_feed 60 = .ok (.iconst 0, 1) := by decide +kernel
theorem dX11_feed_61 : decode cX11_feed 61 = .ok (.istore 9, 2) := by decide +kernel
theorem dX11_feed_63 : decode cX11_feed 63 = .ok (.iload 9, 2) := by decide +kernel
theorem dX11_feed_65 : decode cX11_feed 65 = .ok (.iload 8, 2) := by decide +kernel
theorem dX11_feed_67 : decode cX11_feed 67 = .ok (.if_icmp .ge 61, 3) := by decide +kernel
theorem dX11_feed_70 : decode cX11_feed 70 = .ok (.aload 7, 2) := by decide +kernel
theorem dX11_feed_72 : decode cX11_feed 72 = .ok (.iload 9, 2) := by decide +kernel
theorem dX11_feed_74 : decode cX11_feed 74 = .ok (.iaload, 1) := by decide +kernel
theorem dX11_feed_75 : decode cX11_feed 75 = .ok (.istore 10, 2) := by decide +kernel
theorem dX11_feed_77 : decode cX11_feed 77 = .ok (.iconst 3, 1) := by decide +kernel
theorem dX11_feed_78 : decode cX11_feed 78 = .ok (.istore 11, 2) := by decide +kernel
theorem dX11_feed_80 : decode cX11_feed 80 = .ok (.iload 11, 2) := by decide +kernel
theorem dX11_feed_82 : decode cX11_feed 82 = .ok (.ifCond .lt 40, 3) := by decide +kernel
theorem dX11_feed_85 : decode cX11_feed 85 = .ok (.aload_n 0, 1) := by decide +kernel
theorem dX11_feed_86 : decode cX11_feed 86 = .ok (.getfield 9, 3) := by decide +kernel
theorem dX11_feed_89 : decode cX11_feed 89 = .ok (.aload_n 0, 1) := by decide +kernel
theorem dX11_feed_90 : decode cX11_feed 90 = .ok (.getfield 94, 3) := by decide +kernel
theorem dX11_feed_93 : decode cX11_feed 93 = .ok (.iload 10, 2) := by decide +kernel
theorem dX11_feed_95 : decode cX11_feed 95 = .ok (.bipush 8, 2) := by decide +kernel
theorem dX11_feed_97 : decode cX11_feed 97 = .ok (.iload 11, 2) := by decide +kernel
theorem dX11_feed_99 : decode cX11_feed 99 = .ok (.imul, 1) := by decide +kernel
theorem dX11_feed_100 : decode cX11_feed 100 = .ok (.ishr, 1) := by decide +kernel
theorem dX11_feed_101 : decode cX11_feed 101 = .ok (.sipush 255, 3) := by decide +kernel
theorem dX11_feed_104 : decode cX11_feed 104 = .ok (.iand, 1) := by decide +kernel
theorem dX11_feed_105 : decode cX11_feed 105 = .ok (.iastore, 1) := by decide +kernel
theorem dX11_feed_106 : decode cX11_feed 106 = .ok (.aload_n 0, 1) := by decide +kernel
theorem dX11_feed_107 : decode cX11_feed 107 = .ok (.dup, 1) := by decide +kernel
theorem dX11_feed_108 : decode cX11_feed 108 = .ok (.getfield 94, 3) := by decide +kernel
theorem dX11_feed_111 : decode cX11_feed 111 = .ok (.iconst 1, 1) := by decide +kernel
theorem dX11_feed_112 : decode cX11_feed 112 = .ok (.iadd, 1) := by decide +kernel
theorem dX11_feed_113 : decode cX11_feed 113 = .ok (.putfield 94, 3) := by decide +kernel
theorem dX11_feed_116 : decode cX11_feed 116 = .ok (.iinc 11 (-1), 3) := by decide +kernel
theorem dX11_feed_119 : decode cX11_feed 119 = .ok (.goto (-39), 3) := by decide +kernel
theorem dX11_feed_122 : decode cX11_feed 122 = .ok (.iinc 9 1, 3) := by decide +kernel
theorem dX11_feed_125 : decode cX11_feed 125 = .ok (.goto (-62), 3) := by decide +kernel
theorem dX11_feed_128 : decode cX11_feed 128 = .ok (.aload_n 0, 1) := by decide +kernel
theorem dX11_feed_129 : decode cX11_feed 129 = .ok (.getfield 94, 3) := by decide +kernel
theorem dX11_feed_132 : decode cX11_feed 132 = .ok (.ireturn, 1) := by decide +kernel
theorem dX11_trim_0 : decode cX11_trim 0 = .ok (.aload_n 0, 1) := by decide +kernel
theorem dX11_trim_1 : decode cX11_trim 1 = .ok (.iconst 0, 1) := by decide +kernel
theorem dX11_trim_2 : decode cX11_trim 2 = .ok (.putfield 91, 3) := by decide +kernel
theorem dX11_trim_5 : decode cX11_trim 5 = .ok (.iload_n 1, 1) := by decide +kernel
theorem dX11_trim_6 : decode cX11_trim 6 = .ok (.iconst 0, 1) := by decide +kernel
theorem dX11_trim_7 : decode cX11_trim 7 = .ok (.aload_n 0, 1) := by decide +kernel
theorem dX11_trim_8 : decode cX11_trim 8 = .ok (.getfield 94, 3) := by decide +kernel
theorem dX11_trim_11 : decode cX11_trim 11 = .ok (.invokestatic 101, 3) := by decide +kernel
theorem dX11_trim_14 : decode cX11_trim 14 = .ok (.ifCond .ne 9, 3) := by decide +kernel
theorem dX11_trim_17 : decode cX11_trim 17 = .ok (.aload_n 0, 1) := by decide +kernel
theorem dX11_trim_18 : decode cX11_trim 18 = .ok (.iconst 1, 1) := by decide +kernel
theorem dX11_trim_19 : decode cX11_trim 19 = .ok (.invokevirtual 97, 3) := by decide +kernel
theorem dX11_trim_22 : decode cX11_trim 22 = .ok (.ireturn, 1) := by decide +kernel
theorem dX11_trim_23 : decode cX11_trim 23 = .ok (.aload_n 0, 1) := by decide +kernel
theorem dX11_trim_24 : decode cX11_trim 24 = .ok (.iload_n 1, 1) := by decide +kernel
theorem dX11_trim_25 : decode cX11_trim 25 = .ok (.putfield 94, 3) := by decide +kernel
theorem dX11_trim_28 : decode cX11_trim 28 = .ok (.iload_n 1, 1) := by decide +kernel
theorem dX11_trim_29 : decode cX11_trim 29 = .ok (.ireturn, 1) := by decide +kernel
theorem dX11_byteAt_0 : decode cX11_byteAt 0 = .ok (.iload_n 1, 1) := by decide +kernel
theorem dX11_byteAt_1 : decode cX11_byteAt 1 = .ok (.aload_n 0, 1) := by decide +kernel
theorem dX11_byteAt_2 : decode cX11_byteAt 2 = .ok (.getfield 94, 3) := by decide +kernel
theorem dX11_byteAt_5 : decode cX11_byteAt 5 = .ok (.if_icmp .ge 12, 3) := by decide +kernel
theorem dX11_byteAt_8 : decode cX11_byteAt 8 = .ok (.aload_n 0, 1) := by decide +kernel
theorem dX11_byteAt_9 : decode cX11_byteAt 9 = .ok (.getfield 9, 3) := by decide +kernel
theorem dX11_byteAt_12 : decode cX11_byteAt 12 = .ok (.iload_n 1, 1) := by decide +kernel
theorem dX11_byteAt_13 : decode cX11_byteAt 13 = .ok (.iaload, 1) := by decide +kernel
theorem dX11_byteAt_14 : decode cX11_byteAt 14 = .ok (.goto 4, 3) := by decide +kernel
theorem dX11_byteAt_17 : decode cX11_byteAt 17 = .ok (.iconst (-1), 1) := by decide +kernel
theorem dX11_byteAt_18 : decode cX11_byteAt 18 = .ok (.ireturn, 1) := by decide +kernel
theorem dX11_isLetter_0 : decode cX11_isLetter 0 = .ok (.iload_n 0, 1) := by decide +kernel
theorem dX11_isLetter_1 : decode cX11_isLetter 1 = .ok (.bipush 97, 2) := by decide +kernel
theorem dX11_isLetter_3 : decode cX11_isLetter 3 = .ok (.bipush 122, 2) := by decide +kernel
theorem dX11_isLetter_5 : decode cX11_isLetter 5 = .ok (.invokestatic 101, 3) := by decide +kernel
theorem dX11_isLetter_8 : decode cX11_isLetter 8 = .ok (.ireturn, 1) := by decide +kernel
theorem dX11_isDigit_0 : decode cX11_isDigit 0 = .ok (.iload_n 0, 1) := by decide +kernel
theorem dX11_isDigit_1 : decode cX11_isDigit 1 = .ok (.bipush 48, 2) := by decide +kernel
theorem dX11_isDigit_3 : decode cX11_isDigit 3 = .ok (.bipush 57, 2) := by decide +kernel
theorem dX11_isDigit_5 : decode cX11_isDigit 5 = .ok (.invokestatic 101, 3) := by decide +kernel
theorem dX11_isDigit_8 : decode cX11_isDigit 8 = .ok (.ireturn, 1) := by decide +kernel
theorem dX11_symbolAt_0 : decode cX11_symbolAt 0 = .ok (.aload_n 0, 1) := by decide +kernel
theorem dX11_symbolAt_1 : decode cX11_symbolAt 1 = .ok (.iload_n 1, 1) := by decide +kernel
theorem dX11_symbolAt_2 : decode cX11_symbolAt 2 = .ok (.invokevirtual 105, 3) := by decide +kernel
theorem dX11_symbolAt_5 : decode cX11_symbolAt 5 = .ok (.istore_n 2, 1) := by decide +kernel
theorem dX11_symbolAt_6 : decode cX11_symbolAt 6 = .ok (.aload_n 0, 1) := by decide +kernel
theorem dX11_symbolAt_7 : decode cX11_symbolAt 7 = .ok (.iload_n 1, 1) := by decide +kernel
theorem dX11_symbolAt_8 : decode cX11_symbolAt 8 = .ok (.iconst 1, 1) := by decide +kernel
theorem dX11_symbolAt_9 : decode cX11_symbolAt 9 = .ok (.iadd, 1) := by decide +kernel
theorem dX11_symbolAt_10 : decode cX11_symbolAt 10 = .ok (.invokevirtual 105, 3) := by decide +kernel
theorem dX11_symbolAt_13 : decode cX11_symbolAt 13 = .ok (.istore_n 3, 1) := by decide +kernel
theorem dX11_symbolAt_14 : decode cX11_symbolAt 14 = .ok (.iload_n 2, 1) := by decide +kernel
theorem dX11_symbolAt_15 : decode cX11_symbolAt 15 = .ok (.bipush 46, 2) := by decide +kernel
theorem dX11_symbolAt_17 : decode cX11_symbolAt 17 = .ok (.if_icmp .ne 15, 3) := by decide +kernel
theorem dX11_symbolAt_20 : decode cX11_symbolAt 20 = .ok (.iload_n 3, 1) := by decide +kernel
theorem dX11_symbolAt_21 : decode cX11_symbolAt 21 = .ok (.bipush 46, 2) := by decide +kernel
theorem dX11_symbolAt_23 : decode cX11_symbolAt 23 = .ok (.if_icmp .ne 7, 3) := by decide +kernel
theorem dX11_symbolAt_26 : decode cX11_symbolAt 26 = .ok (.iconst 2, 1) := by decide +kernel
theorem dX11_symbolAt_27 : decode cX11_symbolAt 27 = .ok (.goto 4, 3) := by decide +kernel
theorem dX11_symbolAt_30 : decode cX11_symbolAt 30 = .ok (.iconst 0, 1) := by decide +kernel
theorem dX11_symbolAt_31 : decode cX11_symbolAt 31 = .ok (.ireturn, 1) := by decide +kernel
theorem dX11_symbolAt_32 : decode cX11_symbolAt 32 = .ok (.iload_n 2, 1) := by decide +kernel
theorem dX11_symbolAt_33 : decode cX11_symbolAt 33 = .ok (.bipush 58, 2) := by decide +kernel
theorem dX11_symbolAt_35 : decode cX11_symbolAt 35 = .ok (.if_icmp .ne 9, 3) := by decide +kernel
theorem dX11_symbolAt_38 : decode cX11_symbolAt 38 = .ok (.iload_n 3, 1) := by decide +kernel
theorem dX11_symbolAt_39 : decode cX11_symbolAt 39 = .ok (.bipush 61, 2) := by decide +kernel
theorem dX11_symbolAt_41 : decode cX11_symbolAt 41 = .ok (.if_icmp .eq 33, 3) := by decide +kernel
theorem dX11_symbolAt_44 : decode cX11_symbolAt 44 = .ok (.iload_n 2, 1) := by decide +kernel
theorem dX11_symbolAt_45 : decode cX11_symbolAt 45 = .ok (.bipush 60, 2) := by decide +kernel
theorem dX11_symbolAt_47 : decode cX11_symbolAt 47 = .ok (.if_icmp .ne 15, 3) := by decide +kernel
theorem dX11_symbolAt_50 : decode cX11_symbolAt 50 = .ok (.iload_n 3, 1) := by decide +kernel
theorem dX11_symbolAt_51 : decode cX11_symbolAt 51 = .ok (.bipush 61, 2) := by decide +kernel
theorem dX11_symbolAt_53 : decode cX11_symbolAt 53 = .ok (.if_icmp .eq 21, 3) := by decide +kernel
theorem dX11_symbolAt_56 : decode cX11_symbolAt 56 = .ok (.iload_n 3, 1) := by decide +kernel
theorem dX11_symbolAt_57 : decode cX11_symbolAt 57 = .ok (.bipush 62, 2) := by decide +kernel
theorem dX11_symbolAt_59 : decode cX11_symbolAt 59 = .ok (.if_icmp .eq 15, 3) := by decide +kernel
theorem dX11_symbolAt_62 : decode cX11_symbolAt 62 = .ok (.iload_n 2, 1) := by decide +kernel
theorem dX11_symbolAt_63 : decode cX11_symbolAt 63 = .ok (.bipush 62, 2) := by decide +kernel
theorem dX11_symbolAt_65 : decode cX11_symbolAt 65 = .ok (.if_icmp .ne 13, 3) := by decide +kernel
theorem dX11_symbolAt_68 : decode cX11_symbolAt 68 = .ok (.iload_n 3, 1) := by decide +kernel
theorem dX11_symbolAt_69 : decode cX11_symbolAt 69 = .ok (.bipush 61, 2) := by decide +kernel
theorem dX11_symbolAt_71 : decode cX11_symbolAt 71 = .ok (.if_icmp .ne 7, 3) := by decide +kernel
theorem dX11_symbolAt_74 : decode cX11_symbolAt 74 = .ok (.iconst 1, 1) := by decide +kernel
theorem dX11_symbolAt_75 : decode cX11_symbolAt 75 = .ok (.goto 4, 3) := by decide +kernel
theorem dX11_symbolAt_78 : decode cX11_symbolAt 78 = .ok (.iconst 0, 1) := by decide +kernel
theorem dX11_symbolAt_79 : decode cX11_symbolAt 79 = .ok (.istore 4, 2) := by decide +kernel
theorem dX11_symbolAt_81 : decode cX11_symbolAt 81 = .ok (.iload 4, 2) := by decide +kernel
theorem dX11_symbolAt_83 : decode cX11_symbolAt 83 = .ok (.ifCond .eq 5, 3) := by decide +kernel
theorem dX11_symbolAt_86 : decode cX11_symbolAt 86 = .ok (.iconst 2, 1) := by decide +kernel
theorem dX11_symbolAt_87 : decode cX11_symbolAt 87 = .ok (.ireturn, 1) := by decide +kernel
theorem dX11_symbolAt_88 : decode cX11_symbolAt 88 = .ok (.iload_n 2, 1) := by decide +kernel
theorem dX11_symbolAt_89 : decode cX11_symbolAt 89 = .ok (.ifCond .le 16, 3) := by decide +kernel
theorem dX11_symbolAt_92 : decode cX11_symbolAt 92 = .ok (.ldc 108, 2) := by decide +kernel
theorem dX11_symbolAt_94 : decode cX11_symbolAt 94 = .ok (.iload_n 2, 1) := by decide +kernel
theorem dX11_symbolAt_95 : decode cX11_symbolAt 95 = .ok (.invokevirtual 110, 3) := by decide +kernel
theorem dX11_symbolAt_98 : decode cX11_symbolAt 98 = .ok (.ifCond .lt 7, 3) := by decide +kernel
theorem dX11_symbolAt_101 : decode cX11_symbolAt 101 = .ok (.iconst 1, 1) := by decide +kernel
theorem dX11_symbolAt_102 : decode cX11_symbolAt 102 = .ok (.goto 4, 3) := by decide +kernel
theorem dX11_symbolAt_105 : decode cX11_symbolAt 105 = .ok (.iconst 0, 1) := by decide +kernel
theorem dX11_symbolAt_106 : decode cX11_symbolAt 106 = .ok (.ireturn, 1) := by decide +kernel
theorem dX11_scan_0 : decode cX11_scan 0 = .ok (.iconst 0, 1) := by decide +kernel
theorem dX11_scan_1 : decode cX11_scan 1 = .ok (.istore_n 1, 1) := by decide +kernel
theorem dX11_scan_2 : decode cX11_scan 2 = .ok (.iconst 0, 1) := by decide +kernel
theorem dX11_scan_3 : decode cX11_scan 3 = .ok (.istore_n 2, 1) := by decide +kernel
theorem dX11_scan_4 : decode cX11_scan 4 = .ok (.iconst 1, 1) := by decide +kernel
theorem dX11_scan_5 : decode cX11_scan 5 = .ok (.istore_n 3, 1) := by decide +kernel
theorem dX11_scan_6 : decode cX11_scan 6 = .ok (.iload_n 3, 1) := by decide +kernel
theorem dX11_scan_7 : decode cX11_scan 7 = .ok (.ifCond .eq 223, 3) := by decide +kernel
theorem dX11_scan_10 : decode cX11_scan 10 = .ok (.aload_n 0, 1) := by decide +kernel
theorem dX11_scan_11 : decode cX11_scan 11 = .ok (.iload_n 2, 1) := by decide +kernel
theorem dX11_scan_12 : decode cX11_scan 12 = .ok (.invokevirtual 105, 3) := by decide +kernel
theorem dX11_scan_15 : decode cX11_scan 15 = .ok (.bipush 32, 2) := by decide +kernel
theorem dX11_scan_17 : decode cX11_scan 17 = .ok (.if_icmp .eq 13, 3) := by decide +kernel
theorem dX11_scan_20 : decode cX11_scan 20 = .ok (.aload_n 0, 1) := by decide +kernel
theorem dX11_scan_21 : decode cX11_scan 21 = .ok (.iload_n 2, 1) := by decide +kernel
theorem dX11_scan_22 : decode cX11_scan 22 = .ok (.invokevirtual 105, 3) := by decide +kernel
theorem dX11_scan_25 : decode cX11_scan 25 = .ok (.bipush 10, 2) := by decide +kernel
theorem dX11_scan_27 : decode cX11_scan 27 = .ok (.if_icmp .ne 9, 3) := by decide +kernel
theorem dX11_scan_30 : decode cX11_scan 30 = .ok (.iinc 2 1, 3) := by decide +kernel
theorem dX11_scan_33 : decode cX11_scan 33 = .ok (.goto (-23), 3) := by decide +kernel
theorem dX11_scan_36 : decode cX11_scan 36 = .ok (.iload_n 2, 1) := by decide +kernel
theorem dX11_scan_37 : decode cX11_scan 37 = .ok (.istore 4, 2) := by decide +kernel
theorem dX11_scan_39 : decode cX11_scan 39 = .ok (.iconst 0, 1) := by decide +kernel
theorem dX11_scan_40 : decode cX11_scan 40 = .ok (.istore 5, 2) := by decide +kernel
theorem dX11_scan_42 : decode cX11_scan 42 = .ok (.aload_n 0, 1) := by decide +kernel
theorem dX11_scan_43 : decode cX11_scan 43 = .ok (.iload_n 2, 1) := by decide +kernel
theorem dX11_scan_44 : decode cX11_scan 44 = .ok (.invokevirtual 105, 3) := by decide +kernel
theorem dX11_scan_47 : decode cX11_scan 47 = .ok (.invokestatic 115, 3) := by decide +kernel
theorem dX11_scan_50 : decode cX11_scan 50 = .ok (.ifCond .eq 52, 3) := by decide +kernel
theorem dX11_scan_53 : decode cX11_scan 53 = .ok (.aload_n 0, 1) := by decide +kernel
theorem dX11_scan_54 : decode cX11_scan 54 = .ok (.iload 4, 2) := by decide +kernel
theorem dX11_scan_56 : decode cX11_scan 56 = .ok (.invokevirtual 105, 3) := by decide +kernel
theorem dX11_scan_59 : decode cX11_scan 59 = .ok (.invokestatic 115, 3) := by decide +kernel
theorem dX11_scan_62 : decode cX11_scan 62 = .ok (.ifCond .ne 15, 3) := by decide +kernel
theorem dX11_scan_65 : decode cX11_scan 65 = .ok (.aload_n 0, 1) := by decide +kernel
theorem dX11_scan_66 : decode cX11_scan 66 = .ok (.iload 4, 2) := by decide +kernel
theorem dX11_scan_68 : decode cX11_scan 68 = .ok (.invokevirtual 105, 3) := by decide +kernel
theorem dX11_scan_71 : decode cX11_scan 71 = .ok (.invokestatic 119, 3) := by decide +kernel
theorem dX11_scan_74 : decode cX11_scan 74 = .ok (.ifCond .eq 9, 3) := by decide +kernel
theorem dX11_scan_77 : decode cX11_scan 77 = .ok (.iinc 4 1, 3) := by decide +kernel
theorem dX11_scan_80 : decode cX11_scan 80 = .ok (.goto (-27), 3) := by decide +kernel
theorem dX11_scan_83 : decode cX11_scan 83 = .ok (.iload 4, 2) := by decide +kernel
theorem dX11_scan_85 : decode cX11_scan 85 = .ok (.iload_n 2, 1) := by decide +kernel
theorem dX11_scan_86 : decode cX11_scan 86 = .ok (.isub, 1) := by decide +kernel
theorem dX11_scan_87 : decode cX11_scan 87 = .ok (.bipush 8, 2) := by decide +kernel
theorem dX11_scan_89 : decode cX11_scan 89 = .ok (.if_icmp .gt 7, 3) := by decide +kernel
theorem dX11_scan_92 : decode cX11_scan 92 = .ok (.iconst 1, 1) := by decide +kernel
theorem dX11_scan_93 : decode cX11_scan 93 = .ok (.goto 4, 3) := by decide +kernel
theorem dX11_scan_96 : decode cX11_scan 96 = .ok (.iconst 4, 1) := by decide +kernel
theorem dX11_scan_97 : decode cX11_scan 97 = .ok (.istore 5, 2) := by decide +kernel
theorem dX11_scan_99 : decode cX11_scan 99 = .ok (.goto 88, 3) := by decide +kernel
theorem dX11_scan_102 : decode cX11_scan 102 = .ok (.aload_n 0, 1) := by decide +kernel
theorem dX11_scan_103 : decode cX11_scan 103 = .ok (.iload_n 2, 1) := by decide +kernel
theorem dX11_scan_104 : decode cX11_scan 104 = .ok (.invokevirtual 105, 3) := by decide +kernel
theorem dX11_scan_107 : decode cX11_scan 107 = .ok (.invokestatic 119, 3) := by decide +kernel
theorem dX11_scan_110 : decode cX11_scan 110 = .ok (.ifCond .eq 40, 3) := by decide +kernel
theorem dX11_scan_113 : decode cX11_scan 113 = .ok (.aload_n 0, 1) := by decide +kernel
theorem dX11_scan_114 : decode cX11_scan 114 = .ok (.iload 4, 2) := by decide +kernel
theorem dX11_scan_116 : decode cX11_scan 116 = .ok (.invokevirtual 105, 3) := by decide +kernel
theorem dX11_scan_119 : decode cX11_scan 119 = .ok (.invokestatic 119, 3) := by decide +kernel
theorem dX11_scan_122 : decode cX11_scan 122 = .ok (.ifCond .eq 9, 3) := by decide +kernel
theorem dX11_scan_125 : decode cX11_scan 125 = .ok (.iinc 4 1, 3) := by decide +kernel
theorem dX11_scan_128 : decode cX11_scan 128 = .ok (.goto (-15), 3) := by decide +kernel
theorem dX11_scan_131 : decode cX11_scan 131 = .ok (.iload 4, 2) := by decide +kernel
theorem dX11_scan_133 : decode cX11_scan 133 = .ok (.iload_n 2, 1) := by decide +kernel
theorem dX11_scan_134 : decode cX11_scan 134 = .ok (.isub, 1) := by decide +kernel
theorem dX11_scan_135 : decode cX11_scan 135 = .ok (.bipush 6, 2) := by decide +kernel
theorem dX11_scan_137 : decode cX11_scan 137 = .ok (.if_icmp .gt 7, 3) := by decide +kernel
theorem dX11_scan_140 : decode cX11_scan 140 = .ok (.iconst 2, 1) := by decide +kernel
theorem dX11_scan_141 : decode cX11_scan 141 = .ok (.goto 4, 3) := by decide +kernel
theorem dX11_scan_144 : decode cX11_scan 144 = .ok (.iconst 4, 1) := by decide +kernel
theorem dX11_scan_145 : decode cX11_scan 145 = .ok (.istore 5, 2) := by decide +kernel
theorem dX11_scan_147 : decode cX11_scan 147 = .ok (.goto 40, 3) := by decide +kernel
theorem dX11_scan_150 : decode cX11_scan 150 = .ok (.iload_n 2, 1) := by decide +kernel
theorem dX11_scan_151 : decode cX11_scan 151 = .ok (.aload_n 0, 1) := by decide +kernel
theorem dX11_scan_152 : decode cX11_scan 152 = .ok (.getfield 94, 3) := by decide +kernel
theorem dX11_scan_155 : decode cX11_scan 155 = .ok (.if_icmp .ge 32, 3) := by decide +kernel
theorem dX11_scan_158 : decode cX11_scan 158 = .ok (.iload 4, 2) := by decide +kernel
theorem dX11_scan_160 : decode cX11_scan 160 = .ok (.iconst 1, 1) := by decide +kernel
theorem dX11_scan_161 : decode cX11_scan 161 = .ok (.aload_n 0, 1) := by decide +kernel
theorem dX11_scan_162 : decode cX11_scan 162 = .ok (.iload_n 2, 1) := by decide +kernel
theorem dX11_scan_163 : decode cX11_scan 163 = .ok (.invokevirtual 122, 3) := by decide +kernel
theorem dX11_scan_166 : decode cX11_scan 166 = .ok (.invokestatic 125, 3) := by decide +kernel
theorem dX11_scan_169 : decode cX11_scan 169 = .ok (.iadd, 1) := by decide +kernel
theorem dX11_scan_170 : decode cX11_scan 170 = .ok (.istore 4, 2) := by decide +kernel
theorem dX11_scan_172 : decode cX11_scan 172 = .ok (.aload_n 0, 1) := by decide +kernel
theorem dX11_scan_173 : decode cX11_scan 173 = .ok (.iload_n 2, 1) := by decide +kernel
theorem dX11_scan_174 : decode cX11_scan 174 = .ok (.invokevirtual 122, 3) := by decide +kernel
theorem dX11_scan_177 : decode cX11_scan 177 = .ok (.ifCond .le 7, 3) := by decide +kernel
theorem dX11_scan_180 : decode cX11_scan 180 = .ok (.iconst 3, 1) := by decide +kernel
theorem dX11_scan_181 : decode cX11_scan 181 = .ok (.goto 4, 3) := by decide +kernel
theorem dX11_scan_184 : decode cX11_scan 184 = .ok (.iconst 4, 1) := by decide +kernel
theorem dX11_scan_185 : decode cX11_scan 185 = .ok (.istore 5, 2) := by decide +kernel
theorem dX11_scan_187 : decode cX11_scan 187 = .ok (.aload_n 0, 1) := by decide +kernel
theorem dX11_scan_188 : decode cX11_scan 188 = .ok (.getfield 17, 3) := by decide +kernel
theorem dX11_scan_191 : decode cX11_scan 191 = .ok (.iload_n 1, 1) := by decide +kernel
theorem dX11_scan_192 : decode cX11_scan 192 = .ok (.iload 5, 2) := by decide +kernel
theorem dX11_scan_194 : decode cX11_scan 194 = .ok (.iastore, 1) := by decide +kernel
theorem dX11_scan_195 : decode cX11_scan 195 = .ok (.aload_n 0, 1) := by decide +kernel
theorem dX11_scan_196 : decode cX11_scan 196 = .ok (.getfield 20, 3) := by decide +kernel
theorem dX11_scan_199 : decode cX11_scan 199 = .ok (.iload_n 1, 1) := by decide +kernel
theorem dX11_scan_200 : decode cX11_scan 200 = .ok (.iload_n 2, 1) := by decide +kernel
theorem dX11_scan_201 : decode cX11_scan 201 = .ok (.iastore, 1) := by decide +kernel
theorem dX11_scan_202 : decode cX11_scan 202 = .ok (.aload_n 0, 1) := by decide +kernel
theorem dX11_scan_203 : decode cX11_scan 203 = .ok (.getfield 23, 3) := by decide +kernel
theorem dX11_scan_206 : decode cX11_scan 206 = .ok (.iload_n 1, 1) := by decide +kernel
theorem dX11_scan_207 : decode cX11_scan 207 = .ok (.iload 4, 2) := by decide +kernel
theorem dX11_scan_209 : decode cX11_scan 209 = .ok (.iastore, 1) := by decide +kernel
theorem dX11_scan_210 : decode cX11_scan 210 = .ok (.iinc 1 1, 3) := by decide +kernel
theorem dX11_scan_213 : decode cX11_scan 213 = .ok (.iload 4, 2) := by decide +kernel
theorem dX11_scan_215 : decode cX11_scan 215 = .ok (.istore_n 2, 1) := by decide +kernel
theorem dX11_scan_216 : decode cX11_scan 216 = .ok (.iload 5, 2) := by decide +kernel
theorem dX11_scan_218 : decode cX11_scan 218 = .ok (.ifCond .eq 7, 3) := by decide +kernel
theorem dX11_scan_221 : decode cX11_scan 221 = .ok (.iconst 1, 1) := by decide +kernel
theorem dX11_scan_222 : decode cX11_scan 222 = .ok (.goto 4, 3) := by decide +kernel
theorem dX11_scan_225 : decode cX11_scan 225 = .ok (.iconst 0, 1) := by decide +kernel
theorem dX11_scan_226 : decode cX11_scan 226 = .ok (.istore_n 3, 1) := by decide +kernel
theorem dX11_scan_227 : decode cX11_scan 227 = .ok (.goto (-221), 3) := by decide +kernel
theorem dX11_scan_230 : decode cX11_scan 230 = .ok (.return_, 1) := by decide +kernel
theorem dX11_is_0 : decode cX11_is 0 = .ok (.aload_n 0, 1) := by decide +kernel
theorem dX11_is_1 : decode cX11_is 1 = .ok (.getfield 17, 3) := by decide +kernel
theorem dX11_is_4 : decode cX11_is 4 = .ok (.iload_n 1, 1) := by decide +kernel
theorem dX11_is_5 : decode cX11_is 5 = .ok (.iaload, 1) := by decide +kernel
theorem dX11_is_6 : decode cX11_is 6 = .ok (.iconst 1, 1) := by decide +kernel
theorem dX11_is_7 : decode cX11_is 7 = .ok (.if_icmp .eq 13, 3) := by decide +kernel
theorem dX11_is_10 : decode cX11_is 10 = .ok (.aload_n 0, 1) := by decide +kernel
theorem dX11_is_11 : decode cX11_is 11 = .ok (.getfield 17, 3) := by decide +kernel
theorem dX11_is_14 : decode cX11_is 14 = .ok (.iload_n 1, 1) := by decide +kernel
theorem dX11_is_15 : decode cX11_is 15 = .ok (.iaload, 1) := by decide +kernel
theorem dX11_is_16 : decode cX11_is 16 = .ok (.iconst 3, 1) := by decide +kernel
theorem dX11_is_17 : decode cX11_is 17 = .ok (.if_icmp .ne 27, 3) := by decide +kernel
theorem dX11_is_20 : decode cX11_is 20 = .ok (.aload_n 0, 1) := by decide +kernel
theorem dX11_is_21 : decode cX11_is 21 = .ok (.getfield 23, 3) := by decide +kernel
theorem dX11_is_24 : decode cX11_is 24 = .ok (.iload_n 1, 1) := by decide +kernel
theorem dX11_is_25 : decode cX11_is 25 = .ok (.iaload, 1) := by decide +kernel
theorem dX11_is_26 : decode cX11_is 26 = .ok (.aload_n 0, 1) := by decide +kernel
theorem dX11_is_27 : decode cX11_is 27 = .ok (.getfield 20, 3) := by decide +kernel
theorem dX11_is_30 : decode cX11_is 30 = .ok (.iload_n 1, 1) := by decide +kernel
theorem dX11_is_31 : decode cX11_is 31 = .ok (.iaload, 1) := by decide +kernel
theorem dX11_is_32 : decode cX11_is 32 = .ok (.isub, 1) := by decide +kernel
theorem dX11_is_33 : decode cX11_is 33 = .ok (.aload_n 2, 1) := by decide +kernel
theorem dX11_is_34 : decode cX11_is 34 = .ok (.invokevirtual 131, 3) := by decide +kernel
theorem dX11_is_37 : decode cX11_is 37 = .ok (.if_icmp .ne 7, 3) := by decide +kernel
theorem dX11_is_40 : decode cX11_is 40 = .ok (.iconst 1, 1) := by decide +kernel
theorem dX11_is_41 : decode cX11_is 41 = .ok (.goto 4, 3) := by decide +kernel
theorem dX11_is_44 : decode cX11_is 44 = .ok (.iconst 0, 1) := by decide +kernel
theorem dX11_is_45 : decode cX11_is 45 = .ok (.istore_n 3, 1) := by decide +kernel
theorem dX11_is_46 : decode cX11_is 46 = .ok (.iconst 0, 1) := by decide +kernel
theorem dX11_is_47 : decode cX11_is 47 = .ok (.istore 4, 2) := by decide +kernel
theorem dX11_is_49 : decode cX11_is 49 = .ok (.iload 4, 2) := by decide +kernel
theorem dX11_is_51 : decode cX11_is 51 = .ok (.aload_n 2, 1) := by decide +kernel
theorem dX11_is_52 : decode cX11_is 52 = .ok (.invokevirtual 131, 3) := by decide +kernel
theorem dX11_is_55 : decode cX11_is 55 = .ok (.if_icmp .ge 42, 3) := by decide +kernel
theorem dX11_is_58 : decode cX11_is 58 = .ok (.iload_n 3, 1) := by decide +kernel
theorem dX11_is_59 : decode cX11_is 59 = .ok (.ifCond .eq 38, 3) := by decide +kernel
theorem dX11_is_62 : decode cX11_is 62 = .ok (.aload_n 0, 1) := by decide +kernel
theorem dX11_is_63 : decode cX11_is 63 = .ok (.getfield 9, 3) := by decide +kernel
theorem dX11_is_66 : decode cX11_is 66 = .ok (.aload_n 0, 1) := by decide +kernel
theorem dX11_is_67 : decode cX11_is 67 = .ok (.getfield 20, 3) := by decide +kernel
theorem dX11_is_70 : decode cX11_is 70 = .ok (.iload_n 1, 1) := by decide +kernel
theorem dX11_is_71 : decode cX11_is 71 = .ok (.iaload, 1) := by decide +kernel
theorem dX11_is_72 : decode cX11_is 72 = .ok (.iload 4, 2) := by decide +kernel
theorem dX11_is_74 : decode cX11_is 74 = .ok (.iadd, 1) := by decide +kernel
theorem dX11_is_75 : decode cX11_is 75 = .ok (.iaload, 1) := by decide +kernel
theorem dX11_is_76 : decode cX11_is 76 = .ok (.aload_n 2, 1) := by decide +kernel
theorem dX11_is_77 : decode cX11_is 77 = .ok (.iload 4, 2) := by decide +kernel
theorem dX11_is_79 : decode cX11_is 79 = .ok (.invokevirtual 134, 3) := by decide +kernel
theorem dX11_is_82 : decode cX11_is 82 = .ok (.if_icmp .ne 7, 3) := by decide +kernel
theorem dX11_is_85 : decode cX11_is 85 = .ok (.iconst 1, 1) := by decide +kernel
theorem dX11_is_86 : decode cX11_is 86 = .ok (.goto 4, 3) := by decide +kernel
theorem dX11_is_89 : decode cX11_is 89 = .ok (.iconst 0, 1) := by decide +kernel
theorem dX11_is_90 : decode cX11_is 90 = .ok (.istore_n 3, 1) := by decide +kernel
theorem dX11_is_91 : decode cX11_is 91 = .ok (.iinc 4 1, 3) := by decide +kernel
theorem dX11_is_94 : decode cX11_is 94 = .ok (.goto (-45), 3) := by decide +kernel
theorem dX11_is_97 : decode cX11_is 97 = .ok (.iload_n 3, 1) := by decide +kernel
theorem dX11_is_98 : decode cX11_is 98 = .ok (.ireturn, 1) := by decide +kernel
theorem dX11_which_0 : decode cX11_which 0 = .ok (.iconst (-1), 1) := by decide +kernel
theorem dX11_which_1 : decode cX11_which 1 = .ok (.istore_n 3, 1) := by decide +kernel
theorem dX11_which_2 : decode cX11_which 2 = .ok (.iconst 0, 1) := by decide +kernel
theorem dX11_which_3 : decode cX11_which 3 = .ok (.istore 4, 2) := by decide +kernel
theorem dX11_which_5 : decode cX11_which 5 = .ok (.iload 4, 2) := by decide +kernel
theorem dX11_which_7 : decode cX11_which 7 = .ok (.aload_n 2, 1) := by decide +kernel
theorem dX11_which_8 : decode cX11_which 8 = .ok (.arraylength, 1) := by decide +kernel
theorem dX11_which_9 : decode cX11_which 9 = .ok (.if_icmp .ge 24, 3) := by decide +kernel
theorem dX11_which_12 : decode cX11_which 12 = .ok (.aload_n 0, 1) := by decide +kernel
theorem dX11_which_13 : decode cX11_which 13 = .ok (.iload_n 1, 1) := by decide +kernel
theorem dX11_which_14 : decode cX11_which 14 = .ok (.aload_n 2, 1) := by decide +kernel
theorem dX11_which_15 : decode cX11_which 15 = .ok (.iload 4, 2) := by decide +kernel
theorem dX11_which_17 : decode cX11_which 17 = .ok (.aaload, 1) := by decide +kernel
theorem dX11_which_18 : decode cX11_which 18 = .ok (.invokevirtual 138, 3) := by decide +kernel
theorem dX11_which_21 : decode cX11_which 21 = .ok (.ifCond .eq 6, 3) := by decide +kernel
theorem dX11_which_24 : decode cX11_which 24 = .ok (.iload 4, 2) := by decide +kernel
theorem dX11_which_26 : decode cX11_which 26 = .ok (.istore_n 3, 1) := by decide +kernel
theorem dX11_which_27 : decode cX11_which 27 = .ok (.iinc 4 1, 3) := by decide +kernel
theorem dX11_which_30 : decode cX11_which 30 = .ok (.goto (-25), 3) := by decide +kernel
theorem dX11_which_33 : decode cX11_which 33 = .ok (.iload_n 3, 1) := by decide +kernel
theorem dX11_which_34 : decode cX11_which 34 = .ok (.ireturn, 1) := by decide +kernel
theorem dX11_isName_0 : decode cX11_isName 0 = .ok (.aload_n 0, 1) := by decide +kernel
theorem dX11_isName_1 : decode cX11_isName 1 = .ok (.getfield 17, 3) := by decide +kernel
theorem dX11_isName_4 : decode cX11_isName 4 = .ok (.iload_n 1, 1) := by decide +kernel
theorem dX11_isName_5 : decode cX11_isName 5 = .ok (.iaload, 1) := by decide +kernel
theorem dX11_isName_6 : decode cX11_isName 6 = .ok (.iconst 1, 1) := by decide +kernel
theorem dX11_isName_7 : decode cX11_isName 7 = .ok (.if_icmp .ne 19, 3) := by decide +kernel
theorem dX11_isName_10 : decode cX11_isName 10 = .ok (.aload_n 0, 1) := by decide +kernel
theorem dX11_isName_11 : decode cX11_isName 11 = .ok (.iload_n 1, 1) := by decide +kernel
theorem dX11_isName_12 : decode cX11_isName 12 = .ok (.getstatic 142, 3) := by decide +kernel
theorem dX11_isName_15 : decode cX11_isName 15 = .ok (.invokevirtual 146, 3) := by decide +kernel
theorem dX11_isName_18 : decode cX11_isName 18 = .ok (.iconst (-1), 1) := by decide +kernel
theorem dX11_isName_19 : decode cX11_isName 19 = .ok (.if_icmp .ne 7, 3) := by decide +kernel
theorem dX11_isName_22 : decode cX11_isName 22 = .ok (.iconst 1, 1) := by decide +kernel
theorem dX11_isName_23 : decode cX11_isName 23 = .ok (.goto 4, 3) := by decide +kernel
theorem dX11_isName_26 : decode cX11_isName 26 = .ok (.iconst 0, 1) := by decide +kernel
theorem dX11_isName_27 : decode cX11_isName 27 = .ok (.ireturn, 1) := by decide +kernel
theorem dX11_nameOf_0 : decode cX11_nameOf 0 = .ok (.lconst 0, 1) := by decide +kernel
theorem dX11_nameOf_1 : decode cX11_nameOf 1 = .ok (.lstore_n 2, 1) := by decide +kernel
theorem dX11_nameOf_2 : decode cX11_nameOf 2 = .ok (.aload_n 0, 1) := by decide +kernel
theorem dX11_nameOf_3 : decode cX11_nameOf 3 = .ok (.getfield 20, 3) := by decide +kernel
theorem dX11_nameOf_6 : decode cX11_nameOf 6 = .ok (.iload_n 1, 1) := by decide +kernel
theorem dX11_nameOf_7 : decode cX11_nameOf 7 = .ok (.iaload, 1) := by decide +kernel
theorem dX11_nameOf_8 : decode cX11_nameOf 8 = .ok (.istore 4, 2) := by decide +kernel
theorem dX11_nameOf_10 : decode cX11_nameOf 10 = .ok (.iload 4, 2) := by decide +kernel
theorem dX11_nameOf_12 : decode cX11_nameOf 12 = .ok (.aload_n 0, 1) := by decide +kernel
theorem dX11_nameOf_13 : decode cX11_nameOf 13 = .ok (.getfield 23, 3) := by decide +kernel
theorem dX11_nameOf_16 : decode cX11_nameOf 16 = .ok (.iload_n 1, 1) := by decide +kernel
theorem dX11_nameOf_17 : decode cX11_nameOf 17 = .ok (.iaload, 1) := by decide +kernel
theorem dX11_nameOf_18 : decode cX11_nameOf 18 = .ok (.if_icmp .ge 53, 3) := by decide +kernel
theorem dX11_nameOf_21 : decode cX11_nameOf 21 = .ok (.ldc2_w 150, 3) := by decide +kernel
theorem dX11_nameOf_24 : decode cX11_nameOf 24 = .ok (.lload_n 2, 1) := by decide +kernel
theorem dX11_nameOf_25 : decode cX11_nameOf 25 = .ok (.lmul, 1) := by decide +kernel
theorem dX11_nameOf_26 : decode cX11_nameOf 26 = .ok (.aload_n 0, 1) := by decide +kernel
theorem dX11_nameOf_27 : decode cX11_nameOf 27 = .ok (.getfield 9, 3) := by decide +kernel
theorem dX11_nameOf_30 : decode cX11_nameOf 30 = .ok (.iload 4, 2) := by decide +kernel
theorem dX11_nameOf_32 : decode cX11_nameOf 32 = .ok (.iaload, 1) := by decide +kernel
theorem dX11_nameOf_33 : decode cX11_nameOf 33 = .ok (.invokestatic 119, 3) := by decide +kernel
theorem dX11_nameOf_36 : decode cX11_nameOf 36 = .ok (.ifCond .eq 16, 3) := by decide +kernel
theorem dX11_nameOf_39 : decode cX11_nameOf 39 = .ok (.aload_n 0, 1) := by decide +kernel
theorem dX11_nameOf_40 : decode cX11_nameOf 40 = .ok (.getfield 9, 3) := by decide +kernel
theorem dX11_nameOf_43 : decode cX11_nameOf 43 = .ok (.iload 4, 2) := by decide +kernel
theorem dX11_nameOf_45 : decode cX11_nameOf 45 = .ok (.iaload, 1) := by decide +kernel
theorem dX11_nameOf_46 : decode cX11_nameOf 46 = .ok (.bipush 47, 2) := by decide +kernel
theorem dX11_nameOf_48 : decode cX11_nameOf 48 = .ok (.isub, 1) := by decide +kernel
theorem dX11_nameOf_49 : decode cX11_nameOf 49 = .ok (.goto 13, 3) := by decide +kernel
theorem dX11_nameOf_52 : decode cX11_nameOf 52 = .ok (.aload_n 0, 1) := by decide +kernel
theorem dX11_nameOf_53 : decode cX11_nameOf 53 = .ok (.getfield 9, 3) := by decide +kernel
theorem dX11_nameOf_56 : decode cX11_nameOf 56 = .ok (.iload 4, 2) := by decide +kernel
theorem dX11_nameOf_58 : decode cX11_nameOf 58 = .ok (.iaload, 1) := by decide +kernel
theorem dX11_nameOf_59 : decode cX11_nameOf 59 = .ok (.bipush 86, 2) := by decide +kernel
theorem dX11_nameOf_61 : decode cX11_nameOf 61 = .ok (.isub, 1) := by decide +kernel
theorem dX11_nameOf_62 : decode cX11_nameOf 62 = .ok (.i2l, 1) := by decide +kernel
theorem dX11_nameOf_63 : decode cX11_nameOf 63 = .ok (.ladd, 1) := by decide +kernel
theorem dX11_nameOf_64 : decode cX11_nameOf 64 = .ok (.lstore_n 2, 1) := by decide +kernel
theorem dX11_nameOf_65 : decode cX11_nameOf 65 = .ok (.iinc 4 1, 3) := by decide +kernel
theorem dX11_nameOf_68 : decode cX11_nameOf 68 = .ok (.goto (-58), 3) := by decide +kernel
theorem dX11_nameOf_71 : decode cX11_nameOf 71 = .ok (.lload_n 2, 1) := by decide +kernel
theorem dX11_nameOf_72 : decode cX11_nameOf 72 = .ok (.lreturn, 1) := by decide +kernel
theorem dX11_numberOf_0 : decode cX11_numberOf 0 = .ok (.iconst 0, 1) := by decide +kernel
theorem dX11_numberOf_1 : decode cX11_numberOf 1 = .ok (.istore_n 2, 1) := by decide +kernel
theorem dX11_numberOf_2 : decode cX11_numberOf 2 = .ok (.aload_n 0, 1) := by decide +kernel
theorem dX11_numberOf_3 : decode cX11_numberOf 3 = .ok (.getfield 20, 3) := by decide +kernel
theorem dX11_numberOf_6 : decode cX11_numberOf 6 = .ok (.iload_n 1, 1) := by decide +kernel
theorem dX11_numberOf_7 : decode cX11_numberOf 7 = .ok (.iaload, 1) := by decide +kernel
theorem dX11_numberOf_8 : decode cX11_numberOf 8 = .ok (.istore_n 3, 1) := by decide +kernel
theorem dX11_numberOf_9 : decode cX11_numberOf 9 = .ok (.iload_n 3, 1) := by decide +kernel
theorem dX11_numberOf_10 : decode cX11_numberOf 10 = .ok (.aload_n 0, 1) := by decide +kernel
theorem dX11_numberOf_11 : decode cX11_numberOf 11 = .ok (.getfield 23, 3) := by decide +kernel
theorem dX11_numberOf_14 : decode cX11_numberOf 14 = .ok (.iload_n 1, 1) := by decide +kernel
theorem dX11_numberOf_15 : decode cX11_numberOf 15 = .ok (.iaload, 1) := by decide +kernel
theorem dX11_numberOf_16 : decode cX11_numberOf 16 = .ok (.if_icmp .ge 24, 3) := by decide +kernel
theorem dX11_numberOf_19 : decode cX11_numberOf 19 = .ok (.bipush 10, 2) := by decide +kernel
theorem dX11_numberOf_21 : decode cX11_numberOf 21 = .ok (.iload_n 2, 1) := by decide +kernel
theorem dX11_numberOf_22 : decode cX11_numberOf 22 = .ok (.imul, 1) := by decide +kernel
theorem dX11_numberOf_23 : decode cX11_numberOf 23 = .ok (.aload_n 0, 1) := by decide +kernel
theorem dX11_numberOf_24 : decode cX11_numberOf 24 = .ok (.getfield 9, 3) := by decide +kernel
theorem dX11_numberOf_27 : decode cX11_numberOf 27 = .ok (.iload_n 3, 1) := by decide +kernel
theorem dX11_numberOf_28 : decode cX11_numberOf 28 = .ok (.iaload, 1) := by decide +kernel
theorem dX11_numberOf_29 : decode cX11_numberOf 29 = .ok (.iadd, 1) := by decide +kernel
theorem dX11_numberOf_30 : decode cX11_numberOf 30 = .ok (.bipush 48, 2) := by decide +kernel
theorem dX11_numberOf_32 : decode cX11_numberOf 32 = .ok (.isub, 1) := by decide +kernel
theorem dX11_numberOf_33 : decode cX11_numberOf 33 = .ok (.istore_n 2, 1) := by decide +kernel
theorem dX11_numberOf_34 : decode cX11_numberOf 34 = .ok (.iinc 3 1, 3) := by decide +kernel
theorem dX11_numberOf_37 : decode cX11_numberOf 37 = .ok (.goto (-28), 3) := by decide +kernel
theorem dX11_numberOf_40 : decode cX11_numberOf 40 = .ok (.iload_n 2, 1) := by decide +kernel
theorem dX11_numberOf_41 : decode cX11_numberOf 41 = .ok (.ireturn, 1) := by decide +kernel
theorem dX11_sees_0 : decode cX11_sees 0 = .ok (.aload_n 0, 1) := by decide +kernel
theorem dX11_sees_1 : decode cX11_sees 1 = .ok (.aload_n 0, 1) := by decide +kernel
theorem dX11_sees_2 : decode cX11_sees 2 = .ok (.getfield 152, 3) := by decide +kernel
theorem dX11_sees_5 : decode cX11_sees 5 = .ok (.aload_n 1, 1) := by decide +kernel
theorem dX11_sees_6 : decode cX11_sees 6 = .ok (.invokevirtual 138, 3) := by decide +kernel
theorem dX11_sees_9 : decode cX11_sees 9 = .ok (.ireturn, 1) := by decide +kernel
theorem dX11_goes_0 : decode cX11_goes 0 = .ok (.aload_n 0, 1) := by decide +kernel
theorem dX11_goes_1 : decode cX11_goes 1 = .ok (.getfield 152, 3) := by decide +kernel
theorem dX11_goes_4 : decode cX11_goes 4 = .ok (.sipush 400, 3) := by decide +kernel
theorem dX11_goes_7 : decode cX11_goes 7 = .ok (.if_icmp .ne 5, 3) := by decide +kernel
theorem dX11_goes_10 : decode cX11_goes 10 = .ok (.iconst 0, 1) := by decide +kernel
theorem dX11_goes_11 : decode cX11_goes 11 = .ok (.ireturn, 1) := by decide +kernel
theorem dX11_goes_12 : decode cX11_goes 12 = .ok (.aload_n 0, 1) := by decide +kernel
theorem dX11_goes_13 : decode cX11_goes 13 = .ok (.dup, 1) := by decide +kernel
theorem dX11_goes_14 : decode cX11_goes 14 = .ok (.getfield 152, 3) := by decide +kernel
theorem dX11_goes_17 : decode cX11_goes 17 = .ok (.iconst 1, 1) := by decide +kernel
theorem dX11_goes_18 : decode cX11_goes 18 = .ok (.iadd, 1) := by decide +kernel
theorem dX11_goes_19 : decode cX11_goes 19 = .ok (.putfield 152, 3) := by decide +kernel
theorem dX11_goes_22 : decode cX11_goes 22 = .ok (.iconst 1, 1) := by decide +kernel
theorem dX11_goes_23 : decode cX11_goes 23 = .ok (.ireturn, 1) := by decide +kernel
theorem dX11_takes_0 : decode cX11_takes 0 = .ok (.aload_n 0, 1) := by decide +kernel
theorem dX11_takes_1 : decode cX11_takes 1 = .ok (.aload_n 1, 1) := by decide +kernel
theorem dX11_takes_2 : decode cX11_takes 2 = .ok (.invokevirtual 155, 3) := by decide +kernel
theorem dX11_takes_5 : decode cX11_takes 5 = .ok (.ifCond .eq 14, 3) := by decide +kernel
theorem dX11_takes_8 : decode cX11_takes 8 = .ok (.aload_n 0, 1) := by decide +kernel
theorem dX11_takes_9 : decode cX11_takes 9 = .ok (.invokevirtual 159, 3) := by decide +kernel
theorem dX11_takes_12 : decode cX11_takes 12 = .ok (.ifCond .eq 7, 3) := by decide +kernel
theorem dX11_takes_15 : decode cX11_takes 15 = .ok (.iconst 1, 1) := by decide +kernel
theorem dX11_takes_16 : decode cX11_takes 16 = .ok (.goto 4, 3) := by decide +kernel
theorem dX11_takes_19 : decode cX11_takes 19 = .ok (.iconst 0, 1) := by decide +kernel
theorem dX11_takes_20 : decode cX11_takes 20 = .ok (.ireturn, 1) := by decide +kernel
theorem dX11_takesName_0 : decode cX11_takesName 0 = .ok (.aload_n 0, 1) := by decide +kernel
theorem dX11_takesName_1 : decode cX11_takesName 1 = .ok (.aload_n 0, 1) := by decide +kernel
theorem dX11_takesName_2 : decode cX11_takesName 2 = .ok (.getfield 152, 3) := by decide +kernel
theorem dX11_takesName_5 : decode cX11_takesName 5 = .ok (.invokevirtual 163, 3) := by decide +kernel
theorem dX11_takesName_8 : decode cX11_takesName 8 = .ok (.ifCond .eq 14, 3) := by decide +kernel
theorem dX11_takesName_11 : decode cX11_takesName 11 = .ok (.aload_n 0, 1) := by decide +kernel
theorem dX11_takesName_12 : decode cX11_takesName 12 = .ok (.invokevirtual 159, 3) := by decide +kernel
theorem dX11_takesName_15 : decode cX11_takesName 15 = .ok (.ifCond .eq 7, 3) := by decide +kernel
theorem dX11_takesName_18 : decode cX11_takesName 18 = .ok (.iconst 1, 1) := by decide +kernel
theorem dX11_takesName_19 : decode cX11_takesName 19 = .ok (.goto 4, 3) := by decide +kernel
theorem dX11_takesName_22 : decode cX11_takesName 22 = .ok (.iconst 0, 1) := by decide +kernel
theorem dX11_takesName_23 : decode cX11_takesName 23 = .ok (.ireturn, 1) := by decide +kernel
theorem dX11_takesNumber_0 : decode cX11_takesNumber 0 = .ok (.aload_n 0, 1) := by decide +kernel
theorem dX11_takesNumber_1 : decode cX11_takesNumber 1 = .ok (.getfield 17, 3) := by decide +kernel
theorem dX11_takesNumber_4 : decode cX11_takesNumber 4 = .ok (.aload_n 0, 1) := by decide +kernel
theorem dX11_takesNumber_5 : decode cX11_takesNumber 5 = .ok (.getfield 152, 3) := by decide +kernel
theorem dX11_takesNumber_8 : decode cX11_takesNumber 8 = .ok (.iaload, 1) := by decide +kernel
theorem dX11_takesNumber_9 : decode cX11_takesNumber 9 = .ok (.iconst 2, 1) := by decide +kernel
theorem dX11_takesNumber_10 : decode cX11_takesNumber 10 = .ok (.if_icmp .ne 14, 3) := by decide +kernel
theorem dX11_takesNumber_13 : decode cX11_takesNumber 13 = .ok (.aload_n 0, 1) := by decide +kernel
theorem dX11_takesNumber_14 : decode cX11_takesNumber 14 = .ok (.invokevirtual 159, 3) := by decide +kernel
theorem dX11_takesNumber_17 : decode cX11_takesNumber 17 = .ok (.ifCond .eq 7, 3) := by decide +kernel
theorem dX11_takesNumber_20 : decode cX11_takesNumber 20 = .ok (.iconst 1, 1) := by decide +kernel
theorem dX11_takesNumber_21 : decode cX11_takesNumber 21 = .ok (.goto 4, 3) := by decide +kernel
theorem dX11_takesNumber_24 : decode cX11_takesNumber 24 = .ok (.iconst 0, 1) := by decide +kernel
theorem dX11_takesNumber_25 : decode cX11_takesNumber 25 = .ok (.ireturn, 1) := by decide +kernel
theorem dX11_program_0 : decode cX11_program 0 = .ok (.aload_n 0, 1) := by decide +kernel
theorem dX11_program_1 : decode cX11_program 1 = .ok (.invokevirtual 166, 3) := by decide +kernel
theorem dX11_program_4 : decode cX11_program 4 = .ok (.ifCond .ne 5, 3) := by decide +kernel
theorem dX11_program_7 : decode cX11_program 7 = .ok (.iconst 0, 1) := by decide +kernel
theorem dX11_program_8 : decode cX11_program 8 = .ok (.ireturn, 1) := by decide +kernel
theorem dX11_program_9 : decode cX11_program 9 = .ok (.aload_n 0, 1) := by decide +kernel
theorem dX11_program_10 : decode cX11_program 10 = .ok (.getfield 17, 3) := by decide +kernel
theorem dX11_program_13 : decode cX11_program 13 = .ok (.aload_n 0, 1) := by decide +kernel
theorem dX11_program_14 : decode cX11_program 14 = .ok (.getfield 152, 3) := by decide +kernel
theorem dX11_program_17 : decode cX11_program 17 = .ok (.iaload, 1) := by decide +kernel
theorem dX11_program_18 : decode cX11_program 18 = .ok (.ifCond .ne (-18), 3) := by decide +kernel
theorem dX11_program_21 : decode cX11_program 21 = .ok (.iconst 1, 1) := by decide +kernel
theorem dX11_program_22 : decode cX11_program 22 = .ok (.ireturn, 1) := by decide +kernel
theorem dX11_item_0 : decode cX11_item 0 = .ok (.aload_n 0, 1) := by decide +kernel
theorem dX11_item_1 : decode cX11_item 1 = .ok (.ldc 169, 2) := by decide +kernel
theorem dX11_item_3 : decode cX11_item 3 = .ok (.invokevirtual 171, 3) := by decide +kernel
theorem dX11_item_6 : decode cX11_item 6 = .ok (.ifCond .eq 57, 3) := by decide +kernel
theorem dX11_item_9 : decode cX11_item 9 = .ok (.aload_n 0, 1) := by decide +kernel
theorem dX11_item_10 : decode cX11_item 10 = .ok (.invokevirtual 174, 3) := by decide +kernel
theorem dX11_item_13 : decode cX11_item 13 = .ok (.ifCond .eq 48, 3) := by decide +kernel
theorem dX11_item_16 : decode cX11_item 16 = .ok (.aload_n 0, 1) := by decide +kernel
theorem dX11_item_17 : decode cX11_item 17 = .ok (.ldc 177, 2) := by decide +kernel
theorem dX11_item_19 : decode cX11_item 19 = .ok (.invokevirtual 171, 3) := by decide +kernel
theorem dX11_item_22 : decode cX11_item 22 = .ok (.ifCond .eq 39, 3) := by decide +kernel
theorem dX11_item_25 : decode cX11_item 25 = .ok (.aload_n 0, 1) := by decide +kernel
theorem dX11_item_26 : decode cX11_item 26 = .ok (.ldc 179, 2) := by decide +kernel
theorem dX11_item_28 : decode cX11_item 28 = .ok (.invokevirtual 155, 3) := by decide +kernel
theorem dX11_item_31 : decode cX11_item 31 = .ok (.ifCond .eq 10, 3) := by decide +kernel
theorem dX11_item_34 : decode cX11_item 34 = .ok (.aload_n 0, 1) := by decide +kernel
theorem dX11_item_35 : decode cX11_item 35 = .ok (.invokevirtual 159, 3) := by decide +kernel
theorem dX11_item_38 : decode cX11_item 38 = .ok (.ifCond .eq 23, 3) := by decide +kernel
theorem dX11_item_41 : decode cX11_item 41 = .ok (.aload_n 0, 1) := by decide +kernel
theorem dX11_item_42 : decode cX11_item 42 = .ok (.invokevirtual 181, 3) := by decide +kernel
theorem dX11_item_45 : decode cX11_item 45 = .ok (.ifCond .eq 16, 3) := by decide +kernel
theorem dX11_item_48 : decode cX11_item 48 = .ok (.aload_n 0, 1) := by decide +kernel
theorem dX11_item_49 : decode cX11_item 49 = .ok (.ldc 184, 2) := by decide +kernel
theorem dX11_item_51 : decode cX11_item 51 = .ok (.invokevirtual 171, 3) := by decide +kernel
theorem dX11_item_54 : decode cX11_item 54 = .ok (.ifCond .eq 7, 3) := by decide +kernel
theorem dX11_item_57 : decode cX11_item 57 = .ok (.iconst 1, 1) := by decide +kernel
theorem dX11_item_58 : decode cX11_item 58 = .ok (.goto 4, 3) := by decide +kernel
theorem dX11_item_61 : decode cX11_item 61 = .ok (.iconst 0, 1) := by decide +kernel
theorem dX11_item_62 : decode cX11_item 62 = .ok (.ireturn, 1) := by decide +kernel
theorem dX11_item_63 : decode cX11_item 63 = .ok (.aload_n 0, 1) := by decide +kernel
theorem dX11_item_64 : decode cX11_item 64 = .ok (.ldc 186, 2) := by decide +kernel
theorem dX11_item_66 : decode cX11_item 66 = .ok (.invokevirtual 171, 3) := by decide +kernel
theorem dX11_item_69 : decode cX11_item 69 = .ok (.ifCond .eq 42, 3) := by decide +kernel
theorem dX11_item_72 : decode cX11_item 72 = .ok (.aload_n 0, 1) := by decide +kernel
theorem dX11_item_73 : decode cX11_item 73 = .ok (.invokevirtual 174, 3) := by decide +kernel
theorem dX11_item_76 : decode cX11_item 76 = .ok (.ifCond .eq 33, 3) := by decide +kernel
theorem dX11_item_79 : decode cX11_item 79 = .ok (.aload_n 0, 1) := by decide +kernel
theorem dX11_item_80 : decode cX11_item 80 = .ok (.ldc 188, 2) := by decide +kernel
theorem dX11_item_82 : decode cX11_item 82 = .ok (.invokevirtual 171, 3) := by decide +kernel
theorem dX11_item_85 : decode cX11_item 85 = .ok (.ifCond .eq 24, 3) := by decide +kernel
theorem dX11_item_88 : decode cX11_item 88 = .ok (.aload_n 0, 1) := by decide +kernel
theorem dX11_item_89 : decode cX11_item 89 = .ok (.iconst 0, 1) := by decide +kernel
theorem dX11_item_90 : decode cX11_item 90 = .ok (.invokevirtual 190, 3) := by decide +kernel
theorem dX11_item_93 : decode cX11_item 93 = .ok (.ifCond .eq 16, 3) := by decide +kernel
theorem dX11_item_96 : decode cX11_item 96 = .ok (.aload_n 0, 1) := by decide +kernel
theorem dX11_item_97 : decode cX11_item 97 = .ok (.ldc 184, 2) := by decide +kernel
theorem dX11_item_99 : decode cX11_item 99 = .ok (.invokevirtual 171, 3) := by decide +kernel
theorem dX11_item_102 : decode cX11_item 102 = .ok (.ifCond .eq 7, 3) := by decide +kernel
theorem dX11_item_105 : decode cX11_item 105 = .ok (.iconst 1, 1) := by decide +kernel
theorem dX11_item_106 : decode cX11_item 106 = .ok (.goto 4, 3) := by decide +kernel
theorem dX11_item_109 : decode cX11_item 109 = .ok (.iconst 0, 1) := by decide +kernel
theorem dX11_item_110 : decode cX11_item 110 = .ok (.ireturn, 1) := by decide +kernel
theorem dX11_item_111 : decode cX11_item 111 = .ok (.aload_n 0, 1) := by decide +kernel
theorem dX11_item_112 : decode cX11_item 112 = .ok (.ldc 193, 2) := by decide +kernel
theorem dX11_item_114 : decode cX11_item 114 = .ok (.invokevirtual 171, 3) := by decide +kernel
theorem dX11_item_117 : decode cX11_item 117 = .ok (.ifCond .eq 42, 3) := by decide +kernel
theorem dX11_item_120 : decode cX11_item 120 = .ok (.aload_n 0, 1) := by decide +kernel
theorem dX11_item_121 : decode cX11_item 121 = .ok (.invokevirtual 174, 3) := by decide +kernel
theorem dX11_item_124 : decode cX11_item 124 = .ok (.ifCond .eq 33, 3) := by decide +kernel
theorem dX11_item_127 : decode cX11_item 127 = .ok (.aload_n 0, 1) := by decide +kernel
theorem dX11_item_128 : decode cX11_item 128 = .ok (.ldc 177, 2) := by decide +kernel
theorem dX11_item_130 : decode cX11_item 130 = .ok (.invokevirtual 171, 3) := by decide +kernel
theorem dX11_item_133 : decode cX11_item 133 = .ok (.ifCond .eq 24, 3) := by decide +kernel
theorem dX11_item_136 : decode cX11_item 136 = .ok (.aload_n 0, 1) := by decide +kernel
theorem dX11_item_137 : decode cX11_item 137 = .ok (.iconst 0, 1) := by decide +kernel
theorem dX11_item_138 : decode cX11_item 138 = .ok (.invokevirtual 195, 3) := by decide +kernel
theorem dX11_item_141 : decode cX11_item 141 = .ok (.ifCond .eq 16, 3) := by decide +kernel
theorem dX11_item_144 : decode cX11_item 144 = .ok (.aload_n 0, 1) := by decide +kernel
theorem dX11_item_145 : decode cX11_item 145 = .ok (.ldc 184, 2) := by decide +kernel
theorem dX11_item_147 : decode cX11_item 147 = .ok (.invokevirtual 171, 3) := by decide +kernel
theorem dX11_item_150 : decode cX11_item 150 = .ok (.ifCond .eq 7, 3) := by decide +kernel
theorem dX11_item_153 : decode cX11_item 153 = .ok (.iconst 1, 1) := by decide +kernel
theorem dX11_item_154 : decode cX11_item 154 = .ok (.goto 4, 3) := by decide +kernel
theorem dX11_item_157 : decode cX11_item 157 = .ok (.iconst 0, 1) := by decide +kernel
theorem dX11_item_158 : decode cX11_item 158 = .ok (.ireturn, 1) := by decide +kernel
theorem dX11_item_159 : decode cX11_item 159 = .ok (.aload_n 0, 1) := by decide +kernel
theorem dX11_item_160 : decode cX11_item 160 = .ok (.ldc 198, 2) := by decide +kernel
theorem dX11_item_162 : decode cX11_item 162 = .ok (.invokevirtual 171, 3) := by decide +kernel
theorem dX11_item_165 : decode cX11_item 165 = .ok (.ifCond .eq 63, 3) := by decide +kernel
theorem dX11_item_168 : decode cX11_item 168 = .ok (.aload_n 0, 1) := by decide +kernel
theorem dX11_item_169 : decode cX11_item 169 = .ok (.invokevirtual 174, 3) := by decide +kernel
theorem dX11_item_172 : decode cX11_item 172 = .ok (.ifCond .eq 56, 3) := by decide +kernel
theorem dX11_item_175 : decode cX11_item 175 = .ok (.aload_n 0, 1) := by decide +kernel
theorem dX11_item_176 : decode cX11_item 176 = .ok (.ldc 200, 2) := by decide +kernel
theorem dX11_item_178 : decode cX11_item 178 = .ok (.invokevirtual 171, 3) := by decide +kernel
theorem dX11_item_181 : decode cX11_item 181 = .ok (.ifCond .eq 47, 3) := by decide +kernel
theorem dX11_item_184 : decode cX11_item 184 = .ok (.aload_n 0, 1) := by decide +kernel
theorem dX11_item_185 : decode cX11_item 185 = .ok (.iconst 0, 1) := by decide +kernel
theorem dX11_item_186 : decode cX11_item 186 = .ok (.invokevirtual 190, 3) := by decide +kernel
theorem dX11_item_189 : decode cX11_item 189 = .ok (.ifCond .eq 39, 3) := by decide +kernel
theorem dX11_item_192 : decode cX11_item 192 = .ok (.aload_n 0, 1) := by decide +kernel
theorem dX11_item_193 : decode cX11_item 193 = .ok (.ldc 202, 2) := by decide +kernel
theorem dX11_item_195 : decode cX11_item 195 = .ok (.invokevirtual 155, 3) := by decide +kernel
theorem dX11_item_198 : decode cX11_item 198 = .ok (.ifCond .eq 17, 3) := by decide +kernel
theorem dX11_item_201 : decode cX11_item 201 = .ok (.aload_n 0, 1) := by decide +kernel
theorem dX11_item_202 : decode cX11_item 202 = .ok (.invokevirtual 159, 3) := by decide +kernel
theorem dX11_item_205 : decode cX11_item 205 = .ok (.ifCond .eq 23, 3) := by decide +kernel
theorem dX11_item_208 : decode cX11_item 208 = .ok (.aload_n 0, 1) := by decide +kernel
theorem dX11_item_209 : decode cX11_item 209 = .ok (.invokevirtual 181, 3) := by decide +kernel
theorem dX11_item_212 : decode cX11_item 212 = .ok (.ifCond .eq 16, 3) := by decide +kernel
theorem dX11_item_215 : decode cX11_item 215 = .ok (.aload_n 0, 1) := by decide +kernel
theorem dX11_item_216 : decode cX11_item 216 = .ok (.ldc 184, 2) := by decide +kernel
theorem dX11_item_218 : decode cX11_item 218 = .ok (.invokevirtual 171, 3) := by decide +kernel
theorem dX11_item_221 : decode cX11_item 221 = .ok (.ifCond .eq 7, 3) := by decide +kernel
theorem dX11_item_224 : decode cX11_item 224 = .ok (.iconst 1, 1) := by decide +kernel
theorem dX11_item_225 : decode cX11_item 225 = .ok (.goto 4, 3) := by decide +kernel
theorem dX11_item_228 : decode cX11_item 228 = .ok (.iconst 0, 1) := by decide +kernel
theorem dX11_item_229 : decode cX11_item 229 = .ok (.ireturn, 1) := by decide +kernel
theorem dX11_formulaForm_0 : decode cX11_formulaForm 0 = .ok (.aload_n 0, 1) := by decide +kernel
theorem dX11_formulaForm_1 : decode cX11_formulaForm 1 = .ok (.iload_n 1, 1) := by decide +kernel
theorem dX11_formulaForm_2 : decode cX11_formulaForm 2 = .ok (.ldc 204, 2) := by decide +kernel
theorem dX11_formulaForm_4 : decode cX11_formulaForm 4 = .ok (.invokevirtual 206, 3) := by decide +kernel
theorem dX11_formulaForm_7 : decode cX11_formulaForm 7 = .ok (.ifCond .eq 31, 3) := by decide +kernel
theorem dX11_formulaForm_10 : decode cX11_formulaForm 10 = .ok (.aload_n 0, 1) := by decide +kernel
theorem dX11_formulaForm_11 : decode cX11_formulaForm 11 = .ok (.ldc 209, 2) := by decide +kernel
theorem dX11_formulaForm_13 : decode cX11_formulaForm 13 = .ok (.invokevirtual 155, 3) := by decide +kernel
theorem dX11_formulaForm_16 : decode cX11_formulaForm 16 = .ok (.ifCond .eq 18, 3) := by decide +kernel
theorem dX11_formulaForm_19 : decode cX11_formulaForm 19 = .ok (.aload_n 0, 1) := by decide +kernel
theorem dX11_formulaForm_20 : decode cX11_formulaForm 20 = .ok (.invokevirtual 159, 3) := by decide +kernel
theorem dX11_formulaForm_23 : decode cX11_formulaForm 23 = .ok (.ifCond .eq 15, 3) := by decide +kernel
theorem dX11_formulaForm_26 : decode cX11_formulaForm 26 = .ok (.aload_n 0, 1) := by decide +kernel
theorem dX11_formulaForm_27 : decode cX11_formulaForm 27 = .ok (.iload_n 1, 1) := by decide +kernel
theorem dX11_formulaForm_28 : decode cX11_formulaForm 28 = .ok (.invokevirtual 190, 3) := by decide +kernel
theorem dX11_formulaForm_31 : decode cX11_formulaForm 31 = .ok (.ifCond .eq 7, 3) := by decide +kernel
theorem dX11_formulaForm_34 : decode cX11_formulaForm 34 = .ok (.iconst 1, 1) := by decide +kernel
theorem dX11_formulaForm_35 : decode cX11_formulaForm 35 = .ok (.goto 4, 3) := by decide +kernel
theorem dX11_formulaForm_38 : decode cX11_formulaForm 38 = .ok (.iconst 0, 1) := by decide +kernel
theorem dX11_formulaForm_39 : decode cX11_formulaForm 39 = .ok (.ireturn, 1) := by decide +kernel
theorem dX11_rowForm_0 : decode cX11_rowForm 0 = .ok (.aload_n 2, 1) := by decide +kernel
theorem dX11_rowForm_1 : decode cX11_rowForm 1 = .ok (.invokevirtual 131, 3) := by decide +kernel
theorem dX11_rowForm_4 : decode cX11_rowForm 4 = .ok (.iconst 2, 1) := by decide +kernel
theorem dX11_rowForm_5 : decode cX11_rowForm 5 = .ok (.if_icmp .ne 7, 3) := by decide +kernel
theorem dX11_rowForm_8 : decode cX11_rowForm 8 = .ok (.iconst 1, 1) := by decide +kernel
theorem dX11_rowForm_9 : decode cX11_rowForm 9 = .ok (.goto 4, 3) := by decide +kernel
theorem dX11_rowForm_12 : decode cX11_rowForm 12 = .ok (.iconst 0, 1) := by decide +kernel
theorem dX11_rowForm_13 : decode cX11_rowForm 13 = .ok (.istore_n 3, 1) := by decide +kernel
theorem dX11_rowForm_14 : decode cX11_rowForm 14 = .ok (.iload_n 3, 1) := by decide +kernel
theorem dX11_rowForm_15 : decode cX11_rowForm 15 = .ok (.ifCond .eq 16, 3) := by decide +kernel
theorem dX11_rowForm_18 : decode cX11_rowForm 18 = .ok (.aload_n 0, 1) := by decide +kernel
theorem dX11_rowForm_19 : decode cX11_rowForm 19 = .ok (.iload_n 1, 1) := by decide +kernel
theorem dX11_rowForm_20 : decode cX11_rowForm 20 = .ok (.ldc 211, 2) := by decide +kernel
theorem dX11_rowForm_22 : decode cX11_rowForm 22 = .ok (.invokevirtual 206, 3) := by decide +kernel
theorem dX11_rowForm_25 : decode cX11_rowForm 25 = .ok (.ifCond .eq 14, 3) := by decide +kernel
theorem dX11_rowForm_28 : decode cX11_rowForm 28 = .ok (.goto 13, 3) := by decide +kernel
theorem dX11_rowForm_31 : decode cX11_rowForm 31 = .ok (.aload_n 0, 1) := by decide +kernel
theorem dX11_rowForm_32 : decode cX11_rowForm 32 = .ok (.iload_n 1, 1) := by decide +kernel
theorem dX11_rowForm_33 : decode cX11_rowForm 33 = .ok (.invokevirtual 213, 3) := by decide +kernel
theorem dX11_rowForm_36 : decode cX11_rowForm 36 = .ok (.ifCond .ne 5, 3) := by decide +kernel
theorem dX11_rowForm_39 : decode cX11_rowForm 39 = .ok (.iconst 0, 1) := by decide +kernel
theorem dX11_rowForm_40 : decode cX11_rowForm 40 = .ok (.ireturn, 1) := by decide +kernel
theorem dX11_rowForm_41 : decode cX11_rowForm 41 = .ok (.aload_n 0, 1) := by decide +kernel
theorem dX11_rowForm_42 : decode cX11_rowForm 42 = .ok (.aload_n 2, 1) := by decide +kernel
theorem dX11_rowForm_43 : decode cX11_rowForm 43 = .ok (.invokevirtual 155, 3) := by decide +kernel
theorem dX11_rowForm_46 : decode cX11_rowForm 46 = .ok (.ifCond .eq 37, 3) := by decide +kernel
theorem dX11_rowForm_49 : decode cX11_rowForm 49 = .ok (.aload_n 0, 1) := by decide +kernel
theorem dX11_rowForm_50 : decode cX11_rowForm 50 = .ok (.invokevirtual 159, 3) := by decide +kernel
theorem dX11_rowForm_53 : decode cX11_rowForm 53 = .ok (.ifCond .eq 28, 3) := by decide +kernel
theorem dX11_rowForm_56 : decode cX11_rowForm 56 = .ok (.iload_n 3, 1) := by decide +kernel
theorem dX11_rowForm_57 : decode cX11_rowForm 57 = .ok (.ifCond .eq 16, 3) := by decide +kernel
theorem dX11_rowForm_60 : decode cX11_rowForm 60 = .ok (.aload_n 0, 1) := by decide +kernel
theorem dX11_rowForm_61 : decode cX11_rowForm 61 = .ok (.iload_n 1, 1) := by decide +kernel
theorem dX11_rowForm_62 : decode cX11_rowForm 62 = .ok (.ldc 211, 2) := by decide +kernel
theorem dX11_rowForm_64 : decode cX11_rowForm 64 = .ok (.invokevirtual 206, 3) := by decide +kernel
theorem dX11_rowForm_67 : decode cX11_rowForm 67 = .ok (.ifCond .eq 14, 3) := by decide +kernel
theorem dX11_rowForm_70 : decode cX11_rowForm 70 = .ok (.goto (-29), 3) := by decide +kernel
theorem dX11_rowForm_73 : decode cX11_rowForm 73 = .ok (.aload_n 0, 1) := by decide +kernel
theorem dX11_rowForm_74 : decode cX11_rowForm 74 = .ok (.iload_n 1, 1) := by decide +kernel
theorem dX11_rowForm_75 : decode cX11_rowForm 75 = .ok (.invokevirtual 213, 3) := by decide +kernel
theorem dX11_rowForm_78 : decode cX11_rowForm 78 = .ok (.ifCond .ne (-37), 3) := by decide +kernel
theorem dX11_rowForm_81 : decode cX11_rowForm 81 = .ok (.iconst 0, 1) := by decide +kernel
theorem dX11_rowForm_82 : decode cX11_rowForm 82 = .ok (.ireturn, 1) := by decide +kernel
theorem dX11_rowForm_83 : decode cX11_rowForm 83 = .ok (.iconst 1, 1) := by decide +kernel
theorem dX11_rowForm_84 : decode cX11_rowForm 84 = .ok (.ireturn, 1) := by decide +kernel
theorem dX11_sinceForm_0 : decode cX11_sinceForm 0 = .ok (.aload_n 0, 1) := by decide +kernel
theorem dX11_sinceForm_1 : decode cX11_sinceForm 1 = .ok (.iload_n 1, 1) := by decide +kernel
theorem dX11_sinceForm_2 : decode cX11_sinceForm 2 = .ok (.invokevirtual 216, 3) := by decide +kernel
theorem dX11_sinceForm_5 : decode cX11_sinceForm 5 = .ok (.ifCond .eq 38, 3) := by decide +kernel
theorem dX11_sinceForm_8 : decode cX11_sinceForm 8 = .ok (.aload_n 0, 1) := by decide +kernel
theorem dX11_sinceForm_9 : decode cX11_sinceForm 9 = .ok (.ldc 219, 2) := by decide +kernel
theorem dX11_sinceForm_11 : decode cX11_sinceForm 11 = .ok (.invokevirtual 155, 3) := by decide +kernel
theorem dX11_sinceForm_14 : decode cX11_sinceForm 14 = .ok (.ifCond .eq 25, 3) := by decide +kernel
theorem dX11_sinceForm_17 : decode cX11_sinceForm 17 = .ok (.aload_n 0, 1) := by decide +kernel
theorem dX11_sinceForm_18 : decode cX11_sinceForm 18 = .ok (.invokevirtual 159, 3) := by decide +kernel
theorem dX11_sinceForm_21 : decode cX11_sinceForm 21 = .ok (.ifCond .eq 22, 3) := by decide +kernel
theorem dX11_sinceForm_24 : decode cX11_sinceForm 24 = .ok (.aload_n 0, 1) := by decide +kernel
theorem dX11_sinceForm_25 : decode cX11_sinceForm 25 = .ok (.invokevirtual 221, 3) := by decide +kernel
theorem dX11_sinceForm_28 : decode cX11_sinceForm 28 = .ok (.ifCond .eq 15, 3) := by decide +kernel
theorem dX11_sinceForm_31 : decode cX11_sinceForm 31 = .ok (.aload_n 0, 1) := by decide +kernel
theorem dX11_sinceForm_32 : decode cX11_sinceForm 32 = .ok (.iload_n 1, 1) := by decide +kernel
theorem dX11_sinceForm_33 : decode cX11_sinceForm 33 = .ok (.invokevirtual 216, 3) := by decide +kernel
theorem dX11_sinceForm_36 : decode cX11_sinceForm 36 = .ok (.ifCond .eq 7, 3) := by decide +kernel
theorem dX11_sinceForm_39 : decode cX11_sinceForm 39 = .ok (.iconst 1, 1) := by decide +kernel
theorem dX11_sinceForm_40 : decode cX11_sinceForm 40 = .ok (.goto 4, 3) := by decide +kernel
theorem dX11_sinceForm_43 : decode cX11_sinceForm 43 = .ok (.iconst 0, 1) := by decide +kernel
theorem dX11_sinceForm_44 : decode cX11_sinceForm 44 = .ok (.ireturn, 1) := by decide +kernel
theorem dX11_boundsForm_0 : decode cX11_boundsForm 0 = .ok (.aload_n 0, 1) := by decide +kernel
theorem dX11_boundsForm_1 : decode cX11_boundsForm 1 = .ok (.ldc 224, 2) := by decide +kernel
theorem dX11_boundsForm_3 : decode cX11_boundsForm 3 = .ok (.invokevirtual 155, 3) := by decide +kernel
theorem dX11_boundsForm_6 : decode cX11_boundsForm 6 = .ok (.ifCond .eq 42, 3) := by decide +kernel
theorem dX11_boundsForm_9 : decode cX11_boundsForm 9 = .ok (.aload_n 0, 1) := by decide +kernel
theorem dX11_boundsForm_10 : decode cX11_boundsForm 10 = .ok (.invokevirtual 159, 3) := by decide +kernel
theorem dX11_boundsForm_13 : decode cX11_boundsForm 13 = .ok (.ifCond .eq 39, 3) := by decide +kernel
theorem dX11_boundsForm_16 : decode cX11_boundsForm 16 = .ok (.aload_n 0, 1) := by decide +kernel
theorem dX11_boundsForm_17 : decode cX11_boundsForm 17 = .ok (.invokevirtual 181, 3) := by decide +kernel
theorem dX11_boundsForm_20 : decode cX11_boundsForm 20 = .ok (.ifCond .eq 32, 3) := by decide +kernel
theorem dX11_boundsForm_23 : decode cX11_boundsForm 23 = .ok (.aload_n 0, 1) := by decide +kernel
theorem dX11_boundsForm_24 : decode cX11_boundsForm 24 = .ok (.ldc 226, 2) := by decide +kernel
theorem dX11_boundsForm_26 : decode cX11_boundsForm 26 = .ok (.invokevirtual 171, 3) := by decide +kernel
theorem dX11_boundsForm_29 : decode cX11_boundsForm 29 = .ok (.ifCond .eq 23, 3) := by decide +kernel
theorem dX11_boundsForm_32 : decode cX11_boundsForm 32 = .ok (.aload_n 0, 1) := by decide +kernel
theorem dX11_boundsForm_33 : decode cX11_boundsForm 33 = .ok (.invokevirtual 181, 3) := by decide +kernel
theorem dX11_boundsForm_36 : decode cX11_boundsForm 36 = .ok (.ifCond .eq 16, 3) := by decide +kernel
theorem dX11_boundsForm_39 : decode cX11_boundsForm 39 = .ok (.aload_n 0, 1) := by decide +kernel
theorem dX11_boundsForm_40 : decode cX11_boundsForm 40 = .ok (.ldc 228, 2) := by decide +kernel
theorem dX11_boundsForm_42 : decode cX11_boundsForm 42 = .ok (.invokevirtual 171, 3) := by decide +kernel
theorem dX11_boundsForm_45 : decode cX11_boundsForm 45 = .ok (.ifCond .eq 7, 3) := by decide +kernel
theorem dX11_boundsForm_48 : decode cX11_boundsForm 48 = .ok (.iconst 1, 1) := by decide +kernel
theorem dX11_boundsForm_49 : decode cX11_boundsForm 49 = .ok (.goto 4, 3) := by decide +kernel
theorem dX11_boundsForm_52 : decode cX11_boundsForm 52 = .ok (.iconst 0, 1) := by decide +kernel
theorem dX11_boundsForm_53 : decode cX11_boundsForm 53 = .ok (.ireturn, 1) := by decide +kernel
theorem dX11_oneForm_0 : decode cX11_oneForm 0 = .ok (.aload_n 0, 1) := by decide +kernel
theorem dX11_oneForm_1 : decode cX11_oneForm 1 = .ok (.aload_n 0, 1) := by decide +kernel
theorem dX11_oneForm_2 : decode cX11_oneForm 2 = .ok (.getfield 152, 3) := by decide +kernel
theorem dX11_oneForm_5 : decode cX11_oneForm 5 = .ok (.getstatic 230, 3) := by decide +kernel
theorem dX11_oneForm_8 : decode cX11_oneForm 8 = .ok (.invokevirtual 146, 3) := by decide +kernel
theorem dX11_oneForm_11 : decode cX11_oneForm 11 = .ok (.istore_n 2, 1) := by decide +kernel
theorem dX11_oneForm_12 : decode cX11_oneForm 12 = .ok (.iload_n 2, 1) := by decide +kernel
theorem dX11_oneForm_13 : decode cX11_oneForm 13 = .ok (.iconst (-1), 1) := by decide +kernel
theorem dX11_oneForm_14 : decode cX11_oneForm 14 = .ok (.if_icmp .eq 44, 3) := by decide +kernel
theorem dX11_oneForm_17 : decode cX11_oneForm 17 = .ok (.iload_n 1, 1) := by decide +kernel
theorem dX11_oneForm_18 : decode cX11_oneForm 18 = .ok (.bipush 10, 2) := by decide +kernel
theorem dX11_oneForm_20 : decode cX11_oneForm 20 = .ok (.if_icmp .ge 36, 3) := by decide +kernel
theorem dX11_oneForm_23 : decode cX11_oneForm 23 = .ok (.aload_n 0, 1) := by decide +kernel
theorem dX11_oneForm_24 : decode cX11_oneForm 24 = .ok (.invokevirtual 159, 3) := by decide +kernel
theorem dX11_oneForm_27 : decode cX11_oneForm 27 = .ok (.ifCond .eq 29, 3) := by decide +kernel
theorem dX11_oneForm_30 : decode cX11_oneForm 30 = .ok (.iload_n 2, 1) := by decide +kernel
theorem dX11_oneForm_31 : decode cX11_oneForm 31 = .ok (.iconst 4, 1) := by decide +kernel
theorem dX11_oneForm_32 : decode cX11_oneForm 32 = .ok (.if_icmp .lt 10, 3) := by decide +kernel
theorem dX11_oneForm_35 : decode cX11_oneForm 35 = .ok (.aload_n 0, 1) := by decide +kernel
theorem dX11_oneForm_36 : decode cX11_oneForm 36 = .ok (.invokevirtual 221, 3) := by decide +kernel
theorem dX11_oneForm_39 : decode cX11_oneForm 39 = .ok (.ifCond .eq 17, 3) := by decide +kernel
theorem dX11_oneForm_42 : decode cX11_oneForm 42 = .ok (.aload_n 0, 1) := by decide +kernel
theorem dX11_oneForm_43 : decode cX11_oneForm 43 = .ok (.iload_n 1, 1) := by decide +kernel
theorem dX11_oneForm_44 : decode cX11_oneForm 44 = .ok (.iconst 1, 1) := by decide +kernel
theorem dX11_oneForm_45 : decode cX11_oneForm 45 = .ok (.iadd, 1) := by decide +kernel
theorem dX11_oneForm_46 : decode cX11_oneForm 46 = .ok (.invokevirtual 216, 3) := by decide +kernel
theorem dX11_oneForm_49 : decode cX11_oneForm 49 = .ok (.ifCond .eq 7, 3) := by decide +kernel
theorem dX11_oneForm_52 : decode cX11_oneForm 52 = .ok (.iconst 1, 1) := by decide +kernel
theorem dX11_oneForm_53 : decode cX11_oneForm 53 = .ok (.goto 4, 3) := by decide +kernel
theorem dX11_oneForm_56 : decode cX11_oneForm 56 = .ok (.iconst 0, 1) := by decide +kernel
theorem dX11_oneForm_57 : decode cX11_oneForm 57 = .ok (.ireturn, 1) := by decide +kernel
theorem dX11_oneForm_58 : decode cX11_oneForm 58 = .ok (.aload_n 0, 1) := by decide +kernel
theorem dX11_oneForm_59 : decode cX11_oneForm 59 = .ok (.ldc 233, 2) := by decide +kernel
theorem dX11_oneForm_61 : decode cX11_oneForm 61 = .ok (.invokevirtual 155, 3) := by decide +kernel
theorem dX11_oneForm_64 : decode cX11_oneForm 64 = .ok (.ifCond .eq 41, 3) := by decide +kernel
theorem dX11_oneForm_67 : decode cX11_oneForm 67 = .ok (.iload_n 1, 1) := by decide +kernel
theorem dX11_oneForm_68 : decode cX11_oneForm 68 = .ok (.bipush 10, 2) := by decide +kernel
theorem dX11_oneForm_70 : decode cX11_oneForm 70 = .ok (.if_icmp .ge 33, 3) := by decide +kernel
theorem dX11_oneForm_73 : decode cX11_oneForm 73 = .ok (.aload_n 0, 1) := by decide +kernel
theorem dX11_oneForm_74 : decode cX11_oneForm 74 = .ok (.invokevirtual 159, 3) := by decide +kernel
theorem dX11_oneForm_77 : decode cX11_oneForm 77 = .ok (.ifCond .eq 26, 3) := by decide +kernel
theorem dX11_oneForm_80 : decode cX11_oneForm 80 = .ok (.aload_n 0, 1) := by decide +kernel
theorem dX11_oneForm_81 : decode cX11_oneForm 81 = .ok (.iload_n 1, 1) := by decide +kernel
theorem dX11_oneForm_82 : decode cX11_oneForm 82 = .ok (.iconst 1, 1) := by decide +kernel
theorem dX11_oneForm_83 : decode cX11_oneForm 83 = .ok (.iadd, 1) := by decide +kernel
theorem dX11_oneForm_84 : decode cX11_oneForm 84 = .ok (.invokevirtual 190, 3) := by decide +kernel
theorem dX11_oneForm_87 : decode cX11_oneForm 87 = .ok (.ifCond .eq 16, 3) := by decide +kernel
theorem dX11_oneForm_90 : decode cX11_oneForm 90 = .ok (.aload_n 0, 1) := by decide +kernel
theorem dX11_oneForm_91 : decode cX11_oneForm 91 = .ok (.ldc 235, 2) := by decide +kernel
theorem dX11_oneForm_93 : decode cX11_oneForm 93 = .ok (.invokevirtual 171, 3) := by decide +kernel
theorem dX11_oneForm_96 : decode cX11_oneForm 96 = .ok (.ifCond .eq 7, 3) := by decide +kernel
theorem dX11_oneForm_99 : decode cX11_oneForm 99 = .ok (.iconst 1, 1) := by decide +kernel
theorem dX11_oneForm_100 : decode cX11_oneForm 100 = .ok (.goto 4, 3) := by decide +kernel
theorem dX11_oneForm_103 : decode cX11_oneForm 103 = .ok (.iconst 0, 1) := by decide +kernel
theorem dX11_oneForm_104 : decode cX11_oneForm 104 = .ok (.ireturn, 1) := by decide +kernel
theorem dX11_oneForm_105 : decode cX11_oneForm 105 = .ok (.aload_n 0, 1) := by decide +kernel
theorem dX11_oneForm_106 : decode cX11_oneForm 106 = .ok (.ldc 237, 2) := by decide +kernel
theorem dX11_oneForm_108 : decode cX11_oneForm 108 = .ok (.invokevirtual 155, 3) := by decide +kernel
theorem dX11_oneForm_111 : decode cX11_oneForm 111 = .ok (.ifCond .ne 12, 3) := by decide +kernel
theorem dX11_oneForm_114 : decode cX11_oneForm 114 = .ok (.aload_n 0, 1) := by decide +kernel
theorem dX11_oneForm_115 : decode cX11_oneForm 115 = .ok (.ldc 239, 2) := by decide +kernel
theorem dX11_oneForm_117 : decode cX11_oneForm 117 = .ok (.invokevirtual 155, 3) := by decide +kernel
theorem dX11_oneForm_120 : decode cX11_oneForm 120 = .ok (.ifCond .eq 8, 3) := by decide +kernel
theorem dX11_oneForm_123 : decode cX11_oneForm 123 = .ok (.aload_n 0, 1) := by decide +kernel
theorem dX11_oneForm_124 : decode cX11_oneForm 124 = .ok (.invokevirtual 159, 3) := by decide +kernel
theorem dX11_oneForm_127 : decode cX11_oneForm 127 = .ok (.ireturn, 1) := by decide +kernel
theorem dX11_oneForm_128 : decode cX11_oneForm 128 = .ok (.aload_n 0, 1) := by decide +kernel
theorem dX11_oneForm_129 : decode cX11_oneForm 129 = .ok (.ldc 241, 2) := by decide +kernel
theorem dX11_oneForm_131 : decode cX11_oneForm 131 = .ok (.invokevirtual 155, 3) := by decide +kernel
theorem dX11_oneForm_134 : decode cX11_oneForm 134 = .ok (.ifCond .eq 23, 3) := by decide +kernel
theorem dX11_oneForm_137 : decode cX11_oneForm 137 = .ok (.aload_n 0, 1) := by decide +kernel
theorem dX11_oneForm_138 : decode cX11_oneForm 138 = .ok (.invokevirtual 159, 3) := by decide +kernel
theorem dX11_oneForm_141 : decode cX11_oneForm 141 = .ok (.ifCond .eq 14, 3) := by decide +kernel
theorem dX11_oneForm_144 : decode cX11_oneForm 144 = .ok (.aload_n 0, 1) := by decide +kernel
theorem dX11_oneForm_145 : decode cX11_oneForm 145 = .ok (.invokevirtual 174, 3) := by decide +kernel
theorem dX11_oneForm_148 : decode cX11_oneForm 148 = .ok (.ifCond .eq 7, 3) := by decide +kernel
theorem dX11_oneForm_151 : decode cX11_oneForm 151 = .ok (.iconst 1, 1) := by decide +kernel
theorem dX11_oneForm_152 : decode cX11_oneForm 152 = .ok (.goto 4, 3) := by decide +kernel
theorem dX11_oneForm_155 : decode cX11_oneForm 155 = .ok (.iconst 0, 1) := by decide +kernel
theorem dX11_oneForm_156 : decode cX11_oneForm 156 = .ok (.ireturn, 1) := by decide +kernel
theorem dX11_oneForm_157 : decode cX11_oneForm 157 = .ok (.aload_n 0, 1) := by decide +kernel
theorem dX11_oneForm_158 : decode cX11_oneForm 158 = .ok (.iload_n 1, 1) := by decide +kernel
theorem dX11_oneForm_159 : decode cX11_oneForm 159 = .ok (.invokevirtual 195, 3) := by decide +kernel
theorem dX11_oneForm_162 : decode cX11_oneForm 162 = .ok (.ifCond .eq 37, 3) := by decide +kernel
theorem dX11_oneForm_165 : decode cX11_oneForm 165 = .ok (.aload_n 0, 1) := by decide +kernel
theorem dX11_oneForm_166 : decode cX11_oneForm 166 = .ok (.aload_n 0, 1) := by decide +kernel
theorem dX11_oneForm_167 : decode cX11_oneForm 167 = .ok (.getfield 152, 3) := by decide +kernel
theorem dX11_oneForm_170 : decode cX11_oneForm 170 = .ok (.getstatic 242, 3) := by decide +kernel
theorem dX11_oneForm_173 : decode cX11_oneForm 173 = .ok (.invokevirtual 146, 3) := by decide +kernel
theorem dX11_oneForm_176 : decode cX11_oneForm 176 = .ok (.iconst (-1), 1) := by decide +kernel
theorem dX11_oneForm_177 : decode cX11_oneForm 177 = .ok (.if_icmp .eq 22, 3) := by decide +kernel
theorem dX11_oneForm_180 : decode cX11_oneForm 180 = .ok (.aload_n 0, 1) := by decide +kernel
theorem dX11_oneForm_181 : decode cX11_oneForm 181 = .ok (.invokevirtual 159, 3) := by decide +kernel
theorem dX11_oneForm_184 : decode cX11_oneForm 184 = .ok (.ifCond .eq 15, 3) := by decide +kernel
theorem dX11_oneForm_187 : decode cX11_oneForm 187 = .ok (.aload_n 0, 1) := by decide +kernel
theorem dX11_oneForm_188 : decode cX11_oneForm 188 = .ok (.iload_n 1, 1) := by decide +kernel
theorem dX11_oneForm_189 : decode cX11_oneForm 189 = .ok (.invokevirtual 195, 3) := by decide +kernel
theorem dX11_oneForm_192 : decode cX11_oneForm 192 = .ok (.ifCond .eq 7, 3) := by decide +kernel
theorem dX11_oneForm_195 : decode cX11_oneForm 195 = .ok (.iconst 1, 1) := by decide +kernel
theorem dX11_oneForm_196 : decode cX11_oneForm 196 = .ok (.goto 4, 3) := by decide +kernel
theorem dX11_oneForm_199 : decode cX11_oneForm 199 = .ok (.iconst 0, 1) := by decide +kernel
theorem dX11_oneForm_200 : decode cX11_oneForm 200 = .ok (.ireturn, 1) := by decide +kernel
theorem dX11_expressionForm_0 : decode cX11_expressionForm 0 = .ok (.aload_n 0, 1) := by decide +kernel
theorem dX11_expressionForm_1 : decode cX11_expressionForm 1 = .ok (.iload_n 1, 1) := by decide +kernel
theorem dX11_expressionForm_2 : decode cX11_expressionForm 2 = .ok (.invokevirtual 245, 3) := by decide +kernel
theorem dX11_expressionForm_5 : decode cX11_expressionForm 5 = .ok (.ifCond .ne 5, 3) := by decide +kernel
theorem dX11_expressionForm_8 : decode cX11_expressionForm 8 = .ok (.iconst 0, 1) := by decide +kernel
theorem dX11_expressionForm_9 : decode cX11_expressionForm 9 = .ok (.ireturn, 1) := by decide +kernel
theorem dX11_expressionForm_10 : decode cX11_expressionForm 10 = .ok (.aload_n 0, 1) := by decide +kernel
theorem dX11_expressionForm_11 : decode cX11_expressionForm 11 = .ok (.ldc 248, 2) := by decide +kernel
theorem dX11_expressionForm_13 : decode cX11_expressionForm 13 = .ok (.invokevirtual 155, 3) := by decide +kernel
theorem dX11_expressionForm_16 : decode cX11_expressionForm 16 = .ok (.ifCond .ne 12, 3) := by decide +kernel
theorem dX11_expressionForm_19 : decode cX11_expressionForm 19 = .ok (.aload_n 0, 1) := by decide +kernel
theorem dX11_expressionForm_20 : decode cX11_expressionForm 20 = .ok (.ldc 179, 2) := by decide +kernel
theorem dX11_expressionForm_22 : decode cX11_expressionForm 22 = .ok (.invokevirtual 155, 3) := by decide +kernel
theorem dX11_expressionForm_25 : decode cX11_expressionForm 25 = .ok (.ifCond .eq 20, 3) := by decide +kernel
theorem dX11_expressionForm_28 : decode cX11_expressionForm 28 = .ok (.aload_n 0, 1) := by decide +kernel
theorem dX11_expressionForm_29 : decode cX11_expressionForm 29 = .ok (.invokevirtual 159, 3) := by decide +kernel
theorem dX11_expressionForm_32 : decode cX11_expressionForm 32 = .ok (.ifCond .eq 11, 3) := by decide +kernel
theorem dX11_expressionForm_35 : decode cX11_expressionForm 35 = .ok (.aload_n 0, 1) := by decide +kernel
theorem dX11_expressionForm_36 : decode cX11_expressionForm 36 = .ok (.iload_n 1, 1) := by decide +kernel
theorem dX11_expressionForm_37 : decode cX11_expressionForm 37 = .ok (.invokevirtual 245, 3) := by decide +kernel
theorem dX11_expressionForm_40 : decode cX11_expressionForm 40 = .ok (.ifCond .ne (-30), 3) := by decide +kernel
theorem dX11_expressionForm_43 : decode cX11_expressionForm 43 = .ok (.iconst 0, 1) := by decide +kernel
theorem dX11_expressionForm_44 : decode cX11_expressionForm 44 = .ok (.ireturn, 1) := by decide +kernel
theorem dX11_expressionForm_45 : decode cX11_expressionForm 45 = .ok (.iconst 1, 1) := by decide +kernel
theorem dX11_expressionForm_46 : decode cX11_expressionForm 46 = .ok (.ireturn, 1) := by decide +kernel
theorem dX11_productForm_0 : decode cX11_productForm 0 = .ok (.aload_n 0, 1) := by decide +kernel
theorem dX11_productForm_1 : decode cX11_productForm 1 = .ok (.iload_n 1, 1) := by decide +kernel
theorem dX11_productForm_2 : decode cX11_productForm 2 = .ok (.invokevirtual 250, 3) := by decide +kernel
theorem dX11_productForm_5 : decode cX11_productForm 5 = .ok (.ifCond .ne 5, 3) := by decide +kernel
theorem dX11_productForm_8 : decode cX11_productForm 8 = .ok (.iconst 0, 1) := by decide +kernel
theorem dX11_productForm_9 : decode cX11_productForm 9 = .ok (.ireturn, 1) := by decide +kernel
theorem dX11_productForm_10 : decode cX11_productForm 10 = .ok (.aload_n 0, 1) := by decide +kernel
theorem dX11_productForm_11 : decode cX11_productForm 11 = .ok (.ldc 253, 2) := by decide +kernel
theorem dX11_productForm_13 : decode cX11_productForm 13 = .ok (.invokevirtual 155, 3) := by decide +kernel
theorem dX11_productForm_16 : decode cX11_productForm 16 = .ok (.ifCond .ne 22, 3) := by decide +kernel
theorem dX11_productForm_19 : decode cX11_productForm 19 = .ok (.aload_n 0, 1) := by decide +kernel
theorem dX11_productForm_20 : decode cX11_productForm 20 = .ok (.ldc 255, 2) := by decide +kernel
theorem dX11_productForm_22 : decode cX11_productForm 22 = .ok (.invokevirtual 155, 3) := by decide +kernel
theorem dX11_productForm_25 : decode cX11_productForm 25 = .ok (.ifCond .ne 13, 3) := by decide +kernel
theorem dX11_productForm_28 : decode cX11_productForm 28 = .ok (.aload_n 0, 1) := by decide +kernel
theorem dX11_productForm_29 : decode cX11_productForm 29 = .ok (.ldc_w 257, 3) := by decide +kernel
theorem dX11_productForm_32 : decode cX11_productForm 32 = .ok (.invokevirtual 155, 3) := by decide +kernel
theorem dX11_productForm_35 : decode cX11_productForm 35 = .ok (.ifCond .eq 20, 3) := by decide +kernel
theorem dX11_productForm_38 : decode cX11_productForm 38 = .ok (.aload_n 0, 1) := by decide +kernel
theorem dX11_productForm_39 : decode cX11_productForm 39 = .ok (.invokevirtual 159, 3) := by decide +kernel
theorem dX11_productForm_42 : decode cX11_productForm 42 = .ok (.ifCond .eq 11, 3) := by decide +kernel
theorem dX11_productForm_45 : decode cX11_productForm 45 = .ok (.aload_n 0, 1) := by decide +kernel
theorem dX11_productForm_46 : decode cX11_productForm 46 = .ok (.iload_n 1, 1) := by decide +kernel
theorem dX11_productForm_47 : decode cX11_productForm 47 = .ok (.invokevirtual 250, 3) := by decide +kernel
theorem dX11_productForm_50 : decode cX11_productForm 50 = .ok (.ifCond .ne (-40), 3) := by decide +kernel
theorem dX11_productForm_53 : decode cX11_productForm 53 = .ok (.iconst 0, 1) := by decide +kernel
theorem dX11_productForm_54 : decode cX11_productForm 54 = .ok (.ireturn, 1) := by decide +kernel
theorem dX11_productForm_55 : decode cX11_productForm 55 = .ok (.iconst 1, 1) := by decide +kernel
theorem dX11_productForm_56 : decode cX11_productForm 56 = .ok (.ireturn, 1) := by decide +kernel
theorem dX11_bracesForm_0 : decode cX11_bracesForm 0 = .ok (.aload_n 0, 1) := by decide +kernel
theorem dX11_bracesForm_1 : decode cX11_bracesForm 1 = .ok (.ldc 233, 2) := by decide +kernel
theorem dX11_bracesForm_3 : decode cX11_bracesForm 3 = .ok (.invokevirtual 155, 3) := by decide +kernel
theorem dX11_bracesForm_6 : decode cX11_bracesForm 6 = .ok (.ifCond .eq 30, 3) := by decide +kernel
theorem dX11_bracesForm_9 : decode cX11_bracesForm 9 = .ok (.iload_n 1, 1) := by decide +kernel
theorem dX11_bracesForm_10 : decode cX11_bracesForm 10 = .ok (.bipush 10, 2) := by decide +kernel
theorem dX11_bracesForm_12 : decode cX11_bracesForm 12 = .ok (.if_icmp .ge 24, 3) := by decide +kernel
theorem dX11_bracesForm_15 : decode cX11_bracesForm 15 = .ok (.aload_n 0, 1) := by decide +kernel
theorem dX11_bracesForm_16 : decode cX11_bracesForm 16 = .ok (.invokevirtual 159, 3) := by decide +kernel
theorem dX11_bracesForm_19 : decode cX11_bracesForm 19 = .ok (.ifCond .eq 17, 3) := by decide +kernel
theorem dX11_bracesForm_22 : decode cX11_bracesForm 22 = .ok (.aload_n 0, 1) := by decide +kernel
theorem dX11_bracesForm_23 : decode cX11_bracesForm 23 = .ok (.iload_n 1, 1) := by decide +kernel
theorem dX11_bracesForm_24 : decode cX11_bracesForm 24 = .ok (.iconst 1, 1) := by decide +kernel
theorem dX11_bracesForm_25 : decode cX11_bracesForm 25 = .ok (.iadd, 1) := by decide +kernel
theorem dX11_bracesForm_26 : decode cX11_bracesForm 26 = .ok (.invokevirtual 190, 3) := by decide +kernel
theorem dX11_bracesForm_29 : decode cX11_bracesForm 29 = .ok (.ifCond .eq 7, 3) := by decide +kernel
theorem dX11_bracesForm_32 : decode cX11_bracesForm 32 = .ok (.iconst 1, 1) := by decide +kernel
theorem dX11_bracesForm_33 : decode cX11_bracesForm 33 = .ok (.goto 4, 3) := by decide +kernel
theorem dX11_bracesForm_36 : decode cX11_bracesForm 36 = .ok (.iconst 0, 1) := by decide +kernel
theorem dX11_bracesForm_37 : decode cX11_bracesForm 37 = .ok (.ireturn, 1) := by decide +kernel
theorem dX11_factorForm_0 : decode cX11_factorForm 0 = .ok (.aload_n 0, 1) := by decide +kernel
theorem dX11_factorForm_1 : decode cX11_factorForm 1 = .ok (.getfield 17, 3) := by decide +kernel
theorem dX11_factorForm_4 : decode cX11_factorForm 4 = .ok (.aload_n 0, 1) := by decide +kernel
theorem dX11_factorForm_5 : decode cX11_factorForm 5 = .ok (.getfield 152, 3) := by decide +kernel
theorem dX11_factorForm_8 : decode cX11_factorForm 8 = .ok (.iaload, 1) := by decide +kernel
theorem dX11_factorForm_9 : decode cX11_factorForm 9 = .ok (.iconst 2, 1) := by decide +kernel
theorem dX11_factorForm_10 : decode cX11_factorForm 10 = .ok (.if_icmp .eq 34, 3) := by decide +kernel
theorem dX11_factorForm_13 : decode cX11_factorForm 13 = .ok (.aload_n 0, 1) := by decide +kernel
theorem dX11_factorForm_14 : decode cX11_factorForm 14 = .ok (.aload_n 0, 1) := by decide +kernel
theorem dX11_factorForm_15 : decode cX11_factorForm 15 = .ok (.getfield 152, 3) := by decide +kernel
theorem dX11_factorForm_18 : decode cX11_factorForm 18 = .ok (.invokevirtual 163, 3) := by decide +kernel
theorem dX11_factorForm_21 : decode cX11_factorForm 21 = .ok (.ifCond .ne 23, 3) := by decide +kernel
theorem dX11_factorForm_24 : decode cX11_factorForm 24 = .ok (.aload_n 0, 1) := by decide +kernel
theorem dX11_factorForm_25 : decode cX11_factorForm 25 = .ok (.ldc_w 259, 3) := by decide +kernel
theorem dX11_factorForm_28 : decode cX11_factorForm 28 = .ok (.invokevirtual 155, 3) := by decide +kernel
theorem dX11_factorForm_31 : decode cX11_factorForm 31 = .ok (.ifCond .ne 13, 3) := by decide +kernel
theorem dX11_factorForm_34 : decode cX11_factorForm 34 = .ok (.aload_n 0, 1) := by decide +kernel
theorem dX11_factorForm_35 : decode cX11_factorForm 35 = .ok (.ldc_w 261, 3) := by decide +kernel
theorem dX11_factorForm_38 : decode cX11_factorForm 38 = .ok (.invokevirtual 155, 3) := by decide +kernel
theorem dX11_factorForm_41 : decode cX11_factorForm 41 = .ok (.ifCond .eq 8, 3) := by decide +kernel
theorem dX11_factorForm_44 : decode cX11_factorForm 44 = .ok (.aload_n 0, 1) := by decide +kernel
theorem dX11_factorForm_45 : decode cX11_factorForm 45 = .ok (.invokevirtual 159, 3) := by decide +kernel
theorem dX11_factorForm_48 : decode cX11_factorForm 48 = .ok (.ireturn, 1) := by decide +kernel
theorem dX11_factorForm_49 : decode cX11_factorForm 49 = .ok (.aload_n 0, 1) := by decide +kernel
theorem dX11_factorForm_50 : decode cX11_factorForm 50 = .ok (.ldc_w 263, 3) := by decide +kernel
theorem dX11_factorForm_53 : decode cX11_factorForm 53 = .ok (.invokevirtual 155, 3) := by decide +kernel
theorem dX11_factorForm_56 : decode cX11_factorForm 56 = .ok (.ifCond .eq 42, 3) := by decide +kernel
theorem dX11_factorForm_59 : decode cX11_factorForm 59 = .ok (.iload_n 1, 1) := by decide +kernel
theorem dX11_factorForm_60 : decode cX11_factorForm 60 = .ok (.bipush 10, 2) := by decide +kernel
theorem dX11_factorForm_62 : decode cX11_factorForm 62 = .ok (.if_icmp .ge 34, 3) := by decide +kernel
theorem dX11_factorForm_65 : decode cX11_factorForm 65 = .ok (.aload_n 0, 1) := by decide +kernel
theorem dX11_factorForm_66 : decode cX11_factorForm 66 = .ok (.invokevirtual 159, 3) := by decide +kernel
theorem dX11_factorForm_69 : decode cX11_factorForm 69 = .ok (.ifCond .eq 27, 3) := by decide +kernel
theorem dX11_factorForm_72 : decode cX11_factorForm 72 = .ok (.aload_n 0, 1) := by decide +kernel
theorem dX11_factorForm_73 : decode cX11_factorForm 73 = .ok (.iload_n 1, 1) := by decide +kernel
theorem dX11_factorForm_74 : decode cX11_factorForm 74 = .ok (.iconst 1, 1) := by decide +kernel
theorem dX11_factorForm_75 : decode cX11_factorForm 75 = .ok (.iadd, 1) := by decide +kernel
theorem dX11_factorForm_76 : decode cX11_factorForm 76 = .ok (.invokevirtual 195, 3) := by decide +kernel
theorem dX11_factorForm_79 : decode cX11_factorForm 79 = .ok (.ifCond .eq 17, 3) := by decide +kernel
theorem dX11_factorForm_82 : decode cX11_factorForm 82 = .ok (.aload_n 0, 1) := by decide +kernel
theorem dX11_factorForm_83 : decode cX11_factorForm 83 = .ok (.ldc_w 265, 3) := by decide +kernel
theorem dX11_factorForm_86 : decode cX11_factorForm 86 = .ok (.invokevirtual 171, 3) := by decide +kernel
theorem dX11_factorForm_89 : decode cX11_factorForm 89 = .ok (.ifCond .eq 7, 3) := by decide +kernel
theorem dX11_factorForm_92 : decode cX11_factorForm 92 = .ok (.iconst 1, 1) := by decide +kernel
theorem dX11_factorForm_93 : decode cX11_factorForm 93 = .ok (.goto 4, 3) := by decide +kernel
theorem dX11_factorForm_96 : decode cX11_factorForm 96 = .ok (.iconst 0, 1) := by decide +kernel
theorem dX11_factorForm_97 : decode cX11_factorForm 97 = .ok (.ireturn, 1) := by decide +kernel
theorem dX11_factorForm_98 : decode cX11_factorForm 98 = .ok (.aload_n 0, 1) := by decide +kernel
theorem dX11_factorForm_99 : decode cX11_factorForm 99 = .ok (.aload_n 0, 1) := by decide +kernel
theorem dX11_factorForm_100 : decode cX11_factorForm 100 = .ok (.getfield 152, 3) := by decide +kernel
theorem dX11_factorForm_103 : decode cX11_factorForm 103 = .ok (.getstatic 267, 3) := by decide +kernel
theorem dX11_factorForm_106 : decode cX11_factorForm 106 = .ok (.invokevirtual 146, 3) := by decide +kernel
theorem dX11_factorForm_109 : decode cX11_factorForm 109 = .ok (.iconst (-1), 1) := by decide +kernel
theorem dX11_factorForm_110 : decode cX11_factorForm 110 = .ok (.if_icmp .eq 32, 3) := by decide +kernel
theorem dX11_factorForm_113 : decode cX11_factorForm 113 = .ok (.iload_n 1, 1) := by decide +kernel
theorem dX11_factorForm_114 : decode cX11_factorForm 114 = .ok (.bipush 10, 2) := by decide +kernel
theorem dX11_factorForm_116 : decode cX11_factorForm 116 = .ok (.if_icmp .ge 24, 3) := by decide +kernel
theorem dX11_factorForm_119 : decode cX11_factorForm 119 = .ok (.aload_n 0, 1) := by decide +kernel
theorem dX11_factorForm_120 : decode cX11_factorForm 120 = .ok (.invokevirtual 159, 3) := by decide +kernel
theorem dX11_factorForm_123 : decode cX11_factorForm 123 = .ok (.ifCond .eq 17, 3) := by decide +kernel
theorem dX11_factorForm_126 : decode cX11_factorForm 126 = .ok (.aload_n 0, 1) := by decide +kernel
theorem dX11_factorForm_127 : decode cX11_factorForm 127 = .ok (.iload_n 1, 1) := by decide +kernel
theorem dX11_factorForm_128 : decode cX11_factorForm 128 = .ok (.iconst 1, 1) := by decide +kernel
theorem dX11_factorForm_129 : decode cX11_factorForm 129 = .ok (.iadd, 1) := by decide +kernel
theorem dX11_factorForm_130 : decode cX11_factorForm 130 = .ok (.invokevirtual 250, 3) := by decide +kernel
theorem dX11_factorForm_133 : decode cX11_factorForm 133 = .ok (.ifCond .eq 7, 3) := by decide +kernel
theorem dX11_factorForm_136 : decode cX11_factorForm 136 = .ok (.iconst 1, 1) := by decide +kernel
theorem dX11_factorForm_137 : decode cX11_factorForm 137 = .ok (.goto 4, 3) := by decide +kernel
theorem dX11_factorForm_140 : decode cX11_factorForm 140 = .ok (.iconst 0, 1) := by decide +kernel
theorem dX11_factorForm_141 : decode cX11_factorForm 141 = .ok (.ireturn, 1) := by decide +kernel
theorem dX11_factorForm_142 : decode cX11_factorForm 142 = .ok (.aload_n 0, 1) := by decide +kernel
theorem dX11_factorForm_143 : decode cX11_factorForm 143 = .ok (.ldc_w 270, 3) := by decide +kernel
theorem dX11_factorForm_146 : decode cX11_factorForm 146 = .ok (.invokevirtual 155, 3) := by decide +kernel
theorem dX11_factorForm_149 : decode cX11_factorForm 149 = .ok (.ifCond .ne 13, 3) := by decide +kernel
theorem dX11_factorForm_152 : decode cX11_factorForm 152 = .ok (.aload_n 0, 1) := by decide +kernel
theorem dX11_factorForm_153 : decode cX11_factorForm 153 = .ok (.ldc_w 272, 3) := by decide +kernel
theorem dX11_factorForm_156 : decode cX11_factorForm 156 = .ok (.invokevirtual 155, 3) := by decide +kernel
theorem dX11_factorForm_159 : decode cX11_factorForm 159 = .ok (.ifCond .eq 33, 3) := by decide +kernel
theorem dX11_factorForm_162 : decode cX11_factorForm 162 = .ok (.aload_n 0, 1) := by decide +kernel
theorem dX11_factorForm_163 : decode cX11_factorForm 163 = .ok (.invokevirtual 159, 3) := by decide +kernel
theorem dX11_factorForm_166 : decode cX11_factorForm 166 = .ok (.ifCond .eq 24, 3) := by decide +kernel
theorem dX11_factorForm_169 : decode cX11_factorForm 169 = .ok (.aload_n 0, 1) := by decide +kernel
theorem dX11_factorForm_170 : decode cX11_factorForm 170 = .ok (.iload_n 1, 1) := by decide +kernel
theorem dX11_factorForm_171 : decode cX11_factorForm 171 = .ok (.invokevirtual 274, 3) := by decide +kernel
theorem dX11_factorForm_174 : decode cX11_factorForm 174 = .ok (.ifCond .eq 16, 3) := by decide +kernel
theorem dX11_factorForm_177 : decode cX11_factorForm 177 = .ok (.aload_n 0, 1) := by decide +kernel
theorem dX11_factorForm_178 : decode cX11_factorForm 178 = .ok (.ldc 235, 2) := by decide +kernel
theorem dX11_factorForm_180 : decode cX11_factorForm 180 = .ok (.invokevirtual 171, 3) := by decide +kernel
theorem dX11_factorForm_183 : decode cX11_factorForm 183 = .ok (.ifCond .eq 7, 3) := by decide +kernel
theorem dX11_factorForm_186 : decode cX11_factorForm 186 = .ok (.iconst 1, 1) := by decide +kernel
theorem dX11_factorForm_187 : decode cX11_factorForm 187 = .ok (.goto 4, 3) := by decide +kernel
theorem dX11_factorForm_190 : decode cX11_factorForm 190 = .ok (.iconst 0, 1) := by decide +kernel
theorem dX11_factorForm_191 : decode cX11_factorForm 191 = .ok (.ireturn, 1) := by decide +kernel
theorem dX11_factorForm_192 : decode cX11_factorForm 192 = .ok (.aload_n 0, 1) := by decide +kernel
theorem dX11_factorForm_193 : decode cX11_factorForm 193 = .ok (.ldc_w 277, 3) := by decide +kernel
theorem dX11_factorForm_196 : decode cX11_factorForm 196 = .ok (.invokevirtual 155, 3) := by decide +kernel
theorem dX11_factorForm_199 : decode cX11_factorForm 199 = .ok (.ifCond .eq 43, 3) := by decide +kernel
theorem dX11_factorForm_202 : decode cX11_factorForm 202 = .ok (.aload_n 0, 1) := by decide +kernel
theorem dX11_factorForm_203 : decode cX11_factorForm 203 = .ok (.invokevirtual 159, 3) := by decide +kernel
theorem dX11_factorForm_206 : decode cX11_factorForm 206 = .ok (.ifCond .eq 34, 3) := by decide +kernel
theorem dX11_factorForm_209 : decode cX11_factorForm 209 = .ok (.aload_n 0, 1) := by decide +kernel
theorem dX11_factorForm_210 : decode cX11_factorForm 210 = .ok (.iload_n 1, 1) := by decide +kernel
theorem dX11_factorForm_211 : decode cX11_factorForm 211 = .ok (.invokevirtual 274, 3) := by decide +kernel
theorem dX11_factorForm_214 : decode cX11_factorForm 214 = .ok (.ifCond .eq 26, 3) := by decide +kernel
theorem dX11_factorForm_217 : decode cX11_factorForm 217 = .ok (.aload_n 0, 1) := by decide +kernel
theorem dX11_factorForm_218 : decode cX11_factorForm 218 = .ok (.ldc 235, 2) := by decide +kernel
theorem dX11_factorForm_220 : decode cX11_factorForm 220 = .ok (.invokevirtual 171, 3) := by decide +kernel
theorem dX11_factorForm_223 : decode cX11_factorForm 223 = .ok (.ifCond .eq 17, 3) := by decide +kernel
theorem dX11_factorForm_226 : decode cX11_factorForm 226 = .ok (.aload_n 0, 1) := by decide +kernel
theorem dX11_factorForm_227 : decode cX11_factorForm 227 = .ok (.iload_n 1, 1) := by decide +kernel
theorem dX11_factorForm_228 : decode cX11_factorForm 228 = .ok (.iconst 1, 1) := by decide +kernel
theorem dX11_factorForm_229 : decode cX11_factorForm 229 = .ok (.iadd, 1) := by decide +kernel
theorem dX11_factorForm_230 : decode cX11_factorForm 230 = .ok (.invokevirtual 250, 3) := by decide +kernel
theorem dX11_factorForm_233 : decode cX11_factorForm 233 = .ok (.ifCond .eq 7, 3) := by decide +kernel
theorem dX11_factorForm_236 : decode cX11_factorForm 236 = .ok (.iconst 1, 1) := by decide +kernel
theorem dX11_factorForm_237 : decode cX11_factorForm 237 = .ok (.goto 4, 3) := by decide +kernel
theorem dX11_factorForm_240 : decode cX11_factorForm 240 = .ok (.iconst 0, 1) := by decide +kernel
theorem dX11_factorForm_241 : decode cX11_factorForm 241 = .ok (.ireturn, 1) := by decide +kernel
theorem dX11_factorForm_242 : decode cX11_factorForm 242 = .ok (.aload_n 0, 1) := by decide +kernel
theorem dX11_factorForm_243 : decode cX11_factorForm 243 = .ok (.ldc_w 278, 3) := by decide +kernel
theorem dX11_factorForm_246 : decode cX11_factorForm 246 = .ok (.invokevirtual 171, 3) := by decide +kernel
theorem dX11_factorForm_249 : decode cX11_factorForm 249 = .ok (.ifCond .eq 64, 3) := by decide +kernel
theorem dX11_factorForm_252 : decode cX11_factorForm 252 = .ok (.aload_n 0, 1) := by decide +kernel
theorem dX11_factorForm_253 : decode cX11_factorForm 253 = .ok (.iload_n 1, 1) := by decide +kernel
theorem dX11_factorForm_254 : decode cX11_factorForm 254 = .ok (.invokevirtual 274, 3) := by decide +kernel
theorem dX11_factorForm_257 : decode cX11_factorForm 257 = .ok (.ifCond .eq 56, 3) := by decide +kernel
theorem dX11_factorForm_260 : decode cX11_factorForm 260 = .ok (.aload_n 0, 1) := by decide +kernel
theorem dX11_factorForm_261 : decode cX11_factorForm 261 = .ok (.ldc 235, 2) := by decide +kernel
theorem dX11_factorForm_263 : decode cX11_factorForm 263 = .ok (.invokevirtual 171, 3) := by decide +kernel
theorem dX11_factorForm_266 : decode cX11_factorForm 266 = .ok (.ifCond .eq 47, 3) := by decide +kernel
theorem dX11_factorForm_269 : decode cX11_factorForm 269 = .ok (.aload_n 0, 1) := by decide +kernel
theorem dX11_factorForm_270 : decode cX11_factorForm 270 = .ok (.ldc_w 280, 3) := by decide +kernel
theorem dX11_factorForm_273 : decode cX11_factorForm 273 = .ok (.invokevirtual 171, 3) := by decide +kernel
theorem dX11_factorForm_276 : decode cX11_factorForm 276 = .ok (.ifCond .eq 37, 3) := by decide +kernel
theorem dX11_factorForm_279 : decode cX11_factorForm 279 = .ok (.aload_n 0, 1) := by decide +kernel
theorem dX11_factorForm_280 : decode cX11_factorForm 280 = .ok (.iload_n 1, 1) := by decide +kernel
theorem dX11_factorForm_281 : decode cX11_factorForm 281 = .ok (.iconst 1, 1) := by decide +kernel
theorem dX11_factorForm_282 : decode cX11_factorForm 282 = .ok (.iadd, 1) := by decide +kernel
theorem dX11_factorForm_283 : decode cX11_factorForm 283 = .ok (.invokevirtual 250, 3) := by decide +kernel
theorem dX11_factorForm_286 : decode cX11_factorForm 286 = .ok (.ifCond .eq 27, 3) := by decide +kernel
theorem dX11_factorForm_289 : decode cX11_factorForm 289 = .ok (.aload_n 0, 1) := by decide +kernel
theorem dX11_factorForm_290 : decode cX11_factorForm 290 = .ok (.ldc_w 282, 3) := by decide +kernel
theorem dX11_factorForm_293 : decode cX11_factorForm 293 = .ok (.invokevirtual 171, 3) := by decide +kernel
theorem dX11_factorForm_296 : decode cX11_factorForm 296 = .ok (.ifCond .eq 17, 3) := by decide +kernel
theorem dX11_factorForm_299 : decode cX11_factorForm 299 = .ok (.aload_n 0, 1) := by decide +kernel
theorem dX11_factorForm_300 : decode cX11_factorForm 300 = .ok (.iload_n 1, 1) := by decide +kernel
theorem dX11_factorForm_301 : decode cX11_factorForm 301 = .ok (.iconst 1, 1) := by decide +kernel
theorem dX11_factorForm_302 : decode cX11_factorForm 302 = .ok (.iadd, 1) := by decide +kernel
theorem dX11_factorForm_303 : decode cX11_factorForm 303 = .ok (.invokevirtual 250, 3) := by decide +kernel
theorem dX11_factorForm_306 : decode cX11_factorForm 306 = .ok (.ifCond .eq 7, 3) := by decide +kernel
theorem dX11_factorForm_309 : decode cX11_factorForm 309 = .ok (.iconst 1, 1) := by decide +kernel
theorem dX11_factorForm_310 : decode cX11_factorForm 310 = .ok (.goto 4, 3) := by decide +kernel
theorem dX11_factorForm_313 : decode cX11_factorForm 313 = .ok (.iconst 0, 1) := by decide +kernel
theorem dX11_factorForm_314 : decode cX11_factorForm 314 = .ok (.ireturn, 1) := by decide +kernel
theorem dX11_wrong_0 : decode cX11_wrong 0 = .ok (.aload_n 0, 1) := by decide +kernel
theorem dX11_wrong_1 : decode cX11_wrong 1 = .ok (.aload_n 0, 1) := by decide +kernel
theorem dX11_wrong_2 : decode cX11_wrong 2 = .ok (.getfield 20, 3) := by decide +kernel
theorem dX11_wrong_5 : decode cX11_wrong 5 = .ok (.iload_n 2, 1) := by decide +kernel
theorem dX11_wrong_6 : decode cX11_wrong 6 = .ok (.iaload, 1) := by decide +kernel
theorem dX11_wrong_7 : decode cX11_wrong 7 = .ok (.putfield 13, 3) := by decide +kernel
theorem dX11_wrong_10 : decode cX11_wrong 10 = .ok (.iload_n 1, 1) := by decide +kernel
theorem dX11_wrong_11 : decode cX11_wrong 11 = .ok (.ireturn, 1) := by decide +kernel
theorem dX11_find_0 : decode cX11_find 0 = .ok (.iconst (-1), 1) := by decide +kernel
theorem dX11_find_1 : decode cX11_find 1 = .ok (.istore_n 2, 1) := by decide +kernel
theorem dX11_find_2 : decode cX11_find 2 = .ok (.iconst 0, 1) := by decide +kernel
theorem dX11_find_3 : decode cX11_find 3 = .ok (.istore_n 3, 1) := by decide +kernel
theorem dX11_find_4 : decode cX11_find 4 = .ok (.iload_n 3, 1) := by decide +kernel
theorem dX11_find_5 : decode cX11_find 5 = .ok (.aload_n 0, 1) := by decide +kernel
theorem dX11_find_6 : decode cX11_find 6 = .ok (.getfield 284, 3) := by decide +kernel
theorem dX11_find_9 : decode cX11_find 9 = .ok (.if_icmp .ge 26, 3) := by decide +kernel
theorem dX11_find_12 : decode cX11_find 12 = .ok (.aload_n 0, 1) := by decide +kernel
theorem dX11_find_13 : decode cX11_find 13 = .ok (.getfield 52, 3) := by decide +kernel
theorem dX11_find_16 : decode cX11_find 16 = .ok (.iload_n 3, 1) := by decide +kernel
theorem dX11_find_17 : decode cX11_find 17 = .ok (.laload, 1) := by decide +kernel
theorem dX11_find_18 : decode cX11_find 18 = .ok (.aload_n 0, 1) := by decide +kernel
theorem dX11_find_19 : decode cX11_find 19 = .ok (.iload_n 1, 1) := by decide +kernel
theorem dX11_find_20 : decode cX11_find 20 = .ok (.invokevirtual 287, 3) := by decide +kernel
theorem dX11_find_23 : decode cX11_find 23 = .ok (.lcmp, 1) := by decide +kernel
theorem dX11_find_24 : decode cX11_find 24 = .ok (.ifCond .ne 5, 3) := by decide +kernel
theorem dX11_find_27 : decode cX11_find 27 = .ok (.iload_n 3, 1) := by decide +kernel
theorem dX11_find_28 : decode cX11_find 28 = .ok (.istore_n 2, 1) := by decide +kernel
theorem dX11_find_29 : decode cX11_find 29 = .ok (.iinc 3 1, 3) := by decide +kernel
theorem dX11_find_32 : decode cX11_find 32 = .ok (.goto (-28), 3) := by decide +kernel
theorem dX11_find_35 : decode cX11_find 35 = .ok (.iload_n 2, 1) := by decide +kernel
theorem dX11_find_36 : decode cX11_find 36 = .ok (.ireturn, 1) := by decide +kernel
theorem dX11_meaning_0 : decode cX11_meaning 0 = .ok (.aload_n 0, 1) := by decide +kernel
theorem dX11_meaning_1 : decode cX11_meaning 1 = .ok (.getfield 17, 3) := by decide +kernel
theorem dX11_meaning_4 : decode cX11_meaning 4 = .ok (.aload_n 0, 1) := by decide +kernel
theorem dX11_meaning_5 : decode cX11_meaning 5 = .ok (.getfield 152, 3) := by decide +kernel
theorem dX11_meaning_8 : decode cX11_meaning 8 = .ok (.iaload, 1) := by decide +kernel
theorem dX11_meaning_9 : decode cX11_meaning 9 = .ok (.ifCond .eq 27, 3) := by decide +kernel
theorem dX11_meaning_12 : decode cX11_meaning 12 = .ok (.aload_n 0, 1) := by decide +kernel
theorem dX11_meaning_13 : decode cX11_meaning 13 = .ok (.invokevirtual 291, 3) := by decide +kernel
theorem dX11_meaning_16 : decode cX11_meaning 16 = .ok (.istore_n 1, 1) := by decide +kernel
theorem dX11_meaning_17 : decode cX11_meaning 17 = .ok (.iload_n 1, 1) := by decide +kernel
theorem dX11_meaning_18 : decode cX11_meaning 18 = .ok (.ifCond .eq 5, 3) := by decide +kernel
theorem dX11_meaning_21 : decode cX11_meaning 21 = .ok (.iload_n 1, 1) := by decide +kernel
theorem dX11_meaning_22 : decode cX11_meaning 22 = .ok (.ireturn, 1) := by decide +kernel
theorem dX11_meaning_23 : decode cX11_meaning 23 = .ok (.aload_n 0, 1) := by decide +kernel
theorem dX11_meaning_24 : decode cX11_meaning 24 = .ok (.dup, 1) := by decide +kernel
theorem dX11_meaning_25 : decode cX11_meaning 25 = .ok (.getfield 152, 3) := by decide +kernel
theorem dX11_meaning_28 : decode cX11_meaning 28 = .ok (.iconst 1, 1) := by decide +kernel
theorem dX11_meaning_29 : decode cX11_meaning 29 = .ok (.iadd, 1) := by decide +kernel
theorem dX11_meaning_30 : decode cX11_meaning 30 = .ok (.putfield 152, 3) := by decide +kernel
theorem dX11_meaning_33 : decode cX11_meaning 33 = .ok (.goto (-33), 3) := by decide +kernel
theorem dX11_meaning_36 : decode cX11_meaning 36 = .ok (.aload_n 0, 1) := by decide +kernel
theorem dX11_meaning_37 : decode cX11_meaning 37 = .ok (.getfield 61, 3) := by decide +kernel
theorem dX11_meaning_40 : decode cX11_meaning 40 = .ok (.iconst 3, 1) := by decide +kernel
theorem dX11_meaning_41 : decode cX11_meaning 41 = .ok (.iaload, 1) := by decide +kernel
theorem dX11_meaning_42 : decode cX11_meaning 42 = .ok (.ifCond .ne 16, 3) := by decide +kernel
theorem dX11_meaning_45 : decode cX11_meaning 45 = .ok (.aload_n 0, 1) := by decide +kernel
theorem dX11_meaning_46 : decode cX11_meaning 46 = .ok (.bipush 6, 2) := by decide +kernel
theorem dX11_meaning_48 : decode cX11_meaning 48 = .ok (.aload_n 0, 1) := by decide +kernel
theorem dX11_meaning_49 : decode cX11_meaning 49 = .ok (.getfield 152, 3) := by decide +kernel
theorem dX11_meaning_52 : decode cX11_meaning 52 = .ok (.invokevirtual 294, 3) := by decide +kernel
theorem dX11_meaning_55 : decode cX11_meaning 55 = .ok (.goto 4, 3) := by decide +kernel
theorem dX11_meaning_58 : decode cX11_meaning 58 = .ok (.iconst 0, 1) := by decide +kernel
theorem dX11_meaning_59 : decode cX11_meaning 59 = .ok (.ireturn, 1) := by decide +kernel
theorem dX11_itemMeant_0 : decode cX11_itemMeant 0 = .ok (.iconst 4, 1) := by decide +kernel
theorem dX11_itemMeant_1 : decode cX11_itemMeant 1 = .ok (.anewarray 111, 3) := by decide +kernel
theorem dX11_itemMeant_4 : decode cX11_itemMeant 4 = .ok (.dup, 1) := by decide +kernel
theorem dX11_itemMeant_5 : decode cX11_itemMeant 5 = .ok (.iconst 0, 1) := by decide +kernel
theorem dX11_itemMeant_6 : decode cX11_itemMeant 6 = .ok (.ldc 169, 2) := by decide +kernel
theorem dX11_itemMeant_8 : decode cX11_itemMeant 8 = .ok (.aastore, 1) := by decide +kernel
theorem dX11_itemMeant_9 : decode cX11_itemMeant 9 = .ok (.dup, 1) := by decide +kernel
theorem dX11_itemMeant_10 : decode cX11_itemMeant 10 = .ok (.iconst 1, 1) := by decide +kernel
theorem dX11_itemMeant_11 : decode cX11_itemMeant 11 = .ok (.ldc 186, 2) := by decide +kernel
theorem dX11_itemMeant_13 : decode cX11_itemMeant 13 = .ok (.aastore, 1) := by decide +kernel
theorem dX11_itemMeant_14 : decode cX11_itemMeant 14 = .ok (.dup, 1) := by decide +kernel
theorem dX11_itemMeant_15 : decode cX11_itemMeant 15 = .ok (.iconst 2, 1) := by decide +kernel
theorem dX11_itemMeant_16 : decode cX11_itemMeant 16 = .ok (.ldc 193, 2) := by decide +kernel
theorem dX11_itemMeant_18 : decode cX11_itemMeant 18 = .ok (.aastore, 1) := by decide +kernel
theorem dX11_itemMeant_19 : decode cX11_itemMeant 19 = .ok (.dup, 1) := by decide +kernel
theorem dX11_itemMeant_20 : decode cX11_itemMeant 20 = .ok (.iconst 3, 1) := by decide +kernel
theorem dX11_itemMeant_21 : decode cX11_itemMeant 21 = .ok (.ldc 198, 2) := by decide +kernel
theorem dX11_itemMeant_23 : decode cX11_itemMeant 23 = .ok (.aastore, 1) := by decide +kernel
theorem dX11_itemMeant_24 : decode cX11_itemMeant 24 = .ok (.astore_n 1, 1) := by decide +kernel
theorem dX11_itemMeant_25 : decode cX11_itemMeant 25 = .ok (.aload_n 0, 1) := by decide +kernel
theorem dX11_itemMeant_26 : decode cX11_itemMeant 26 = .ok (.getfield 152, 3) := by decide +kernel
theorem dX11_itemMeant_29 : decode cX11_itemMeant 29 = .ok (.istore_n 2, 1) := by decide +kernel
theorem dX11_itemMeant_30 : decode cX11_itemMeant 30 = .ok (.aload_n 0, 1) := by decide +kernel
theorem dX11_itemMeant_31 : decode cX11_itemMeant 31 = .ok (.aload_n 0, 1) := by decide +kernel
theorem dX11_itemMeant_32 : decode cX11_itemMeant 32 = .ok (.getfield 152, 3) := by decide +kernel
theorem dX11_itemMeant_35 : decode cX11_itemMeant 35 = .ok (.aload_n 1, 1) := by decide +kernel
theorem dX11_itemMeant_36 : decode cX11_itemMeant 36 = .ok (.invokevirtual 146, 3) := by decide +kernel
theorem dX11_itemMeant_39 : decode cX11_itemMeant 39 = .ok (.istore_n 3, 1) := by decide +kernel
theorem dX11_itemMeant_40 : decode cX11_itemMeant 40 = .ok (.aload_n 0, 1) := by decide +kernel
theorem dX11_itemMeant_41 : decode cX11_itemMeant 41 = .ok (.getfield 61, 3) := by decide +kernel
theorem dX11_itemMeant_44 : decode cX11_itemMeant 44 = .ok (.iload_n 3, 1) := by decide +kernel
theorem dX11_itemMeant_45 : decode cX11_itemMeant 45 = .ok (.iaload, 1) := by decide +kernel
theorem dX11_itemMeant_46 : decode cX11_itemMeant 46 = .ok (.iload_n 3, 1) := by decide +kernel
theorem dX11_itemMeant_47 : decode cX11_itemMeant 47 = .ok (.ifCond .ne 8, 3) := by decide +kernel
theorem dX11_itemMeant_50 : decode cX11_itemMeant 50 = .ok (.bipush 8, 2) := by decide +kernel
theorem dX11_itemMeant_52 : decode cX11_itemMeant 52 = .ok (.goto 5, 3) := by decide +kernel
theorem dX11_itemMeant_55 : decode cX11_itemMeant 55 = .ok (.bipush 12, 2) := by decide +kernel
theorem dX11_itemMeant_57 : decode cX11_itemMeant 57 = .ok (.if_icmp .ne 10, 3) := by decide +kernel
theorem dX11_itemMeant_60 : decode cX11_itemMeant 60 = .ok (.aload_n 0, 1) := by decide +kernel
theorem dX11_itemMeant_61 : decode cX11_itemMeant 61 = .ok (.iconst 4, 1) := by decide +kernel
theorem dX11_itemMeant_62 : decode cX11_itemMeant 62 = .ok (.iload_n 2, 1) := by decide +kernel
theorem dX11_itemMeant_63 : decode cX11_itemMeant 63 = .ok (.invokevirtual 294, 3) := by decide +kernel
theorem dX11_itemMeant_66 : decode cX11_itemMeant 66 = .ok (.ireturn, 1) := by decide +kernel
theorem dX11_itemMeant_67 : decode cX11_itemMeant 67 = .ok (.aload_n 0, 1) := by decide +kernel
theorem dX11_itemMeant_68 : decode cX11_itemMeant 68 = .ok (.dup, 1) := by decide +kernel
theorem dX11_itemMeant_69 : decode cX11_itemMeant 69 = .ok (.getfield 152, 3) := by decide +kernel
theorem dX11_itemMeant_72 : decode cX11_itemMeant 72 = .ok (.iconst 1, 1) := by decide +kernel
theorem dX11_itemMeant_73 : decode cX11_itemMeant 73 = .ok (.iadd, 1) := by decide +kernel
theorem dX11_itemMeant_74 : decode cX11_itemMeant 74 = .ok (.putfield 152, 3) := by decide +kernel
theorem dX11_itemMeant_77 : decode cX11_itemMeant 77 = .ok (.aload_n 0, 1) := by decide +kernel
theorem dX11_itemMeant_78 : decode cX11_itemMeant 78 = .ok (.getfield 152, 3) := by decide +kernel
theorem dX11_itemMeant_81 : decode cX11_itemMeant 81 = .ok (.istore 4, 2) := by decide +kernel
theorem dX11_itemMeant_83 : decode cX11_itemMeant 83 = .ok (.aload_n 0, 1) := by decide +kernel
theorem dX11_itemMeant_84 : decode cX11_itemMeant 84 = .ok (.iload 4, 2) := by decide +kernel
theorem dX11_itemMeant_86 : decode cX11_itemMeant 86 = .ok (.invokevirtual 297, 3) := by decide +kernel
theorem dX11_itemMeant_89 : decode cX11_itemMeant 89 = .ok (.iconst (-1), 1) := by decide +kernel
theorem dX11_itemMeant_90 : decode cX11_itemMeant 90 = .ok (.if_icmp .eq 11, 3) := by decide +kernel
theorem dX11_itemMeant_93 : decode cX11_itemMeant 93 = .ok (.aload_n 0, 1) := by decide +kernel
theorem dX11_itemMeant_94 : decode cX11_itemMeant 94 = .ok (.iconst 3, 1) := by decide +kernel
theorem dX11_itemMeant_95 : decode cX11_itemMeant 95 = .ok (.iload 4, 2) := by decide +kernel
theorem dX11_itemMeant_97 : decode cX11_itemMeant 97 = .ok (.invokevirtual 294, 3) := by decide +kernel
theorem dX11_itemMeant_100 : decode cX11_itemMeant 100 = .ok (.ireturn, 1) := by decide +kernel
theorem dX11_itemMeant_101 : decode cX11_itemMeant 101 = .ok (.aload_n 0, 1) := by decide +kernel
theorem dX11_itemMeant_102 : decode cX11_itemMeant 102 = .ok (.dup, 1) := by decide +kernel
theorem dX11_itemMeant_103 : decode cX11_itemMeant 103 = .ok (.getfield 152, 3) := by decide +kernel
theorem dX11_itemMeant_106 : decode cX11_itemMeant 106 = .ok (.iconst 2, 1) := by decide +kernel
theorem dX11_itemMeant_107 : decode cX11_itemMeant 107 = .ok (.iadd, 1) := by decide +kernel
theorem dX11_itemMeant_108 : decode cX11_itemMeant 108 = .ok (.putfield 152, 3) := by decide +kernel
theorem dX11_itemMeant_111 : decode cX11_itemMeant 111 = .ok (.iconst 0, 1) := by decide +kernel
theorem dX11_itemMeant_112 : decode cX11_itemMeant 112 = .ok (.istore 5, 2) := by decide +kernel
theorem dX11_itemMeant_114 : decode cX11_itemMeant 114 = .ok (.iload_n 3, 1) := by decide +kernel
theorem dX11_itemMeant_115 : decode cX11_itemMeant 115 = .ok (.ifCond .ne 81, 3) := by decide +kernel
theorem dX11_itemMeant_118 : decode cX11_itemMeant 118 = .ok (.aload_n 0, 1) := by decide +kernel
theorem dX11_itemMeant_119 : decode cX11_itemMeant 119 = .ok (.ldc 179, 2) := by decide +kernel
theorem dX11_itemMeant_121 : decode cX11_itemMeant 121 = .ok (.invokevirtual 155, 3) := by decide +kernel
theorem dX11_itemMeant_124 : decode cX11_itemMeant 124 = .ok (.istore 6, 2) := by decide +kernel
theorem dX11_itemMeant_126 : decode cX11_itemMeant 126 = .ok (.aload_n 0, 1) := by decide +kernel
theorem dX11_itemMeant_127 : decode cX11_itemMeant 127 = .ok (.dup, 1) := by decide +kernel
theorem dX11_itemMeant_128 : decode cX11_itemMeant 128 = .ok (.getfield 152, 3) := by decide +kernel
theorem dX11_itemMeant_131 : decode cX11_itemMeant 131 = .ok (.iload 6, 2) := by decide +kernel
theorem dX11_itemMeant_133 : decode cX11_itemMeant 133 = .ok (.ifCond .eq 7, 3) := by decide +kernel
theorem dX11_itemMeant_136 : decode cX11_itemMeant 136 = .ok (.iconst 1, 1) := by decide +kernel
theorem dX11_itemMeant_137 : decode cX11_itemMeant 137 = .ok (.goto 4, 3) := by decide +kernel
theorem dX11_itemMeant_140 : decode cX11_itemMeant 140 = .ok (.iconst 0, 1) := by decide +kernel
theorem dX11_itemMeant_141 : decode cX11_itemMeant 141 = .ok (.iadd, 1) := by decide +kernel
theorem dX11_itemMeant_142 : decode cX11_itemMeant 142 = .ok (.putfield 152, 3) := by decide +kernel
theorem dX11_itemMeant_145 : decode cX11_itemMeant 145 = .ok (.aload_n 0, 1) := by decide +kernel
theorem dX11_itemMeant_146 : decode cX11_itemMeant 146 = .ok (.getfield 64, 3) := by decide +kernel
theorem dX11_itemMeant_149 : decode cX11_itemMeant 149 = .ok (.aload_n 0, 1) := by decide +kernel
theorem dX11_itemMeant_150 : decode cX11_itemMeant 150 = .ok (.getfield 61, 3) := by decide +kernel
theorem dX11_itemMeant_153 : decode cX11_itemMeant 153 = .ok (.iconst 0, 1) := by decide +kernel
theorem dX11_itemMeant_154 : decode cX11_itemMeant 154 = .ok (.iaload, 1) := by decide +kernel
theorem dX11_itemMeant_155 : decode cX11_itemMeant 155 = .ok (.iload 6, 2) := by decide +kernel
theorem dX11_itemMeant_157 : decode cX11_itemMeant 157 = .ok (.ifCond .eq 16, 3) := by decide +kernel
theorem dX11_itemMeant_160 : decode cX11_itemMeant 160 = .ok (.aload_n 0, 1) := by decide +kernel
theorem dX11_itemMeant_161 : decode cX11_itemMeant 161 = .ok (.aload_n 0, 1) := by decide +kernel
theorem dX11_itemMeant_162 : decode cX11_itemMeant 162 = .ok (.getfield 152, 3) := by decide +kernel
theorem dX11_itemMeant_165 : decode cX11_itemMeant 165 = .ok (.invokevirtual 300, 3) := by decide +kernel
theorem dX11_itemMeant_168 : decode cX11_itemMeant 168 = .ok (.ineg, 1) := by decide +kernel
theorem dX11_itemMeant_169 : decode cX11_itemMeant 169 = .ok (.i2l, 1) := by decide +kernel
theorem dX11_itemMeant_170 : decode cX11_itemMeant 170 = .ok (.goto 12, 3) := by decide +kernel
theorem dX11_itemMeant_173 : decode cX11_itemMeant 173 = .ok (.aload_n 0, 1) := by decide +kernel
theorem dX11_itemMeant_174 : decode cX11_itemMeant 174 = .ok (.aload_n 0, 1) := by decide +kernel
theorem dX11_itemMeant_175 : decode cX11_itemMeant 175 = .ok (.getfield 152, 3) := by decide +kernel
theorem dX11_itemMeant_178 : decode cX11_itemMeant 178 = .ok (.invokevirtual 300, 3) := by decide +kernel
theorem dX11_itemMeant_181 : decode cX11_itemMeant 181 = .ok (.i2l, 1) := by decide +kernel
theorem dX11_itemMeant_182 : decode cX11_itemMeant 182 = .ok (.lastore, 1) := by decide +kernel
theorem dX11_itemMeant_183 : decode cX11_itemMeant 183 = .ok (.aload_n 0, 1) := by decide +kernel
theorem dX11_itemMeant_184 : decode cX11_itemMeant 184 = .ok (.dup, 1) := by decide +kernel
theorem dX11_itemMeant_185 : decode cX11_itemMeant 185 = .ok (.getfield 152, 3) := by decide +kernel
theorem dX11_itemMeant_188 : decode cX11_itemMeant 188 = .ok (.iconst 1, 1) := by decide +kernel
theorem dX11_itemMeant_189 : decode cX11_itemMeant 189 = .ok (.iadd, 1) := by decide +kernel
theorem dX11_itemMeant_190 : decode cX11_itemMeant 190 = .ok (.putfield 152, 3) := by decide +kernel
theorem dX11_itemMeant_193 : decode cX11_itemMeant 193 = .ok (.goto 21, 3) := by decide +kernel
theorem dX11_itemMeant_196 : decode cX11_itemMeant 196 = .ok (.iload_n 3, 1) := by decide +kernel
theorem dX11_itemMeant_197 : decode cX11_itemMeant 197 = .ok (.iconst 2, 1) := by decide +kernel
theorem dX11_itemMeant_198 : decode cX11_itemMeant 198 = .ok (.if_icmp .ne 10, 3) := by decide +kernel
theorem dX11_itemMeant_201 : decode cX11_itemMeant 201 = .ok (.aload_n 0, 1) := by decide +kernel
theorem dX11_itemMeant_202 : decode cX11_itemMeant 202 = .ok (.invokevirtual 303, 3) := by decide +kernel
theorem dX11_itemMeant_205 : decode cX11_itemMeant 205 = .ok (.goto 7, 3) := by decide +kernel
theorem dX11_itemMeant_208 : decode cX11_itemMeant 208 = .ok (.aload_n 0, 1) := by decide +kernel
theorem dX11_itemMeant_209 : decode cX11_itemMeant 209 = .ok (.invokevirtual 306, 3) := by decide +kernel
theorem dX11_itemMeant_212 : decode cX11_itemMeant 212 = .ok (.istore 5, 2) := by decide +kernel
theorem dX11_itemMeant_214 : decode cX11_itemMeant 214 = .ok (.iload 5, 2) := by decide +kernel
theorem dX11_itemMeant_216 : decode cX11_itemMeant 216 = .ok (.ifCond .eq 6, 3) := by decide +kernel
theorem dX11_itemMeant_219 : decode cX11_itemMeant 219 = .ok (.iload 5, 2) := by decide +kernel
theorem dX11_itemMeant_221 : decode cX11_itemMeant 221 = .ok (.ireturn, 1) := by decide +kernel
theorem dX11_itemMeant_222 : decode cX11_itemMeant 222 = .ok (.iload_n 3, 1) := by decide +kernel
theorem dX11_itemMeant_223 : decode cX11_itemMeant 223 = .ok (.ifCond .le 23, 3) := by decide +kernel
theorem dX11_itemMeant_226 : decode cX11_itemMeant 226 = .ok (.aload_n 0, 1) := by decide +kernel
theorem dX11_itemMeant_227 : decode cX11_itemMeant 227 = .ok (.getfield 67, 3) := by decide +kernel
theorem dX11_itemMeant_230 : decode cX11_itemMeant 230 = .ok (.bipush 12, 2) := by decide +kernel
theorem dX11_itemMeant_232 : decode cX11_itemMeant 232 = .ok (.iload_n 3, 1) := by decide +kernel
theorem dX11_itemMeant_233 : decode cX11_itemMeant 233 = .ok (.imul, 1) := by decide +kernel
theorem dX11_itemMeant_234 : decode cX11_itemMeant 234 = .ok (.aload_n 0, 1) := by decide +kernel
theorem dX11_itemMeant_235 : decode cX11_itemMeant 235 = .ok (.getfield 61, 3) := by decide +kernel
theorem dX11_itemMeant_238 : decode cX11_itemMeant 238 = .ok (.iload_n 3, 1) := by decide +kernel
theorem dX11_itemMeant_239 : decode cX11_itemMeant 239 = .ok (.iaload, 1) := by decide +kernel
theorem dX11_itemMeant_240 : decode cX11_itemMeant 240 = .ok (.iadd, 1) := by decide +kernel
theorem dX11_itemMeant_241 : decode cX11_itemMeant 241 = .ok (.aload_n 0, 1) := by decide +kernel
theorem dX11_itemMeant_242 : decode cX11_itemMeant 242 = .ok (.getfield 309, 3) := by decide +kernel
theorem dX11_itemMeant_245 : decode cX11_itemMeant 245 = .ok (.iastore, 1) := by decide +kernel
theorem dX11_itemMeant_246 : decode cX11_itemMeant 246 = .ok (.iload_n 3, 1) := by decide +kernel
theorem dX11_itemMeant_247 : decode cX11_itemMeant 247 = .ok (.iconst 3, 1) := by decide +kernel
theorem dX11_itemMeant_248 : decode cX11_itemMeant 248 = .ok (.if_icmp .ne 15, 3) := by decide +kernel
theorem dX11_itemMeant_251 : decode cX11_itemMeant 251 = .ok (.aload_n 0, 1) := by decide +kernel
theorem dX11_itemMeant_252 : decode cX11_itemMeant 252 = .ok (.getfield 70, 3) := by decide +kernel
theorem dX11_itemMeant_255 : decode cX11_itemMeant 255 = .ok (.aload_n 0, 1) := by decide +kernel
theorem dX11_itemMeant_256 : decode cX11_itemMeant 256 = .ok (.getfield 61, 3) := by decide +kernel
theorem dX11_itemMeant_259 : decode cX11_itemMeant 259 = .ok (.iconst 3, 1) := by decide +kernel
theorem dX11_itemMeant_260 : decode cX11_itemMeant 260 = .ok (.iaload, 1) := by decide +kernel
theorem dX11_itemMeant_261 : decode cX11_itemMeant 261 = .ok (.iconst 5, 1) := by decide +kernel
theorem dX11_itemMeant_262 : decode cX11_itemMeant 262 = .ok (.iastore, 1) := by decide +kernel
theorem dX11_itemMeant_263 : decode cX11_itemMeant 263 = .ok (.aload_n 0, 1) := by decide +kernel
theorem dX11_itemMeant_264 : decode cX11_itemMeant 264 = .ok (.ldc 202, 2) := by decide +kernel
theorem dX11_itemMeant_266 : decode cX11_itemMeant 266 = .ok (.invokevirtual 155, 3) := by decide +kernel
theorem dX11_itemMeant_269 : decode cX11_itemMeant 269 = .ok (.ifCond .eq 65, 3) := by decide +kernel
theorem dX11_itemMeant_272 : decode cX11_itemMeant 272 = .ok (.aload_n 0, 1) := by decide +kernel
theorem dX11_itemMeant_273 : decode cX11_itemMeant 273 = .ok (.dup, 1) := by decide +kernel
theorem dX11_itemMeant_274 : decode cX11_itemMeant 274 = .ok (.getfield 152, 3) := by decide +kernel
theorem dX11_itemMeant_277 : decode cX11_itemMeant 277 = .ok (.iconst 1, 1) := by decide +kernel
theorem dX11_itemMeant_278 : decode cX11_itemMeant 278 = .ok (.iadd, 1) := by decide +kernel
theorem dX11_itemMeant_279 : decode cX11_itemMeant 279 = .ok (.putfield 152, 3) := by decide +kernel
theorem dX11_itemMeant_282 : decode cX11_itemMeant 282 = .ok (.aload_n 0, 1) := by decide +kernel
theorem dX11_itemMeant_283 : decode cX11_itemMeant 283 = .ok (.aload_n 0, 1) := by decide +kernel
theorem dX11_itemMeant_284 : decode cX11_itemMeant 284 = .ok (.getfield 152, 3) := by decide +kernel
theorem dX11_itemMeant_287 : decode cX11_itemMeant 287 = .ok (.invokevirtual 300, 3) := by decide +kernel
theorem dX11_itemMeant_290 : decode cX11_itemMeant 290 = .ok (.bipush 9, 2) := by decide +kernel
theorem dX11_itemMeant_292 : decode cX11_itemMeant 292 = .ok (.if_icmp .le 13, 3) := by decide +kernel
theorem dX11_itemMeant_295 : decode cX11_itemMeant 295 = .ok (.aload_n 0, 1) := by decide +kernel
theorem dX11_itemMeant_296 : decode cX11_itemMeant 296 = .ok (.iconst 5, 1) := by decide +kernel
theorem dX11_itemMeant_297 : decode cX11_itemMeant 297 = .ok (.aload_n 0, 1) := by decide +kernel
theorem dX11_itemMeant_298 : decode cX11_itemMeant 298 = .ok (.getfield 152, 3) := by decide +kernel
theorem dX11_itemMeant_301 : decode cX11_itemMeant 301 = .ok (.invokevirtual 294, 3) := by decide +kernel
theorem dX11_itemMeant_304 : decode cX11_itemMeant 304 = .ok (.ireturn, 1) := by decide +kernel
theorem dX11_itemMeant_305 : decode cX11_itemMeant 305 = .ok (.aload_n 0, 1) := by decide +kernel
theorem dX11_itemMeant_306 : decode cX11_itemMeant 306 = .ok (.getfield 70, 3) := by decide +kernel
theorem dX11_itemMeant_309 : decode cX11_itemMeant 309 = .ok (.aload_n 0, 1) := by decide +kernel
theorem dX11_itemMeant_310 : decode cX11_itemMeant 310 = .ok (.getfield 61, 3) := by decide +kernel
theorem dX11_itemMeant_313 : decode cX11_itemMeant 313 = .ok (.iconst 3, 1) := by decide +kernel
theorem dX11_itemMeant_314 : decode cX11_itemMeant 314 = .ok (.iaload, 1) := by decide +kernel
theorem dX11_itemMeant_315 : decode cX11_itemMeant 315 = .ok (.aload_n 0, 1) := by decide +kernel
theorem dX11_itemMeant_316 : decode cX11_itemMeant 316 = .ok (.aload_n 0, 1) := by decide +kernel
theorem dX11_itemMeant_317 : decode cX11_itemMeant 317 = .ok (.getfield 152, 3) := by decide +kernel
theorem dX11_itemMeant_320 : decode cX11_itemMeant 320 = .ok (.invokevirtual 300, 3) := by decide +kernel
theorem dX11_itemMeant_323 : decode cX11_itemMeant 323 = .ok (.iastore, 1) := by decide +kernel
theorem dX11_itemMeant_324 : decode cX11_itemMeant 324 = .ok (.aload_n 0, 1) := by decide +kernel
theorem dX11_itemMeant_325 : decode cX11_itemMeant 325 = .ok (.dup, 1) := by decide +kernel
theorem dX11_itemMeant_326 : decode cX11_itemMeant 326 = .ok (.getfield 152, 3) := by decide +kernel
theorem dX11_itemMeant_329 : decode cX11_itemMeant 329 = .ok (.iconst 1, 1) := by decide +kernel
theorem dX11_itemMeant_330 : decode cX11_itemMeant 330 = .ok (.iadd, 1) := by decide +kernel
theorem dX11_itemMeant_331 : decode cX11_itemMeant 331 = .ok (.putfield 152, 3) := by decide +kernel
theorem dX11_itemMeant_334 : decode cX11_itemMeant 334 = .ok (.aload_n 0, 1) := by decide +kernel
theorem dX11_itemMeant_335 : decode cX11_itemMeant 335 = .ok (.getfield 52, 3) := by decide +kernel
theorem dX11_itemMeant_338 : decode cX11_itemMeant 338 = .ok (.aload_n 0, 1) := by decide +kernel
theorem dX11_itemMeant_339 : decode cX11_itemMeant 339 = .ok (.getfield 284, 3) := by decide +kernel
theorem dX11_itemMeant_342 : decode cX11_itemMeant 342 = .ok (.aload_n 0, 1) := by decide +kernel
theorem dX11_itemMeant_343 : decode cX11_itemMeant 343 = .ok (.iload 4, 2) := by decide +kernel
theorem dX11_itemMeant_345 : decode cX11_itemMeant 345 = .ok (.invokevirtual 287, 3) := by decide +kernel
theorem dX11_itemMeant_348 : decode cX11_itemMeant 348 = .ok (.lastore, 1) := by decide +kernel
theorem dX11_itemMeant_349 : decode cX11_itemMeant 349 = .ok (.aload_n 0, 1) := by decide +kernel
theorem dX11_itemMeant_350 : decode cX11_itemMeant 350 = .ok (.getfield 55, 3) := by decide +kernel
theorem dX11_itemMeant_353 : decode cX11_itemMeant 353 = .ok (.aload_n 0, 1) := by decide +kernel
theorem dX11_itemMeant_354 : decode cX11_itemMeant 354 = .ok (.getfield 284, 3) := by decide +kernel
theorem dX11_itemMeant_357 : decode cX11_itemMeant 357 = .ok (.iload_n 3, 1) := by decide +kernel
theorem dX11_itemMeant_358 : decode cX11_itemMeant 358 = .ok (.iastore, 1) := by decide +kernel
theorem dX11_itemMeant_359 : decode cX11_itemMeant 359 = .ok (.aload_n 0, 1) := by decide +kernel
theorem dX11_itemMeant_360 : decode cX11_itemMeant 360 = .ok (.getfield 58, 3) := by decide +kernel
theorem dX11_itemMeant_363 : decode cX11_itemMeant 363 = .ok (.aload_n 0, 1) := by decide +kernel
theorem dX11_itemMeant_364 : decode cX11_itemMeant 364 = .ok (.getfield 284, 3) := by decide +kernel
theorem dX11_itemMeant_367 : decode cX11_itemMeant 367 = .ok (.aload_n 0, 1) := by decide +kernel
theorem dX11_itemMeant_368 : decode cX11_itemMeant 368 = .ok (.getfield 61, 3) := by decide +kernel
theorem dX11_itemMeant_371 : decode cX11_itemMeant 371 = .ok (.iload_n 3, 1) := by decide +kernel
theorem dX11_itemMeant_372 : decode cX11_itemMeant 372 = .ok (.iaload, 1) := by decide +kernel
theorem dX11_itemMeant_373 : decode cX11_itemMeant 373 = .ok (.iastore, 1) := by decide +kernel
theorem dX11_itemMeant_374 : decode cX11_itemMeant 374 = .ok (.aload_n 0, 1) := by decide +kernel
theorem dX11_itemMeant_375 : decode cX11_itemMeant 375 = .ok (.dup, 1) := by decide +kernel
theorem dX11_itemMeant_376 : decode cX11_itemMeant 376 = .ok (.getfield 284, 3) := by decide +kernel
theorem dX11_itemMeant_379 : decode cX11_itemMeant 379 = .ok (.iconst 1, 1) := by decide +kernel
theorem dX11_itemMeant_380 : decode cX11_itemMeant 380 = .ok (.iadd, 1) := by decide +kernel
theorem dX11_itemMeant_381 : decode cX11_itemMeant 381 = .ok (.putfield 284, 3) := by decide +kernel
theorem dX11_itemMeant_384 : decode cX11_itemMeant 384 = .ok (.aload_n 0, 1) := by decide +kernel
theorem dX11_itemMeant_385 : decode cX11_itemMeant 385 = .ok (.getfield 61, 3) := by decide +kernel
theorem dX11_itemMeant_388 : decode cX11_itemMeant 388 = .ok (.iload_n 3, 1) := by decide +kernel
theorem dX11_itemMeant_389 : decode cX11_itemMeant 389 = .ok (.dup2, 1) := by decide +kernel
theorem dX11_itemMeant_390 : decode cX11_itemMeant 390 = .ok (.iaload, 1) := by decide +kernel
theorem dX11_itemMeant_391 : decode cX11_itemMeant 391 = .ok (.iconst 1, 1) := by decide +kernel
theorem dX11_itemMeant_392 : decode cX11_itemMeant 392 = .ok (.iadd, 1) := by decide +kernel
theorem dX11_itemMeant_393 : decode cX11_itemMeant 393 = .ok (.iastore, 1) := by decide +kernel
theorem dX11_itemMeant_394 : decode cX11_itemMeant 394 = .ok (.iconst 0, 1) := by decide +kernel
theorem dX11_itemMeant_395 : decode cX11_itemMeant 395 = .ok (.ireturn, 1) := by decide +kernel
theorem dX11_node_0 : decode cX11_node 0 = .ok (.aload_n 0, 1) := by decide +kernel
theorem dX11_node_1 : decode cX11_node 1 = .ok (.getfield 26, 3) := by decide +kernel
theorem dX11_node_4 : decode cX11_node 4 = .ok (.aload_n 0, 1) := by decide +kernel
theorem dX11_node_5 : decode cX11_node 5 = .ok (.getfield 312, 3) := by decide +kernel
theorem dX11_node_8 : decode cX11_node 8 = .ok (.iload_n 1, 1) := by decide +kernel
theorem dX11_node_9 : decode cX11_node 9 = .ok (.iastore, 1) := by decide +kernel
theorem dX11_node_10 : decode cX11_node 10 = .ok (.aload_n 0, 1) := by decide +kernel
theorem dX11_node_11 : decode cX11_node 11 = .ok (.getfield 29, 3) := by decide +kernel
theorem dX11_node_14 : decode cX11_node 14 = .ok (.aload_n 0, 1) := by decide +kernel
theorem dX11_node_15 : decode cX11_node 15 = .ok (.getfield 312, 3) := by decide +kernel
theorem dX11_node_18 : decode cX11_node 18 = .ok (.iload_n 2, 1) := by decide +kernel
theorem dX11_node_19 : decode cX11_node 19 = .ok (.iastore, 1) := by decide +kernel
theorem dX11_node_20 : decode cX11_node 20 = .ok (.aload_n 0, 1) := by decide +kernel
theorem dX11_node_21 : decode cX11_node 21 = .ok (.getfield 32, 3) := by decide +kernel
theorem dX11_node_24 : decode cX11_node 24 = .ok (.aload_n 0, 1) := by decide +kernel
theorem dX11_node_25 : decode cX11_node 25 = .ok (.getfield 312, 3) := by decide +kernel
theorem dX11_node_28 : decode cX11_node 28 = .ok (.iload_n 3, 1) := by decide +kernel
theorem dX11_node_29 : decode cX11_node 29 = .ok (.iastore, 1) := by decide +kernel
theorem dX11_node_30 : decode cX11_node 30 = .ok (.aload_n 0, 1) := by decide +kernel
theorem dX11_node_31 : decode cX11_node 31 = .ok (.getfield 35, 3) := by decide +kernel
theorem dX11_node_34 : decode cX11_node 34 = .ok (.aload_n 0, 1) := by decide +kernel
theorem dX11_node_35 : decode cX11_node 35 = .ok (.getfield 312, 3) := by decide +kernel
theorem dX11_node_38 : decode cX11_node 38 = .ok (.iload 4, 2) := by decide +kernel
theorem dX11_node_40 : decode cX11_node 40 = .ok (.iastore, 1) := by decide +kernel
theorem dX11_node_41 : decode cX11_node 41 = .ok (.aload_n 0, 1) := by decide +kernel
theorem dX11_node_42 : decode cX11_node 42 = .ok (.getfield 38, 3) := by decide +kernel
theorem dX11_node_45 : decode cX11_node 45 = .ok (.aload_n 0, 1) := by decide +kernel
theorem dX11_node_46 : decode cX11_node 46 = .ok (.getfield 312, 3) := by decide +kernel
theorem dX11_node_49 : decode cX11_node 49 = .ok (.iconst 0, 1) := by decide +kernel
theorem dX11_node_50 : decode cX11_node 50 = .ok (.iastore, 1) := by decide +kernel
theorem dX11_node_51 : decode cX11_node 51 = .ok (.aload_n 0, 1) := by decide +kernel
theorem dX11_node_52 : decode cX11_node 52 = .ok (.getfield 41, 3) := by decide +kernel
theorem dX11_node_55 : decode cX11_node 55 = .ok (.aload_n 0, 1) := by decide +kernel
theorem dX11_node_56 : decode cX11_node 56 = .ok (.getfield 312, 3) := by decide +kernel
theorem dX11_node_59 : decode cX11_node 59 = .ok (.iconst (-1), 1) := by decide +kernel
theorem dX11_node_60 : decode cX11_node 60 = .ok (.iastore, 1) := by decide +kernel
theorem dX11_node_61 : decode cX11_node 61 = .ok (.aload_n 0, 1) := by decide +kernel
theorem dX11_node_62 : decode cX11_node 62 = .ok (.getfield 44, 3) := by decide +kernel
theorem dX11_node_65 : decode cX11_node 65 = .ok (.aload_n 0, 1) := by decide +kernel
theorem dX11_node_66 : decode cX11_node 66 = .ok (.getfield 312, 3) := by decide +kernel
theorem dX11_node_69 : decode cX11_node 69 = .ok (.iload 5, 2) := by decide +kernel
theorem dX11_node_71 : decode cX11_node 71 = .ok (.iastore, 1) := by decide +kernel
theorem dX11_node_72 : decode cX11_node 72 = .ok (.aload_n 0, 1) := by decide +kernel
theorem dX11_node_73 : decode cX11_node 73 = .ok (.aload_n 0, 1) := by decide +kernel
theorem dX11_node_74 : decode cX11_node 74 = .ok (.getfield 312, 3) := by decide +kernel
theorem dX11_node_77 : decode cX11_node 77 = .ok (.putfield 309, 3) := by decide +kernel
theorem dX11_node_80 : decode cX11_node 80 = .ok (.aload_n 0, 1) := by decide +kernel
theorem dX11_node_81 : decode cX11_node 81 = .ok (.dup, 1) := by decide +kernel
theorem dX11_node_82 : decode cX11_node 82 = .ok (.getfield 312, 3) := by decide +kernel
theorem dX11_node_85 : decode cX11_node 85 = .ok (.iconst 1, 1) := by decide +kernel
theorem dX11_node_86 : decode cX11_node 86 = .ok (.iadd, 1) := by decide +kernel
theorem dX11_node_87 : decode cX11_node 87 = .ok (.putfield 312, 3) := by decide +kernel
theorem dX11_node_90 : decode cX11_node 90 = .ok (.iconst 0, 1) := by decide +kernel
theorem dX11_node_91 : decode cX11_node 91 = .ok (.ireturn, 1) := by decide +kernel
theorem dX11_formula_0 : decode cX11_formula 0 = .ok (.aload_n 0, 1) := by decide +kernel
theorem dX11_formula_1 : decode cX11_formula 1 = .ok (.ldc 204, 2) := by decide +kernel
theorem dX11_formula_3 : decode cX11_formula 3 = .ok (.invokevirtual 315, 3) := by decide +kernel
theorem dX11_formula_6 : decode cX11_formula 6 = .ok (.istore_n 1, 1) := by decide +kernel
theorem dX11_formula_7 : decode cX11_formula 7 = .ok (.iload_n 1, 1) := by decide +kernel
theorem dX11_formula_8 : decode cX11_formula 8 = .ok (.ifCond .ne 12, 3) := by decide +kernel
theorem dX11_formula_11 : decode cX11_formula 11 = .ok (.aload_n 0, 1) := by decide +kernel
theorem dX11_formula_12 : decode cX11_formula 12 = .ok (.ldc 209, 2) := by decide +kernel
theorem dX11_formula_14 : decode cX11_formula 14 = .ok (.invokevirtual 155, 3) := by decide +kernel
theorem dX11_formula_17 : decode cX11_formula 17 = .ok (.ifCond .ne 5, 3) := by decide +kernel
theorem dX11_formula_20 : decode cX11_formula 20 = .ok (.iload_n 1, 1) := by decide +kernel
theorem dX11_formula_21 : decode cX11_formula 21 = .ok (.ireturn, 1) := by decide +kernel
theorem dX11_formula_22 : decode cX11_formula 22 = .ok (.aload_n 0, 1) := by decide +kernel
theorem dX11_formula_23 : decode cX11_formula 23 = .ok (.getfield 309, 3) := by decide +kernel
theorem dX11_formula_26 : decode cX11_formula 26 = .ok (.istore_n 2, 1) := by decide +kernel
theorem dX11_formula_27 : decode cX11_formula 27 = .ok (.aload_n 0, 1) := by decide +kernel
theorem dX11_formula_28 : decode cX11_formula 28 = .ok (.dup, 1) := by decide +kernel
theorem dX11_formula_29 : decode cX11_formula 29 = .ok (.getfield 152, 3) := by decide +kernel
theorem dX11_formula_32 : decode cX11_formula 32 = .ok (.iconst 1, 1) := by decide +kernel
theorem dX11_formula_33 : decode cX11_formula 33 = .ok (.iadd, 1) := by decide +kernel
theorem dX11_formula_34 : decode cX11_formula 34 = .ok (.putfield 152, 3) := by decide +kernel
theorem dX11_formula_37 : decode cX11_formula 37 = .ok (.aload_n 0, 1) := by decide +kernel
theorem dX11_formula_38 : decode cX11_formula 38 = .ok (.invokevirtual 306, 3) := by decide +kernel
theorem dX11_formula_41 : decode cX11_formula 41 = .ok (.istore_n 1, 1) := by decide +kernel
theorem dX11_formula_42 : decode cX11_formula 42 = .ok (.iload_n 1, 1) := by decide +kernel
theorem dX11_formula_43 : decode cX11_formula 43 = .ok (.ifCond .eq 7, 3) := by decide +kernel
theorem dX11_formula_46 : decode cX11_formula 46 = .ok (.iload_n 1, 1) := by decide +kernel
theorem dX11_formula_47 : decode cX11_formula 47 = .ok (.goto 21, 3) := by decide +kernel
theorem dX11_formula_50 : decode cX11_formula 50 = .ok (.aload_n 0, 1) := by decide +kernel
theorem dX11_formula_51 : decode cX11_formula 51 = .ok (.bipush 13, 2) := by decide +kernel
theorem dX11_formula_53 : decode cX11_formula 53 = .ok (.iload_n 2, 1) := by decide +kernel
theorem dX11_formula_54 : decode cX11_formula 54 = .ok (.aload_n 0, 1) := by decide +kernel
theorem dX11_formula_55 : decode cX11_formula 55 = .ok (.getfield 309, 3) := by decide +kernel
theorem dX11_formula_58 : decode cX11_formula 58 = .ok (.iconst (-1), 1) := by decide +kernel
theorem dX11_formula_59 : decode cX11_formula 59 = .ok (.aload_n 0, 1) := by decide +kernel
theorem dX11_formula_60 : decode cX11_formula 60 = .ok (.getfield 44, 3) := by decide +kernel
theorem dX11_formula_63 : decode cX11_formula 63 = .ok (.iload_n 2, 1) := by decide +kernel
theorem dX11_formula_64 : decode cX11_formula 64 = .ok (.iaload, 1) := by decide +kernel
theorem dX11_formula_65 : decode cX11_formula 65 = .ok (.invokevirtual 319, 3) := by decide +kernel
theorem dX11_formula_68 : decode cX11_formula 68 = .ok (.ireturn, 1) := by decide +kernel
theorem dX11_row_0 : decode cX11_row 0 = .ok (.aload_n 1, 1) := by decide +kernel
theorem dX11_row_1 : decode cX11_row 1 = .ok (.invokevirtual 131, 3) := by decide +kernel
theorem dX11_row_4 : decode cX11_row 4 = .ok (.iconst 2, 1) := by decide +kernel
theorem dX11_row_5 : decode cX11_row 5 = .ok (.if_icmp .ne 7, 3) := by decide +kernel
theorem dX11_row_8 : decode cX11_row 8 = .ok (.iconst 1, 1) := by decide +kernel
theorem dX11_row_9 : decode cX11_row 9 = .ok (.goto 4, 3) := by decide +kernel
theorem dX11_row_12 : decode cX11_row 12 = .ok (.iconst 0, 1) := by decide +kernel
theorem dX11_row_13 : decode cX11_row 13 = .ok (.istore_n 2, 1) := by decide +kernel
theorem dX11_row_14 : decode cX11_row 14 = .ok (.iload_n 2, 1) := by decide +kernel
theorem dX11_row_15 : decode cX11_row 15 = .ok (.ifCond .eq 12, 3) := by decide +kernel
theorem dX11_row_18 : decode cX11_row 18 = .ok (.aload_n 0, 1) := by decide +kernel
theorem dX11_row_19 : decode cX11_row 19 = .ok (.ldc 211, 2) := by decide +kernel
theorem dX11_row_21 : decode cX11_row 21 = .ok (.invokevirtual 315, 3) := by decide +kernel
theorem dX11_row_24 : decode cX11_row 24 = .ok (.goto 7, 3) := by decide +kernel
theorem dX11_row_27 : decode cX11_row 27 = .ok (.aload_n 0, 1) := by decide +kernel
theorem dX11_row_28 : decode cX11_row 28 = .ok (.invokevirtual 323, 3) := by decide +kernel
theorem dX11_row_31 : decode cX11_row 31 = .ok (.istore_n 3, 1) := by decide +kernel
theorem dX11_row_32 : decode cX11_row 32 = .ok (.iload_n 3, 1) := by decide +kernel
theorem dX11_row_33 : decode cX11_row 33 = .ok (.ifCond .ne 82, 3) := by decide +kernel
theorem dX11_row_36 : decode cX11_row 36 = .ok (.aload_n 0, 1) := by decide +kernel
theorem dX11_row_37 : decode cX11_row 37 = .ok (.aload_n 1, 1) := by decide +kernel
theorem dX11_row_38 : decode cX11_row 38 = .ok (.invokevirtual 155, 3) := by decide +kernel
theorem dX11_row_41 : decode cX11_row 41 = .ok (.ifCond .eq 74, 3) := by decide +kernel
theorem dX11_row_44 : decode cX11_row 44 = .ok (.aload_n 0, 1) := by decide +kernel
theorem dX11_row_45 : decode cX11_row 45 = .ok (.getfield 309, 3) := by decide +kernel
theorem dX11_row_48 : decode cX11_row 48 = .ok (.istore 4, 2) := by decide +kernel
theorem dX11_row_50 : decode cX11_row 50 = .ok (.aload_n 0, 1) := by decide +kernel
theorem dX11_row_51 : decode cX11_row 51 = .ok (.dup, 1) := by decide +kernel
theorem dX11_row_52 : decode cX11_row 52 = .ok (.getfield 152, 3) := by decide +kernel
theorem dX11_row_55 : decode cX11_row 55 = .ok (.iconst 1, 1) := by decide +kernel
theorem dX11_row_56 : decode cX11_row 56 = .ok (.iadd, 1) := by decide +kernel
theorem dX11_row_57 : decode cX11_row 57 = .ok (.putfield 152, 3) := by decide +kernel
theorem dX11_row_60 : decode cX11_row 60 = .ok (.iload_n 2, 1) := by decide +kernel
theorem dX11_row_61 : decode cX11_row 61 = .ok (.ifCond .eq 12, 3) := by decide +kernel
theorem dX11_row_64 : decode cX11_row 64 = .ok (.aload_n 0, 1) := by decide +kernel
theorem dX11_row_65 : decode cX11_row 65 = .ok (.ldc 211, 2) := by decide +kernel
theorem dX11_row_67 : decode cX11_row 67 = .ok (.invokevirtual 315, 3) := by decide +kernel
theorem dX11_row_70 : decode cX11_row 70 = .ok (.goto 7, 3) := by decide +kernel
theorem dX11_row_73 : decode cX11_row 73 = .ok (.aload_n 0, 1) := by decide +kernel
theorem dX11_row_74 : decode cX11_row 74 = .ok (.invokevirtual 323, 3) := by decide +kernel
theorem dX11_row_77 : decode cX11_row 77 = .ok (.istore_n 3, 1) := by decide +kernel
theorem dX11_row_78 : decode cX11_row 78 = .ok (.iload_n 3, 1) := by decide +kernel
theorem dX11_row_79 : decode cX11_row 79 = .ok (.ifCond .ne 33, 3) := by decide +kernel
theorem dX11_row_82 : decode cX11_row 82 = .ok (.aload_n 0, 1) := by decide +kernel
theorem dX11_row_83 : decode cX11_row 83 = .ok (.iload_n 2, 1) := by decide +kernel
theorem dX11_row_84 : decode cX11_row 84 = .ok (.ifCond .eq 8, 3) := by decide +kernel
theorem dX11_row_87 : decode cX11_row 87 = .ok (.bipush 12, 2) := by decide +kernel
theorem dX11_row_89 : decode cX11_row 89 = .ok (.goto 5, 3) := by decide +kernel
theorem dX11_row_92 : decode cX11_row 92 = .ok (.bipush 11, 2) := by decide +kernel
theorem dX11_row_94 : decode cX11_row 94 = .ok (.iload 4, 2) := by decide +kernel
theorem dX11_row_96 : decode cX11_row 96 = .ok (.aload_n 0, 1) := by decide +kernel
theorem dX11_row_97 : decode cX11_row 97 = .ok (.getfield 309, 3) := by decide +kernel
theorem dX11_row_100 : decode cX11_row 100 = .ok (.iconst (-1), 1) := by decide +kernel
theorem dX11_row_101 : decode cX11_row 101 = .ok (.aload_n 0, 1) := by decide +kernel
theorem dX11_row_102 : decode cX11_row 102 = .ok (.getfield 44, 3) := by decide +kernel
theorem dX11_row_105 : decode cX11_row 105 = .ok (.iload 4, 2) := by decide +kernel
theorem dX11_row_107 : decode cX11_row 107 = .ok (.iaload, 1) := by decide +kernel
theorem dX11_row_108 : decode cX11_row 108 = .ok (.invokevirtual 319, 3) := by decide +kernel
theorem dX11_row_111 : decode cX11_row 111 = .ok (.pop, 1) := by decide +kernel
theorem dX11_row_112 : decode cX11_row 112 = .ok (.goto (-80), 3) := by decide +kernel
theorem dX11_row_115 : decode cX11_row 115 = .ok (.iload_n 3, 1) := by decide +kernel
theorem dX11_row_116 : decode cX11_row 116 = .ok (.ireturn, 1) := by decide +kernel
theorem dX11_bounds_0 : decode cX11_bounds 0 = .ok (.aload_n 0, 1) := by decide +kernel
theorem dX11_bounds_1 : decode cX11_bounds 1 = .ok (.iconst 0, 1) := by decide +kernel
theorem dX11_bounds_2 : decode cX11_bounds 2 = .ok (.putfield 325, 3) := by decide +kernel
theorem dX11_bounds_5 : decode cX11_bounds 5 = .ok (.aload_n 0, 1) := by decide +kernel
theorem dX11_bounds_6 : decode cX11_bounds 6 = .ok (.iconst (-1), 1) := by decide +kernel
theorem dX11_bounds_7 : decode cX11_bounds 7 = .ok (.putfield 328, 3) := by decide +kernel
theorem dX11_bounds_10 : decode cX11_bounds 10 = .ok (.aload_n 0, 1) := by decide +kernel
theorem dX11_bounds_11 : decode cX11_bounds 11 = .ok (.ldc 224, 2) := by decide +kernel
theorem dX11_bounds_13 : decode cX11_bounds 13 = .ok (.invokevirtual 155, 3) := by decide +kernel
theorem dX11_bounds_16 : decode cX11_bounds 16 = .ok (.ifCond .ne 5, 3) := by decide +kernel
theorem dX11_bounds_19 : decode cX11_bounds 19 = .ok (.iconst 0, 1) := by decide +kernel
theorem dX11_bounds_20 : decode cX11_bounds 20 = .ok (.ireturn, 1) := by decide +kernel
theorem dX11_bounds_21 : decode cX11_bounds 21 = .ok (.aload_n 0, 1) := by decide +kernel
theorem dX11_bounds_22 : decode cX11_bounds 22 = .ok (.dup, 1) := by decide +kernel
theorem dX11_bounds_23 : decode cX11_bounds 23 = .ok (.getfield 152, 3) := by decide +kernel
theorem dX11_bounds_26 : decode cX11_bounds 26 = .ok (.iconst 1, 1) := by decide +kernel
theorem dX11_bounds_27 : decode cX11_bounds 27 = .ok (.iadd, 1) := by decide +kernel
theorem dX11_bounds_28 : decode cX11_bounds 28 = .ok (.putfield 152, 3) := by decide +kernel
theorem dX11_bounds_31 : decode cX11_bounds 31 = .ok (.aload_n 0, 1) := by decide +kernel
theorem dX11_bounds_32 : decode cX11_bounds 32 = .ok (.aload_n 0, 1) := by decide +kernel
theorem dX11_bounds_33 : decode cX11_bounds 33 = .ok (.getfield 152, 3) := by decide +kernel
theorem dX11_bounds_36 : decode cX11_bounds 36 = .ok (.invokevirtual 300, 3) := by decide +kernel
theorem dX11_bounds_39 : decode cX11_bounds 39 = .ok (.sipush 1000, 3) := by decide +kernel
theorem dX11_bounds_42 : decode cX11_bounds 42 = .ok (.if_icmp .le 13, 3) := by decide +kernel
theorem dX11_bounds_45 : decode cX11_bounds 45 = .ok (.aload_n 0, 1) := by decide +kernel
theorem dX11_bounds_46 : decode cX11_bounds 46 = .ok (.iconst 5, 1) := by decide +kernel
theorem dX11_bounds_47 : decode cX11_bounds 47 = .ok (.aload_n 0, 1) := by decide +kernel
theorem dX11_bounds_48 : decode cX11_bounds 48 = .ok (.getfield 152, 3) := by decide +kernel
theorem dX11_bounds_51 : decode cX11_bounds 51 = .ok (.invokevirtual 294, 3) := by decide +kernel
theorem dX11_bounds_54 : decode cX11_bounds 54 = .ok (.ireturn, 1) := by decide +kernel
theorem dX11_bounds_55 : decode cX11_bounds 55 = .ok (.aload_n 0, 1) := by decide +kernel
theorem dX11_bounds_56 : decode cX11_bounds 56 = .ok (.aload_n 0, 1) := by decide +kernel
theorem dX11_bounds_57 : decode cX11_bounds 57 = .ok (.aload_n 0, 1) := by decide +kernel
theorem dX11_bounds_58 : decode cX11_bounds 58 = .ok (.getfield 152, 3) := by decide +kernel
theorem dX11_bounds_61 : decode cX11_bounds 61 = .ok (.invokevirtual 300, 3) := by decide +kernel
theorem dX11_bounds_64 : decode cX11_bounds 64 = .ok (.putfield 325, 3) := by decide +kernel
theorem dX11_bounds_67 : decode cX11_bounds 67 = .ok (.aload_n 0, 1) := by decide +kernel
theorem dX11_bounds_68 : decode cX11_bounds 68 = .ok (.dup, 1) := by decide +kernel
theorem dX11_bounds_69 : decode cX11_bounds 69 = .ok (.getfield 152, 3) := by decide +kernel
theorem dX11_bounds_72 : decode cX11_bounds 72 = .ok (.iconst 2, 1) := by decide +kernel
theorem dX11_bounds_73 : decode cX11_bounds 73 = .ok (.iadd, 1) := by decide +kernel
theorem dX11_bounds_74 : decode cX11_bounds 74 = .ok (.putfield 152, 3) := by decide +kernel
theorem dX11_bounds_77 : decode cX11_bounds 77 = .ok (.aload_n 0, 1) := by decide +kernel
theorem dX11_bounds_78 : decode cX11_bounds 78 = .ok (.aload_n 0, 1) := by decide +kernel
theorem dX11_bounds_79 : decode cX11_bounds 79 = .ok (.getfield 152, 3) := by decide +kernel
theorem dX11_bounds_82 : decode cX11_bounds 82 = .ok (.invokevirtual 300, 3) := by decide +kernel
theorem dX11_bounds_85 : decode cX11_bounds 85 = .ok (.sipush 1000, 3) := by decide +kernel
theorem dX11_bounds_88 : decode cX11_bounds 88 = .ok (.if_icmp .gt 18, 3) := by decide +kernel
theorem dX11_bounds_91 : decode cX11_bounds 91 = .ok (.aload_n 0, 1) := by decide +kernel
theorem dX11_bounds_92 : decode cX11_bounds 92 = .ok (.aload_n 0, 1) := by decide +kernel
theorem dX11_bounds_93 : decode cX11_bounds 93 = .ok (.getfield 152, 3) := by decide +kernel
theorem dX11_bounds_96 : decode cX11_bounds 96 = .ok (.invokevirtual 300, 3) := by decide +kernel
theorem dX11_bounds_99 : decode cX11_bounds 99 = .ok (.aload_n 0, 1) := by decide +kernel
theorem dX11_bounds_100 : decode cX11_bounds 100 = .ok (.getfield 325, 3) := by decide +kernel
theorem dX11_bounds_103 : decode cX11_bounds 103 = .ok (.if_icmp .ge 13, 3) := by decide +kernel
theorem dX11_bounds_106 : decode cX11_bounds 106 = .ok (.aload_n 0, 1) := by decide +kernel
theorem dX11_bounds_107 : decode cX11_bounds 107 = .ok (.iconst 5, 1) := by decide +kernel
theorem dX11_bounds_108 : decode cX11_bounds 108 = .ok (.aload_n 0, 1) := by decide +kernel
theorem dX11_bounds_109 : decode cX11_bounds 109 = .ok (.getfield 152, 3) := by decide +kernel
theorem dX11_bounds_112 : decode cX11_bounds 112 = .ok (.invokevirtual 294, 3) := by decide +kernel
theorem dX11_bounds_115 : decode cX11_bounds 115 = .ok (.ireturn, 1) := by decide +kernel
theorem dX11_bounds_116 : decode cX11_bounds 116 = .ok (.aload_n 0, 1) := by decide +kernel
theorem dX11_bounds_117 : decode cX11_bounds 117 = .ok (.aload_n 0, 1) := by decide +kernel
theorem dX11_bounds_118 : decode cX11_bounds 118 = .ok (.aload_n 0, 1) := by decide +kernel
theorem dX11_bounds_119 : decode cX11_bounds 119 = .ok (.getfield 152, 3) := by decide +kernel
theorem dX11_bounds_122 : decode cX11_bounds 122 = .ok (.invokevirtual 300, 3) := by decide +kernel
theorem dX11_bounds_125 : decode cX11_bounds 125 = .ok (.putfield 328, 3) := by decide +kernel
theorem dX11_bounds_128 : decode cX11_bounds 128 = .ok (.aload_n 0, 1) := by decide +kernel
theorem dX11_bounds_129 : decode cX11_bounds 129 = .ok (.dup, 1) := by decide +kernel
theorem dX11_bounds_130 : decode cX11_bounds 130 = .ok (.getfield 152, 3) := by decide +kernel
theorem dX11_bounds_133 : decode cX11_bounds 133 = .ok (.iconst 2, 1) := by decide +kernel
theorem dX11_bounds_134 : decode cX11_bounds 134 = .ok (.iadd, 1) := by decide +kernel
theorem dX11_bounds_135 : decode cX11_bounds 135 = .ok (.putfield 152, 3) := by decide +kernel
theorem dX11_bounds_138 : decode cX11_bounds 138 = .ok (.iconst 0, 1) := by decide +kernel
theorem dX11_bounds_139 : decode cX11_bounds 139 = .ok (.ireturn, 1) := by decide +kernel
theorem dX11_since_0 : decode cX11_since 0 = .ok (.aload_n 0, 1) := by decide +kernel
theorem dX11_since_1 : decode cX11_since 1 = .ok (.getfield 152, 3) := by decide +kernel
theorem dX11_since_4 : decode cX11_since 4 = .ok (.istore_n 1, 1) := by decide +kernel
theorem dX11_since_5 : decode cX11_since 5 = .ok (.aload_n 0, 1) := by decide +kernel
theorem dX11_since_6 : decode cX11_since 6 = .ok (.invokevirtual 331, 3) := by decide +kernel
theorem dX11_since_9 : decode cX11_since 9 = .ok (.istore_n 2, 1) := by decide +kernel
theorem dX11_since_10 : decode cX11_since 10 = .ok (.iload_n 2, 1) := by decide +kernel
theorem dX11_since_11 : decode cX11_since 11 = .ok (.ifCond .ne 12, 3) := by decide +kernel
theorem dX11_since_14 : decode cX11_since 14 = .ok (.aload_n 0, 1) := by decide +kernel
theorem dX11_since_15 : decode cX11_since 15 = .ok (.ldc 219, 2) := by decide +kernel
theorem dX11_since_17 : decode cX11_since 17 = .ok (.invokevirtual 155, 3) := by decide +kernel
theorem dX11_since_20 : decode cX11_since 20 = .ok (.ifCond .ne 5, 3) := by decide +kernel
theorem dX11_since_23 : decode cX11_since 23 = .ok (.iload_n 2, 1) := by decide +kernel
theorem dX11_since_24 : decode cX11_since 24 = .ok (.ireturn, 1) := by decide +kernel
theorem dX11_since_25 : decode cX11_since 25 = .ok (.aload_n 0, 1) := by decide +kernel
theorem dX11_since_26 : decode cX11_since 26 = .ok (.getfield 309, 3) := by decide +kernel
theorem dX11_since_29 : decode cX11_since 29 = .ok (.istore_n 3, 1) := by decide +kernel
theorem dX11_since_30 : decode cX11_since 30 = .ok (.aload_n 0, 1) := by decide +kernel
theorem dX11_since_31 : decode cX11_since 31 = .ok (.dup, 1) := by decide +kernel
theorem dX11_since_32 : decode cX11_since 32 = .ok (.getfield 152, 3) := by decide +kernel
theorem dX11_since_35 : decode cX11_since 35 = .ok (.iconst 1, 1) := by decide +kernel
theorem dX11_since_36 : decode cX11_since 36 = .ok (.iadd, 1) := by decide +kernel
theorem dX11_since_37 : decode cX11_since 37 = .ok (.putfield 152, 3) := by decide +kernel
theorem dX11_since_40 : decode cX11_since 40 = .ok (.aload_n 0, 1) := by decide +kernel
theorem dX11_since_41 : decode cX11_since 41 = .ok (.invokevirtual 334, 3) := by decide +kernel
theorem dX11_since_44 : decode cX11_since 44 = .ok (.istore_n 2, 1) := by decide +kernel
theorem dX11_since_45 : decode cX11_since 45 = .ok (.aload_n 0, 1) := by decide +kernel
theorem dX11_since_46 : decode cX11_since 46 = .ok (.getfield 325, 3) := by decide +kernel
theorem dX11_since_49 : decode cX11_since 49 = .ok (.istore 4, 2) := by decide +kernel
theorem dX11_since_51 : decode cX11_since 51 = .ok (.aload_n 0, 1) := by decide +kernel
theorem dX11_since_52 : decode cX11_since 52 = .ok (.getfield 328, 3) := by decide +kernel
theorem dX11_since_55 : decode cX11_since 55 = .ok (.istore 5, 2) := by decide +kernel
theorem dX11_since_57 : decode cX11_since 57 = .ok (.iload_n 2, 1) := by decide +kernel
theorem dX11_since_58 : decode cX11_since 58 = .ok (.ifCond .ne 8, 3) := by decide +kernel
theorem dX11_since_61 : decode cX11_since 61 = .ok (.aload_n 0, 1) := by decide +kernel
theorem dX11_since_62 : decode cX11_since 62 = .ok (.invokevirtual 331, 3) := by decide +kernel
theorem dX11_since_65 : decode cX11_since 65 = .ok (.istore_n 2, 1) := by decide +kernel
theorem dX11_since_66 : decode cX11_since 66 = .ok (.iload_n 2, 1) := by decide +kernel
theorem dX11_since_67 : decode cX11_since 67 = .ok (.ifCond .eq 5, 3) := by decide +kernel
theorem dX11_since_70 : decode cX11_since 70 = .ok (.iload_n 2, 1) := by decide +kernel
theorem dX11_since_71 : decode cX11_since 71 = .ok (.ireturn, 1) := by decide +kernel
theorem dX11_since_72 : decode cX11_since 72 = .ok (.aload_n 0, 1) := by decide +kernel
theorem dX11_since_73 : decode cX11_since 73 = .ok (.bipush 10, 2) := by decide +kernel
theorem dX11_since_75 : decode cX11_since 75 = .ok (.iload_n 3, 1) := by decide +kernel
theorem dX11_since_76 : decode cX11_since 76 = .ok (.aload_n 0, 1) := by decide +kernel
theorem dX11_since_77 : decode cX11_since 77 = .ok (.getfield 309, 3) := by decide +kernel
theorem dX11_since_80 : decode cX11_since 80 = .ok (.iconst (-1), 1) := by decide +kernel
theorem dX11_since_81 : decode cX11_since 81 = .ok (.aload_n 0, 1) := by decide +kernel
theorem dX11_since_82 : decode cX11_since 82 = .ok (.getfield 20, 3) := by decide +kernel
theorem dX11_since_85 : decode cX11_since 85 = .ok (.iload_n 1, 1) := by decide +kernel
theorem dX11_since_86 : decode cX11_since 86 = .ok (.iaload, 1) := by decide +kernel
theorem dX11_since_87 : decode cX11_since 87 = .ok (.invokevirtual 319, 3) := by decide +kernel
theorem dX11_since_90 : decode cX11_since 90 = .ok (.pop, 1) := by decide +kernel
theorem dX11_since_91 : decode cX11_since 91 = .ok (.aload_n 0, 1) := by decide +kernel
theorem dX11_since_92 : decode cX11_since 92 = .ok (.getfield 38, 3) := by decide +kernel
theorem dX11_since_95 : decode cX11_since 95 = .ok (.aload_n 0, 1) := by decide +kernel
theorem dX11_since_96 : decode cX11_since 96 = .ok (.getfield 309, 3) := by decide +kernel
theorem dX11_since_99 : decode cX11_since 99 = .ok (.iload 4, 2) := by decide +kernel
theorem dX11_since_101 : decode cX11_since 101 = .ok (.iastore, 1) := by decide +kernel
theorem dX11_since_102 : decode cX11_since 102 = .ok (.aload_n 0, 1) := by decide +kernel
theorem dX11_since_103 : decode cX11_since 103 = .ok (.getfield 41, 3) := by decide +kernel
theorem dX11_since_106 : decode cX11_since 106 = .ok (.aload_n 0, 1) := by decide +kernel
theorem dX11_since_107 : decode cX11_since 107 = .ok (.getfield 309, 3) := by decide +kernel
theorem dX11_since_110 : decode cX11_since 110 = .ok (.iload 5, 2) := by decide +kernel
theorem dX11_since_112 : decode cX11_since 112 = .ok (.iastore, 1) := by decide +kernel
theorem dX11_since_113 : decode cX11_since 113 = .ok (.iconst 0, 1) := by decide +kernel
theorem dX11_since_114 : decode cX11_since 114 = .ok (.ireturn, 1) := by decide +kernel
theorem dX11_one_0 : decode cX11_one 0 = .ok (.aload_n 0, 1) := by decide +kernel
theorem dX11_one_1 : decode cX11_one 1 = .ok (.getfield 152, 3) := by decide +kernel
theorem dX11_one_4 : decode cX11_one 4 = .ok (.istore_n 1, 1) := by decide +kernel
theorem dX11_one_5 : decode cX11_one 5 = .ok (.aload_n 0, 1) := by decide +kernel
theorem dX11_one_6 : decode cX11_one 6 = .ok (.aload_n 0, 1) := by decide +kernel
theorem dX11_one_7 : decode cX11_one 7 = .ok (.getfield 152, 3) := by decide +kernel
theorem dX11_one_10 : decode cX11_one 10 = .ok (.getstatic 230, 3) := by decide +kernel
theorem dX11_one_13 : decode cX11_one 13 = .ok (.invokevirtual 146, 3) := by decide +kernel
theorem dX11_one_16 : decode cX11_one 16 = .ok (.istore_n 2, 1) := by decide +kernel
theorem dX11_one_17 : decode cX11_one 17 = .ok (.iload_n 2, 1) := by decide +kernel
theorem dX11_one_18 : decode cX11_one 18 = .ok (.iconst (-1), 1) := by decide +kernel
theorem dX11_one_19 : decode cX11_one 19 = .ok (.if_icmp .eq 10, 3) := by decide +kernel
theorem dX11_one_22 : decode cX11_one 22 = .ok (.aload_n 0, 1) := by decide +kernel
theorem dX11_one_23 : decode cX11_one 23 = .ok (.iload_n 1, 1) := by decide +kernel
theorem dX11_one_24 : decode cX11_one 24 = .ok (.iload_n 2, 1) := by decide +kernel
theorem dX11_one_25 : decode cX11_one 25 = .ok (.invokevirtual 337, 3) := by decide +kernel
theorem dX11_one_28 : decode cX11_one 28 = .ok (.ireturn, 1) := by decide +kernel
theorem dX11_one_29 : decode cX11_one 29 = .ok (.aload_n 0, 1) := by decide +kernel
theorem dX11_one_30 : decode cX11_one 30 = .ok (.ldc 233, 2) := by decide +kernel
theorem dX11_one_32 : decode cX11_one 32 = .ok (.invokevirtual 155, 3) := by decide +kernel
theorem dX11_one_35 : decode cX11_one 35 = .ok (.ifCond .eq 30, 3) := by decide +kernel
theorem dX11_one_38 : decode cX11_one 38 = .ok (.aload_n 0, 1) := by decide +kernel
theorem dX11_one_39 : decode cX11_one 39 = .ok (.dup, 1) := by decide +kernel
theorem dX11_one_40 : decode cX11_one 40 = .ok (.getfield 152, 3) := by decide +kernel
theorem dX11_one_43 : decode cX11_one 43 = .ok (.iconst 1, 1) := by decide +kernel
theorem dX11_one_44 : decode cX11_one 44 = .ok (.iadd, 1) := by decide +kernel
theorem dX11_one_45 : decode cX11_one 45 = .ok (.putfield 152, 3) := by decide +kernel
theorem dX11_one_48 : decode cX11_one 48 = .ok (.aload_n 0, 1) := by decide +kernel
theorem dX11_one_49 : decode cX11_one 49 = .ok (.invokevirtual 306, 3) := by decide +kernel
theorem dX11_one_52 : decode cX11_one 52 = .ok (.istore_n 3, 1) := by decide +kernel
theorem dX11_one_53 : decode cX11_one 53 = .ok (.aload_n 0, 1) := by decide +kernel
theorem dX11_one_54 : decode cX11_one 54 = .ok (.dup, 1) := by decide +kernel
theorem dX11_one_55 : decode cX11_one 55 = .ok (.getfield 152, 3) := by decide +kernel
theorem dX11_one_58 : decode cX11_one 58 = .ok (.iconst 1, 1) := by decide +kernel
theorem dX11_one_59 : decode cX11_one 59 = .ok (.iadd, 1) := by decide +kernel
theorem dX11_one_60 : decode cX11_one 60 = .ok (.putfield 152, 3) := by decide +kernel
theorem dX11_one_63 : decode cX11_one 63 = .ok (.iload_n 3, 1) := by decide +kernel
theorem dX11_one_64 : decode cX11_one 64 = .ok (.ireturn, 1) := by decide +kernel
theorem dX11_one_65 : decode cX11_one 65 = .ok (.aload_n 0, 1) := by decide +kernel
theorem dX11_one_66 : decode cX11_one 66 = .ok (.ldc 237, 2) := by decide +kernel
theorem dX11_one_68 : decode cX11_one 68 = .ok (.invokevirtual 155, 3) := by decide +kernel
theorem dX11_one_71 : decode cX11_one 71 = .ok (.ifCond .ne 12, 3) := by decide +kernel
theorem dX11_one_74 : decode cX11_one 74 = .ok (.aload_n 0, 1) := by decide +kernel
theorem dX11_one_75 : decode cX11_one 75 = .ok (.ldc 239, 2) := by decide +kernel
theorem dX11_one_77 : decode cX11_one 77 = .ok (.invokevirtual 155, 3) := by decide +kernel
theorem dX11_one_80 : decode cX11_one 80 = .ok (.ifCond .eq 44, 3) := by decide +kernel
theorem dX11_one_83 : decode cX11_one 83 = .ok (.aload_n 0, 1) := by decide +kernel
theorem dX11_one_84 : decode cX11_one 84 = .ok (.dup, 1) := by decide +kernel
theorem dX11_one_85 : decode cX11_one 85 = .ok (.getfield 152, 3) := by decide +kernel
theorem dX11_one_88 : decode cX11_one 88 = .ok (.iconst 1, 1) := by decide +kernel
theorem dX11_one_89 : decode cX11_one 89 = .ok (.iadd, 1) := by decide +kernel
theorem dX11_one_90 : decode cX11_one 90 = .ok (.putfield 152, 3) := by decide +kernel
theorem dX11_one_93 : decode cX11_one 93 = .ok (.aload_n 0, 1) := by decide +kernel
theorem dX11_one_94 : decode cX11_one 94 = .ok (.aload_n 0, 1) := by decide +kernel
theorem dX11_one_95 : decode cX11_one 95 = .ok (.iload_n 1, 1) := by decide +kernel
theorem dX11_one_96 : decode cX11_one 96 = .ok (.ldc 237, 2) := by decide +kernel
theorem dX11_one_98 : decode cX11_one 98 = .ok (.invokevirtual 138, 3) := by decide +kernel
theorem dX11_one_101 : decode cX11_one 101 = .ok (.ifCond .eq 8, 3) := by decide +kernel
theorem dX11_one_104 : decode cX11_one 104 = .ok (.bipush 6, 2) := by decide +kernel
theorem dX11_one_106 : decode cX11_one 106 = .ok (.goto 5, 3) := by decide +kernel
theorem dX11_one_109 : decode cX11_one 109 = .ok (.bipush 7, 2) := by decide +kernel
theorem dX11_one_111 : decode cX11_one 111 = .ok (.iconst (-1), 1) := by decide +kernel
theorem dX11_one_112 : decode cX11_one 112 = .ok (.iconst (-1), 1) := by decide +kernel
theorem dX11_one_113 : decode cX11_one 113 = .ok (.iconst (-1), 1) := by decide +kernel
theorem dX11_one_114 : decode cX11_one 114 = .ok (.aload_n 0, 1) := by decide +kernel
theorem dX11_one_115 : decode cX11_one 115 = .ok (.getfield 20, 3) := by decide +kernel
theorem dX11_one_118 : decode cX11_one 118 = .ok (.iload_n 1, 1) := by decide +kernel
theorem dX11_one_119 : decode cX11_one 119 = .ok (.iaload, 1) := by decide +kernel
theorem dX11_one_120 : decode cX11_one 120 = .ok (.invokevirtual 319, 3) := by decide +kernel
theorem dX11_one_123 : decode cX11_one 123 = .ok (.ireturn, 1) := by decide +kernel
theorem dX11_one_124 : decode cX11_one 124 = .ok (.aload_n 0, 1) := by decide +kernel
theorem dX11_one_125 : decode cX11_one 125 = .ok (.ldc 241, 2) := by decide +kernel
theorem dX11_one_127 : decode cX11_one 127 = .ok (.invokevirtual 155, 3) := by decide +kernel
theorem dX11_one_130 : decode cX11_one 130 = .ok (.ifCond .ne 9, 3) := by decide +kernel
theorem dX11_one_133 : decode cX11_one 133 = .ok (.aload_n 0, 1) := by decide +kernel
theorem dX11_one_134 : decode cX11_one 134 = .ok (.iload_n 1, 1) := by decide +kernel
theorem dX11_one_135 : decode cX11_one 135 = .ok (.invokevirtual 340, 3) := by decide +kernel
theorem dX11_one_138 : decode cX11_one 138 = .ok (.ireturn, 1) := by decide +kernel
theorem dX11_one_139 : decode cX11_one 139 = .ok (.aload_n 0, 1) := by decide +kernel
theorem dX11_one_140 : decode cX11_one 140 = .ok (.dup, 1) := by decide +kernel
theorem dX11_one_141 : decode cX11_one 141 = .ok (.getfield 152, 3) := by decide +kernel
theorem dX11_one_144 : decode cX11_one 144 = .ok (.iconst 1, 1) := by decide +kernel
theorem dX11_one_145 : decode cX11_one 145 = .ok (.iadd, 1) := by decide +kernel
theorem dX11_one_146 : decode cX11_one 146 = .ok (.putfield 152, 3) := by decide +kernel
theorem dX11_one_149 : decode cX11_one 149 = .ok (.aload_n 0, 1) := by decide +kernel
theorem dX11_one_150 : decode cX11_one 150 = .ok (.aload_n 0, 1) := by decide +kernel
theorem dX11_one_151 : decode cX11_one 151 = .ok (.getfield 152, 3) := by decide +kernel
theorem dX11_one_154 : decode cX11_one 154 = .ok (.invokevirtual 297, 3) := by decide +kernel
theorem dX11_one_157 : decode cX11_one 157 = .ok (.istore_n 3, 1) := by decide +kernel
theorem dX11_one_158 : decode cX11_one 158 = .ok (.iload_n 3, 1) := by decide +kernel
theorem dX11_one_159 : decode cX11_one 159 = .ok (.iconst (-1), 1) := by decide +kernel
theorem dX11_one_160 : decode cX11_one 160 = .ok (.if_icmp .eq 14, 3) := by decide +kernel
theorem dX11_one_163 : decode cX11_one 163 = .ok (.aload_n 0, 1) := by decide +kernel
theorem dX11_one_164 : decode cX11_one 164 = .ok (.getfield 55, 3) := by decide +kernel
theorem dX11_one_167 : decode cX11_one 167 = .ok (.iload_n 3, 1) := by decide +kernel
theorem dX11_one_168 : decode cX11_one 168 = .ok (.iaload, 1) := by decide +kernel
theorem dX11_one_169 : decode cX11_one 169 = .ok (.iconst 2, 1) := by decide +kernel
theorem dX11_one_170 : decode cX11_one 170 = .ok (.irem, 1) := by decide +kernel
theorem dX11_one_171 : decode cX11_one 171 = .ok (.ifCond .ne 13, 3) := by decide +kernel
theorem dX11_one_174 : decode cX11_one 174 = .ok (.aload_n 0, 1) := by decide +kernel
theorem dX11_one_175 : decode cX11_one 175 = .ok (.iconst 2, 1) := by decide +kernel
theorem dX11_one_176 : decode cX11_one 176 = .ok (.aload_n 0, 1) := by decide +kernel
theorem dX11_one_177 : decode cX11_one 177 = .ok (.getfield 152, 3) := by decide +kernel
theorem dX11_one_180 : decode cX11_one 180 = .ok (.invokevirtual 294, 3) := by decide +kernel
theorem dX11_one_183 : decode cX11_one 183 = .ok (.ireturn, 1) := by decide +kernel
theorem dX11_one_184 : decode cX11_one 184 = .ok (.aload_n 0, 1) := by decide +kernel
theorem dX11_one_185 : decode cX11_one 185 = .ok (.dup, 1) := by decide +kernel
theorem dX11_one_186 : decode cX11_one 186 = .ok (.getfield 152, 3) := by decide +kernel
theorem dX11_one_189 : decode cX11_one 189 = .ok (.iconst 1, 1) := by decide +kernel
theorem dX11_one_190 : decode cX11_one 190 = .ok (.iadd, 1) := by decide +kernel
theorem dX11_one_191 : decode cX11_one 191 = .ok (.putfield 152, 3) := by decide +kernel
theorem dX11_one_194 : decode cX11_one 194 = .ok (.aload_n 0, 1) := by decide +kernel
theorem dX11_one_195 : decode cX11_one 195 = .ok (.bipush 8, 2) := by decide +kernel
theorem dX11_one_197 : decode cX11_one 197 = .ok (.aload_n 0, 1) := by decide +kernel
theorem dX11_one_198 : decode cX11_one 198 = .ok (.getfield 67, 3) := by decide +kernel
theorem dX11_one_201 : decode cX11_one 201 = .ok (.bipush 12, 2) := by decide +kernel
theorem dX11_one_203 : decode cX11_one 203 = .ok (.aload_n 0, 1) := by decide +kernel
theorem dX11_one_204 : decode cX11_one 204 = .ok (.getfield 55, 3) := by decide +kernel
theorem dX11_one_207 : decode cX11_one 207 = .ok (.iload_n 3, 1) := by decide +kernel
theorem dX11_one_208 : decode cX11_one 208 = .ok (.iaload, 1) := by decide +kernel
theorem dX11_one_209 : decode cX11_one 209 = .ok (.imul, 1) := by decide +kernel
theorem dX11_one_210 : decode cX11_one 210 = .ok (.aload_n 0, 1) := by decide +kernel
theorem dX11_one_211 : decode cX11_one 211 = .ok (.getfield 58, 3) := by decide +kernel
theorem dX11_one_214 : decode cX11_one 214 = .ok (.iload_n 3, 1) := by decide +kernel
theorem dX11_one_215 : decode cX11_one 215 = .ok (.iaload, 1) := by decide +kernel
theorem dX11_one_216 : decode cX11_one 216 = .ok (.iadd, 1) := by decide +kernel
theorem dX11_one_217 : decode cX11_one 217 = .ok (.iaload, 1) := by decide +kernel
theorem dX11_one_218 : decode cX11_one 218 = .ok (.iconst (-1), 1) := by decide +kernel
theorem dX11_one_219 : decode cX11_one 219 = .ok (.iconst (-1), 1) := by decide +kernel
theorem dX11_one_220 : decode cX11_one 220 = .ok (.aload_n 0, 1) := by decide +kernel
theorem dX11_one_221 : decode cX11_one 221 = .ok (.getfield 20, 3) := by decide +kernel
theorem dX11_one_224 : decode cX11_one 224 = .ok (.iload_n 1, 1) := by decide +kernel
theorem dX11_one_225 : decode cX11_one 225 = .ok (.iaload, 1) := by decide +kernel
theorem dX11_one_226 : decode cX11_one 226 = .ok (.invokevirtual 319, 3) := by decide +kernel
theorem dX11_one_229 : decode cX11_one 229 = .ok (.ireturn, 1) := by decide +kernel
theorem dX11_fronted_0 : decode cX11_fronted 0 = .ok (.aload_n 0, 1) := by decide +kernel
theorem dX11_fronted_1 : decode cX11_fronted 1 = .ok (.dup, 1) := by decide +kernel
theorem dX11_fronted_2 : decode cX11_fronted 2 = .ok (.getfield 152, 3) := by decide +kernel
theorem dX11_fronted_5 : decode cX11_fronted 5 = .ok (.iconst 1, 1) := by decide +kernel
theorem dX11_fronted_6 : decode cX11_fronted 6 = .ok (.iadd, 1) := by decide +kernel
theorem dX11_fronted_7 : decode cX11_fronted 7 = .ok (.putfield 152, 3) := by decide +kernel
theorem dX11_fronted_10 : decode cX11_fronted 10 = .ok (.iload_n 2, 1) := by decide +kernel
theorem dX11_fronted_11 : decode cX11_fronted 11 = .ok (.iconst 4, 1) := by decide +kernel
theorem dX11_fronted_12 : decode cX11_fronted 12 = .ok (.if_icmp .ge 7, 3) := by decide +kernel
theorem dX11_fronted_15 : decode cX11_fronted 15 = .ok (.iconst 0, 1) := by decide +kernel
theorem dX11_fronted_16 : decode cX11_fronted 16 = .ok (.goto 7, 3) := by decide +kernel
theorem dX11_fronted_19 : decode cX11_fronted 19 = .ok (.aload_n 0, 1) := by decide +kernel
theorem dX11_fronted_20 : decode cX11_fronted 20 = .ok (.invokevirtual 334, 3) := by decide +kernel
theorem dX11_fronted_23 : decode cX11_fronted 23 = .ok (.istore_n 3, 1) := by decide +kernel
theorem dX11_fronted_24 : decode cX11_fronted 24 = .ok (.iload_n 2, 1) := by decide +kernel
theorem dX11_fronted_25 : decode cX11_fronted 25 = .ok (.iconst 4, 1) := by decide +kernel
theorem dX11_fronted_26 : decode cX11_fronted 26 = .ok (.if_icmp .ge 7, 3) := by decide +kernel
theorem dX11_fronted_29 : decode cX11_fronted 29 = .ok (.iconst 0, 1) := by decide +kernel
theorem dX11_fronted_30 : decode cX11_fronted 30 = .ok (.goto 7, 3) := by decide +kernel
theorem dX11_fronted_33 : decode cX11_fronted 33 = .ok (.aload_n 0, 1) := by decide +kernel
theorem dX11_fronted_34 : decode cX11_fronted 34 = .ok (.getfield 325, 3) := by decide +kernel
theorem dX11_fronted_37 : decode cX11_fronted 37 = .ok (.istore 4, 2) := by decide +kernel
theorem dX11_fronted_39 : decode cX11_fronted 39 = .ok (.iload_n 2, 1) := by decide +kernel
theorem dX11_fronted_40 : decode cX11_fronted 40 = .ok (.iconst 4, 1) := by decide +kernel
theorem dX11_fronted_41 : decode cX11_fronted 41 = .ok (.if_icmp .ge 7, 3) := by decide +kernel
theorem dX11_fronted_44 : decode cX11_fronted 44 = .ok (.iconst (-1), 1) := by decide +kernel
theorem dX11_fronted_45 : decode cX11_fronted 45 = .ok (.goto 7, 3) := by decide +kernel
theorem dX11_fronted_48 : decode cX11_fronted 48 = .ok (.aload_n 0, 1) := by decide +kernel
theorem dX11_fronted_49 : decode cX11_fronted 49 = .ok (.getfield 328, 3) := by decide +kernel
theorem dX11_fronted_52 : decode cX11_fronted 52 = .ok (.istore 5, 2) := by decide +kernel
theorem dX11_fronted_54 : decode cX11_fronted 54 = .ok (.iload_n 3, 1) := by decide +kernel
theorem dX11_fronted_55 : decode cX11_fronted 55 = .ok (.ifCond .ne 8, 3) := by decide +kernel
theorem dX11_fronted_58 : decode cX11_fronted 58 = .ok (.aload_n 0, 1) := by decide +kernel
theorem dX11_fronted_59 : decode cX11_fronted 59 = .ok (.invokevirtual 331, 3) := by decide +kernel
theorem dX11_fronted_62 : decode cX11_fronted 62 = .ok (.istore_n 3, 1) := by decide +kernel
theorem dX11_fronted_63 : decode cX11_fronted 63 = .ok (.iload_n 3, 1) := by decide +kernel
theorem dX11_fronted_64 : decode cX11_fronted 64 = .ok (.ifCond .eq 5, 3) := by decide +kernel
theorem dX11_fronted_67 : decode cX11_fronted 67 = .ok (.iload_n 3, 1) := by decide +kernel
theorem dX11_fronted_68 : decode cX11_fronted 68 = .ok (.ireturn, 1) := by decide +kernel
theorem dX11_fronted_69 : decode cX11_fronted 69 = .ok (.aload_n 0, 1) := by decide +kernel
theorem dX11_fronted_70 : decode cX11_fronted 70 = .ok (.iload_n 2, 1) := by decide +kernel
theorem dX11_fronted_71 : decode cX11_fronted 71 = .ok (.aload_n 0, 1) := by decide +kernel
theorem dX11_fronted_72 : decode cX11_fronted 72 = .ok (.getfield 309, 3) := by decide +kernel
theorem dX11_fronted_75 : decode cX11_fronted 75 = .ok (.iconst (-1), 1) := by decide +kernel
theorem dX11_fronted_76 : decode cX11_fronted 76 = .ok (.iconst (-1), 1) := by decide +kernel
theorem dX11_fronted_77 : decode cX11_fronted 77 = .ok (.aload_n 0, 1) := by decide +kernel
theorem dX11_fronted_78 : decode cX11_fronted 78 = .ok (.getfield 20, 3) := by decide +kernel
theorem dX11_fronted_81 : decode cX11_fronted 81 = .ok (.iload_n 1, 1) := by decide +kernel
theorem dX11_fronted_82 : decode cX11_fronted 82 = .ok (.iaload, 1) := by decide +kernel
theorem dX11_fronted_83 : decode cX11_fronted 83 = .ok (.invokevirtual 319, 3) := by decide +kernel
theorem dX11_fronted_86 : decode cX11_fronted 86 = .ok (.pop, 1) := by decide +kernel
theorem dX11_fronted_87 : decode cX11_fronted 87 = .ok (.aload_n 0, 1) := by decide +kernel
theorem dX11_fronted_88 : decode cX11_fronted 88 = .ok (.getfield 38, 3) := by decide +kernel
theorem dX11_fronted_91 : decode cX11_fronted 91 = .ok (.aload_n 0, 1) := by decide +kernel
theorem dX11_fronted_92 : decode cX11_fronted 92 = .ok (.getfield 309, 3) := by decide +kernel
theorem dX11_fronted_95 : decode cX11_fronted 95 = .ok (.iload 4, 2) := by decide +kernel
theorem dX11_fronted_97 : decode cX11_fronted 97 = .ok (.iastore, 1) := by decide +kernel
theorem dX11_fronted_98 : decode cX11_fronted 98 = .ok (.aload_n 0, 1) := by decide +kernel
theorem dX11_fronted_99 : decode cX11_fronted 99 = .ok (.getfield 41, 3) := by decide +kernel
theorem dX11_fronted_102 : decode cX11_fronted 102 = .ok (.aload_n 0, 1) := by decide +kernel
theorem dX11_fronted_103 : decode cX11_fronted 103 = .ok (.getfield 309, 3) := by decide +kernel
theorem dX11_fronted_106 : decode cX11_fronted 106 = .ok (.iload 5, 2) := by decide +kernel
theorem dX11_fronted_108 : decode cX11_fronted 108 = .ok (.iastore, 1) := by decide +kernel
theorem dX11_fronted_109 : decode cX11_fronted 109 = .ok (.iconst 0, 1) := by decide +kernel
theorem dX11_fronted_110 : decode cX11_fronted 110 = .ok (.ireturn, 1) := by decide +kernel
theorem dX11_compare_0 : decode cX11_compare 0 = .ok (.aload_n 0, 1) := by decide +kernel
theorem dX11_compare_1 : decode cX11_compare 1 = .ok (.invokevirtual 303, 3) := by decide +kernel
theorem dX11_compare_4 : decode cX11_compare 4 = .ok (.istore_n 2, 1) := by decide +kernel
theorem dX11_compare_5 : decode cX11_compare 5 = .ok (.iload_n 2, 1) := by decide +kernel
theorem dX11_compare_6 : decode cX11_compare 6 = .ok (.ifCond .eq 5, 3) := by decide +kernel
theorem dX11_compare_9 : decode cX11_compare 9 = .ok (.iload_n 2, 1) := by decide +kernel
theorem dX11_compare_10 : decode cX11_compare 10 = .ok (.ireturn, 1) := by decide +kernel
theorem dX11_compare_11 : decode cX11_compare 11 = .ok (.aload_n 0, 1) := by decide +kernel
theorem dX11_compare_12 : decode cX11_compare 12 = .ok (.getfield 309, 3) := by decide +kernel
theorem dX11_compare_15 : decode cX11_compare 15 = .ok (.istore_n 3, 1) := by decide +kernel
theorem dX11_compare_16 : decode cX11_compare 16 = .ok (.aload_n 0, 1) := by decide +kernel
theorem dX11_compare_17 : decode cX11_compare 17 = .ok (.aload_n 0, 1) := by decide +kernel
theorem dX11_compare_18 : decode cX11_compare 18 = .ok (.getfield 152, 3) := by decide +kernel
theorem dX11_compare_21 : decode cX11_compare 21 = .ok (.getstatic 242, 3) := by decide +kernel
theorem dX11_compare_24 : decode cX11_compare 24 = .ok (.invokevirtual 146, 3) := by decide +kernel
theorem dX11_compare_27 : decode cX11_compare 27 = .ok (.istore 4, 2) := by decide +kernel
theorem dX11_compare_29 : decode cX11_compare 29 = .ok (.aload_n 0, 1) := by decide +kernel
theorem dX11_compare_30 : decode cX11_compare 30 = .ok (.dup, 1) := by decide +kernel
theorem dX11_compare_31 : decode cX11_compare 31 = .ok (.getfield 152, 3) := by decide +kernel
theorem dX11_compare_34 : decode cX11_compare 34 = .ok (.iconst 1, 1) := by decide +kernel
theorem dX11_compare_35 : decode cX11_compare 35 = .ok (.iadd, 1) := by decide +kernel
theorem dX11_compare_36 : decode cX11_compare 36 = .ok (.putfield 152, 3) := by decide +kernel
theorem dX11_compare_39 : decode cX11_compare 39 = .ok (.aload_n 0, 1) := by decide +kernel
theorem dX11_compare_40 : decode cX11_compare 40 = .ok (.invokevirtual 303, 3) := by decide +kernel
theorem dX11_compare_43 : decode cX11_compare 43 = .ok (.istore_n 2, 1) := by decide +kernel
theorem dX11_compare_44 : decode cX11_compare 44 = .ok (.iload_n 2, 1) := by decide +kernel
theorem dX11_compare_45 : decode cX11_compare 45 = .ok (.ifCond .eq 5, 3) := by decide +kernel
theorem dX11_compare_48 : decode cX11_compare 48 = .ok (.iload_n 2, 1) := by decide +kernel
theorem dX11_compare_49 : decode cX11_compare 49 = .ok (.ireturn, 1) := by decide +kernel
theorem dX11_compare_50 : decode cX11_compare 50 = .ok (.aload_n 0, 1) := by decide +kernel
theorem dX11_compare_51 : decode cX11_compare 51 = .ok (.bipush 9, 2) := by decide +kernel
theorem dX11_compare_53 : decode cX11_compare 53 = .ok (.iload_n 3, 1) := by decide +kernel
theorem dX11_compare_54 : decode cX11_compare 54 = .ok (.aload_n 0, 1) := by decide +kernel
theorem dX11_compare_55 : decode cX11_compare 55 = .ok (.getfield 309, 3) := by decide +kernel
theorem dX11_compare_58 : decode cX11_compare 58 = .ok (.iload 4, 2) := by decide +kernel
theorem dX11_compare_60 : decode cX11_compare 60 = .ok (.aload_n 0, 1) := by decide +kernel
theorem dX11_compare_61 : decode cX11_compare 61 = .ok (.getfield 20, 3) := by decide +kernel
theorem dX11_compare_64 : decode cX11_compare 64 = .ok (.iload_n 1, 1) := by decide +kernel
theorem dX11_compare_65 : decode cX11_compare 65 = .ok (.iaload, 1) := by decide +kernel
theorem dX11_compare_66 : decode cX11_compare 66 = .ok (.invokevirtual 319, 3) := by decide +kernel
theorem dX11_compare_69 : decode cX11_compare 69 = .ok (.ireturn, 1) := by decide +kernel
theorem dX11_expression_0 : decode cX11_expression 0 = .ok (.aload_n 0, 1) := by decide +kernel
theorem dX11_expression_1 : decode cX11_expression 1 = .ok (.invokevirtual 343, 3) := by decide +kernel
theorem dX11_expression_4 : decode cX11_expression 4 = .ok (.istore_n 1, 1) := by decide +kernel
theorem dX11_expression_5 : decode cX11_expression 5 = .ok (.iload_n 1, 1) := by decide +kernel
theorem dX11_expression_6 : decode cX11_expression 6 = .ok (.ifCond .ne 30, 3) := by decide +kernel
theorem dX11_expression_9 : decode cX11_expression 9 = .ok (.aload_n 0, 1) := by decide +kernel
theorem dX11_expression_10 : decode cX11_expression 10 = .ok (.ldc 248, 2) := by decide +kernel
theorem dX11_expression_12 : decode cX11_expression 12 = .ok (.invokevirtual 155, 3) := by decide +kernel
theorem dX11_expression_15 : decode cX11_expression 15 = .ok (.ifCond .ne 12, 3) := by decide +kernel
theorem dX11_expression_18 : decode cX11_expression 18 = .ok (.aload_n 0, 1) := by decide +kernel
theorem dX11_expression_19 : decode cX11_expression 19 = .ok (.ldc 179, 2) := by decide +kernel
theorem dX11_expression_21 : decode cX11_expression 21 = .ok (.invokevirtual 155, 3) := by decide +kernel
theorem dX11_expression_24 : decode cX11_expression 24 = .ok (.ifCond .eq 12, 3) := by decide +kernel
theorem dX11_expression_27 : decode cX11_expression 27 = .ok (.aload_n 0, 1) := by decide +kernel
theorem dX11_expression_28 : decode cX11_expression 28 = .ok (.iconst 1, 1) := by decide +kernel
theorem dX11_expression_29 : decode cX11_expression 29 = .ok (.invokevirtual 346, 3) := by decide +kernel
theorem dX11_expression_32 : decode cX11_expression 32 = .ok (.istore_n 1, 1) := by decide +kernel
theorem dX11_expression_33 : decode cX11_expression 33 = .ok (.goto (-28), 3) := by decide +kernel
theorem dX11_expression_36 : decode cX11_expression 36 = .ok (.iload_n 1, 1) := by decide +kernel
theorem dX11_expression_37 : decode cX11_expression 37 = .ok (.ireturn, 1) := by decide +kernel
theorem dX11_product_0 : decode cX11_product 0 = .ok (.aload_n 0, 1) := by decide +kernel
theorem dX11_product_1 : decode cX11_product 1 = .ok (.invokevirtual 350, 3) := by decide +kernel
theorem dX11_product_4 : decode cX11_product 4 = .ok (.istore_n 1, 1) := by decide +kernel
theorem dX11_product_5 : decode cX11_product 5 = .ok (.iload_n 1, 1) := by decide +kernel
theorem dX11_product_6 : decode cX11_product 6 = .ok (.ifCond .ne 40, 3) := by decide +kernel
theorem dX11_product_9 : decode cX11_product 9 = .ok (.aload_n 0, 1) := by decide +kernel
theorem dX11_product_10 : decode cX11_product 10 = .ok (.ldc 253, 2) := by decide +kernel
theorem dX11_product_12 : decode cX11_product 12 = .ok (.invokevirtual 155, 3) := by decide +kernel
theorem dX11_product_15 : decode cX11_product 15 = .ok (.ifCond .ne 22, 3) := by decide +kernel
theorem dX11_product_18 : decode cX11_product 18 = .ok (.aload_n 0, 1) := by decide +kernel
theorem dX11_product_19 : decode cX11_product 19 = .ok (.ldc 255, 2) := by decide +kernel
theorem dX11_product_21 : decode cX11_product 21 = .ok (.invokevirtual 155, 3) := by decide +kernel
theorem dX11_product_24 : decode cX11_product 24 = .ok (.ifCond .ne 13, 3) := by decide +kernel
theorem dX11_product_27 : decode cX11_product 27 = .ok (.aload_n 0, 1) := by decide +kernel
theorem dX11_product_28 : decode cX11_product 28 = .ok (.ldc_w 257, 3) := by decide +kernel
theorem dX11_product_31 : decode cX11_product 31 = .ok (.invokevirtual 155, 3) := by decide +kernel
theorem dX11_product_34 : decode cX11_product 34 = .ok (.ifCond .eq 12, 3) := by decide +kernel
theorem dX11_product_37 : decode cX11_product 37 = .ok (.aload_n 0, 1) := by decide +kernel
theorem dX11_product_38 : decode cX11_product 38 = .ok (.iconst 0, 1) := by decide +kernel
theorem dX11_product_39 : decode cX11_product 39 = .ok (.invokevirtual 346, 3) := by decide +kernel
theorem dX11_product_42 : decode cX11_product 42 = .ok (.istore_n 1, 1) := by decide +kernel
theorem dX11_product_43 : decode cX11_product 43 = .ok (.goto (-38), 3) := by decide +kernel
theorem dX11_product_46 : decode cX11_product 46 = .ok (.iload_n 1, 1) := by decide +kernel
theorem dX11_product_47 : decode cX11_product 47 = .ok (.ireturn, 1) := by decide +kernel
theorem dX11_twoSided_0 : decode cX11_twoSided 0 = .ok (.aload_n 0, 1) := by decide +kernel
theorem dX11_twoSided_1 : decode cX11_twoSided 1 = .ok (.getfield 309, 3) := by decide +kernel
theorem dX11_twoSided_4 : decode cX11_twoSided 4 = .ok (.istore_n 2, 1) := by decide +kernel
theorem dX11_twoSided_5 : decode cX11_twoSided 5 = .ok (.aload_n 0, 1) := by decide +kernel
theorem dX11_twoSided_6 : decode cX11_twoSided 6 = .ok (.aload_n 0, 1) := by decide +kernel
theorem dX11_twoSided_7 : decode cX11_twoSided 7 = .ok (.getfield 152, 3) := by decide +kernel
theorem dX11_twoSided_10 : decode cX11_twoSided 10 = .ok (.getstatic 353, 3) := by decide +kernel
theorem dX11_twoSided_13 : decode cX11_twoSided 13 = .ok (.invokevirtual 146, 3) := by decide +kernel
theorem dX11_twoSided_16 : decode cX11_twoSided 16 = .ok (.istore_n 3, 1) := by decide +kernel
theorem dX11_twoSided_17 : decode cX11_twoSided 17 = .ok (.aload_n 0, 1) := by decide +kernel
theorem dX11_twoSided_18 : decode cX11_twoSided 18 = .ok (.dup, 1) := by decide +kernel
theorem dX11_twoSided_19 : decode cX11_twoSided 19 = .ok (.getfield 152, 3) := by decide +kernel
theorem dX11_twoSided_22 : decode cX11_twoSided 22 = .ok (.iconst 1, 1) := by decide +kernel
theorem dX11_twoSided_23 : decode cX11_twoSided 23 = .ok (.iadd, 1) := by decide +kernel
theorem dX11_twoSided_24 : decode cX11_twoSided 24 = .ok (.putfield 152, 3) := by decide +kernel
theorem dX11_twoSided_27 : decode cX11_twoSided 27 = .ok (.iload_n 1, 1) := by decide +kernel
theorem dX11_twoSided_28 : decode cX11_twoSided 28 = .ok (.ifCond .eq 10, 3) := by decide +kernel
theorem dX11_twoSided_31 : decode cX11_twoSided 31 = .ok (.aload_n 0, 1) := by decide +kernel
theorem dX11_twoSided_32 : decode cX11_twoSided 32 = .ok (.invokevirtual 343, 3) := by decide +kernel
theorem dX11_twoSided_35 : decode cX11_twoSided 35 = .ok (.goto 7, 3) := by decide +kernel
theorem dX11_twoSided_38 : decode cX11_twoSided 38 = .ok (.aload_n 0, 1) := by decide +kernel
theorem dX11_twoSided_39 : decode cX11_twoSided 39 = .ok (.invokevirtual 350, 3) := by decide +kernel
theorem dX11_twoSided_42 : decode cX11_twoSided 42 = .ok (.istore 4, 2) := by decide +kernel
theorem dX11_twoSided_44 : decode cX11_twoSided 44 = .ok (.iload 4, 2) := by decide +kernel
theorem dX11_twoSided_46 : decode cX11_twoSided 46 = .ok (.ifCond .eq 8, 3) := by decide +kernel
theorem dX11_twoSided_49 : decode cX11_twoSided 49 = .ok (.iload 4, 2) := by decide +kernel
theorem dX11_twoSided_51 : decode cX11_twoSided 51 = .ok (.goto 21, 3) := by decide +kernel
theorem dX11_twoSided_54 : decode cX11_twoSided 54 = .ok (.aload_n 0, 1) := by decide +kernel
theorem dX11_twoSided_55 : decode cX11_twoSided 55 = .ok (.bipush 34, 2) := by decide +kernel
theorem dX11_twoSided_57 : decode cX11_twoSided 57 = .ok (.iload_n 2, 1) := by decide +kernel
theorem dX11_twoSided_58 : decode cX11_twoSided 58 = .ok (.aload_n 0, 1) := by decide +kernel
theorem dX11_twoSided_59 : decode cX11_twoSided 59 = .ok (.getfield 309, 3) := by decide +kernel
theorem dX11_twoSided_62 : decode cX11_twoSided 62 = .ok (.iload_n 3, 1) := by decide +kernel
theorem dX11_twoSided_63 : decode cX11_twoSided 63 = .ok (.aload_n 0, 1) := by decide +kernel
theorem dX11_twoSided_64 : decode cX11_twoSided 64 = .ok (.getfield 44, 3) := by decide +kernel
theorem dX11_twoSided_67 : decode cX11_twoSided 67 = .ok (.iload_n 2, 1) := by decide +kernel
theorem dX11_twoSided_68 : decode cX11_twoSided 68 = .ok (.iaload, 1) := by decide +kernel
theorem dX11_twoSided_69 : decode cX11_twoSided 69 = .ok (.invokevirtual 319, 3) := by decide +kernel
theorem dX11_twoSided_72 : decode cX11_twoSided 72 = .ok (.ireturn, 1) := by decide +kernel
theorem dX11_braces_0 : decode cX11_braces 0 = .ok (.aload_n 0, 1) := by decide +kernel
theorem dX11_braces_1 : decode cX11_braces 1 = .ok (.dup, 1) := by decide +kernel
theorem dX11_braces_2 : decode cX11_braces 2 = .ok (.getfield 152, 3) := by decide +kernel
theorem dX11_braces_5 : decode cX11_braces 5 = .ok (.iconst 1, 1) := by decide +kernel
theorem dX11_braces_6 : decode cX11_braces 6 = .ok (.iadd, 1) := by decide +kernel
theorem dX11_braces_7 : decode cX11_braces 7 = .ok (.putfield 152, 3) := by decide +kernel
theorem dX11_braces_10 : decode cX11_braces 10 = .ok (.aload_n 0, 1) := by decide +kernel
theorem dX11_braces_11 : decode cX11_braces 11 = .ok (.invokevirtual 306, 3) := by decide +kernel
theorem dX11_braces_14 : decode cX11_braces 14 = .ok (.istore_n 1, 1) := by decide +kernel
theorem dX11_braces_15 : decode cX11_braces 15 = .ok (.aload_n 0, 1) := by decide +kernel
theorem dX11_braces_16 : decode cX11_braces 16 = .ok (.dup, 1) := by decide +kernel
theorem dX11_braces_17 : decode cX11_braces 17 = .ok (.getfield 152, 3) := by decide +kernel
theorem dX11_braces_20 : decode cX11_braces 20 = .ok (.iconst 1, 1) := by decide +kernel
theorem dX11_braces_21 : decode cX11_braces 21 = .ok (.iadd, 1) := by decide +kernel
theorem dX11_braces_22 : decode cX11_braces 22 = .ok (.putfield 152, 3) := by decide +kernel
theorem dX11_braces_25 : decode cX11_braces 25 = .ok (.iload_n 1, 1) := by decide +kernel
theorem dX11_braces_26 : decode cX11_braces 26 = .ok (.ireturn, 1) := by decide +kernel
theorem dX11_factor_0 : decode cX11_factor 0 = .ok (.aload_n 0, 1) := by decide +kernel
theorem dX11_factor_1 : decode cX11_factor 1 = .ok (.getfield 152, 3) := by decide +kernel
theorem dX11_factor_4 : decode cX11_factor 4 = .ok (.istore_n 1, 1) := by decide +kernel
theorem dX11_factor_5 : decode cX11_factor 5 = .ok (.aload_n 0, 1) := by decide +kernel
theorem dX11_factor_6 : decode cX11_factor 6 = .ok (.getfield 20, 3) := by decide +kernel
theorem dX11_factor_9 : decode cX11_factor 9 = .ok (.iload_n 1, 1) := by decide +kernel
theorem dX11_factor_10 : decode cX11_factor 10 = .ok (.iaload, 1) := by decide +kernel
theorem dX11_factor_11 : decode cX11_factor 11 = .ok (.istore_n 2, 1) := by decide +kernel
theorem dX11_factor_12 : decode cX11_factor 12 = .ok (.aload_n 0, 1) := by decide +kernel
theorem dX11_factor_13 : decode cX11_factor 13 = .ok (.dup, 1) := by decide +kernel
theorem dX11_factor_14 : decode cX11_factor 14 = .ok (.getfield 152, 3) := by decide +kernel
theorem dX11_factor_17 : decode cX11_factor 17 = .ok (.iconst 1, 1) := by decide +kernel
theorem dX11_factor_18 : decode cX11_factor 18 = .ok (.iadd, 1) := by decide +kernel
theorem dX11_factor_19 : decode cX11_factor 19 = .ok (.putfield 152, 3) := by decide +kernel
theorem dX11_factor_22 : decode cX11_factor 22 = .ok (.aload_n 0, 1) := by decide +kernel
theorem dX11_factor_23 : decode cX11_factor 23 = .ok (.getfield 17, 3) := by decide +kernel
theorem dX11_factor_26 : decode cX11_factor 26 = .ok (.iload_n 1, 1) := by decide +kernel
theorem dX11_factor_27 : decode cX11_factor 27 = .ok (.iaload, 1) := by decide +kernel
theorem dX11_factor_28 : decode cX11_factor 28 = .ok (.iconst 2, 1) := by decide +kernel
theorem dX11_factor_29 : decode cX11_factor 29 = .ok (.if_icmp .ne 18, 3) := by decide +kernel
theorem dX11_factor_32 : decode cX11_factor 32 = .ok (.aload_n 0, 1) := by decide +kernel
theorem dX11_factor_33 : decode cX11_factor 33 = .ok (.bipush 20, 2) := by decide +kernel
theorem dX11_factor_35 : decode cX11_factor 35 = .ok (.aload_n 0, 1) := by decide +kernel
theorem dX11_factor_36 : decode cX11_factor 36 = .ok (.iload_n 1, 1) := by decide +kernel
theorem dX11_factor_37 : decode cX11_factor 37 = .ok (.invokevirtual 300, 3) := by decide +kernel
theorem dX11_factor_40 : decode cX11_factor 40 = .ok (.iconst (-1), 1) := by decide +kernel
theorem dX11_factor_41 : decode cX11_factor 41 = .ok (.iconst (-1), 1) := by decide +kernel
theorem dX11_factor_42 : decode cX11_factor 42 = .ok (.iload_n 2, 1) := by decide +kernel
theorem dX11_factor_43 : decode cX11_factor 43 = .ok (.invokevirtual 319, 3) := by decide +kernel
theorem dX11_factor_46 : decode cX11_factor 46 = .ok (.ireturn, 1) := by decide +kernel
theorem dX11_factor_47 : decode cX11_factor 47 = .ok (.aload_n 0, 1) := by decide +kernel
theorem dX11_factor_48 : decode cX11_factor 48 = .ok (.iload_n 1, 1) := by decide +kernel
theorem dX11_factor_49 : decode cX11_factor 49 = .ok (.ldc_w 259, 3) := by decide +kernel
theorem dX11_factor_52 : decode cX11_factor 52 = .ok (.invokevirtual 138, 3) := by decide +kernel
theorem dX11_factor_55 : decode cX11_factor 55 = .ok (.ifCond .eq 14, 3) := by decide +kernel
theorem dX11_factor_58 : decode cX11_factor 58 = .ok (.aload_n 0, 1) := by decide +kernel
theorem dX11_factor_59 : decode cX11_factor 59 = .ok (.bipush 23, 2) := by decide +kernel
theorem dX11_factor_61 : decode cX11_factor 61 = .ok (.iconst (-1), 1) := by decide +kernel
theorem dX11_factor_62 : decode cX11_factor 62 = .ok (.iconst (-1), 1) := by decide +kernel
theorem dX11_factor_63 : decode cX11_factor 63 = .ok (.iconst (-1), 1) := by decide +kernel
theorem dX11_factor_64 : decode cX11_factor 64 = .ok (.iload_n 2, 1) := by decide +kernel
theorem dX11_factor_65 : decode cX11_factor 65 = .ok (.invokevirtual 319, 3) := by decide +kernel
theorem dX11_factor_68 : decode cX11_factor 68 = .ok (.ireturn, 1) := by decide +kernel
theorem dX11_factor_69 : decode cX11_factor 69 = .ok (.aload_n 0, 1) := by decide +kernel
theorem dX11_factor_70 : decode cX11_factor 70 = .ok (.iload_n 1, 1) := by decide +kernel
theorem dX11_factor_71 : decode cX11_factor 71 = .ok (.ldc_w 261, 3) := by decide +kernel
theorem dX11_factor_74 : decode cX11_factor 74 = .ok (.invokevirtual 138, 3) := by decide +kernel
theorem dX11_factor_77 : decode cX11_factor 77 = .ok (.ifCond .eq 14, 3) := by decide +kernel
theorem dX11_factor_80 : decode cX11_factor 80 = .ok (.aload_n 0, 1) := by decide +kernel
theorem dX11_factor_81 : decode cX11_factor 81 = .ok (.bipush 24, 2) := by decide +kernel
theorem dX11_factor_83 : decode cX11_factor 83 = .ok (.iconst (-1), 1) := by decide +kernel
theorem dX11_factor_84 : decode cX11_factor 84 = .ok (.iconst (-1), 1) := by decide +kernel
theorem dX11_factor_85 : decode cX11_factor 85 = .ok (.iconst (-1), 1) := by decide +kernel
theorem dX11_factor_86 : decode cX11_factor 86 = .ok (.iload_n 2, 1) := by decide +kernel
theorem dX11_factor_87 : decode cX11_factor 87 = .ok (.invokevirtual 319, 3) := by decide +kernel
theorem dX11_factor_90 : decode cX11_factor 90 = .ok (.ireturn, 1) := by decide +kernel
theorem dX11_factor_91 : decode cX11_factor 91 = .ok (.aload_n 0, 1) := by decide +kernel
theorem dX11_factor_92 : decode cX11_factor 92 = .ok (.iload_n 1, 1) := by decide +kernel
theorem dX11_factor_93 : decode cX11_factor 93 = .ok (.invokevirtual 163, 3) := by decide +kernel
theorem dX11_factor_96 : decode cX11_factor 96 = .ok (.ifCond .eq 9, 3) := by decide +kernel
theorem dX11_factor_99 : decode cX11_factor 99 = .ok (.aload_n 0, 1) := by decide +kernel
theorem dX11_factor_100 : decode cX11_factor 100 = .ok (.iload_n 1, 1) := by decide +kernel
theorem dX11_factor_101 : decode cX11_factor 101 = .ok (.invokevirtual 356, 3) := by decide +kernel
theorem dX11_factor_104 : decode cX11_factor 104 = .ok (.ireturn, 1) := by decide +kernel
theorem dX11_factor_105 : decode cX11_factor 105 = .ok (.iconst 0, 1) := by decide +kernel
theorem dX11_factor_106 : decode cX11_factor 106 = .ok (.istore_n 3, 1) := by decide +kernel
theorem dX11_factor_107 : decode cX11_factor 107 = .ok (.aload_n 0, 1) := by decide +kernel
theorem dX11_factor_108 : decode cX11_factor 108 = .ok (.iload_n 1, 1) := by decide +kernel
theorem dX11_factor_109 : decode cX11_factor 109 = .ok (.ldc_w 263, 3) := by decide +kernel
theorem dX11_factor_112 : decode cX11_factor 112 = .ok (.invokevirtual 138, 3) := by decide +kernel
theorem dX11_factor_115 : decode cX11_factor 115 = .ok (.ifCond .eq 20, 3) := by decide +kernel
theorem dX11_factor_118 : decode cX11_factor 118 = .ok (.aload_n 0, 1) := by decide +kernel
theorem dX11_factor_119 : decode cX11_factor 119 = .ok (.invokevirtual 303, 3) := by decide +kernel
theorem dX11_factor_122 : decode cX11_factor 122 = .ok (.istore_n 3, 1) := by decide +kernel
theorem dX11_factor_123 : decode cX11_factor 123 = .ok (.aload_n 0, 1) := by decide +kernel
theorem dX11_factor_124 : decode cX11_factor 124 = .ok (.dup, 1) := by decide +kernel
theorem dX11_factor_125 : decode cX11_factor 125 = .ok (.getfield 152, 3) := by decide +kernel
theorem dX11_factor_128 : decode cX11_factor 128 = .ok (.iconst 1, 1) := by decide +kernel
theorem dX11_factor_129 : decode cX11_factor 129 = .ok (.iadd, 1) := by decide +kernel
theorem dX11_factor_130 : decode cX11_factor 130 = .ok (.putfield 152, 3) := by decide +kernel
theorem dX11_factor_133 : decode cX11_factor 133 = .ok (.iload_n 3, 1) := by decide +kernel
theorem dX11_factor_134 : decode cX11_factor 134 = .ok (.ireturn, 1) := by decide +kernel
theorem dX11_factor_135 : decode cX11_factor 135 = .ok (.aload_n 0, 1) := by decide +kernel
theorem dX11_factor_136 : decode cX11_factor 136 = .ok (.iload_n 1, 1) := by decide +kernel
theorem dX11_factor_137 : decode cX11_factor 137 = .ok (.getstatic 267, 3) := by decide +kernel
theorem dX11_factor_140 : decode cX11_factor 140 = .ok (.invokevirtual 146, 3) := by decide +kernel
theorem dX11_factor_143 : decode cX11_factor 143 = .ok (.istore 4, 2) := by decide +kernel
theorem dX11_factor_145 : decode cX11_factor 145 = .ok (.iload 4, 2) := by decide +kernel
theorem dX11_factor_147 : decode cX11_factor 147 = .ok (.iconst (-1), 1) := by decide +kernel
theorem dX11_factor_148 : decode cX11_factor 148 = .ok (.if_icmp .eq 33, 3) := by decide +kernel
theorem dX11_factor_151 : decode cX11_factor 151 = .ok (.aload_n 0, 1) := by decide +kernel
theorem dX11_factor_152 : decode cX11_factor 152 = .ok (.invokevirtual 350, 3) := by decide +kernel
theorem dX11_factor_155 : decode cX11_factor 155 = .ok (.istore_n 3, 1) := by decide +kernel
theorem dX11_factor_156 : decode cX11_factor 156 = .ok (.iload_n 3, 1) := by decide +kernel
theorem dX11_factor_157 : decode cX11_factor 157 = .ok (.ifCond .eq 7, 3) := by decide +kernel
theorem dX11_factor_160 : decode cX11_factor 160 = .ok (.iload_n 3, 1) := by decide +kernel
theorem dX11_factor_161 : decode cX11_factor 161 = .ok (.goto 19, 3) := by decide +kernel
theorem dX11_factor_164 : decode cX11_factor 164 = .ok (.aload_n 0, 1) := by decide +kernel
theorem dX11_factor_165 : decode cX11_factor 165 = .ok (.bipush 25, 2) := by decide +kernel
theorem dX11_factor_167 : decode cX11_factor 167 = .ok (.iload 4, 2) := by decide +kernel
theorem dX11_factor_169 : decode cX11_factor 169 = .ok (.iadd, 1) := by decide +kernel
theorem dX11_factor_170 : decode cX11_factor 170 = .ok (.aload_n 0, 1) := by decide +kernel
theorem dX11_factor_171 : decode cX11_factor 171 = .ok (.getfield 309, 3) := by decide +kernel
theorem dX11_factor_174 : decode cX11_factor 174 = .ok (.iconst (-1), 1) := by decide +kernel
theorem dX11_factor_175 : decode cX11_factor 175 = .ok (.iconst (-1), 1) := by decide +kernel
theorem dX11_factor_176 : decode cX11_factor 176 = .ok (.iload_n 2, 1) := by decide +kernel
theorem dX11_factor_177 : decode cX11_factor 177 = .ok (.invokevirtual 319, 3) := by decide +kernel
theorem dX11_factor_180 : decode cX11_factor 180 = .ok (.ireturn, 1) := by decide +kernel
theorem dX11_factor_181 : decode cX11_factor 181 = .ok (.aload_n 0, 1) := by decide +kernel
theorem dX11_factor_182 : decode cX11_factor 182 = .ok (.invokevirtual 359, 3) := by decide +kernel
theorem dX11_factor_185 : decode cX11_factor 185 = .ok (.istore_n 3, 1) := by decide +kernel
theorem dX11_factor_186 : decode cX11_factor 186 = .ok (.aload_n 0, 1) := by decide +kernel
theorem dX11_factor_187 : decode cX11_factor 187 = .ok (.getfield 309, 3) := by decide +kernel
theorem dX11_factor_190 : decode cX11_factor 190 = .ok (.istore 5, 2) := by decide +kernel
theorem dX11_factor_192 : decode cX11_factor 192 = .ok (.iload_n 3, 1) := by decide +kernel
theorem dX11_factor_193 : decode cX11_factor 193 = .ok (.ifCond .eq 5, 3) := by decide +kernel
theorem dX11_factor_196 : decode cX11_factor 196 = .ok (.iload_n 3, 1) := by decide +kernel
theorem dX11_factor_197 : decode cX11_factor 197 = .ok (.ireturn, 1) := by decide +kernel
theorem dX11_factor_198 : decode cX11_factor 198 = .ok (.aload_n 0, 1) := by decide +kernel
theorem dX11_factor_199 : decode cX11_factor 199 = .ok (.iload_n 1, 1) := by decide +kernel
theorem dX11_factor_200 : decode cX11_factor 200 = .ok (.ldc_w 270, 3) := by decide +kernel
theorem dX11_factor_203 : decode cX11_factor 203 = .ok (.invokevirtual 138, 3) := by decide +kernel
theorem dX11_factor_206 : decode cX11_factor 206 = .ok (.ifCond .ne 14, 3) := by decide +kernel
theorem dX11_factor_209 : decode cX11_factor 209 = .ok (.aload_n 0, 1) := by decide +kernel
theorem dX11_factor_210 : decode cX11_factor 210 = .ok (.iload_n 1, 1) := by decide +kernel
theorem dX11_factor_211 : decode cX11_factor 211 = .ok (.ldc_w 272, 3) := by decide +kernel
theorem dX11_factor_214 : decode cX11_factor 214 = .ok (.invokevirtual 138, 3) := by decide +kernel
theorem dX11_factor_217 : decode cX11_factor 217 = .ok (.ifCond .eq 31, 3) := by decide +kernel
theorem dX11_factor_220 : decode cX11_factor 220 = .ok (.aload_n 0, 1) := by decide +kernel
theorem dX11_factor_221 : decode cX11_factor 221 = .ok (.aload_n 0, 1) := by decide +kernel
theorem dX11_factor_222 : decode cX11_factor 222 = .ok (.iload_n 1, 1) := by decide +kernel
theorem dX11_factor_223 : decode cX11_factor 223 = .ok (.ldc_w 270, 3) := by decide +kernel
theorem dX11_factor_226 : decode cX11_factor 226 = .ok (.invokevirtual 138, 3) := by decide +kernel
theorem dX11_factor_229 : decode cX11_factor 229 = .ok (.ifCond .eq 8, 3) := by decide +kernel
theorem dX11_factor_232 : decode cX11_factor 232 = .ok (.bipush 30, 2) := by decide +kernel
theorem dX11_factor_234 : decode cX11_factor 234 = .ok (.goto 5, 3) := by decide +kernel
theorem dX11_factor_237 : decode cX11_factor 237 = .ok (.bipush 31, 2) := by decide +kernel
theorem dX11_factor_239 : decode cX11_factor 239 = .ok (.iload 5, 2) := by decide +kernel
theorem dX11_factor_241 : decode cX11_factor 241 = .ok (.iconst (-1), 1) := by decide +kernel
theorem dX11_factor_242 : decode cX11_factor 242 = .ok (.iconst (-1), 1) := by decide +kernel
theorem dX11_factor_243 : decode cX11_factor 243 = .ok (.iload_n 2, 1) := by decide +kernel
theorem dX11_factor_244 : decode cX11_factor 244 = .ok (.invokevirtual 319, 3) := by decide +kernel
theorem dX11_factor_247 : decode cX11_factor 247 = .ok (.ireturn, 1) := by decide +kernel
theorem dX11_factor_248 : decode cX11_factor 248 = .ok (.aload_n 0, 1) := by decide +kernel
theorem dX11_factor_249 : decode cX11_factor 249 = .ok (.iload_n 1, 1) := by decide +kernel
theorem dX11_factor_250 : decode cX11_factor 250 = .ok (.ldc_w 278, 3) := by decide +kernel
theorem dX11_factor_253 : decode cX11_factor 253 = .ok (.invokevirtual 138, 3) := by decide +kernel
theorem dX11_factor_256 : decode cX11_factor 256 = .ok (.ifCond .eq 13, 3) := by decide +kernel
theorem dX11_factor_259 : decode cX11_factor 259 = .ok (.aload_n 0, 1) := by decide +kernel
theorem dX11_factor_260 : decode cX11_factor 260 = .ok (.dup, 1) := by decide +kernel
theorem dX11_factor_261 : decode cX11_factor 261 = .ok (.getfield 152, 3) := by decide +kernel
theorem dX11_factor_264 : decode cX11_factor 264 = .ok (.iconst 1, 1) := by decide +kernel
theorem dX11_factor_265 : decode cX11_factor 265 = .ok (.iadd, 1) := by decide +kernel
theorem dX11_factor_266 : decode cX11_factor 266 = .ok (.putfield 152, 3) := by decide +kernel
theorem dX11_factor_269 : decode cX11_factor 269 = .ok (.aload_n 0, 1) := by decide +kernel
theorem dX11_factor_270 : decode cX11_factor 270 = .ok (.invokevirtual 350, 3) := by decide +kernel
theorem dX11_factor_273 : decode cX11_factor 273 = .ok (.istore_n 3, 1) := by decide +kernel
theorem dX11_factor_274 : decode cX11_factor 274 = .ok (.aload_n 0, 1) := by decide +kernel
theorem dX11_factor_275 : decode cX11_factor 275 = .ok (.getfield 309, 3) := by decide +kernel
theorem dX11_factor_278 : decode cX11_factor 278 = .ok (.istore 6, 2) := by decide +kernel
theorem dX11_factor_280 : decode cX11_factor 280 = .ok (.iload_n 3, 1) := by decide +kernel
theorem dX11_factor_281 : decode cX11_factor 281 = .ok (.ifCond .eq 5, 3) := by decide +kernel
theorem dX11_factor_284 : decode cX11_factor 284 = .ok (.iload_n 3, 1) := by decide +kernel
theorem dX11_factor_285 : decode cX11_factor 285 = .ok (.ireturn, 1) := by decide +kernel
theorem dX11_factor_286 : decode cX11_factor 286 = .ok (.aload_n 0, 1) := by decide +kernel
theorem dX11_factor_287 : decode cX11_factor 287 = .ok (.iload_n 1, 1) := by decide +kernel
theorem dX11_factor_288 : decode cX11_factor 288 = .ok (.ldc_w 277, 3) := by decide +kernel
theorem dX11_factor_291 : decode cX11_factor 291 = .ok (.invokevirtual 138, 3) := by decide +kernel
theorem dX11_factor_294 : decode cX11_factor 294 = .ok (.ifCond .eq 16, 3) := by decide +kernel
theorem dX11_factor_297 : decode cX11_factor 297 = .ok (.aload_n 0, 1) := by decide +kernel
theorem dX11_factor_298 : decode cX11_factor 298 = .ok (.bipush 32, 2) := by decide +kernel
theorem dX11_factor_300 : decode cX11_factor 300 = .ok (.iload 5, 2) := by decide +kernel
theorem dX11_factor_302 : decode cX11_factor 302 = .ok (.iload 6, 2) := by decide +kernel
theorem dX11_factor_304 : decode cX11_factor 304 = .ok (.iconst (-1), 1) := by decide +kernel
theorem dX11_factor_305 : decode cX11_factor 305 = .ok (.iload_n 2, 1) := by decide +kernel
theorem dX11_factor_306 : decode cX11_factor 306 = .ok (.invokevirtual 319, 3) := by decide +kernel
theorem dX11_factor_309 : decode cX11_factor 309 = .ok (.ireturn, 1) := by decide +kernel
theorem dX11_factor_310 : decode cX11_factor 310 = .ok (.aload_n 0, 1) := by decide +kernel
theorem dX11_factor_311 : decode cX11_factor 311 = .ok (.dup, 1) := by decide +kernel
theorem dX11_factor_312 : decode cX11_factor 312 = .ok (.getfield 152, 3) := by decide +kernel
theorem dX11_factor_315 : decode cX11_factor 315 = .ok (.iconst 1, 1) := by decide +kernel
theorem dX11_factor_316 : decode cX11_factor 316 = .ok (.iadd, 1) := by decide +kernel
theorem dX11_factor_317 : decode cX11_factor 317 = .ok (.putfield 152, 3) := by decide +kernel
theorem dX11_factor_320 : decode cX11_factor 320 = .ok (.aload_n 0, 1) := by decide +kernel
theorem dX11_factor_321 : decode cX11_factor 321 = .ok (.invokevirtual 350, 3) := by decide +kernel
theorem dX11_factor_324 : decode cX11_factor 324 = .ok (.istore_n 3, 1) := by decide +kernel
theorem dX11_factor_325 : decode cX11_factor 325 = .ok (.iload_n 3, 1) := by decide +kernel
theorem dX11_factor_326 : decode cX11_factor 326 = .ok (.ifCond .eq 7, 3) := by decide +kernel
theorem dX11_factor_329 : decode cX11_factor 329 = .ok (.iload_n 3, 1) := by decide +kernel
theorem dX11_factor_330 : decode cX11_factor 330 = .ok (.goto 18, 3) := by decide +kernel
theorem dX11_factor_333 : decode cX11_factor 333 = .ok (.aload_n 0, 1) := by decide +kernel
theorem dX11_factor_334 : decode cX11_factor 334 = .ok (.bipush 33, 2) := by decide +kernel
theorem dX11_factor_336 : decode cX11_factor 336 = .ok (.iload 5, 2) := by decide +kernel
theorem dX11_factor_338 : decode cX11_factor 338 = .ok (.iload 6, 2) := by decide +kernel
theorem dX11_factor_340 : decode cX11_factor 340 = .ok (.aload_n 0, 1) := by decide +kernel
theorem dX11_factor_341 : decode cX11_factor 341 = .ok (.getfield 309, 3) := by decide +kernel
theorem dX11_factor_344 : decode cX11_factor 344 = .ok (.iload_n 2, 1) := by decide +kernel
theorem dX11_factor_345 : decode cX11_factor 345 = .ok (.invokevirtual 319, 3) := by decide +kernel
theorem dX11_factor_348 : decode cX11_factor 348 = .ok (.ireturn, 1) := by decide +kernel
theorem dX11_namedValue_0 : decode cX11_namedValue 0 = .ok (.aload_n 0, 1) := by decide +kernel
theorem dX11_namedValue_1 : decode cX11_namedValue 1 = .ok (.iload_n 1, 1) := by decide +kernel
theorem dX11_namedValue_2 : decode cX11_namedValue 2 = .ok (.invokevirtual 297, 3) := by decide +kernel
theorem dX11_namedValue_5 : decode cX11_namedValue 5 = .ok (.istore_n 2, 1) := by decide +kernel
theorem dX11_namedValue_6 : decode cX11_namedValue 6 = .ok (.iload_n 2, 1) := by decide +kernel
theorem dX11_namedValue_7 : decode cX11_namedValue 7 = .ok (.iconst (-1), 1) := by decide +kernel
theorem dX11_namedValue_8 : decode cX11_namedValue 8 = .ok (.if_icmp .eq 15, 3) := by decide +kernel
theorem dX11_namedValue_11 : decode cX11_namedValue 11 = .ok (.aload_n 0, 1) := by decide +kernel
theorem dX11_namedValue_12 : decode cX11_namedValue 12 = .ok (.getfield 55, 3) := by decide +kernel
theorem dX11_namedValue_15 : decode cX11_namedValue 15 = .ok (.iload_n 2, 1) := by decide +kernel
theorem dX11_namedValue_16 : decode cX11_namedValue 16 = .ok (.iaload, 1) := by decide +kernel
theorem dX11_namedValue_17 : decode cX11_namedValue 17 = .ok (.iconst 2, 1) := by decide +kernel
theorem dX11_namedValue_18 : decode cX11_namedValue 18 = .ok (.irem, 1) := by decide +kernel
theorem dX11_namedValue_19 : decode cX11_namedValue 19 = .ok (.iconst 1, 1) := by decide +kernel
theorem dX11_namedValue_20 : decode cX11_namedValue 20 = .ok (.if_icmp .ne 10, 3) := by decide +kernel
theorem dX11_namedValue_23 : decode cX11_namedValue 23 = .ok (.aload_n 0, 1) := by decide +kernel
theorem dX11_namedValue_24 : decode cX11_namedValue 24 = .ok (.iconst 2, 1) := by decide +kernel
theorem dX11_namedValue_25 : decode cX11_namedValue 25 = .ok (.iload_n 1, 1) := by decide +kernel
theorem dX11_namedValue_26 : decode cX11_namedValue 26 = .ok (.invokevirtual 294, 3) := by decide +kernel
theorem dX11_namedValue_29 : decode cX11_namedValue 29 = .ok (.ireturn, 1) := by decide +kernel
theorem dX11_namedValue_30 : decode cX11_namedValue 30 = .ok (.aload_n 0, 1) := by decide +kernel
theorem dX11_namedValue_31 : decode cX11_namedValue 31 = .ok (.getfield 55, 3) := by decide +kernel
theorem dX11_namedValue_34 : decode cX11_namedValue 34 = .ok (.iload_n 2, 1) := by decide +kernel
theorem dX11_namedValue_35 : decode cX11_namedValue 35 = .ok (.iaload, 1) := by decide +kernel
theorem dX11_namedValue_36 : decode cX11_namedValue 36 = .ok (.ifCond .ne 26, 3) := by decide +kernel
theorem dX11_namedValue_39 : decode cX11_namedValue 39 = .ok (.aload_n 0, 1) := by decide +kernel
theorem dX11_namedValue_40 : decode cX11_namedValue 40 = .ok (.bipush 21, 2) := by decide +kernel
theorem dX11_namedValue_42 : decode cX11_namedValue 42 = .ok (.aload_n 0, 1) := by decide +kernel
theorem dX11_namedValue_43 : decode cX11_namedValue 43 = .ok (.getfield 58, 3) := by decide +kernel
theorem dX11_namedValue_46 : decode cX11_namedValue 46 = .ok (.iload_n 2, 1) := by decide +kernel
theorem dX11_namedValue_47 : decode cX11_namedValue 47 = .ok (.iaload, 1) := by decide +kernel
theorem dX11_namedValue_48 : decode cX11_namedValue 48 = .ok (.iconst (-1), 1) := by decide +kernel
theorem dX11_namedValue_49 : decode cX11_namedValue 49 = .ok (.iconst (-1), 1) := by decide +kernel
theorem dX11_namedValue_50 : decode cX11_namedValue 50 = .ok (.aload_n 0, 1) := by decide +kernel
theorem dX11_namedValue_51 : decode cX11_namedValue 51 = .ok (.getfield 20, 3) := by decide +kernel
theorem dX11_namedValue_54 : decode cX11_namedValue 54 = .ok (.iload_n 1, 1) := by decide +kernel
theorem dX11_namedValue_55 : decode cX11_namedValue 55 = .ok (.iaload, 1) := by decide +kernel
theorem dX11_namedValue_56 : decode cX11_namedValue 56 = .ok (.invokevirtual 319, 3) := by decide +kernel
theorem dX11_namedValue_59 : decode cX11_namedValue 59 = .ok (.goto 31, 3) := by decide +kernel
theorem dX11_namedValue_62 : decode cX11_namedValue 62 = .ok (.aload_n 0, 1) := by decide +kernel
theorem dX11_namedValue_63 : decode cX11_namedValue 63 = .ok (.bipush 22, 2) := by decide +kernel
theorem dX11_namedValue_65 : decode cX11_namedValue 65 = .ok (.aload_n 0, 1) := by decide +kernel
theorem dX11_namedValue_66 : decode cX11_namedValue 66 = .ok (.getfield 67, 3) := by decide +kernel
theorem dX11_namedValue_69 : decode cX11_namedValue 69 = .ok (.bipush 24, 2) := by decide +kernel
theorem dX11_namedValue_71 : decode cX11_namedValue 71 = .ok (.aload_n 0, 1) := by decide +kernel
theorem dX11_namedValue_72 : decode cX11_namedValue 72 = .ok (.getfield 58, 3) := by decide +kernel
theorem dX11_namedValue_75 : decode cX11_namedValue 75 = .ok (.iload_n 2, 1) := by decide +kernel
theorem dX11_namedValue_76 : decode cX11_namedValue 76 = .ok (.iaload, 1) := by decide +kernel
theorem dX11_namedValue_77 : decode cX11_namedValue 77 = .ok (.iadd, 1) := by decide +kernel
theorem dX11_namedValue_78 : decode cX11_namedValue 78 = .ok (.iaload, 1) := by decide +kernel
theorem dX11_namedValue_79 : decode cX11_namedValue 79 = .ok (.iconst (-1), 1) := by decide +kernel
theorem dX11_namedValue_80 : decode cX11_namedValue 80 = .ok (.iconst (-1), 1) := by decide +kernel
theorem dX11_namedValue_81 : decode cX11_namedValue 81 = .ok (.aload_n 0, 1) := by decide +kernel
theorem dX11_namedValue_82 : decode cX11_namedValue 82 = .ok (.getfield 20, 3) := by decide +kernel
theorem dX11_namedValue_85 : decode cX11_namedValue 85 = .ok (.iload_n 1, 1) := by decide +kernel
theorem dX11_namedValue_86 : decode cX11_namedValue 86 = .ok (.iaload, 1) := by decide +kernel
theorem dX11_namedValue_87 : decode cX11_namedValue 87 = .ok (.invokevirtual 319, 3) := by decide +kernel
theorem dX11_namedValue_90 : decode cX11_namedValue 90 = .ok (.ireturn, 1) := by decide +kernel
theorem dX11_forget_0 : decode cX11_forget 0 = .ok (.aload_n 0, 1) := by decide +kernel
theorem dX11_forget_1 : decode cX11_forget 1 = .ok (.iconst 0, 1) := by decide +kernel
theorem dX11_forget_2 : decode cX11_forget 2 = .ok (.putfield 362, 3) := by decide +kernel
theorem dX11_forget_5 : decode cX11_forget 5 = .ok (.aload_n 0, 1) := by decide +kernel
theorem dX11_forget_6 : decode cX11_forget 6 = .ok (.iconst 0, 1) := by decide +kernel
theorem dX11_forget_7 : decode cX11_forget 7 = .ok (.putfield 284, 3) := by decide +kernel
theorem dX11_forget_10 : decode cX11_forget 10 = .ok (.iconst 0, 1) := by decide +kernel
theorem dX11_forget_11 : decode cX11_forget 11 = .ok (.istore_n 1, 1) := by decide +kernel
theorem dX11_forget_12 : decode cX11_forget 12 = .ok (.iload_n 1, 1) := by decide +kernel
theorem dX11_forget_13 : decode cX11_forget 13 = .ok (.iconst 4, 1) := by decide +kernel
theorem dX11_forget_14 : decode cX11_forget 14 = .ok (.if_icmp .ge 16, 3) := by decide +kernel
theorem dX11_forget_17 : decode cX11_forget 17 = .ok (.aload_n 0, 1) := by decide +kernel
theorem dX11_forget_18 : decode cX11_forget 18 = .ok (.getfield 61, 3) := by decide +kernel
theorem dX11_forget_21 : decode cX11_forget 21 = .ok (.iload_n 1, 1) := by decide +kernel
theorem dX11_forget_22 : decode cX11_forget 22 = .ok (.iconst 0, 1) := by decide +kernel
theorem dX11_forget_23 : decode cX11_forget 23 = .ok (.iastore, 1) := by decide +kernel
theorem dX11_forget_24 : decode cX11_forget 24 = .ok (.iinc 1 1, 3) := by decide +kernel
theorem dX11_forget_27 : decode cX11_forget 27 = .ok (.goto (-15), 3) := by decide +kernel
theorem dX11_forget_30 : decode cX11_forget 30 = .ok (.aload_n 0, 1) := by decide +kernel
theorem dX11_forget_31 : decode cX11_forget 31 = .ok (.iconst 0, 1) := by decide +kernel
theorem dX11_forget_32 : decode cX11_forget 32 = .ok (.putfield 312, 3) := by decide +kernel
theorem dX11_forget_35 : decode cX11_forget 35 = .ok (.aload_n 0, 1) := by decide +kernel
theorem dX11_forget_36 : decode cX11_forget 36 = .ok (.iconst 0, 1) := by decide +kernel
theorem dX11_forget_37 : decode cX11_forget 37 = .ok (.putfield 366, 3) := by decide +kernel
theorem dX11_forget_40 : decode cX11_forget 40 = .ok (.aload_n 0, 1) := by decide +kernel
theorem dX11_forget_41 : decode cX11_forget 41 = .ok (.iconst (-1), 1) := by decide +kernel
theorem dX11_forget_42 : decode cX11_forget 42 = .ok (.putfield 73, 3) := by decide +kernel
theorem dX11_forget_45 : decode cX11_forget 45 = .ok (.aload_n 0, 1) := by decide +kernel
theorem dX11_forget_46 : decode cX11_forget 46 = .ok (.iconst 0, 1) := by decide +kernel
theorem dX11_forget_47 : decode cX11_forget 47 = .ok (.putfield 369, 3) := by decide +kernel
theorem dX11_forget_50 : decode cX11_forget 50 = .ok (.return_, 1) := by decide +kernel
theorem dX11_compile_0 : decode cX11_compile 0 = .ok (.aload_n 0, 1) := by decide +kernel
theorem dX11_compile_1 : decode cX11_compile 1 = .ok (.iconst 0, 1) := by decide +kernel
theorem dX11_compile_2 : decode cX11_compile 2 = .ok (.putfield 91, 3) := by decide +kernel
theorem dX11_compile_5 : decode cX11_compile 5 = .ok (.aload_n 0, 1) := by decide +kernel
theorem dX11_compile_6 : decode cX11_compile 6 = .ok (.invokevirtual 372, 3) := by decide +kernel
theorem dX11_compile_9 : decode cX11_compile 9 = .ok (.aload_n 0, 1) := by decide +kernel
theorem dX11_compile_10 : decode cX11_compile 10 = .ok (.iconst (-1), 1) := by decide +kernel
theorem dX11_compile_11 : decode cX11_compile 11 = .ok (.putfield 13, 3) := by decide +kernel
theorem dX11_compile_14 : decode cX11_compile 14 = .ok (.aload_n 0, 1) := by decide +kernel
theorem dX11_compile_15 : decode cX11_compile 15 = .ok (.invokevirtual 375, 3) := by decide +kernel
theorem dX11_compile_18 : decode cX11_compile 18 = .ok (.aload_n 0, 1) := by decide +kernel
theorem dX11_compile_19 : decode cX11_compile 19 = .ok (.iconst 0, 1) := by decide +kernel
theorem dX11_compile_20 : decode cX11_compile 20 = .ok (.putfield 152, 3) := by decide +kernel
theorem dX11_compile_23 : decode cX11_compile 23 = .ok (.aload_n 0, 1) := by decide +kernel
theorem dX11_compile_24 : decode cX11_compile 24 = .ok (.invokevirtual 378, 3) := by decide +kernel
theorem dX11_compile_27 : decode cX11_compile 27 = .ok (.ifCond .eq 7, 3) := by decide +kernel
theorem dX11_compile_30 : decode cX11_compile 30 = .ok (.iconst 0, 1) := by decide +kernel
theorem dX11_compile_31 : decode cX11_compile 31 = .ok (.goto 12, 3) := by decide +kernel
theorem dX11_compile_34 : decode cX11_compile 34 = .ok (.aload_n 0, 1) := by decide +kernel
theorem dX11_compile_35 : decode cX11_compile 35 = .ok (.iconst 1, 1) := by decide +kernel
theorem dX11_compile_36 : decode cX11_compile 36 = .ok (.aload_n 0, 1) := by decide +kernel
theorem dX11_compile_37 : decode cX11_compile 37 = .ok (.getfield 152, 3) := by decide +kernel
theorem dX11_compile_40 : decode cX11_compile 40 = .ok (.invokevirtual 294, 3) := by decide +kernel
theorem dX11_compile_43 : decode cX11_compile 43 = .ok (.istore_n 1, 1) := by decide +kernel
theorem dX11_compile_44 : decode cX11_compile 44 = .ok (.aload_n 0, 1) := by decide +kernel
theorem dX11_compile_45 : decode cX11_compile 45 = .ok (.iconst 0, 1) := by decide +kernel
theorem dX11_compile_46 : decode cX11_compile 46 = .ok (.putfield 152, 3) := by decide +kernel
theorem dX11_compile_49 : decode cX11_compile 49 = .ok (.iload_n 1, 1) := by decide +kernel
theorem dX11_compile_50 : decode cX11_compile 50 = .ok (.ifCond .ne 8, 3) := by decide +kernel
theorem dX11_compile_53 : decode cX11_compile 53 = .ok (.aload_n 0, 1) := by decide +kernel
theorem dX11_compile_54 : decode cX11_compile 54 = .ok (.invokevirtual 381, 3) := by decide +kernel
theorem dX11_compile_57 : decode cX11_compile 57 = .ok (.istore_n 1, 1) := by decide +kernel
theorem dX11_compile_58 : decode cX11_compile 58 = .ok (.aload_n 0, 1) := by decide +kernel
theorem dX11_compile_59 : decode cX11_compile 59 = .ok (.iconst 0, 1) := by decide +kernel
theorem dX11_compile_60 : decode cX11_compile 60 = .ok (.putfield 94, 3) := by decide +kernel
theorem dX11_compile_63 : decode cX11_compile 63 = .ok (.iload_n 1, 1) := by decide +kernel
theorem dX11_compile_64 : decode cX11_compile 64 = .ok (.ifCond .eq 7, 3) := by decide +kernel
theorem dX11_compile_67 : decode cX11_compile 67 = .ok (.aload_n 0, 1) := by decide +kernel
theorem dX11_compile_68 : decode cX11_compile 68 = .ok (.invokevirtual 372, 3) := by decide +kernel
theorem dX11_compile_71 : decode cX11_compile 71 = .ok (.aload_n 0, 1) := by decide +kernel
theorem dX11_compile_72 : decode cX11_compile 72 = .ok (.iload_n 1, 1) := by decide +kernel
theorem dX11_compile_73 : decode cX11_compile 73 = .ok (.ifCond .ne 7, 3) := by decide +kernel
theorem dX11_compile_76 : decode cX11_compile 76 = .ok (.iconst 1, 1) := by decide +kernel
theorem dX11_compile_77 : decode cX11_compile 77 = .ok (.goto 4, 3) := by decide +kernel
theorem dX11_compile_80 : decode cX11_compile 80 = .ok (.iconst 0, 1) := by decide +kernel
theorem dX11_compile_81 : decode cX11_compile 81 = .ok (.putfield 362, 3) := by decide +kernel
theorem dX11_compile_84 : decode cX11_compile 84 = .ok (.aload_n 0, 1) := by decide +kernel
theorem dX11_compile_85 : decode cX11_compile 85 = .ok (.aload_n 0, 1) := by decide +kernel
theorem dX11_compile_86 : decode cX11_compile 86 = .ok (.getfield 312, 3) := by decide +kernel
theorem dX11_compile_89 : decode cX11_compile 89 = .ok (.putfield 366, 3) := by decide +kernel
theorem dX11_compile_92 : decode cX11_compile 92 = .ok (.aload_n 0, 1) := by decide +kernel
theorem dX11_compile_93 : decode cX11_compile 93 = .ok (.invokevirtual 384, 3) := by decide +kernel
theorem dX11_compile_96 : decode cX11_compile 96 = .ok (.iload_n 1, 1) := by decide +kernel
theorem dX11_compile_97 : decode cX11_compile 97 = .ok (.ireturn, 1) := by decide +kernel
theorem dX11_begin_0 : decode cX11_begin 0 = .ok (.aload_n 0, 1) := by decide +kernel
theorem dX11_begin_1 : decode cX11_begin 1 = .ok (.iconst 0, 1) := by decide +kernel
theorem dX11_begin_2 : decode cX11_begin 2 = .ok (.putfield 369, 3) := by decide +kernel
theorem dX11_begin_5 : decode cX11_begin 5 = .ok (.iconst 0, 1) := by decide +kernel
theorem dX11_begin_6 : decode cX11_begin 6 = .ok (.istore_n 1, 1) := by decide +kernel
theorem dX11_begin_7 : decode cX11_begin 7 = .ok (.iload_n 1, 1) := by decide +kernel
theorem dX11_begin_8 : decode cX11_begin 8 = .ok (.aload_n 0, 1) := by decide +kernel
theorem dX11_begin_9 : decode cX11_begin 9 = .ok (.getfield 61, 3) := by decide +kernel
theorem dX11_begin_12 : decode cX11_begin 12 = .ok (.iconst 0, 1) := by decide +kernel
theorem dX11_begin_13 : decode cX11_begin 13 = .ok (.iaload, 1) := by decide +kernel
theorem dX11_begin_14 : decode cX11_begin 14 = .ok (.if_icmp .ge 21, 3) := by decide +kernel
theorem dX11_begin_17 : decode cX11_begin 17 = .ok (.aload_n 0, 1) := by decide +kernel
theorem dX11_begin_18 : decode cX11_begin 18 = .ok (.getfield 82, 3) := by decide +kernel
theorem dX11_begin_21 : decode cX11_begin 21 = .ok (.iload_n 1, 1) := by decide +kernel
theorem dX11_begin_22 : decode cX11_begin 22 = .ok (.aload_n 0, 1) := by decide +kernel
theorem dX11_begin_23 : decode cX11_begin 23 = .ok (.getfield 64, 3) := by decide +kernel
theorem dX11_begin_26 : decode cX11_begin 26 = .ok (.iload_n 1, 1) := by decide +kernel
theorem dX11_begin_27 : decode cX11_begin 27 = .ok (.laload, 1) := by decide +kernel
theorem dX11_begin_28 : decode cX11_begin 28 = .ok (.lastore, 1) := by decide +kernel
theorem dX11_begin_29 : decode cX11_begin 29 = .ok (.iinc 1 1, 3) := by decide +kernel
theorem dX11_begin_32 : decode cX11_begin 32 = .ok (.goto (-25), 3) := by decide +kernel
theorem dX11_begin_35 : decode cX11_begin 35 = .ok (.return_, 1) := by decide +kernel
theorem dX11_errorAt_0 : decode cX11_errorAt 0 = .ok (.aload_n 0, 1) := by decide +kernel
theorem dX11_errorAt_1 : decode cX11_errorAt 1 = .ok (.iconst 0, 1) := by decide +kernel
theorem dX11_errorAt_2 : decode cX11_errorAt 2 = .ok (.putfield 91, 3) := by decide +kernel
theorem dX11_errorAt_5 : decode cX11_errorAt 5 = .ok (.aload_n 0, 1) := by decide +kernel
theorem dX11_errorAt_6 : decode cX11_errorAt 6 = .ok (.getfield 13, 3) := by decide +kernel
theorem dX11_errorAt_9 : decode cX11_errorAt 9 = .ok (.ireturn, 1) := by decide +kernel
theorem dX11_counted_0 : decode cX11_counted 0 = .ok (.iload_n 1, 1) := by decide +kernel
theorem dX11_counted_1 : decode cX11_counted 1 = .ok (.iconst 4, 1) := by decide +kernel
theorem dX11_counted_2 : decode cX11_counted 2 = .ok (.if_icmp .ge 12, 3) := by decide +kernel
theorem dX11_counted_5 : decode cX11_counted 5 = .ok (.aload_n 0, 1) := by decide +kernel
theorem dX11_counted_6 : decode cX11_counted 6 = .ok (.getfield 61, 3) := by decide +kernel
theorem dX11_counted_9 : decode cX11_counted 9 = .ok (.iload_n 1, 1) := by decide +kernel
theorem dX11_counted_10 : decode cX11_counted 10 = .ok (.iaload, 1) := by decide +kernel
theorem dX11_counted_11 : decode cX11_counted 11 = .ok (.goto 31, 3) := by decide +kernel
theorem dX11_counted_14 : decode cX11_counted 14 = .ok (.iload_n 1, 1) := by decide +kernel
theorem dX11_counted_15 : decode cX11_counted 15 = .ok (.iconst 4, 1) := by decide +kernel
theorem dX11_counted_16 : decode cX11_counted 16 = .ok (.if_icmp .ne 10, 3) := by decide +kernel
theorem dX11_counted_19 : decode cX11_counted 19 = .ok (.aload_n 0, 1) := by decide +kernel
theorem dX11_counted_20 : decode cX11_counted 20 = .ok (.getfield 369, 3) := by decide +kernel
theorem dX11_counted_23 : decode cX11_counted 23 = .ok (.goto 19, 3) := by decide +kernel
theorem dX11_counted_26 : decode cX11_counted 26 = .ok (.iload_n 1, 1) := by decide +kernel
theorem dX11_counted_27 : decode cX11_counted 27 = .ok (.iconst 5, 1) := by decide +kernel
theorem dX11_counted_28 : decode cX11_counted 28 = .ok (.if_icmp .ne 10, 3) := by decide +kernel
theorem dX11_counted_31 : decode cX11_counted 31 = .ok (.aload_n 0, 1) := by decide +kernel
theorem dX11_counted_32 : decode cX11_counted 32 = .ok (.getfield 387, 3) := by decide +kernel
theorem dX11_counted_35 : decode cX11_counted 35 = .ok (.goto 7, 3) := by decide +kernel
theorem dX11_counted_38 : decode cX11_counted 38 = .ok (.aload_n 0, 1) := by decide +kernel
theorem dX11_counted_39 : decode cX11_counted 39 = .ok (.getfield 94, 3) := by decide +kernel
theorem dX11_counted_42 : decode cX11_counted 42 = .ok (.ireturn, 1) := by decide +kernel
theorem dX11_count_0 : decode cX11_count 0 = .ok (.aload_n 0, 1) := by decide +kernel
theorem dX11_count_1 : decode cX11_count 1 = .ok (.iconst 0, 1) := by decide +kernel
theorem dX11_count_2 : decode cX11_count 2 = .ok (.putfield 91, 3) := by decide +kernel
theorem dX11_count_5 : decode cX11_count 5 = .ok (.iload_n 1, 1) := by decide +kernel
theorem dX11_count_6 : decode cX11_count 6 = .ok (.iconst 0, 1) := by decide +kernel
theorem dX11_count_7 : decode cX11_count 7 = .ok (.bipush 6, 2) := by decide +kernel
theorem dX11_count_9 : decode cX11_count 9 = .ok (.invokestatic 101, 3) := by decide +kernel
theorem dX11_count_12 : decode cX11_count 12 = .ok (.ifCond .eq 11, 3) := by decide +kernel
theorem dX11_count_15 : decode cX11_count 15 = .ok (.aload_n 0, 1) := by decide +kernel
theorem dX11_count_16 : decode cX11_count 16 = .ok (.iload_n 1, 1) := by decide +kernel
theorem dX11_count_17 : decode cX11_count 17 = .ok (.invokevirtual 390, 3) := by decide +kernel
theorem dX11_count_20 : decode cX11_count 20 = .ok (.goto 8, 3) := by decide +kernel
theorem dX11_count_23 : decode cX11_count 23 = .ok (.aload_n 0, 1) := by decide +kernel
theorem dX11_count_24 : decode cX11_count 24 = .ok (.iconst 1, 1) := by decide +kernel
theorem dX11_count_25 : decode cX11_count 25 = .ok (.invokevirtual 97, 3) := by decide +kernel
theorem dX11_count_28 : decode cX11_count 28 = .ok (.ireturn, 1) := by decide +kernel
theorem dX11_at_0 : decode cX11_at 0 = .ok (.aload_n 0, 1) := by decide +kernel
theorem dX11_at_1 : decode cX11_at 1 = .ok (.getfield 48, 3) := by decide +kernel
theorem dX11_at_4 : decode cX11_at 4 = .ok (.bipush 120, 2) := by decide +kernel
theorem dX11_at_6 : decode cX11_at 6 = .ok (.iload_n 1, 1) := by decide +kernel
theorem dX11_at_7 : decode cX11_at 7 = .ok (.imul, 1) := by decide +kernel
theorem dX11_at_8 : decode cX11_at 8 = .ok (.iload_n 2, 1) := by decide +kernel
theorem dX11_at_9 : decode cX11_at 9 = .ok (.iadd, 1) := by decide +kernel
theorem dX11_at_10 : decode cX11_at 10 = .ok (.laload, 1) := by decide +kernel
theorem dX11_at_11 : decode cX11_at 11 = .ok (.lreturn, 1) := by decide +kernel
theorem dX11_holds_0 : decode cX11_holds 0 = .ok (.aload_n 0, 1) := by decide +kernel
theorem dX11_holds_1 : decode cX11_holds 1 = .ok (.iload_n 1, 1) := by decide +kernel
theorem dX11_holds_2 : decode cX11_holds 2 = .ok (.iload_n 2, 1) := by decide +kernel
theorem dX11_holds_3 : decode cX11_holds 3 = .ok (.invokevirtual 393, 3) := by decide +kernel
theorem dX11_holds_6 : decode cX11_holds 6 = .ok (.lconst 0, 1) := by decide +kernel
theorem dX11_holds_7 : decode cX11_holds 7 = .ok (.lcmp, 1) := by decide +kernel
theorem dX11_holds_8 : decode cX11_holds 8 = .ok (.ifCond .eq 7, 3) := by decide +kernel
theorem dX11_holds_11 : decode cX11_holds 11 = .ok (.iconst 1, 1) := by decide +kernel
theorem dX11_holds_12 : decode cX11_holds 12 = .ok (.goto 4, 3) := by decide +kernel
theorem dX11_holds_15 : decode cX11_holds 15 = .ok (.iconst 0, 1) := by decide +kernel
theorem dX11_holds_16 : decode cX11_holds 16 = .ok (.ireturn, 1) := by decide +kernel
theorem dX11_isWithin_0 : decode cX11_isWithin 0 = .ok (.aload_n 0, 1) := by decide +kernel
theorem dX11_isWithin_1 : decode cX11_isWithin 1 = .ok (.getfield 41, 3) := by decide +kernel
theorem dX11_isWithin_4 : decode cX11_isWithin 4 = .ok (.iload_n 1, 1) := by decide +kernel
theorem dX11_isWithin_5 : decode cX11_isWithin 5 = .ok (.iaload, 1) := by decide +kernel
theorem dX11_isWithin_6 : decode cX11_isWithin 6 = .ok (.iconst (-1), 1) := by decide +kernel
theorem dX11_isWithin_7 : decode cX11_isWithin 7 = .ok (.if_icmp .eq 34, 3) := by decide +kernel
theorem dX11_isWithin_10 : decode cX11_isWithin 10 = .ok (.aload_n 0, 1) := by decide +kernel
theorem dX11_isWithin_11 : decode cX11_isWithin 11 = .ok (.getfield 76, 3) := by decide +kernel
theorem dX11_isWithin_14 : decode cX11_isWithin 14 = .ok (.iload_n 3, 1) := by decide +kernel
theorem dX11_isWithin_15 : decode cX11_isWithin 15 = .ok (.iaload, 1) := by decide +kernel
theorem dX11_isWithin_16 : decode cX11_isWithin 16 = .ok (.aload_n 0, 1) := by decide +kernel
theorem dX11_isWithin_17 : decode cX11_isWithin 17 = .ok (.getfield 76, 3) := by decide +kernel
theorem dX11_isWithin_20 : decode cX11_isWithin 20 = .ok (.iload_n 2, 1) := by decide +kernel
theorem dX11_isWithin_21 : decode cX11_isWithin 21 = .ok (.iaload, 1) := by decide +kernel
theorem dX11_isWithin_22 : decode cX11_isWithin 22 = .ok (.isub, 1) := by decide +kernel
theorem dX11_isWithin_23 : decode cX11_isWithin 23 = .ok (.aload_n 0, 1) := by decide +kernel
theorem dX11_isWithin_24 : decode cX11_isWithin 24 = .ok (.getfield 38, 3) := by decide +kernel
theorem dX11_isWithin_27 : decode cX11_isWithin 27 = .ok (.iload_n 1, 1) := by decide +kernel
theorem dX11_isWithin_28 : decode cX11_isWithin 28 = .ok (.iaload, 1) := by decide +kernel
theorem dX11_isWithin_29 : decode cX11_isWithin 29 = .ok (.aload_n 0, 1) := by decide +kernel
theorem dX11_isWithin_30 : decode cX11_isWithin 30 = .ok (.getfield 41, 3) := by decide +kernel
theorem dX11_isWithin_33 : decode cX11_isWithin 33 = .ok (.iload_n 1, 1) := by decide +kernel
theorem dX11_isWithin_34 : decode cX11_isWithin 34 = .ok (.iaload, 1) := by decide +kernel
theorem dX11_isWithin_35 : decode cX11_isWithin 35 = .ok (.invokestatic 101, 3) := by decide +kernel
theorem dX11_isWithin_38 : decode cX11_isWithin 38 = .ok (.ifCond .eq 7, 3) := by decide +kernel
theorem dX11_isWithin_41 : decode cX11_isWithin 41 = .ok (.iconst 1, 1) := by decide +kernel
theorem dX11_isWithin_42 : decode cX11_isWithin 42 = .ok (.goto 4, 3) := by decide +kernel
theorem dX11_isWithin_45 : decode cX11_isWithin 45 = .ok (.iconst 0, 1) := by decide +kernel
theorem dX11_isWithin_46 : decode cX11_isWithin 46 = .ok (.ireturn, 1) := by decide +kernel
theorem dX11_reckon_0 : decode cX11_reckon 0 = .ok (.iload_n 1, 1) := by decide +kernel
theorem dX11_reckon_1 : decode cX11_reckon 1 = .ok (.istore 4, 2) := by decide +kernel
theorem dX11_reckon_3 : decode cX11_reckon 3 = .ok (.iload 4, 2) := by decide +kernel
theorem dX11_reckon_5 : decode cX11_reckon 5 = .ok (.iload_n 2, 1) := by decide +kernel
theorem dX11_reckon_6 : decode cX11_reckon 6 = .ok (.if_icmp .ge 53, 3) := by decide +kernel
theorem dX11_reckon_9 : decode cX11_reckon 9 = .ok (.aload_n 0, 1) := by decide +kernel
theorem dX11_reckon_10 : decode cX11_reckon 10 = .ok (.getfield 48, 3) := by decide +kernel
theorem dX11_reckon_13 : decode cX11_reckon 13 = .ok (.bipush 120, 2) := by decide +kernel
theorem dX11_reckon_15 : decode cX11_reckon 15 = .ok (.iload 4, 2) := by decide +kernel
theorem dX11_reckon_17 : decode cX11_reckon 17 = .ok (.imul, 1) := by decide +kernel
theorem dX11_reckon_18 : decode cX11_reckon 18 = .ok (.iload_n 3, 1) := by decide +kernel
theorem dX11_reckon_19 : decode cX11_reckon 19 = .ok (.iadd, 1) := by decide +kernel
theorem dX11_reckon_20 : decode cX11_reckon 20 = .ok (.aload_n 0, 1) := by decide +kernel
theorem dX11_reckon_21 : decode cX11_reckon 21 = .ok (.getfield 26, 3) := by decide +kernel
theorem dX11_reckon_24 : decode cX11_reckon 24 = .ok (.iload 4, 2) := by decide +kernel
theorem dX11_reckon_26 : decode cX11_reckon 26 = .ok (.iaload, 1) := by decide +kernel
theorem dX11_reckon_27 : decode cX11_reckon 27 = .ok (.bipush 20, 2) := by decide +kernel
theorem dX11_reckon_29 : decode cX11_reckon 29 = .ok (.if_icmp .ge 16, 3) := by decide +kernel
theorem dX11_reckon_32 : decode cX11_reckon 32 = .ok (.aload_n 0, 1) := by decide +kernel
theorem dX11_reckon_33 : decode cX11_reckon 33 = .ok (.iload 4, 2) := by decide +kernel
theorem dX11_reckon_35 : decode cX11_reckon 35 = .ok (.iload_n 3, 1) := by decide +kernel
theorem dX11_reckon_36 : decode cX11_reckon 36 = .ok (.invokevirtual 396, 3) := by decide +kernel
theorem dX11_reckon_39 : decode cX11_reckon 39 = .ok (.invokestatic 400, 3) := by decide +kernel
theorem dX11_reckon_42 : decode cX11_reckon 42 = .ok (.goto 10, 3) := by decide +kernel
theorem dX11_reckon_45 : decode cX11_reckon 45 = .ok (.aload_n 0, 1) := by decide +kernel
theorem dX11_reckon_46 : decode cX11_reckon 46 = .ok (.iload 4, 2) := by decide +kernel
theorem dX11_reckon_48 : decode cX11_reckon 48 = .ok (.iload_n 3, 1) := by decide +kernel
theorem dX11_reckon_49 : decode cX11_reckon 49 = .ok (.invokevirtual 404, 3) := by decide +kernel
theorem dX11_reckon_52 : decode cX11_reckon 52 = .ok (.lastore, 1) := by decide +kernel
theorem dX11_reckon_53 : decode cX11_reckon 53 = .ok (.iinc 4 1, 3) := by decide +kernel
theorem dX11_reckon_56 : decode cX11_reckon 56 = .ok (.goto (-53), 3) := by decide +kernel
theorem dX11_reckon_59 : decode cX11_reckon 59 = .ok (.return_, 1) := by decide +kernel
theorem dX11_truth_0 : decode cX11_truth 0 = .ok (.iload_n 0, 1) := by decide +kernel
theorem dX11_truth_1 : decode cX11_truth 1 = .ok (.ifCond .eq 7, 3) := by decide +kernel
theorem dX11_truth_4 : decode cX11_truth 4 = .ok (.lconst 1, 1) := by decide +kernel
theorem dX11_truth_5 : decode cX11_truth 5 = .ok (.goto 4, 3) := by decide +kernel
theorem dX11_truth_8 : decode cX11_truth 8 = .ok (.lconst 0, 1) := by decide +kernel
theorem dX11_truth_9 : decode cX11_truth 9 = .ok (.lreturn, 1) := by decide +kernel
theorem dX11_isTrue_0 : decode cX11_isTrue 0 = .ok (.aload_n 0, 1) := by decide +kernel
theorem dX11_isTrue_1 : decode cX11_isTrue 1 = .ok (.getfield 29, 3) := by decide +kernel
theorem dX11_isTrue_4 : decode cX11_isTrue 4 = .ok (.iload_n 1, 1) := by decide +kernel
theorem dX11_isTrue_5 : decode cX11_isTrue 5 = .ok (.iaload, 1) := by decide +kernel
theorem dX11_isTrue_6 : decode cX11_isTrue 6 = .ok (.istore_n 3, 1) := by decide +kernel
theorem dX11_isTrue_7 : decode cX11_isTrue 7 = .ok (.aload_n 0, 1) := by decide +kernel
theorem dX11_isTrue_8 : decode cX11_isTrue 8 = .ok (.getfield 32, 3) := by decide +kernel
theorem dX11_isTrue_11 : decode cX11_isTrue 11 = .ok (.iload_n 1, 1) := by decide +kernel
theorem dX11_isTrue_12 : decode cX11_isTrue 12 = .ok (.iaload, 1) := by decide +kernel
theorem dX11_isTrue_13 : decode cX11_isTrue 13 = .ok (.istore 4, 2) := by decide +kernel
theorem dX11_isTrue_15 : decode cX11_isTrue 15 = .ok (.aload_n 0, 1) := by decide +kernel
theorem dX11_isTrue_16 : decode cX11_isTrue 16 = .ok (.getfield 26, 3) := by decide +kernel
theorem dX11_isTrue_19 : decode cX11_isTrue 19 = .ok (.iload_n 1, 1) := by decide +kernel
theorem dX11_isTrue_20 : decode cX11_isTrue 20 = .ok (.iaload, 1) := by decide +kernel
theorem dX11_isTrue_21 : decode cX11_isTrue 21 = .ok (.tableswitch 324 0 12 #[67, 82, 103, 133, 163, 217, 233, 235, 237, 244, 267, 274, 299], 67) := by decide +kernel
theorem dX11_isTrue_88 : decode cX11_isTrue 88 = .ok (.aload_n 0, 1) := by decide +kernel
theorem dX11_isTrue_89 : decode cX11_isTrue 89 = .ok (.iload_n 3, 1) := by decide +kernel
theorem dX11_isTrue_90 : decode cX11_isTrue 90 = .ok (.iload_n 2, 1) := by decide +kernel
theorem dX11_isTrue_91 : decode cX11_isTrue 91 = .ok (.invokevirtual 407, 3) := by decide +kernel
theorem dX11_isTrue_94 : decode cX11_isTrue 94 = .ok (.ifCond .ne 7, 3) := by decide +kernel
theorem dX11_isTrue_97 : decode cX11_isTrue 97 = .ok (.iconst 1, 1) := by decide +kernel
theorem dX11_isTrue_98 : decode cX11_isTrue 98 = .ok (.goto 4, 3) := by decide +kernel
theorem dX11_isTrue_101 : decode cX11_isTrue 101 = .ok (.iconst 0, 1) := by decide +kernel
theorem dX11_isTrue_102 : decode cX11_isTrue 102 = .ok (.ireturn, 1) := by decide +kernel
theorem dX11_isTrue_103 : decode cX11_isTrue 103 = .ok (.iload_n 2, 1) := by decide +kernel
theorem dX11_isTrue_104 : decode cX11_isTrue 104 = .ok (.ifCond .le 18, 3) := by decide +kernel
theorem dX11_isTrue_107 : decode cX11_isTrue 107 = .ok (.aload_n 0, 1) := by decide +kernel
theorem dX11_isTrue_108 : decode cX11_isTrue 108 = .ok (.iload_n 3, 1) := by decide +kernel
theorem dX11_isTrue_109 : decode cX11_isTrue 109 = .ok (.iload_n 2, 1) := by decide +kernel
theorem dX11_isTrue_110 : decode cX11_isTrue 110 = .ok (.iconst 1, 1) := by decide +kernel
theorem dX11_isTrue_111 : decode cX11_isTrue 111 = .ok (.isub, 1) := by decide +kernel
theorem dX11_isTrue_112 : decode cX11_isTrue 112 = .ok (.invokevirtual 407, 3) := by decide +kernel
theorem dX11_isTrue_115 : decode cX11_isTrue 115 = .ok (.ifCond .eq 7, 3) := by decide +kernel
theorem dX11_isTrue_118 : decode cX11_isTrue 118 = .ok (.iconst 1, 1) := by decide +kernel
theorem dX11_isTrue_119 : decode cX11_isTrue 119 = .ok (.goto 4, 3) := by decide +kernel
theorem dX11_isTrue_122 : decode cX11_isTrue 122 = .ok (.iconst 0, 1) := by decide +kernel
theorem dX11_isTrue_123 : decode cX11_isTrue 123 = .ok (.ireturn, 1) := by decide +kernel
theorem dX11_isTrue_124 : decode cX11_isTrue 124 = .ok (.aload_n 0, 1) := by decide +kernel
theorem dX11_isTrue_125 : decode cX11_isTrue 125 = .ok (.iload_n 3, 1) := by decide +kernel
theorem dX11_isTrue_126 : decode cX11_isTrue 126 = .ok (.iload_n 2, 1) := by decide +kernel
theorem dX11_isTrue_127 : decode cX11_isTrue 127 = .ok (.invokevirtual 407, 3) := by decide +kernel
theorem dX11_isTrue_130 : decode cX11_isTrue 130 = .ok (.ifCond .eq 22, 3) := by decide +kernel
theorem dX11_isTrue_133 : decode cX11_isTrue 133 = .ok (.iload_n 2, 1) := by decide +kernel
theorem dX11_isTrue_134 : decode cX11_isTrue 134 = .ok (.ifCond .eq 14, 3) := by decide +kernel
theorem dX11_isTrue_137 : decode cX11_isTrue 137 = .ok (.aload_n 0, 1) := by decide +kernel
theorem dX11_isTrue_138 : decode cX11_isTrue 138 = .ok (.iload_n 3, 1) := by decide +kernel
theorem dX11_isTrue_139 : decode cX11_isTrue 139 = .ok (.iload_n 2, 1) := by decide +kernel
theorem dX11_isTrue_140 : decode cX11_isTrue 140 = .ok (.iconst 1, 1) := by decide +kernel
theorem dX11_isTrue_141 : decode cX11_isTrue 141 = .ok (.isub, 1) := by decide +kernel
theorem dX11_isTrue_142 : decode cX11_isTrue 142 = .ok (.invokevirtual 407, 3) := by decide +kernel
theorem dX11_isTrue_145 : decode cX11_isTrue 145 = .ok (.ifCond .ne 7, 3) := by decide +kernel
theorem dX11_isTrue_148 : decode cX11_isTrue 148 = .ok (.iconst 1, 1) := by decide +kernel
theorem dX11_isTrue_149 : decode cX11_isTrue 149 = .ok (.goto 4, 3) := by decide +kernel
theorem dX11_isTrue_152 : decode cX11_isTrue 152 = .ok (.iconst 0, 1) := by decide +kernel
theorem dX11_isTrue_153 : decode cX11_isTrue 153 = .ok (.ireturn, 1) := by decide +kernel
theorem dX11_isTrue_154 : decode cX11_isTrue 154 = .ok (.aload_n 0, 1) := by decide +kernel
theorem dX11_isTrue_155 : decode cX11_isTrue 155 = .ok (.iload_n 3, 1) := by decide +kernel
theorem dX11_isTrue_156 : decode cX11_isTrue 156 = .ok (.iload_n 2, 1) := by decide +kernel
theorem dX11_isTrue_157 : decode cX11_isTrue 157 = .ok (.invokevirtual 407, 3) := by decide +kernel
theorem dX11_isTrue_160 : decode cX11_isTrue 160 = .ok (.ifCond .ne 22, 3) := by decide +kernel
theorem dX11_isTrue_163 : decode cX11_isTrue 163 = .ok (.iload_n 2, 1) := by decide +kernel
theorem dX11_isTrue_164 : decode cX11_isTrue 164 = .ok (.ifCond .le 18, 3) := by decide +kernel
theorem dX11_isTrue_167 : decode cX11_isTrue 167 = .ok (.aload_n 0, 1) := by decide +kernel
theorem dX11_isTrue_168 : decode cX11_isTrue 168 = .ok (.iload_n 3, 1) := by decide +kernel
theorem dX11_isTrue_169 : decode cX11_isTrue 169 = .ok (.iload_n 2, 1) := by decide +kernel
theorem dX11_isTrue_170 : decode cX11_isTrue 170 = .ok (.iconst 1, 1) := by decide +kernel
theorem dX11_isTrue_171 : decode cX11_isTrue 171 = .ok (.isub, 1) := by decide +kernel
theorem dX11_isTrue_172 : decode cX11_isTrue 172 = .ok (.invokevirtual 407, 3) := by decide +kernel
theorem dX11_isTrue_175 : decode cX11_isTrue 175 = .ok (.ifCond .eq 7, 3) := by decide +kernel
theorem dX11_isTrue_178 : decode cX11_isTrue 178 = .ok (.iconst 1, 1) := by decide +kernel
theorem dX11_isTrue_179 : decode cX11_isTrue 179 = .ok (.goto 4, 3) := by decide +kernel
theorem dX11_isTrue_182 : decode cX11_isTrue 182 = .ok (.iconst 0, 1) := by decide +kernel
theorem dX11_isTrue_183 : decode cX11_isTrue 183 = .ok (.ireturn, 1) := by decide +kernel
theorem dX11_isTrue_184 : decode cX11_isTrue 184 = .ok (.iconst 0, 1) := by decide +kernel
theorem dX11_isTrue_185 : decode cX11_isTrue 185 = .ok (.istore 5, 2) := by decide +kernel
theorem dX11_isTrue_187 : decode cX11_isTrue 187 = .ok (.iconst 0, 1) := by decide +kernel
theorem dX11_isTrue_188 : decode cX11_isTrue 188 = .ok (.istore 6, 2) := by decide +kernel
theorem dX11_isTrue_190 : decode cX11_isTrue 190 = .ok (.iload 6, 2) := by decide +kernel
theorem dX11_isTrue_192 : decode cX11_isTrue 192 = .ok (.iload_n 2, 1) := by decide +kernel
theorem dX11_isTrue_193 : decode cX11_isTrue 193 = .ok (.if_icmp .gt 42, 3) := by decide +kernel
theorem dX11_isTrue_196 : decode cX11_isTrue 196 = .ok (.iload 5, 2) := by decide +kernel
theorem dX11_isTrue_198 : decode cX11_isTrue 198 = .ok (.ifCond .ne 24, 3) := by decide +kernel
theorem dX11_isTrue_201 : decode cX11_isTrue 201 = .ok (.aload_n 0, 1) := by decide +kernel
theorem dX11_isTrue_202 : decode cX11_isTrue 202 = .ok (.iload_n 3, 1) := by decide +kernel
theorem dX11_isTrue_203 : decode cX11_isTrue 203 = .ok (.iload 6, 2) := by decide +kernel
theorem dX11_isTrue_205 : decode cX11_isTrue 205 = .ok (.invokevirtual 407, 3) := by decide +kernel
theorem dX11_isTrue_208 : decode cX11_isTrue 208 = .ok (.ifCond .eq 18, 3) := by decide +kernel
theorem dX11_isTrue_211 : decode cX11_isTrue 211 = .ok (.aload_n 0, 1) := by decide +kernel
theorem dX11_isTrue_212 : decode cX11_isTrue 212 = .ok (.iload_n 1, 1) := by decide +kernel
theorem dX11_isTrue_213 : decode cX11_isTrue 213 = .ok (.iload 6, 2) := by decide +kernel
theorem dX11_isTrue_215 : decode cX11_isTrue 215 = .ok (.iload_n 2, 1) := by decide +kernel
theorem dX11_isTrue_216 : decode cX11_isTrue 216 = .ok (.invokevirtual 410, 3) := by decide +kernel
theorem dX11_isTrue_219 : decode cX11_isTrue 219 = .ok (.ifCond .eq 7, 3) := by decide +kernel
theorem dX11_isTrue_222 : decode cX11_isTrue 222 = .ok (.iconst 1, 1) := by decide +kernel
theorem dX11_isTrue_223 : decode cX11_isTrue 223 = .ok (.goto 4, 3) := by decide +kernel
theorem dX11_isTrue_226 : decode cX11_isTrue 226 = .ok (.iconst 0, 1) := by decide +kernel
theorem dX11_isTrue_227 : decode cX11_isTrue 227 = .ok (.istore 5, 2) := by decide +kernel
theorem dX11_isTrue_229 : decode cX11_isTrue 229 = .ok (.iinc 6 1, 3) := by decide +kernel
theorem dX11_isTrue_232 : decode cX11_isTrue 232 = .ok (.goto (-42), 3) := by decide +kernel
theorem dX11_isTrue_235 : decode cX11_isTrue 235 = .ok (.iload 5, 2) := by decide +kernel
theorem dX11_isTrue_237 : decode cX11_isTrue 237 = .ok (.ireturn, 1) := by decide +kernel
theorem dX11_isTrue_238 : decode cX11_isTrue 238 = .ok (.aload_n 0, 1) := by decide +kernel
theorem dX11_isTrue_239 : decode cX11_isTrue 239 = .ok (.iload_n 1, 1) := by decide +kernel
theorem dX11_isTrue_240 : decode cX11_isTrue 240 = .ok (.iload_n 2, 1) := by decide +kernel
theorem dX11_isTrue_241 : decode cX11_isTrue 241 = .ok (.invokevirtual 413, 3) := by decide +kernel
theorem dX11_isTrue_244 : decode cX11_isTrue 244 = .ok (.iconst (-1), 1) := by decide +kernel
theorem dX11_isTrue_245 : decode cX11_isTrue 245 = .ok (.if_icmp .ne 7, 3) := by decide +kernel
theorem dX11_isTrue_248 : decode cX11_isTrue 248 = .ok (.iconst 1, 1) := by decide +kernel
theorem dX11_isTrue_249 : decode cX11_isTrue 249 = .ok (.goto 4, 3) := by decide +kernel
theorem dX11_isTrue_252 : decode cX11_isTrue 252 = .ok (.iconst 0, 1) := by decide +kernel
theorem dX11_isTrue_253 : decode cX11_isTrue 253 = .ok (.ireturn, 1) := by decide +kernel
theorem dX11_isTrue_254 : decode cX11_isTrue 254 = .ok (.iconst 1, 1) := by decide +kernel
theorem dX11_isTrue_255 : decode cX11_isTrue 255 = .ok (.ireturn, 1) := by decide +kernel
theorem dX11_isTrue_256 : decode cX11_isTrue 256 = .ok (.iconst 0, 1) := by decide +kernel
theorem dX11_isTrue_257 : decode cX11_isTrue 257 = .ok (.ireturn, 1) := by decide +kernel
theorem dX11_isTrue_258 : decode cX11_isTrue 258 = .ok (.aload_n 0, 1) := by decide +kernel
theorem dX11_isTrue_259 : decode cX11_isTrue 259 = .ok (.iload_n 3, 1) := by decide +kernel
theorem dX11_isTrue_260 : decode cX11_isTrue 260 = .ok (.iload_n 2, 1) := by decide +kernel
theorem dX11_isTrue_261 : decode cX11_isTrue 261 = .ok (.invokevirtual 407, 3) := by decide +kernel
theorem dX11_isTrue_264 : decode cX11_isTrue 264 = .ok (.ireturn, 1) := by decide +kernel
theorem dX11_isTrue_265 : decode cX11_isTrue 265 = .ok (.aload_n 0, 1) := by decide +kernel
theorem dX11_isTrue_266 : decode cX11_isTrue 266 = .ok (.getfield 35, 3) := by decide +kernel
theorem dX11_isTrue_269 : decode cX11_isTrue 269 = .ok (.iload_n 1, 1) := by decide +kernel
theorem dX11_isTrue_270 : decode cX11_isTrue 270 = .ok (.iaload, 1) := by decide +kernel
theorem dX11_isTrue_271 : decode cX11_isTrue 271 = .ok (.aload_n 0, 1) := by decide +kernel
theorem dX11_isTrue_272 : decode cX11_isTrue 272 = .ok (.iload_n 3, 1) := by decide +kernel
theorem dX11_isTrue_273 : decode cX11_isTrue 273 = .ok (.iload_n 2, 1) := by decide +kernel
theorem dX11_isTrue_274 : decode cX11_isTrue 274 = .ok (.invokevirtual 393, 3) := by decide +kernel
theorem dX11_isTrue_277 : decode cX11_isTrue 277 = .ok (.aload_n 0, 1) := by decide +kernel
theorem dX11_isTrue_278 : decode cX11_isTrue 278 = .ok (.iload 4, 2) := by decide +kernel
theorem dX11_isTrue_280 : decode cX11_isTrue 280 = .ok (.iload_n 2, 1) := by decide +kernel
theorem dX11_isTrue_281 : decode cX11_isTrue 281 = .ok (.invokevirtual 393, 3) := by decide +kernel
theorem dX11_isTrue_284 : decode cX11_isTrue 284 = .ok (.invokestatic 416, 3) := by decide +kernel
theorem dX11_isTrue_287 : decode cX11_isTrue 287 = .ok (.ireturn, 1) := by decide +kernel
theorem dX11_isTrue_288 : decode cX11_isTrue 288 = .ok (.aload_n 0, 1) := by decide +kernel
theorem dX11_isTrue_289 : decode cX11_isTrue 289 = .ok (.iload_n 1, 1) := by decide +kernel
theorem dX11_isTrue_290 : decode cX11_isTrue 290 = .ok (.iload_n 2, 1) := by decide +kernel
theorem dX11_isTrue_291 : decode cX11_isTrue 291 = .ok (.invokevirtual 420, 3) := by decide +kernel
theorem dX11_isTrue_294 : decode cX11_isTrue 294 = .ok (.ireturn, 1) := by decide +kernel
theorem dX11_isTrue_295 : decode cX11_isTrue 295 = .ok (.aload_n 0, 1) := by decide +kernel
theorem dX11_isTrue_296 : decode cX11_isTrue 296 = .ok (.iload_n 3, 1) := by decide +kernel
theorem dX11_isTrue_297 : decode cX11_isTrue 297 = .ok (.iload_n 2, 1) := by decide +kernel
theorem dX11_isTrue_298 : decode cX11_isTrue 298 = .ok (.invokevirtual 407, 3) := by decide +kernel
theorem dX11_isTrue_301 : decode cX11_isTrue 301 = .ok (.ifCond .eq 17, 3) := by decide +kernel
theorem dX11_isTrue_304 : decode cX11_isTrue 304 = .ok (.aload_n 0, 1) := by decide +kernel
theorem dX11_isTrue_305 : decode cX11_isTrue 305 = .ok (.iload 4, 2) := by decide +kernel
theorem dX11_isTrue_307 : decode cX11_isTrue 307 = .ok (.iload_n 2, 1) := by decide +kernel
theorem dX11_isTrue_308 : decode cX11_isTrue 308 = .ok (.invokevirtual 407, 3) := by decide +kernel
theorem dX11_isTrue_311 : decode cX11_isTrue 311 = .ok (.ifCond .eq 7, 3) := by decide +kernel
theorem dX11_isTrue_314 : decode cX11_isTrue 314 = .ok (.iconst 1, 1) := by decide +kernel
theorem dX11_isTrue_315 : decode cX11_isTrue 315 = .ok (.goto 4, 3) := by decide +kernel
theorem dX11_isTrue_318 : decode cX11_isTrue 318 = .ok (.iconst 0, 1) := by decide +kernel
theorem dX11_isTrue_319 : decode cX11_isTrue 319 = .ok (.ireturn, 1) := by decide +kernel
theorem dX11_isTrue_320 : decode cX11_isTrue 320 = .ok (.aload_n 0, 1) := by decide +kernel
theorem dX11_isTrue_321 : decode cX11_isTrue 321 = .ok (.iload_n 3, 1) := by decide +kernel
theorem dX11_isTrue_322 : decode cX11_isTrue 322 = .ok (.iload_n 2, 1) := by decide +kernel
theorem dX11_isTrue_323 : decode cX11_isTrue 323 = .ok (.invokevirtual 407, 3) := by decide +kernel
theorem dX11_isTrue_326 : decode cX11_isTrue 326 = .ok (.ifCond .ne 13, 3) := by decide +kernel
theorem dX11_isTrue_329 : decode cX11_isTrue 329 = .ok (.aload_n 0, 1) := by decide +kernel
theorem dX11_isTrue_330 : decode cX11_isTrue 330 = .ok (.iload 4, 2) := by decide +kernel
theorem dX11_isTrue_332 : decode cX11_isTrue 332 = .ok (.iload_n 2, 1) := by decide +kernel
theorem dX11_isTrue_333 : decode cX11_isTrue 333 = .ok (.invokevirtual 407, 3) := by decide +kernel
theorem dX11_isTrue_336 : decode cX11_isTrue 336 = .ok (.ifCond .eq 7, 3) := by decide +kernel
theorem dX11_isTrue_339 : decode cX11_isTrue 339 = .ok (.iconst 1, 1) := by decide +kernel
theorem dX11_isTrue_340 : decode cX11_isTrue 340 = .ok (.goto 4, 3) := by decide +kernel
theorem dX11_isTrue_343 : decode cX11_isTrue 343 = .ok (.iconst 0, 1) := by decide +kernel
theorem dX11_isTrue_344 : decode cX11_isTrue 344 = .ok (.ireturn, 1) := by decide +kernel
theorem dX11_isTrue_345 : decode cX11_isTrue 345 = .ok (.aload_n 0, 1) := by decide +kernel
theorem dX11_isTrue_346 : decode cX11_isTrue 346 = .ok (.iload_n 3, 1) := by decide +kernel
theorem dX11_isTrue_347 : decode cX11_isTrue 347 = .ok (.iload_n 2, 1) := by decide +kernel
theorem dX11_isTrue_348 : decode cX11_isTrue 348 = .ok (.invokevirtual 407, 3) := by decide +kernel
theorem dX11_isTrue_351 : decode cX11_isTrue 351 = .ok (.ifCond .eq 13, 3) := by decide +kernel
theorem dX11_isTrue_354 : decode cX11_isTrue 354 = .ok (.aload_n 0, 1) := by decide +kernel
theorem dX11_isTrue_355 : decode cX11_isTrue 355 = .ok (.iload 4, 2) := by decide +kernel
theorem dX11_isTrue_357 : decode cX11_isTrue 357 = .ok (.iload_n 2, 1) := by decide +kernel
theorem dX11_isTrue_358 : decode cX11_isTrue 358 = .ok (.invokevirtual 407, 3) := by decide +kernel
theorem dX11_isTrue_361 : decode cX11_isTrue 361 = .ok (.ifCond .eq 7, 3) := by decide +kernel
theorem dX11_isTrue_364 : decode cX11_isTrue 364 = .ok (.iconst 1, 1) := by decide +kernel
theorem dX11_isTrue_365 : decode cX11_isTrue 365 = .ok (.goto 4, 3) := by decide +kernel
theorem dX11_isTrue_368 : decode cX11_isTrue 368 = .ok (.iconst 0, 1) := by decide +kernel
theorem dX11_isTrue_369 : decode cX11_isTrue 369 = .ok (.ireturn, 1) := by decide +kernel
theorem dX11_firstMiss_0 : decode cX11_firstMiss 0 = .ok (.iconst (-1), 1) := by decide +kernel
theorem dX11_firstMiss_1 : decode cX11_firstMiss 1 = .ok (.istore_n 3, 1) := by decide +kernel
theorem dX11_firstMiss_2 : decode cX11_firstMiss 2 = .ok (.iload_n 2, 1) := by decide +kernel
theorem dX11_firstMiss_3 : decode cX11_firstMiss 3 = .ok (.istore 4, 2) := by decide +kernel
theorem dX11_firstMiss_5 : decode cX11_firstMiss 5 = .ok (.iload 4, 2) := by decide +kernel
theorem dX11_firstMiss_7 : decode cX11_firstMiss 7 = .ok (.ifCond .lt 38, 3) := by decide +kernel
theorem dX11_firstMiss_10 : decode cX11_firstMiss 10 = .ok (.aload_n 0, 1) := by decide +kernel
theorem dX11_firstMiss_11 : decode cX11_firstMiss 11 = .ok (.aload_n 0, 1) := by decide +kernel
theorem dX11_firstMiss_12 : decode cX11_firstMiss 12 = .ok (.getfield 29, 3) := by decide +kernel
theorem dX11_firstMiss_15 : decode cX11_firstMiss 15 = .ok (.iload_n 1, 1) := by decide +kernel
theorem dX11_firstMiss_16 : decode cX11_firstMiss 16 = .ok (.iaload, 1) := by decide +kernel
theorem dX11_firstMiss_17 : decode cX11_firstMiss 17 = .ok (.iload 4, 2) := by decide +kernel
theorem dX11_firstMiss_19 : decode cX11_firstMiss 19 = .ok (.invokevirtual 407, 3) := by decide +kernel
theorem dX11_firstMiss_22 : decode cX11_firstMiss 22 = .ok (.ifCond .ne 17, 3) := by decide +kernel
theorem dX11_firstMiss_25 : decode cX11_firstMiss 25 = .ok (.aload_n 0, 1) := by decide +kernel
theorem dX11_firstMiss_26 : decode cX11_firstMiss 26 = .ok (.iload_n 1, 1) := by decide +kernel
theorem dX11_firstMiss_27 : decode cX11_firstMiss 27 = .ok (.iload 4, 2) := by decide +kernel
theorem dX11_firstMiss_29 : decode cX11_firstMiss 29 = .ok (.iload_n 2, 1) := by decide +kernel
theorem dX11_firstMiss_30 : decode cX11_firstMiss 30 = .ok (.invokevirtual 410, 3) := by decide +kernel
theorem dX11_firstMiss_33 : decode cX11_firstMiss 33 = .ok (.ifCond .eq 6, 3) := by decide +kernel
theorem dX11_firstMiss_36 : decode cX11_firstMiss 36 = .ok (.iload 4, 2) := by decide +kernel
theorem dX11_firstMiss_38 : decode cX11_firstMiss 38 = .ok (.istore_n 3, 1) := by decide +kernel
theorem dX11_firstMiss_39 : decode cX11_firstMiss 39 = .ok (.iinc 4 (-1), 3) := by decide +kernel
theorem dX11_firstMiss_42 : decode cX11_firstMiss 42 = .ok (.goto (-37), 3) := by decide +kernel
theorem dX11_firstMiss_45 : decode cX11_firstMiss 45 = .ok (.iload_n 3, 1) := by decide +kernel
theorem dX11_firstMiss_46 : decode cX11_firstMiss 46 = .ok (.ireturn, 1) := by decide +kernel
theorem dX11_isSince_0 : decode cX11_isSince 0 = .ok (.iconst 0, 1) := by decide +kernel
theorem dX11_isSince_1 : decode cX11_isSince 1 = .ok (.istore_n 3, 1) := by decide +kernel
theorem dX11_isSince_2 : decode cX11_isSince 2 = .ok (.iconst 1, 1) := by decide +kernel
theorem dX11_isSince_3 : decode cX11_isSince 3 = .ok (.istore 4, 2) := by decide +kernel
theorem dX11_isSince_5 : decode cX11_isSince 5 = .ok (.iload_n 2, 1) := by decide +kernel
theorem dX11_isSince_6 : decode cX11_isSince 6 = .ok (.istore 5, 2) := by decide +kernel
theorem dX11_isSince_8 : decode cX11_isSince 8 = .ok (.iload 5, 2) := by decide +kernel
theorem dX11_isSince_10 : decode cX11_isSince 10 = .ok (.ifCond .lt 64, 3) := by decide +kernel
theorem dX11_isSince_13 : decode cX11_isSince 13 = .ok (.iload 4, 2) := by decide +kernel
theorem dX11_isSince_15 : decode cX11_isSince 15 = .ok (.ifCond .eq 59, 3) := by decide +kernel
theorem dX11_isSince_18 : decode cX11_isSince 18 = .ok (.iload_n 3, 1) := by decide +kernel
theorem dX11_isSince_19 : decode cX11_isSince 19 = .ok (.ifCond .ne 29, 3) := by decide +kernel
theorem dX11_isSince_22 : decode cX11_isSince 22 = .ok (.aload_n 0, 1) := by decide +kernel
theorem dX11_isSince_23 : decode cX11_isSince 23 = .ok (.aload_n 0, 1) := by decide +kernel
theorem dX11_isSince_24 : decode cX11_isSince 24 = .ok (.getfield 32, 3) := by decide +kernel
theorem dX11_isSince_27 : decode cX11_isSince 27 = .ok (.iload_n 1, 1) := by decide +kernel
theorem dX11_isSince_28 : decode cX11_isSince 28 = .ok (.iaload, 1) := by decide +kernel
theorem dX11_isSince_29 : decode cX11_isSince 29 = .ok (.iload 5, 2) := by decide +kernel
theorem dX11_isSince_31 : decode cX11_isSince 31 = .ok (.invokevirtual 407, 3) := by decide +kernel
theorem dX11_isSince_34 : decode cX11_isSince 34 = .ok (.ifCond .eq 18, 3) := by decide +kernel
theorem dX11_isSince_37 : decode cX11_isSince 37 = .ok (.aload_n 0, 1) := by decide +kernel
theorem dX11_isSince_38 : decode cX11_isSince 38 = .ok (.iload_n 1, 1) := by decide +kernel
theorem dX11_isSince_39 : decode cX11_isSince 39 = .ok (.iload 5, 2) := by decide +kernel
theorem dX11_isSince_41 : decode cX11_isSince 41 = .ok (.iload_n 2, 1) := by decide +kernel
theorem dX11_isSince_42 : decode cX11_isSince 42 = .ok (.invokevirtual 410, 3) := by decide +kernel
theorem dX11_isSince_45 : decode cX11_isSince 45 = .ok (.ifCond .eq 7, 3) := by decide +kernel
theorem dX11_isSince_48 : decode cX11_isSince 48 = .ok (.iconst 1, 1) := by decide +kernel
theorem dX11_isSince_49 : decode cX11_isSince 49 = .ok (.goto 4, 3) := by decide +kernel
theorem dX11_isSince_52 : decode cX11_isSince 52 = .ok (.iconst 0, 1) := by decide +kernel
theorem dX11_isSince_53 : decode cX11_isSince 53 = .ok (.istore_n 3, 1) := by decide +kernel
theorem dX11_isSince_54 : decode cX11_isSince 54 = .ok (.aload_n 0, 1) := by decide +kernel
theorem dX11_isSince_55 : decode cX11_isSince 55 = .ok (.aload_n 0, 1) := by decide +kernel
theorem dX11_isSince_56 : decode cX11_isSince 56 = .ok (.getfield 29, 3) := by decide +kernel
theorem dX11_isSince_59 : decode cX11_isSince 59 = .ok (.iload_n 1, 1) := by decide +kernel
theorem dX11_isSince_60 : decode cX11_isSince 60 = .ok (.iaload, 1) := by decide +kernel
theorem dX11_isSince_61 : decode cX11_isSince 61 = .ok (.iload 5, 2) := by decide +kernel
theorem dX11_isSince_63 : decode cX11_isSince 63 = .ok (.invokevirtual 407, 3) := by decide +kernel
theorem dX11_isSince_66 : decode cX11_isSince 66 = .ok (.istore 4, 2) := by decide +kernel
theorem dX11_isSince_68 : decode cX11_isSince 68 = .ok (.iinc 5 (-1), 3) := by decide +kernel
theorem dX11_isSince_71 : decode cX11_isSince 71 = .ok (.goto (-63), 3) := by decide +kernel
theorem dX11_isSince_74 : decode cX11_isSince 74 = .ok (.iload_n 3, 1) := by decide +kernel
theorem dX11_isSince_75 : decode cX11_isSince 75 = .ok (.ireturn, 1) := by decide +kernel
theorem dX11_compared_0 : decode cX11_compared 0 = .ok (.iload_n 0, 1) := by decide +kernel
theorem dX11_compared_1 : decode cX11_compared 1 = .ok (.ifCond .ne 17, 3) := by decide +kernel
theorem dX11_compared_4 : decode cX11_compared 4 = .ok (.lload_n 1, 1) := by decide +kernel
theorem dX11_compared_5 : decode cX11_compared 5 = .ok (.lload_n 3, 1) := by decide +kernel
theorem dX11_compared_6 : decode cX11_compared 6 = .ok (.lcmp, 1) := by decide +kernel
theorem dX11_compared_7 : decode cX11_compared 7 = .ok (.ifCond .ne 7, 3) := by decide +kernel
theorem dX11_compared_10 : decode cX11_compared 10 = .ok (.iconst 1, 1) := by decide +kernel
theorem dX11_compared_11 : decode cX11_compared 11 = .ok (.goto 94, 3) := by decide +kernel
theorem dX11_compared_14 : decode cX11_compared 14 = .ok (.iconst 0, 1) := by decide +kernel
theorem dX11_compared_15 : decode cX11_compared 15 = .ok (.goto 90, 3) := by decide +kernel
theorem dX11_compared_18 : decode cX11_compared 18 = .ok (.iload_n 0, 1) := by decide +kernel
theorem dX11_compared_19 : decode cX11_compared 19 = .ok (.iconst 1, 1) := by decide +kernel
theorem dX11_compared_20 : decode cX11_compared 20 = .ok (.if_icmp .ne 17, 3) := by decide +kernel
theorem dX11_compared_23 : decode cX11_compared 23 = .ok (.lload_n 1, 1) := by decide +kernel
theorem dX11_compared_24 : decode cX11_compared 24 = .ok (.lload_n 3, 1) := by decide +kernel
theorem dX11_compared_25 : decode cX11_compared 25 = .ok (.lcmp, 1) := by decide +kernel
theorem dX11_compared_26 : decode cX11_compared 26 = .ok (.ifCond .eq 7, 3) := by decide +kernel
theorem dX11_compared_29 : decode cX11_compared 29 = .ok (.iconst 1, 1) := by decide +kernel
theorem dX11_compared_30 : decode cX11_compared 30 = .ok (.goto 75, 3) := by decide +kernel
theorem dX11_compared_33 : decode cX11_compared 33 = .ok (.iconst 0, 1) := by decide +kernel
theorem dX11_compared_34 : decode cX11_compared 34 = .ok (.goto 71, 3) := by decide +kernel
theorem dX11_compared_37 : decode cX11_compared 37 = .ok (.iload_n 0, 1) := by decide +kernel
theorem dX11_compared_38 : decode cX11_compared 38 = .ok (.iconst 2, 1) := by decide +kernel
theorem dX11_compared_39 : decode cX11_compared 39 = .ok (.if_icmp .ne 17, 3) := by decide +kernel
theorem dX11_compared_42 : decode cX11_compared 42 = .ok (.lload_n 1, 1) := by decide +kernel
theorem dX11_compared_43 : decode cX11_compared 43 = .ok (.lload_n 3, 1) := by decide +kernel
theorem dX11_compared_44 : decode cX11_compared 44 = .ok (.lcmp, 1) := by decide +kernel
theorem dX11_compared_45 : decode cX11_compared 45 = .ok (.ifCond .ge 7, 3) := by decide +kernel
theorem dX11_compared_48 : decode cX11_compared 48 = .ok (.iconst 1, 1) := by decide +kernel
theorem dX11_compared_49 : decode cX11_compared 49 = .ok (.goto 56, 3) := by decide +kernel
theorem dX11_compared_52 : decode cX11_compared 52 = .ok (.iconst 0, 1) := by decide +kernel
theorem dX11_compared_53 : decode cX11_compared 53 = .ok (.goto 52, 3) := by decide +kernel
theorem dX11_compared_56 : decode cX11_compared 56 = .ok (.iload_n 0, 1) := by decide +kernel
theorem dX11_compared_57 : decode cX11_compared 57 = .ok (.iconst 3, 1) := by decide +kernel
theorem dX11_compared_58 : decode cX11_compared 58 = .ok (.if_icmp .ne 17, 3) := by decide +kernel
theorem dX11_compared_61 : decode cX11_compared 61 = .ok (.lload_n 1, 1) := by decide +kernel
theorem dX11_compared_62 : decode cX11_compared 62 = .ok (.lload_n 3, 1) := by decide +kernel
theorem dX11_compared_63 : decode cX11_compared 63 = .ok (.lcmp, 1) := by decide +kernel
theorem dX11_compared_64 : decode cX11_compared 64 = .ok (.ifCond .le 7, 3) := by decide +kernel
theorem dX11_compared_67 : decode cX11_compared 67 = .ok (.iconst 1, 1) := by decide +kernel
theorem dX11_compared_68 : decode cX11_compared 68 = .ok (.goto 37, 3) := by decide +kernel
theorem dX11_compared_71 : decode cX11_compared 71 = .ok (.iconst 0, 1) := by decide +kernel
theorem dX11_compared_72 : decode cX11_compared 72 = .ok (.goto 33, 3) := by decide +kernel
theorem dX11_compared_75 : decode cX11_compared 75 = .ok (.iload_n 0, 1) := by decide +kernel
theorem dX11_compared_76 : decode cX11_compared 76 = .ok (.iconst 4, 1) := by decide +kernel
theorem dX11_compared_77 : decode cX11_compared 77 = .ok (.if_icmp .ne 17, 3) := by decide +kernel
theorem dX11_compared_80 : decode cX11_compared 80 = .ok (.lload_n 1, 1) := by decide +kernel
theorem dX11_compared_81 : decode cX11_compared 81 = .ok (.lload_n 3, 1) := by decide +kernel
theorem dX11_compared_82 : decode cX11_compared 82 = .ok (.lcmp, 1) := by decide +kernel
theorem dX11_compared_83 : decode cX11_compared 83 = .ok (.ifCond .gt 7, 3) := by decide +kernel
theorem dX11_compared_86 : decode cX11_compared 86 = .ok (.iconst 1, 1) := by decide +kernel
theorem dX11_compared_87 : decode cX11_compared 87 = .ok (.goto 18, 3) := by decide +kernel
theorem dX11_compared_90 : decode cX11_compared 90 = .ok (.iconst 0, 1) := by decide +kernel
theorem dX11_compared_91 : decode cX11_compared 91 = .ok (.goto 14, 3) := by decide +kernel
theorem dX11_compared_94 : decode cX11_compared 94 = .ok (.lload_n 1, 1) := by decide +kernel
theorem dX11_compared_95 : decode cX11_compared 95 = .ok (.lload_n 3, 1) := by decide +kernel
theorem dX11_compared_96 : decode cX11_compared 96 = .ok (.lcmp, 1) := by decide +kernel
theorem dX11_compared_97 : decode cX11_compared 97 = .ok (.ifCond .lt 7, 3) := by decide +kernel
theorem dX11_compared_100 : decode cX11_compared 100 = .ok (.iconst 1, 1) := by decide +kernel
theorem dX11_compared_101 : decode cX11_compared 101 = .ok (.goto 4, 3) := by decide +kernel
theorem dX11_compared_104 : decode cX11_compared 104 = .ok (.iconst 0, 1) := by decide +kernel
theorem dX11_compared_105 : decode cX11_compared 105 = .ok (.ireturn, 1) := by decide +kernel
theorem dX11_lastHolding_0 : decode cX11_lastHolding 0 = .ok (.iconst (-1), 1) := by decide +kernel
theorem dX11_lastHolding_1 : decode cX11_lastHolding 1 = .ok (.istore_n 3, 1) := by decide +kernel
theorem dX11_lastHolding_2 : decode cX11_lastHolding 2 = .ok (.iconst 0, 1) := by decide +kernel
theorem dX11_lastHolding_3 : decode cX11_lastHolding 3 = .ok (.istore 4, 2) := by decide +kernel
theorem dX11_lastHolding_5 : decode cX11_lastHolding 5 = .ok (.iload 4, 2) := by decide +kernel
theorem dX11_lastHolding_7 : decode cX11_lastHolding 7 = .ok (.iload_n 2, 1) := by decide +kernel
theorem dX11_lastHolding_8 : decode cX11_lastHolding 8 = .ok (.if_icmp .gt 22, 3) := by decide +kernel
theorem dX11_lastHolding_11 : decode cX11_lastHolding 11 = .ok (.aload_n 0, 1) := by decide +kernel
theorem dX11_lastHolding_12 : decode cX11_lastHolding 12 = .ok (.iload_n 1, 1) := by decide +kernel
theorem dX11_lastHolding_13 : decode cX11_lastHolding 13 = .ok (.iload 4, 2) := by decide +kernel
theorem dX11_lastHolding_15 : decode cX11_lastHolding 15 = .ok (.invokevirtual 407, 3) := by decide +kernel
theorem dX11_lastHolding_18 : decode cX11_lastHolding 18 = .ok (.ifCond .eq 6, 3) := by decide +kernel
theorem dX11_lastHolding_21 : decode cX11_lastHolding 21 = .ok (.iload 4, 2) := by decide +kernel
theorem dX11_lastHolding_23 : decode cX11_lastHolding 23 = .ok (.istore_n 3, 1) := by decide +kernel
theorem dX11_lastHolding_24 : decode cX11_lastHolding 24 = .ok (.iinc 4 1, 3) := by decide +kernel
theorem dX11_lastHolding_27 : decode cX11_lastHolding 27 = .ok (.goto (-22), 3) := by decide +kernel
theorem dX11_lastHolding_30 : decode cX11_lastHolding 30 = .ok (.iload_n 3, 1) := by decide +kernel
theorem dX11_lastHolding_31 : decode cX11_lastHolding 31 = .ok (.ireturn, 1) := by decide +kernel
theorem dX11_worth_0 : decode cX11_worth 0 = .ok (.aload_n 0, 1) := by decide +kernel
theorem dX11_worth_1 : decode cX11_worth 1 = .ok (.getfield 29, 3) := by decide +kernel
theorem dX11_worth_4 : decode cX11_worth 4 = .ok (.iload_n 1, 1) := by decide +kernel
theorem dX11_worth_5 : decode cX11_worth 5 = .ok (.iaload, 1) := by decide +kernel
theorem dX11_worth_6 : decode cX11_worth 6 = .ok (.istore_n 3, 1) := by decide +kernel
theorem dX11_worth_7 : decode cX11_worth 7 = .ok (.aload_n 0, 1) := by decide +kernel
theorem dX11_worth_8 : decode cX11_worth 8 = .ok (.getfield 26, 3) := by decide +kernel
theorem dX11_worth_11 : decode cX11_worth 11 = .ok (.iload_n 1, 1) := by decide +kernel
theorem dX11_worth_12 : decode cX11_worth 12 = .ok (.iaload, 1) := by decide +kernel
theorem dX11_worth_13 : decode cX11_worth 13 = .ok (.tableswitch 272 20 33 #[71, 74, 86, 93, 101, 104, 112, 129, 129, 129, 142, 175, 211, 242], 71) := by decide +kernel
theorem dX11_worth_84 : decode cX11_worth 84 = .ok (.iload_n 3, 1) := by decide +kernel
theorem dX11_worth_85 : decode cX11_worth 85 = .ok (.i2l, 1) := by decide +kernel
theorem dX11_worth_86 : decode cX11_worth 86 = .ok (.lreturn, 1) := by decide +kernel
theorem dX11_worth_87 : decode cX11_worth 87 = .ok (.aload_n 0, 1) := by decide +kernel
theorem dX11_worth_88 : decode cX11_worth 88 = .ok (.getfield 79, 3) := by decide +kernel
theorem dX11_worth_91 : decode cX11_worth 91 = .ok (.bipush 8, 2) := by decide +kernel
theorem dX11_worth_93 : decode cX11_worth 93 = .ok (.iload_n 2, 1) := by decide +kernel
theorem dX11_worth_94 : decode cX11_worth 94 = .ok (.imul, 1) := by decide +kernel
theorem dX11_worth_95 : decode cX11_worth 95 = .ok (.iload_n 3, 1) := by decide +kernel
theorem dX11_worth_96 : decode cX11_worth 96 = .ok (.iadd, 1) := by decide +kernel
theorem dX11_worth_97 : decode cX11_worth 97 = .ok (.laload, 1) := by decide +kernel
theorem dX11_worth_98 : decode cX11_worth 98 = .ok (.lreturn, 1) := by decide +kernel
theorem dX11_worth_99 : decode cX11_worth 99 = .ok (.aload_n 0, 1) := by decide +kernel
theorem dX11_worth_100 : decode cX11_worth 100 = .ok (.iload_n 3, 1) := by decide +kernel
theorem dX11_worth_101 : decode cX11_worth 101 = .ok (.iload_n 2, 1) := by decide +kernel
theorem dX11_worth_102 : decode cX11_worth 102 = .ok (.invokevirtual 393, 3) := by decide +kernel
theorem dX11_worth_105 : decode cX11_worth 105 = .ok (.lreturn, 1) := by decide +kernel
theorem dX11_worth_106 : decode cX11_worth 106 = .ok (.aload_n 0, 1) := by decide +kernel
theorem dX11_worth_107 : decode cX11_worth 107 = .ok (.getfield 76, 3) := by decide +kernel
theorem dX11_worth_110 : decode cX11_worth 110 = .ok (.iload_n 2, 1) := by decide +kernel
theorem dX11_worth_111 : decode cX11_worth 111 = .ok (.iaload, 1) := by decide +kernel
theorem dX11_worth_112 : decode cX11_worth 112 = .ok (.i2l, 1) := by decide +kernel
theorem dX11_worth_113 : decode cX11_worth 113 = .ok (.lreturn, 1) := by decide +kernel
theorem dX11_worth_114 : decode cX11_worth 114 = .ok (.iload_n 2, 1) := by decide +kernel
theorem dX11_worth_115 : decode cX11_worth 115 = .ok (.i2l, 1) := by decide +kernel
theorem dX11_worth_116 : decode cX11_worth 116 = .ok (.lreturn, 1) := by decide +kernel
theorem dX11_worth_117 : decode cX11_worth 117 = .ok (.aload_n 0, 1) := by decide +kernel
theorem dX11_worth_118 : decode cX11_worth 118 = .ok (.iload_n 3, 1) := by decide +kernel
theorem dX11_worth_119 : decode cX11_worth 119 = .ok (.iload_n 2, 1) := by decide +kernel
theorem dX11_worth_120 : decode cX11_worth 120 = .ok (.invokevirtual 393, 3) := by decide +kernel
theorem dX11_worth_123 : decode cX11_worth 123 = .ok (.lneg, 1) := by decide +kernel
theorem dX11_worth_124 : decode cX11_worth 124 = .ok (.lreturn, 1) := by decide +kernel
theorem dX11_worth_125 : decode cX11_worth 125 = .ok (.iload_n 2, 1) := by decide +kernel
theorem dX11_worth_126 : decode cX11_worth 126 = .ok (.ifCond .ne 7, 3) := by decide +kernel
theorem dX11_worth_129 : decode cX11_worth 129 = .ok (.lconst 0, 1) := by decide +kernel
theorem dX11_worth_130 : decode cX11_worth 130 = .ok (.goto 11, 3) := by decide +kernel
theorem dX11_worth_133 : decode cX11_worth 133 = .ok (.aload_n 0, 1) := by decide +kernel
theorem dX11_worth_134 : decode cX11_worth 134 = .ok (.iload_n 3, 1) := by decide +kernel
theorem dX11_worth_135 : decode cX11_worth 135 = .ok (.iload_n 2, 1) := by decide +kernel
theorem dX11_worth_136 : decode cX11_worth 136 = .ok (.iconst 1, 1) := by decide +kernel
theorem dX11_worth_137 : decode cX11_worth 137 = .ok (.isub, 1) := by decide +kernel
theorem dX11_worth_138 : decode cX11_worth 138 = .ok (.invokevirtual 393, 3) := by decide +kernel
theorem dX11_worth_141 : decode cX11_worth 141 = .ok (.lreturn, 1) := by decide +kernel
theorem dX11_worth_142 : decode cX11_worth 142 = .ok (.aload_n 0, 1) := by decide +kernel
theorem dX11_worth_143 : decode cX11_worth 143 = .ok (.aload_n 0, 1) := by decide +kernel
theorem dX11_worth_144 : decode cX11_worth 144 = .ok (.getfield 26, 3) := by decide +kernel
theorem dX11_worth_147 : decode cX11_worth 147 = .ok (.iload_n 1, 1) := by decide +kernel
theorem dX11_worth_148 : decode cX11_worth 148 = .ok (.iaload, 1) := by decide +kernel
theorem dX11_worth_149 : decode cX11_worth 149 = .ok (.iload_n 3, 1) := by decide +kernel
theorem dX11_worth_150 : decode cX11_worth 150 = .ok (.iload_n 2, 1) := by decide +kernel
theorem dX11_worth_151 : decode cX11_worth 151 = .ok (.invokevirtual 423, 3) := by decide +kernel
theorem dX11_worth_154 : decode cX11_worth 154 = .ok (.lreturn, 1) := by decide +kernel
theorem dX11_worth_155 : decode cX11_worth 155 = .ok (.lconst 0, 1) := by decide +kernel
theorem dX11_worth_156 : decode cX11_worth 156 = .ok (.lstore 4, 2) := by decide +kernel
theorem dX11_worth_158 : decode cX11_worth 158 = .ok (.iconst 0, 1) := by decide +kernel
theorem dX11_worth_159 : decode cX11_worth 159 = .ok (.istore 6, 2) := by decide +kernel
theorem dX11_worth_161 : decode cX11_worth 161 = .ok (.iload 6, 2) := by decide +kernel
theorem dX11_worth_163 : decode cX11_worth 163 = .ok (.iload_n 2, 1) := by decide +kernel
theorem dX11_worth_164 : decode cX11_worth 164 = .ok (.if_icmp .gt 21, 3) := by decide +kernel
theorem dX11_worth_167 : decode cX11_worth 167 = .ok (.lload 4, 2) := by decide +kernel
theorem dX11_worth_169 : decode cX11_worth 169 = .ok (.aload_n 0, 1) := by decide +kernel
theorem dX11_worth_170 : decode cX11_worth 170 = .ok (.iload_n 3, 1) := by decide +kernel
theorem dX11_worth_171 : decode cX11_worth 171 = .ok (.iload 6, 2) := by decide +kernel
theorem dX11_worth_173 : decode cX11_worth 173 = .ok (.invokevirtual 393, 3) := by decide +kernel
theorem dX11_worth_176 : decode cX11_worth 176 = .ok (.ladd, 1) := by decide +kernel
theorem dX11_worth_177 : decode cX11_worth 177 = .ok (.lstore 4, 2) := by decide +kernel
theorem dX11_worth_179 : decode cX11_worth 179 = .ok (.iinc 6 1, 3) := by decide +kernel
theorem dX11_worth_182 : decode cX11_worth 182 = .ok (.goto (-21), 3) := by decide +kernel
theorem dX11_worth_185 : decode cX11_worth 185 = .ok (.lload 4, 2) := by decide +kernel
theorem dX11_worth_187 : decode cX11_worth 187 = .ok (.lreturn, 1) := by decide +kernel
theorem dX11_worth_188 : decode cX11_worth 188 = .ok (.aload_n 0, 1) := by decide +kernel
theorem dX11_worth_189 : decode cX11_worth 189 = .ok (.iload_n 3, 1) := by decide +kernel
theorem dX11_worth_190 : decode cX11_worth 190 = .ok (.iload_n 2, 1) := by decide +kernel
theorem dX11_worth_191 : decode cX11_worth 191 = .ok (.invokevirtual 427, 3) := by decide +kernel
theorem dX11_worth_194 : decode cX11_worth 194 = .ok (.iconst (-1), 1) := by decide +kernel
theorem dX11_worth_195 : decode cX11_worth 195 = .ok (.if_icmp .ne 9, 3) := by decide +kernel
theorem dX11_worth_198 : decode cX11_worth 198 = .ok (.ldc2_w 430, 3) := by decide +kernel
theorem dX11_worth_201 : decode cX11_worth 201 = .ok (.goto 22, 3) := by decide +kernel
theorem dX11_worth_204 : decode cX11_worth 204 = .ok (.aload_n 0, 1) := by decide +kernel
theorem dX11_worth_205 : decode cX11_worth 205 = .ok (.getfield 76, 3) := by decide +kernel
theorem dX11_worth_208 : decode cX11_worth 208 = .ok (.iload_n 2, 1) := by decide +kernel
theorem dX11_worth_209 : decode cX11_worth 209 = .ok (.iaload, 1) := by decide +kernel
theorem dX11_worth_210 : decode cX11_worth 210 = .ok (.aload_n 0, 1) := by decide +kernel
theorem dX11_worth_211 : decode cX11_worth 211 = .ok (.getfield 76, 3) := by decide +kernel
theorem dX11_worth_214 : decode cX11_worth 214 = .ok (.aload_n 0, 1) := by decide +kernel
theorem dX11_worth_215 : decode cX11_worth 215 = .ok (.iload_n 3, 1) := by decide +kernel
theorem dX11_worth_216 : decode cX11_worth 216 = .ok (.iload_n 2, 1) := by decide +kernel
theorem dX11_worth_217 : decode cX11_worth 217 = .ok (.invokevirtual 427, 3) := by decide +kernel
theorem dX11_worth_220 : decode cX11_worth 220 = .ok (.iaload, 1) := by decide +kernel
theorem dX11_worth_221 : decode cX11_worth 221 = .ok (.isub, 1) := by decide +kernel
theorem dX11_worth_222 : decode cX11_worth 222 = .ok (.i2l, 1) := by decide +kernel
theorem dX11_worth_223 : decode cX11_worth 223 = .ok (.lreturn, 1) := by decide +kernel
theorem dX11_worth_224 : decode cX11_worth 224 = .ok (.aload_n 0, 1) := by decide +kernel
theorem dX11_worth_225 : decode cX11_worth 225 = .ok (.iload_n 3, 1) := by decide +kernel
theorem dX11_worth_226 : decode cX11_worth 226 = .ok (.iload_n 2, 1) := by decide +kernel
theorem dX11_worth_227 : decode cX11_worth 227 = .ok (.invokevirtual 427, 3) := by decide +kernel
theorem dX11_worth_230 : decode cX11_worth 230 = .ok (.iconst (-1), 1) := by decide +kernel
theorem dX11_worth_231 : decode cX11_worth 231 = .ok (.if_icmp .ne 7, 3) := by decide +kernel
theorem dX11_worth_234 : decode cX11_worth 234 = .ok (.lconst 0, 1) := by decide +kernel
theorem dX11_worth_235 : decode cX11_worth 235 = .ok (.goto 19, 3) := by decide +kernel
theorem dX11_worth_238 : decode cX11_worth 238 = .ok (.aload_n 0, 1) := by decide +kernel
theorem dX11_worth_239 : decode cX11_worth 239 = .ok (.aload_n 0, 1) := by decide +kernel
theorem dX11_worth_240 : decode cX11_worth 240 = .ok (.getfield 32, 3) := by decide +kernel
theorem dX11_worth_243 : decode cX11_worth 243 = .ok (.iload_n 1, 1) := by decide +kernel
theorem dX11_worth_244 : decode cX11_worth 244 = .ok (.iaload, 1) := by decide +kernel
theorem dX11_worth_245 : decode cX11_worth 245 = .ok (.aload_n 0, 1) := by decide +kernel
theorem dX11_worth_246 : decode cX11_worth 246 = .ok (.iload_n 3, 1) := by decide +kernel
theorem dX11_worth_247 : decode cX11_worth 247 = .ok (.iload_n 2, 1) := by decide +kernel
theorem dX11_worth_248 : decode cX11_worth 248 = .ok (.invokevirtual 427, 3) := by decide +kernel
theorem dX11_worth_251 : decode cX11_worth 251 = .ok (.invokevirtual 393, 3) := by decide +kernel
theorem dX11_worth_254 : decode cX11_worth 254 = .ok (.lreturn, 1) := by decide +kernel
theorem dX11_worth_255 : decode cX11_worth 255 = .ok (.aload_n 0, 1) := by decide +kernel
theorem dX11_worth_256 : decode cX11_worth 256 = .ok (.aload_n 0, 1) := by decide +kernel
theorem dX11_worth_257 : decode cX11_worth 257 = .ok (.iload_n 3, 1) := by decide +kernel
theorem dX11_worth_258 : decode cX11_worth 258 = .ok (.iload_n 2, 1) := by decide +kernel
theorem dX11_worth_259 : decode cX11_worth 259 = .ok (.invokevirtual 407, 3) := by decide +kernel
theorem dX11_worth_262 : decode cX11_worth 262 = .ok (.ifCond .eq 12, 3) := by decide +kernel
theorem dX11_worth_265 : decode cX11_worth 265 = .ok (.aload_n 0, 1) := by decide +kernel
theorem dX11_worth_266 : decode cX11_worth 266 = .ok (.getfield 32, 3) := by decide +kernel
theorem dX11_worth_269 : decode cX11_worth 269 = .ok (.iload_n 1, 1) := by decide +kernel
theorem dX11_worth_270 : decode cX11_worth 270 = .ok (.iaload, 1) := by decide +kernel
theorem dX11_worth_271 : decode cX11_worth 271 = .ok (.goto 9, 3) := by decide +kernel
theorem dX11_worth_274 : decode cX11_worth 274 = .ok (.aload_n 0, 1) := by decide +kernel
theorem dX11_worth_275 : decode cX11_worth 275 = .ok (.getfield 35, 3) := by decide +kernel
theorem dX11_worth_278 : decode cX11_worth 278 = .ok (.iload_n 1, 1) := by decide +kernel
theorem dX11_worth_279 : decode cX11_worth 279 = .ok (.iaload, 1) := by decide +kernel
theorem dX11_worth_280 : decode cX11_worth 280 = .ok (.iload_n 2, 1) := by decide +kernel
theorem dX11_worth_281 : decode cX11_worth 281 = .ok (.invokevirtual 393, 3) := by decide +kernel
theorem dX11_worth_284 : decode cX11_worth 284 = .ok (.lreturn, 1) := by decide +kernel
theorem dX11_worth_285 : decode cX11_worth 285 = .ok (.aload_n 0, 1) := by decide +kernel
theorem dX11_worth_286 : decode cX11_worth 286 = .ok (.getfield 35, 3) := by decide +kernel
theorem dX11_worth_289 : decode cX11_worth 289 = .ok (.iload_n 1, 1) := by decide +kernel
theorem dX11_worth_290 : decode cX11_worth 290 = .ok (.iaload, 1) := by decide +kernel
theorem dX11_worth_291 : decode cX11_worth 291 = .ok (.aload_n 0, 1) := by decide +kernel
theorem dX11_worth_292 : decode cX11_worth 292 = .ok (.iload_n 3, 1) := by decide +kernel
theorem dX11_worth_293 : decode cX11_worth 293 = .ok (.iload_n 2, 1) := by decide +kernel
theorem dX11_worth_294 : decode cX11_worth 294 = .ok (.invokevirtual 393, 3) := by decide +kernel
theorem dX11_worth_297 : decode cX11_worth 297 = .ok (.aload_n 0, 1) := by decide +kernel
theorem dX11_worth_298 : decode cX11_worth 298 = .ok (.aload_n 0, 1) := by decide +kernel
theorem dX11_worth_299 : decode cX11_worth 299 = .ok (.getfield 32, 3) := by decide +kernel
theorem dX11_worth_302 : decode cX11_worth 302 = .ok (.iload_n 1, 1) := by decide +kernel
theorem dX11_worth_303 : decode cX11_worth 303 = .ok (.iaload, 1) := by decide +kernel
theorem dX11_worth_304 : decode cX11_worth 304 = .ok (.iload_n 2, 1) := by decide +kernel
theorem dX11_worth_305 : decode cX11_worth 305 = .ok (.invokevirtual 393, 3) := by decide +kernel
theorem dX11_worth_308 : decode cX11_worth 308 = .ok (.invokestatic 432, 3) := by decide +kernel
theorem dX11_worth_311 : decode cX11_worth 311 = .ok (.lreturn, 1) := by decide +kernel
theorem dX11_overAll_0 : decode cX11_overAll 0 = .ok (.aload_n 0, 1) := by decide +kernel
theorem dX11_overAll_1 : decode cX11_overAll 1 = .ok (.iload_n 2, 1) := by decide +kernel
theorem dX11_overAll_2 : decode cX11_overAll 2 = .ok (.iconst 0, 1) := by decide +kernel
theorem dX11_overAll_3 : decode cX11_overAll 3 = .ok (.invokevirtual 393, 3) := by decide +kernel
theorem dX11_overAll_6 : decode cX11_overAll 6 = .ok (.lstore 4, 2) := by decide +kernel
theorem dX11_overAll_8 : decode cX11_overAll 8 = .ok (.iconst 1, 1) := by decide +kernel
theorem dX11_overAll_9 : decode cX11_overAll 9 = .ok (.istore 6, 2) := by decide +kernel
theorem dX11_overAll_11 : decode cX11_overAll 11 = .ok (.iload 6, 2) := by decide +kernel
theorem dX11_overAll_13 : decode cX11_overAll 13 = .ok (.iload_n 3, 1) := by decide +kernel
theorem dX11_overAll_14 : decode cX11_overAll 14 = .ok (.if_icmp .gt 63, 3) := by decide +kernel
theorem dX11_overAll_17 : decode cX11_overAll 17 = .ok (.iload_n 1, 1) := by decide +kernel
theorem dX11_overAll_18 : decode cX11_overAll 18 = .ok (.bipush 27, 2) := by decide +kernel
theorem dX11_overAll_20 : decode cX11_overAll 20 = .ok (.if_icmp .ne 18, 3) := by decide +kernel
theorem dX11_overAll_23 : decode cX11_overAll 23 = .ok (.lload 4, 2) := by decide +kernel
theorem dX11_overAll_25 : decode cX11_overAll 25 = .ok (.aload_n 0, 1) := by decide +kernel
theorem dX11_overAll_26 : decode cX11_overAll 26 = .ok (.iload_n 2, 1) := by decide +kernel
theorem dX11_overAll_27 : decode cX11_overAll 27 = .ok (.iload 6, 2) := by decide +kernel
theorem dX11_overAll_29 : decode cX11_overAll 29 = .ok (.invokevirtual 393, 3) := by decide +kernel
theorem dX11_overAll_32 : decode cX11_overAll 32 = .ok (.invokestatic 436, 3) := by decide +kernel
theorem dX11_overAll_35 : decode cX11_overAll 35 = .ok (.goto 34, 3) := by decide +kernel
theorem dX11_overAll_38 : decode cX11_overAll 38 = .ok (.iload_n 1, 1) := by decide +kernel
theorem dX11_overAll_39 : decode cX11_overAll 39 = .ok (.bipush 28, 2) := by decide +kernel
theorem dX11_overAll_41 : decode cX11_overAll 41 = .ok (.if_icmp .ne 18, 3) := by decide +kernel
theorem dX11_overAll_44 : decode cX11_overAll 44 = .ok (.lload 4, 2) := by decide +kernel
theorem dX11_overAll_46 : decode cX11_overAll 46 = .ok (.aload_n 0, 1) := by decide +kernel
theorem dX11_overAll_47 : decode cX11_overAll 47 = .ok (.iload_n 2, 1) := by decide +kernel
theorem dX11_overAll_48 : decode cX11_overAll 48 = .ok (.iload 6, 2) := by decide +kernel
theorem dX11_overAll_50 : decode cX11_overAll 50 = .ok (.invokevirtual 393, 3) := by decide +kernel
theorem dX11_overAll_53 : decode cX11_overAll 53 = .ok (.invokestatic 439, 3) := by decide +kernel
theorem dX11_overAll_56 : decode cX11_overAll 56 = .ok (.goto 13, 3) := by decide +kernel
theorem dX11_overAll_59 : decode cX11_overAll 59 = .ok (.lload 4, 2) := by decide +kernel
theorem dX11_overAll_61 : decode cX11_overAll 61 = .ok (.aload_n 0, 1) := by decide +kernel
theorem dX11_overAll_62 : decode cX11_overAll 62 = .ok (.iload_n 2, 1) := by decide +kernel
theorem dX11_overAll_63 : decode cX11_overAll 63 = .ok (.iload 6, 2) := by decide +kernel
theorem dX11_overAll_65 : decode cX11_overAll 65 = .ok (.invokevirtual 393, 3) := by decide +kernel
theorem dX11_overAll_68 : decode cX11_overAll 68 = .ok (.ladd, 1) := by decide +kernel
theorem dX11_overAll_69 : decode cX11_overAll 69 = .ok (.lstore 4, 2) := by decide +kernel
theorem dX11_overAll_71 : decode cX11_overAll 71 = .ok (.iinc 6 1, 3) := by decide +kernel
theorem dX11_overAll_74 : decode cX11_overAll 74 = .ok (.goto (-63), 3) := by decide +kernel
theorem dX11_overAll_77 : decode cX11_overAll 77 = .ok (.lload 4, 2) := by decide +kernel
theorem dX11_overAll_79 : decode cX11_overAll 79 = .ok (.lreturn, 1) := by decide +kernel
theorem dX11_both_0 : decode cX11_both 0 = .ok (.iload_n 0, 1) := by decide +kernel
theorem dX11_both_1 : decode cX11_both 1 = .ok (.iconst 2, 1) := by decide +kernel
theorem dX11_both_2 : decode cX11_both 2 = .ok (.if_icmp .le 11, 3) := by decide +kernel
theorem dX11_both_5 : decode cX11_both 5 = .ok (.lload_n 3, 1) := by decide +kernel
theorem dX11_both_6 : decode cX11_both 6 = .ok (.lconst 0, 1) := by decide +kernel
theorem dX11_both_7 : decode cX11_both 7 = .ok (.lcmp, 1) := by decide +kernel
theorem dX11_both_8 : decode cX11_both 8 = .ok (.ifCond .ne 5, 3) := by decide +kernel
theorem dX11_both_11 : decode cX11_both 11 = .ok (.lconst 0, 1) := by decide +kernel
theorem dX11_both_12 : decode cX11_both 12 = .ok (.lreturn, 1) := by decide +kernel
theorem dX11_both_13 : decode cX11_both 13 = .ok (.iload_n 0, 1) := by decide +kernel
theorem dX11_both_14 : decode cX11_both 14 = .ok (.ifCond .ne 9, 3) := by decide +kernel
theorem dX11_both_17 : decode cX11_both 17 = .ok (.lload_n 1, 1) := by decide +kernel
theorem dX11_both_18 : decode cX11_both 18 = .ok (.lload_n 3, 1) := by decide +kernel
theorem dX11_both_19 : decode cX11_both 19 = .ok (.ladd, 1) := by decide +kernel
theorem dX11_both_20 : decode cX11_both 20 = .ok (.goto 39, 3) := by decide +kernel
theorem dX11_both_23 : decode cX11_both 23 = .ok (.iload_n 0, 1) := by decide +kernel
theorem dX11_both_24 : decode cX11_both 24 = .ok (.iconst 1, 1) := by decide +kernel
theorem dX11_both_25 : decode cX11_both 25 = .ok (.if_icmp .ne 9, 3) := by decide +kernel
theorem dX11_both_28 : decode cX11_both 28 = .ok (.lload_n 1, 1) := by decide +kernel
theorem dX11_both_29 : decode cX11_both 29 = .ok (.lload_n 3, 1) := by decide +kernel
theorem dX11_both_30 : decode cX11_both 30 = .ok (.lsub, 1) := by decide +kernel
theorem dX11_both_31 : decode cX11_both 31 = .ok (.goto 28, 3) := by decide +kernel
theorem dX11_both_34 : decode cX11_both 34 = .ok (.iload_n 0, 1) := by decide +kernel
theorem dX11_both_35 : decode cX11_both 35 = .ok (.iconst 2, 1) := by decide +kernel
theorem dX11_both_36 : decode cX11_both 36 = .ok (.if_icmp .ne 9, 3) := by decide +kernel
theorem dX11_both_39 : decode cX11_both 39 = .ok (.lload_n 1, 1) := by decide +kernel
theorem dX11_both_40 : decode cX11_both 40 = .ok (.lload_n 3, 1) := by decide +kernel
theorem dX11_both_41 : decode cX11_both 41 = .ok (.lmul, 1) := by decide +kernel
theorem dX11_both_42 : decode cX11_both 42 = .ok (.goto 17, 3) := by decide +kernel
theorem dX11_both_45 : decode cX11_both 45 = .ok (.iload_n 0, 1) := by decide +kernel
theorem dX11_both_46 : decode cX11_both 46 = .ok (.iconst 3, 1) := by decide +kernel
theorem dX11_both_47 : decode cX11_both 47 = .ok (.if_icmp .ne 9, 3) := by decide +kernel
theorem dX11_both_50 : decode cX11_both 50 = .ok (.lload_n 1, 1) := by decide +kernel
theorem dX11_both_51 : decode cX11_both 51 = .ok (.lload_n 3, 1) := by decide +kernel
theorem dX11_both_52 : decode cX11_both 52 = .ok (.ldiv, 1) := by decide +kernel
theorem dX11_both_53 : decode cX11_both 53 = .ok (.goto 6, 3) := by decide +kernel
theorem dX11_both_56 : decode cX11_both 56 = .ok (.lload_n 1, 1) := by decide +kernel
theorem dX11_both_57 : decode cX11_both 57 = .ok (.lload_n 3, 1) := by decide +kernel
theorem dX11_both_58 : decode cX11_both 58 = .ok (.lrem, 1) := by decide +kernel
theorem dX11_both_59 : decode cX11_both 59 = .ok (.lreturn, 1) := by decide +kernel
theorem dX11_set_0 : decode cX11_set 0 = .ok (.aload_n 0, 1) := by decide +kernel
theorem dX11_set_1 : decode cX11_set 1 = .ok (.iload_n 1, 1) := by decide +kernel
theorem dX11_set_2 : decode cX11_set 2 = .ok (.iconst 0, 1) := by decide +kernel
theorem dX11_set_3 : decode cX11_set 3 = .ok (.aload_n 0, 1) := by decide +kernel
theorem dX11_set_4 : decode cX11_set 4 = .ok (.getfield 61, 3) := by decide +kernel
theorem dX11_set_7 : decode cX11_set 7 = .ok (.iconst 0, 1) := by decide +kernel
theorem dX11_set_8 : decode cX11_set 8 = .ok (.iaload, 1) := by decide +kernel
theorem dX11_set_9 : decode cX11_set 9 = .ok (.iconst 1, 1) := by decide +kernel
theorem dX11_set_10 : decode cX11_set 10 = .ok (.isub, 1) := by decide +kernel
theorem dX11_set_11 : decode cX11_set 11 = .ok (.invokestatic 101, 3) := by decide +kernel
theorem dX11_set_14 : decode cX11_set 14 = .ok (.ifCond .eq 7, 3) := by decide +kernel
theorem dX11_set_17 : decode cX11_set 17 = .ok (.iconst 0, 1) := by decide +kernel
theorem dX11_set_18 : decode cX11_set 18 = .ok (.goto 4, 3) := by decide +kernel
theorem dX11_set_21 : decode cX11_set 21 = .ok (.iconst 1, 1) := by decide +kernel
theorem dX11_set_22 : decode cX11_set 22 = .ok (.putfield 91, 3) := by decide +kernel
theorem dX11_set_25 : decode cX11_set 25 = .ok (.aload_n 0, 1) := by decide +kernel
theorem dX11_set_26 : decode cX11_set 26 = .ok (.getfield 91, 3) := by decide +kernel
theorem dX11_set_29 : decode cX11_set 29 = .ok (.ifCond .eq 5, 3) := by decide +kernel
theorem dX11_set_32 : decode cX11_set 32 = .ok (.lconst 0, 1) := by decide +kernel
theorem dX11_set_33 : decode cX11_set 33 = .ok (.lreturn, 1) := by decide +kernel
theorem dX11_set_34 : decode cX11_set 34 = .ok (.aload_n 0, 1) := by decide +kernel
theorem dX11_set_35 : decode cX11_set 35 = .ok (.getfield 82, 3) := by decide +kernel
theorem dX11_set_38 : decode cX11_set 38 = .ok (.iload_n 1, 1) := by decide +kernel
theorem dX11_set_39 : decode cX11_set 39 = .ok (.laload, 1) := by decide +kernel
theorem dX11_set_40 : decode cX11_set 40 = .ok (.lstore 4, 2) := by decide +kernel
theorem dX11_set_42 : decode cX11_set 42 = .ok (.aload_n 0, 1) := by decide +kernel
theorem dX11_set_43 : decode cX11_set 43 = .ok (.getfield 82, 3) := by decide +kernel
theorem dX11_set_46 : decode cX11_set 46 = .ok (.iload_n 1, 1) := by decide +kernel
theorem dX11_set_47 : decode cX11_set 47 = .ok (.lload_n 2, 1) := by decide +kernel
theorem dX11_set_48 : decode cX11_set 48 = .ok (.lastore, 1) := by decide +kernel
theorem dX11_set_49 : decode cX11_set 49 = .ok (.lload 4, 2) := by decide +kernel
theorem dX11_set_51 : decode cX11_set 51 = .ok (.lreturn, 1) := by decide +kernel
theorem dX11_watches_0 : decode cX11_watches 0 = .ok (.aload_n 0, 1) := by decide +kernel
theorem dX11_watches_1 : decode cX11_watches 1 = .ok (.aload_n 0, 1) := by decide +kernel
theorem dX11_watches_2 : decode cX11_watches 2 = .ok (.getfield 67, 3) := by decide +kernel
theorem dX11_watches_5 : decode cX11_watches 5 = .ok (.bipush 36, 2) := by decide +kernel
theorem dX11_watches_7 : decode cX11_watches 7 = .ok (.iload_n 1, 1) := by decide +kernel
theorem dX11_watches_8 : decode cX11_watches 8 = .ok (.iadd, 1) := by decide +kernel
theorem dX11_watches_9 : decode cX11_watches 9 = .ok (.iaload, 1) := by decide +kernel
theorem dX11_watches_10 : decode cX11_watches 10 = .ok (.iload_n 2, 1) := by decide +kernel
theorem dX11_watches_11 : decode cX11_watches 11 = .ok (.invokevirtual 407, 3) := by decide +kernel
theorem dX11_watches_14 : decode cX11_watches 14 = .ok (.ireturn, 1) := by decide +kernel
theorem dX11_step_0 : decode cX11_step 0 = .ok (.aload_n 0, 1) := by decide +kernel
theorem dX11_step_1 : decode cX11_step 1 = .ok (.getfield 76, 3) := by decide +kernel
theorem dX11_step_4 : decode cX11_step 4 = .ok (.aload_n 0, 1) := by decide +kernel
theorem dX11_step_5 : decode cX11_step 5 = .ok (.getfield 369, 3) := by decide +kernel
theorem dX11_step_8 : decode cX11_step 8 = .ok (.iload_n 1, 1) := by decide +kernel
theorem dX11_step_9 : decode cX11_step 9 = .ok (.iastore, 1) := by decide +kernel
theorem dX11_step_10 : decode cX11_step 10 = .ok (.iconst 0, 1) := by decide +kernel
theorem dX11_step_11 : decode cX11_step 11 = .ok (.istore_n 2, 1) := by decide +kernel
theorem dX11_step_12 : decode cX11_step 12 = .ok (.iload_n 2, 1) := by decide +kernel
theorem dX11_step_13 : decode cX11_step 13 = .ok (.aload_n 0, 1) := by decide +kernel
theorem dX11_step_14 : decode cX11_step 14 = .ok (.getfield 61, 3) := by decide +kernel
theorem dX11_step_17 : decode cX11_step 17 = .ok (.iconst 0, 1) := by decide +kernel
theorem dX11_step_18 : decode cX11_step 18 = .ok (.iaload, 1) := by decide +kernel
theorem dX11_step_19 : decode cX11_step 19 = .ok (.if_icmp .ge 29, 3) := by decide +kernel
theorem dX11_step_22 : decode cX11_step 22 = .ok (.aload_n 0, 1) := by decide +kernel
theorem dX11_step_23 : decode cX11_step 23 = .ok (.getfield 79, 3) := by decide +kernel
theorem dX11_step_26 : decode cX11_step 26 = .ok (.bipush 8, 2) := by decide +kernel
theorem dX11_step_28 : decode cX11_step 28 = .ok (.aload_n 0, 1) := by decide +kernel
theorem dX11_step_29 : decode cX11_step 29 = .ok (.getfield 369, 3) := by decide +kernel
theorem dX11_step_32 : decode cX11_step 32 = .ok (.imul, 1) := by decide +kernel
theorem dX11_step_33 : decode cX11_step 33 = .ok (.iload_n 2, 1) := by decide +kernel
theorem dX11_step_34 : decode cX11_step 34 = .ok (.iadd, 1) := by decide +kernel
theorem dX11_step_35 : decode cX11_step 35 = .ok (.aload_n 0, 1) := by decide +kernel
theorem dX11_step_36 : decode cX11_step 36 = .ok (.getfield 82, 3) := by decide +kernel
theorem dX11_step_39 : decode cX11_step 39 = .ok (.iload_n 2, 1) := by decide +kernel
theorem dX11_step_40 : decode cX11_step 40 = .ok (.laload, 1) := by decide +kernel
theorem dX11_step_41 : decode cX11_step 41 = .ok (.lastore, 1) := by decide +kernel
theorem dX11_step_42 : decode cX11_step 42 = .ok (.iinc 2 1, 3) := by decide +kernel
theorem dX11_step_45 : decode cX11_step 45 = .ok (.goto (-33), 3) := by decide +kernel
theorem dX11_step_48 : decode cX11_step 48 = .ok (.aload_n 0, 1) := by decide +kernel
theorem dX11_step_49 : decode cX11_step 49 = .ok (.iconst 0, 1) := by decide +kernel
theorem dX11_step_50 : decode cX11_step 50 = .ok (.aload_n 0, 1) := by decide +kernel
theorem dX11_step_51 : decode cX11_step 51 = .ok (.getfield 366, 3) := by decide +kernel
theorem dX11_step_54 : decode cX11_step 54 = .ok (.aload_n 0, 1) := by decide +kernel
theorem dX11_step_55 : decode cX11_step 55 = .ok (.getfield 369, 3) := by decide +kernel
theorem dX11_step_58 : decode cX11_step 58 = .ok (.invokevirtual 442, 3) := by decide +kernel
theorem dX11_step_61 : decode cX11_step 61 = .ok (.iconst 0, 1) := by decide +kernel
theorem dX11_step_62 : decode cX11_step 62 = .ok (.istore_n 2, 1) := by decide +kernel
theorem dX11_step_63 : decode cX11_step 63 = .ok (.iconst 0, 1) := by decide +kernel
theorem dX11_step_64 : decode cX11_step 64 = .ok (.istore_n 3, 1) := by decide +kernel
theorem dX11_step_65 : decode cX11_step 65 = .ok (.iload_n 3, 1) := by decide +kernel
theorem dX11_step_66 : decode cX11_step 66 = .ok (.aload_n 0, 1) := by decide +kernel
theorem dX11_step_67 : decode cX11_step 67 = .ok (.getfield 61, 3) := by decide +kernel
theorem dX11_step_70 : decode cX11_step 70 = .ok (.iconst 3, 1) := by decide +kernel
theorem dX11_step_71 : decode cX11_step 71 = .ok (.iaload, 1) := by decide +kernel
theorem dX11_step_72 : decode cX11_step 72 = .ok (.if_icmp .ge 29, 3) := by decide +kernel
theorem dX11_step_75 : decode cX11_step 75 = .ok (.iload_n 2, 1) := by decide +kernel
theorem dX11_step_76 : decode cX11_step 76 = .ok (.aload_n 0, 1) := by decide +kernel
theorem dX11_step_77 : decode cX11_step 77 = .ok (.iload_n 3, 1) := by decide +kernel
theorem dX11_step_78 : decode cX11_step 78 = .ok (.aload_n 0, 1) := by decide +kernel
theorem dX11_step_79 : decode cX11_step 79 = .ok (.getfield 369, 3) := by decide +kernel
theorem dX11_step_82 : decode cX11_step 82 = .ok (.invokevirtual 446, 3) := by decide +kernel
theorem dX11_step_85 : decode cX11_step 85 = .ok (.ifCond .eq 7, 3) := by decide +kernel
theorem dX11_step_88 : decode cX11_step 88 = .ok (.iconst 0, 1) := by decide +kernel
theorem dX11_step_89 : decode cX11_step 89 = .ok (.goto 4, 3) := by decide +kernel
theorem dX11_step_92 : decode cX11_step 92 = .ok (.iconst 1, 1) := by decide +kernel
theorem dX11_step_93 : decode cX11_step 93 = .ok (.iadd, 1) := by decide +kernel
theorem dX11_step_94 : decode cX11_step 94 = .ok (.istore_n 2, 1) := by decide +kernel
theorem dX11_step_95 : decode cX11_step 95 = .ok (.iinc 3 1, 3) := by decide +kernel
theorem dX11_step_98 : decode cX11_step 98 = .ok (.goto (-33), 3) := by decide +kernel
theorem dX11_step_101 : decode cX11_step 101 = .ok (.aload_n 0, 1) := by decide +kernel
theorem dX11_step_102 : decode cX11_step 102 = .ok (.dup, 1) := by decide +kernel
theorem dX11_step_103 : decode cX11_step 103 = .ok (.getfield 369, 3) := by decide +kernel
theorem dX11_step_106 : decode cX11_step 106 = .ok (.iconst 1, 1) := by decide +kernel
theorem dX11_step_107 : decode cX11_step 107 = .ok (.iadd, 1) := by decide +kernel
theorem dX11_step_108 : decode cX11_step 108 = .ok (.putfield 369, 3) := by decide +kernel
theorem dX11_step_111 : decode cX11_step 111 = .ok (.iload_n 2, 1) := by decide +kernel
theorem dX11_step_112 : decode cX11_step 112 = .ok (.ireturn, 1) := by decide +kernel
theorem dX11_tick_0 : decode cX11_tick 0 = .ok (.aload_n 0, 1) := by decide +kernel
theorem dX11_tick_1 : decode cX11_tick 1 = .ok (.iconst 0, 1) := by decide +kernel
theorem dX11_tick_2 : decode cX11_tick 2 = .ok (.putfield 91, 3) := by decide +kernel
theorem dX11_tick_5 : decode cX11_tick 5 = .ok (.iload_n 1, 1) := by decide +kernel
theorem dX11_tick_6 : decode cX11_tick 6 = .ok (.iconst 0, 1) := by decide +kernel
theorem dX11_tick_7 : decode cX11_tick 7 = .ok (.sipush 1000, 3) := by decide +kernel
theorem dX11_tick_10 : decode cX11_tick 10 = .ok (.invokestatic 101, 3) := by decide +kernel
theorem dX11_tick_13 : decode cX11_tick 13 = .ok (.ifCond .ne 9, 3) := by decide +kernel
theorem dX11_tick_16 : decode cX11_tick 16 = .ok (.aload_n 0, 1) := by decide +kernel
theorem dX11_tick_17 : decode cX11_tick 17 = .ok (.iconst 1, 1) := by decide +kernel
theorem dX11_tick_18 : decode cX11_tick 18 = .ok (.invokevirtual 97, 3) := by decide +kernel
theorem dX11_tick_21 : decode cX11_tick 21 = .ok (.ireturn, 1) := by decide +kernel
theorem dX11_tick_22 : decode cX11_tick 22 = .ok (.aload_n 0, 1) := by decide +kernel
theorem dX11_tick_23 : decode cX11_tick 23 = .ok (.getfield 362, 3) := by decide +kernel
theorem dX11_tick_26 : decode cX11_tick 26 = .ok (.ifCond .eq 12, 3) := by decide +kernel
theorem dX11_tick_29 : decode cX11_tick 29 = .ok (.aload_n 0, 1) := by decide +kernel
theorem dX11_tick_30 : decode cX11_tick 30 = .ok (.getfield 369, 3) := by decide +kernel
theorem dX11_tick_33 : decode cX11_tick 33 = .ok (.bipush 120, 2) := by decide +kernel
theorem dX11_tick_35 : decode cX11_tick 35 = .ok (.if_icmp .ne 9, 3) := by decide +kernel
theorem dX11_tick_38 : decode cX11_tick 38 = .ok (.aload_n 0, 1) := by decide +kernel
theorem dX11_tick_39 : decode cX11_tick 39 = .ok (.iconst 2, 1) := by decide +kernel
theorem dX11_tick_40 : decode cX11_tick 40 = .ok (.invokevirtual 97, 3) := by decide +kernel
theorem dX11_tick_43 : decode cX11_tick 43 = .ok (.ireturn, 1) := by decide +kernel
theorem dX11_tick_44 : decode cX11_tick 44 = .ok (.aload_n 0, 1) := by decide +kernel
theorem dX11_tick_45 : decode cX11_tick 45 = .ok (.aload_n 0, 1) := by decide +kernel
theorem dX11_tick_46 : decode cX11_tick 46 = .ok (.getfield 369, 3) := by decide +kernel
theorem dX11_tick_49 : decode cX11_tick 49 = .ok (.ifCond .ne 7, 3) := by decide +kernel
theorem dX11_tick_52 : decode cX11_tick 52 = .ok (.iconst 0, 1) := by decide +kernel
theorem dX11_tick_53 : decode cX11_tick 53 = .ok (.goto 14, 3) := by decide +kernel
theorem dX11_tick_56 : decode cX11_tick 56 = .ok (.aload_n 0, 1) := by decide +kernel
theorem dX11_tick_57 : decode cX11_tick 57 = .ok (.getfield 76, 3) := by decide +kernel
theorem dX11_tick_60 : decode cX11_tick 60 = .ok (.aload_n 0, 1) := by decide +kernel
theorem dX11_tick_61 : decode cX11_tick 61 = .ok (.getfield 369, 3) := by decide +kernel
theorem dX11_tick_64 : decode cX11_tick 64 = .ok (.iconst 1, 1) := by decide +kernel
theorem dX11_tick_65 : decode cX11_tick 65 = .ok (.isub, 1) := by decide +kernel
theorem dX11_tick_66 : decode cX11_tick 66 = .ok (.iaload, 1) := by decide +kernel
theorem dX11_tick_67 : decode cX11_tick 67 = .ok (.iload_n 1, 1) := by decide +kernel
theorem dX11_tick_68 : decode cX11_tick 68 = .ok (.iadd, 1) := by decide +kernel
theorem dX11_tick_69 : decode cX11_tick 69 = .ok (.invokevirtual 449, 3) := by decide +kernel
theorem dX11_tick_72 : decode cX11_tick 72 = .ok (.ireturn, 1) := by decide +kernel
theorem dX11_back_0 : decode cX11_back 0 = .ok (.aload_n 0, 1) := by decide +kernel
theorem dX11_back_1 : decode cX11_back 1 = .ok (.iconst 0, 1) := by decide +kernel
theorem dX11_back_2 : decode cX11_back 2 = .ok (.putfield 91, 3) := by decide +kernel
theorem dX11_back_5 : decode cX11_back 5 = .ok (.iload_n 1, 1) := by decide +kernel
theorem dX11_back_6 : decode cX11_back 6 = .ok (.iconst 0, 1) := by decide +kernel
theorem dX11_back_7 : decode cX11_back 7 = .ok (.aload_n 0, 1) := by decide +kernel
theorem dX11_back_8 : decode cX11_back 8 = .ok (.getfield 369, 3) := by decide +kernel
theorem dX11_back_11 : decode cX11_back 11 = .ok (.invokestatic 101, 3) := by decide +kernel
theorem dX11_back_14 : decode cX11_back 14 = .ok (.ifCond .ne 9, 3) := by decide +kernel
theorem dX11_back_17 : decode cX11_back 17 = .ok (.aload_n 0, 1) := by decide +kernel
theorem dX11_back_18 : decode cX11_back 18 = .ok (.iconst 1, 1) := by decide +kernel
theorem dX11_back_19 : decode cX11_back 19 = .ok (.invokevirtual 97, 3) := by decide +kernel
theorem dX11_back_22 : decode cX11_back 22 = .ok (.ireturn, 1) := by decide +kernel
theorem dX11_back_23 : decode cX11_back 23 = .ok (.aload_n 0, 1) := by decide +kernel
theorem dX11_back_24 : decode cX11_back 24 = .ok (.iload_n 1, 1) := by decide +kernel
theorem dX11_back_25 : decode cX11_back 25 = .ok (.putfield 369, 3) := by decide +kernel
theorem dX11_back_28 : decode cX11_back 28 = .ok (.iload_n 1, 1) := by decide +kernel
theorem dX11_back_29 : decode cX11_back 29 = .ok (.ifCond .ne 7, 3) := by decide +kernel
theorem dX11_back_32 : decode cX11_back 32 = .ok (.iconst 0, 1) := by decide +kernel
theorem dX11_back_33 : decode cX11_back 33 = .ok (.goto 11, 3) := by decide +kernel
theorem dX11_back_36 : decode cX11_back 36 = .ok (.aload_n 0, 1) := by decide +kernel
theorem dX11_back_37 : decode cX11_back 37 = .ok (.getfield 76, 3) := by decide +kernel
theorem dX11_back_40 : decode cX11_back 40 = .ok (.iload_n 1, 1) := by decide +kernel
theorem dX11_back_41 : decode cX11_back 41 = .ok (.iconst 1, 1) := by decide +kernel
theorem dX11_back_42 : decode cX11_back 42 = .ok (.isub, 1) := by decide +kernel
theorem dX11_back_43 : decode cX11_back 43 = .ok (.iaload, 1) := by decide +kernel
theorem dX11_back_44 : decode cX11_back 44 = .ok (.ireturn, 1) := by decide +kernel
theorem dX11_restart_0 : decode cX11_restart 0 = .ok (.aload_n 0, 1) := by decide +kernel
theorem dX11_restart_1 : decode cX11_restart 1 = .ok (.iconst 0, 1) := by decide +kernel
theorem dX11_restart_2 : decode cX11_restart 2 = .ok (.putfield 91, 3) := by decide +kernel
theorem dX11_restart_5 : decode cX11_restart 5 = .ok (.aload_n 0, 1) := by decide +kernel
theorem dX11_restart_6 : decode cX11_restart 6 = .ok (.getfield 362, 3) := by decide +kernel
theorem dX11_restart_9 : decode cX11_restart 9 = .ok (.ifCond .ne 9, 3) := by decide +kernel
theorem dX11_restart_12 : decode cX11_restart 12 = .ok (.aload_n 0, 1) := by decide +kernel
theorem dX11_restart_13 : decode cX11_restart 13 = .ok (.iconst 1, 1) := by decide +kernel
theorem dX11_restart_14 : decode cX11_restart 14 = .ok (.invokevirtual 97, 3) := by decide +kernel
theorem dX11_restart_17 : decode cX11_restart 17 = .ok (.ireturn, 1) := by decide +kernel
theorem dX11_restart_18 : decode cX11_restart 18 = .ok (.aload_n 0, 1) := by decide +kernel
theorem dX11_restart_19 : decode cX11_restart 19 = .ok (.invokevirtual 384, 3) := by decide +kernel
theorem dX11_restart_22 : decode cX11_restart 22 = .ok (.aload_n 0, 1) := by decide +kernel
theorem dX11_restart_23 : decode cX11_restart 23 = .ok (.getfield 61, 3) := by decide +kernel
theorem dX11_restart_26 : decode cX11_restart 26 = .ok (.iconst 3, 1) := by decide +kernel
theorem dX11_restart_27 : decode cX11_restart 27 = .ok (.iaload, 1) := by decide +kernel
theorem dX11_restart_28 : decode cX11_restart 28 = .ok (.ireturn, 1) := by decide +kernel
theorem dX11_keep_0 : decode cX11_keep 0 = .ok (.aload_n 0, 1) := by decide +kernel
theorem dX11_keep_1 : decode cX11_keep 1 = .ok (.iconst 0, 1) := by decide +kernel
theorem dX11_keep_2 : decode cX11_keep 2 = .ok (.putfield 91, 3) := by decide +kernel
theorem dX11_keep_5 : decode cX11_keep 5 = .ok (.aload_n 0, 1) := by decide +kernel
theorem dX11_keep_6 : decode cX11_keep 6 = .ok (.aload_n 0, 1) := by decide +kernel
theorem dX11_keep_7 : decode cX11_keep 7 = .ok (.getfield 369, 3) := by decide +kernel
theorem dX11_keep_10 : decode cX11_keep 10 = .ok (.putfield 387, 3) := by decide +kernel
theorem dX11_keep_13 : decode cX11_keep 13 = .ok (.aload_n 0, 1) := by decide +kernel
theorem dX11_keep_14 : decode cX11_keep 14 = .ok (.aload_n 0, 1) := by decide +kernel
theorem dX11_keep_15 : decode cX11_keep 15 = .ok (.getfield 61, 3) := by decide +kernel
theorem dX11_keep_18 : decode cX11_keep 18 = .ok (.iconst 0, 1) := by decide +kernel
theorem dX11_keep_19 : decode cX11_keep 19 = .ok (.iaload, 1) := by decide +kernel
theorem dX11_keep_20 : decode cX11_keep 20 = .ok (.putfield 451, 3) := by decide +kernel
theorem dX11_keep_23 : decode cX11_keep 23 = .ok (.aload_n 0, 1) := by decide +kernel
theorem dX11_keep_24 : decode cX11_keep 24 = .ok (.getfield 76, 3) := by decide +kernel
theorem dX11_keep_27 : decode cX11_keep 27 = .ok (.iconst 0, 1) := by decide +kernel
theorem dX11_keep_28 : decode cX11_keep 28 = .ok (.aload_n 0, 1) := by decide +kernel
theorem dX11_keep_29 : decode cX11_keep 29 = .ok (.getfield 85, 3) := by decide +kernel
theorem dX11_keep_32 : decode cX11_keep 32 = .ok (.iconst 0, 1) := by decide +kernel
theorem dX11_keep_33 : decode cX11_keep 33 = .ok (.bipush 120, 2) := by decide +kernel
theorem dX11_keep_35 : decode cX11_keep 35 = .ok (.invokestatic 454, 3) := by decide +kernel
theorem dX11_keep_38 : decode cX11_keep 38 = .ok (.aload_n 0, 1) := by decide +kernel
theorem dX11_keep_39 : decode cX11_keep 39 = .ok (.getfield 79, 3) := by decide +kernel
theorem dX11_keep_42 : decode cX11_keep 42 = .ok (.iconst 0, 1) := by decide +kernel
theorem dX11_keep_43 : decode cX11_keep 43 = .ok (.aload_n 0, 1) := by decide +kernel
theorem dX11_keep_44 : decode cX11_keep 44 = .ok (.getfield 88, 3) := by decide +kernel
theorem dX11_keep_47 : decode cX11_keep 47 = .ok (.iconst 0, 1) := by decide +kernel
theorem dX11_keep_48 : decode cX11_keep 48 = .ok (.sipush 960, 3) := by decide +kernel
theorem dX11_keep_51 : decode cX11_keep 51 = .ok (.invokestatic 454, 3) := by decide +kernel
theorem dX11_keep_54 : decode cX11_keep 54 = .ok (.aload_n 0, 1) := by decide +kernel
theorem dX11_keep_55 : decode cX11_keep 55 = .ok (.getfield 387, 3) := by decide +kernel
theorem dX11_keep_58 : decode cX11_keep 58 = .ok (.ireturn, 1) := by decide +kernel
theorem dX11_replay_0 : decode cX11_replay 0 = .ok (.aload_n 0, 1) := by decide +kernel
theorem dX11_replay_1 : decode cX11_replay 1 = .ok (.iconst 0, 1) := by decide +kernel
theorem dX11_replay_2 : decode cX11_replay 2 = .ok (.putfield 91, 3) := by decide +kernel
theorem dX11_replay_5 : decode cX11_replay 5 = .ok (.aload_n 0, 1) := by decide +kernel
theorem dX11_replay_6 : decode cX11_replay 6 = .ok (.getfield 362, 3) := by decide +kernel
theorem dX11_replay_9 : decode cX11_replay 9 = .ok (.ifCond .ne 9, 3) := by decide +kernel
theorem dX11_replay_12 : decode cX11_replay 12 = .ok (.aload_n 0, 1) := by decide +kernel
theorem dX11_replay_13 : decode cX11_replay 13 = .ok (.iconst 1, 1) := by decide +kernel
theorem dX11_replay_14 : decode cX11_replay 14 = .ok (.invokevirtual 97, 3) := by decide +kernel
theorem dX11_replay_17 : decode cX11_replay 17 = .ok (.ireturn, 1) := by decide +kernel
theorem dX11_replay_18 : decode cX11_replay 18 = .ok (.aload_n 0, 1) := by decide +kernel
theorem dX11_replay_19 : decode cX11_replay 19 = .ok (.invokevirtual 384, 3) := by decide +kernel
theorem dX11_replay_22 : decode cX11_replay 22 = .ok (.iconst 0, 1) := by decide +kernel
theorem dX11_replay_23 : decode cX11_replay 23 = .ok (.istore_n 1, 1) := by decide +kernel
theorem dX11_replay_24 : decode cX11_replay 24 = .ok (.iconst 0, 1) := by decide +kernel
theorem dX11_replay_25 : decode cX11_replay 25 = .ok (.istore_n 2, 1) := by decide +kernel
theorem dX11_replay_26 : decode cX11_replay 26 = .ok (.iload_n 2, 1) := by decide +kernel
theorem dX11_replay_27 : decode cX11_replay 27 = .ok (.aload_n 0, 1) := by decide +kernel
theorem dX11_replay_28 : decode cX11_replay 28 = .ok (.getfield 387, 3) := by decide +kernel
theorem dX11_replay_31 : decode cX11_replay 31 = .ok (.if_icmp .ge 72, 3) := by decide +kernel
theorem dX11_replay_34 : decode cX11_replay 34 = .ok (.iconst 0, 1) := by decide +kernel
theorem dX11_replay_35 : decode cX11_replay 35 = .ok (.istore_n 3, 1) := by decide +kernel
theorem dX11_replay_36 : decode cX11_replay 36 = .ok (.iload_n 3, 1) := by decide +kernel
theorem dX11_replay_37 : decode cX11_replay 37 = .ok (.aload_n 0, 1) := by decide +kernel
theorem dX11_replay_38 : decode cX11_replay 38 = .ok (.getfield 61, 3) := by decide +kernel
theorem dX11_replay_41 : decode cX11_replay 41 = .ok (.iconst 0, 1) := by decide +kernel
theorem dX11_replay_42 : decode cX11_replay 42 = .ok (.iaload, 1) := by decide +kernel
theorem dX11_replay_43 : decode cX11_replay 43 = .ok (.aload_n 0, 1) := by decide +kernel
theorem dX11_replay_44 : decode cX11_replay 44 = .ok (.getfield 451, 3) := by decide +kernel
theorem dX11_replay_47 : decode cX11_replay 47 = .ok (.invokestatic 460, 3) := by decide +kernel
theorem dX11_replay_50 : decode cX11_replay 50 = .ok (.if_icmp .ge 26, 3) := by decide +kernel
theorem dX11_replay_53 : decode cX11_replay 53 = .ok (.aload_n 0, 1) := by decide +kernel
theorem dX11_replay_54 : decode cX11_replay 54 = .ok (.getfield 82, 3) := by decide +kernel
theorem dX11_replay_57 : decode cX11_replay 57 = .ok (.iload_n 3, 1) := by decide +kernel
theorem dX11_replay_58 : decode cX11_replay 58 = .ok (.aload_n 0, 1) := by decide +kernel
theorem dX11_replay_59 : decode cX11_replay 59 = .ok (.getfield 88, 3) := by decide +kernel
theorem dX11_replay_62 : decode cX11_replay 62 = .ok (.bipush 8, 2) := by decide +kernel
theorem dX11_replay_64 : decode cX11_replay 64 = .ok (.iload_n 2, 1) := by decide +kernel
theorem dX11_replay_65 : decode cX11_replay 65 = .ok (.imul, 1) := by decide +kernel
theorem dX11_replay_66 : decode cX11_replay 66 = .ok (.iload_n 3, 1) := by decide +kernel
theorem dX11_replay_67 : decode cX11_replay 67 = .ok (.iadd, 1) := by decide +kernel
theorem dX11_replay_68 : decode cX11_replay 68 = .ok (.laload, 1) := by decide +kernel
theorem dX11_replay_69 : decode cX11_replay 69 = .ok (.lastore, 1) := by decide +kernel
theorem dX11_replay_70 : decode cX11_replay 70 = .ok (.iinc 3 1, 3) := by decide +kernel
theorem dX11_replay_73 : decode cX11_replay 73 = .ok (.goto (-37), 3) := by decide +kernel
theorem dX11_replay_76 : decode cX11_replay 76 = .ok (.iload_n 1, 1) := by decide +kernel
theorem dX11_replay_77 : decode cX11_replay 77 = .ok (.aload_n 0, 1) := by decide +kernel
theorem dX11_replay_78 : decode cX11_replay 78 = .ok (.aload_n 0, 1) := by decide +kernel
theorem dX11_replay_79 : decode cX11_replay 79 = .ok (.getfield 85, 3) := by decide +kernel
theorem dX11_replay_82 : decode cX11_replay 82 = .ok (.iload_n 2, 1) := by decide +kernel
theorem dX11_replay_83 : decode cX11_replay 83 = .ok (.iaload, 1) := by decide +kernel
theorem dX11_replay_84 : decode cX11_replay 84 = .ok (.invokevirtual 449, 3) := by decide +kernel
theorem dX11_replay_87 : decode cX11_replay 87 = .ok (.ifCond .ne 7, 3) := by decide +kernel
theorem dX11_replay_90 : decode cX11_replay 90 = .ok (.iconst 1, 1) := by decide +kernel
theorem dX11_replay_91 : decode cX11_replay 91 = .ok (.goto 4, 3) := by decide +kernel
theorem dX11_replay_94 : decode cX11_replay 94 = .ok (.iconst 0, 1) := by decide +kernel
theorem dX11_replay_95 : decode cX11_replay 95 = .ok (.iadd, 1) := by decide +kernel
theorem dX11_replay_96 : decode cX11_replay 96 = .ok (.istore_n 1, 1) := by decide +kernel
theorem dX11_replay_97 : decode cX11_replay 97 = .ok (.iinc 2 1, 3) := by decide +kernel
theorem dX11_replay_100 : decode cX11_replay 100 = .ok (.goto (-74), 3) := by decide +kernel
theorem dX11_replay_103 : decode cX11_replay 103 = .ok (.iload_n 1, 1) := by decide +kernel
theorem dX11_replay_104 : decode cX11_replay 104 = .ok (.ireturn, 1) := by decide +kernel
theorem dX11_isStep_0 : decode cX11_isStep 0 = .ok (.iload_n 1, 1) := by decide +kernel
theorem dX11_isStep_1 : decode cX11_isStep 1 = .ok (.iconst 0, 1) := by decide +kernel
theorem dX11_isStep_2 : decode cX11_isStep 2 = .ok (.aload_n 0, 1) := by decide +kernel
theorem dX11_isStep_3 : decode cX11_isStep 3 = .ok (.getfield 369, 3) := by decide +kernel
theorem dX11_isStep_6 : decode cX11_isStep 6 = .ok (.iconst 1, 1) := by decide +kernel
theorem dX11_isStep_7 : decode cX11_isStep 7 = .ok (.isub, 1) := by decide +kernel
theorem dX11_isStep_8 : decode cX11_isStep 8 = .ok (.invokestatic 101, 3) := by decide +kernel
theorem dX11_isStep_11 : decode cX11_isStep 11 = .ok (.ireturn, 1) := by decide +kernel
theorem dX11_time_0 : decode cX11_time 0 = .ok (.aload_n 0, 1) := by decide +kernel
theorem dX11_time_1 : decode cX11_time 1 = .ok (.iconst 0, 1) := by decide +kernel
theorem dX11_time_2 : decode cX11_time 2 = .ok (.putfield 91, 3) := by decide +kernel
theorem dX11_time_5 : decode cX11_time 5 = .ok (.aload_n 0, 1) := by decide +kernel
theorem dX11_time_6 : decode cX11_time 6 = .ok (.iload_n 1, 1) := by decide +kernel
theorem dX11_time_7 : decode cX11_time 7 = .ok (.invokevirtual 462, 3) := by decide +kernel
theorem dX11_time_10 : decode cX11_time 10 = .ok (.ifCond .eq 12, 3) := by decide +kernel
theorem dX11_time_13 : decode cX11_time 13 = .ok (.aload_n 0, 1) := by decide +kernel
theorem dX11_time_14 : decode cX11_time 14 = .ok (.getfield 76, 3) := by decide +kernel
theorem dX11_time_17 : decode cX11_time 17 = .ok (.iload_n 1, 1) := by decide +kernel
theorem dX11_time_18 : decode cX11_time 18 = .ok (.iaload, 1) := by decide +kernel
theorem dX11_time_19 : decode cX11_time 19 = .ok (.goto 8, 3) := by decide +kernel
theorem dX11_time_22 : decode cX11_time 22 = .ok (.aload_n 0, 1) := by decide +kernel
theorem dX11_time_23 : decode cX11_time 23 = .ok (.iconst 1, 1) := by decide +kernel
theorem dX11_time_24 : decode cX11_time 24 = .ok (.invokevirtual 97, 3) := by decide +kernel
theorem dX11_time_27 : decode cX11_time 27 = .ok (.ireturn, 1) := by decide +kernel
theorem dX11_signal_0 : decode cX11_signal 0 = .ok (.aload_n 0, 1) := by decide +kernel
theorem dX11_signal_1 : decode cX11_signal 1 = .ok (.iload_n 1, 1) := by decide +kernel
theorem dX11_signal_2 : decode cX11_signal 2 = .ok (.iconst 0, 1) := by decide +kernel
theorem dX11_signal_3 : decode cX11_signal 3 = .ok (.aload_n 0, 1) := by decide +kernel
theorem dX11_signal_4 : decode cX11_signal 4 = .ok (.getfield 61, 3) := by decide +kernel
theorem dX11_signal_7 : decode cX11_signal 7 = .ok (.iconst 0, 1) := by decide +kernel
theorem dX11_signal_8 : decode cX11_signal 8 = .ok (.iaload, 1) := by decide +kernel
theorem dX11_signal_9 : decode cX11_signal 9 = .ok (.iconst 1, 1) := by decide +kernel
theorem dX11_signal_10 : decode cX11_signal 10 = .ok (.isub, 1) := by decide +kernel
theorem dX11_signal_11 : decode cX11_signal 11 = .ok (.invokestatic 101, 3) := by decide +kernel
theorem dX11_signal_14 : decode cX11_signal 14 = .ok (.ifCond .eq 15, 3) := by decide +kernel
theorem dX11_signal_17 : decode cX11_signal 17 = .ok (.aload_n 0, 1) := by decide +kernel
theorem dX11_signal_18 : decode cX11_signal 18 = .ok (.iload_n 2, 1) := by decide +kernel
theorem dX11_signal_19 : decode cX11_signal 19 = .ok (.invokevirtual 462, 3) := by decide +kernel
theorem dX11_signal_22 : decode cX11_signal 22 = .ok (.ifCond .eq 7, 3) := by decide +kernel
theorem dX11_signal_25 : decode cX11_signal 25 = .ok (.iconst 0, 1) := by decide +kernel
theorem dX11_signal_26 : decode cX11_signal 26 = .ok (.goto 4, 3) := by decide +kernel
theorem dX11_signal_29 : decode cX11_signal 29 = .ok (.iconst 1, 1) := by decide +kernel
theorem dX11_signal_30 : decode cX11_signal 30 = .ok (.putfield 91, 3) := by decide +kernel
theorem dX11_signal_33 : decode cX11_signal 33 = .ok (.aload_n 0, 1) := by decide +kernel
theorem dX11_signal_34 : decode cX11_signal 34 = .ok (.getfield 91, 3) := by decide +kernel
theorem dX11_signal_37 : decode cX11_signal 37 = .ok (.ifCond .ne 17, 3) := by decide +kernel
theorem dX11_signal_40 : decode cX11_signal 40 = .ok (.aload_n 0, 1) := by decide +kernel
theorem dX11_signal_41 : decode cX11_signal 41 = .ok (.getfield 79, 3) := by decide +kernel
theorem dX11_signal_44 : decode cX11_signal 44 = .ok (.bipush 8, 2) := by decide +kernel
theorem dX11_signal_46 : decode cX11_signal 46 = .ok (.iload_n 2, 1) := by decide +kernel
theorem dX11_signal_47 : decode cX11_signal 47 = .ok (.imul, 1) := by decide +kernel
theorem dX11_signal_48 : decode cX11_signal 48 = .ok (.iload_n 1, 1) := by decide +kernel
theorem dX11_signal_49 : decode cX11_signal 49 = .ok (.iadd, 1) := by decide +kernel
theorem dX11_signal_50 : decode cX11_signal 50 = .ok (.laload, 1) := by decide +kernel
theorem dX11_signal_51 : decode cX11_signal 51 = .ok (.goto 4, 3) := by decide +kernel
theorem dX11_signal_54 : decode cX11_signal 54 = .ok (.lconst 0, 1) := by decide +kernel
theorem dX11_signal_55 : decode cX11_signal 55 = .ok (.lreturn, 1) := by decide +kernel
theorem dX11_value_0 : decode cX11_value 0 = .ok (.aload_n 0, 1) := by decide +kernel
theorem dX11_value_1 : decode cX11_value 1 = .ok (.iload_n 1, 1) := by decide +kernel
theorem dX11_value_2 : decode cX11_value 2 = .ok (.iconst 0, 1) := by decide +kernel
theorem dX11_value_3 : decode cX11_value 3 = .ok (.aload_n 0, 1) := by decide +kernel
theorem dX11_value_4 : decode cX11_value 4 = .ok (.getfield 61, 3) := by decide +kernel
theorem dX11_value_7 : decode cX11_value 7 = .ok (.iconst 2, 1) := by decide +kernel
theorem dX11_value_8 : decode cX11_value 8 = .ok (.iaload, 1) := by decide +kernel
theorem dX11_value_9 : decode cX11_value 9 = .ok (.iconst 1, 1) := by decide +kernel
theorem dX11_value_10 : decode cX11_value 10 = .ok (.isub, 1) := by decide +kernel
theorem dX11_value_11 : decode cX11_value 11 = .ok (.invokestatic 101, 3) := by decide +kernel
theorem dX11_value_14 : decode cX11_value 14 = .ok (.ifCond .eq 15, 3) := by decide +kernel
theorem dX11_value_17 : decode cX11_value 17 = .ok (.aload_n 0, 1) := by decide +kernel
theorem dX11_value_18 : decode cX11_value 18 = .ok (.iload_n 2, 1) := by decide +kernel
theorem dX11_value_19 : decode cX11_value 19 = .ok (.invokevirtual 462, 3) := by decide +kernel
theorem dX11_value_22 : decode cX11_value 22 = .ok (.ifCond .eq 7, 3) := by decide +kernel
theorem dX11_value_25 : decode cX11_value 25 = .ok (.iconst 0, 1) := by decide +kernel
theorem dX11_value_26 : decode cX11_value 26 = .ok (.goto 4, 3) := by decide +kernel
theorem dX11_value_29 : decode cX11_value 29 = .ok (.iconst 1, 1) := by decide +kernel
theorem dX11_value_30 : decode cX11_value 30 = .ok (.putfield 91, 3) := by decide +kernel
theorem dX11_value_33 : decode cX11_value 33 = .ok (.aload_n 0, 1) := by decide +kernel
theorem dX11_value_34 : decode cX11_value 34 = .ok (.getfield 91, 3) := by decide +kernel
theorem dX11_value_37 : decode cX11_value 37 = .ok (.ifCond .ne 20, 3) := by decide +kernel
theorem dX11_value_40 : decode cX11_value 40 = .ok (.aload_n 0, 1) := by decide +kernel
theorem dX11_value_41 : decode cX11_value 41 = .ok (.aload_n 0, 1) := by decide +kernel
theorem dX11_value_42 : decode cX11_value 42 = .ok (.getfield 67, 3) := by decide +kernel
theorem dX11_value_45 : decode cX11_value 45 = .ok (.bipush 24, 2) := by decide +kernel
theorem dX11_value_47 : decode cX11_value 47 = .ok (.iload_n 1, 1) := by decide +kernel
theorem dX11_value_48 : decode cX11_value 48 = .ok (.iadd, 1) := by decide +kernel
theorem dX11_value_49 : decode cX11_value 49 = .ok (.iaload, 1) := by decide +kernel
theorem dX11_value_50 : decode cX11_value 50 = .ok (.iload_n 2, 1) := by decide +kernel
theorem dX11_value_51 : decode cX11_value 51 = .ok (.invokevirtual 393, 3) := by decide +kernel
theorem dX11_value_54 : decode cX11_value 54 = .ok (.goto 4, 3) := by decide +kernel
theorem dX11_value_57 : decode cX11_value 57 = .ok (.lconst 0, 1) := by decide +kernel
theorem dX11_value_58 : decode cX11_value 58 = .ok (.lreturn, 1) := by decide +kernel
theorem dX11_let_0 : decode cX11_let 0 = .ok (.aload_n 0, 1) := by decide +kernel
theorem dX11_let_1 : decode cX11_let 1 = .ok (.iload_n 1, 1) := by decide +kernel
theorem dX11_let_2 : decode cX11_let 2 = .ok (.iconst 0, 1) := by decide +kernel
theorem dX11_let_3 : decode cX11_let 3 = .ok (.aload_n 0, 1) := by decide +kernel
theorem dX11_let_4 : decode cX11_let 4 = .ok (.getfield 61, 3) := by decide +kernel
theorem dX11_let_7 : decode cX11_let 7 = .ok (.iconst 1, 1) := by decide +kernel
theorem dX11_let_8 : decode cX11_let 8 = .ok (.iaload, 1) := by decide +kernel
theorem dX11_let_9 : decode cX11_let 9 = .ok (.iconst 1, 1) := by decide +kernel
theorem dX11_let_10 : decode cX11_let 10 = .ok (.isub, 1) := by decide +kernel
theorem dX11_let_11 : decode cX11_let 11 = .ok (.invokestatic 101, 3) := by decide +kernel
theorem dX11_let_14 : decode cX11_let 14 = .ok (.ifCond .eq 15, 3) := by decide +kernel
theorem dX11_let_17 : decode cX11_let 17 = .ok (.aload_n 0, 1) := by decide +kernel
theorem dX11_let_18 : decode cX11_let 18 = .ok (.iload_n 2, 1) := by decide +kernel
theorem dX11_let_19 : decode cX11_let 19 = .ok (.invokevirtual 462, 3) := by decide +kernel
theorem dX11_let_22 : decode cX11_let 22 = .ok (.ifCond .eq 7, 3) := by decide +kernel
theorem dX11_let_25 : decode cX11_let 25 = .ok (.iconst 0, 1) := by decide +kernel
theorem dX11_let_26 : decode cX11_let 26 = .ok (.goto 4, 3) := by decide +kernel
theorem dX11_let_29 : decode cX11_let 29 = .ok (.iconst 1, 1) := by decide +kernel
theorem dX11_let_30 : decode cX11_let 30 = .ok (.putfield 91, 3) := by decide +kernel
theorem dX11_let_33 : decode cX11_let 33 = .ok (.aload_n 0, 1) := by decide +kernel
theorem dX11_let_34 : decode cX11_let 34 = .ok (.getfield 91, 3) := by decide +kernel
theorem dX11_let_37 : decode cX11_let 37 = .ok (.ifCond .ne 24, 3) := by decide +kernel
theorem dX11_let_40 : decode cX11_let 40 = .ok (.aload_n 0, 1) := by decide +kernel
theorem dX11_let_41 : decode cX11_let 41 = .ok (.aload_n 0, 1) := by decide +kernel
theorem dX11_let_42 : decode cX11_let 42 = .ok (.getfield 67, 3) := by decide +kernel
theorem dX11_let_45 : decode cX11_let 45 = .ok (.bipush 12, 2) := by decide +kernel
theorem dX11_let_47 : decode cX11_let 47 = .ok (.iload_n 1, 1) := by decide +kernel
theorem dX11_let_48 : decode cX11_let 48 = .ok (.iadd, 1) := by decide +kernel
theorem dX11_let_49 : decode cX11_let 49 = .ok (.iaload, 1) := by decide +kernel
theorem dX11_let_50 : decode cX11_let 50 = .ok (.iload_n 2, 1) := by decide +kernel
theorem dX11_let_51 : decode cX11_let 51 = .ok (.invokevirtual 407, 3) := by decide +kernel
theorem dX11_let_54 : decode cX11_let 54 = .ok (.ifCond .eq 7, 3) := by decide +kernel
theorem dX11_let_57 : decode cX11_let 57 = .ok (.iconst 1, 1) := by decide +kernel
theorem dX11_let_58 : decode cX11_let 58 = .ok (.goto 4, 3) := by decide +kernel
theorem dX11_let_61 : decode cX11_let 61 = .ok (.iconst 0, 1) := by decide +kernel
theorem dX11_let_62 : decode cX11_let 62 = .ok (.ireturn, 1) := by decide +kernel
theorem dX11_isWatch_0 : decode cX11_isWatch 0 = .ok (.iload_n 1, 1) := by decide +kernel
theorem dX11_isWatch_1 : decode cX11_isWatch 1 = .ok (.iconst 0, 1) := by decide +kernel
theorem dX11_isWatch_2 : decode cX11_isWatch 2 = .ok (.aload_n 0, 1) := by decide +kernel
theorem dX11_isWatch_3 : decode cX11_isWatch 3 = .ok (.getfield 61, 3) := by decide +kernel
theorem dX11_isWatch_6 : decode cX11_isWatch 6 = .ok (.iconst 3, 1) := by decide +kernel
theorem dX11_isWatch_7 : decode cX11_isWatch 7 = .ok (.iaload, 1) := by decide +kernel
theorem dX11_isWatch_8 : decode cX11_isWatch 8 = .ok (.iconst 1, 1) := by decide +kernel
theorem dX11_isWatch_9 : decode cX11_isWatch 9 = .ok (.isub, 1) := by decide +kernel
theorem dX11_isWatch_10 : decode cX11_isWatch 10 = .ok (.invokestatic 101, 3) := by decide +kernel
theorem dX11_isWatch_13 : decode cX11_isWatch 13 = .ok (.ireturn, 1) := by decide +kernel
theorem dX11_watch_0 : decode cX11_watch 0 = .ok (.aload_n 0, 1) := by decide +kernel
theorem dX11_watch_1 : decode cX11_watch 1 = .ok (.aload_n 0, 1) := by decide +kernel
theorem dX11_watch_2 : decode cX11_watch 2 = .ok (.iload_n 1, 1) := by decide +kernel
theorem dX11_watch_3 : decode cX11_watch 3 = .ok (.invokevirtual 465, 3) := by decide +kernel
theorem dX11_watch_6 : decode cX11_watch 6 = .ok (.ifCond .eq 15, 3) := by decide +kernel
theorem dX11_watch_9 : decode cX11_watch 9 = .ok (.aload_n 0, 1) := by decide +kernel
theorem dX11_watch_10 : decode cX11_watch 10 = .ok (.iload_n 2, 1) := by decide +kernel
theorem dX11_watch_11 : decode cX11_watch 11 = .ok (.invokevirtual 462, 3) := by decide +kernel
theorem dX11_watch_14 : decode cX11_watch 14 = .ok (.ifCond .eq 7, 3) := by decide +kernel
theorem dX11_watch_17 : decode cX11_watch 17 = .ok (.iconst 0, 1) := by decide +kernel
theorem dX11_watch_18 : decode cX11_watch 18 = .ok (.goto 4, 3) := by decide +kernel
theorem dX11_watch_21 : decode cX11_watch 21 = .ok (.iconst 1, 1) := by decide +kernel
theorem dX11_watch_22 : decode cX11_watch 22 = .ok (.putfield 91, 3) := by decide +kernel
theorem dX11_watch_25 : decode cX11_watch 25 = .ok (.aload_n 0, 1) := by decide +kernel
theorem dX11_watch_26 : decode cX11_watch 26 = .ok (.getfield 91, 3) := by decide +kernel
theorem dX11_watch_29 : decode cX11_watch 29 = .ok (.ifCond .ne 16, 3) := by decide +kernel
theorem dX11_watch_32 : decode cX11_watch 32 = .ok (.aload_n 0, 1) := by decide +kernel
theorem dX11_watch_33 : decode cX11_watch 33 = .ok (.iload_n 1, 1) := by decide +kernel
theorem dX11_watch_34 : decode cX11_watch 34 = .ok (.iload_n 2, 1) := by decide +kernel
theorem dX11_watch_35 : decode cX11_watch 35 = .ok (.invokevirtual 446, 3) := by decide +kernel
theorem dX11_watch_38 : decode cX11_watch 38 = .ok (.ifCond .eq 7, 3) := by decide +kernel
theorem dX11_watch_41 : decode cX11_watch 41 = .ok (.iconst 1, 1) := by decide +kernel
theorem dX11_watch_42 : decode cX11_watch 42 = .ok (.goto 4, 3) := by decide +kernel
theorem dX11_watch_45 : decode cX11_watch 45 = .ok (.iconst 0, 1) := by decide +kernel
theorem dX11_watch_46 : decode cX11_watch 46 = .ok (.ireturn, 1) := by decide +kernel
theorem dX11_toldOf_0 : decode cX11_toldOf 0 = .ok (.iconst 0, 1) := by decide +kernel
theorem dX11_toldOf_1 : decode cX11_toldOf 1 = .ok (.istore_n 3, 1) := by decide +kernel
theorem dX11_toldOf_2 : decode cX11_toldOf 2 = .ok (.iconst (-1), 1) := by decide +kernel
theorem dX11_toldOf_3 : decode cX11_toldOf 3 = .ok (.istore 4, 2) := by decide +kernel
theorem dX11_toldOf_5 : decode cX11_toldOf 5 = .ok (.iconst 0, 1) := by decide +kernel
theorem dX11_toldOf_6 : decode cX11_toldOf 6 = .ok (.istore 5, 2) := by decide +kernel
theorem dX11_toldOf_8 : decode cX11_toldOf 8 = .ok (.iconst 0, 1) := by decide +kernel
theorem dX11_toldOf_9 : decode cX11_toldOf 9 = .ok (.istore 6, 2) := by decide +kernel
theorem dX11_toldOf_11 : decode cX11_toldOf 11 = .ok (.iconst 0, 1) := by decide +kernel
theorem dX11_toldOf_12 : decode cX11_toldOf 12 = .ok (.istore 7, 2) := by decide +kernel
theorem dX11_toldOf_14 : decode cX11_toldOf 14 = .ok (.iload 7, 2) := by decide +kernel
theorem dX11_toldOf_16 : decode cX11_toldOf 16 = .ok (.aload_n 0, 1) := by decide +kernel
theorem dX11_toldOf_17 : decode cX11_toldOf 17 = .ok (.getfield 369, 3) := by decide +kernel
theorem dX11_toldOf_20 : decode cX11_toldOf 20 = .ok (.if_icmp .ge 70, 3) := by decide +kernel
theorem dX11_toldOf_23 : decode cX11_toldOf 23 = .ok (.aload_n 0, 1) := by decide +kernel
theorem dX11_toldOf_24 : decode cX11_toldOf 24 = .ok (.iload_n 1, 1) := by decide +kernel
theorem dX11_toldOf_25 : decode cX11_toldOf 25 = .ok (.iload 7, 2) := by decide +kernel
theorem dX11_toldOf_27 : decode cX11_toldOf 27 = .ok (.invokevirtual 446, 3) := by decide +kernel
theorem dX11_toldOf_30 : decode cX11_toldOf 30 = .ok (.istore 8, 2) := by decide +kernel
theorem dX11_toldOf_32 : decode cX11_toldOf 32 = .ok (.iload 8, 2) := by decide +kernel
theorem dX11_toldOf_34 : decode cX11_toldOf 34 = .ok (.ifCond .eq 7, 3) := by decide +kernel
theorem dX11_toldOf_37 : decode cX11_toldOf 37 = .ok (.iconst 0, 1) := by decide +kernel
theorem dX11_toldOf_38 : decode cX11_toldOf 38 = .ok (.goto 7, 3) := by decide +kernel
theorem dX11_toldOf_41 : decode cX11_toldOf 41 = .ok (.iload 5, 2) := by decide +kernel
theorem dX11_toldOf_43 : decode cX11_toldOf 43 = .ok (.iconst 1, 1) := by decide +kernel
theorem dX11_toldOf_44 : decode cX11_toldOf 44 = .ok (.iadd, 1) := by decide +kernel
theorem dX11_toldOf_45 : decode cX11_toldOf 45 = .ok (.istore 5, 2) := by decide +kernel
theorem dX11_toldOf_47 : decode cX11_toldOf 47 = .ok (.iload 6, 2) := by decide +kernel
theorem dX11_toldOf_49 : decode cX11_toldOf 49 = .ok (.iload 5, 2) := by decide +kernel
theorem dX11_toldOf_51 : decode cX11_toldOf 51 = .ok (.invokestatic 125, 3) := by decide +kernel
theorem dX11_toldOf_54 : decode cX11_toldOf 54 = .ok (.istore 6, 2) := by decide +kernel
theorem dX11_toldOf_56 : decode cX11_toldOf 56 = .ok (.iload_n 3, 1) := by decide +kernel
theorem dX11_toldOf_57 : decode cX11_toldOf 57 = .ok (.iload 8, 2) := by decide +kernel
theorem dX11_toldOf_59 : decode cX11_toldOf 59 = .ok (.ifCond .eq 7, 3) := by decide +kernel
theorem dX11_toldOf_62 : decode cX11_toldOf 62 = .ok (.iconst 0, 1) := by decide +kernel
theorem dX11_toldOf_63 : decode cX11_toldOf 63 = .ok (.goto 4, 3) := by decide +kernel
theorem dX11_toldOf_66 : decode cX11_toldOf 66 = .ok (.iconst 1, 1) := by decide +kernel
theorem dX11_toldOf_67 : decode cX11_toldOf 67 = .ok (.iadd, 1) := by decide +kernel
theorem dX11_toldOf_68 : decode cX11_toldOf 68 = .ok (.istore_n 3, 1) := by decide +kernel
theorem dX11_toldOf_69 : decode cX11_toldOf 69 = .ok (.iload 8, 2) := by decide +kernel
theorem dX11_toldOf_71 : decode cX11_toldOf 71 = .ok (.ifCond .ne 13, 3) := by decide +kernel
theorem dX11_toldOf_74 : decode cX11_toldOf 74 = .ok (.iload 4, 2) := by decide +kernel
theorem dX11_toldOf_76 : decode cX11_toldOf 76 = .ok (.iconst (-1), 1) := by decide +kernel
theorem dX11_toldOf_77 : decode cX11_toldOf 77 = .ok (.if_icmp .ne 7, 3) := by decide +kernel
theorem dX11_toldOf_80 : decode cX11_toldOf 80 = .ok (.iload 7, 2) := by decide +kernel
theorem dX11_toldOf_82 : decode cX11_toldOf 82 = .ok (.istore 4, 2) := by decide +kernel
theorem dX11_toldOf_84 : decode cX11_toldOf 84 = .ok (.iinc 7 1, 3) := by decide +kernel
theorem dX11_toldOf_87 : decode cX11_toldOf 87 = .ok (.goto (-73), 3) := by decide +kernel
theorem dX11_toldOf_90 : decode cX11_toldOf 90 = .ok (.iload_n 2, 1) := by decide +kernel
theorem dX11_toldOf_91 : decode cX11_toldOf 91 = .ok (.ifCond .ne 12, 3) := by decide +kernel
theorem dX11_toldOf_94 : decode cX11_toldOf 94 = .ok (.aload_n 0, 1) := by decide +kernel
theorem dX11_toldOf_95 : decode cX11_toldOf 95 = .ok (.getfield 70, 3) := by decide +kernel
theorem dX11_toldOf_98 : decode cX11_toldOf 98 = .ok (.iload_n 1, 1) := by decide +kernel
theorem dX11_toldOf_99 : decode cX11_toldOf 99 = .ok (.iaload, 1) := by decide +kernel
theorem dX11_toldOf_100 : decode cX11_toldOf 100 = .ok (.goto 34, 3) := by decide +kernel
theorem dX11_toldOf_103 : decode cX11_toldOf 103 = .ok (.iload_n 2, 1) := by decide +kernel
theorem dX11_toldOf_104 : decode cX11_toldOf 104 = .ok (.iconst 1, 1) := by decide +kernel
theorem dX11_toldOf_105 : decode cX11_toldOf 105 = .ok (.if_icmp .ne 7, 3) := by decide +kernel
theorem dX11_toldOf_108 : decode cX11_toldOf 108 = .ok (.iload_n 3, 1) := by decide +kernel
theorem dX11_toldOf_109 : decode cX11_toldOf 109 = .ok (.goto 25, 3) := by decide +kernel
theorem dX11_toldOf_112 : decode cX11_toldOf 112 = .ok (.iload_n 2, 1) := by decide +kernel
theorem dX11_toldOf_113 : decode cX11_toldOf 113 = .ok (.iconst 2, 1) := by decide +kernel
theorem dX11_toldOf_114 : decode cX11_toldOf 114 = .ok (.if_icmp .ne 8, 3) := by decide +kernel
theorem dX11_toldOf_117 : decode cX11_toldOf 117 = .ok (.iload 4, 2) := by decide +kernel
theorem dX11_toldOf_119 : decode cX11_toldOf 119 = .ok (.goto 15, 3) := by decide +kernel
theorem dX11_toldOf_122 : decode cX11_toldOf 122 = .ok (.iload_n 2, 1) := by decide +kernel
theorem dX11_toldOf_123 : decode cX11_toldOf 123 = .ok (.iconst 3, 1) := by decide +kernel
theorem dX11_toldOf_124 : decode cX11_toldOf 124 = .ok (.if_icmp .ne 8, 3) := by decide +kernel
theorem dX11_toldOf_127 : decode cX11_toldOf 127 = .ok (.iload 6, 2) := by decide +kernel
theorem dX11_toldOf_129 : decode cX11_toldOf 129 = .ok (.goto 5, 3) := by decide +kernel
theorem dX11_toldOf_132 : decode cX11_toldOf 132 = .ok (.iload 5, 2) := by decide +kernel
theorem dX11_toldOf_134 : decode cX11_toldOf 134 = .ok (.ireturn, 1) := by decide +kernel
theorem dX11_told_0 : decode cX11_told 0 = .ok (.aload_n 0, 1) := by decide +kernel
theorem dX11_told_1 : decode cX11_told 1 = .ok (.iconst 0, 1) := by decide +kernel
theorem dX11_told_2 : decode cX11_told 2 = .ok (.putfield 91, 3) := by decide +kernel
theorem dX11_told_5 : decode cX11_told 5 = .ok (.aload_n 0, 1) := by decide +kernel
theorem dX11_told_6 : decode cX11_told 6 = .ok (.iload_n 1, 1) := by decide +kernel
theorem dX11_told_7 : decode cX11_told 7 = .ok (.invokevirtual 465, 3) := by decide +kernel
theorem dX11_told_10 : decode cX11_told 10 = .ok (.ifCond .eq 21, 3) := by decide +kernel
theorem dX11_told_13 : decode cX11_told 13 = .ok (.iload_n 2, 1) := by decide +kernel
theorem dX11_told_14 : decode cX11_told 14 = .ok (.iconst 0, 1) := by decide +kernel
theorem dX11_told_15 : decode cX11_told 15 = .ok (.iconst 4, 1) := by decide +kernel
theorem dX11_told_16 : decode cX11_told 16 = .ok (.invokestatic 101, 3) := by decide +kernel
theorem dX11_told_19 : decode cX11_told 19 = .ok (.ifCond .eq 12, 3) := by decide +kernel
theorem dX11_told_22 : decode cX11_told 22 = .ok (.aload_n 0, 1) := by decide +kernel
theorem dX11_told_23 : decode cX11_told 23 = .ok (.iload_n 1, 1) := by decide +kernel
theorem dX11_told_24 : decode cX11_told 24 = .ok (.iload_n 2, 1) := by decide +kernel
theorem dX11_told_25 : decode cX11_told 25 = .ok (.invokevirtual 468, 3) := by decide +kernel
theorem dX11_told_28 : decode cX11_told 28 = .ok (.goto 8, 3) := by decide +kernel
theorem dX11_told_31 : decode cX11_told 31 = .ok (.aload_n 0, 1) := by decide +kernel
theorem dX11_told_32 : decode cX11_told 32 = .ok (.iconst 1, 1) := by decide +kernel
theorem dX11_told_33 : decode cX11_told 33 = .ok (.invokevirtual 97, 3) := by decide +kernel
theorem dX11_told_36 : decode cX11_told 36 = .ok (.ireturn, 1) := by decide +kernel
theorem dX11_alarms_0 : decode cX11_alarms 0 = .ok (.aload_n 0, 1) := by decide +kernel
theorem dX11_alarms_1 : decode cX11_alarms 1 = .ok (.iconst 0, 1) := by decide +kernel
theorem dX11_alarms_2 : decode cX11_alarms 2 = .ok (.putfield 91, 3) := by decide +kernel
theorem dX11_alarms_5 : decode cX11_alarms 5 = .ok (.iload_n 1, 1) := by decide +kernel
theorem dX11_alarms_6 : decode cX11_alarms 6 = .ok (.iconst 0, 1) := by decide +kernel
theorem dX11_alarms_7 : decode cX11_alarms 7 = .ok (.bipush 9, 2) := by decide +kernel
theorem dX11_alarms_9 : decode cX11_alarms 9 = .ok (.invokestatic 101, 3) := by decide +kernel
theorem dX11_alarms_12 : decode cX11_alarms 12 = .ok (.ifCond .ne 9, 3) := by decide +kernel
theorem dX11_alarms_15 : decode cX11_alarms 15 = .ok (.aload_n 0, 1) := by decide +kernel
theorem dX11_alarms_16 : decode cX11_alarms 16 = .ok (.iconst 1, 1) := by decide +kernel
theorem dX11_alarms_17 : decode cX11_alarms 17 = .ok (.invokevirtual 97, 3) := by decide +kernel
theorem dX11_alarms_20 : decode cX11_alarms 20 = .ok (.ireturn, 1) := by decide +kernel
theorem dX11_alarms_21 : decode cX11_alarms 21 = .ok (.iconst 0, 1) := by decide +kernel
theorem dX11_alarms_22 : decode cX11_alarms 22 = .ok (.istore_n 2, 1) := by decide +kernel
theorem dX11_alarms_23 : decode cX11_alarms 23 = .ok (.iconst 0, 1) := by decide +kernel
theorem dX11_alarms_24 : decode cX11_alarms 24 = .ok (.istore_n 3, 1) := by decide +kernel
theorem dX11_alarms_25 : decode cX11_alarms 25 = .ok (.iload_n 3, 1) := by decide +kernel
theorem dX11_alarms_26 : decode cX11_alarms 26 = .ok (.aload_n 0, 1) := by decide +kernel
theorem dX11_alarms_27 : decode cX11_alarms 27 = .ok (.getfield 61, 3) := by decide +kernel
theorem dX11_alarms_30 : decode cX11_alarms 30 = .ok (.iconst 3, 1) := by decide +kernel
theorem dX11_alarms_31 : decode cX11_alarms 31 = .ok (.iaload, 1) := by decide +kernel
theorem dX11_alarms_32 : decode cX11_alarms 32 = .ok (.if_icmp .ge 48, 3) := by decide +kernel
theorem dX11_alarms_35 : decode cX11_alarms 35 = .ok (.iload_n 2, 1) := by decide +kernel
theorem dX11_alarms_36 : decode cX11_alarms 36 = .ok (.aload_n 0, 1) := by decide +kernel
theorem dX11_alarms_37 : decode cX11_alarms 37 = .ok (.getfield 369, 3) := by decide +kernel
theorem dX11_alarms_40 : decode cX11_alarms 40 = .ok (.ifCond .le 31, 3) := by decide +kernel
theorem dX11_alarms_43 : decode cX11_alarms 43 = .ok (.aload_n 0, 1) := by decide +kernel
theorem dX11_alarms_44 : decode cX11_alarms 44 = .ok (.getfield 70, 3) := by decide +kernel
theorem dX11_alarms_47 : decode cX11_alarms 47 = .ok (.iload_n 3, 1) := by decide +kernel
theorem dX11_alarms_48 : decode cX11_alarms 48 = .ok (.iaload, 1) := by decide +kernel
theorem dX11_alarms_49 : decode cX11_alarms 49 = .ok (.iload_n 1, 1) := by decide +kernel
theorem dX11_alarms_50 : decode cX11_alarms 50 = .ok (.if_icmp .lt 21, 3) := by decide +kernel
theorem dX11_alarms_53 : decode cX11_alarms 53 = .ok (.aload_n 0, 1) := by decide +kernel
theorem dX11_alarms_54 : decode cX11_alarms 54 = .ok (.iload_n 3, 1) := by decide +kernel
theorem dX11_alarms_55 : decode cX11_alarms 55 = .ok (.aload_n 0, 1) := by decide +kernel
theorem dX11_alarms_56 : decode cX11_alarms 56 = .ok (.getfield 369, 3) := by decide +kernel
theorem dX11_alarms_59 : decode cX11_alarms 59 = .ok (.iconst 1, 1) := by decide +kernel
theorem dX11_alarms_60 : decode cX11_alarms 60 = .ok (.isub, 1) := by decide +kernel
theorem dX11_alarms_61 : decode cX11_alarms 61 = .ok (.invokevirtual 446, 3) := by decide +kernel
theorem dX11_alarms_64 : decode cX11_alarms 64 = .ok (.ifCond .ne 7, 3) := by decide +kernel
theorem dX11_alarms_67 : decode cX11_alarms 67 = .ok (.iconst 1, 1) := by decide +kernel
theorem dX11_alarms_68 : decode cX11_alarms 68 = .ok (.goto 4, 3) := by decide +kernel
theorem dX11_alarms_71 : decode cX11_alarms 71 = .ok (.iconst 0, 1) := by decide +kernel
theorem dX11_alarms_72 : decode cX11_alarms 72 = .ok (.iadd, 1) := by decide +kernel
theorem dX11_alarms_73 : decode cX11_alarms 73 = .ok (.istore_n 2, 1) := by decide +kernel
theorem dX11_alarms_74 : decode cX11_alarms 74 = .ok (.iinc 3 1, 3) := by decide +kernel
theorem dX11_alarms_77 : decode cX11_alarms 77 = .ok (.goto (-52), 3) := by decide +kernel
theorem dX11_alarms_80 : decode cX11_alarms 80 = .ok (.iload_n 2, 1) := by decide +kernel
theorem dX11_alarms_81 : decode cX11_alarms 81 = .ok (.ireturn, 1) := by decide +kernel
theorem dX11_reason_0 : decode cX11_reason 0 = .ok (.aload_n 0, 1) := by decide +kernel
theorem dX11_reason_1 : decode cX11_reason 1 = .ok (.getfield 29, 3) := by decide +kernel
theorem dX11_reason_4 : decode cX11_reason 4 = .ok (.iload_n 1, 1) := by decide +kernel
theorem dX11_reason_5 : decode cX11_reason 5 = .ok (.iaload, 1) := by decide +kernel
theorem dX11_reason_6 : decode cX11_reason 6 = .ok (.istore_n 3, 1) := by decide +kernel
theorem dX11_reason_7 : decode cX11_reason 7 = .ok (.aload_n 0, 1) := by decide +kernel
theorem dX11_reason_8 : decode cX11_reason 8 = .ok (.getfield 32, 3) := by decide +kernel
theorem dX11_reason_11 : decode cX11_reason 11 = .ok (.iload_n 1, 1) := by decide +kernel
theorem dX11_reason_12 : decode cX11_reason 12 = .ok (.iaload, 1) := by decide +kernel
theorem dX11_reason_13 : decode cX11_reason 13 = .ok (.istore 4, 2) := by decide +kernel
theorem dX11_reason_15 : decode cX11_reason 15 = .ok (.aload_n 0, 1) := by decide +kernel
theorem dX11_reason_16 : decode cX11_reason 16 = .ok (.getfield 26, 3) := by decide +kernel
theorem dX11_reason_19 : decode cX11_reason 19 = .ok (.iload_n 1, 1) := by decide +kernel
theorem dX11_reason_20 : decode cX11_reason 20 = .ok (.iaload, 1) := by decide +kernel
theorem dX11_reason_21 : decode cX11_reason 21 = .ok (.tableswitch 99 5 13 #[80, 99, 99, 92, 99, 99, 51, 72, 72], 51) := by decide +kernel
theorem dX11_reason_72 : decode cX11_reason 72 = .ok (.aload_n 0, 1) := by decide +kernel
theorem dX11_reason_73 : decode cX11_reason 73 = .ok (.aload_n 0, 1) := by decide +kernel
theorem dX11_reason_74 : decode cX11_reason 74 = .ok (.iload_n 3, 1) := by decide +kernel
theorem dX11_reason_75 : decode cX11_reason 75 = .ok (.iload_n 2, 1) := by decide +kernel
theorem dX11_reason_76 : decode cX11_reason 76 = .ok (.invokevirtual 407, 3) := by decide +kernel
theorem dX11_reason_79 : decode cX11_reason 79 = .ok (.ifCond .eq 8, 3) := by decide +kernel
theorem dX11_reason_82 : decode cX11_reason 82 = .ok (.iload 4, 2) := by decide +kernel
theorem dX11_reason_84 : decode cX11_reason 84 = .ok (.goto 4, 3) := by decide +kernel
theorem dX11_reason_87 : decode cX11_reason 87 = .ok (.iload_n 3, 1) := by decide +kernel
theorem dX11_reason_88 : decode cX11_reason 88 = .ok (.iload_n 2, 1) := by decide +kernel
theorem dX11_reason_89 : decode cX11_reason 89 = .ok (.invokevirtual 471, 3) := by decide +kernel
theorem dX11_reason_92 : decode cX11_reason 92 = .ok (.ireturn, 1) := by decide +kernel
theorem dX11_reason_93 : decode cX11_reason 93 = .ok (.aload_n 0, 1) := by decide +kernel
theorem dX11_reason_94 : decode cX11_reason 94 = .ok (.iload 4, 2) := by decide +kernel
theorem dX11_reason_96 : decode cX11_reason 96 = .ok (.iload_n 2, 1) := by decide +kernel
theorem dX11_reason_97 : decode cX11_reason 97 = .ok (.invokevirtual 471, 3) := by decide +kernel
theorem dX11_reason_100 : decode cX11_reason 100 = .ok (.ireturn, 1) := by decide +kernel
theorem dX11_reason_101 : decode cX11_reason 101 = .ok (.aload_n 0, 1) := by decide +kernel
theorem dX11_reason_102 : decode cX11_reason 102 = .ok (.iload_n 3, 1) := by decide +kernel
theorem dX11_reason_103 : decode cX11_reason 103 = .ok (.aload_n 0, 1) := by decide +kernel
theorem dX11_reason_104 : decode cX11_reason 104 = .ok (.iload_n 1, 1) := by decide +kernel
theorem dX11_reason_105 : decode cX11_reason 105 = .ok (.iload_n 2, 1) := by decide +kernel
theorem dX11_reason_106 : decode cX11_reason 106 = .ok (.invokevirtual 413, 3) := by decide +kernel
theorem dX11_reason_109 : decode cX11_reason 109 = .ok (.invokevirtual 471, 3) := by decide +kernel
theorem dX11_reason_112 : decode cX11_reason 112 = .ok (.ireturn, 1) := by decide +kernel
theorem dX11_reason_113 : decode cX11_reason 113 = .ok (.aload_n 0, 1) := by decide +kernel
theorem dX11_reason_114 : decode cX11_reason 114 = .ok (.iload_n 3, 1) := by decide +kernel
theorem dX11_reason_115 : decode cX11_reason 115 = .ok (.iload_n 2, 1) := by decide +kernel
theorem dX11_reason_116 : decode cX11_reason 116 = .ok (.invokevirtual 471, 3) := by decide +kernel
theorem dX11_reason_119 : decode cX11_reason 119 = .ok (.ireturn, 1) := by decide +kernel
theorem dX11_reason_120 : decode cX11_reason 120 = .ok (.aload_n 0, 1) := by decide +kernel
theorem dX11_reason_121 : decode cX11_reason 121 = .ok (.getfield 26, 3) := by decide +kernel
theorem dX11_reason_124 : decode cX11_reason 124 = .ok (.iload_n 1, 1) := by decide +kernel
theorem dX11_reason_125 : decode cX11_reason 125 = .ok (.iaload, 1) := by decide +kernel
theorem dX11_reason_126 : decode cX11_reason 126 = .ok (.iconst 1, 1) := by decide +kernel
theorem dX11_reason_127 : decode cX11_reason 127 = .ok (.if_icmp .ne 16, 3) := by decide +kernel
theorem dX11_reason_130 : decode cX11_reason 130 = .ok (.iload_n 2, 1) := by decide +kernel
theorem dX11_reason_131 : decode cX11_reason 131 = .ok (.ifCond .le 12, 3) := by decide +kernel
theorem dX11_reason_134 : decode cX11_reason 134 = .ok (.aload_n 0, 1) := by decide +kernel
theorem dX11_reason_135 : decode cX11_reason 135 = .ok (.iload_n 3, 1) := by decide +kernel
theorem dX11_reason_136 : decode cX11_reason 136 = .ok (.iload_n 2, 1) := by decide +kernel
theorem dX11_reason_137 : decode cX11_reason 137 = .ok (.iconst 1, 1) := by decide +kernel
theorem dX11_reason_138 : decode cX11_reason 138 = .ok (.isub, 1) := by decide +kernel
theorem dX11_reason_139 : decode cX11_reason 139 = .ok (.invokevirtual 471, 3) := by decide +kernel
theorem dX11_reason_142 : decode cX11_reason 142 = .ok (.ireturn, 1) := by decide +kernel
theorem dX11_reason_143 : decode cX11_reason 143 = .ok (.aload_n 0, 1) := by decide +kernel
theorem dX11_reason_144 : decode cX11_reason 144 = .ok (.iload_n 2, 1) := by decide +kernel
theorem dX11_reason_145 : decode cX11_reason 145 = .ok (.putfield 474, 3) := by decide +kernel
theorem dX11_reason_148 : decode cX11_reason 148 = .ok (.aload_n 0, 1) := by decide +kernel
theorem dX11_reason_149 : decode cX11_reason 149 = .ok (.getfield 44, 3) := by decide +kernel
theorem dX11_reason_152 : decode cX11_reason 152 = .ok (.iload_n 1, 1) := by decide +kernel
theorem dX11_reason_153 : decode cX11_reason 153 = .ok (.iaload, 1) := by decide +kernel
theorem dX11_reason_154 : decode cX11_reason 154 = .ok (.ireturn, 1) := by decide +kernel
theorem dX11_why_0 : decode cX11_why 0 = .ok (.aload_n 0, 1) := by decide +kernel
theorem dX11_why_1 : decode cX11_why 1 = .ok (.iconst 0, 1) := by decide +kernel
theorem dX11_why_2 : decode cX11_why 2 = .ok (.putfield 91, 3) := by decide +kernel
theorem dX11_why_5 : decode cX11_why 5 = .ok (.aload_n 0, 1) := by decide +kernel
theorem dX11_why_6 : decode cX11_why 6 = .ok (.iload_n 1, 1) := by decide +kernel
theorem dX11_why_7 : decode cX11_why 7 = .ok (.invokevirtual 465, 3) := by decide +kernel
theorem dX11_why_10 : decode cX11_why 10 = .ok (.ifCond .eq 11, 3) := by decide +kernel
theorem dX11_why_13 : decode cX11_why 13 = .ok (.aload_n 0, 1) := by decide +kernel
theorem dX11_why_14 : decode cX11_why 14 = .ok (.iload_n 2, 1) := by decide +kernel
theorem dX11_why_15 : decode cX11_why 15 = .ok (.invokevirtual 462, 3) := by decide +kernel
theorem dX11_why_18 : decode cX11_why 18 = .ok (.ifCond .ne 9, 3) := by decide +kernel
theorem dX11_why_21 : decode cX11_why 21 = .ok (.aload_n 0, 1) := by decide +kernel
theorem dX11_why_22 : decode cX11_why 22 = .ok (.iconst 1, 1) := by decide +kernel
theorem dX11_why_23 : decode cX11_why 23 = .ok (.invokevirtual 97, 3) := by decide +kernel
theorem dX11_why_26 : decode cX11_why 26 = .ok (.ireturn, 1) := by decide +kernel
theorem dX11_why_27 : decode cX11_why 27 = .ok (.aload_n 0, 1) := by decide +kernel
theorem dX11_why_28 : decode cX11_why 28 = .ok (.iload_n 1, 1) := by decide +kernel
theorem dX11_why_29 : decode cX11_why 29 = .ok (.iload_n 2, 1) := by decide +kernel
theorem dX11_why_30 : decode cX11_why 30 = .ok (.invokevirtual 446, 3) := by decide +kernel
theorem dX11_why_33 : decode cX11_why 33 = .ok (.ifCond .eq 9, 3) := by decide +kernel
theorem dX11_why_36 : decode cX11_why 36 = .ok (.aload_n 0, 1) := by decide +kernel
theorem dX11_why_37 : decode cX11_why 37 = .ok (.iconst 2, 1) := by decide +kernel
theorem dX11_why_38 : decode cX11_why 38 = .ok (.invokevirtual 97, 3) := by decide +kernel
theorem dX11_why_41 : decode cX11_why 41 = .ok (.ireturn, 1) := by decide +kernel
theorem dX11_why_42 : decode cX11_why 42 = .ok (.aload_n 0, 1) := by decide +kernel
theorem dX11_why_43 : decode cX11_why 43 = .ok (.aload_n 0, 1) := by decide +kernel
theorem dX11_why_44 : decode cX11_why 44 = .ok (.getfield 67, 3) := by decide +kernel
theorem dX11_why_47 : decode cX11_why 47 = .ok (.bipush 36, 2) := by decide +kernel
theorem dX11_why_49 : decode cX11_why 49 = .ok (.iload_n 1, 1) := by decide +kernel
theorem dX11_why_50 : decode cX11_why 50 = .ok (.iadd, 1) := by decide +kernel
theorem dX11_why_51 : decode cX11_why 51 = .ok (.iaload, 1) := by decide +kernel
theorem dX11_why_52 : decode cX11_why 52 = .ok (.iload_n 2, 1) := by decide +kernel
theorem dX11_why_53 : decode cX11_why 53 = .ok (.invokevirtual 471, 3) := by decide +kernel
theorem dX11_why_56 : decode cX11_why 56 = .ok (.istore 4, 2) := by decide +kernel
theorem dX11_why_58 : decode cX11_why 58 = .ok (.iload_n 3, 1) := by decide +kernel
theorem dX11_why_59 : decode cX11_why 59 = .ok (.ifCond .eq 10, 3) := by decide +kernel
theorem dX11_why_62 : decode cX11_why 62 = .ok (.aload_n 0, 1) := by decide +kernel
theorem dX11_why_63 : decode cX11_why 63 = .ok (.getfield 474, 3) := by decide +kernel
theorem dX11_why_66 : decode cX11_why 66 = .ok (.goto 5, 3) := by decide +kernel
theorem dX11_why_69 : decode cX11_why 69 = .ok (.iload 4, 2) := by decide +kernel
theorem dX11_why_71 : decode cX11_why 71 = .ok (.ireturn, 1) := by decide +kernel
theorem dX11_differ_0 : decode cX11_differ 0 = .ok (.aload_n 0, 1) := by decide +kernel
theorem dX11_differ_1 : decode cX11_differ 1 = .ok (.iconst 0, 1) := by decide +kernel
theorem dX11_differ_2 : decode cX11_differ 2 = .ok (.putfield 91, 3) := by decide +kernel
theorem dX11_differ_5 : decode cX11_differ 5 = .ok (.aload_n 0, 1) := by decide +kernel
theorem dX11_differ_6 : decode cX11_differ 6 = .ok (.iload_n 1, 1) := by decide +kernel
theorem dX11_differ_7 : decode cX11_differ 7 = .ok (.invokevirtual 465, 3) := by decide +kernel
theorem dX11_differ_10 : decode cX11_differ 10 = .ok (.ifCond .eq 11, 3) := by decide +kernel
theorem dX11_differ_13 : decode cX11_differ 13 = .ok (.aload_n 0, 1) := by decide +kernel
theorem dX11_differ_14 : decode cX11_differ 14 = .ok (.iload_n 2, 1) := by decide +kernel
theorem dX11_differ_15 : decode cX11_differ 15 = .ok (.invokevirtual 465, 3) := by decide +kernel
theorem dX11_differ_18 : decode cX11_differ 18 = .ok (.ifCond .ne 9, 3) := by decide +kernel
theorem dX11_differ_21 : decode cX11_differ 21 = .ok (.aload_n 0, 1) := by decide +kernel
theorem dX11_differ_22 : decode cX11_differ 22 = .ok (.iconst 1, 1) := by decide +kernel
theorem dX11_differ_23 : decode cX11_differ 23 = .ok (.invokevirtual 97, 3) := by decide +kernel
theorem dX11_differ_26 : decode cX11_differ 26 = .ok (.ireturn, 1) := by decide +kernel
theorem dX11_differ_27 : decode cX11_differ 27 = .ok (.iconst 0, 1) := by decide +kernel
theorem dX11_differ_28 : decode cX11_differ 28 = .ok (.istore_n 3, 1) := by decide +kernel
theorem dX11_differ_29 : decode cX11_differ 29 = .ok (.iload_n 3, 1) := by decide +kernel
theorem dX11_differ_30 : decode cX11_differ 30 = .ok (.aload_n 0, 1) := by decide +kernel
theorem dX11_differ_31 : decode cX11_differ 31 = .ok (.getfield 369, 3) := by decide +kernel
theorem dX11_differ_34 : decode cX11_differ 34 = .ok (.if_icmp .ge 26, 3) := by decide +kernel
theorem dX11_differ_37 : decode cX11_differ 37 = .ok (.aload_n 0, 1) := by decide +kernel
theorem dX11_differ_38 : decode cX11_differ 38 = .ok (.iload_n 1, 1) := by decide +kernel
theorem dX11_differ_39 : decode cX11_differ 39 = .ok (.iload_n 3, 1) := by decide +kernel
theorem dX11_differ_40 : decode cX11_differ 40 = .ok (.invokevirtual 446, 3) := by decide +kernel
theorem dX11_differ_43 : decode cX11_differ 43 = .ok (.aload_n 0, 1) := by decide +kernel
theorem dX11_differ_44 : decode cX11_differ 44 = .ok (.iload_n 2, 1) := by decide +kernel
theorem dX11_differ_45 : decode cX11_differ 45 = .ok (.iload_n 3, 1) := by decide +kernel
theorem dX11_differ_46 : decode cX11_differ 46 = .ok (.invokevirtual 446, 3) := by decide +kernel
theorem dX11_differ_49 : decode cX11_differ 49 = .ok (.if_icmp .eq 5, 3) := by decide +kernel
theorem dX11_differ_52 : decode cX11_differ 52 = .ok (.iload_n 3, 1) := by decide +kernel
theorem dX11_differ_53 : decode cX11_differ 53 = .ok (.ireturn, 1) := by decide +kernel
theorem dX11_differ_54 : decode cX11_differ 54 = .ok (.iinc 3 1, 3) := by decide +kernel
theorem dX11_differ_57 : decode cX11_differ 57 = .ok (.goto (-28), 3) := by decide +kernel
theorem dX11_differ_60 : decode cX11_differ 60 = .ok (.iconst (-1), 1) := by decide +kernel
theorem dX11_differ_61 : decode cX11_differ 61 = .ok (.ireturn, 1) := by decide +kernel
theorem dX11_share_0 : decode cX11_share 0 = .ok (.aload_n 0, 1) := by decide +kernel
theorem dX11_share_1 : decode cX11_share 1 = .ok (.aload_n 0, 1) := by decide +kernel
theorem dX11_share_2 : decode cX11_share 2 = .ok (.iload_n 1, 1) := by decide +kernel
theorem dX11_share_3 : decode cX11_share 3 = .ok (.invokevirtual 465, 3) := by decide +kernel
theorem dX11_share_6 : decode cX11_share 6 = .ok (.ifCond .eq 7, 3) := by decide +kernel
theorem dX11_share_9 : decode cX11_share 9 = .ok (.iconst 0, 1) := by decide +kernel
theorem dX11_share_10 : decode cX11_share 10 = .ok (.goto 4, 3) := by decide +kernel
theorem dX11_share_13 : decode cX11_share 13 = .ok (.iconst 1, 1) := by decide +kernel
theorem dX11_share_14 : decode cX11_share 14 = .ok (.putfield 91, 3) := by decide +kernel
theorem dX11_share_17 : decode cX11_share 17 = .ok (.aload_n 0, 1) := by decide +kernel
theorem dX11_share_18 : decode cX11_share 18 = .ok (.getfield 91, 3) := by decide +kernel
theorem dX11_share_21 : decode cX11_share 21 = .ok (.ifCond .eq 5, 3) := by decide +kernel
theorem dX11_share_24 : decode cX11_share 24 = .ok (.dconst 0, 1) := by decide +kernel
theorem dX11_share_25 : decode cX11_share 25 = .ok (.dreturn, 1) := by decide +kernel
theorem dX11_share_26 : decode cX11_share 26 = .ok (.aload_n 0, 1) := by decide +kernel
theorem dX11_share_27 : decode cX11_share 27 = .ok (.getfield 369, 3) := by decide +kernel
theorem dX11_share_30 : decode cX11_share 30 = .ok (.ifCond .ne 7, 3) := by decide +kernel
theorem dX11_share_33 : decode cX11_share 33 = .ok (.dconst 1, 1) := by decide +kernel
theorem dX11_share_34 : decode cX11_share 34 = .ok (.goto 21, 3) := by decide +kernel
theorem dX11_share_37 : decode cX11_share 37 = .ok (.aload_n 0, 1) := by decide +kernel
theorem dX11_share_38 : decode cX11_share 38 = .ok (.getfield 369, 3) := by decide +kernel
theorem dX11_share_41 : decode cX11_share 41 = .ok (.aload_n 0, 1) := by decide +kernel
theorem dX11_share_42 : decode cX11_share 42 = .ok (.iload_n 1, 1) := by decide +kernel
theorem dX11_share_43 : decode cX11_share 43 = .ok (.iconst 1, 1) := by decide +kernel
theorem dX11_share_44 : decode cX11_share 44 = .ok (.invokevirtual 468, 3) := by decide +kernel
theorem dX11_share_47 : decode cX11_share 47 = .ok (.isub, 1) := by decide +kernel
theorem dX11_share_48 : decode cX11_share 48 = .ok (.i2d, 1) := by decide +kernel
theorem dX11_share_49 : decode cX11_share 49 = .ok (.aload_n 0, 1) := by decide +kernel
theorem dX11_share_50 : decode cX11_share 50 = .ok (.getfield 369, 3) := by decide +kernel
theorem dX11_share_53 : decode cX11_share 53 = .ok (.i2d, 1) := by decide +kernel
theorem dX11_share_54 : decode cX11_share 54 = .ok (.ddiv, 1) := by decide +kernel
theorem dX11_share_55 : decode cX11_share 55 = .ok (.dreturn, 1) := by decide +kernel
theorem dX11_ask_0 : decode cX11_ask 0 = .ok (.aload_n 0, 1) := by decide +kernel
theorem dX11_ask_1 : decode cX11_ask 1 = .ok (.iconst 0, 1) := by decide +kernel
theorem dX11_ask_2 : decode cX11_ask 2 = .ok (.putfield 91, 3) := by decide +kernel
theorem dX11_ask_5 : decode cX11_ask 5 = .ok (.aload_n 0, 1) := by decide +kernel
theorem dX11_ask_6 : decode cX11_ask 6 = .ok (.iconst (-1), 1) := by decide +kernel
theorem dX11_ask_7 : decode cX11_ask 7 = .ok (.putfield 13, 3) := by decide +kernel
theorem dX11_ask_10 : decode cX11_ask 10 = .ok (.aload_n 0, 1) := by decide +kernel
theorem dX11_ask_11 : decode cX11_ask 11 = .ok (.invokevirtual 375, 3) := by decide +kernel
theorem dX11_ask_14 : decode cX11_ask 14 = .ok (.aload_n 0, 1) := by decide +kernel
theorem dX11_ask_15 : decode cX11_ask 15 = .ok (.iconst 0, 1) := by decide +kernel
theorem dX11_ask_16 : decode cX11_ask 16 = .ok (.putfield 152, 3) := by decide +kernel
theorem dX11_ask_19 : decode cX11_ask 19 = .ok (.aload_n 0, 1) := by decide +kernel
theorem dX11_ask_20 : decode cX11_ask 20 = .ok (.iconst 0, 1) := by decide +kernel
theorem dX11_ask_21 : decode cX11_ask 21 = .ok (.invokevirtual 190, 3) := by decide +kernel
theorem dX11_ask_24 : decode cX11_ask 24 = .ok (.ifCond .eq 19, 3) := by decide +kernel
theorem dX11_ask_27 : decode cX11_ask 27 = .ok (.aload_n 0, 1) := by decide +kernel
theorem dX11_ask_28 : decode cX11_ask 28 = .ok (.getfield 17, 3) := by decide +kernel
theorem dX11_ask_31 : decode cX11_ask 31 = .ok (.aload_n 0, 1) := by decide +kernel
theorem dX11_ask_32 : decode cX11_ask 32 = .ok (.getfield 152, 3) := by decide +kernel
theorem dX11_ask_35 : decode cX11_ask 35 = .ok (.iaload, 1) := by decide +kernel
theorem dX11_ask_36 : decode cX11_ask 36 = .ok (.ifCond .ne 7, 3) := by decide +kernel
theorem dX11_ask_39 : decode cX11_ask 39 = .ok (.iconst 0, 1) := by decide +kernel
theorem dX11_ask_40 : decode cX11_ask 40 = .ok (.goto 12, 3) := by decide +kernel
theorem dX11_ask_43 : decode cX11_ask 43 = .ok (.aload_n 0, 1) := by decide +kernel
theorem dX11_ask_44 : decode cX11_ask 44 = .ok (.iconst 1, 1) := by decide +kernel
theorem dX11_ask_45 : decode cX11_ask 45 = .ok (.aload_n 0, 1) := by decide +kernel
theorem dX11_ask_46 : decode cX11_ask 46 = .ok (.getfield 152, 3) := by decide +kernel
theorem dX11_ask_49 : decode cX11_ask 49 = .ok (.invokevirtual 294, 3) := by decide +kernel
theorem dX11_ask_52 : decode cX11_ask 52 = .ok (.istore_n 1, 1) := by decide +kernel
theorem dX11_ask_53 : decode cX11_ask 53 = .ok (.aload_n 0, 1) := by decide +kernel
theorem dX11_ask_54 : decode cX11_ask 54 = .ok (.iconst 0, 1) := by decide +kernel
theorem dX11_ask_55 : decode cX11_ask 55 = .ok (.putfield 152, 3) := by decide +kernel
theorem dX11_ask_58 : decode cX11_ask 58 = .ok (.aload_n 0, 1) := by decide +kernel
theorem dX11_ask_59 : decode cX11_ask 59 = .ok (.getfield 73, 3) := by decide +kernel
theorem dX11_ask_62 : decode cX11_ask 62 = .ok (.iconst (-1), 1) := by decide +kernel
theorem dX11_ask_63 : decode cX11_ask 63 = .ok (.if_icmp .ne 10, 3) := by decide +kernel
theorem dX11_ask_66 : decode cX11_ask 66 = .ok (.aload_n 0, 1) := by decide +kernel
theorem dX11_ask_67 : decode cX11_ask 67 = .ok (.getfield 366, 3) := by decide +kernel
theorem dX11_ask_70 : decode cX11_ask 70 = .ok (.goto 7, 3) := by decide +kernel
theorem dX11_ask_73 : decode cX11_ask 73 = .ok (.aload_n 0, 1) := by decide +kernel
theorem dX11_ask_74 : decode cX11_ask 74 = .ok (.getfield 477, 3) := by decide +kernel
theorem dX11_ask_77 : decode cX11_ask 77 = .ok (.istore_n 2, 1) := by decide +kernel
theorem dX11_ask_78 : decode cX11_ask 78 = .ok (.aload_n 0, 1) := by decide +kernel
theorem dX11_ask_79 : decode cX11_ask 79 = .ok (.iload_n 2, 1) := by decide +kernel
theorem dX11_ask_80 : decode cX11_ask 80 = .ok (.putfield 312, 3) := by decide +kernel
theorem dX11_ask_83 : decode cX11_ask 83 = .ok (.iload_n 1, 1) := by decide +kernel
theorem dX11_ask_84 : decode cX11_ask 84 = .ok (.ifCond .ne 8, 3) := by decide +kernel
theorem dX11_ask_87 : decode cX11_ask 87 = .ok (.aload_n 0, 1) := by decide +kernel
theorem dX11_ask_88 : decode cX11_ask 88 = .ok (.invokevirtual 306, 3) := by decide +kernel
theorem dX11_ask_91 : decode cX11_ask 91 = .ok (.istore_n 1, 1) := by decide +kernel
theorem dX11_ask_92 : decode cX11_ask 92 = .ok (.aload_n 0, 1) := by decide +kernel
theorem dX11_ask_93 : decode cX11_ask 93 = .ok (.iconst 0, 1) := by decide +kernel
theorem dX11_ask_94 : decode cX11_ask 94 = .ok (.putfield 94, 3) := by decide +kernel
theorem dX11_ask_97 : decode cX11_ask 97 = .ok (.iload_n 1, 1) := by decide +kernel
theorem dX11_ask_98 : decode cX11_ask 98 = .ok (.ifCond .eq 5, 3) := by decide +kernel
theorem dX11_ask_101 : decode cX11_ask 101 = .ok (.iload_n 1, 1) := by decide +kernel
theorem dX11_ask_102 : decode cX11_ask 102 = .ok (.ireturn, 1) := by decide +kernel
theorem dX11_ask_103 : decode cX11_ask 103 = .ok (.aload_n 0, 1) := by decide +kernel
theorem dX11_ask_104 : decode cX11_ask 104 = .ok (.aload_n 0, 1) := by decide +kernel
theorem dX11_ask_105 : decode cX11_ask 105 = .ok (.iload_n 2, 1) := by decide +kernel
theorem dX11_ask_106 : decode cX11_ask 106 = .ok (.invokevirtual 480, 3) := by decide +kernel
theorem dX11_ask_109 : decode cX11_ask 109 = .ok (.putfield 73, 3) := by decide +kernel
theorem dX11_ask_112 : decode cX11_ask 112 = .ok (.aload_n 0, 1) := by decide +kernel
theorem dX11_ask_113 : decode cX11_ask 113 = .ok (.aload_n 0, 1) := by decide +kernel
theorem dX11_ask_114 : decode cX11_ask 114 = .ok (.getfield 312, 3) := by decide +kernel
theorem dX11_ask_117 : decode cX11_ask 117 = .ok (.putfield 477, 3) := by decide +kernel
theorem dX11_ask_120 : decode cX11_ask 120 = .ok (.iconst 0, 1) := by decide +kernel
theorem dX11_ask_121 : decode cX11_ask 121 = .ok (.ireturn, 1) := by decide +kernel
theorem dX11_moveQuestion_0 : decode cX11_moveQuestion 0 = .ok (.iload_n 1, 1) := by decide +kernel
theorem dX11_moveQuestion_1 : decode cX11_moveQuestion 1 = .ok (.aload_n 0, 1) := by decide +kernel
theorem dX11_moveQuestion_2 : decode cX11_moveQuestion 2 = .ok (.getfield 366, 3) := by decide +kernel
theorem dX11_moveQuestion_5 : decode cX11_moveQuestion 5 = .ok (.isub, 1) := by decide +kernel
theorem dX11_moveQuestion_6 : decode cX11_moveQuestion 6 = .ok (.istore_n 2, 1) := by decide +kernel
theorem dX11_moveQuestion_7 : decode cX11_moveQuestion 7 = .ok (.iload_n 1, 1) := by decide +kernel
theorem dX11_moveQuestion_8 : decode cX11_moveQuestion 8 = .ok (.istore_n 3, 1) := by decide +kernel
theorem dX11_moveQuestion_9 : decode cX11_moveQuestion 9 = .ok (.iload_n 3, 1) := by decide +kernel
theorem dX11_moveQuestion_10 : decode cX11_moveQuestion 10 = .ok (.aload_n 0, 1) := by decide +kernel
theorem dX11_moveQuestion_11 : decode cX11_moveQuestion 11 = .ok (.getfield 312, 3) := by decide +kernel
theorem dX11_moveQuestion_14 : decode cX11_moveQuestion 14 = .ok (.if_icmp .ge 152, 3) := by decide +kernel
theorem dX11_moveQuestion_17 : decode cX11_moveQuestion 17 = .ok (.aload_n 0, 1) := by decide +kernel
theorem dX11_moveQuestion_18 : decode cX11_moveQuestion 18 = .ok (.getfield 26, 3) := by decide +kernel
theorem dX11_moveQuestion_21 : decode cX11_moveQuestion 21 = .ok (.iload_n 3, 1) := by decide +kernel
theorem dX11_moveQuestion_22 : decode cX11_moveQuestion 22 = .ok (.iload_n 2, 1) := by decide +kernel
theorem dX11_moveQuestion_23 : decode cX11_moveQuestion 23 = .ok (.isub, 1) := by decide +kernel
theorem dX11_moveQuestion_24 : decode cX11_moveQuestion 24 = .ok (.aload_n 0, 1) := by decide +kernel
theorem dX11_moveQuestion_25 : decode cX11_moveQuestion 25 = .ok (.getfield 26, 3) := by decide +kernel
theorem dX11_moveQuestion_28 : decode cX11_moveQuestion 28 = .ok (.iload_n 3, 1) := by decide +kernel
theorem dX11_moveQuestion_29 : decode cX11_moveQuestion 29 = .ok (.iaload, 1) := by decide +kernel
theorem dX11_moveQuestion_30 : decode cX11_moveQuestion 30 = .ok (.iastore, 1) := by decide +kernel
theorem dX11_moveQuestion_31 : decode cX11_moveQuestion 31 = .ok (.aload_n 0, 1) := by decide +kernel
theorem dX11_moveQuestion_32 : decode cX11_moveQuestion 32 = .ok (.getfield 29, 3) := by decide +kernel
theorem dX11_moveQuestion_35 : decode cX11_moveQuestion 35 = .ok (.iload_n 3, 1) := by decide +kernel
theorem dX11_moveQuestion_36 : decode cX11_moveQuestion 36 = .ok (.iload_n 2, 1) := by decide +kernel
theorem dX11_moveQuestion_37 : decode cX11_moveQuestion 37 = .ok (.isub, 1) := by decide +kernel
theorem dX11_moveQuestion_38 : decode cX11_moveQuestion 38 = .ok (.aload_n 0, 1) := by decide +kernel
theorem dX11_moveQuestion_39 : decode cX11_moveQuestion 39 = .ok (.getfield 29, 3) := by decide +kernel
theorem dX11_moveQuestion_42 : decode cX11_moveQuestion 42 = .ok (.iload_n 3, 1) := by decide +kernel
theorem dX11_moveQuestion_43 : decode cX11_moveQuestion 43 = .ok (.iaload, 1) := by decide +kernel
theorem dX11_moveQuestion_44 : decode cX11_moveQuestion 44 = .ok (.iload_n 1, 1) := by decide +kernel
theorem dX11_moveQuestion_45 : decode cX11_moveQuestion 45 = .ok (.iload_n 2, 1) := by decide +kernel
theorem dX11_moveQuestion_46 : decode cX11_moveQuestion 46 = .ok (.aload_n 0, 1) := by decide +kernel
theorem dX11_moveQuestion_47 : decode cX11_moveQuestion 47 = .ok (.getfield 26, 3) := by decide +kernel
theorem dX11_moveQuestion_50 : decode cX11_moveQuestion 50 = .ok (.iload_n 3, 1) := by decide +kernel
theorem dX11_moveQuestion_51 : decode cX11_moveQuestion 51 = .ok (.iaload, 1) := by decide +kernel
theorem dX11_moveQuestion_52 : decode cX11_moveQuestion 52 = .ok (.iconst 1, 1) := by decide +kernel
theorem dX11_moveQuestion_53 : decode cX11_moveQuestion 53 = .ok (.invokestatic 483, 3) := by decide +kernel
theorem dX11_moveQuestion_56 : decode cX11_moveQuestion 56 = .ok (.invokestatic 486, 3) := by decide +kernel
theorem dX11_moveQuestion_59 : decode cX11_moveQuestion 59 = .ok (.iastore, 1) := by decide +kernel
theorem dX11_moveQuestion_60 : decode cX11_moveQuestion 60 = .ok (.aload_n 0, 1) := by decide +kernel
theorem dX11_moveQuestion_61 : decode cX11_moveQuestion 61 = .ok (.getfield 32, 3) := by decide +kernel
theorem dX11_moveQuestion_64 : decode cX11_moveQuestion 64 = .ok (.iload_n 3, 1) := by decide +kernel
theorem dX11_moveQuestion_65 : decode cX11_moveQuestion 65 = .ok (.iload_n 2, 1) := by decide +kernel
theorem dX11_moveQuestion_66 : decode cX11_moveQuestion 66 = .ok (.isub, 1) := by decide +kernel
theorem dX11_moveQuestion_67 : decode cX11_moveQuestion 67 = .ok (.aload_n 0, 1) := by decide +kernel
theorem dX11_moveQuestion_68 : decode cX11_moveQuestion 68 = .ok (.getfield 32, 3) := by decide +kernel
theorem dX11_moveQuestion_71 : decode cX11_moveQuestion 71 = .ok (.iload_n 3, 1) := by decide +kernel
theorem dX11_moveQuestion_72 : decode cX11_moveQuestion 72 = .ok (.iaload, 1) := by decide +kernel
theorem dX11_moveQuestion_73 : decode cX11_moveQuestion 73 = .ok (.iload_n 1, 1) := by decide +kernel
theorem dX11_moveQuestion_74 : decode cX11_moveQuestion 74 = .ok (.iload_n 2, 1) := by decide +kernel
theorem dX11_moveQuestion_75 : decode cX11_moveQuestion 75 = .ok (.aload_n 0, 1) := by decide +kernel
theorem dX11_moveQuestion_76 : decode cX11_moveQuestion 76 = .ok (.getfield 26, 3) := by decide +kernel
theorem dX11_moveQuestion_79 : decode cX11_moveQuestion 79 = .ok (.iload_n 3, 1) := by decide +kernel
theorem dX11_moveQuestion_80 : decode cX11_moveQuestion 80 = .ok (.iaload, 1) := by decide +kernel
theorem dX11_moveQuestion_81 : decode cX11_moveQuestion 81 = .ok (.iconst 2, 1) := by decide +kernel
theorem dX11_moveQuestion_82 : decode cX11_moveQuestion 82 = .ok (.invokestatic 483, 3) := by decide +kernel
theorem dX11_moveQuestion_85 : decode cX11_moveQuestion 85 = .ok (.invokestatic 486, 3) := by decide +kernel
theorem dX11_moveQuestion_88 : decode cX11_moveQuestion 88 = .ok (.iastore, 1) := by decide +kernel
theorem dX11_moveQuestion_89 : decode cX11_moveQuestion 89 = .ok (.aload_n 0, 1) := by decide +kernel
theorem dX11_moveQuestion_90 : decode cX11_moveQuestion 90 = .ok (.getfield 35, 3) := by decide +kernel
theorem dX11_moveQuestion_93 : decode cX11_moveQuestion 93 = .ok (.iload_n 3, 1) := by decide +kernel
theorem dX11_moveQuestion_94 : decode cX11_moveQuestion 94 = .ok (.iload_n 2, 1) := by decide +kernel
theorem dX11_moveQuestion_95 : decode cX11_moveQuestion 95 = .ok (.isub, 1) := by decide +kernel
theorem dX11_moveQuestion_96 : decode cX11_moveQuestion 96 = .ok (.aload_n 0, 1) := by decide +kernel
theorem dX11_moveQuestion_97 : decode cX11_moveQuestion 97 = .ok (.getfield 35, 3) := by decide +kernel
theorem dX11_moveQuestion_100 : decode cX11_moveQuestion 100 = .ok (.iload_n 3, 1) := by decide +kernel
theorem dX11_moveQuestion_101 : decode cX11_moveQuestion 101 = .ok (.iaload, 1) := by decide +kernel
theorem dX11_moveQuestion_102 : decode cX11_moveQuestion 102 = .ok (.iload_n 1, 1) := by decide +kernel
theorem dX11_moveQuestion_103 : decode cX11_moveQuestion 103 = .ok (.iload_n 2, 1) := by decide +kernel
theorem dX11_moveQuestion_104 : decode cX11_moveQuestion 104 = .ok (.aload_n 0, 1) := by decide +kernel
theorem dX11_moveQuestion_105 : decode cX11_moveQuestion 105 = .ok (.getfield 26, 3) := by decide +kernel
theorem dX11_moveQuestion_108 : decode cX11_moveQuestion 108 = .ok (.iload_n 3, 1) := by decide +kernel
theorem dX11_moveQuestion_109 : decode cX11_moveQuestion 109 = .ok (.iaload, 1) := by decide +kernel
theorem dX11_moveQuestion_110 : decode cX11_moveQuestion 110 = .ok (.iconst 3, 1) := by decide +kernel
theorem dX11_moveQuestion_111 : decode cX11_moveQuestion 111 = .ok (.invokestatic 483, 3) := by decide +kernel
theorem dX11_moveQuestion_114 : decode cX11_moveQuestion 114 = .ok (.invokestatic 486, 3) := by decide +kernel
theorem dX11_moveQuestion_117 : decode cX11_moveQuestion 117 = .ok (.iastore, 1) := by decide +kernel
theorem dX11_moveQuestion_118 : decode cX11_moveQuestion 118 = .ok (.aload_n 0, 1) := by decide +kernel
theorem dX11_moveQuestion_119 : decode cX11_moveQuestion 119 = .ok (.getfield 38, 3) := by decide +kernel
theorem dX11_moveQuestion_122 : decode cX11_moveQuestion 122 = .ok (.iload_n 3, 1) := by decide +kernel
theorem dX11_moveQuestion_123 : decode cX11_moveQuestion 123 = .ok (.iload_n 2, 1) := by decide +kernel
theorem dX11_moveQuestion_124 : decode cX11_moveQuestion 124 = .ok (.isub, 1) := by decide +kernel
theorem dX11_moveQuestion_125 : decode cX11_moveQuestion 125 = .ok (.aload_n 0, 1) := by decide +kernel
theorem dX11_moveQuestion_126 : decode cX11_moveQuestion 126 = .ok (.getfield 38, 3) := by decide +kernel
theorem dX11_moveQuestion_129 : decode cX11_moveQuestion 129 = .ok (.iload_n 3, 1) := by decide +kernel
theorem dX11_moveQuestion_130 : decode cX11_moveQuestion 130 = .ok (.iaload, 1) := by decide +kernel
theorem dX11_moveQuestion_131 : decode cX11_moveQuestion 131 = .ok (.iastore, 1) := by decide +kernel
theorem dX11_moveQuestion_132 : decode cX11_moveQuestion 132 = .ok (.aload_n 0, 1) := by decide +kernel
theorem dX11_moveQuestion_133 : decode cX11_moveQuestion 133 = .ok (.getfield 41, 3) := by decide +kernel
theorem dX11_moveQuestion_136 : decode cX11_moveQuestion 136 = .ok (.iload_n 3, 1) := by decide +kernel
theorem dX11_moveQuestion_137 : decode cX11_moveQuestion 137 = .ok (.iload_n 2, 1) := by decide +kernel
theorem dX11_moveQuestion_138 : decode cX11_moveQuestion 138 = .ok (.isub, 1) := by decide +kernel
theorem dX11_moveQuestion_139 : decode cX11_moveQuestion 139 = .ok (.aload_n 0, 1) := by decide +kernel
theorem dX11_moveQuestion_140 : decode cX11_moveQuestion 140 = .ok (.getfield 41, 3) := by decide +kernel
theorem dX11_moveQuestion_143 : decode cX11_moveQuestion 143 = .ok (.iload_n 3, 1) := by decide +kernel
theorem dX11_moveQuestion_144 : decode cX11_moveQuestion 144 = .ok (.iaload, 1) := by decide +kernel
theorem dX11_moveQuestion_145 : decode cX11_moveQuestion 145 = .ok (.iastore, 1) := by decide +kernel
theorem dX11_moveQuestion_146 : decode cX11_moveQuestion 146 = .ok (.aload_n 0, 1) := by decide +kernel
theorem dX11_moveQuestion_147 : decode cX11_moveQuestion 147 = .ok (.getfield 44, 3) := by decide +kernel
theorem dX11_moveQuestion_150 : decode cX11_moveQuestion 150 = .ok (.iload_n 3, 1) := by decide +kernel
theorem dX11_moveQuestion_151 : decode cX11_moveQuestion 151 = .ok (.iload_n 2, 1) := by decide +kernel
theorem dX11_moveQuestion_152 : decode cX11_moveQuestion 152 = .ok (.isub, 1) := by decide +kernel
theorem dX11_moveQuestion_153 : decode cX11_moveQuestion 153 = .ok (.aload_n 0, 1) := by decide +kernel
theorem dX11_moveQuestion_154 : decode cX11_moveQuestion 154 = .ok (.getfield 44, 3) := by decide +kernel
theorem dX11_moveQuestion_157 : decode cX11_moveQuestion 157 = .ok (.iload_n 3, 1) := by decide +kernel
theorem dX11_moveQuestion_158 : decode cX11_moveQuestion 158 = .ok (.iaload, 1) := by decide +kernel
theorem dX11_moveQuestion_159 : decode cX11_moveQuestion 159 = .ok (.iastore, 1) := by decide +kernel
theorem dX11_moveQuestion_160 : decode cX11_moveQuestion 160 = .ok (.iinc 3 1, 3) := by decide +kernel
theorem dX11_moveQuestion_163 : decode cX11_moveQuestion 163 = .ok (.goto (-154), 3) := by decide +kernel
theorem dX11_moveQuestion_166 : decode cX11_moveQuestion 166 = .ok (.aload_n 0, 1) := by decide +kernel
theorem dX11_moveQuestion_167 : decode cX11_moveQuestion 167 = .ok (.dup, 1) := by decide +kernel
theorem dX11_moveQuestion_168 : decode cX11_moveQuestion 168 = .ok (.getfield 312, 3) := by decide +kernel
theorem dX11_moveQuestion_171 : decode cX11_moveQuestion 171 = .ok (.iload_n 2, 1) := by decide +kernel
theorem dX11_moveQuestion_172 : decode cX11_moveQuestion 172 = .ok (.isub, 1) := by decide +kernel
theorem dX11_moveQuestion_173 : decode cX11_moveQuestion 173 = .ok (.putfield 312, 3) := by decide +kernel
theorem dX11_moveQuestion_176 : decode cX11_moveQuestion 176 = .ok (.aload_n 0, 1) := by decide +kernel
theorem dX11_moveQuestion_177 : decode cX11_moveQuestion 177 = .ok (.getfield 309, 3) := by decide +kernel
theorem dX11_moveQuestion_180 : decode cX11_moveQuestion 180 = .ok (.iload_n 2, 1) := by decide +kernel
theorem dX11_moveQuestion_181 : decode cX11_moveQuestion 181 = .ok (.isub, 1) := by decide +kernel
theorem dX11_moveQuestion_182 : decode cX11_moveQuestion 182 = .ok (.ireturn, 1) := by decide +kernel
theorem dX11_moved_0 : decode cX11_moved 0 = .ok (.iload_n 3, 1) := by decide +kernel
theorem dX11_moved_1 : decode cX11_moved 1 = .ok (.ifCond .eq 14, 3) := by decide +kernel
theorem dX11_moved_4 : decode cX11_moved 4 = .ok (.iload_n 0, 1) := by decide +kernel
theorem dX11_moved_5 : decode cX11_moved 5 = .ok (.iload_n 1, 1) := by decide +kernel
theorem dX11_moved_6 : decode cX11_moved 6 = .ok (.if_icmp .lt 9, 3) := by decide +kernel
theorem dX11_moved_9 : decode cX11_moved 9 = .ok (.iload_n 0, 1) := by decide +kernel
theorem dX11_moved_10 : decode cX11_moved 10 = .ok (.iload_n 2, 1) := by decide +kernel
theorem dX11_moved_11 : decode cX11_moved 11 = .ok (.isub, 1) := by decide +kernel
theorem dX11_moved_12 : decode cX11_moved 12 = .ok (.goto 4, 3) := by decide +kernel
theorem dX11_moved_15 : decode cX11_moved 15 = .ok (.iload_n 0, 1) := by decide +kernel
theorem dX11_moved_16 : decode cX11_moved 16 = .ok (.ireturn, 1) := by decide +kernel
theorem dX11_isPart_0 : decode cX11_isPart 0 = .ok (.iload_n 0, 1) := by decide +kernel
theorem dX11_isPart_1 : decode cX11_isPart 1 = .ok (.bipush 20, 2) := by decide +kernel
theorem dX11_isPart_3 : decode cX11_isPart 3 = .ok (.if_icmp .eq 9, 3) := by decide +kernel
theorem dX11_isPart_6 : decode cX11_isPart 6 = .ok (.iload_n 0, 1) := by decide +kernel
theorem dX11_isPart_7 : decode cX11_isPart 7 = .ok (.bipush 21, 2) := by decide +kernel
theorem dX11_isPart_9 : decode cX11_isPart 9 = .ok (.if_icmp .ne 5, 3) := by decide +kernel
theorem dX11_isPart_12 : decode cX11_isPart 12 = .ok (.iconst 0, 1) := by decide +kernel
theorem dX11_isPart_13 : decode cX11_isPart 13 = .ok (.ireturn, 1) := by decide +kernel
theorem dX11_isPart_14 : decode cX11_isPart 14 = .ok (.iload_n 1, 1) := by decide +kernel
theorem dX11_isPart_15 : decode cX11_isPart 15 = .ok (.iconst 3, 1) := by decide +kernel
theorem dX11_isPart_16 : decode cX11_isPart 16 = .ok (.if_icmp .lt 9, 3) := by decide +kernel
theorem dX11_isPart_19 : decode cX11_isPart 19 = .ok (.iload_n 0, 1) := by decide +kernel
theorem dX11_isPart_20 : decode cX11_isPart 20 = .ok (.bipush 33, 2) := by decide +kernel
theorem dX11_isPart_22 : decode cX11_isPart 22 = .ok (.if_icmp .ne 7, 3) := by decide +kernel
theorem dX11_isPart_25 : decode cX11_isPart 25 = .ok (.iconst 1, 1) := by decide +kernel
theorem dX11_isPart_26 : decode cX11_isPart 26 = .ok (.goto 4, 3) := by decide +kernel
theorem dX11_isPart_29 : decode cX11_isPart 29 = .ok (.iconst 0, 1) := by decide +kernel
theorem dX11_isPart_30 : decode cX11_isPart 30 = .ok (.ireturn, 1) := by decide +kernel
theorem dX11_answer_0 : decode cX11_answer 0 = .ok (.aload_n 0, 1) := by decide +kernel
theorem dX11_answer_1 : decode cX11_answer 1 = .ok (.aload_n 0, 1) := by decide +kernel
theorem dX11_answer_2 : decode cX11_answer 2 = .ok (.iload_n 1, 1) := by decide +kernel
theorem dX11_answer_3 : decode cX11_answer 3 = .ok (.invokevirtual 462, 3) := by decide +kernel
theorem dX11_answer_6 : decode cX11_answer 6 = .ok (.ifCond .ne 7, 3) := by decide +kernel
theorem dX11_answer_9 : decode cX11_answer 9 = .ok (.iconst 1, 1) := by decide +kernel
theorem dX11_answer_10 : decode cX11_answer 10 = .ok (.goto 16, 3) := by decide +kernel
theorem dX11_answer_13 : decode cX11_answer 13 = .ok (.aload_n 0, 1) := by decide +kernel
theorem dX11_answer_14 : decode cX11_answer 14 = .ok (.getfield 73, 3) := by decide +kernel
theorem dX11_answer_17 : decode cX11_answer 17 = .ok (.iconst (-1), 1) := by decide +kernel
theorem dX11_answer_18 : decode cX11_answer 18 = .ok (.if_icmp .ne 7, 3) := by decide +kernel
theorem dX11_answer_21 : decode cX11_answer 21 = .ok (.iconst 2, 1) := by decide +kernel
theorem dX11_answer_22 : decode cX11_answer 22 = .ok (.goto 4, 3) := by decide +kernel
theorem dX11_answer_25 : decode cX11_answer 25 = .ok (.iconst 0, 1) := by decide +kernel
theorem dX11_answer_26 : decode cX11_answer 26 = .ok (.putfield 91, 3) := by decide +kernel
theorem dX11_answer_29 : decode cX11_answer 29 = .ok (.aload_n 0, 1) := by decide +kernel
theorem dX11_answer_30 : decode cX11_answer 30 = .ok (.getfield 91, 3) := by decide +kernel
theorem dX11_answer_33 : decode cX11_answer 33 = .ok (.ifCond .eq 5, 3) := by decide +kernel
theorem dX11_answer_36 : decode cX11_answer 36 = .ok (.iconst 0, 1) := by decide +kernel
theorem dX11_answer_37 : decode cX11_answer 37 = .ok (.ireturn, 1) := by decide +kernel
theorem dX11_answer_38 : decode cX11_answer 38 = .ok (.iconst 0, 1) := by decide +kernel
theorem dX11_answer_39 : decode cX11_answer 39 = .ok (.istore_n 2, 1) := by decide +kernel
theorem dX11_answer_40 : decode cX11_answer 40 = .ok (.iload_n 2, 1) := by decide +kernel
theorem dX11_answer_41 : decode cX11_answer 41 = .ok (.iload_n 1, 1) := by decide +kernel
theorem dX11_answer_42 : decode cX11_answer 42 = .ok (.if_icmp .gt 22, 3) := by decide +kernel
theorem dX11_answer_45 : decode cX11_answer 45 = .ok (.aload_n 0, 1) := by decide +kernel
theorem dX11_answer_46 : decode cX11_answer 46 = .ok (.aload_n 0, 1) := by decide +kernel
theorem dX11_answer_47 : decode cX11_answer 47 = .ok (.getfield 366, 3) := by decide +kernel
theorem dX11_answer_50 : decode cX11_answer 50 = .ok (.aload_n 0, 1) := by decide +kernel
theorem dX11_answer_51 : decode cX11_answer 51 = .ok (.getfield 477, 3) := by decide +kernel
theorem dX11_answer_54 : decode cX11_answer 54 = .ok (.iload_n 2, 1) := by decide +kernel
theorem dX11_answer_55 : decode cX11_answer 55 = .ok (.invokevirtual 442, 3) := by decide +kernel
theorem dX11_answer_58 : decode cX11_answer 58 = .ok (.iinc 2 1, 3) := by decide +kernel
theorem dX11_answer_61 : decode cX11_answer 61 = .ok (.goto (-21), 3) := by decide +kernel
theorem dX11_answer_64 : decode cX11_answer 64 = .ok (.aload_n 0, 1) := by decide +kernel
theorem dX11_answer_65 : decode cX11_answer 65 = .ok (.aload_n 0, 1) := by decide +kernel
theorem dX11_answer_66 : decode cX11_answer 66 = .ok (.getfield 73, 3) := by decide +kernel
theorem dX11_answer_69 : decode cX11_answer 69 = .ok (.iload_n 1, 1) := by decide +kernel
theorem dX11_answer_70 : decode cX11_answer 70 = .ok (.invokevirtual 407, 3) := by decide +kernel
theorem dX11_answer_73 : decode cX11_answer 73 = .ok (.ireturn, 1) := by decide +kernel
theorem dX11_digest_0 : decode cX11_digest 0 = .ok (.aload_n 0, 1) := by decide +kernel
theorem dX11_digest_1 : decode cX11_digest 1 = .ok (.iconst 0, 1) := by decide +kernel
theorem dX11_digest_2 : decode cX11_digest 2 = .ok (.putfield 91, 3) := by decide +kernel
theorem dX11_digest_5 : decode cX11_digest 5 = .ok (.ldc2_w 490, 3) := by decide +kernel
theorem dX11_digest_8 : decode cX11_digest 8 = .ok (.lstore_n 1, 1) := by decide +kernel
theorem dX11_digest_9 : decode cX11_digest 9 = .ok (.iconst 0, 1) := by decide +kernel
theorem dX11_digest_10 : decode cX11_digest 10 = .ok (.istore_n 3, 1) := by decide +kernel
theorem dX11_digest_11 : decode cX11_digest 11 = .ok (.iload_n 3, 1) := by decide +kernel
theorem dX11_digest_12 : decode cX11_digest 12 = .ok (.bipush 7, 2) := by decide +kernel
theorem dX11_digest_14 : decode cX11_digest 14 = .ok (.if_icmp .ge 22, 3) := by decide +kernel
theorem dX11_digest_17 : decode cX11_digest 17 = .ok (.lload_n 1, 1) := by decide +kernel
theorem dX11_digest_18 : decode cX11_digest 18 = .ok (.ldc2_w 492, 3) := by decide +kernel
theorem dX11_digest_21 : decode cX11_digest 21 = .ok (.lmul, 1) := by decide +kernel
theorem dX11_digest_22 : decode cX11_digest 22 = .ok (.aload_n 0, 1) := by decide +kernel
theorem dX11_digest_23 : decode cX11_digest 23 = .ok (.iload_n 3, 1) := by decide +kernel
theorem dX11_digest_24 : decode cX11_digest 24 = .ok (.invokevirtual 390, 3) := by decide +kernel
theorem dX11_digest_27 : decode cX11_digest 27 = .ok (.i2l, 1) := by decide +kernel
theorem dX11_digest_28 : decode cX11_digest 28 = .ok (.ladd, 1) := by decide +kernel
theorem dX11_digest_29 : decode cX11_digest 29 = .ok (.lstore_n 1, 1) := by decide +kernel
theorem dX11_digest_30 : decode cX11_digest 30 = .ok (.iinc 3 1, 3) := by decide +kernel
theorem dX11_digest_33 : decode cX11_digest 33 = .ok (.goto (-22), 3) := by decide +kernel
theorem dX11_digest_36 : decode cX11_digest 36 = .ok (.iconst 0, 1) := by decide +kernel
theorem dX11_digest_37 : decode cX11_digest 37 = .ok (.istore_n 3, 1) := by decide +kernel
theorem dX11_digest_38 : decode cX11_digest 38 = .ok (.iload_n 3, 1) := by decide +kernel
theorem dX11_digest_39 : decode cX11_digest 39 = .ok (.aload_n 0, 1) := by decide +kernel
theorem dX11_digest_40 : decode cX11_digest 40 = .ok (.getfield 369, 3) := by decide +kernel
theorem dX11_digest_43 : decode cX11_digest 43 = .ok (.if_icmp .ge 188, 3) := by decide +kernel
theorem dX11_digest_46 : decode cX11_digest 46 = .ok (.lload_n 1, 1) := by decide +kernel
theorem dX11_digest_47 : decode cX11_digest 47 = .ok (.ldc2_w 492, 3) := by decide +kernel
theorem dX11_digest_50 : decode cX11_digest 50 = .ok (.lmul, 1) := by decide +kernel
theorem dX11_digest_51 : decode cX11_digest 51 = .ok (.aload_n 0, 1) := by decide +kernel
theorem dX11_digest_52 : decode cX11_digest 52 = .ok (.getfield 76, 3) := by decide +kernel
theorem dX11_digest_55 : decode cX11_digest 55 = .ok (.iload_n 3, 1) := by decide +kernel
theorem dX11_digest_56 : decode cX11_digest 56 = .ok (.iaload, 1) := by decide +kernel
theorem dX11_digest_57 : decode cX11_digest 57 = .ok (.i2l, 1) := by decide +kernel
theorem dX11_digest_58 : decode cX11_digest 58 = .ok (.ladd, 1) := by decide +kernel
theorem dX11_digest_59 : decode cX11_digest 59 = .ok (.lstore_n 1, 1) := by decide +kernel
theorem dX11_digest_60 : decode cX11_digest 60 = .ok (.iconst 0, 1) := by decide +kernel
theorem dX11_digest_61 : decode cX11_digest 61 = .ok (.istore 4, 2) := by decide +kernel
theorem dX11_digest_63 : decode cX11_digest 63 = .ok (.iload 4, 2) := by decide +kernel
theorem dX11_digest_65 : decode cX11_digest 65 = .ok (.aload_n 0, 1) := by decide +kernel
theorem dX11_digest_66 : decode cX11_digest 66 = .ok (.getfield 61, 3) := by decide +kernel
theorem dX11_digest_69 : decode cX11_digest 69 = .ok (.iconst 0, 1) := by decide +kernel
theorem dX11_digest_70 : decode cX11_digest 70 = .ok (.iaload, 1) := by decide +kernel
theorem dX11_digest_71 : decode cX11_digest 71 = .ok (.if_icmp .ge 28, 3) := by decide +kernel
theorem dX11_digest_74 : decode cX11_digest 74 = .ok (.lload_n 1, 1) := by decide +kernel
theorem dX11_digest_75 : decode cX11_digest 75 = .ok (.ldc2_w 492, 3) := by decide +kernel
theorem dX11_digest_78 : decode cX11_digest 78 = .ok (.lmul, 1) := by decide +kernel
theorem dX11_digest_79 : decode cX11_digest 79 = .ok (.aload_n 0, 1) := by decide +kernel
theorem dX11_digest_80 : decode cX11_digest 80 = .ok (.getfield 79, 3) := by decide +kernel
theorem dX11_digest_83 : decode cX11_digest 83 = .ok (.bipush 8, 2) := by decide +kernel
theorem dX11_digest_85 : decode cX11_digest 85 = .ok (.iload_n 3, 1) := by decide +kernel
theorem dX11_digest_86 : decode cX11_digest 86 = .ok (.imul, 1) := by decide +kernel
theorem dX11_digest_87 : decode cX11_digest 87 = .ok (.iload 4, 2) := by decide +kernel
theorem dX11_digest_89 : decode cX11_digest 89 = .ok (.iadd, 1) := by decide +kernel
theorem dX11_digest_90 : decode cX11_digest 90 = .ok (.laload, 1) := by decide +kernel
theorem dX11_digest_91 : decode cX11_digest 91 = .ok (.ladd, 1) := by decide +kernel
theorem dX11_digest_92 : decode cX11_digest 92 = .ok (.lstore_n 1, 1) := by decide +kernel
theorem dX11_digest_93 : decode cX11_digest 93 = .ok (.iinc 4 1, 3) := by decide +kernel
theorem dX11_digest_96 : decode cX11_digest 96 = .ok (.goto (-33), 3) := by decide +kernel
theorem dX11_digest_99 : decode cX11_digest 99 = .ok (.iconst 0, 1) := by decide +kernel
theorem dX11_digest_100 : decode cX11_digest 100 = .ok (.istore 4, 2) := by decide +kernel
theorem dX11_digest_102 : decode cX11_digest 102 = .ok (.iload 4, 2) := by decide +kernel
theorem dX11_digest_104 : decode cX11_digest 104 = .ok (.aload_n 0, 1) := by decide +kernel
theorem dX11_digest_105 : decode cX11_digest 105 = .ok (.getfield 61, 3) := by decide +kernel
theorem dX11_digest_108 : decode cX11_digest 108 = .ok (.iconst 2, 1) := by decide +kernel
theorem dX11_digest_109 : decode cX11_digest 109 = .ok (.iaload, 1) := by decide +kernel
theorem dX11_digest_110 : decode cX11_digest 110 = .ok (.if_icmp .ge 31, 3) := by decide +kernel
theorem dX11_digest_113 : decode cX11_digest 113 = .ok (.lload_n 1, 1) := by decide +kernel
theorem dX11_digest_114 : decode cX11_digest 114 = .ok (.ldc2_w 492, 3) := by decide +kernel
theorem dX11_digest_117 : decode cX11_digest 117 = .ok (.lmul, 1) := by decide +kernel
theorem dX11_digest_118 : decode cX11_digest 118 = .ok (.aload_n 0, 1) := by decide +kernel
theorem dX11_digest_119 : decode cX11_digest 119 = .ok (.aload_n 0, 1) := by decide +kernel
theorem dX11_digest_120 : decode cX11_digest 120 = .ok (.getfield 67, 3) := by decide +kernel
theorem dX11_digest_123 : decode cX11_digest 123 = .ok (.bipush 24, 2) := by decide +kernel
theorem dX11_digest_125 : decode cX11_digest 125 = .ok (.iload 4, 2) := by decide +kernel
theorem dX11_digest_127 : decode cX11_digest 127 = .ok (.iadd, 1) := by decide +kernel
theorem dX11_digest_128 : decode cX11_digest 128 = .ok (.iaload, 1) := by decide +kernel
theorem dX11_digest_129 : decode cX11_digest 129 = .ok (.iload_n 3, 1) := by decide +kernel
theorem dX11_digest_130 : decode cX11_digest 130 = .ok (.invokevirtual 393, 3) := by decide +kernel
theorem dX11_digest_133 : decode cX11_digest 133 = .ok (.ladd, 1) := by decide +kernel
theorem dX11_digest_134 : decode cX11_digest 134 = .ok (.lstore_n 1, 1) := by decide +kernel
theorem dX11_digest_135 : decode cX11_digest 135 = .ok (.iinc 4 1, 3) := by decide +kernel
theorem dX11_digest_138 : decode cX11_digest 138 = .ok (.goto (-36), 3) := by decide +kernel
theorem dX11_digest_141 : decode cX11_digest 141 = .ok (.iconst 0, 1) := by decide +kernel
theorem dX11_digest_142 : decode cX11_digest 142 = .ok (.istore 4, 2) := by decide +kernel
theorem dX11_digest_144 : decode cX11_digest 144 = .ok (.iload 4, 2) := by decide +kernel
theorem dX11_digest_146 : decode cX11_digest 146 = .ok (.aload_n 0, 1) := by decide +kernel
theorem dX11_digest_147 : decode cX11_digest 147 = .ok (.getfield 61, 3) := by decide +kernel
theorem dX11_digest_150 : decode cX11_digest 150 = .ok (.iconst 1, 1) := by decide +kernel
theorem dX11_digest_151 : decode cX11_digest 151 = .ok (.iaload, 1) := by decide +kernel
theorem dX11_digest_152 : decode cX11_digest 152 = .ok (.if_icmp .ge 31, 3) := by decide +kernel
theorem dX11_digest_155 : decode cX11_digest 155 = .ok (.lload_n 1, 1) := by decide +kernel
theorem dX11_digest_156 : decode cX11_digest 156 = .ok (.ldc2_w 492, 3) := by decide +kernel
theorem dX11_digest_159 : decode cX11_digest 159 = .ok (.lmul, 1) := by decide +kernel
theorem dX11_digest_160 : decode cX11_digest 160 = .ok (.aload_n 0, 1) := by decide +kernel
theorem dX11_digest_161 : decode cX11_digest 161 = .ok (.aload_n 0, 1) := by decide +kernel
theorem dX11_digest_162 : decode cX11_digest 162 = .ok (.getfield 67, 3) := by decide +kernel
theorem dX11_digest_165 : decode cX11_digest 165 = .ok (.bipush 12, 2) := by decide +kernel
theorem dX11_digest_167 : decode cX11_digest 167 = .ok (.iload 4, 2) := by decide +kernel
theorem dX11_digest_169 : decode cX11_digest 169 = .ok (.iadd, 1) := by decide +kernel
theorem dX11_digest_170 : decode cX11_digest 170 = .ok (.iaload, 1) := by decide +kernel
theorem dX11_digest_171 : decode cX11_digest 171 = .ok (.iload_n 3, 1) := by decide +kernel
theorem dX11_digest_172 : decode cX11_digest 172 = .ok (.invokevirtual 393, 3) := by decide +kernel
theorem dX11_digest_175 : decode cX11_digest 175 = .ok (.ladd, 1) := by decide +kernel
theorem dX11_digest_176 : decode cX11_digest 176 = .ok (.lstore_n 1, 1) := by decide +kernel
theorem dX11_digest_177 : decode cX11_digest 177 = .ok (.iinc 4 1, 3) := by decide +kernel
theorem dX11_digest_180 : decode cX11_digest 180 = .ok (.goto (-36), 3) := by decide +kernel
theorem dX11_digest_183 : decode cX11_digest 183 = .ok (.iconst 0, 1) := by decide +kernel
theorem dX11_digest_184 : decode cX11_digest 184 = .ok (.istore 4, 2) := by decide +kernel
theorem dX11_digest_186 : decode cX11_digest 186 = .ok (.iload 4, 2) := by decide +kernel
theorem dX11_digest_188 : decode cX11_digest 188 = .ok (.aload_n 0, 1) := by decide +kernel
theorem dX11_digest_189 : decode cX11_digest 189 = .ok (.getfield 61, 3) := by decide +kernel
theorem dX11_digest_192 : decode cX11_digest 192 = .ok (.iconst 3, 1) := by decide +kernel
theorem dX11_digest_193 : decode cX11_digest 193 = .ok (.iaload, 1) := by decide +kernel
theorem dX11_digest_194 : decode cX11_digest 194 = .ok (.if_icmp .ge 31, 3) := by decide +kernel
theorem dX11_digest_197 : decode cX11_digest 197 = .ok (.lload_n 1, 1) := by decide +kernel
theorem dX11_digest_198 : decode cX11_digest 198 = .ok (.ldc2_w 492, 3) := by decide +kernel
theorem dX11_digest_201 : decode cX11_digest 201 = .ok (.lmul, 1) := by decide +kernel
theorem dX11_digest_202 : decode cX11_digest 202 = .ok (.aload_n 0, 1) := by decide +kernel
theorem dX11_digest_203 : decode cX11_digest 203 = .ok (.aload_n 0, 1) := by decide +kernel
theorem dX11_digest_204 : decode cX11_digest 204 = .ok (.getfield 67, 3) := by decide +kernel
theorem dX11_digest_207 : decode cX11_digest 207 = .ok (.bipush 36, 2) := by decide +kernel
theorem dX11_digest_209 : decode cX11_digest 209 = .ok (.iload 4, 2) := by decide +kernel
theorem dX11_digest_211 : decode cX11_digest 211 = .ok (.iadd, 1) := by decide +kernel
theorem dX11_digest_212 : decode cX11_digest 212 = .ok (.iaload, 1) := by decide +kernel
theorem dX11_digest_213 : decode cX11_digest 213 = .ok (.iload_n 3, 1) := by decide +kernel
theorem dX11_digest_214 : decode cX11_digest 214 = .ok (.invokevirtual 393, 3) := by decide +kernel
theorem dX11_digest_217 : decode cX11_digest 217 = .ok (.ladd, 1) := by decide +kernel
theorem dX11_digest_218 : decode cX11_digest 218 = .ok (.lstore_n 1, 1) := by decide +kernel
theorem dX11_digest_219 : decode cX11_digest 219 = .ok (.iinc 4 1, 3) := by decide +kernel
theorem dX11_digest_222 : decode cX11_digest 222 = .ok (.goto (-36), 3) := by decide +kernel
theorem dX11_digest_225 : decode cX11_digest 225 = .ok (.iinc 3 1, 3) := by decide +kernel
theorem dX11_digest_228 : decode cX11_digest 228 = .ok (.goto (-190), 3) := by decide +kernel
theorem dX11_digest_231 : decode cX11_digest 231 = .ok (.iconst 0, 1) := by decide +kernel
theorem dX11_digest_232 : decode cX11_digest 232 = .ok (.istore_n 3, 1) := by decide +kernel
theorem dX11_digest_233 : decode cX11_digest 233 = .ok (.iload_n 3, 1) := by decide +kernel
theorem dX11_digest_234 : decode cX11_digest 234 = .ok (.aload_n 0, 1) := by decide +kernel
theorem dX11_digest_235 : decode cX11_digest 235 = .ok (.getfield 61, 3) := by decide +kernel
theorem dX11_digest_238 : decode cX11_digest 238 = .ok (.iconst 3, 1) := by decide +kernel
theorem dX11_digest_239 : decode cX11_digest 239 = .ok (.iaload, 1) := by decide +kernel
theorem dX11_digest_240 : decode cX11_digest 240 = .ok (.if_icmp .ge 39, 3) := by decide +kernel
theorem dX11_digest_243 : decode cX11_digest 243 = .ok (.iconst 0, 1) := by decide +kernel
theorem dX11_digest_244 : decode cX11_digest 244 = .ok (.istore 4, 2) := by decide +kernel
theorem dX11_digest_246 : decode cX11_digest 246 = .ok (.iload 4, 2) := by decide +kernel
theorem dX11_digest_248 : decode cX11_digest 248 = .ok (.iconst 5, 1) := by decide +kernel
theorem dX11_digest_249 : decode cX11_digest 249 = .ok (.if_icmp .ge 24, 3) := by decide +kernel
theorem dX11_digest_252 : decode cX11_digest 252 = .ok (.lload_n 1, 1) := by decide +kernel
theorem dX11_digest_253 : decode cX11_digest 253 = .ok (.ldc2_w 492, 3) := by decide +kernel
theorem dX11_digest_256 : decode cX11_digest 256 = .ok (.lmul, 1) := by decide +kernel
theorem dX11_digest_257 : decode cX11_digest 257 = .ok (.aload_n 0, 1) := by decide +kernel
theorem dX11_digest_258 : decode cX11_digest 258 = .ok (.iload_n 3, 1) := by decide +kernel
theorem dX11_digest_259 : decode cX11_digest 259 = .ok (.iload 4, 2) := by decide +kernel
theorem dX11_digest_261 : decode cX11_digest 261 = .ok (.invokevirtual 468, 3) := by decide +kernel
theorem dX11_digest_264 : decode cX11_digest 264 = .ok (.i2l, 1) := by decide +kernel
theorem dX11_digest_265 : decode cX11_digest 265 = .ok (.ladd, 1) := by decide +kernel
theorem dX11_digest_266 : decode cX11_digest 266 = .ok (.lstore_n 1, 1) := by decide +kernel
theorem dX11_digest_267 : decode cX11_digest 267 = .ok (.iinc 4 1, 3) := by decide +kernel
theorem dX11_digest_270 : decode cX11_digest 270 = .ok (.goto (-24), 3) := by decide +kernel
theorem dX11_digest_273 : decode cX11_digest 273 = .ok (.iinc 3 1, 3) := by decide +kernel
theorem dX11_digest_276 : decode cX11_digest 276 = .ok (.goto (-43), 3) := by decide +kernel
theorem dX11_digest_279 : decode cX11_digest 279 = .ok (.iconst 0, 1) := by decide +kernel
theorem dX11_digest_280 : decode cX11_digest 280 = .ok (.istore_n 3, 1) := by decide +kernel
theorem dX11_digest_281 : decode cX11_digest 281 = .ok (.iload_n 3, 1) := by decide +kernel
theorem dX11_digest_282 : decode cX11_digest 282 = .ok (.aload_n 0, 1) := by decide +kernel
theorem dX11_digest_283 : decode cX11_digest 283 = .ok (.getfield 61, 3) := by decide +kernel
theorem dX11_digest_286 : decode cX11_digest 286 = .ok (.iconst 0, 1) := by decide +kernel
theorem dX11_digest_287 : decode cX11_digest 287 = .ok (.iaload, 1) := by decide +kernel
theorem dX11_digest_288 : decode cX11_digest 288 = .ok (.if_icmp .ge 22, 3) := by decide +kernel
theorem dX11_digest_291 : decode cX11_digest 291 = .ok (.lload_n 1, 1) := by decide +kernel
theorem dX11_digest_292 : decode cX11_digest 292 = .ok (.ldc2_w 492, 3) := by decide +kernel
theorem dX11_digest_295 : decode cX11_digest 295 = .ok (.lmul, 1) := by decide +kernel
theorem dX11_digest_296 : decode cX11_digest 296 = .ok (.aload_n 0, 1) := by decide +kernel
theorem dX11_digest_297 : decode cX11_digest 297 = .ok (.getfield 82, 3) := by decide +kernel
theorem dX11_digest_300 : decode cX11_digest 300 = .ok (.iload_n 3, 1) := by decide +kernel
theorem dX11_digest_301 : decode cX11_digest 301 = .ok (.laload, 1) := by decide +kernel
theorem dX11_digest_302 : decode cX11_digest 302 = .ok (.ladd, 1) := by decide +kernel
theorem dX11_digest_303 : decode cX11_digest 303 = .ok (.lstore_n 1, 1) := by decide +kernel
theorem dX11_digest_304 : decode cX11_digest 304 = .ok (.iinc 3 1, 3) := by decide +kernel
theorem dX11_digest_307 : decode cX11_digest 307 = .ok (.goto (-26), 3) := by decide +kernel
theorem dX11_digest_310 : decode cX11_digest 310 = .ok (.lload_n 1, 1) := by decide +kernel
theorem dX11_digest_311 : decode cX11_digest 311 = .ok (.lreturn, 1) := by decide +kernel

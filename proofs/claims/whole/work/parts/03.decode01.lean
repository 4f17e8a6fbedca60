theorem dX5_readBoth_29 : decode cX5_readBoth 29 = .ok (.ifCond .ne 5, 3) := by decide +kernel
theorem dX5_readBoth_32 : decode cX5_readBoth 32 = .ok (.iconst 0, 1) := by decide +kernel
theorem dX5_readBoth_33 : decode cX5_readBoth 33 = .ok (.ireturn, 1) := by decide +kernel
theorem dX5_readBoth_34 : decode cX5_readBoth 34 = .ok (.aload_n 0, 1) := by decide +kernel
theorem dX5_readBoth_35 : decode cX5_readBoth 35 = .ok (.bipush 38, 2) := by decide +kernel
theorem dX5_readBoth_37 : decode cX5_readBoth 37 = .ok (.invokevirtual 35, 3) := by decide +kernel
theorem dX5_readBoth_40 : decode cX5_readBoth 40 = .ok (.ifCond .ne 5, 3) := by decide +kernel
theorem dX5_readBoth_43 : decode cX5_readBoth 43 = .ok (.iconst 1, 1) := by decide +kernel
theorem dX5_readBoth_44 : decode cX5_readBoth 44 = .ok (.ireturn, 1) := by decide +kernel
theorem dX5_readBoth_45 : decode cX5_readBoth 45 = .ok (.iinc 2 1, 3) := by decide +kernel
theorem dX5_readBoth_48 : decode cX5_readBoth 48 = .ok (.goto (-46), 3) := by decide +kernel
theorem dX5_readBoth_51 : decode cX5_readBoth 51 = .ok (.iconst 0, 1) := by decide +kernel
theorem dX5_readBoth_52 : decode cX5_readBoth 52 = .ok (.ireturn, 1) := by decide +kernel
theorem dX5_readFact_0 : decode cX5_readFact 0 = .ok (.aload_n 0, 1) := by decide +kernel
theorem dX5_readFact_1 : decode cX5_readFact 1 = .ok (.invokevirtual 57, 3) := by decide +kernel
theorem dX5_readFact_4 : decode cX5_readFact 4 = .ok (.istore_n 2, 1) := by decide +kernel
theorem dX5_readFact_5 : decode cX5_readFact 5 = .ok (.iload_n 2, 1) := by decide +kernel
theorem dX5_readFact_6 : decode cX5_readFact 6 = .ok (.bipush 33, 2) := by decide +kernel
theorem dX5_readFact_8 : decode cX5_readFact 8 = .ok (.if_icmp .eq 9, 3) := by decide +kernel
theorem dX5_readFact_11 : decode cX5_readFact 11 = .ok (.iload_n 2, 1) := by decide +kernel
theorem dX5_readFact_12 : decode cX5_readFact 12 = .ok (.bipush 40, 2) := by decide +kernel
theorem dX5_readFact_14 : decode cX5_readFact 14 = .ok (.if_icmp .ne 79, 3) := by decide +kernel
theorem dX5_readFact_17 : decode cX5_readFact 17 = .ok (.iload_n 1, 1) := by decide +kernel
theorem dX5_readFact_18 : decode cX5_readFact 18 = .ok (.iconst 4, 1) := by decide +kernel
theorem dX5_readFact_19 : decode cX5_readFact 19 = .ok (.if_icmp .ge 74, 3) := by decide +kernel
theorem dX5_readFact_22 : decode cX5_readFact 22 = .ok (.aload_n 0, 1) := by decide +kernel
theorem dX5_readFact_23 : decode cX5_readFact 23 = .ok (.dup, 1) := by decide +kernel
theorem dX5_readFact_24 : decode cX5_readFact 24 = .ok (.getfield 28, 3) := by decide +kernel
theorem dX5_readFact_27 : decode cX5_readFact 27 = .ok (.iconst 1, 1) := by decide +kernel
theorem dX5_readFact_28 : decode cX5_readFact 28 = .ok (.iadd, 1) := by decide +kernel
theorem dX5_readFact_29 : decode cX5_readFact 29 = .ok (.putfield 28, 3) := by decide +kernel
theorem dX5_readFact_32 : decode cX5_readFact 32 = .ok (.iload_n 2, 1) := by decide +kernel
theorem dX5_readFact_33 : decode cX5_readFact 33 = .ok (.bipush 33, 2) := by decide +kernel
theorem dX5_readFact_35 : decode cX5_readFact 35 = .ok (.if_icmp .ne 33, 3) := by decide +kernel
theorem dX5_readFact_38 : decode cX5_readFact 38 = .ok (.aload_n 0, 1) := by decide +kernel
theorem dX5_readFact_39 : decode cX5_readFact 39 = .ok (.iload_n 1, 1) := by decide +kernel
theorem dX5_readFact_40 : decode cX5_readFact 40 = .ok (.iconst 1, 1) := by decide +kernel
theorem dX5_readFact_41 : decode cX5_readFact 41 = .ok (.iadd, 1) := by decide +kernel
theorem dX5_readFact_42 : decode cX5_readFact 42 = .ok (.invokevirtual 80, 3) := by decide +kernel
theorem dX5_readFact_45 : decode cX5_readFact 45 = .ok (.ifCond .eq 19, 3) := by decide +kernel
theorem dX5_readFact_48 : decode cX5_readFact 48 = .ok (.aload_n 0, 1) := by decide +kernel
theorem dX5_readFact_49 : decode cX5_readFact 49 = .ok (.getfield 19, 3) := by decide +kernel
theorem dX5_readFact_52 : decode cX5_readFact 52 = .ok (.bipush 6, 2) := by decide +kernel
theorem dX5_readFact_54 : decode cX5_readFact 54 = .ok (.invokevirtual 77, 3) := by decide +kernel
theorem dX5_readFact_57 : decode cX5_readFact 57 = .ok (.ifCond .eq 7, 3) := by decide +kernel
theorem dX5_readFact_60 : decode cX5_readFact 60 = .ok (.iconst 1, 1) := by decide +kernel
theorem dX5_readFact_61 : decode cX5_readFact 61 = .ok (.goto 31, 3) := by decide +kernel
theorem dX5_readFact_64 : decode cX5_readFact 64 = .ok (.iconst 0, 1) := by decide +kernel
theorem dX5_readFact_65 : decode cX5_readFact 65 = .ok (.goto 27, 3) := by decide +kernel
theorem dX5_readFact_68 : decode cX5_readFact 68 = .ok (.aload_n 0, 1) := by decide +kernel
theorem dX5_readFact_69 : decode cX5_readFact 69 = .ok (.iload_n 1, 1) := by decide +kernel
theorem dX5_readFact_70 : decode cX5_readFact 70 = .ok (.iconst 1, 1) := by decide +kernel
theorem dX5_readFact_71 : decode cX5_readFact 71 = .ok (.iadd, 1) := by decide +kernel
theorem dX5_readFact_72 : decode cX5_readFact 72 = .ok (.invokevirtual 50, 3) := by decide +kernel
theorem dX5_readFact_75 : decode cX5_readFact 75 = .ok (.ifCond .eq 16, 3) := by decide +kernel
theorem dX5_readFact_78 : decode cX5_readFact 78 = .ok (.aload_n 0, 1) := by decide +kernel
theorem dX5_readFact_79 : decode cX5_readFact 79 = .ok (.bipush 41, 2) := by decide +kernel
theorem dX5_readFact_81 : decode cX5_readFact 81 = .ok (.invokevirtual 35, 3) := by decide +kernel
theorem dX5_readFact_84 : decode cX5_readFact 84 = .ok (.ifCond .eq 7, 3) := by decide +kernel
theorem dX5_readFact_87 : decode cX5_readFact 87 = .ok (.iconst 1, 1) := by decide +kernel
theorem dX5_readFact_88 : decode cX5_readFact 88 = .ok (.goto 4, 3) := by decide +kernel
theorem dX5_readFact_91 : decode cX5_readFact 91 = .ok (.iconst 0, 1) := by decide +kernel
theorem dX5_readFact_92 : decode cX5_readFact 92 = .ok (.ireturn, 1) := by decide +kernel
theorem dX5_readFact_93 : decode cX5_readFact 93 = .ok (.iload_n 2, 1) := by decide +kernel
theorem dX5_readFact_94 : decode cX5_readFact 94 = .ok (.ifCond .ge 7, 3) := by decide +kernel
theorem dX5_readFact_97 : decode cX5_readFact 97 = .ok (.iconst (-1), 1) := by decide +kernel
theorem dX5_readFact_98 : decode cX5_readFact 98 = .ok (.goto 10, 3) := by decide +kernel
theorem dX5_readFact_101 : decode cX5_readFact 101 = .ok (.ldc 83, 2) := by decide +kernel
theorem dX5_readFact_103 : decode cX5_readFact 103 = .ok (.iload_n 2, 1) := by decide +kernel
theorem dX5_readFact_104 : decode cX5_readFact 104 = .ok (.i2c, 1) := by decide +kernel
theorem dX5_readFact_105 : decode cX5_readFact 105 = .ok (.invokevirtual 85, 3) := by decide +kernel
theorem dX5_readFact_108 : decode cX5_readFact 108 = .ok (.istore_n 3, 1) := by decide +kernel
theorem dX5_readFact_109 : decode cX5_readFact 109 = .ok (.iload_n 3, 1) := by decide +kernel
theorem dX5_readFact_110 : decode cX5_readFact 110 = .ok (.ifCond .ge 5, 3) := by decide +kernel
theorem dX5_readFact_113 : decode cX5_readFact 113 = .ok (.iconst 0, 1) := by decide +kernel
theorem dX5_readFact_114 : decode cX5_readFact 114 = .ok (.ireturn, 1) := by decide +kernel
theorem dX5_readFact_115 : decode cX5_readFact 115 = .ok (.aload_n 0, 1) := by decide +kernel
theorem dX5_readFact_116 : decode cX5_readFact 116 = .ok (.dup, 1) := by decide +kernel
theorem dX5_readFact_117 : decode cX5_readFact 117 = .ok (.getfield 28, 3) := by decide +kernel
theorem dX5_readFact_120 : decode cX5_readFact 120 = .ok (.iconst 1, 1) := by decide +kernel
theorem dX5_readFact_121 : decode cX5_readFact 121 = .ok (.iadd, 1) := by decide +kernel
theorem dX5_readFact_122 : decode cX5_readFact 122 = .ok (.putfield 28, 3) := by decide +kernel
theorem dX5_readFact_125 : decode cX5_readFact 125 = .ok (.aload_n 0, 1) := by decide +kernel
theorem dX5_readFact_126 : decode cX5_readFact 126 = .ok (.invokevirtual 57, 3) := by decide +kernel
theorem dX5_readFact_129 : decode cX5_readFact 129 = .ok (.istore 4, 2) := by decide +kernel
theorem dX5_readFact_131 : decode cX5_readFact 131 = .ok (.iload 4, 2) := by decide +kernel
theorem dX5_readFact_133 : decode cX5_readFact 133 = .ok (.bipush 60, 2) := by decide +kernel
theorem dX5_readFact_135 : decode cX5_readFact 135 = .ok (.if_icmp .eq 19, 3) := by decide +kernel
theorem dX5_readFact_138 : decode cX5_readFact 138 = .ok (.iload 4, 2) := by decide +kernel
theorem dX5_readFact_140 : decode cX5_readFact 140 = .ok (.bipush 61, 2) := by decide +kernel
theorem dX5_readFact_142 : decode cX5_readFact 142 = .ok (.if_icmp .eq 12, 3) := by decide +kernel
theorem dX5_readFact_145 : decode cX5_readFact 145 = .ok (.iload 4, 2) := by decide +kernel
theorem dX5_readFact_147 : decode cX5_readFact 147 = .ok (.bipush 62, 2) := by decide +kernel
theorem dX5_readFact_149 : decode cX5_readFact 149 = .ok (.if_icmp .eq 5, 3) := by decide +kernel
theorem dX5_readFact_152 : decode cX5_readFact 152 = .ok (.iconst 0, 1) := by decide +kernel
theorem dX5_readFact_153 : decode cX5_readFact 153 = .ok (.ireturn, 1) := by decide +kernel
theorem dX5_readFact_154 : decode cX5_readFact 154 = .ok (.aload_n 0, 1) := by decide +kernel
theorem dX5_readFact_155 : decode cX5_readFact 155 = .ok (.dup, 1) := by decide +kernel
theorem dX5_readFact_156 : decode cX5_readFact 156 = .ok (.getfield 28, 3) := by decide +kernel
theorem dX5_readFact_159 : decode cX5_readFact 159 = .ok (.iconst 1, 1) := by decide +kernel
theorem dX5_readFact_160 : decode cX5_readFact 160 = .ok (.iadd, 1) := by decide +kernel
theorem dX5_readFact_161 : decode cX5_readFact 161 = .ok (.putfield 28, 3) := by decide +kernel
theorem dX5_readFact_164 : decode cX5_readFact 164 = .ok (.aload_n 0, 1) := by decide +kernel
theorem dX5_readFact_165 : decode cX5_readFact 165 = .ok (.invokevirtual 47, 3) := by decide +kernel
theorem dX5_readFact_168 : decode cX5_readFact 168 = .ok (.istore 5, 2) := by decide +kernel
theorem dX5_readFact_170 : decode cX5_readFact 170 = .ok (.iload 5, 2) := by decide +kernel
theorem dX5_readFact_172 : decode cX5_readFact 172 = .ok (.iconst (-1), 1) := by decide +kernel
theorem dX5_readFact_173 : decode cX5_readFact 173 = .ok (.if_icmp .eq 22, 3) := by decide +kernel
theorem dX5_readFact_176 : decode cX5_readFact 176 = .ok (.aload_n 0, 1) := by decide +kernel
theorem dX5_readFact_177 : decode cX5_readFact 177 = .ok (.getfield 19, 3) := by decide +kernel
theorem dX5_readFact_180 : decode cX5_readFact 180 = .ok (.iload_n 3, 1) := by decide +kernel
theorem dX5_readFact_181 : decode cX5_readFact 181 = .ok (.iload 4, 2) := by decide +kernel
theorem dX5_readFact_183 : decode cX5_readFact 183 = .ok (.iload 5, 2) := by decide +kernel
theorem dX5_readFact_185 : decode cX5_readFact 185 = .ok (.invokevirtual 89, 3) := by decide +kernel
theorem dX5_readFact_188 : decode cX5_readFact 188 = .ok (.ifCond .eq 7, 3) := by decide +kernel
theorem dX5_readFact_191 : decode cX5_readFact 191 = .ok (.iconst 1, 1) := by decide +kernel
theorem dX5_readFact_192 : decode cX5_readFact 192 = .ok (.goto 4, 3) := by decide +kernel
theorem dX5_readFact_195 : decode cX5_readFact 195 = .ok (.iconst 0, 1) := by decide +kernel
theorem dX5_readFact_196 : decode cX5_readFact 196 = .ok (.ireturn, 1) := by decide +kernel
theorem dX5_readNumber_0 : decode cX5_readNumber 0 = .ok (.iconst (-1), 1) := by decide +kernel
theorem dX5_readNumber_1 : decode cX5_readNumber 1 = .ok (.istore_n 1, 1) := by decide +kernel
theorem dX5_readNumber_2 : decode cX5_readNumber 2 = .ok (.iconst 0, 1) := by decide +kernel
theorem dX5_readNumber_3 : decode cX5_readNumber 3 = .ok (.istore_n 2, 1) := by decide +kernel
theorem dX5_readNumber_4 : decode cX5_readNumber 4 = .ok (.iload_n 2, 1) := by decide +kernel
theorem dX5_readNumber_5 : decode cX5_readNumber 5 = .ok (.iconst 2, 1) := by decide +kernel
theorem dX5_readNumber_6 : decode cX5_readNumber 6 = .ok (.if_icmp .ge 52, 3) := by decide +kernel
theorem dX5_readNumber_9 : decode cX5_readNumber 9 = .ok (.aload_n 0, 1) := by decide +kernel
theorem dX5_readNumber_10 : decode cX5_readNumber 10 = .ok (.invokevirtual 57, 3) := by decide +kernel
theorem dX5_readNumber_13 : decode cX5_readNumber 13 = .ok (.istore_n 3, 1) := by decide +kernel
theorem dX5_readNumber_14 : decode cX5_readNumber 14 = .ok (.iload_n 3, 1) := by decide +kernel
theorem dX5_readNumber_15 : decode cX5_readNumber 15 = .ok (.bipush 48, 2) := by decide +kernel
theorem dX5_readNumber_17 : decode cX5_readNumber 17 = .ok (.if_icmp .lt 9, 3) := by decide +kernel
theorem dX5_readNumber_20 : decode cX5_readNumber 20 = .ok (.iload_n 3, 1) := by decide +kernel
theorem dX5_readNumber_21 : decode cX5_readNumber 21 = .ok (.bipush 57, 2) := by decide +kernel
theorem dX5_readNumber_23 : decode cX5_readNumber 23 = .ok (.if_icmp .le 5, 3) := by decide +kernel
theorem dX5_readNumber_26 : decode cX5_readNumber 26 = .ok (.iload_n 1, 1) := by decide +kernel
theorem dX5_readNumber_27 : decode cX5_readNumber 27 = .ok (.ireturn, 1) := by decide +kernel
theorem dX5_readNumber_28 : decode cX5_readNumber 28 = .ok (.iload_n 1, 1) := by decide +kernel
theorem dX5_readNumber_29 : decode cX5_readNumber 29 = .ok (.iconst 0, 1) := by decide +kernel
theorem dX5_readNumber_30 : decode cX5_readNumber 30 = .ok (.invokestatic 93, 3) := by decide +kernel
theorem dX5_readNumber_33 : decode cX5_readNumber 33 = .ok (.bipush 10, 2) := by decide +kernel
theorem dX5_readNumber_35 : decode cX5_readNumber 35 = .ok (.imul, 1) := by decide +kernel
theorem dX5_readNumber_36 : decode cX5_readNumber 36 = .ok (.iload_n 3, 1) := by decide +kernel
theorem dX5_readNumber_37 : decode cX5_readNumber 37 = .ok (.iadd, 1) := by decide +kernel
theorem dX5_readNumber_38 : decode cX5_readNumber 38 = .ok (.bipush 48, 2) := by decide +kernel
theorem dX5_readNumber_40 : decode cX5_readNumber 40 = .ok (.isub, 1) := by decide +kernel
theorem dX5_readNumber_41 : decode cX5_readNumber 41 = .ok (.istore_n 1, 1) := by decide +kernel
theorem dX5_readNumber_42 : decode cX5_readNumber 42 = .ok (.aload_n 0, 1) := by decide +kernel
theorem dX5_readNumber_43 : decode cX5_readNumber 43 = .ok (.dup, 1) := by decide +kernel
theorem dX5_readNumber_44 : decode cX5_readNumber 44 = .ok (.getfield 28, 3) := by decide +kernel
theorem dX5_readNumber_47 : decode cX5_readNumber 47 = .ok (.iconst 1, 1) := by decide +kernel
theorem dX5_readNumber_48 : decode cX5_readNumber 48 = .ok (.iadd, 1) := by decide +kernel
theorem dX5_readNumber_49 : decode cX5_readNumber 49 = .ok (.putfield 28, 3) := by decide +kernel
theorem dX5_readNumber_52 : decode cX5_readNumber 52 = .ok (.iinc 2 1, 3) := by decide +kernel
theorem dX5_readNumber_55 : decode cX5_readNumber 55 = .ok (.goto (-51), 3) := by decide +kernel
theorem dX5_readNumber_58 : decode cX5_readNumber 58 = .ok (.iload_n 1, 1) := by decide +kernel
theorem dX5_readNumber_59 : decode cX5_readNumber 59 = .ok (.ireturn, 1) := by decide +kernel
theorem dX5_ahead_0 : decode cX5_ahead 0 = .ok (.aload_n 0, 1) := by decide +kernel
theorem dX5_ahead_1 : decode cX5_ahead 1 = .ok (.getfield 28, 3) := by decide +kernel
theorem dX5_ahead_4 : decode cX5_ahead 4 = .ok (.aload_n 0, 1) := by decide +kernel
theorem dX5_ahead_5 : decode cX5_ahead 5 = .ok (.getfield 15, 3) := by decide +kernel
theorem dX5_ahead_8 : decode cX5_ahead 8 = .ok (.if_icmp .ge 15, 3) := by decide +kernel
theorem dX5_ahead_11 : decode cX5_ahead 11 = .ok (.aload_n 0, 1) := by decide +kernel
theorem dX5_ahead_12 : decode cX5_ahead 12 = .ok (.getfield 9, 3) := by decide +kernel
theorem dX5_ahead_15 : decode cX5_ahead 15 = .ok (.aload_n 0, 1) := by decide +kernel
theorem dX5_ahead_16 : decode cX5_ahead 16 = .ok (.getfield 28, 3) := by decide +kernel
theorem dX5_ahead_19 : decode cX5_ahead 19 = .ok (.baload, 1) := by decide +kernel
theorem dX5_ahead_20 : decode cX5_ahead 20 = .ok (.goto 4, 3) := by decide +kernel
theorem dX5_ahead_23 : decode cX5_ahead 23 = .ok (.iconst (-1), 1) := by decide +kernel
theorem dX5_ahead_24 : decode cX5_ahead 24 = .ok (.ireturn, 1) := by decide +kernel
theorem dX5_take_0 : decode cX5_take 0 = .ok (.aload_n 0, 1) := by decide +kernel
theorem dX5_take_1 : decode cX5_take 1 = .ok (.invokevirtual 57, 3) := by decide +kernel
theorem dX5_take_4 : decode cX5_take 4 = .ok (.iload_n 1, 1) := by decide +kernel
theorem dX5_take_5 : decode cX5_take 5 = .ok (.if_icmp .eq 5, 3) := by decide +kernel
theorem dX5_take_8 : decode cX5_take 8 = .ok (.iconst 0, 1) := by decide +kernel
theorem dX5_take_9 : decode cX5_take 9 = .ok (.ireturn, 1) := by decide +kernel
theorem dX5_take_10 : decode cX5_take 10 = .ok (.aload_n 0, 1) := by decide +kernel
theorem dX5_take_11 : decode cX5_take 11 = .ok (.dup, 1) := by decide +kernel
theorem dX5_take_12 : decode cX5_take 12 = .ok (.getfield 28, 3) := by decide +kernel
theorem dX5_take_15 : decode cX5_take 15 = .ok (.iconst 1, 1) := by decide +kernel
theorem dX5_take_16 : decode cX5_take 16 = .ok (.iadd, 1) := by decide +kernel
theorem dX5_take_17 : decode cX5_take 17 = .ok (.putfield 28, 3) := by decide +kernel
theorem dX5_take_20 : decode cX5_take 20 = .ok (.iconst 1, 1) := by decide +kernel
theorem dX5_take_21 : decode cX5_take 21 = .ok (.ireturn, 1) := by decide +kernel
theorem dX6_init_0 : decode cX6_init 0 = .ok (.aload_n 0, 1) := by decide +kernel
theorem dX6_init_1 : decode cX6_init 1 = .ok (.invokespecial 3, 3) := by decide +kernel
theorem dX6_init_4 : decode cX6_init 4 = .ok (.aload_n 0, 1) := by decide +kernel
theorem dX6_init_5 : decode cX6_init 5 = .ok (.new 9, 3) := by decide +kernel
theorem dX6_init_8 : decode cX6_init 8 = .ok (.dup, 1) := by decide +kernel
theorem dX6_init_9 : decode cX6_init 9 = .ok (.invokespecial 11, 3) := by decide +kernel
theorem dX6_init_12 : decode cX6_init 12 = .ok (.putfield 12, 3) := by decide +kernel
theorem dX6_init_15 : decode cX6_init 15 = .ok (.aload_n 0, 1) := by decide +kernel
theorem dX6_init_16 : decode cX6_init 16 = .ok (.new 9, 3) := by decide +kernel
theorem dX6_init_19 : decode cX6_init 19 = .ok (.dup, 1) := by decide +kernel
theorem dX6_init_20 : decode cX6_init 20 = .ok (.invokespecial 11, 3) := by decide +kernel
theorem dX6_init_23 : decode cX6_init 23 = .ok (.putfield 18, 3) := by decide +kernel
theorem dX6_init_26 : decode cX6_init 26 = .ok (.aload_n 0, 1) := by decide +kernel
theorem dX6_init_27 : decode cX6_init 27 = .ok (.new 9, 3) := by decide +kernel
theorem dX6_init_30 : decode cX6_init 30 = .ok (.dup, 1) := by decide +kernel
theorem dX6_init_31 : decode cX6_init 31 = .ok (.invokespecial 11, 3) := by decide +kernel
theorem dX6_init_34 : decode cX6_init 34 = .ok (.putfield 21, 3) := by decide +kernel
theorem dX6_init_37 : decode cX6_init 37 = .ok (.aload_n 0, 1) := by decide +kernel
theorem dX6_init_38 : decode cX6_init 38 = .ok (.new 24, 3) := by decide +kernel
theorem dX6_init_41 : decode cX6_init 41 = .ok (.dup, 1) := by decide +kernel
theorem dX6_init_42 : decode cX6_init 42 = .ok (.invokespecial 26, 3) := by decide +kernel
theorem dX6_init_45 : decode cX6_init 45 = .ok (.putfield 27, 3) := by decide +kernel
theorem dX6_init_48 : decode cX6_init 48 = .ok (.aload_n 0, 1) := by decide +kernel
theorem dX6_init_49 : decode cX6_init 49 = .ok (.new 31, 3) := by decide +kernel
theorem dX6_init_52 : decode cX6_init 52 = .ok (.dup, 1) := by decide +kernel
theorem dX6_init_53 : decode cX6_init 53 = .ok (.invokespecial 33, 3) := by decide +kernel
theorem dX6_init_56 : decode cX6_init 56 = .ok (.putfield 34, 3) := by decide +kernel
theorem dX6_init_59 : decode cX6_init 59 = .ok (.aload_n 0, 1) := by decide +kernel
theorem dX6_init_60 : decode cX6_init 60 = .ok (.bipush 6, 2) := by decide +kernel
theorem dX6_init_62 : decode cX6_init 62 = .ok (.anewarray 38, 3) := by decide +kernel
theorem dX6_init_65 : decode cX6_init 65 = .ok (.putfield 40, 3) := by decide +kernel
theorem dX6_init_68 : decode cX6_init 68 = .ok (.aload_n 0, 1) := by decide +kernel
theorem dX6_init_69 : decode cX6_init 69 = .ok (.bipush 6, 2) := by decide +kernel
theorem dX6_init_71 : decode cX6_init 71 = .ok (.newarray .int, 2) := by decide +kernel
theorem dX6_init_73 : decode cX6_init 73 = .ok (.putfield 44, 3) := by decide +kernel
theorem dX6_init_76 : decode cX6_init 76 = .ok (.iconst 0, 1) := by decide +kernel
theorem dX6_init_77 : decode cX6_init 77 = .ok (.istore_n 1, 1) := by decide +kernel
theorem dX6_init_78 : decode cX6_init 78 = .ok (.iload_n 1, 1) := by decide +kernel
theorem dX6_init_79 : decode cX6_init 79 = .ok (.bipush 6, 2) := by decide +kernel
theorem dX6_init_81 : decode cX6_init 81 = .ok (.if_icmp .ge 22, 3) := by decide +kernel
theorem dX6_init_84 : decode cX6_init 84 = .ok (.aload_n 0, 1) := by decide +kernel
theorem dX6_init_85 : decode cX6_init 85 = .ok (.getfield 40, 3) := by decide +kernel
theorem dX6_init_88 : decode cX6_init 88 = .ok (.iload_n 1, 1) := by decide +kernel
theorem dX6_init_89 : decode cX6_init 89 = .ok (.new 38, 3) := by decide +kernel
theorem dX6_init_92 : decode cX6_init 92 = .ok (.dup, 1) := by decide +kernel
theorem dX6_init_93 : decode cX6_init 93 = .ok (.invokespecial 48, 3) := by decide +kernel
theorem dX6_init_96 : decode cX6_init 96 = .ok (.aastore, 1) := by decide +kernel
theorem dX6_init_97 : decode cX6_init 97 = .ok (.iinc 1 1, 3) := by decide +kernel
theorem dX6_init_100 : decode cX6_init 100 = .ok (.goto (-22), 3) := by decide +kernel
theorem dX6_init_103 : decode cX6_init 103 = .ok (.return_, 1) := by decide +kernel
theorem dX6_man_0 : decode cX6_man 0 = .ok (.iload_n 1, 1) := by decide +kernel
theorem dX6_man_1 : decode cX6_man 1 = .ok (.bipush 6, 2) := by decide +kernel
theorem dX6_man_3 : decode cX6_man 3 = .ok (.invokestatic 49, 3) := by decide +kernel
theorem dX6_man_6 : decode cX6_man 6 = .ok (.ifCond .ne 5, 3) := by decide +kernel
theorem dX6_man_9 : decode cX6_man 9 = .ok (.iconst (-1), 1) := by decide +kernel
theorem dX6_man_10 : decode cX6_man 10 = .ok (.ireturn, 1) := by decide +kernel
theorem dX6_man_11 : decode cX6_man 11 = .ok (.iload_n 2, 1) := by decide +kernel
theorem dX6_man_12 : decode cX6_man 12 = .ok (.bipush 9, 2) := by decide +kernel
theorem dX6_man_14 : decode cX6_man 14 = .ok (.invokestatic 49, 3) := by decide +kernel
theorem dX6_man_17 : decode cX6_man 17 = .ok (.ifCond .eq 12, 3) := by decide +kernel
theorem dX6_man_20 : decode cX6_man 20 = .ok (.iload_n 3, 1) := by decide +kernel
theorem dX6_man_21 : decode cX6_man 21 = .ok (.bipush 20, 2) := by decide +kernel
theorem dX6_man_23 : decode cX6_man 23 = .ok (.invokestatic 49, 3) := by decide +kernel
theorem dX6_man_26 : decode cX6_man 26 = .ok (.ifCond .ne 6, 3) := by decide +kernel
theorem dX6_man_29 : decode cX6_man 29 = .ok (.bipush (-2), 2) := by decide +kernel
theorem dX6_man_31 : decode cX6_man 31 = .ok (.ireturn, 1) := by decide +kernel
theorem dX6_man_32 : decode cX6_man 32 = .ok (.aload_n 0, 1) := by decide +kernel
theorem dX6_man_33 : decode cX6_man 33 = .ok (.getfield 12, 3) := by decide +kernel
theorem dX6_man_36 : decode cX6_man 36 = .ok (.getfield 53, 3) := by decide +kernel
theorem dX6_man_39 : decode cX6_man 39 = .ok (.bipush 6, 2) := by decide +kernel
theorem dX6_man_41 : decode cX6_man 41 = .ok (.if_icmp .lt 8, 3) := by decide +kernel
theorem dX6_man_44 : decode cX6_man 44 = .ok (.bipush (-4), 2) := by decide +kernel
theorem dX6_man_46 : decode cX6_man 46 = .ok (.goto 13, 3) := by decide +kernel
theorem dX6_man_49 : decode cX6_man 49 = .ok (.aload_n 0, 1) := by decide +kernel
theorem dX6_man_50 : decode cX6_man 50 = .ok (.getfield 12, 3) := by decide +kernel
theorem dX6_man_53 : decode cX6_man 53 = .ok (.iload_n 1, 1) := by decide +kernel
theorem dX6_man_54 : decode cX6_man 54 = .ok (.iload_n 2, 1) := by decide +kernel
theorem dX6_man_55 : decode cX6_man 55 = .ok (.iload_n 3, 1) := by decide +kernel
theorem dX6_man_56 : decode cX6_man 56 = .ok (.invokevirtual 57, 3) := by decide +kernel
theorem dX6_man_59 : decode cX6_man 59 = .ok (.ireturn, 1) := by decide +kernel
theorem dX6_of_0 : decode cX6_of 0 = .ok (.aload_n 0, 1) := by decide +kernel
theorem dX6_of_1 : decode cX6_of 1 = .ok (.getfield 12, 3) := by decide +kernel
theorem dX6_of_4 : decode cX6_of 4 = .ok (.iload_n 1, 1) := by decide +kernel
theorem dX6_of_5 : decode cX6_of 5 = .ok (.invokevirtual 61, 3) := by decide +kernel
theorem dX6_of_8 : decode cX6_of 8 = .ok (.ifCond .ne 7, 3) := by decide +kernel
theorem dX6_of_11 : decode cX6_of 11 = .ok (.sipush (-10001), 3) := by decide +kernel
theorem dX6_of_14 : decode cX6_of 14 = .ok (.ireturn, 1) := by decide +kernel
theorem dX6_of_15 : decode cX6_of 15 = .ok (.iload_n 2, 1) := by decide +kernel
theorem dX6_of_16 : decode cX6_of 16 = .ok (.tableswitch 116 0 6 #[44, 54, 64, 74, 91, 101, 110], 44) := by decide +kernel
theorem dX6_of_60 : decode cX6_of 60 = .ok (.aload_n 0, 1) := by decide +kernel
theorem dX6_of_61 : decode cX6_of 61 = .ok (.getfield 12, 3) := by decide +kernel
theorem dX6_of_64 : decode cX6_of 64 = .ok (.getfield 65, 3) := by decide +kernel
theorem dX6_of_67 : decode cX6_of 67 = .ok (.iload_n 1, 1) := by decide +kernel
theorem dX6_of_68 : decode cX6_of 68 = .ok (.iaload, 1) := by decide +kernel
theorem dX6_of_69 : decode cX6_of 69 = .ok (.ireturn, 1) := by decide +kernel
theorem dX6_of_70 : decode cX6_of 70 = .ok (.aload_n 0, 1) := by decide +kernel
theorem dX6_of_71 : decode cX6_of 71 = .ok (.getfield 12, 3) := by decide +kernel
theorem dX6_of_74 : decode cX6_of 74 = .ok (.getfield 68, 3) := by decide +kernel
theorem dX6_of_77 : decode cX6_of 77 = .ok (.iload_n 1, 1) := by decide +kernel
theorem dX6_of_78 : decode cX6_of 78 = .ok (.iaload, 1) := by decide +kernel
theorem dX6_of_79 : decode cX6_of 79 = .ok (.ireturn, 1) := by decide +kernel
theorem dX6_of_80 : decode cX6_of 80 = .ok (.aload_n 0, 1) := by decide +kernel
theorem dX6_of_81 : decode cX6_of 81 = .ok (.getfield 12, 3) := by decide +kernel
theorem dX6_of_84 : decode cX6_of 84 = .ok (.getfield 71, 3) := by decide +kernel
theorem dX6_of_87 : decode cX6_of 87 = .ok (.iload_n 1, 1) := by decide +kernel
theorem dX6_of_88 : decode cX6_of 88 = .ok (.iaload, 1) := by decide +kernel
theorem dX6_of_89 : decode cX6_of 89 = .ok (.ireturn, 1) := by decide +kernel
theorem dX6_of_90 : decode cX6_of 90 = .ok (.aload_n 0, 1) := by decide +kernel
theorem dX6_of_91 : decode cX6_of 91 = .ok (.getfield 12, 3) := by decide +kernel
theorem dX6_of_94 : decode cX6_of 94 = .ok (.iload_n 1, 1) := by decide +kernel
theorem dX6_of_95 : decode cX6_of 95 = .ok (.invokevirtual 74, 3) := by decide +kernel
theorem dX6_of_98 : decode cX6_of 98 = .ok (.ifCond .eq 7, 3) := by decide +kernel
theorem dX6_of_101 : decode cX6_of 101 = .ok (.iconst 1, 1) := by decide +kernel
theorem dX6_of_102 : decode cX6_of 102 = .ok (.goto 4, 3) := by decide +kernel
theorem dX6_of_105 : decode cX6_of 105 = .ok (.iconst 0, 1) := by decide +kernel
theorem dX6_of_106 : decode cX6_of 106 = .ok (.ireturn, 1) := by decide +kernel
theorem dX6_of_107 : decode cX6_of 107 = .ok (.aload_n 0, 1) := by decide +kernel
theorem dX6_of_108 : decode cX6_of 108 = .ok (.getfield 12, 3) := by decide +kernel
theorem dX6_of_111 : decode cX6_of 111 = .ok (.getfield 77, 3) := by decide +kernel
theorem dX6_of_114 : decode cX6_of 114 = .ok (.iload_n 1, 1) := by decide +kernel
theorem dX6_of_115 : decode cX6_of 115 = .ok (.iaload, 1) := by decide +kernel
theorem dX6_of_116 : decode cX6_of 116 = .ok (.ireturn, 1) := by decide +kernel
theorem dX6_of_117 : decode cX6_of 117 = .ok (.aload_n 0, 1) := by decide +kernel
theorem dX6_of_118 : decode cX6_of 118 = .ok (.getfield 12, 3) := by decide +kernel
theorem dX6_of_121 : decode cX6_of 121 = .ok (.iload_n 1, 1) := by decide +kernel
theorem dX6_of_122 : decode cX6_of 122 = .ok (.invokevirtual 80, 3) := by decide +kernel
theorem dX6_of_125 : decode cX6_of 125 = .ok (.ireturn, 1) := by decide +kernel
theorem dX6_of_126 : decode cX6_of 126 = .ok (.aload_n 0, 1) := by decide +kernel
theorem dX6_of_127 : decode cX6_of 127 = .ok (.iload_n 1, 1) := by decide +kernel
theorem dX6_of_128 : decode cX6_of 128 = .ok (.invokevirtual 84, 3) := by decide +kernel
theorem dX6_of_131 : decode cX6_of 131 = .ok (.ireturn, 1) := by decide +kernel
theorem dX6_of_132 : decode cX6_of 132 = .ok (.sipush (-10001), 3) := by decide +kernel
theorem dX6_of_135 : decode cX6_of 135 = .ok (.ireturn, 1) := by decide +kernel
theorem dX6_steady_0 : decode cX6_steady 0 = .ok (.aload_n 0, 1) := by decide +kernel
theorem dX6_steady_1 : decode cX6_steady 1 = .ok (.getfield 12, 3) := by decide +kernel
theorem dX6_steady_4 : decode cX6_steady 4 = .ok (.iload_n 1, 1) := by decide +kernel
theorem dX6_steady_5 : decode cX6_steady 5 = .ok (.invokevirtual 61, 3) := by decide +kernel
theorem dX6_steady_8 : decode cX6_steady 8 = .ok (.ifCond .ne 5, 3) := by decide +kernel
theorem dX6_steady_11 : decode cX6_steady 11 = .ok (.iconst (-1), 1) := by decide +kernel
theorem dX6_steady_12 : decode cX6_steady 12 = .ok (.ireturn, 1) := by decide +kernel
theorem dX6_steady_13 : decode cX6_steady 13 = .ok (.iload_n 2, 1) := by decide +kernel
theorem dX6_steady_14 : decode cX6_steady 14 = .ok (.bipush 20, 2) := by decide +kernel
theorem dX6_steady_16 : decode cX6_steady 16 = .ok (.invokestatic 49, 3) := by decide +kernel
theorem dX6_steady_19 : decode cX6_steady 19 = .ok (.ifCond .ne 6, 3) := by decide +kernel
theorem dX6_steady_22 : decode cX6_steady 22 = .ok (.bipush (-2), 2) := by decide +kernel
theorem dX6_steady_24 : decode cX6_steady 24 = .ok (.ireturn, 1) := by decide +kernel
theorem dX6_steady_25 : decode cX6_steady 25 = .ok (.aload_n 0, 1) := by decide +kernel
theorem dX6_steady_26 : decode cX6_steady 26 = .ok (.getfield 12, 3) := by decide +kernel
theorem dX6_steady_29 : decode cX6_steady 29 = .ok (.getfield 71, 3) := by decide +kernel
theorem dX6_steady_32 : decode cX6_steady 32 = .ok (.iload_n 1, 1) := by decide +kernel
theorem dX6_steady_33 : decode cX6_steady 33 = .ok (.iaload, 1) := by decide +kernel
theorem dX6_steady_34 : decode cX6_steady 34 = .ok (.istore_n 3, 1) := by decide +kernel
theorem dX6_steady_35 : decode cX6_steady 35 = .ok (.aload_n 0, 1) := by decide +kernel
theorem dX6_steady_36 : decode cX6_steady 36 = .ok (.getfield 12, 3) := by decide +kernel
theorem dX6_steady_39 : decode cX6_steady 39 = .ok (.getfield 71, 3) := by decide +kernel
theorem dX6_steady_42 : decode cX6_steady 42 = .ok (.iload_n 1, 1) := by decide +kernel
theorem dX6_steady_43 : decode cX6_steady 43 = .ok (.iload_n 2, 1) := by decide +kernel
theorem dX6_steady_44 : decode cX6_steady 44 = .ok (.iastore, 1) := by decide +kernel
theorem dX6_steady_45 : decode cX6_steady 45 = .ok (.iload_n 3, 1) := by decide +kernel
theorem dX6_steady_46 : decode cX6_steady 46 = .ok (.ireturn, 1) := by decide +kernel
theorem dX6_change_0 : decode cX6_change 0 = .ok (.aload_n 0, 1) := by decide +kernel
theorem dX6_change_1 : decode cX6_change 1 = .ok (.getfield 12, 3) := by decide +kernel
theorem dX6_change_4 : decode cX6_change 4 = .ok (.iload_n 1, 1) := by decide +kernel
theorem dX6_change_5 : decode cX6_change 5 = .ok (.invokevirtual 61, 3) := by decide +kernel
theorem dX6_change_8 : decode cX6_change 8 = .ok (.ifCond .ne 5, 3) := by decide +kernel
theorem dX6_change_11 : decode cX6_change 11 = .ok (.iconst (-1), 1) := by decide +kernel
theorem dX6_change_12 : decode cX6_change 12 = .ok (.ireturn, 1) := by decide +kernel
theorem dX6_change_13 : decode cX6_change 13 = .ok (.aload_n 0, 1) := by decide +kernel
theorem dX6_change_14 : decode cX6_change 14 = .ok (.getfield 12, 3) := by decide +kernel
theorem dX6_change_17 : decode cX6_change 17 = .ok (.iload_n 1, 1) := by decide +kernel
theorem dX6_change_18 : decode cX6_change 18 = .ok (.invokevirtual 74, 3) := by decide +kernel
theorem dX6_change_21 : decode cX6_change 21 = .ok (.istore_n 3, 1) := by decide +kernel
theorem dX6_change_22 : decode cX6_change 22 = .ok (.aload_n 0, 1) := by decide +kernel
theorem dX6_change_23 : decode cX6_change 23 = .ok (.getfield 12, 3) := by decide +kernel
theorem dX6_change_26 : decode cX6_change 26 = .ok (.iload_n 1, 1) := by decide +kernel
theorem dX6_change_27 : decode cX6_change 27 = .ok (.iload_n 2, 1) := by decide +kernel
theorem dX6_change_28 : decode cX6_change 28 = .ok (.invokevirtual 87, 3) := by decide +kernel
theorem dX6_change_31 : decode cX6_change 31 = .ok (.iload_n 3, 1) := by decide +kernel
theorem dX6_change_32 : decode cX6_change 32 = .ok (.ifCond .eq 7, 3) := by decide +kernel
theorem dX6_change_35 : decode cX6_change 35 = .ok (.iconst 1, 1) := by decide +kernel
theorem dX6_change_36 : decode cX6_change 36 = .ok (.goto 4, 3) := by decide +kernel
theorem dX6_change_39 : decode cX6_change 39 = .ok (.iconst 0, 1) := by decide +kernel
theorem dX6_change_40 : decode cX6_change 40 = .ok (.ireturn, 1) := by decide +kernel
theorem dX6_fear_0 : decode cX6_fear 0 = .ok (.iload_n 1, 1) := by decide +kernel
theorem dX6_fear_1 : decode cX6_fear 1 = .ok (.sipush 9999, 3) := by decide +kernel
theorem dX6_fear_4 : decode cX6_fear 4 = .ok (.invokestatic 49, 3) := by decide +kernel
theorem dX6_fear_7 : decode cX6_fear 7 = .ok (.ifCond .ne 6, 3) := by decide +kernel
theorem dX6_fear_10 : decode cX6_fear 10 = .ok (.bipush (-2), 2) := by decide +kernel
theorem dX6_fear_12 : decode cX6_fear 12 = .ok (.ireturn, 1) := by decide +kernel
theorem dX6_fear_13 : decode cX6_fear 13 = .ok (.aload_n 0, 1) := by decide +kernel
theorem dX6_fear_14 : decode cX6_fear 14 = .ok (.getfield 12, 3) := by decide +kernel
theorem dX6_fear_17 : decode cX6_fear 17 = .ok (.getfield 91, 3) := by decide +kernel
theorem dX6_fear_20 : decode cX6_fear 20 = .ok (.istore_n 2, 1) := by decide +kernel
theorem dX6_fear_21 : decode cX6_fear 21 = .ok (.aload_n 0, 1) := by decide +kernel
theorem dX6_fear_22 : decode cX6_fear 22 = .ok (.getfield 12, 3) := by decide +kernel
theorem dX6_fear_25 : decode cX6_fear 25 = .ok (.iload_n 1, 1) := by decide +kernel
theorem dX6_fear_26 : decode cX6_fear 26 = .ok (.putfield 91, 3) := by decide +kernel
theorem dX6_fear_29 : decode cX6_fear 29 = .ok (.iload_n 2, 1) := by decide +kernel
theorem dX6_fear_30 : decode cX6_fear 30 = .ok (.ireturn, 1) := by decide +kernel
theorem dX6_row_0 : decode cX6_row 0 = .ok (.aload_n 0, 1) := by decide +kernel
theorem dX6_row_1 : decode cX6_row 1 = .ok (.getfield 12, 3) := by decide +kernel
theorem dX6_row_4 : decode cX6_row 4 = .ok (.iload_n 1, 1) := by decide +kernel
theorem dX6_row_5 : decode cX6_row 5 = .ok (.invokevirtual 61, 3) := by decide +kernel
theorem dX6_row_8 : decode cX6_row 8 = .ok (.ifCond .eq 11, 3) := by decide +kernel
theorem dX6_row_11 : decode cX6_row 11 = .ok (.iload_n 2, 1) := by decide +kernel
theorem dX6_row_12 : decode cX6_row 12 = .ok (.iconst 3, 1) := by decide +kernel
theorem dX6_row_13 : decode cX6_row 13 = .ok (.invokestatic 49, 3) := by decide +kernel
theorem dX6_row_16 : decode cX6_row 16 = .ok (.ifCond .ne 5, 3) := by decide +kernel
theorem dX6_row_19 : decode cX6_row 19 = .ok (.iconst (-1), 1) := by decide +kernel
theorem dX6_row_20 : decode cX6_row 20 = .ok (.ireturn, 1) := by decide +kernel
theorem dX6_row_21 : decode cX6_row 21 = .ok (.iload_n 3, 1) := by decide +kernel
theorem dX6_row_22 : decode cX6_row 22 = .ok (.bipush 9, 2) := by decide +kernel
theorem dX6_row_24 : decode cX6_row 24 = .ok (.invokestatic 49, 3) := by decide +kernel
theorem dX6_row_27 : decode cX6_row 27 = .ok (.ifCond .ne 6, 3) := by decide +kernel
theorem dX6_row_30 : decode cX6_row 30 = .ok (.bipush (-2), 2) := by decide +kernel
theorem dX6_row_32 : decode cX6_row 32 = .ok (.ireturn, 1) := by decide +kernel
theorem dX6_row_33 : decode cX6_row 33 = .ok (.aload_n 0, 1) := by decide +kernel
theorem dX6_row_34 : decode cX6_row 34 = .ok (.getfield 12, 3) := by decide +kernel
theorem dX6_row_37 : decode cX6_row 37 = .ok (.getfield 65, 3) := by decide +kernel
theorem dX6_row_40 : decode cX6_row 40 = .ok (.iload_n 1, 1) := by decide +kernel
theorem dX6_row_41 : decode cX6_row 41 = .ok (.iaload, 1) := by decide +kernel
theorem dX6_row_42 : decode cX6_row 42 = .ok (.bipush 6, 2) := by decide +kernel
theorem dX6_row_44 : decode cX6_row 44 = .ok (.if_icmp .eq 6, 3) := by decide +kernel
theorem dX6_row_47 : decode cX6_row 47 = .ok (.bipush (-3), 2) := by decide +kernel
theorem dX6_row_49 : decode cX6_row 49 = .ok (.ireturn, 1) := by decide +kernel
theorem dX6_row_50 : decode cX6_row 50 = .ok (.iload_n 1, 1) := by decide +kernel
theorem dX6_row_51 : decode cX6_row 51 = .ok (.iconst 4, 1) := by decide +kernel
theorem dX6_row_52 : decode cX6_row 52 = .ok (.imul, 1) := by decide +kernel
theorem dX6_row_53 : decode cX6_row 53 = .ok (.iload_n 2, 1) := by decide +kernel
theorem dX6_row_54 : decode cX6_row 54 = .ok (.iadd, 1) := by decide +kernel
theorem dX6_row_55 : decode cX6_row 55 = .ok (.istore 4, 2) := by decide +kernel
theorem dX6_row_57 : decode cX6_row 57 = .ok (.aload_n 0, 1) := by decide +kernel
theorem dX6_row_58 : decode cX6_row 58 = .ok (.getfield 12, 3) := by decide +kernel
theorem dX6_row_61 : decode cX6_row 61 = .ok (.getfield 94, 3) := by decide +kernel
theorem dX6_row_64 : decode cX6_row 64 = .ok (.iload 4, 2) := by decide +kernel
theorem dX6_row_66 : decode cX6_row 66 = .ok (.iaload, 1) := by decide +kernel
theorem dX6_row_67 : decode cX6_row 67 = .ok (.istore 5, 2) := by decide +kernel
theorem dX6_row_69 : decode cX6_row 69 = .ok (.aload_n 0, 1) := by decide +kernel
theorem dX6_row_70 : decode cX6_row 70 = .ok (.getfield 12, 3) := by decide +kernel
theorem dX6_row_73 : decode cX6_row 73 = .ok (.getfield 94, 3) := by decide +kernel
theorem dX6_row_76 : decode cX6_row 76 = .ok (.iload 4, 2) := by decide +kernel
theorem dX6_row_78 : decode cX6_row 78 = .ok (.iload_n 3, 1) := by decide +kernel
theorem dX6_row_79 : decode cX6_row 79 = .ok (.iastore, 1) := by decide +kernel
theorem dX6_row_80 : decode cX6_row 80 = .ok (.iload 5, 2) := by decide +kernel
theorem dX6_row_82 : decode cX6_row 82 = .ok (.ireturn, 1) := by decide +kernel
theorem dX6_feed_0 : decode cX6_feed 0 = .ok (.iload_n 1, 1) := by decide +kernel
theorem dX6_feed_1 : decode cX6_feed 1 = .ok (.bipush 127, 2) := by decide +kernel
theorem dX6_feed_3 : decode cX6_feed 3 = .ok (.invokestatic 49, 3) := by decide +kernel
theorem dX6_feed_6 : decode cX6_feed 6 = .ok (.ifCond .ne 6, 3) := by decide +kernel
theorem dX6_feed_9 : decode cX6_feed 9 = .ok (.bipush (-2), 2) := by decide +kernel
theorem dX6_feed_11 : decode cX6_feed 11 = .ok (.ireturn, 1) := by decide +kernel
theorem dX6_feed_12 : decode cX6_feed 12 = .ok (.aload_n 0, 1) := by decide +kernel
theorem dX6_feed_13 : decode cX6_feed 13 = .ok (.getfield 27, 3) := by decide +kernel
theorem dX6_feed_16 : decode cX6_feed 16 = .ok (.getfield 97, 3) := by decide +kernel
theorem dX6_feed_19 : decode cX6_feed 19 = .ok (.bipush 100, 2) := by decide +kernel
theorem dX6_feed_21 : decode cX6_feed 21 = .ok (.if_icmp .lt 8, 3) := by decide +kernel
theorem dX6_feed_24 : decode cX6_feed 24 = .ok (.bipush (-4), 2) := by decide +kernel
theorem dX6_feed_26 : decode cX6_feed 26 = .ok (.goto 11, 3) := by decide +kernel
theorem dX6_feed_29 : decode cX6_feed 29 = .ok (.aload_n 0, 1) := by decide +kernel
theorem dX6_feed_30 : decode cX6_feed 30 = .ok (.getfield 27, 3) := by decide +kernel
theorem dX6_feed_33 : decode cX6_feed 33 = .ok (.iload_n 1, 1) := by decide +kernel
theorem dX6_feed_34 : decode cX6_feed 34 = .ok (.invokevirtual 100, 3) := by decide +kernel
theorem dX6_feed_37 : decode cX6_feed 37 = .ok (.ireturn, 1) := by decide +kernel
theorem dX6_charter_0 : decode cX6_charter 0 = .ok (.aload_n 0, 1) := by decide +kernel
theorem dX6_charter_1 : decode cX6_charter 1 = .ok (.getfield 102, 3) := by decide +kernel
theorem dX6_charter_4 : decode cX6_charter 4 = .ok (.bipush 6, 2) := by decide +kernel
theorem dX6_charter_6 : decode cX6_charter 6 = .ok (.if_icmp .lt 6, 3) := by decide +kernel
theorem dX6_charter_9 : decode cX6_charter 9 = .ok (.bipush (-4), 2) := by decide +kernel
theorem dX6_charter_11 : decode cX6_charter 11 = .ok (.ireturn, 1) := by decide +kernel
theorem dX6_charter_12 : decode cX6_charter 12 = .ok (.aload_n 0, 1) := by decide +kernel
theorem dX6_charter_13 : decode cX6_charter 13 = .ok (.getfield 105, 3) := by decide +kernel
theorem dX6_charter_16 : decode cX6_charter 16 = .ok (.ifnonnull 14, 3) := by decide +kernel
theorem dX6_charter_19 : decode cX6_charter 19 = .ok (.aload_n 0, 1) := by decide +kernel
theorem dX6_charter_20 : decode cX6_charter 20 = .ok (.new 109, 3) := by decide +kernel
theorem dX6_charter_23 : decode cX6_charter 23 = .ok (.dup, 1) := by decide +kernel
theorem dX6_charter_24 : decode cX6_charter 24 = .ok (.invokespecial 111, 3) := by decide +kernel
theorem dX6_charter_27 : decode cX6_charter 27 = .ok (.putfield 105, 3) := by decide +kernel
theorem dX6_charter_30 : decode cX6_charter 30 = .ok (.aload_n 0, 1) := by decide +kernel
theorem dX6_charter_31 : decode cX6_charter 31 = .ok (.getfield 27, 3) := by decide +kernel
theorem dX6_charter_34 : decode cX6_charter 34 = .ok (.aload_n 0, 1) := by decide +kernel
theorem dX6_charter_35 : decode cX6_charter 35 = .ok (.getfield 105, 3) := by decide +kernel
theorem dX6_charter_38 : decode cX6_charter 38 = .ok (.invokevirtual 112, 3) := by decide +kernel
theorem dX6_charter_41 : decode cX6_charter 41 = .ok (.istore_n 1, 1) := by decide +kernel
theorem dX6_charter_42 : decode cX6_charter 42 = .ok (.aload_n 0, 1) := by decide +kernel
theorem dX6_charter_43 : decode cX6_charter 43 = .ok (.getfield 27, 3) := by decide +kernel
theorem dX6_charter_46 : decode cX6_charter 46 = .ok (.iconst 0, 1) := by decide +kernel
theorem dX6_charter_47 : decode cX6_charter 47 = .ok (.putfield 97, 3) := by decide +kernel
theorem dX6_charter_50 : decode cX6_charter 50 = .ok (.iload_n 1, 1) := by decide +kernel
theorem dX6_charter_51 : decode cX6_charter 51 = .ok (.iconst (-1), 1) := by decide +kernel
theorem dX6_charter_52 : decode cX6_charter 52 = .ok (.if_icmp .eq 8, 3) := by decide +kernel
theorem dX6_charter_55 : decode cX6_charter 55 = .ok (.bipush (-10), 2) := by decide +kernel
theorem dX6_charter_57 : decode cX6_charter 57 = .ok (.iload_n 1, 1) := by decide +kernel
theorem dX6_charter_58 : decode cX6_charter 58 = .ok (.isub, 1) := by decide +kernel
theorem dX6_charter_59 : decode cX6_charter 59 = .ok (.ireturn, 1) := by decide +kernel
theorem dX6_charter_60 : decode cX6_charter 60 = .ok (.aload_n 0, 1) := by decide +kernel
theorem dX6_charter_61 : decode cX6_charter 61 = .ok (.getfield 12, 3) := by decide +kernel
theorem dX6_charter_64 : decode cX6_charter 64 = .ok (.aload_n 0, 1) := by decide +kernel
theorem dX6_charter_65 : decode cX6_charter 65 = .ok (.getfield 105, 3) := by decide +kernel
theorem dX6_charter_68 : decode cX6_charter 68 = .ok (.putfield 116, 3) := by decide +kernel
theorem dX6_charter_71 : decode cX6_charter 71 = .ok (.aload_n 0, 1) := by decide +kernel
theorem dX6_charter_72 : decode cX6_charter 72 = .ok (.aconst_null, 1) := by decide +kernel
theorem dX6_charter_73 : decode cX6_charter 73 = .ok (.putfield 105, 3) := by decide +kernel
theorem dX6_charter_76 : decode cX6_charter 76 = .ok (.aload_n 0, 1) := by decide +kernel
theorem dX6_charter_77 : decode cX6_charter 77 = .ok (.dup, 1) := by decide +kernel
theorem dX6_charter_78 : decode cX6_charter 78 = .ok (.getfield 102, 3) := by decide +kernel
theorem dX6_charter_81 : decode cX6_charter 81 = .ok (.iconst 1, 1) := by decide +kernel
theorem dX6_charter_82 : decode cX6_charter 82 = .ok (.iadd, 1) := by decide +kernel
theorem dX6_charter_83 : decode cX6_charter 83 = .ok (.putfield 102, 3) := by decide +kernel
theorem dX6_charter_86 : decode cX6_charter 86 = .ok (.aload_n 0, 1) := by decide +kernel
theorem dX6_charter_87 : decode cX6_charter 87 = .ok (.getfield 102, 3) := by decide +kernel
theorem dX6_charter_90 : decode cX6_charter 90 = .ok (.iconst 1, 1) := by decide +kernel
theorem dX6_charter_91 : decode cX6_charter 91 = .ok (.isub, 1) := by decide +kernel
theorem dX6_charter_92 : decode cX6_charter 92 = .ok (.ireturn, 1) := by decide +kernel
theorem dX6_told_0 : decode cX6_told 0 = .ok (.iload_n 1, 1) := by decide +kernel
theorem dX6_told_1 : decode cX6_told 1 = .ok (.tableswitch 130 0 9 #[55, 63, 71, 79, 87, 95, 103, 111, 116, 125], 55) := by decide +kernel
theorem dX6_told_56 : decode cX6_told 56 = .ok (.aload_n 0, 1) := by decide +kernel
theorem dX6_told_57 : decode cX6_told 57 = .ok (.getfield 12, 3) := by decide +kernel
theorem dX6_told_60 : decode cX6_told 60 = .ok (.getfield 119, 3) := by decide +kernel
theorem dX6_told_63 : decode cX6_told 63 = .ok (.ireturn, 1) := by decide +kernel
theorem dX6_told_64 : decode cX6_told 64 = .ok (.aload_n 0, 1) := by decide +kernel
theorem dX6_told_65 : decode cX6_told 65 = .ok (.getfield 12, 3) := by decide +kernel
theorem dX6_told_68 : decode cX6_told 68 = .ok (.invokevirtual 122, 3) := by decide +kernel
theorem dX6_told_71 : decode cX6_told 71 = .ok (.ireturn, 1) := by decide +kernel
theorem dX6_told_72 : decode cX6_told 72 = .ok (.aload_n 0, 1) := by decide +kernel
theorem dX6_told_73 : decode cX6_told 73 = .ok (.getfield 12, 3) := by decide +kernel
theorem dX6_told_76 : decode cX6_told 76 = .ok (.getfield 91, 3) := by decide +kernel
theorem dX6_told_79 : decode cX6_told 79 = .ok (.ireturn, 1) := by decide +kernel
theorem dX6_told_80 : decode cX6_told 80 = .ok (.aload_n 0, 1) := by decide +kernel
theorem dX6_told_81 : decode cX6_told 81 = .ok (.getfield 12, 3) := by decide +kernel
theorem dX6_told_84 : decode cX6_told 84 = .ok (.getfield 126, 3) := by decide +kernel
theorem dX6_told_87 : decode cX6_told 87 = .ok (.ireturn, 1) := by decide +kernel
theorem dX6_told_88 : decode cX6_told 88 = .ok (.aload_n 0, 1) := by decide +kernel
theorem dX6_told_89 : decode cX6_told 89 = .ok (.getfield 12, 3) := by decide +kernel
theorem dX6_told_92 : decode cX6_told 92 = .ok (.getfield 129, 3) := by decide +kernel
theorem dX6_told_95 : decode cX6_told 95 = .ok (.ireturn, 1) := by decide +kernel
theorem dX6_told_96 : decode cX6_told 96 = .ok (.aload_n 0, 1) := by decide +kernel
theorem dX6_told_97 : decode cX6_told 97 = .ok (.getfield 12, 3) := by decide +kernel
theorem dX6_told_100 : decode cX6_told 100 = .ok (.invokevirtual 132, 3) := by decide +kernel
theorem dX6_told_103 : decode cX6_told 103 = .ok (.ireturn, 1) := by decide +kernel
theorem dX6_told_104 : decode cX6_told 104 = .ok (.aload_n 0, 1) := by decide +kernel
theorem dX6_told_105 : decode cX6_told 105 = .ok (.getfield 12, 3) := by decide +kernel
theorem dX6_told_108 : decode cX6_told 108 = .ok (.getfield 135, 3) := by decide +kernel
theorem dX6_told_111 : decode cX6_told 111 = .ok (.ireturn, 1) := by decide +kernel
theorem dX6_told_112 : decode cX6_told 112 = .ok (.aload_n 0, 1) := by decide +kernel
theorem dX6_told_113 : decode cX6_told 113 = .ok (.invokevirtual 138, 3) := by decide +kernel
theorem dX6_told_116 : decode cX6_told 116 = .ok (.ireturn, 1) := by decide +kernel
theorem dX6_told_117 : decode cX6_told 117 = .ok (.aload_n 0, 1) := by decide +kernel
theorem dX6_told_118 : decode cX6_told 118 = .ok (.aload_n 0, 1) := by decide +kernel
theorem dX6_told_119 : decode cX6_told 119 = .ok (.invokevirtual 141, 3) := by decide +kernel
theorem dX6_told_122 : decode cX6_told 122 = .ok (.invokevirtual 144, 3) := by decide +kernel
theorem dX6_told_125 : decode cX6_told 125 = .ok (.ireturn, 1) := by decide +kernel
theorem dX6_told_126 : decode cX6_told 126 = .ok (.aload_n 0, 1) := by decide +kernel
theorem dX6_told_127 : decode cX6_told 127 = .ok (.invokevirtual 141, 3) := by decide +kernel
theorem dX6_told_130 : decode cX6_told 130 = .ok (.ireturn, 1) := by decide +kernel
theorem dX6_told_131 : decode cX6_told 131 = .ok (.iconst (-1), 1) := by decide +kernel
theorem dX6_told_132 : decode cX6_told 132 = .ok (.ireturn, 1) := by decide +kernel
theorem dX6_pass_0 : decode cX6_pass 0 = .ok (.iload_n 1, 1) := by decide +kernel
theorem dX6_pass_1 : decode cX6_pass 1 = .ok (.bipush 60, 2) := by decide +kernel
theorem dX6_pass_3 : decode cX6_pass 3 = .ok (.invokestatic 49, 3) := by decide +kernel
theorem dX6_pass_6 : decode cX6_pass 6 = .ok (.ifCond .ne 6, 3) := by decide +kernel
theorem dX6_pass_9 : decode cX6_pass 9 = .ok (.bipush (-2), 2) := by decide +kernel
theorem dX6_pass_11 : decode cX6_pass 11 = .ok (.ireturn, 1) := by decide +kernel
theorem dX6_pass_12 : decode cX6_pass 12 = .ok (.aload_n 0, 1) := by decide +kernel
theorem dX6_pass_13 : decode cX6_pass 13 = .ok (.getfield 12, 3) := by decide +kernel
theorem dX6_pass_16 : decode cX6_pass 16 = .ok (.getfield 119, 3) := by decide +kernel
theorem dX6_pass_19 : decode cX6_pass 19 = .ok (.iload_n 1, 1) := by decide +kernel
theorem dX6_pass_20 : decode cX6_pass 20 = .ok (.iadd, 1) := by decide +kernel
theorem dX6_pass_21 : decode cX6_pass 21 = .ok (.sipush 9999, 3) := by decide +kernel
theorem dX6_pass_24 : decode cX6_pass 24 = .ok (.if_icmp .le 6, 3) := by decide +kernel
theorem dX6_pass_27 : decode cX6_pass 27 = .ok (.bipush (-3), 2) := by decide +kernel
theorem dX6_pass_29 : decode cX6_pass 29 = .ok (.ireturn, 1) := by decide +kernel
theorem dX6_pass_30 : decode cX6_pass 30 = .ok (.aload_n 0, 1) := by decide +kernel
theorem dX6_pass_31 : decode cX6_pass 31 = .ok (.getfield 12, 3) := by decide +kernel
theorem dX6_pass_34 : decode cX6_pass 34 = .ok (.iload_n 1, 1) := by decide +kernel
theorem dX6_pass_35 : decode cX6_pass 35 = .ok (.sipush 9999, 3) := by decide +kernel
theorem dX6_pass_38 : decode cX6_pass 38 = .ok (.invokevirtual 147, 3) := by decide +kernel
theorem dX6_pass_41 : decode cX6_pass 41 = .ok (.aload_n 0, 1) := by decide +kernel
theorem dX6_pass_42 : decode cX6_pass 42 = .ok (.getfield 12, 3) := by decide +kernel
theorem dX6_pass_45 : decode cX6_pass 45 = .ok (.getfield 119, 3) := by decide +kernel
theorem dX6_pass_48 : decode cX6_pass 48 = .ok (.ireturn, 1) := by decide +kernel
theorem dX6_on_0 : decode cX6_on 0 = .ok (.iload_n 2, 1) := by decide +kernel
theorem dX6_on_1 : decode cX6_on 1 = .ok (.iconst 3, 1) := by decide +kernel
theorem dX6_on_2 : decode cX6_on 2 = .ok (.invokestatic 49, 3) := by decide +kernel
theorem dX6_on_5 : decode cX6_on 5 = .ok (.ifCond .ne 5, 3) := by decide +kernel
theorem dX6_on_8 : decode cX6_on 8 = .ok (.iconst (-1), 1) := by decide +kernel
theorem dX6_on_9 : decode cX6_on 9 = .ok (.ireturn, 1) := by decide +kernel
theorem dX6_on_10 : decode cX6_on 10 = .ok (.iload_n 1, 1) := by decide +kernel
theorem dX6_on_11 : decode cX6_on 11 = .ok (.bipush 60, 2) := by decide +kernel
theorem dX6_on_13 : decode cX6_on 13 = .ok (.invokestatic 49, 3) := by decide +kernel
theorem dX6_on_16 : decode cX6_on 16 = .ok (.ifCond .ne 6, 3) := by decide +kernel
theorem dX6_on_19 : decode cX6_on 19 = .ok (.bipush (-2), 2) := by decide +kernel
theorem dX6_on_21 : decode cX6_on 21 = .ok (.ireturn, 1) := by decide +kernel
theorem dX6_on_22 : decode cX6_on 22 = .ok (.aload_n 0, 1) := by decide +kernel
theorem dX6_on_23 : decode cX6_on 23 = .ok (.invokevirtual 151, 3) := by decide +kernel
theorem dX6_on_26 : decode cX6_on 26 = .ok (.astore_n 3, 1) := by decide +kernel
theorem dX6_on_27 : decode cX6_on 27 = .ok (.aload_n 3, 1) := by decide +kernel
theorem dX6_on_28 : decode cX6_on 28 = .ok (.iload_n 1, 1) := by decide +kernel
theorem dX6_on_29 : decode cX6_on 29 = .ok (.ldc 155, 2) := by decide +kernel
theorem dX6_on_31 : decode cX6_on 31 = .ok (.invokevirtual 147, 3) := by decide +kernel
theorem dX6_on_34 : decode cX6_on 34 = .ok (.iload_n 2, 1) := by decide +kernel
theorem dX6_on_35 : decode cX6_on 35 = .ok (.tableswitch 40 0 2 #[25, 30, 35], 25) := by decide +kernel
theorem dX6_on_60 : decode cX6_on 60 = .ok (.aload_n 3, 1) := by decide +kernel
theorem dX6_on_61 : decode cX6_on 61 = .ok (.getfield 91, 3) := by decide +kernel
theorem dX6_on_64 : decode cX6_on 64 = .ok (.ireturn, 1) := by decide +kernel
theorem dX6_on_65 : decode cX6_on 65 = .ok (.aload_n 3, 1) := by decide +kernel
theorem dX6_on_66 : decode cX6_on 66 = .ok (.getfield 126, 3) := by decide +kernel
theorem dX6_on_69 : decode cX6_on 69 = .ok (.ireturn, 1) := by decide +kernel
theorem dX6_on_70 : decode cX6_on 70 = .ok (.aload_n 3, 1) := by decide +kernel
theorem dX6_on_71 : decode cX6_on 71 = .ok (.getfield 129, 3) := by decide +kernel
theorem dX6_on_74 : decode cX6_on 74 = .ok (.ireturn, 1) := by decide +kernel
theorem dX6_on_75 : decode cX6_on 75 = .ok (.aload_n 3, 1) := by decide +kernel
theorem dX6_on_76 : decode cX6_on 76 = .ok (.invokevirtual 132, 3) := by decide +kernel
theorem dX6_on_79 : decode cX6_on 79 = .ok (.ireturn, 1) := by decide +kernel
theorem dX6_best_0 : decode cX6_best 0 = .ok (.iload_n 2, 1) := by decide +kernel
theorem dX6_best_1 : decode cX6_best 1 = .ok (.iconst 2, 1) := by decide +kernel
theorem dX6_best_2 : decode cX6_best 2 = .ok (.invokestatic 49, 3) := by decide +kernel
theorem dX6_best_5 : decode cX6_best 5 = .ok (.ifCond .ne 5, 3) := by decide +kernel
theorem dX6_best_8 : decode cX6_best 8 = .ok (.iconst (-1), 1) := by decide +kernel
theorem dX6_best_9 : decode cX6_best 9 = .ok (.ireturn, 1) := by decide +kernel
theorem dX6_best_10 : decode cX6_best 10 = .ok (.iload_n 1, 1) := by decide +kernel
theorem dX6_best_11 : decode cX6_best 11 = .ok (.iconst 1, 1) := by decide +kernel
theorem dX6_best_12 : decode cX6_best 12 = .ok (.if_icmp .lt 9, 3) := by decide +kernel
theorem dX6_best_15 : decode cX6_best 15 = .ok (.iload_n 1, 1) := by decide +kernel
theorem dX6_best_16 : decode cX6_best 16 = .ok (.bipush 12, 2) := by decide +kernel
theorem dX6_best_18 : decode cX6_best 18 = .ok (.if_icmp .le 6, 3) := by decide +kernel
theorem dX6_best_21 : decode cX6_best 21 = .ok (.bipush (-2), 2) := by decide +kernel
theorem dX6_best_23 : decode cX6_best 23 = .ok (.ireturn, 1) := by decide +kernel
theorem dX6_best_24 : decode cX6_best 24 = .ok (.iload_n 2, 1) := by decide +kernel
theorem dX6_best_25 : decode cX6_best 25 = .ok (.lookupswitch 44 #[(0, 27), (1, 33)], 27) := by decide +kernel
theorem dX6_best_52 : decode cX6_best 52 = .ok (.aload_n 0, 1) := by decide +kernel
theorem dX6_best_53 : decode cX6_best 53 = .ok (.iload_n 1, 1) := by decide +kernel
theorem dX6_best_54 : decode cX6_best 54 = .ok (.invokevirtual 156, 3) := by decide +kernel
theorem dX6_best_57 : decode cX6_best 57 = .ok (.ireturn, 1) := by decide +kernel
theorem dX6_best_58 : decode cX6_best 58 = .ok (.aload_n 0, 1) := by decide +kernel
theorem dX6_best_59 : decode cX6_best 59 = .ok (.iload_n 1, 1) := by decide +kernel
theorem dX6_best_60 : decode cX6_best 60 = .ok (.aload_n 0, 1) := by decide +kernel
theorem dX6_best_61 : decode cX6_best 61 = .ok (.iload_n 1, 1) := by decide +kernel
theorem dX6_best_62 : decode cX6_best 62 = .ok (.invokevirtual 156, 3) := by decide +kernel
theorem dX6_best_65 : decode cX6_best 65 = .ok (.invokevirtual 159, 3) := by decide +kernel
theorem dX6_best_68 : decode cX6_best 68 = .ok (.ireturn, 1) := by decide +kernel
theorem dX6_best_69 : decode cX6_best 69 = .ok (.aload_n 0, 1) := by decide +kernel
theorem dX6_best_70 : decode cX6_best 70 = .ok (.iload_n 1, 1) := by decide +kernel
theorem dX6_best_71 : decode cX6_best 71 = .ok (.invokevirtual 163, 3) := by decide +kernel
theorem dX6_best_74 : decode cX6_best 74 = .ok (.ireturn, 1) := by decide +kernel
theorem dX6_hear_0 : decode cX6_hear 0 = .ok (.iload_n 1, 1) := by decide +kernel
theorem dX6_hear_1 : decode cX6_hear 1 = .ok (.iconst (-1), 1) := by decide +kernel
theorem dX6_hear_2 : decode cX6_hear 2 = .ok (.if_icmp .ne 14, 3) := by decide +kernel
theorem dX6_hear_5 : decode cX6_hear 5 = .ok (.aload_n 0, 1) := by decide +kernel
theorem dX6_hear_6 : decode cX6_hear 6 = .ok (.getfield 12, 3) := by decide +kernel
theorem dX6_hear_9 : decode cX6_hear 9 = .ok (.getfield 166, 3) := by decide +kernel
theorem dX6_hear_12 : decode cX6_hear 12 = .ok (.invokevirtual 170, 3) := by decide +kernel
theorem dX6_hear_15 : decode cX6_hear 15 = .ok (.ireturn, 1) := by decide +kernel
theorem dX6_hear_16 : decode cX6_hear 16 = .ok (.iload_n 1, 1) := by decide +kernel
theorem dX6_hear_17 : decode cX6_hear 17 = .ok (.bipush 12, 2) := by decide +kernel
theorem dX6_hear_19 : decode cX6_hear 19 = .ok (.invokestatic 49, 3) := by decide +kernel
theorem dX6_hear_22 : decode cX6_hear 22 = .ok (.ifCond .eq 13, 3) := by decide +kernel
theorem dX6_hear_25 : decode cX6_hear 25 = .ok (.iload_n 2, 1) := by decide +kernel
theorem dX6_hear_26 : decode cX6_hear 26 = .ok (.sipush 999, 3) := by decide +kernel
theorem dX6_hear_29 : decode cX6_hear 29 = .ok (.invokestatic 49, 3) := by decide +kernel
theorem dX6_hear_32 : decode cX6_hear 32 = .ok (.ifCond .ne 6, 3) := by decide +kernel
theorem dX6_hear_35 : decode cX6_hear 35 = .ok (.bipush (-2), 2) := by decide +kernel
theorem dX6_hear_37 : decode cX6_hear 37 = .ok (.ireturn, 1) := by decide +kernel
theorem dX6_hear_38 : decode cX6_hear 38 = .ok (.aload_n 0, 1) := by decide +kernel
theorem dX6_hear_39 : decode cX6_hear 39 = .ok (.getfield 12, 3) := by decide +kernel
theorem dX6_hear_42 : decode cX6_hear 42 = .ok (.getfield 166, 3) := by decide +kernel
theorem dX6_hear_45 : decode cX6_hear 45 = .ok (.invokevirtual 175, 3) := by decide +kernel
theorem dX6_hear_48 : decode cX6_hear 48 = .ok (.ifCond .eq 8, 3) := by decide +kernel
theorem dX6_hear_51 : decode cX6_hear 51 = .ok (.bipush (-4), 2) := by decide +kernel
theorem dX6_hear_53 : decode cX6_hear 53 = .ok (.goto 15, 3) := by decide +kernel
theorem dX6_hear_56 : decode cX6_hear 56 = .ok (.aload_n 0, 1) := by decide +kernel
theorem dX6_hear_57 : decode cX6_hear 57 = .ok (.getfield 12, 3) := by decide +kernel
theorem dX6_hear_60 : decode cX6_hear 60 = .ok (.getfield 166, 3) := by decide +kernel
theorem dX6_hear_63 : decode cX6_hear 63 = .ok (.iload_n 1, 1) := by decide +kernel
theorem dX6_hear_64 : decode cX6_hear 64 = .ok (.iload_n 2, 1) := by decide +kernel
theorem dX6_hear_65 : decode cX6_hear 65 = .ok (.invokevirtual 179, 3) := by decide +kernel
theorem dX6_hear_68 : decode cX6_hear 68 = .ok (.ireturn, 1) := by decide +kernel
theorem dX6_can_0 : decode cX6_can 0 = .ok (.aload_n 0, 1) := by decide +kernel
theorem dX6_can_1 : decode cX6_can 1 = .ok (.getfield 12, 3) := by decide +kernel
theorem dX6_can_4 : decode cX6_can 4 = .ok (.iload_n 1, 1) := by decide +kernel
theorem dX6_can_5 : decode cX6_can 5 = .ok (.invokevirtual 61, 3) := by decide +kernel
theorem dX6_can_8 : decode cX6_can 8 = .ok (.ifCond .eq 11, 3) := by decide +kernel
theorem dX6_can_11 : decode cX6_can 11 = .ok (.iload_n 2, 1) := by decide +kernel
theorem dX6_can_12 : decode cX6_can 12 = .ok (.iconst 1, 1) := by decide +kernel
theorem dX6_can_13 : decode cX6_can 13 = .ok (.invokestatic 49, 3) := by decide +kernel
theorem dX6_can_16 : decode cX6_can 16 = .ok (.ifCond .ne 5, 3) := by decide +kernel
theorem dX6_can_19 : decode cX6_can 19 = .ok (.iconst (-1), 1) := by decide +kernel
theorem dX6_can_20 : decode cX6_can 20 = .ok (.ireturn, 1) := by decide +kernel
theorem dX6_can_21 : decode cX6_can 21 = .ok (.aload_n 0, 1) := by decide +kernel
theorem dX6_can_22 : decode cX6_can 22 = .ok (.iload_n 1, 1) := by decide +kernel
theorem dX6_can_23 : decode cX6_can 23 = .ok (.invokevirtual 181, 3) := by decide +kernel
theorem dX6_can_26 : decode cX6_can 26 = .ok (.istore_n 3, 1) := by decide +kernel
theorem dX6_can_27 : decode cX6_can 27 = .ok (.iload_n 2, 1) := by decide +kernel
theorem dX6_can_28 : decode cX6_can 28 = .ok (.ifCond .ne 10, 3) := by decide +kernel
theorem dX6_can_31 : decode cX6_can 31 = .ok (.iload_n 3, 1) := by decide +kernel
theorem dX6_can_32 : decode cX6_can 32 = .ok (.invokestatic 184, 3) := by decide +kernel
theorem dX6_can_35 : decode cX6_can 35 = .ok (.goto 7, 3) := by decide +kernel
theorem dX6_can_38 : decode cX6_can 38 = .ok (.iload_n 3, 1) := by decide +kernel
theorem dX6_can_39 : decode cX6_can 39 = .ok (.invokestatic 189, 3) := by decide +kernel
theorem dX6_can_42 : decode cX6_can 42 = .ok (.ireturn, 1) := by decide +kernel
theorem dX6_odds_0 : decode cX6_odds 0 = .ok (.iload_n 1, 1) := by decide +kernel
theorem dX6_odds_1 : decode cX6_odds 1 = .ok (.bipush 20, 2) := by decide +kernel
theorem dX6_odds_3 : decode cX6_odds 3 = .ok (.invokestatic 49, 3) := by decide +kernel
theorem dX6_odds_6 : decode cX6_odds 6 = .ok (.ifCond .eq 21, 3) := by decide +kernel
theorem dX6_odds_9 : decode cX6_odds 9 = .ok (.iload_n 2, 1) := by decide +kernel
theorem dX6_odds_10 : decode cX6_odds 10 = .ok (.iconst 1, 1) := by decide +kernel
theorem dX6_odds_11 : decode cX6_odds 11 = .ok (.invokestatic 49, 3) := by decide +kernel
theorem dX6_odds_14 : decode cX6_odds 14 = .ok (.ifCond .eq 13, 3) := by decide +kernel
theorem dX6_odds_17 : decode cX6_odds 17 = .ok (.aload_n 0, 1) := by decide +kernel
theorem dX6_odds_18 : decode cX6_odds 18 = .ok (.getfield 12, 3) := by decide +kernel
theorem dX6_odds_21 : decode cX6_odds 21 = .ok (.getfield 53, 3) := by decide +kernel
theorem dX6_odds_24 : decode cX6_odds 24 = .ok (.ifCond .ne 7, 3) := by decide +kernel
theorem dX6_odds_27 : decode cX6_odds 27 = .ok (.ldc2_w 192, 3) := by decide +kernel
theorem dX6_odds_30 : decode cX6_odds 30 = .ok (.lreturn, 1) := by decide +kernel
theorem dX6_odds_31 : decode cX6_odds 31 = .ok (.iconst 0, 1) := by decide +kernel
theorem dX6_odds_32 : decode cX6_odds 32 = .ok (.istore_n 3, 1) := by decide +kernel
theorem dX6_odds_33 : decode cX6_odds 33 = .ok (.iconst 0, 1) := by decide +kernel
theorem dX6_odds_34 : decode cX6_odds 34 = .ok (.istore 4, 2) := by decide +kernel
theorem dX6_odds_36 : decode cX6_odds 36 = .ok (.iload 4, 2) := by decide +kernel
theorem dX6_odds_38 : decode cX6_odds 38 = .ok (.aload_n 0, 1) := by decide +kernel
theorem dX6_odds_39 : decode cX6_odds 39 = .ok (.getfield 12, 3) := by decide +kernel
theorem dX6_odds_42 : decode cX6_odds 42 = .ok (.getfield 53, 3) := by decide +kernel
theorem dX6_odds_45 : decode cX6_odds 45 = .ok (.if_icmp .ge 39, 3) := by decide +kernel
theorem dX6_odds_48 : decode cX6_odds 48 = .ok (.aload_n 0, 1) := by decide +kernel
theorem dX6_odds_49 : decode cX6_odds 49 = .ok (.iload_n 1, 1) := by decide +kernel
theorem dX6_odds_50 : decode cX6_odds 50 = .ok (.aload_n 0, 1) := by decide +kernel
theorem dX6_odds_51 : decode cX6_odds 51 = .ok (.getfield 12, 3) := by decide +kernel
theorem dX6_odds_54 : decode cX6_odds 54 = .ok (.getfield 135, 3) := by decide +kernel
theorem dX6_odds_57 : decode cX6_odds 57 = .ok (.iconst 1, 1) := by decide +kernel
theorem dX6_odds_58 : decode cX6_odds 58 = .ok (.iload 4, 2) := by decide +kernel
theorem dX6_odds_60 : decode cX6_odds 60 = .ok (.ishl, 1) := by decide +kernel
theorem dX6_odds_61 : decode cX6_odds 61 = .ok (.ixor, 1) := by decide +kernel
theorem dX6_odds_62 : decode cX6_odds 62 = .ok (.invokevirtual 159, 3) := by decide +kernel
theorem dX6_odds_65 : decode cX6_odds 65 = .ok (.aload_n 0, 1) := by decide +kernel
theorem dX6_odds_66 : decode cX6_odds 66 = .ok (.getfield 12, 3) := by decide +kernel
theorem dX6_odds_69 : decode cX6_odds 69 = .ok (.getfield 126, 3) := by decide +kernel
theorem dX6_odds_72 : decode cX6_odds 72 = .ok (.if_icmp .le 6, 3) := by decide +kernel
theorem dX6_odds_75 : decode cX6_odds 75 = .ok (.iinc 3 1, 3) := by decide +kernel
theorem dX6_odds_78 : decode cX6_odds 78 = .ok (.iinc 4 1, 3) := by decide +kernel
theorem dX6_odds_81 : decode cX6_odds 81 = .ok (.goto (-45), 3) := by decide +kernel
theorem dX6_odds_84 : decode cX6_odds 84 = .ok (.iload_n 3, 1) := by decide +kernel
theorem dX6_odds_85 : decode cX6_odds 85 = .ok (.aload_n 0, 1) := by decide +kernel
theorem dX6_odds_86 : decode cX6_odds 86 = .ok (.getfield 12, 3) := by decide +kernel
theorem dX6_odds_89 : decode cX6_odds 89 = .ok (.getfield 53, 3) := by decide +kernel
theorem dX6_odds_92 : decode cX6_odds 92 = .ok (.iload_n 2, 1) := by decide +kernel
theorem dX6_odds_93 : decode cX6_odds 93 = .ok (.invokestatic 194, 3) := by decide +kernel
theorem dX6_odds_96 : decode cX6_odds 96 = .ok (.lreturn, 1) := by decide +kernel
theorem dX6_mean_0 : decode cX6_mean 0 = .ok (.iconst 0, 1) := by decide +kernel
theorem dX6_mean_1 : decode cX6_mean 1 = .ok (.istore_n 2, 1) := by decide +kernel
theorem dX6_mean_2 : decode cX6_mean 2 = .ok (.iconst 0, 1) := by decide +kernel
theorem dX6_mean_3 : decode cX6_mean 3 = .ok (.istore_n 3, 1) := by decide +kernel
theorem dX6_mean_4 : decode cX6_mean 4 = .ok (.iconst 0, 1) := by decide +kernel
theorem dX6_mean_5 : decode cX6_mean 5 = .ok (.istore 4, 2) := by decide +kernel
theorem dX6_mean_7 : decode cX6_mean 7 = .ok (.iload 4, 2) := by decide +kernel
theorem dX6_mean_9 : decode cX6_mean 9 = .ok (.aload_n 0, 1) := by decide +kernel
theorem dX6_mean_10 : decode cX6_mean 10 = .ok (.getfield 12, 3) := by decide +kernel
theorem dX6_mean_13 : decode cX6_mean 13 = .ok (.getfield 53, 3) := by decide +kernel
theorem dX6_mean_16 : decode cX6_mean 16 = .ok (.if_icmp .ge 37, 3) := by decide +kernel
theorem dX6_mean_19 : decode cX6_mean 19 = .ok (.aload_n 0, 1) := by decide +kernel
theorem dX6_mean_20 : decode cX6_mean 20 = .ok (.getfield 12, 3) := by decide +kernel
theorem dX6_mean_23 : decode cX6_mean 23 = .ok (.iload 4, 2) := by decide +kernel
theorem dX6_mean_25 : decode cX6_mean 25 = .ok (.invokevirtual 74, 3) := by decide +kernel
theorem dX6_mean_28 : decode cX6_mean 28 = .ok (.ifCond .ne 19, 3) := by decide +kernel
theorem dX6_mean_31 : decode cX6_mean 31 = .ok (.iinc 2 1, 3) := by decide +kernel
theorem dX6_mean_34 : decode cX6_mean 34 = .ok (.iload_n 3, 1) := by decide +kernel
theorem dX6_mean_35 : decode cX6_mean 35 = .ok (.aload_n 0, 1) := by decide +kernel
theorem dX6_mean_36 : decode cX6_mean 36 = .ok (.getfield 12, 3) := by decide +kernel
theorem dX6_mean_39 : decode cX6_mean 39 = .ok (.getfield 71, 3) := by decide +kernel
theorem dX6_mean_42 : decode cX6_mean 42 = .ok (.iload 4, 2) := by decide +kernel
theorem dX6_mean_44 : decode cX6_mean 44 = .ok (.iaload, 1) := by decide +kernel
theorem dX6_mean_45 : decode cX6_mean 45 = .ok (.iadd, 1) := by decide +kernel
theorem dX6_mean_46 : decode cX6_mean 46 = .ok (.istore_n 3, 1) := by decide +kernel
theorem dX6_mean_47 : decode cX6_mean 47 = .ok (.iinc 4 1, 3) := by decide +kernel
theorem dX6_mean_50 : decode cX6_mean 50 = .ok (.goto (-43), 3) := by decide +kernel
theorem dX6_mean_53 : decode cX6_mean 53 = .ok (.iload_n 1, 1) := by decide +kernel
theorem dX6_mean_54 : decode cX6_mean 54 = .ok (.iconst 1, 1) := by decide +kernel
theorem dX6_mean_55 : decode cX6_mean 55 = .ok (.invokestatic 49, 3) := by decide +kernel
theorem dX6_mean_58 : decode cX6_mean 58 = .ok (.ifCond .eq 7, 3) := by decide +kernel
theorem dX6_mean_61 : decode cX6_mean 61 = .ok (.iload_n 2, 1) := by decide +kernel
theorem dX6_mean_62 : decode cX6_mean 62 = .ok (.ifCond .ne 9, 3) := by decide +kernel
theorem dX6_mean_65 : decode cX6_mean 65 = .ok (.ldc2_w 192, 3) := by decide +kernel
theorem dX6_mean_68 : decode cX6_mean 68 = .ok (.goto 9, 3) := by decide +kernel
theorem dX6_mean_71 : decode cX6_mean 71 = .ok (.iload_n 3, 1) := by decide +kernel
theorem dX6_mean_72 : decode cX6_mean 72 = .ok (.iload_n 2, 1) := by decide +kernel
theorem dX6_mean_73 : decode cX6_mean 73 = .ok (.iload_n 1, 1) := by decide +kernel
theorem dX6_mean_74 : decode cX6_mean 74 = .ok (.invokestatic 194, 3) := by decide +kernel
theorem dX6_mean_77 : decode cX6_mean 77 = .ok (.lreturn, 1) := by decide +kernel
theorem dX6_plan_0 : decode cX6_plan 0 = .ok (.iload_n 1, 1) := by decide +kernel
theorem dX6_plan_1 : decode cX6_plan 1 = .ok (.iconst (-1), 1) := by decide +kernel
theorem dX6_plan_2 : decode cX6_plan 2 = .ok (.if_icmp .ne 14, 3) := by decide +kernel
theorem dX6_plan_5 : decode cX6_plan 5 = .ok (.aload_n 0, 1) := by decide +kernel
theorem dX6_plan_6 : decode cX6_plan 6 = .ok (.getfield 12, 3) := by decide +kernel
theorem dX6_plan_9 : decode cX6_plan 9 = .ok (.getfield 198, 3) := by decide +kernel
theorem dX6_plan_12 : decode cX6_plan 12 = .ok (.invokevirtual 170, 3) := by decide +kernel
theorem dX6_plan_15 : decode cX6_plan 15 = .ok (.ireturn, 1) := by decide +kernel
theorem dX6_plan_16 : decode cX6_plan 16 = .ok (.iload_n 1, 1) := by decide +kernel
theorem dX6_plan_17 : decode cX6_plan 17 = .ok (.iconst 3, 1) := by decide +kernel
theorem dX6_plan_18 : decode cX6_plan 18 = .ok (.invokestatic 49, 3) := by decide +kernel
theorem dX6_plan_21 : decode cX6_plan 21 = .ok (.ifCond .ne 5, 3) := by decide +kernel
theorem dX6_plan_24 : decode cX6_plan 24 = .ok (.iconst (-1), 1) := by decide +kernel
theorem dX6_plan_25 : decode cX6_plan 25 = .ok (.ireturn, 1) := by decide +kernel
theorem dX6_plan_26 : decode cX6_plan 26 = .ok (.iload_n 1, 1) := by decide +kernel
theorem dX6_plan_27 : decode cX6_plan 27 = .ok (.iconst 1, 1) := by decide +kernel
theorem dX6_plan_28 : decode cX6_plan 28 = .ok (.if_icmp .eq 8, 3) := by decide +kernel
theorem dX6_plan_31 : decode cX6_plan 31 = .ok (.iload_n 1, 1) := by decide +kernel
theorem dX6_plan_32 : decode cX6_plan 32 = .ok (.iconst 2, 1) := by decide +kernel
theorem dX6_plan_33 : decode cX6_plan 33 = .ok (.if_icmp .ne 16, 3) := by decide +kernel
theorem dX6_plan_36 : decode cX6_plan 36 = .ok (.aload_n 0, 1) := by decide +kernel
theorem dX6_plan_37 : decode cX6_plan 37 = .ok (.getfield 12, 3) := by decide +kernel
theorem dX6_plan_40 : decode cX6_plan 40 = .ok (.iload_n 2, 1) := by decide +kernel
theorem dX6_plan_41 : decode cX6_plan 41 = .ok (.invokevirtual 61, 3) := by decide +kernel
theorem dX6_plan_44 : decode cX6_plan 44 = .ok (.ifCond .ne 5, 3) := by decide +kernel
theorem dX6_plan_47 : decode cX6_plan 47 = .ok (.iconst (-1), 1) := by decide +kernel
theorem dX6_plan_48 : decode cX6_plan 48 = .ok (.ireturn, 1) := by decide +kernel
theorem dX6_plan_49 : decode cX6_plan 49 = .ok (.aload_n 0, 1) := by decide +kernel
theorem dX6_plan_50 : decode cX6_plan 50 = .ok (.getfield 12, 3) := by decide +kernel
theorem dX6_plan_53 : decode cX6_plan 53 = .ok (.getfield 198, 3) := by decide +kernel
theorem dX6_plan_56 : decode cX6_plan 56 = .ok (.invokevirtual 175, 3) := by decide +kernel
theorem dX6_plan_59 : decode cX6_plan 59 = .ok (.ifCond .eq 8, 3) := by decide +kernel
theorem dX6_plan_62 : decode cX6_plan 62 = .ok (.bipush (-4), 2) := by decide +kernel
theorem dX6_plan_64 : decode cX6_plan 64 = .ok (.goto 15, 3) := by decide +kernel
theorem dX6_plan_67 : decode cX6_plan 67 = .ok (.aload_n 0, 1) := by decide +kernel
theorem dX6_plan_68 : decode cX6_plan 68 = .ok (.getfield 12, 3) := by decide +kernel
theorem dX6_plan_71 : decode cX6_plan 71 = .ok (.getfield 198, 3) := by decide +kernel
theorem dX6_plan_74 : decode cX6_plan 74 = .ok (.iload_n 1, 1) := by decide +kernel
theorem dX6_plan_75 : decode cX6_plan 75 = .ok (.iload_n 2, 1) := by decide +kernel
theorem dX6_plan_76 : decode cX6_plan 76 = .ok (.invokevirtual 179, 3) := by decide +kernel
theorem dX6_plan_79 : decode cX6_plan 79 = .ok (.ireturn, 1) := by decide +kernel
theorem dX6_ends_0 : decode cX6_ends 0 = .ok (.iload_n 1, 1) := by decide +kernel
theorem dX6_ends_1 : decode cX6_ends 1 = .ok (.iconst 1, 1) := by decide +kernel
theorem dX6_ends_2 : decode cX6_ends 2 = .ok (.invokestatic 49, 3) := by decide +kernel
theorem dX6_ends_5 : decode cX6_ends 5 = .ok (.ifCond .ne 5, 3) := by decide +kernel
theorem dX6_ends_8 : decode cX6_ends 8 = .ok (.iconst (-1), 1) := by decide +kernel
theorem dX6_ends_9 : decode cX6_ends 9 = .ok (.ireturn, 1) := by decide +kernel
theorem dX6_ends_10 : decode cX6_ends 10 = .ok (.aload_n 0, 1) := by decide +kernel
theorem dX6_ends_11 : decode cX6_ends 11 = .ok (.invokevirtual 151, 3) := by decide +kernel
theorem dX6_ends_14 : decode cX6_ends 14 = .ok (.astore_n 2, 1) := by decide +kernel
theorem dX6_ends_15 : decode cX6_ends 15 = .ok (.iconst 0, 1) := by decide +kernel
theorem dX6_ends_16 : decode cX6_ends 16 = .ok (.istore_n 3, 1) := by decide +kernel
theorem dX6_ends_17 : decode cX6_ends 17 = .ok (.iload_n 3, 1) := by decide +kernel
theorem dX6_ends_18 : decode cX6_ends 18 = .ok (.aload_n 0, 1) := by decide +kernel
theorem dX6_ends_19 : decode cX6_ends 19 = .ok (.getfield 12, 3) := by decide +kernel
theorem dX6_ends_22 : decode cX6_ends 22 = .ok (.getfield 198, 3) := by decide +kernel
theorem dX6_ends_25 : decode cX6_ends 25 = .ok (.getfield 201, 3) := by decide +kernel
theorem dX6_ends_28 : decode cX6_ends 28 = .ok (.if_icmp .ge 37, 3) := by decide +kernel
theorem dX6_ends_31 : decode cX6_ends 31 = .ok (.aload_n 2, 1) := by decide +kernel
theorem dX6_ends_32 : decode cX6_ends 32 = .ok (.aload_n 0, 1) := by decide +kernel
theorem dX6_ends_33 : decode cX6_ends 33 = .ok (.getfield 12, 3) := by decide +kernel
theorem dX6_ends_36 : decode cX6_ends 36 = .ok (.getfield 198, 3) := by decide +kernel
theorem dX6_ends_39 : decode cX6_ends 39 = .ok (.getfield 204, 3) := by decide +kernel
theorem dX6_ends_42 : decode cX6_ends 42 = .ok (.iload_n 3, 1) := by decide +kernel
theorem dX6_ends_43 : decode cX6_ends 43 = .ok (.iaload, 1) := by decide +kernel
theorem dX6_ends_44 : decode cX6_ends 44 = .ok (.aload_n 0, 1) := by decide +kernel
theorem dX6_ends_45 : decode cX6_ends 45 = .ok (.getfield 12, 3) := by decide +kernel
theorem dX6_ends_48 : decode cX6_ends 48 = .ok (.getfield 198, 3) := by decide +kernel
theorem dX6_ends_51 : decode cX6_ends 51 = .ok (.getfield 207, 3) := by decide +kernel
theorem dX6_ends_54 : decode cX6_ends 54 = .ok (.iload_n 3, 1) := by decide +kernel
theorem dX6_ends_55 : decode cX6_ends 55 = .ok (.iaload, 1) := by decide +kernel
theorem dX6_ends_56 : decode cX6_ends 56 = .ok (.invokestatic 210, 3) := by decide +kernel
theorem dX6_ends_59 : decode cX6_ends 59 = .ok (.iinc 3 1, 3) := by decide +kernel
theorem dX6_ends_62 : decode cX6_ends 62 = .ok (.goto (-45), 3) := by decide +kernel
theorem dX6_ends_65 : decode cX6_ends 65 = .ok (.iload_n 1, 1) := by decide +kernel
theorem dX6_ends_66 : decode cX6_ends 66 = .ok (.ifCond .ne 10, 3) := by decide +kernel
theorem dX6_ends_69 : decode cX6_ends 69 = .ok (.aload_n 2, 1) := by decide +kernel
theorem dX6_ends_70 : decode cX6_ends 70 = .ok (.getfield 91, 3) := by decide +kernel
theorem dX6_ends_73 : decode cX6_ends 73 = .ok (.goto 7, 3) := by decide +kernel
theorem dX6_ends_76 : decode cX6_ends 76 = .ok (.aload_n 2, 1) := by decide +kernel
theorem dX6_ends_77 : decode cX6_ends 77 = .ok (.getfield 126, 3) := by decide +kernel
theorem dX6_ends_80 : decode cX6_ends 80 = .ok (.ireturn, 1) := by decide +kernel
theorem dX6_book_0 : decode cX6_book 0 = .ok (.iload_n 1, 1) := by decide +kernel
theorem dX6_book_1 : decode cX6_book 1 = .ok (.iconst (-1), 1) := by decide +kernel
theorem dX6_book_2 : decode cX6_book 2 = .ok (.if_icmp .ne 14, 3) := by decide +kernel
theorem dX6_book_5 : decode cX6_book 5 = .ok (.aload_n 0, 1) := by decide +kernel
theorem dX6_book_6 : decode cX6_book 6 = .ok (.getfield 12, 3) := by decide +kernel
theorem dX6_book_9 : decode cX6_book 9 = .ok (.getfield 214, 3) := by decide +kernel
theorem dX6_book_12 : decode cX6_book 12 = .ok (.invokevirtual 170, 3) := by decide +kernel
theorem dX6_book_15 : decode cX6_book 15 = .ok (.ireturn, 1) := by decide +kernel
theorem dX6_book_16 : decode cX6_book 16 = .ok (.aload_n 0, 1) := by decide +kernel
theorem dX6_book_17 : decode cX6_book 17 = .ok (.getfield 12, 3) := by decide +kernel
theorem dX6_book_20 : decode cX6_book 20 = .ok (.iload_n 1, 1) := by decide +kernel
theorem dX6_book_21 : decode cX6_book 21 = .ok (.invokevirtual 61, 3) := by decide +kernel
theorem dX6_book_24 : decode cX6_book 24 = .ok (.ifCond .ne 5, 3) := by decide +kernel
theorem dX6_book_27 : decode cX6_book 27 = .ok (.iconst (-1), 1) := by decide +kernel
theorem dX6_book_28 : decode cX6_book 28 = .ok (.ireturn, 1) := by decide +kernel
theorem dX6_book_29 : decode cX6_book 29 = .ok (.iload_n 2, 1) := by decide +kernel
theorem dX6_book_30 : decode cX6_book 30 = .ok (.bipush 20, 2) := by decide +kernel
theorem dX6_book_32 : decode cX6_book 32 = .ok (.invokestatic 49, 3) := by decide +kernel
theorem dX6_book_35 : decode cX6_book 35 = .ok (.ifCond .ne 6, 3) := by decide +kernel
theorem dX6_book_38 : decode cX6_book 38 = .ok (.bipush (-2), 2) := by decide +kernel
theorem dX6_book_40 : decode cX6_book 40 = .ok (.ireturn, 1) := by decide +kernel
theorem dX6_book_41 : decode cX6_book 41 = .ok (.aload_n 0, 1) := by decide +kernel
theorem dX6_book_42 : decode cX6_book 42 = .ok (.getfield 12, 3) := by decide +kernel
theorem dX6_book_45 : decode cX6_book 45 = .ok (.getfield 214, 3) := by decide +kernel
theorem dX6_book_48 : decode cX6_book 48 = .ok (.invokevirtual 175, 3) := by decide +kernel
theorem dX6_book_51 : decode cX6_book 51 = .ok (.ifCond .eq 8, 3) := by decide +kernel
theorem dX6_book_54 : decode cX6_book 54 = .ok (.bipush (-4), 2) := by decide +kernel
theorem dX6_book_56 : decode cX6_book 56 = .ok (.goto 15, 3) := by decide +kernel
theorem dX6_book_59 : decode cX6_book 59 = .ok (.aload_n 0, 1) := by decide +kernel
theorem dX6_book_60 : decode cX6_book 60 = .ok (.getfield 12, 3) := by decide +kernel
theorem dX6_book_63 : decode cX6_book 63 = .ok (.getfield 214, 3) := by decide +kernel
theorem dX6_book_66 : decode cX6_book 66 = .ok (.iload_n 1, 1) := by decide +kernel
theorem dX6_book_67 : decode cX6_book 67 = .ok (.iload_n 2, 1) := by decide +kernel
theorem dX6_book_68 : decode cX6_book 68 = .ok (.invokevirtual 179, 3) := by decide +kernel
theorem dX6_book_71 : decode cX6_book 71 = .ok (.ireturn, 1) := by decide +kernel
theorem dX6_looked_0 : decode cX6_looked 0 = .ok (.iconst 0, 1) := by decide +kernel
theorem dX6_looked_1 : decode cX6_looked 1 = .ok (.istore_n 1, 1) := by decide +kernel
theorem dX6_looked_2 : decode cX6_looked 2 = .ok (.iload_n 1, 1) := by decide +kernel
theorem dX6_looked_3 : decode cX6_looked 3 = .ok (.aload_n 0, 1) := by decide +kernel
theorem dX6_looked_4 : decode cX6_looked 4 = .ok (.getfield 12, 3) := by decide +kernel
theorem dX6_looked_7 : decode cX6_looked 7 = .ok (.getfield 214, 3) := by decide +kernel
theorem dX6_looked_10 : decode cX6_looked 10 = .ok (.getfield 201, 3) := by decide +kernel
theorem dX6_looked_13 : decode cX6_looked 13 = .ok (.if_icmp .ge 59, 3) := by decide +kernel
theorem dX6_looked_16 : decode cX6_looked 16 = .ok (.aload_n 0, 1) := by decide +kernel
theorem dX6_looked_17 : decode cX6_looked 17 = .ok (.getfield 12, 3) := by decide +kernel
theorem dX6_looked_20 : decode cX6_looked 20 = .ok (.getfield 214, 3) := by decide +kernel
theorem dX6_looked_23 : decode cX6_looked 23 = .ok (.getfield 204, 3) := by decide +kernel
theorem dX6_looked_26 : decode cX6_looked 26 = .ok (.iload_n 1, 1) := by decide +kernel
theorem dX6_looked_27 : decode cX6_looked 27 = .ok (.iaload, 1) := by decide +kernel
theorem dX6_looked_28 : decode cX6_looked 28 = .ok (.istore_n 2, 1) := by decide +kernel
theorem dX6_looked_29 : decode cX6_looked 29 = .ok (.aload_n 0, 1) := by decide +kernel
theorem dX6_looked_30 : decode cX6_looked 30 = .ok (.getfield 12, 3) := by decide +kernel
theorem dX6_looked_33 : decode cX6_looked 33 = .ok (.iload_n 2, 1) := by decide +kernel
theorem dX6_looked_34 : decode cX6_looked 34 = .ok (.invokevirtual 61, 3) := by decide +kernel
theorem dX6_looked_37 : decode cX6_looked 37 = .ok (.ifCond .eq 29, 3) := by decide +kernel
theorem dX6_looked_40 : decode cX6_looked 40 = .ok (.aload_n 0, 1) := by decide +kernel
theorem dX6_looked_41 : decode cX6_looked 41 = .ok (.getfield 12, 3) := by decide +kernel
theorem dX6_looked_44 : decode cX6_looked 44 = .ok (.getfield 71, 3) := by decide +kernel
theorem dX6_looked_47 : decode cX6_looked 47 = .ok (.iload_n 2, 1) := by decide +kernel
theorem dX6_looked_48 : decode cX6_looked 48 = .ok (.iaload, 1) := by decide +kernel
theorem dX6_looked_49 : decode cX6_looked 49 = .ok (.aload_n 0, 1) := by decide +kernel
theorem dX6_looked_50 : decode cX6_looked 50 = .ok (.getfield 12, 3) := by decide +kernel
theorem dX6_looked_53 : decode cX6_looked 53 = .ok (.getfield 214, 3) := by decide +kernel
theorem dX6_looked_56 : decode cX6_looked 56 = .ok (.getfield 207, 3) := by decide +kernel
theorem dX6_looked_59 : decode cX6_looked 59 = .ok (.iload_n 1, 1) := by decide +kernel
theorem dX6_looked_60 : decode cX6_looked 60 = .ok (.iaload, 1) := by decide +kernel
theorem dX6_looked_61 : decode cX6_looked 61 = .ok (.if_icmp .eq 5, 3) := by decide +kernel
theorem dX6_looked_64 : decode cX6_looked 64 = .ok (.iload_n 1, 1) := by decide +kernel
theorem dX6_looked_65 : decode cX6_looked 65 = .ok (.ireturn, 1) := by decide +kernel
theorem dX6_looked_66 : decode cX6_looked 66 = .ok (.iinc 1 1, 3) := by decide +kernel
theorem dX6_looked_69 : decode cX6_looked 69 = .ok (.goto (-67), 3) := by decide +kernel
theorem dX6_looked_72 : decode cX6_looked 72 = .ok (.bipush (-5), 2) := by decide +kernel
theorem dX6_looked_74 : decode cX6_looked 74 = .ok (.ireturn, 1) := by decide +kernel
theorem dX6_judge_0 : decode cX6_judge 0 = .ok (.iload_n 1, 1) := by decide +kernel
theorem dX6_judge_1 : decode cX6_judge 1 = .ok (.iconst 5, 1) := by decide +kernel
theorem dX6_judge_2 : decode cX6_judge 2 = .ok (.invokestatic 49, 3) := by decide +kernel
theorem dX6_judge_5 : decode cX6_judge 5 = .ok (.ifCond .ne 5, 3) := by decide +kernel
theorem dX6_judge_8 : decode cX6_judge 8 = .ok (.iconst (-1), 1) := by decide +kernel
theorem dX6_judge_9 : decode cX6_judge 9 = .ok (.ireturn, 1) := by decide +kernel
theorem dX6_judge_10 : decode cX6_judge 10 = .ok (.aload_n 0, 1) := by decide +kernel
theorem dX6_judge_11 : decode cX6_judge 11 = .ok (.getfield 40, 3) := by decide +kernel
theorem dX6_judge_14 : decode cX6_judge 14 = .ok (.iload_n 1, 1) := by decide +kernel
theorem dX6_judge_15 : decode cX6_judge 15 = .ok (.aaload, 1) := by decide +kernel
theorem dX6_judge_16 : decode cX6_judge 16 = .ok (.astore_n 3, 1) := by decide +kernel
theorem dX6_judge_17 : decode cX6_judge 17 = .ok (.aload_n 3, 1) := by decide +kernel
theorem dX6_judge_18 : decode cX6_judge 18 = .ok (.getfield 217, 3) := by decide +kernel
theorem dX6_judge_21 : decode cX6_judge 21 = .ok (.iconst (-1), 1) := by decide +kernel
theorem dX6_judge_22 : decode cX6_judge 22 = .ok (.if_icmp .eq 14, 3) := by decide +kernel
theorem dX6_judge_25 : decode cX6_judge 25 = .ok (.aload_n 3, 1) := by decide +kernel
theorem dX6_judge_26 : decode cX6_judge 26 = .ok (.getfield 217, 3) := by decide +kernel
theorem dX6_judge_29 : decode cX6_judge 29 = .ok (.iconst 2, 1) := by decide +kernel
theorem dX6_judge_30 : decode cX6_judge 30 = .ok (.if_icmp .eq 6, 3) := by decide +kernel
theorem dX6_judge_33 : decode cX6_judge 33 = .ok (.bipush (-12), 2) := by decide +kernel
theorem dX6_judge_35 : decode cX6_judge 35 = .ok (.ireturn, 1) := by decide +kernel
theorem dX6_judge_36 : decode cX6_judge 36 = .ok (.iconst 0, 1) := by decide +kernel
theorem dX6_judge_37 : decode cX6_judge 37 = .ok (.istore 4, 2) := by decide +kernel
theorem dX6_judge_39 : decode cX6_judge 39 = .ok (.iload 4, 2) := by decide +kernel
theorem dX6_judge_41 : decode cX6_judge 41 = .ok (.aload_n 0, 1) := by decide +kernel
theorem dX6_judge_42 : decode cX6_judge 42 = .ok (.getfield 12, 3) := by decide +kernel
theorem dX6_judge_45 : decode cX6_judge 45 = .ok (.getfield 53, 3) := by decide +kernel
theorem dX6_judge_48 : decode cX6_judge 48 = .ok (.if_icmp .ge 57, 3) := by decide +kernel
theorem dX6_judge_51 : decode cX6_judge 51 = .ok (.iload_n 2, 1) := by decide +kernel
theorem dX6_judge_52 : decode cX6_judge 52 = .ok (.ifCond .lt 14, 3) := by decide +kernel
theorem dX6_judge_55 : decode cX6_judge 55 = .ok (.iload_n 2, 1) := by decide +kernel
theorem dX6_judge_56 : decode cX6_judge 56 = .ok (.aload_n 3, 1) := by decide +kernel
theorem dX6_judge_57 : decode cX6_judge 57 = .ok (.getfield 220, 3) := by decide +kernel
theorem dX6_judge_60 : decode cX6_judge 60 = .ok (.iload 4, 2) := by decide +kernel
theorem dX6_judge_62 : decode cX6_judge 62 = .ok (.isub, 1) := by decide +kernel
theorem dX6_judge_63 : decode cX6_judge 63 = .ok (.if_icmp .lt 9, 3) := by decide +kernel
theorem dX6_judge_66 : decode cX6_judge 66 = .ok (.bipush 100, 2) := by decide +kernel
theorem dX6_judge_68 : decode cX6_judge 68 = .ok (.iload 4, 2) := by decide +kernel
theorem dX6_judge_70 : decode cX6_judge 70 = .ok (.iadd, 1) := by decide +kernel
theorem dX6_judge_71 : decode cX6_judge 71 = .ok (.ireturn, 1) := by decide +kernel
theorem dX6_judge_72 : decode cX6_judge 72 = .ok (.aload_n 3, 1) := by decide +kernel
theorem dX6_judge_73 : decode cX6_judge 73 = .ok (.getfield 223, 3) := by decide +kernel
theorem dX6_judge_76 : decode cX6_judge 76 = .ok (.iload_n 2, 1) := by decide +kernel
theorem dX6_judge_77 : decode cX6_judge 77 = .ok (.iload 4, 2) := by decide +kernel
theorem dX6_judge_79 : decode cX6_judge 79 = .ok (.iadd, 1) := by decide +kernel
theorem dX6_judge_80 : decode cX6_judge 80 = .ok (.laload, 1) := by decide +kernel
theorem dX6_judge_81 : decode cX6_judge 81 = .ok (.aload_n 0, 1) := by decide +kernel
theorem dX6_judge_82 : decode cX6_judge 82 = .ok (.getfield 12, 3) := by decide +kernel
theorem dX6_judge_85 : decode cX6_judge 85 = .ok (.getfield 77, 3) := by decide +kernel
theorem dX6_judge_88 : decode cX6_judge 88 = .ok (.iload 4, 2) := by decide +kernel
theorem dX6_judge_90 : decode cX6_judge 90 = .ok (.iaload, 1) := by decide +kernel
theorem dX6_judge_91 : decode cX6_judge 91 = .ok (.i2l, 1) := by decide +kernel
theorem dX6_judge_92 : decode cX6_judge 92 = .ok (.lcmp, 1) := by decide +kernel
theorem dX6_judge_93 : decode cX6_judge 93 = .ok (.ifCond .eq 6, 3) := by decide +kernel
theorem dX6_judge_96 : decode cX6_judge 96 = .ok (.iload 4, 2) := by decide +kernel
theorem dX6_judge_98 : decode cX6_judge 98 = .ok (.ireturn, 1) := by decide +kernel
theorem dX6_judge_99 : decode cX6_judge 99 = .ok (.iinc 4 1, 3) := by decide +kernel
theorem dX6_judge_102 : decode cX6_judge 102 = .ok (.goto (-63), 3) := by decide +kernel
theorem dX6_judge_105 : decode cX6_judge 105 = .ok (.bipush (-5), 2) := by decide +kernel
theorem dX6_judge_107 : decode cX6_judge 107 = .ok (.ireturn, 1) := by decide +kernel
theorem dX6_image_0 : decode cX6_image 0 = .ok (.aload_n 0, 1) := by decide +kernel
theorem dX6_image_1 : decode cX6_image 1 = .ok (.getfield 18, 3) := by decide +kernel
theorem dX6_image_4 : decode cX6_image 4 = .ok (.aload_n 0, 1) := by decide +kernel
theorem dX6_image_5 : decode cX6_image 5 = .ok (.getfield 12, 3) := by decide +kernel
theorem dX6_image_8 : decode cX6_image 8 = .ok (.invokevirtual 227, 3) := by decide +kernel
theorem dX6_image_11 : decode cX6_image 11 = .ok (.aload_n 0, 1) := by decide +kernel
theorem dX6_image_12 : decode cX6_image 12 = .ok (.iconst 1, 1) := by decide +kernel
theorem dX6_image_13 : decode cX6_image 13 = .ok (.putfield 231, 3) := by decide +kernel
theorem dX6_image_16 : decode cX6_image 16 = .ok (.aload_n 0, 1) := by decide +kernel
theorem dX6_image_17 : decode cX6_image 17 = .ok (.getfield 12, 3) := by decide +kernel
theorem dX6_image_20 : decode cX6_image 20 = .ok (.getfield 53, 3) := by decide +kernel
theorem dX6_image_23 : decode cX6_image 23 = .ok (.ireturn, 1) := by decide +kernel
theorem dX6_undo_0 : decode cX6_undo 0 = .ok (.aload_n 0, 1) := by decide +kernel
theorem dX6_undo_1 : decode cX6_undo 1 = .ok (.getfield 231, 3) := by decide +kernel
theorem dX6_undo_4 : decode cX6_undo 4 = .ok (.ifCond .ne 6, 3) := by decide +kernel
theorem dX6_undo_7 : decode cX6_undo 7 = .ok (.bipush (-3), 2) := by decide +kernel
theorem dX6_undo_9 : decode cX6_undo 9 = .ok (.ireturn, 1) := by decide +kernel
theorem dX6_undo_10 : decode cX6_undo 10 = .ok (.aload_n 0, 1) := by decide +kernel
theorem dX6_undo_11 : decode cX6_undo 11 = .ok (.getfield 12, 3) := by decide +kernel
theorem dX6_undo_14 : decode cX6_undo 14 = .ok (.aload_n 0, 1) := by decide +kernel
theorem dX6_undo_15 : decode cX6_undo 15 = .ok (.getfield 18, 3) := by decide +kernel
theorem dX6_undo_18 : decode cX6_undo 18 = .ok (.invokevirtual 227, 3) := by decide +kernel
theorem dX6_undo_21 : decode cX6_undo 21 = .ok (.aload_n 0, 1) := by decide +kernel
theorem dX6_undo_22 : decode cX6_undo 22 = .ok (.getfield 12, 3) := by decide +kernel
theorem dX6_undo_25 : decode cX6_undo 25 = .ok (.getfield 53, 3) := by decide +kernel
theorem dX6_undo_28 : decode cX6_undo 28 = .ok (.ireturn, 1) := by decide +kernel
theorem dX6_act_0 : decode cX6_act 0 = .ok (.aload_n 0, 1) := by decide +kernel
theorem dX6_act_1 : decode cX6_act 1 = .ok (.getfield 34, 3) := by decide +kernel
theorem dX6_act_4 : decode cX6_act 4 = .ok (.iconst 0, 1) := by decide +kernel
theorem dX6_act_5 : decode cX6_act 5 = .ok (.putfield 235, 3) := by decide +kernel
theorem dX6_act_8 : decode cX6_act 8 = .ok (.aload_n 0, 1) := by decide +kernel
theorem dX6_act_9 : decode cX6_act 9 = .ok (.getfield 12, 3) := by decide +kernel
theorem dX6_act_12 : decode cX6_act 12 = .ok (.iload_n 1, 1) := by decide +kernel
theorem dX6_act_13 : decode cX6_act 13 = .ok (.invokevirtual 61, 3) := by decide +kernel
theorem dX6_act_16 : decode cX6_act 16 = .ok (.ifCond .eq 11, 3) := by decide +kernel
theorem dX6_act_19 : decode cX6_act 19 = .ok (.iload_n 2, 1) := by decide +kernel
theorem dX6_act_20 : decode cX6_act 20 = .ok (.iconst 2, 1) := by decide +kernel
theorem dX6_act_21 : decode cX6_act 21 = .ok (.invokestatic 49, 3) := by decide +kernel
theorem dX6_act_24 : decode cX6_act 24 = .ok (.ifCond .ne 5, 3) := by decide +kernel
theorem dX6_act_27 : decode cX6_act 27 = .ok (.iconst 0, 1) := by decide +kernel
theorem dX6_act_28 : decode cX6_act 28 = .ok (.ireturn, 1) := by decide +kernel
theorem dX6_act_29 : decode cX6_act 29 = .ok (.aload_n 0, 1) := by decide +kernel
theorem dX6_act_30 : decode cX6_act 30 = .ok (.getfield 34, 3) := by decide +kernel
theorem dX6_act_33 : decode cX6_act 33 = .ok (.iload_n 2, 1) := by decide +kernel
theorem dX6_act_34 : decode cX6_act 34 = .ok (.iload_n 1, 1) := by decide +kernel
theorem dX6_act_35 : decode cX6_act 35 = .ok (.aload_n 0, 1) := by decide +kernel
theorem dX6_act_36 : decode cX6_act 36 = .ok (.getfield 12, 3) := by decide +kernel
theorem dX6_act_39 : decode cX6_act 39 = .ok (.getfield 65, 3) := by decide +kernel
theorem dX6_act_42 : decode cX6_act 42 = .ok (.iload_n 1, 1) := by decide +kernel
theorem dX6_act_43 : decode cX6_act 43 = .ok (.iaload, 1) := by decide +kernel
theorem dX6_act_44 : decode cX6_act 44 = .ok (.aload_n 0, 1) := by decide +kernel
theorem dX6_act_45 : decode cX6_act 45 = .ok (.getfield 12, 3) := by decide +kernel
theorem dX6_act_48 : decode cX6_act 48 = .ok (.getfield 68, 3) := by decide +kernel
theorem dX6_act_51 : decode cX6_act 51 = .ok (.iload_n 1, 1) := by decide +kernel
theorem dX6_act_52 : decode cX6_act 52 = .ok (.iaload, 1) := by decide +kernel
theorem dX6_act_53 : decode cX6_act 53 = .ok (.iload_n 3, 1) := by decide +kernel
theorem dX6_act_54 : decode cX6_act 54 = .ok (.invokevirtual 238, 3) := by decide +kernel
theorem dX6_act_57 : decode cX6_act 57 = .ok (.ireturn, 1) := by decide +kernel
theorem dX6_trace_0 : decode cX6_trace 0 = .ok (.iload_n 1, 1) := by decide +kernel
theorem dX6_trace_1 : decode cX6_trace 1 = .ok (.aload_n 0, 1) := by decide +kernel
theorem dX6_trace_2 : decode cX6_trace 2 = .ok (.getfield 34, 3) := by decide +kernel
theorem dX6_trace_5 : decode cX6_trace 5 = .ok (.getfield 235, 3) := by decide +kernel
theorem dX6_trace_8 : decode cX6_trace 8 = .ok (.bipush 20, 2) := by decide +kernel
theorem dX6_trace_10 : decode cX6_trace 10 = .ok (.invokestatic 242, 3) := by decide +kernel
theorem dX6_trace_13 : decode cX6_trace 13 = .ok (.iconst 1, 1) := by decide +kernel
theorem dX6_trace_14 : decode cX6_trace 14 = .ok (.isub, 1) := by decide +kernel
theorem dX6_trace_15 : decode cX6_trace 15 = .ok (.invokestatic 49, 3) := by decide +kernel
theorem dX6_trace_18 : decode cX6_trace 18 = .ok (.ifCond .eq 15, 3) := by decide +kernel
theorem dX6_trace_21 : decode cX6_trace 21 = .ok (.aload_n 0, 1) := by decide +kernel
theorem dX6_trace_22 : decode cX6_trace 22 = .ok (.getfield 34, 3) := by decide +kernel
theorem dX6_trace_25 : decode cX6_trace 25 = .ok (.getfield 247, 3) := by decide +kernel
theorem dX6_trace_28 : decode cX6_trace 28 = .ok (.iload_n 1, 1) := by decide +kernel
theorem dX6_trace_29 : decode cX6_trace 29 = .ok (.iaload, 1) := by decide +kernel
theorem dX6_trace_30 : decode cX6_trace 30 = .ok (.goto 4, 3) := by decide +kernel
theorem dX6_trace_33 : decode cX6_trace 33 = .ok (.iconst (-1), 1) := by decide +kernel
theorem dX6_trace_34 : decode cX6_trace 34 = .ok (.ireturn, 1) := by decide +kernel
theorem dX6_taken_0 : decode cX6_taken 0 = .ok (.iload_n 2, 1) := by decide +kernel
theorem dX6_taken_1 : decode cX6_taken 1 = .ok (.bipush 6, 2) := by decide +kernel
theorem dX6_taken_3 : decode cX6_taken 3 = .ok (.invokestatic 49, 3) := by decide +kernel
theorem dX6_taken_6 : decode cX6_taken 6 = .ok (.ifCond .ne 6, 3) := by decide +kernel
theorem dX6_taken_9 : decode cX6_taken 9 = .ok (.bipush (-2), 2) := by decide +kernel
theorem dX6_taken_11 : decode cX6_taken 11 = .ok (.ireturn, 1) := by decide +kernel
theorem dX6_taken_12 : decode cX6_taken 12 = .ok (.aload_n 0, 1) := by decide +kernel
theorem dX6_taken_13 : decode cX6_taken 13 = .ok (.getfield 12, 3) := by decide +kernel
theorem dX6_taken_16 : decode cX6_taken 16 = .ok (.iload_n 1, 1) := by decide +kernel
theorem dX6_taken_17 : decode cX6_taken 17 = .ok (.invokevirtual 61, 3) := by decide +kernel
theorem dX6_taken_20 : decode cX6_taken 20 = .ok (.ifCond .ne 6, 3) := by decide +kernel
theorem dX6_taken_23 : decode cX6_taken 23 = .ok (.bipush (-11), 2) := by decide +kernel
theorem dX6_taken_25 : decode cX6_taken 25 = .ok (.ireturn, 1) := by decide +kernel
theorem dX6_taken_26 : decode cX6_taken 26 = .ok (.aload_n 0, 1) := by decide +kernel
theorem dX6_taken_27 : decode cX6_taken 27 = .ok (.getfield 12, 3) := by decide +kernel
theorem dX6_taken_30 : decode cX6_taken 30 = .ok (.getfield 65, 3) := by decide +kernel
theorem dX6_taken_33 : decode cX6_taken 33 = .ok (.iload_n 1, 1) := by decide +kernel
theorem dX6_taken_34 : decode cX6_taken 34 = .ok (.iaload, 1) := by decide +kernel
theorem dX6_taken_35 : decode cX6_taken 35 = .ok (.iload_n 2, 1) := by decide +kernel
theorem dX6_taken_36 : decode cX6_taken 36 = .ok (.invokestatic 250, 3) := by decide +kernel
theorem dX6_taken_39 : decode cX6_taken 39 = .ok (.ifCond .eq 15, 3) := by decide +kernel
theorem dX6_taken_42 : decode cX6_taken 42 = .ok (.aload_n 0, 1) := by decide +kernel
theorem dX6_taken_43 : decode cX6_taken 43 = .ok (.getfield 12, 3) := by decide +kernel
theorem dX6_taken_46 : decode cX6_taken 46 = .ok (.getfield 65, 3) := by decide +kernel
theorem dX6_taken_49 : decode cX6_taken 49 = .ok (.iload_n 1, 1) := by decide +kernel
theorem dX6_taken_50 : decode cX6_taken 50 = .ok (.iaload, 1) := by decide +kernel
theorem dX6_taken_51 : decode cX6_taken 51 = .ok (.goto 5, 3) := by decide +kernel
theorem dX6_taken_54 : decode cX6_taken 54 = .ok (.bipush (-12), 2) := by decide +kernel
theorem dX6_taken_56 : decode cX6_taken 56 = .ok (.ireturn, 1) := by decide +kernel
theorem dX6_count_0 : decode cX6_count 0 = .ok (.iload_n 1, 1) := by decide +kernel
theorem dX6_count_1 : decode cX6_count 1 = .ok (.tableswitch 105 0 6 #[43, 51, 56, 67, 78, 89, 97], 43) := by decide +kernel
theorem dX6_count_44 : decode cX6_count 44 = .ok (.aload_n 0, 1) := by decide +kernel
theorem dX6_count_45 : decode cX6_count 45 = .ok (.getfield 12, 3) := by decide +kernel
theorem dX6_count_48 : decode cX6_count 48 = .ok (.getfield 53, 3) := by decide +kernel
theorem dX6_count_51 : decode cX6_count 51 = .ok (.ireturn, 1) := by decide +kernel
theorem dX6_count_52 : decode cX6_count 52 = .ok (.aload_n 0, 1) := by decide +kernel
theorem dX6_count_53 : decode cX6_count 53 = .ok (.getfield 102, 3) := by decide +kernel
theorem dX6_count_56 : decode cX6_count 56 = .ok (.ireturn, 1) := by decide +kernel
theorem dX6_count_57 : decode cX6_count 57 = .ok (.aload_n 0, 1) := by decide +kernel
theorem dX6_count_58 : decode cX6_count 58 = .ok (.getfield 12, 3) := by decide +kernel
theorem dX6_count_61 : decode cX6_count 61 = .ok (.getfield 166, 3) := by decide +kernel
theorem dX6_count_64 : decode cX6_count 64 = .ok (.getfield 201, 3) := by decide +kernel
theorem dX6_count_67 : decode cX6_count 67 = .ok (.ireturn, 1) := by decide +kernel
theorem dX6_count_68 : decode cX6_count 68 = .ok (.aload_n 0, 1) := by decide +kernel
theorem dX6_count_69 : decode cX6_count 69 = .ok (.getfield 12, 3) := by decide +kernel
theorem dX6_count_72 : decode cX6_count 72 = .ok (.getfield 198, 3) := by decide +kernel
theorem dX6_count_75 : decode cX6_count 75 = .ok (.getfield 201, 3) := by decide +kernel
theorem dX6_count_78 : decode cX6_count 78 = .ok (.ireturn, 1) := by decide +kernel
theorem dX6_count_79 : decode cX6_count 79 = .ok (.aload_n 0, 1) := by decide +kernel
theorem dX6_count_80 : decode cX6_count 80 = .ok (.getfield 12, 3) := by decide +kernel
theorem dX6_count_83 : decode cX6_count 83 = .ok (.getfield 214, 3) := by decide +kernel
theorem dX6_count_86 : decode cX6_count 86 = .ok (.getfield 201, 3) := by decide +kernel
theorem dX6_count_89 : decode cX6_count 89 = .ok (.ireturn, 1) := by decide +kernel
theorem dX6_count_90 : decode cX6_count 90 = .ok (.aload_n 0, 1) := by decide +kernel
theorem dX6_count_91 : decode cX6_count 91 = .ok (.getfield 27, 3) := by decide +kernel
theorem dX6_count_94 : decode cX6_count 94 = .ok (.getfield 97, 3) := by decide +kernel
theorem dX6_count_97 : decode cX6_count 97 = .ok (.ireturn, 1) := by decide +kernel
theorem dX6_count_98 : decode cX6_count 98 = .ok (.aload_n 0, 1) := by decide +kernel
theorem dX6_count_99 : decode cX6_count 99 = .ok (.getfield 34, 3) := by decide +kernel
theorem dX6_count_102 : decode cX6_count 102 = .ok (.getfield 235, 3) := by decide +kernel
theorem dX6_count_105 : decode cX6_count 105 = .ok (.ireturn, 1) := by decide +kernel
theorem dX6_count_106 : decode cX6_count 106 = .ok (.bipush (-2), 2) := by decide +kernel
theorem dX6_count_108 : decode cX6_count 108 = .ok (.ireturn, 1) := by decide +kernel
theorem dX6_tape_0 : decode cX6_tape 0 = .ok (.iload_n 1, 1) := by decide +kernel
theorem dX6_tape_1 : decode cX6_tape 1 = .ok (.iconst 5, 1) := by decide +kernel
theorem dX6_tape_2 : decode cX6_tape 2 = .ok (.invokestatic 49, 3) := by decide +kernel
theorem dX6_tape_5 : decode cX6_tape 5 = .ok (.ifCond .ne 5, 3) := by decide +kernel
theorem dX6_tape_8 : decode cX6_tape 8 = .ok (.iconst (-1), 1) := by decide +kernel
theorem dX6_tape_9 : decode cX6_tape 9 = .ok (.ireturn, 1) := by decide +kernel
theorem dX6_tape_10 : decode cX6_tape 10 = .ok (.iload_n 2, 1) := by decide +kernel
theorem dX6_tape_11 : decode cX6_tape 11 = .ok (.iconst (-1), 1) := by decide +kernel
theorem dX6_tape_12 : decode cX6_tape 12 = .ok (.if_icmp .lt 19, 3) := by decide +kernel
theorem dX6_tape_15 : decode cX6_tape 15 = .ok (.iload_n 2, 1) := by decide +kernel
theorem dX6_tape_16 : decode cX6_tape 16 = .ok (.iconst 4, 1) := by decide +kernel
theorem dX6_tape_17 : decode cX6_tape 17 = .ok (.if_icmp .gt 14, 3) := by decide +kernel
theorem dX6_tape_20 : decode cX6_tape 20 = .ok (.iload_n 2, 1) := by decide +kernel
theorem dX6_tape_21 : decode cX6_tape 21 = .ok (.iconst (-1), 1) := by decide +kernel
theorem dX6_tape_22 : decode cX6_tape 22 = .ok (.if_icmp .eq 12, 3) := by decide +kernel
theorem dX6_tape_25 : decode cX6_tape 25 = .ok (.iload_n 3, 1) := by decide +kernel
theorem dX6_tape_26 : decode cX6_tape 26 = .ok (.bipush 60, 2) := by decide +kernel
theorem dX6_tape_28 : decode cX6_tape 28 = .ok (.if_icmp .le 6, 3) := by decide +kernel
theorem dX6_tape_31 : decode cX6_tape 31 = .ok (.bipush (-2), 2) := by decide +kernel
theorem dX6_tape_33 : decode cX6_tape 33 = .ok (.ireturn, 1) := by decide +kernel
theorem dX6_tape_34 : decode cX6_tape 34 = .ok (.iload_n 2, 1) := by decide +kernel
theorem dX6_tape_35 : decode cX6_tape 35 = .ok (.iconst (-1), 1) := by decide +kernel
theorem dX6_tape_36 : decode cX6_tape 36 = .ok (.if_icmp .eq 10, 3) := by decide +kernel
theorem dX6_tape_39 : decode cX6_tape 39 = .ok (.iload_n 3, 1) := by decide +kernel
theorem dX6_tape_40 : decode cX6_tape 40 = .ok (.ifCond .ge 6, 3) := by decide +kernel
theorem dX6_tape_43 : decode cX6_tape 43 = .ok (.bipush (-14), 2) := by decide +kernel
theorem dX6_tape_45 : decode cX6_tape 45 = .ok (.ireturn, 1) := by decide +kernel
theorem dX6_tape_46 : decode cX6_tape 46 = .ok (.aload_n 0, 1) := by decide +kernel
theorem dX6_tape_47 : decode cX6_tape 47 = .ok (.getfield 40, 3) := by decide +kernel
theorem dX6_tape_50 : decode cX6_tape 50 = .ok (.iload_n 1, 1) := by decide +kernel
theorem dX6_tape_51 : decode cX6_tape 51 = .ok (.aaload, 1) := by decide +kernel
theorem dX6_tape_52 : decode cX6_tape 52 = .ok (.iload_n 2, 1) := by decide +kernel
theorem dX6_tape_53 : decode cX6_tape 53 = .ok (.iload_n 2, 1) := by decide +kernel
theorem dX6_tape_54 : decode cX6_tape 54 = .ok (.iconst (-1), 1) := by decide +kernel
theorem dX6_tape_55 : decode cX6_tape 55 = .ok (.if_icmp .ne 7, 3) := by decide +kernel
theorem dX6_tape_58 : decode cX6_tape 58 = .ok (.iconst 0, 1) := by decide +kernel
theorem dX6_tape_59 : decode cX6_tape 59 = .ok (.goto 4, 3) := by decide +kernel
theorem dX6_tape_62 : decode cX6_tape 62 = .ok (.iload_n 3, 1) := by decide +kernel
theorem dX6_tape_63 : decode cX6_tape 63 = .ok (.invokevirtual 253, 3) := by decide +kernel
theorem dX6_tape_66 : decode cX6_tape 66 = .ok (.iconst 1, 1) := by decide +kernel
theorem dX6_tape_67 : decode cX6_tape 67 = .ok (.ireturn, 1) := by decide +kernel
theorem dX6_item_0 : decode cX6_item 0 = .ok (.iload_n 1, 1) := by decide +kernel
theorem dX6_item_1 : decode cX6_item 1 = .ok (.iconst 5, 1) := by decide +kernel
theorem dX6_item_2 : decode cX6_item 2 = .ok (.invokestatic 49, 3) := by decide +kernel
theorem dX6_item_5 : decode cX6_item 5 = .ok (.ifCond .ne 5, 3) := by decide +kernel
theorem dX6_item_8 : decode cX6_item 8 = .ok (.iconst (-1), 1) := by decide +kernel
theorem dX6_item_9 : decode cX6_item 9 = .ok (.ireturn, 1) := by decide +kernel
theorem dX6_item_10 : decode cX6_item 10 = .ok (.aload_n 0, 1) := by decide +kernel
theorem dX6_item_11 : decode cX6_item 11 = .ok (.getfield 40, 3) := by decide +kernel
theorem dX6_item_14 : decode cX6_item 14 = .ok (.iload_n 1, 1) := by decide +kernel
theorem dX6_item_15 : decode cX6_item 15 = .ok (.aaload, 1) := by decide +kernel
theorem dX6_item_16 : decode cX6_item 16 = .ok (.astore 5, 2) := by decide +kernel
theorem dX6_item_18 : decode cX6_item 18 = .ok (.aload 5, 2) := by decide +kernel
theorem dX6_item_20 : decode cX6_item 20 = .ok (.getfield 217, 3) := by decide +kernel
theorem dX6_item_23 : decode cX6_item 23 = .ok (.iconst (-1), 1) := by decide +kernel
theorem dX6_item_24 : decode cX6_item 24 = .ok (.if_icmp .ne 6, 3) := by decide +kernel
theorem dX6_item_27 : decode cX6_item 27 = .ok (.bipush (-11), 2) := by decide +kernel
theorem dX6_item_29 : decode cX6_item 29 = .ok (.ireturn, 1) := by decide +kernel
theorem dX6_item_30 : decode cX6_item 30 = .ok (.iload_n 2, 1) := by decide +kernel
theorem dX6_item_31 : decode cX6_item 31 = .ok (.aload 5, 2) := by decide +kernel
theorem dX6_item_33 : decode cX6_item 33 = .ok (.getfield 220, 3) := by decide +kernel
theorem dX6_item_36 : decode cX6_item 36 = .ok (.iconst 1, 1) := by decide +kernel
theorem dX6_item_37 : decode cX6_item 37 = .ok (.isub, 1) := by decide +kernel
theorem dX6_item_38 : decode cX6_item 38 = .ok (.invokestatic 49, 3) := by decide +kernel
theorem dX6_item_41 : decode cX6_item 41 = .ok (.ifCond .ne 6, 3) := by decide +kernel
theorem dX6_item_44 : decode cX6_item 44 = .ok (.bipush (-13), 2) := by decide +kernel
theorem dX6_item_46 : decode cX6_item 46 = .ok (.ireturn, 1) := by decide +kernel
theorem dX6_item_47 : decode cX6_item 47 = .ok (.aload 5, 2) := by decide +kernel
theorem dX6_item_49 : decode cX6_item 49 = .ok (.getfield 223, 3) := by decide +kernel
theorem dX6_item_52 : decode cX6_item 52 = .ok (.iload_n 2, 1) := by decide +kernel
theorem dX6_item_53 : decode cX6_item 53 = .ok (.aload 5, 2) := by decide +kernel
theorem dX6_item_55 : decode cX6_item 55 = .ok (.getfield 217, 3) := by decide +kernel
theorem dX6_item_58 : decode cX6_item 58 = .ok (.lload_n 3, 1) := by decide +kernel
theorem dX6_item_59 : decode cX6_item 59 = .ok (.invokestatic 256, 3) := by decide +kernel
theorem dX6_item_62 : decode cX6_item 62 = .ok (.lastore, 1) := by decide +kernel
theorem dX6_item_63 : decode cX6_item 63 = .ok (.iconst 1, 1) := by decide +kernel
theorem dX6_item_64 : decode cX6_item 64 = .ok (.ireturn, 1) := by decide +kernel
theorem dX6_read_0 : decode cX6_read 0 = .ok (.iload_n 1, 1) := by decide +kernel
theorem dX6_read_1 : decode cX6_read 1 = .ok (.iconst 5, 1) := by decide +kernel
theorem dX6_read_2 : decode cX6_read 2 = .ok (.invokestatic 49, 3) := by decide +kernel
theorem dX6_read_5 : decode cX6_read 5 = .ok (.ifCond .ne 7, 3) := by decide +kernel
theorem dX6_read_8 : decode cX6_read 8 = .ok (.ldc2_w 192, 3) := by decide +kernel
theorem dX6_read_11 : decode cX6_read 11 = .ok (.lreturn, 1) := by decide +kernel
theorem dX6_read_12 : decode cX6_read 12 = .ok (.aload_n 0, 1) := by decide +kernel
theorem dX6_read_13 : decode cX6_read 13 = .ok (.getfield 40, 3) := by decide +kernel
theorem dX6_read_16 : decode cX6_read 16 = .ok (.iload_n 1, 1) := by decide +kernel
theorem dX6_read_17 : decode cX6_read 17 = .ok (.aaload, 1) := by decide +kernel
theorem dX6_read_18 : decode cX6_read 18 = .ok (.astore_n 3, 1) := by decide +kernel
theorem dX6_read_19 : decode cX6_read 19 = .ok (.iload_n 2, 1) := by decide +kernel
theorem dX6_read_20 : decode cX6_read 20 = .ok (.aload_n 3, 1) := by decide +kernel
theorem dX6_read_21 : decode cX6_read 21 = .ok (.getfield 220, 3) := by decide +kernel
theorem dX6_read_24 : decode cX6_read 24 = .ok (.iconst 1, 1) := by decide +kernel
theorem dX6_read_25 : decode cX6_read 25 = .ok (.isub, 1) := by decide +kernel
theorem dX6_read_26 : decode cX6_read 26 = .ok (.invokestatic 49, 3) := by decide +kernel
theorem dX6_read_29 : decode cX6_read 29 = .ok (.ifCond .eq 12, 3) := by decide +kernel
theorem dX6_read_32 : decode cX6_read 32 = .ok (.aload_n 3, 1) := by decide +kernel
theorem dX6_read_33 : decode cX6_read 33 = .ok (.getfield 223, 3) := by decide +kernel
theorem dX6_read_36 : decode cX6_read 36 = .ok (.iload_n 2, 1) := by decide +kernel
theorem dX6_read_37 : decode cX6_read 37 = .ok (.laload, 1) := by decide +kernel
theorem dX6_read_38 : decode cX6_read 38 = .ok (.goto 6, 3) := by decide +kernel
theorem dX6_read_41 : decode cX6_read 41 = .ok (.ldc2_w 192, 3) := by decide +kernel
theorem dX6_read_44 : decode cX6_read 44 = .ok (.lreturn, 1) := by decide +kernel
theorem dX6_shift_0 : decode cX6_shift 0 = .ok (.iload_n 1, 1) := by decide +kernel
theorem dX6_shift_1 : decode cX6_shift 1 = .ok (.iconst 5, 1) := by decide +kernel
theorem dX6_shift_2 : decode cX6_shift 2 = .ok (.invokestatic 49, 3) := by decide +kernel
theorem dX6_shift_5 : decode cX6_shift 5 = .ok (.ifCond .eq 11, 3) := by decide +kernel
theorem dX6_shift_8 : decode cX6_shift 8 = .ok (.iload_n 3, 1) := by decide +kernel
theorem dX6_shift_9 : decode cX6_shift 9 = .ok (.iconst 5, 1) := by decide +kernel
theorem dX6_shift_10 : decode cX6_shift 10 = .ok (.invokestatic 49, 3) := by decide +kernel
theorem dX6_shift_13 : decode cX6_shift 13 = .ok (.ifCond .ne 5, 3) := by decide +kernel
theorem dX6_shift_16 : decode cX6_shift 16 = .ok (.iconst (-1), 1) := by decide +kernel
theorem dX6_shift_17 : decode cX6_shift 17 = .ok (.ireturn, 1) := by decide +kernel
theorem dX6_shift_18 : decode cX6_shift 18 = .ok (.aload_n 0, 1) := by decide +kernel
theorem dX6_shift_19 : decode cX6_shift 19 = .ok (.getfield 40, 3) := by decide +kernel
theorem dX6_shift_22 : decode cX6_shift 22 = .ok (.iload_n 1, 1) := by decide +kernel
theorem dX6_shift_23 : decode cX6_shift 23 = .ok (.aaload, 1) := by decide +kernel
theorem dX6_shift_24 : decode cX6_shift 24 = .ok (.astore 6, 2) := by decide +kernel
theorem dX6_shift_26 : decode cX6_shift 26 = .ok (.aload_n 0, 1) := by decide +kernel
theorem dX6_shift_27 : decode cX6_shift 27 = .ok (.getfield 40, 3) := by decide +kernel
theorem dX6_shift_30 : decode cX6_shift 30 = .ok (.iload_n 3, 1) := by decide +kernel
theorem dX6_shift_31 : decode cX6_shift 31 = .ok (.aaload, 1) := by decide +kernel
theorem dX6_shift_32 : decode cX6_shift 32 = .ok (.astore 7, 2) := by decide +kernel
theorem dX6_shift_34 : decode cX6_shift 34 = .ok (.aload 6, 2) := by decide +kernel
theorem dX6_shift_36 : decode cX6_shift 36 = .ok (.getfield 217, 3) := by decide +kernel
theorem dX6_shift_39 : decode cX6_shift 39 = .ok (.iconst (-1), 1) := by decide +kernel
theorem dX6_shift_40 : decode cX6_shift 40 = .ok (.if_icmp .eq 12, 3) := by decide +kernel
theorem dX6_shift_43 : decode cX6_shift 43 = .ok (.aload 7, 2) := by decide +kernel
theorem dX6_shift_45 : decode cX6_shift 45 = .ok (.getfield 217, 3) := by decide +kernel
theorem dX6_shift_48 : decode cX6_shift 48 = .ok (.iconst (-1), 1) := by decide +kernel
theorem dX6_shift_49 : decode cX6_shift 49 = .ok (.if_icmp .ne 6, 3) := by decide +kernel
theorem dX6_shift_52 : decode cX6_shift 52 = .ok (.bipush (-11), 2) := by decide +kernel
theorem dX6_shift_54 : decode cX6_shift 54 = .ok (.ireturn, 1) := by decide +kernel
theorem dX6_shift_55 : decode cX6_shift 55 = .ok (.aload 6, 2) := by decide +kernel
theorem dX6_shift_57 : decode cX6_shift 57 = .ok (.getfield 217, 3) := by decide +kernel
theorem dX6_shift_60 : decode cX6_shift 60 = .ok (.aload 7, 2) := by decide +kernel
theorem dX6_shift_62 : decode cX6_shift 62 = .ok (.getfield 217, 3) := by decide +kernel
theorem dX6_shift_65 : decode cX6_shift 65 = .ok (.if_icmp .eq 6, 3) := by decide +kernel
theorem dX6_shift_68 : decode cX6_shift 68 = .ok (.bipush (-12), 2) := by decide +kernel
theorem dX6_shift_70 : decode cX6_shift 70 = .ok (.ireturn, 1) := by decide +kernel
theorem dX6_shift_71 : decode cX6_shift 71 = .ok (.aload 6, 2) := by decide +kernel
theorem dX6_shift_73 : decode cX6_shift 73 = .ok (.iload_n 2, 1) := by decide +kernel
theorem dX6_shift_74 : decode cX6_shift 74 = .ok (.iload 5, 2) := by decide +kernel
theorem dX6_shift_76 : decode cX6_shift 76 = .ok (.invokevirtual 260, 3) := by decide +kernel
theorem dX6_shift_79 : decode cX6_shift 79 = .ok (.ifCond .eq 15, 3) := by decide +kernel
theorem dX6_shift_82 : decode cX6_shift 82 = .ok (.aload 7, 2) := by decide +kernel
theorem dX6_shift_84 : decode cX6_shift 84 = .ok (.iload 4, 2) := by decide +kernel
theorem dX6_shift_86 : decode cX6_shift 86 = .ok (.iload 5, 2) := by decide +kernel
theorem dX6_shift_88 : decode cX6_shift 88 = .ok (.invokevirtual 260, 3) := by decide +kernel
theorem dX6_shift_91 : decode cX6_shift 91 = .ok (.ifCond .ne 6, 3) := by decide +kernel
theorem dX6_shift_94 : decode cX6_shift 94 = .ok (.bipush (-13), 2) := by decide +kernel
theorem dX6_shift_96 : decode cX6_shift 96 = .ok (.ireturn, 1) := by decide +kernel
theorem dX6_shift_97 : decode cX6_shift 97 = .ok (.aload 6, 2) := by decide +kernel
theorem dX6_shift_99 : decode cX6_shift 99 = .ok (.getfield 223, 3) := by decide +kernel
theorem dX6_shift_102 : decode cX6_shift 102 = .ok (.iload_n 2, 1) := by decide +kernel
theorem dX6_shift_103 : decode cX6_shift 103 = .ok (.aload 7, 2) := by decide +kernel
theorem dX6_shift_105 : decode cX6_shift 105 = .ok (.getfield 223, 3) := by decide +kernel
theorem dX6_shift_108 : decode cX6_shift 108 = .ok (.iload 4, 2) := by decide +kernel
theorem dX6_shift_110 : decode cX6_shift 110 = .ok (.iload 5, 2) := by decide +kernel
theorem dX6_shift_112 : decode cX6_shift 112 = .ok (.invokestatic 263, 3) := by decide +kernel
theorem dX6_shift_115 : decode cX6_shift 115 = .ok (.iload 5, 2) := by decide +kernel
theorem dX6_shift_117 : decode cX6_shift 117 = .ok (.ireturn, 1) := by decide +kernel
theorem dX6_isWithin_0 : decode cX6_isWithin 0 = .ok (.iload_n 0, 1) := by decide +kernel
theorem dX6_isWithin_1 : decode cX6_isWithin 1 = .ok (.ifCond .lt 12, 3) := by decide +kernel
theorem dX6_isWithin_4 : decode cX6_isWithin 4 = .ok (.iload_n 0, 1) := by decide +kernel
theorem dX6_isWithin_5 : decode cX6_isWithin 5 = .ok (.iload_n 1, 1) := by decide +kernel
theorem dX6_isWithin_6 : decode cX6_isWithin 6 = .ok (.if_icmp .gt 7, 3) := by decide +kernel
theorem dX6_isWithin_9 : decode cX6_isWithin 9 = .ok (.iconst 1, 1) := by decide +kernel
theorem dX6_isWithin_10 : decode cX6_isWithin 10 = .ok (.goto 4, 3) := by decide +kernel
theorem dX6_isWithin_13 : decode cX6_isWithin 13 = .ok (.iconst 0, 1) := by decide +kernel
theorem dX6_isWithin_14 : decode cX6_isWithin 14 = .ok (.ireturn, 1) := by decide +kernel
theorem dX6_begin_0 : decode cX6_begin 0 = .ok (.aload_n 0, 1) := by decide +kernel
theorem dX6_begin_1 : decode cX6_begin 1 = .ok (.getfield 21, 3) := by decide +kernel
theorem dX6_begin_4 : decode cX6_begin 4 = .ok (.aload_n 0, 1) := by decide +kernel
theorem dX6_begin_5 : decode cX6_begin 5 = .ok (.getfield 12, 3) := by decide +kernel
theorem dX6_begin_8 : decode cX6_begin 8 = .ok (.invokevirtual 269, 3) := by decide +kernel
theorem dX6_begin_11 : decode cX6_begin 11 = .ok (.aload_n 0, 1) := by decide +kernel

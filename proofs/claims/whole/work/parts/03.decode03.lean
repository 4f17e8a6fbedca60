theorem dX7_place_60 : decode cX7_place 60 = .ok (.iconst 0, 1) := by decide +kernel
theorem dX7_place_61 : decode cX7_place 61 = .ok (.ireturn, 1) := by decide +kernel
theorem dX7_place_62 : decode cX7_place 62 = .ok (.iconst 1, 1) := by decide +kernel
theorem dX7_place_63 : decode cX7_place 63 = .ok (.ireturn, 1) := by decide +kernel
theorem dX7_place_64 : decode cX7_place 64 = .ok (.iconst 2, 1) := by decide +kernel
theorem dX7_place_65 : decode cX7_place 65 = .ok (.ireturn, 1) := by decide +kernel
theorem dX7_place_66 : decode cX7_place 66 = .ok (.iconst 3, 1) := by decide +kernel
theorem dX7_place_67 : decode cX7_place 67 = .ok (.ireturn, 1) := by decide +kernel
theorem dX7_place_68 : decode cX7_place 68 = .ok (.iconst 4, 1) := by decide +kernel
theorem dX7_place_69 : decode cX7_place 69 = .ok (.ireturn, 1) := by decide +kernel
theorem dX7_place_70 : decode cX7_place 70 = .ok (.iconst 5, 1) := by decide +kernel
theorem dX7_place_71 : decode cX7_place 71 = .ok (.ireturn, 1) := by decide +kernel
theorem dX7_place_72 : decode cX7_place 72 = .ok (.iconst (-1), 1) := by decide +kernel
theorem dX7_place_73 : decode cX7_place 73 = .ok (.ireturn, 1) := by decide +kernel
theorem dX7_takesTest_0 : decode cX7_takesTest 0 = .ok (.aload_n 0, 1) := by decide +kernel
theorem dX7_takesTest_1 : decode cX7_takesTest 1 = .ok (.aload_n 0, 1) := by decide +kernel
theorem dX7_takesTest_2 : decode cX7_takesTest 2 = .ok (.invokevirtual 252, 3) := by decide +kernel
theorem dX7_takesTest_5 : decode cX7_takesTest 5 = .ok (.invokevirtual 267, 3) := by decide +kernel
theorem dX7_takesTest_8 : decode cX7_takesTest 8 = .ok (.istore_n 1, 1) := by decide +kernel
theorem dX7_takesTest_9 : decode cX7_takesTest 9 = .ok (.iload_n 1, 1) := by decide +kernel
theorem dX7_takesTest_10 : decode cX7_takesTest 10 = .ok (.ifCond .ge 5, 3) := by decide +kernel
theorem dX7_takesTest_13 : decode cX7_takesTest 13 = .ok (.iconst 0, 1) := by decide +kernel
theorem dX7_takesTest_14 : decode cX7_takesTest 14 = .ok (.ireturn, 1) := by decide +kernel
theorem dX7_takesTest_15 : decode cX7_takesTest 15 = .ok (.aload_n 0, 1) := by decide +kernel
theorem dX7_takesTest_16 : decode cX7_takesTest 16 = .ok (.dup, 1) := by decide +kernel
theorem dX7_takesTest_17 : decode cX7_takesTest 17 = .ok (.getfield 53, 3) := by decide +kernel
theorem dX7_takesTest_20 : decode cX7_takesTest 20 = .ok (.iconst 1, 1) := by decide +kernel
theorem dX7_takesTest_21 : decode cX7_takesTest 21 = .ok (.iadd, 1) := by decide +kernel
theorem dX7_takesTest_22 : decode cX7_takesTest 22 = .ok (.putfield 53, 3) := by decide +kernel
theorem dX7_takesTest_25 : decode cX7_takesTest 25 = .ok (.aload_n 0, 1) := by decide +kernel
theorem dX7_takesTest_26 : decode cX7_takesTest 26 = .ok (.invokevirtual 252, 3) := by decide +kernel
theorem dX7_takesTest_29 : decode cX7_takesTest 29 = .ok (.istore_n 2, 1) := by decide +kernel
theorem dX7_takesTest_30 : decode cX7_takesTest 30 = .ok (.aload_n 0, 1) := by decide +kernel
theorem dX7_takesTest_31 : decode cX7_takesTest 31 = .ok (.iload_n 2, 1) := by decide +kernel
theorem dX7_takesTest_32 : decode cX7_takesTest 32 = .ok (.bipush 60, 2) := by decide +kernel
theorem dX7_takesTest_34 : decode cX7_takesTest 34 = .ok (.bipush 62, 2) := by decide +kernel
theorem dX7_takesTest_36 : decode cX7_takesTest 36 = .ok (.invokevirtual 237, 3) := by decide +kernel
theorem dX7_takesTest_39 : decode cX7_takesTest 39 = .ok (.ifCond .ne 5, 3) := by decide +kernel
theorem dX7_takesTest_42 : decode cX7_takesTest 42 = .ok (.iconst 0, 1) := by decide +kernel
theorem dX7_takesTest_43 : decode cX7_takesTest 43 = .ok (.ireturn, 1) := by decide +kernel
theorem dX7_takesTest_44 : decode cX7_takesTest 44 = .ok (.aload_n 0, 1) := by decide +kernel
theorem dX7_takesTest_45 : decode cX7_takesTest 45 = .ok (.dup, 1) := by decide +kernel
theorem dX7_takesTest_46 : decode cX7_takesTest 46 = .ok (.getfield 53, 3) := by decide +kernel
theorem dX7_takesTest_49 : decode cX7_takesTest 49 = .ok (.iconst 1, 1) := by decide +kernel
theorem dX7_takesTest_50 : decode cX7_takesTest 50 = .ok (.iadd, 1) := by decide +kernel
theorem dX7_takesTest_51 : decode cX7_takesTest 51 = .ok (.putfield 53, 3) := by decide +kernel
theorem dX7_takesTest_54 : decode cX7_takesTest 54 = .ok (.aload_n 0, 1) := by decide +kernel
theorem dX7_takesTest_55 : decode cX7_takesTest 55 = .ok (.invokevirtual 271, 3) := by decide +kernel
theorem dX7_takesTest_58 : decode cX7_takesTest 58 = .ok (.ifCond .ne 5, 3) := by decide +kernel
theorem dX7_takesTest_61 : decode cX7_takesTest 61 = .ok (.iconst 0, 1) := by decide +kernel
theorem dX7_takesTest_62 : decode cX7_takesTest 62 = .ok (.ireturn, 1) := by decide +kernel
theorem dX7_takesTest_63 : decode cX7_takesTest 63 = .ok (.aload_n 0, 1) := by decide +kernel
theorem dX7_takesTest_64 : decode cX7_takesTest 64 = .ok (.sipush 1000, 3) := by decide +kernel
theorem dX7_takesTest_67 : decode cX7_takesTest 67 = .ok (.iload_n 1, 1) := by decide +kernel
theorem dX7_takesTest_68 : decode cX7_takesTest 68 = .ok (.imul, 1) := by decide +kernel
theorem dX7_takesTest_69 : decode cX7_takesTest 69 = .ok (.bipush 100, 2) := by decide +kernel
theorem dX7_takesTest_71 : decode cX7_takesTest 71 = .ok (.iload_n 2, 1) := by decide +kernel
theorem dX7_takesTest_72 : decode cX7_takesTest 72 = .ok (.bipush 60, 2) := by decide +kernel
theorem dX7_takesTest_74 : decode cX7_takesTest 74 = .ok (.isub, 1) := by decide +kernel
theorem dX7_takesTest_75 : decode cX7_takesTest 75 = .ok (.imul, 1) := by decide +kernel
theorem dX7_takesTest_76 : decode cX7_takesTest 76 = .ok (.iadd, 1) := by decide +kernel
theorem dX7_takesTest_77 : decode cX7_takesTest 77 = .ok (.aload_n 0, 1) := by decide +kernel
theorem dX7_takesTest_78 : decode cX7_takesTest 78 = .ok (.getfield 56, 3) := by decide +kernel
theorem dX7_takesTest_81 : decode cX7_takesTest 81 = .ok (.iadd, 1) := by decide +kernel
theorem dX7_takesTest_82 : decode cX7_takesTest 82 = .ok (.invokevirtual 263, 3) := by decide +kernel
theorem dX7_takesTest_85 : decode cX7_takesTest 85 = .ok (.aload_n 0, 1) := by decide +kernel
theorem dX7_takesTest_86 : decode cX7_takesTest 86 = .ok (.invokevirtual 274, 3) := by decide +kernel
theorem dX7_takesTest_89 : decode cX7_takesTest 89 = .ok (.iconst 1, 1) := by decide +kernel
theorem dX7_takesTest_90 : decode cX7_takesTest 90 = .ok (.ireturn, 1) := by decide +kernel
theorem dX7_takesE_0 : decode cX7_takesE 0 = .ok (.aload_n 0, 1) := by decide +kernel
theorem dX7_takesE_1 : decode cX7_takesE 1 = .ok (.iconst 0, 1) := by decide +kernel
theorem dX7_takesE_2 : decode cX7_takesE 2 = .ok (.putfield 86, 3) := by decide +kernel
theorem dX7_takesE_5 : decode cX7_takesE 5 = .ok (.aload_n 0, 1) := by decide +kernel
theorem dX7_takesE_6 : decode cX7_takesE 6 = .ok (.iconst 0, 1) := by decide +kernel
theorem dX7_takesE_7 : decode cX7_takesE 7 = .ok (.putfield 89, 3) := by decide +kernel
theorem dX7_takesE_10 : decode cX7_takesE 10 = .ok (.aload_n 0, 1) := by decide +kernel
theorem dX7_takesE_11 : decode cX7_takesE 11 = .ok (.getfield 71, 3) := by decide +kernel
theorem dX7_takesE_14 : decode cX7_takesE 14 = .ok (.iload_n 1, 1) := by decide +kernel
theorem dX7_takesE_15 : decode cX7_takesE 15 = .ok (.aload_n 0, 1) := by decide +kernel
theorem dX7_takesE_16 : decode cX7_takesE 16 = .ok (.getfield 83, 3) := by decide +kernel
theorem dX7_takesE_19 : decode cX7_takesE 19 = .ok (.iastore, 1) := by decide +kernel
theorem dX7_takesE_20 : decode cX7_takesE 20 = .ok (.iconst 1, 1) := by decide +kernel
theorem dX7_takesE_21 : decode cX7_takesE 21 = .ok (.istore_n 2, 1) := by decide +kernel
theorem dX7_takesE_22 : decode cX7_takesE 22 = .ok (.aload_n 0, 1) := by decide +kernel
theorem dX7_takesE_23 : decode cX7_takesE 23 = .ok (.invokevirtual 252, 3) := by decide +kernel
theorem dX7_takesE_26 : decode cX7_takesE 26 = .ok (.istore_n 3, 1) := by decide +kernel
theorem dX7_takesE_27 : decode cX7_takesE 27 = .ok (.iload_n 2, 1) := by decide +kernel
theorem dX7_takesE_28 : decode cX7_takesE 28 = .ok (.ifCond .eq 82, 3) := by decide +kernel
theorem dX7_takesE_31 : decode cX7_takesE 31 = .ok (.iload_n 3, 1) := by decide +kernel
theorem dX7_takesE_32 : decode cX7_takesE 32 = .ok (.bipush 33, 2) := by decide +kernel
theorem dX7_takesE_34 : decode cX7_takesE 34 = .ok (.if_icmp .eq 9, 3) := by decide +kernel
theorem dX7_takesE_37 : decode cX7_takesE 37 = .ok (.iload_n 3, 1) := by decide +kernel
theorem dX7_takesE_38 : decode cX7_takesE 38 = .ok (.bipush 40, 2) := by decide +kernel
theorem dX7_takesE_40 : decode cX7_takesE 40 = .ok (.if_icmp .ne 56, 3) := by decide +kernel
theorem dX7_takesE_43 : decode cX7_takesE 43 = .ok (.aload_n 0, 1) := by decide +kernel
theorem dX7_takesE_44 : decode cX7_takesE 44 = .ok (.getfield 89, 3) := by decide +kernel
theorem dX7_takesE_47 : decode cX7_takesE 47 = .ok (.iconst 4, 1) := by decide +kernel
theorem dX7_takesE_48 : decode cX7_takesE 48 = .ok (.if_icmp .ne 5, 3) := by decide +kernel
theorem dX7_takesE_51 : decode cX7_takesE 51 = .ok (.iconst 0, 1) := by decide +kernel
theorem dX7_takesE_52 : decode cX7_takesE 52 = .ok (.ireturn, 1) := by decide +kernel
theorem dX7_takesE_53 : decode cX7_takesE 53 = .ok (.aload_n 0, 1) := by decide +kernel
theorem dX7_takesE_54 : decode cX7_takesE 54 = .ok (.dup, 1) := by decide +kernel
theorem dX7_takesE_55 : decode cX7_takesE 55 = .ok (.getfield 89, 3) := by decide +kernel
theorem dX7_takesE_58 : decode cX7_takesE 58 = .ok (.iconst 1, 1) := by decide +kernel
theorem dX7_takesE_59 : decode cX7_takesE 59 = .ok (.iadd, 1) := by decide +kernel
theorem dX7_takesE_60 : decode cX7_takesE 60 = .ok (.putfield 89, 3) := by decide +kernel
theorem dX7_takesE_63 : decode cX7_takesE 63 = .ok (.aload_n 0, 1) := by decide +kernel
theorem dX7_takesE_64 : decode cX7_takesE 64 = .ok (.getfield 80, 3) := by decide +kernel
theorem dX7_takesE_67 : decode cX7_takesE 67 = .ok (.aload_n 0, 1) := by decide +kernel
theorem dX7_takesE_68 : decode cX7_takesE 68 = .ok (.getfield 86, 3) := by decide +kernel
theorem dX7_takesE_71 : decode cX7_takesE 71 = .ok (.iload_n 3, 1) := by decide +kernel
theorem dX7_takesE_72 : decode cX7_takesE 72 = .ok (.iastore, 1) := by decide +kernel
theorem dX7_takesE_73 : decode cX7_takesE 73 = .ok (.aload_n 0, 1) := by decide +kernel
theorem dX7_takesE_74 : decode cX7_takesE 74 = .ok (.dup, 1) := by decide +kernel
theorem dX7_takesE_75 : decode cX7_takesE 75 = .ok (.getfield 86, 3) := by decide +kernel
theorem dX7_takesE_78 : decode cX7_takesE 78 = .ok (.iconst 1, 1) := by decide +kernel
theorem dX7_takesE_79 : decode cX7_takesE 79 = .ok (.iadd, 1) := by decide +kernel
theorem dX7_takesE_80 : decode cX7_takesE 80 = .ok (.putfield 86, 3) := by decide +kernel
theorem dX7_takesE_83 : decode cX7_takesE 83 = .ok (.aload_n 0, 1) := by decide +kernel
theorem dX7_takesE_84 : decode cX7_takesE 84 = .ok (.dup, 1) := by decide +kernel
theorem dX7_takesE_85 : decode cX7_takesE 85 = .ok (.getfield 53, 3) := by decide +kernel
theorem dX7_takesE_88 : decode cX7_takesE 88 = .ok (.iconst 1, 1) := by decide +kernel
theorem dX7_takesE_89 : decode cX7_takesE 89 = .ok (.iadd, 1) := by decide +kernel
theorem dX7_takesE_90 : decode cX7_takesE 90 = .ok (.putfield 53, 3) := by decide +kernel
theorem dX7_takesE_93 : decode cX7_takesE 93 = .ok (.goto (-71), 3) := by decide +kernel
theorem dX7_takesE_96 : decode cX7_takesE 96 = .ok (.aload_n 0, 1) := by decide +kernel
theorem dX7_takesE_97 : decode cX7_takesE 97 = .ok (.invokevirtual 277, 3) := by decide +kernel
theorem dX7_takesE_100 : decode cX7_takesE 100 = .ok (.ifCond .eq 8, 3) := by decide +kernel
theorem dX7_takesE_103 : decode cX7_takesE 103 = .ok (.iconst 0, 1) := by decide +kernel
theorem dX7_takesE_104 : decode cX7_takesE 104 = .ok (.istore_n 2, 1) := by decide +kernel
theorem dX7_takesE_105 : decode cX7_takesE 105 = .ok (.goto (-83), 3) := by decide +kernel
theorem dX7_takesE_108 : decode cX7_takesE 108 = .ok (.iconst 0, 1) := by decide +kernel
theorem dX7_takesE_109 : decode cX7_takesE 109 = .ok (.ireturn, 1) := by decide +kernel
theorem dX7_takesE_110 : decode cX7_takesE 110 = .ok (.iload_n 3, 1) := by decide +kernel
theorem dX7_takesE_111 : decode cX7_takesE 111 = .ok (.bipush 38, 2) := by decide +kernel
theorem dX7_takesE_113 : decode cX7_takesE 113 = .ok (.if_icmp .eq 9, 3) := by decide +kernel
theorem dX7_takesE_116 : decode cX7_takesE 116 = .ok (.iload_n 3, 1) := by decide +kernel
theorem dX7_takesE_117 : decode cX7_takesE 117 = .ok (.bipush 124, 2) := by decide +kernel
theorem dX7_takesE_119 : decode cX7_takesE 119 = .ok (.if_icmp .ne 43, 3) := by decide +kernel
theorem dX7_takesE_122 : decode cX7_takesE 122 = .ok (.aload_n 0, 1) := by decide +kernel
theorem dX7_takesE_123 : decode cX7_takesE 123 = .ok (.iload_n 3, 1) := by decide +kernel
theorem dX7_takesE_124 : decode cX7_takesE 124 = .ok (.invokevirtual 280, 3) := by decide +kernel
theorem dX7_takesE_127 : decode cX7_takesE 127 = .ok (.aload_n 0, 1) := by decide +kernel
theorem dX7_takesE_128 : decode cX7_takesE 128 = .ok (.getfield 80, 3) := by decide +kernel
theorem dX7_takesE_131 : decode cX7_takesE 131 = .ok (.aload_n 0, 1) := by decide +kernel
theorem dX7_takesE_132 : decode cX7_takesE 132 = .ok (.getfield 86, 3) := by decide +kernel
theorem dX7_takesE_135 : decode cX7_takesE 135 = .ok (.iload_n 3, 1) := by decide +kernel
theorem dX7_takesE_136 : decode cX7_takesE 136 = .ok (.iastore, 1) := by decide +kernel
theorem dX7_takesE_137 : decode cX7_takesE 137 = .ok (.aload_n 0, 1) := by decide +kernel
theorem dX7_takesE_138 : decode cX7_takesE 138 = .ok (.dup, 1) := by decide +kernel
theorem dX7_takesE_139 : decode cX7_takesE 139 = .ok (.getfield 86, 3) := by decide +kernel
theorem dX7_takesE_142 : decode cX7_takesE 142 = .ok (.iconst 1, 1) := by decide +kernel
theorem dX7_takesE_143 : decode cX7_takesE 143 = .ok (.iadd, 1) := by decide +kernel
theorem dX7_takesE_144 : decode cX7_takesE 144 = .ok (.putfield 86, 3) := by decide +kernel
theorem dX7_takesE_147 : decode cX7_takesE 147 = .ok (.iconst 1, 1) := by decide +kernel
theorem dX7_takesE_148 : decode cX7_takesE 148 = .ok (.istore_n 2, 1) := by decide +kernel
theorem dX7_takesE_149 : decode cX7_takesE 149 = .ok (.aload_n 0, 1) := by decide +kernel
theorem dX7_takesE_150 : decode cX7_takesE 150 = .ok (.dup, 1) := by decide +kernel
theorem dX7_takesE_151 : decode cX7_takesE 151 = .ok (.getfield 53, 3) := by decide +kernel
theorem dX7_takesE_154 : decode cX7_takesE 154 = .ok (.iconst 1, 1) := by decide +kernel
theorem dX7_takesE_155 : decode cX7_takesE 155 = .ok (.iadd, 1) := by decide +kernel
theorem dX7_takesE_156 : decode cX7_takesE 156 = .ok (.putfield 53, 3) := by decide +kernel
theorem dX7_takesE_159 : decode cX7_takesE 159 = .ok (.goto (-137), 3) := by decide +kernel
theorem dX7_takesE_162 : decode cX7_takesE 162 = .ok (.aload_n 0, 1) := by decide +kernel
theorem dX7_takesE_163 : decode cX7_takesE 163 = .ok (.bipush 124, 2) := by decide +kernel
theorem dX7_takesE_165 : decode cX7_takesE 165 = .ok (.invokevirtual 280, 3) := by decide +kernel
theorem dX7_takesE_168 : decode cX7_takesE 168 = .ok (.aload_n 0, 1) := by decide +kernel
theorem dX7_takesE_169 : decode cX7_takesE 169 = .ok (.getfield 74, 3) := by decide +kernel
theorem dX7_takesE_172 : decode cX7_takesE 172 = .ok (.iload_n 1, 1) := by decide +kernel
theorem dX7_takesE_173 : decode cX7_takesE 173 = .ok (.aload_n 0, 1) := by decide +kernel
theorem dX7_takesE_174 : decode cX7_takesE 174 = .ok (.getfield 83, 3) := by decide +kernel
theorem dX7_takesE_177 : decode cX7_takesE 177 = .ok (.iastore, 1) := by decide +kernel
theorem dX7_takesE_178 : decode cX7_takesE 178 = .ok (.aload_n 0, 1) := by decide +kernel
theorem dX7_takesE_179 : decode cX7_takesE 179 = .ok (.getfield 86, 3) := by decide +kernel
theorem dX7_takesE_182 : decode cX7_takesE 182 = .ok (.ifCond .ne 5, 3) := by decide +kernel
theorem dX7_takesE_185 : decode cX7_takesE 185 = .ok (.iconst 1, 1) := by decide +kernel
theorem dX7_takesE_186 : decode cX7_takesE 186 = .ok (.ireturn, 1) := by decide +kernel
theorem dX7_takesE_187 : decode cX7_takesE 187 = .ok (.iload_n 3, 1) := by decide +kernel
theorem dX7_takesE_188 : decode cX7_takesE 188 = .ok (.bipush 41, 2) := by decide +kernel
theorem dX7_takesE_190 : decode cX7_takesE 190 = .ok (.if_icmp .eq 5, 3) := by decide +kernel
theorem dX7_takesE_193 : decode cX7_takesE 193 = .ok (.iconst 0, 1) := by decide +kernel
theorem dX7_takesE_194 : decode cX7_takesE 194 = .ok (.ireturn, 1) := by decide +kernel
theorem dX7_takesE_195 : decode cX7_takesE 195 = .ok (.aload_n 0, 1) := by decide +kernel
theorem dX7_takesE_196 : decode cX7_takesE 196 = .ok (.dup, 1) := by decide +kernel
theorem dX7_takesE_197 : decode cX7_takesE 197 = .ok (.getfield 86, 3) := by decide +kernel
theorem dX7_takesE_200 : decode cX7_takesE 200 = .ok (.iconst 1, 1) := by decide +kernel
theorem dX7_takesE_201 : decode cX7_takesE 201 = .ok (.isub, 1) := by decide +kernel
theorem dX7_takesE_202 : decode cX7_takesE 202 = .ok (.putfield 86, 3) := by decide +kernel
theorem dX7_takesE_205 : decode cX7_takesE 205 = .ok (.aload_n 0, 1) := by decide +kernel
theorem dX7_takesE_206 : decode cX7_takesE 206 = .ok (.dup, 1) := by decide +kernel
theorem dX7_takesE_207 : decode cX7_takesE 207 = .ok (.getfield 89, 3) := by decide +kernel
theorem dX7_takesE_210 : decode cX7_takesE 210 = .ok (.iconst 1, 1) := by decide +kernel
theorem dX7_takesE_211 : decode cX7_takesE 211 = .ok (.isub, 1) := by decide +kernel
theorem dX7_takesE_212 : decode cX7_takesE 212 = .ok (.putfield 89, 3) := by decide +kernel
theorem dX7_takesE_215 : decode cX7_takesE 215 = .ok (.aload_n 0, 1) := by decide +kernel
theorem dX7_takesE_216 : decode cX7_takesE 216 = .ok (.dup, 1) := by decide +kernel
theorem dX7_takesE_217 : decode cX7_takesE 217 = .ok (.getfield 53, 3) := by decide +kernel
theorem dX7_takesE_220 : decode cX7_takesE 220 = .ok (.iconst 1, 1) := by decide +kernel
theorem dX7_takesE_221 : decode cX7_takesE 221 = .ok (.iadd, 1) := by decide +kernel
theorem dX7_takesE_222 : decode cX7_takesE 222 = .ok (.putfield 53, 3) := by decide +kernel
theorem dX7_takesE_225 : decode cX7_takesE 225 = .ok (.aload_n 0, 1) := by decide +kernel
theorem dX7_takesE_226 : decode cX7_takesE 226 = .ok (.invokevirtual 274, 3) := by decide +kernel
theorem dX7_takesE_229 : decode cX7_takesE 229 = .ok (.goto (-207), 3) := by decide +kernel
theorem dX7_takesHead_0 : decode cX7_takesHead 0 = .ok (.aload_n 0, 1) := by decide +kernel
theorem dX7_takesHead_1 : decode cX7_takesHead 1 = .ok (.invokevirtual 252, 3) := by decide +kernel
theorem dX7_takesHead_4 : decode cX7_takesHead 4 = .ok (.lookupswitch 56 #[(104, 42), (108, 28)], 28) := by decide +kernel
theorem dX7_takesHead_32 : decode cX7_takesHead 32 = .ok (.aload_n 0, 1) := by decide +kernel
theorem dX7_takesHead_33 : decode cX7_takesHead 33 = .ok (.getfield 65, 3) := by decide +kernel
theorem dX7_takesHead_36 : decode cX7_takesHead 36 = .ok (.iload_n 1, 1) := by decide +kernel
theorem dX7_takesHead_37 : decode cX7_takesHead 37 = .ok (.iconst 0, 1) := by decide +kernel
theorem dX7_takesHead_38 : decode cX7_takesHead 38 = .ok (.iastore, 1) := by decide +kernel
theorem dX7_takesHead_39 : decode cX7_takesHead 39 = .ok (.aload_n 0, 1) := by decide +kernel
theorem dX7_takesHead_40 : decode cX7_takesHead 40 = .ok (.iconst 0, 1) := by decide +kernel
theorem dX7_takesHead_41 : decode cX7_takesHead 41 = .ok (.iconst 4, 1) := by decide +kernel
theorem dX7_takesHead_42 : decode cX7_takesHead 42 = .ok (.invokevirtual 283, 3) := by decide +kernel
theorem dX7_takesHead_45 : decode cX7_takesHead 45 = .ok (.ireturn, 1) := by decide +kernel
theorem dX7_takesHead_46 : decode cX7_takesHead 46 = .ok (.aload_n 0, 1) := by decide +kernel
theorem dX7_takesHead_47 : decode cX7_takesHead 47 = .ok (.getfield 65, 3) := by decide +kernel
theorem dX7_takesHead_50 : decode cX7_takesHead 50 = .ok (.iload_n 1, 1) := by decide +kernel
theorem dX7_takesHead_51 : decode cX7_takesHead 51 = .ok (.iconst 1, 1) := by decide +kernel
theorem dX7_takesHead_52 : decode cX7_takesHead 52 = .ok (.iastore, 1) := by decide +kernel
theorem dX7_takesHead_53 : decode cX7_takesHead 53 = .ok (.aload_n 0, 1) := by decide +kernel
theorem dX7_takesHead_54 : decode cX7_takesHead 54 = .ok (.iconst 4, 1) := by decide +kernel
theorem dX7_takesHead_55 : decode cX7_takesHead 55 = .ok (.iconst 4, 1) := by decide +kernel
theorem dX7_takesHead_56 : decode cX7_takesHead 56 = .ok (.invokevirtual 283, 3) := by decide +kernel
theorem dX7_takesHead_59 : decode cX7_takesHead 59 = .ok (.ireturn, 1) := by decide +kernel
theorem dX7_takesHead_60 : decode cX7_takesHead 60 = .ok (.aload_n 0, 1) := by decide +kernel
theorem dX7_takesHead_61 : decode cX7_takesHead 61 = .ok (.getfield 65, 3) := by decide +kernel
theorem dX7_takesHead_64 : decode cX7_takesHead 64 = .ok (.iload_n 1, 1) := by decide +kernel
theorem dX7_takesHead_65 : decode cX7_takesHead 65 = .ok (.iconst 2, 1) := by decide +kernel
theorem dX7_takesHead_66 : decode cX7_takesHead 66 = .ok (.iastore, 1) := by decide +kernel
theorem dX7_takesHead_67 : decode cX7_takesHead 67 = .ok (.aload_n 0, 1) := by decide +kernel
theorem dX7_takesHead_68 : decode cX7_takesHead 68 = .ok (.bipush 8, 2) := by decide +kernel
theorem dX7_takesHead_70 : decode cX7_takesHead 70 = .ok (.iconst 4, 1) := by decide +kernel
theorem dX7_takesHead_71 : decode cX7_takesHead 71 = .ok (.invokevirtual 283, 3) := by decide +kernel
theorem dX7_takesHead_74 : decode cX7_takesHead 74 = .ok (.ireturn, 1) := by decide +kernel
theorem dX7_takesClause_0 : decode cX7_takesClause 0 = .ok (.aload_n 0, 1) := by decide +kernel
theorem dX7_takesClause_1 : decode cX7_takesClause 1 = .ok (.iload_n 1, 1) := by decide +kernel
theorem dX7_takesClause_2 : decode cX7_takesClause 2 = .ok (.invokevirtual 286, 3) := by decide +kernel
theorem dX7_takesClause_5 : decode cX7_takesClause 5 = .ok (.ifCond .eq 10, 3) := by decide +kernel
theorem dX7_takesClause_8 : decode cX7_takesClause 8 = .ok (.aload_n 0, 1) := by decide +kernel
theorem dX7_takesClause_9 : decode cX7_takesClause 9 = .ok (.invokevirtual 271, 3) := by decide +kernel
theorem dX7_takesClause_12 : decode cX7_takesClause 12 = .ok (.ifCond .ne 5, 3) := by decide +kernel
theorem dX7_takesClause_15 : decode cX7_takesClause 15 = .ok (.iconst 0, 1) := by decide +kernel
theorem dX7_takesClause_16 : decode cX7_takesClause 16 = .ok (.ireturn, 1) := by decide +kernel
theorem dX7_takesClause_17 : decode cX7_takesClause 17 = .ok (.aload_n 0, 1) := by decide +kernel
theorem dX7_takesClause_18 : decode cX7_takesClause 18 = .ok (.getfield 68, 3) := by decide +kernel
theorem dX7_takesClause_21 : decode cX7_takesClause 21 = .ok (.iload_n 1, 1) := by decide +kernel
theorem dX7_takesClause_22 : decode cX7_takesClause 22 = .ok (.aload_n 0, 1) := by decide +kernel
theorem dX7_takesClause_23 : decode cX7_takesClause 23 = .ok (.getfield 56, 3) := by decide +kernel
theorem dX7_takesClause_26 : decode cX7_takesClause 26 = .ok (.iastore, 1) := by decide +kernel
theorem dX7_takesClause_27 : decode cX7_takesClause 27 = .ok (.aload_n 0, 1) := by decide +kernel
theorem dX7_takesClause_28 : decode cX7_takesClause 28 = .ok (.getfield 65, 3) := by decide +kernel
theorem dX7_takesClause_31 : decode cX7_takesClause 31 = .ok (.iload_n 1, 1) := by decide +kernel
theorem dX7_takesClause_32 : decode cX7_takesClause 32 = .ok (.iaload, 1) := by decide +kernel
theorem dX7_takesClause_33 : decode cX7_takesClause 33 = .ok (.iconst 2, 1) := by decide +kernel
theorem dX7_takesClause_34 : decode cX7_takesClause 34 = .ok (.if_icmp .eq 20, 3) := by decide +kernel
theorem dX7_takesClause_37 : decode cX7_takesClause 37 = .ok (.aload_n 0, 1) := by decide +kernel
theorem dX7_takesClause_38 : decode cX7_takesClause 38 = .ok (.bipush 32, 2) := by decide +kernel
theorem dX7_takesClause_40 : decode cX7_takesClause 40 = .ok (.invokevirtual 256, 3) := by decide +kernel
theorem dX7_takesClause_43 : decode cX7_takesClause 43 = .ok (.ifCond .eq 15, 3) := by decide +kernel
theorem dX7_takesClause_46 : decode cX7_takesClause 46 = .ok (.aload_n 0, 1) := by decide +kernel
theorem dX7_takesClause_47 : decode cX7_takesClause 47 = .ok (.iload_n 1, 1) := by decide +kernel
theorem dX7_takesClause_48 : decode cX7_takesClause 48 = .ok (.invokevirtual 289, 3) := by decide +kernel
theorem dX7_takesClause_51 : decode cX7_takesClause 51 = .ok (.ifCond .eq 7, 3) := by decide +kernel
theorem dX7_takesClause_54 : decode cX7_takesClause 54 = .ok (.iconst 1, 1) := by decide +kernel
theorem dX7_takesClause_55 : decode cX7_takesClause 55 = .ok (.goto 4, 3) := by decide +kernel
theorem dX7_takesClause_58 : decode cX7_takesClause 58 = .ok (.iconst 0, 1) := by decide +kernel
theorem dX7_takesClause_59 : decode cX7_takesClause 59 = .ok (.ireturn, 1) := by decide +kernel
theorem dX7_goesText_0 : decode cX7_goesText 0 = .ok (.aload_n 0, 1) := by decide +kernel
theorem dX7_goesText_1 : decode cX7_goesText 1 = .ok (.iconst 0, 1) := by decide +kernel
theorem dX7_goesText_2 : decode cX7_goesText 2 = .ok (.putfield 53, 3) := by decide +kernel
theorem dX7_goesText_5 : decode cX7_goesText 5 = .ok (.aload_n 0, 1) := by decide +kernel
theorem dX7_goesText_6 : decode cX7_goesText 6 = .ok (.bipush 100, 2) := by decide +kernel
theorem dX7_goesText_8 : decode cX7_goesText 8 = .ok (.iload_n 1, 1) := by decide +kernel
theorem dX7_goesText_9 : decode cX7_goesText 9 = .ok (.imul, 1) := by decide +kernel
theorem dX7_goesText_10 : decode cX7_goesText 10 = .ok (.putfield 83, 3) := by decide +kernel
theorem dX7_goesText_13 : decode cX7_goesText 13 = .ok (.iconst 0, 1) := by decide +kernel
theorem dX7_goesText_14 : decode cX7_goesText 14 = .ok (.istore_n 2, 1) := by decide +kernel
theorem dX7_goesText_15 : decode cX7_goesText 15 = .ok (.aload_n 0, 1) := by decide +kernel
theorem dX7_goesText_16 : decode cX7_goesText 16 = .ok (.bipush 10, 2) := by decide +kernel
theorem dX7_goesText_18 : decode cX7_goesText 18 = .ok (.iload_n 1, 1) := by decide +kernel
theorem dX7_goesText_19 : decode cX7_goesText 19 = .ok (.imul, 1) := by decide +kernel
theorem dX7_goesText_20 : decode cX7_goesText 20 = .ok (.iload_n 2, 1) := by decide +kernel
theorem dX7_goesText_21 : decode cX7_goesText 21 = .ok (.iadd, 1) := by decide +kernel
theorem dX7_goesText_22 : decode cX7_goesText 22 = .ok (.invokevirtual 292, 3) := by decide +kernel
theorem dX7_goesText_25 : decode cX7_goesText 25 = .ok (.ifCond .ne 5, 3) := by decide +kernel
theorem dX7_goesText_28 : decode cX7_goesText 28 = .ok (.iconst 0, 1) := by decide +kernel
theorem dX7_goesText_29 : decode cX7_goesText 29 = .ok (.ireturn, 1) := by decide +kernel
theorem dX7_goesText_30 : decode cX7_goesText 30 = .ok (.iinc 2 1, 3) := by decide +kernel
theorem dX7_goesText_33 : decode cX7_goesText 33 = .ok (.aload_n 0, 1) := by decide +kernel
theorem dX7_goesText_34 : decode cX7_goesText 34 = .ok (.getfield 62, 3) := by decide +kernel
theorem dX7_goesText_37 : decode cX7_goesText 37 = .ok (.iload_n 1, 1) := by decide +kernel
theorem dX7_goesText_38 : decode cX7_goesText 38 = .ok (.iload_n 2, 1) := by decide +kernel
theorem dX7_goesText_39 : decode cX7_goesText 39 = .ok (.iastore, 1) := by decide +kernel
theorem dX7_goesText_40 : decode cX7_goesText 40 = .ok (.aload_n 0, 1) := by decide +kernel
theorem dX7_goesText_41 : decode cX7_goesText 41 = .ok (.getfield 53, 3) := by decide +kernel
theorem dX7_goesText_44 : decode cX7_goesText 44 = .ok (.aload_n 0, 1) := by decide +kernel
theorem dX7_goesText_45 : decode cX7_goesText 45 = .ok (.getfield 50, 3) := by decide +kernel
theorem dX7_goesText_48 : decode cX7_goesText 48 = .ok (.if_icmp .ne 5, 3) := by decide +kernel
theorem dX7_goesText_51 : decode cX7_goesText 51 = .ok (.iconst 1, 1) := by decide +kernel
theorem dX7_goesText_52 : decode cX7_goesText 52 = .ok (.ireturn, 1) := by decide +kernel
theorem dX7_goesText_53 : decode cX7_goesText 53 = .ok (.iload_n 2, 1) := by decide +kernel
theorem dX7_goesText_54 : decode cX7_goesText 54 = .ok (.bipush 10, 2) := by decide +kernel
theorem dX7_goesText_56 : decode cX7_goesText 56 = .ok (.if_icmp .eq 12, 3) := by decide +kernel
theorem dX7_goesText_59 : decode cX7_goesText 59 = .ok (.aload_n 0, 1) := by decide +kernel
theorem dX7_goesText_60 : decode cX7_goesText 60 = .ok (.bipush 59, 2) := by decide +kernel
theorem dX7_goesText_62 : decode cX7_goesText 62 = .ok (.invokevirtual 256, 3) := by decide +kernel
theorem dX7_goesText_65 : decode cX7_goesText 65 = .ok (.ifCond .ne (-50), 3) := by decide +kernel
theorem dX7_goesText_68 : decode cX7_goesText 68 = .ok (.iconst 0, 1) := by decide +kernel
theorem dX7_goesText_69 : decode cX7_goesText 69 = .ok (.ireturn, 1) := by decide +kernel
theorem dX7_charter_0 : decode cX7_charter 0 = .ok (.aload_n 0, 1) := by decide +kernel
theorem dX7_charter_1 : decode cX7_charter 1 = .ok (.getfield 44, 3) := by decide +kernel
theorem dX7_charter_4 : decode cX7_charter 4 = .ok (.bipush 6, 2) := by decide +kernel
theorem dX7_charter_6 : decode cX7_charter 6 = .ok (.if_icmp .ne 6, 3) := by decide +kernel
theorem dX7_charter_9 : decode cX7_charter 9 = .ok (.bipush (-4), 2) := by decide +kernel
theorem dX7_charter_11 : decode cX7_charter 11 = .ok (.ireturn, 1) := by decide +kernel
theorem dX7_charter_12 : decode cX7_charter 12 = .ok (.aload_n 0, 1) := by decide +kernel
theorem dX7_charter_13 : decode cX7_charter 13 = .ok (.aload_n 0, 1) := by decide +kernel
theorem dX7_charter_14 : decode cX7_charter 14 = .ok (.getfield 44, 3) := by decide +kernel
theorem dX7_charter_17 : decode cX7_charter 17 = .ok (.invokevirtual 295, 3) := by decide +kernel
theorem dX7_charter_20 : decode cX7_charter 20 = .ok (.istore_n 1, 1) := by decide +kernel
theorem dX7_charter_21 : decode cX7_charter 21 = .ok (.aload_n 0, 1) := by decide +kernel
theorem dX7_charter_22 : decode cX7_charter 22 = .ok (.iconst 0, 1) := by decide +kernel
theorem dX7_charter_23 : decode cX7_charter 23 = .ok (.putfield 50, 3) := by decide +kernel
theorem dX7_charter_26 : decode cX7_charter 26 = .ok (.iload_n 1, 1) := by decide +kernel
theorem dX7_charter_27 : decode cX7_charter 27 = .ok (.ifCond .ne 11, 3) := by decide +kernel
theorem dX7_charter_30 : decode cX7_charter 30 = .ok (.bipush (-10), 2) := by decide +kernel
theorem dX7_charter_32 : decode cX7_charter 32 = .ok (.aload_n 0, 1) := by decide +kernel
theorem dX7_charter_33 : decode cX7_charter 33 = .ok (.getfield 53, 3) := by decide +kernel
theorem dX7_charter_36 : decode cX7_charter 36 = .ok (.isub, 1) := by decide +kernel
theorem dX7_charter_37 : decode cX7_charter 37 = .ok (.ireturn, 1) := by decide +kernel
theorem dX7_charter_38 : decode cX7_charter 38 = .ok (.aload_n 0, 1) := by decide +kernel
theorem dX7_charter_39 : decode cX7_charter 39 = .ok (.aload_n 0, 1) := by decide +kernel
theorem dX7_charter_40 : decode cX7_charter 40 = .ok (.getfield 44, 3) := by decide +kernel
theorem dX7_charter_43 : decode cX7_charter 43 = .ok (.putfield 47, 3) := by decide +kernel
theorem dX7_charter_46 : decode cX7_charter 46 = .ok (.aload_n 0, 1) := by decide +kernel
theorem dX7_charter_47 : decode cX7_charter 47 = .ok (.dup, 1) := by decide +kernel
theorem dX7_charter_48 : decode cX7_charter 48 = .ok (.getfield 44, 3) := by decide +kernel
theorem dX7_charter_51 : decode cX7_charter 51 = .ok (.iconst 1, 1) := by decide +kernel
theorem dX7_charter_52 : decode cX7_charter 52 = .ok (.iadd, 1) := by decide +kernel
theorem dX7_charter_53 : decode cX7_charter 53 = .ok (.putfield 44, 3) := by decide +kernel
theorem dX7_charter_56 : decode cX7_charter 56 = .ok (.aload_n 0, 1) := by decide +kernel
theorem dX7_charter_57 : decode cX7_charter 57 = .ok (.getfield 47, 3) := by decide +kernel
theorem dX7_charter_60 : decode cX7_charter 60 = .ok (.ireturn, 1) := by decide +kernel
theorem dX7_begin_0 : decode cX7_begin 0 = .ok (.aload_n 0, 1) := by decide +kernel
theorem dX7_begin_1 : decode cX7_begin 1 = .ok (.getfield 47, 3) := by decide +kernel
theorem dX7_begin_4 : decode cX7_begin 4 = .ok (.ifCond .ge 7, 3) := by decide +kernel
theorem dX7_begin_7 : decode cX7_begin 7 = .ok (.iconst 0, 1) := by decide +kernel
theorem dX7_begin_8 : decode cX7_begin 8 = .ok (.goto 10, 3) := by decide +kernel
theorem dX7_begin_11 : decode cX7_begin 11 = .ok (.bipush 10, 2) := by decide +kernel
theorem dX7_begin_13 : decode cX7_begin 13 = .ok (.aload_n 0, 1) := by decide +kernel
theorem dX7_begin_14 : decode cX7_begin 14 = .ok (.getfield 47, 3) := by decide +kernel
theorem dX7_begin_17 : decode cX7_begin 17 = .ok (.imul, 1) := by decide +kernel
theorem dX7_begin_18 : decode cX7_begin 18 = .ok (.ireturn, 1) := by decide +kernel
theorem dX7_behind_0 : decode cX7_behind 0 = .ok (.aload_n 0, 1) := by decide +kernel
theorem dX7_behind_1 : decode cX7_behind 1 = .ok (.getfield 47, 3) := by decide +kernel
theorem dX7_behind_4 : decode cX7_behind 4 = .ok (.ifCond .ge 7, 3) := by decide +kernel
theorem dX7_behind_7 : decode cX7_behind 7 = .ok (.iconst 0, 1) := by decide +kernel
theorem dX7_behind_8 : decode cX7_behind 8 = .ok (.goto 20, 3) := by decide +kernel
theorem dX7_behind_11 : decode cX7_behind 11 = .ok (.bipush 10, 2) := by decide +kernel
theorem dX7_behind_13 : decode cX7_behind 13 = .ok (.aload_n 0, 1) := by decide +kernel
theorem dX7_behind_14 : decode cX7_behind 14 = .ok (.getfield 47, 3) := by decide +kernel
theorem dX7_behind_17 : decode cX7_behind 17 = .ok (.imul, 1) := by decide +kernel
theorem dX7_behind_18 : decode cX7_behind 18 = .ok (.aload_n 0, 1) := by decide +kernel
theorem dX7_behind_19 : decode cX7_behind 19 = .ok (.getfield 62, 3) := by decide +kernel
theorem dX7_behind_22 : decode cX7_behind 22 = .ok (.aload_n 0, 1) := by decide +kernel
theorem dX7_behind_23 : decode cX7_behind 23 = .ok (.getfield 47, 3) := by decide +kernel
theorem dX7_behind_26 : decode cX7_behind 26 = .ok (.iaload, 1) := by decide +kernel
theorem dX7_behind_27 : decode cX7_behind 27 = .ok (.iadd, 1) := by decide +kernel
theorem dX7_behind_28 : decode cX7_behind 28 = .ok (.ireturn, 1) := by decide +kernel
theorem dX7_calm_0 : decode cX7_calm 0 = .ok (.bipush 10, 2) := by decide +kernel
theorem dX7_calm_2 : decode cX7_calm 2 = .ok (.istore_n 1, 1) := by decide +kernel
theorem dX7_calm_3 : decode cX7_calm 3 = .ok (.aload_n 0, 1) := by decide +kernel
theorem dX7_calm_4 : decode cX7_calm 4 = .ok (.invokevirtual 298, 3) := by decide +kernel
theorem dX7_calm_7 : decode cX7_calm 7 = .ok (.istore_n 2, 1) := by decide +kernel
theorem dX7_calm_8 : decode cX7_calm 8 = .ok (.iload_n 2, 1) := by decide +kernel
theorem dX7_calm_9 : decode cX7_calm 9 = .ok (.aload_n 0, 1) := by decide +kernel
theorem dX7_calm_10 : decode cX7_calm 10 = .ok (.invokevirtual 301, 3) := by decide +kernel
theorem dX7_calm_13 : decode cX7_calm 13 = .ok (.if_icmp .ge 30, 3) := by decide +kernel
theorem dX7_calm_16 : decode cX7_calm 16 = .ok (.aload_n 0, 1) := by decide +kernel
theorem dX7_calm_17 : decode cX7_calm 17 = .ok (.getfield 65, 3) := by decide +kernel
theorem dX7_calm_20 : decode cX7_calm 20 = .ok (.iload_n 2, 1) := by decide +kernel
theorem dX7_calm_21 : decode cX7_calm 21 = .ok (.iaload, 1) := by decide +kernel
theorem dX7_calm_22 : decode cX7_calm 22 = .ok (.iconst 2, 1) := by decide +kernel
theorem dX7_calm_23 : decode cX7_calm 23 = .ok (.if_icmp .ne 12, 3) := by decide +kernel
theorem dX7_calm_26 : decode cX7_calm 26 = .ok (.aload_n 0, 1) := by decide +kernel
theorem dX7_calm_27 : decode cX7_calm 27 = .ok (.getfield 68, 3) := by decide +kernel
theorem dX7_calm_30 : decode cX7_calm 30 = .ok (.iload_n 2, 1) := by decide +kernel
theorem dX7_calm_31 : decode cX7_calm 31 = .ok (.iaload, 1) := by decide +kernel
theorem dX7_calm_32 : decode cX7_calm 32 = .ok (.goto 4, 3) := by decide +kernel
theorem dX7_calm_35 : decode cX7_calm 35 = .ok (.iload_n 1, 1) := by decide +kernel
theorem dX7_calm_36 : decode cX7_calm 36 = .ok (.istore_n 1, 1) := by decide +kernel
theorem dX7_calm_37 : decode cX7_calm 37 = .ok (.iinc 2 1, 3) := by decide +kernel
theorem dX7_calm_40 : decode cX7_calm 40 = .ok (.goto (-32), 3) := by decide +kernel
theorem dX7_calm_43 : decode cX7_calm 43 = .ok (.iload_n 1, 1) := by decide +kernel
theorem dX7_calm_44 : decode cX7_calm 44 = .ok (.ireturn, 1) := by decide +kernel
theorem dX7_factOf_0 : decode cX7_factOf 0 = .ok (.iload_n 1, 1) := by decide +kernel
theorem dX7_factOf_1 : decode cX7_factOf 1 = .ok (.tableswitch 68 0 4 #[35, 37, 44, 51, 58], 35) := by decide +kernel
theorem dX7_factOf_36 : decode cX7_factOf 36 = .ok (.iload_n 2, 1) := by decide +kernel
theorem dX7_factOf_37 : decode cX7_factOf 37 = .ok (.ireturn, 1) := by decide +kernel
theorem dX7_factOf_38 : decode cX7_factOf 38 = .ok (.aload_n 0, 1) := by decide +kernel
theorem dX7_factOf_39 : decode cX7_factOf 39 = .ok (.getfield 28, 3) := by decide +kernel
theorem dX7_factOf_42 : decode cX7_factOf 42 = .ok (.iload_n 2, 1) := by decide +kernel
theorem dX7_factOf_43 : decode cX7_factOf 43 = .ok (.iaload, 1) := by decide +kernel
theorem dX7_factOf_44 : decode cX7_factOf 44 = .ok (.ireturn, 1) := by decide +kernel
theorem dX7_factOf_45 : decode cX7_factOf 45 = .ok (.aload_n 0, 1) := by decide +kernel
theorem dX7_factOf_46 : decode cX7_factOf 46 = .ok (.getfield 32, 3) := by decide +kernel
theorem dX7_factOf_49 : decode cX7_factOf 49 = .ok (.iload_n 2, 1) := by decide +kernel
theorem dX7_factOf_50 : decode cX7_factOf 50 = .ok (.iaload, 1) := by decide +kernel
theorem dX7_factOf_51 : decode cX7_factOf 51 = .ok (.ireturn, 1) := by decide +kernel
theorem dX7_factOf_52 : decode cX7_factOf 52 = .ok (.aload_n 0, 1) := by decide +kernel
theorem dX7_factOf_53 : decode cX7_factOf 53 = .ok (.getfield 35, 3) := by decide +kernel
theorem dX7_factOf_56 : decode cX7_factOf 56 = .ok (.iload_n 2, 1) := by decide +kernel
theorem dX7_factOf_57 : decode cX7_factOf 57 = .ok (.iaload, 1) := by decide +kernel
theorem dX7_factOf_58 : decode cX7_factOf 58 = .ok (.ireturn, 1) := by decide +kernel
theorem dX7_factOf_59 : decode cX7_factOf 59 = .ok (.aload_n 0, 1) := by decide +kernel
theorem dX7_factOf_60 : decode cX7_factOf 60 = .ok (.getfield 38, 3) := by decide +kernel
theorem dX7_factOf_63 : decode cX7_factOf 63 = .ok (.iload_n 2, 1) := by decide +kernel
theorem dX7_factOf_64 : decode cX7_factOf 64 = .ok (.iaload, 1) := by decide +kernel
theorem dX7_factOf_65 : decode cX7_factOf 65 = .ok (.bipush 10, 2) := by decide +kernel
theorem dX7_factOf_67 : decode cX7_factOf 67 = .ok (.irem, 1) := by decide +kernel
theorem dX7_factOf_68 : decode cX7_factOf 68 = .ok (.ireturn, 1) := by decide +kernel
theorem dX7_factOf_69 : decode cX7_factOf 69 = .ok (.aload_n 0, 1) := by decide +kernel
theorem dX7_factOf_70 : decode cX7_factOf 70 = .ok (.getfield 25, 3) := by decide +kernel
theorem dX7_factOf_73 : decode cX7_factOf 73 = .ok (.bipush 7, 2) := by decide +kernel
theorem dX7_factOf_75 : decode cX7_factOf 75 = .ok (.irem, 1) := by decide +kernel
theorem dX7_factOf_76 : decode cX7_factOf 76 = .ok (.ireturn, 1) := by decide +kernel
theorem dX7_holds_0 : decode cX7_holds 0 = .ok (.iconst 0, 1) := by decide +kernel
theorem dX7_holds_1 : decode cX7_holds 1 = .ok (.istore_n 3, 1) := by decide +kernel
theorem dX7_holds_2 : decode cX7_holds 2 = .ok (.aload_n 0, 1) := by decide +kernel
theorem dX7_holds_3 : decode cX7_holds 3 = .ok (.getfield 71, 3) := by decide +kernel
theorem dX7_holds_6 : decode cX7_holds 6 = .ok (.iload_n 1, 1) := by decide +kernel
theorem dX7_holds_7 : decode cX7_holds 7 = .ok (.iaload, 1) := by decide +kernel
theorem dX7_holds_8 : decode cX7_holds 8 = .ok (.istore 4, 2) := by decide +kernel
theorem dX7_holds_10 : decode cX7_holds 10 = .ok (.iload 4, 2) := by decide +kernel
theorem dX7_holds_12 : decode cX7_holds 12 = .ok (.aload_n 0, 1) := by decide +kernel
theorem dX7_holds_13 : decode cX7_holds 13 = .ok (.getfield 74, 3) := by decide +kernel
theorem dX7_holds_16 : decode cX7_holds 16 = .ok (.iload_n 1, 1) := by decide +kernel
theorem dX7_holds_17 : decode cX7_holds 17 = .ok (.iaload, 1) := by decide +kernel
theorem dX7_holds_18 : decode cX7_holds 18 = .ok (.if_icmp .ge 225, 3) := by decide +kernel
theorem dX7_holds_21 : decode cX7_holds 21 = .ok (.aload_n 0, 1) := by decide +kernel
theorem dX7_holds_22 : decode cX7_holds 22 = .ok (.getfield 77, 3) := by decide +kernel
theorem dX7_holds_25 : decode cX7_holds 25 = .ok (.iload 4, 2) := by decide +kernel
theorem dX7_holds_27 : decode cX7_holds 27 = .ok (.iaload, 1) := by decide +kernel
theorem dX7_holds_28 : decode cX7_holds 28 = .ok (.istore 5, 2) := by decide +kernel
theorem dX7_holds_30 : decode cX7_holds 30 = .ok (.iload 5, 2) := by decide +kernel
theorem dX7_holds_32 : decode cX7_holds 32 = .ok (.bipush (-33), 2) := by decide +kernel
theorem dX7_holds_34 : decode cX7_holds 34 = .ok (.if_icmp .ne 30, 3) := by decide +kernel
theorem dX7_holds_37 : decode cX7_holds 37 = .ok (.aload_n 0, 1) := by decide +kernel
theorem dX7_holds_38 : decode cX7_holds 38 = .ok (.getfield 95, 3) := by decide +kernel
theorem dX7_holds_41 : decode cX7_holds 41 = .ok (.iload_n 3, 1) := by decide +kernel
theorem dX7_holds_42 : decode cX7_holds 42 = .ok (.iconst 1, 1) := by decide +kernel
theorem dX7_holds_43 : decode cX7_holds 43 = .ok (.isub, 1) := by decide +kernel
theorem dX7_holds_44 : decode cX7_holds 44 = .ok (.aload_n 0, 1) := by decide +kernel
theorem dX7_holds_45 : decode cX7_holds 45 = .ok (.getfield 95, 3) := by decide +kernel
theorem dX7_holds_48 : decode cX7_holds 48 = .ok (.iload_n 3, 1) := by decide +kernel
theorem dX7_holds_49 : decode cX7_holds 49 = .ok (.iconst 1, 1) := by decide +kernel
theorem dX7_holds_50 : decode cX7_holds 50 = .ok (.isub, 1) := by decide +kernel
theorem dX7_holds_51 : decode cX7_holds 51 = .ok (.baload, 1) := by decide +kernel
theorem dX7_holds_52 : decode cX7_holds 52 = .ok (.ifCond .ne 7, 3) := by decide +kernel
theorem dX7_holds_55 : decode cX7_holds 55 = .ok (.iconst 1, 1) := by decide +kernel
theorem dX7_holds_56 : decode cX7_holds 56 = .ok (.goto 4, 3) := by decide +kernel
theorem dX7_holds_59 : decode cX7_holds 59 = .ok (.iconst 0, 1) := by decide +kernel
theorem dX7_holds_60 : decode cX7_holds 60 = .ok (.bastore, 1) := by decide +kernel
theorem dX7_holds_61 : decode cX7_holds 61 = .ok (.goto 176, 3) := by decide +kernel
theorem dX7_holds_64 : decode cX7_holds 64 = .ok (.iload 5, 2) := by decide +kernel
theorem dX7_holds_66 : decode cX7_holds 66 = .ok (.ifCond .ge 77, 3) := by decide +kernel
theorem dX7_holds_69 : decode cX7_holds 69 = .ok (.iinc 3 (-1), 3) := by decide +kernel
theorem dX7_holds_72 : decode cX7_holds 72 = .ok (.aload_n 0, 1) := by decide +kernel
theorem dX7_holds_73 : decode cX7_holds 73 = .ok (.getfield 95, 3) := by decide +kernel
theorem dX7_holds_76 : decode cX7_holds 76 = .ok (.iload_n 3, 1) := by decide +kernel
theorem dX7_holds_77 : decode cX7_holds 77 = .ok (.iconst 1, 1) := by decide +kernel
theorem dX7_holds_78 : decode cX7_holds 78 = .ok (.isub, 1) := by decide +kernel
theorem dX7_holds_79 : decode cX7_holds 79 = .ok (.iload 5, 2) := by decide +kernel
theorem dX7_holds_81 : decode cX7_holds 81 = .ok (.bipush (-38), 2) := by decide +kernel
theorem dX7_holds_83 : decode cX7_holds 83 = .ok (.if_icmp .ne 31, 3) := by decide +kernel
theorem dX7_holds_86 : decode cX7_holds 86 = .ok (.aload_n 0, 1) := by decide +kernel
theorem dX7_holds_87 : decode cX7_holds 87 = .ok (.getfield 95, 3) := by decide +kernel
theorem dX7_holds_90 : decode cX7_holds 90 = .ok (.iload_n 3, 1) := by decide +kernel
theorem dX7_holds_91 : decode cX7_holds 91 = .ok (.iconst 1, 1) := by decide +kernel
theorem dX7_holds_92 : decode cX7_holds 92 = .ok (.isub, 1) := by decide +kernel
theorem dX7_holds_93 : decode cX7_holds 93 = .ok (.baload, 1) := by decide +kernel
theorem dX7_holds_94 : decode cX7_holds 94 = .ok (.ifCond .eq 16, 3) := by decide +kernel
theorem dX7_holds_97 : decode cX7_holds 97 = .ok (.aload_n 0, 1) := by decide +kernel
theorem dX7_holds_98 : decode cX7_holds 98 = .ok (.getfield 95, 3) := by decide +kernel
theorem dX7_holds_101 : decode cX7_holds 101 = .ok (.iload_n 3, 1) := by decide +kernel
theorem dX7_holds_102 : decode cX7_holds 102 = .ok (.baload, 1) := by decide +kernel
theorem dX7_holds_103 : decode cX7_holds 103 = .ok (.ifCond .eq 7, 3) := by decide +kernel
theorem dX7_holds_106 : decode cX7_holds 106 = .ok (.iconst 1, 1) := by decide +kernel
theorem dX7_holds_107 : decode cX7_holds 107 = .ok (.goto 32, 3) := by decide +kernel
theorem dX7_holds_110 : decode cX7_holds 110 = .ok (.iconst 0, 1) := by decide +kernel
theorem dX7_holds_111 : decode cX7_holds 111 = .ok (.goto 28, 3) := by decide +kernel
theorem dX7_holds_114 : decode cX7_holds 114 = .ok (.aload_n 0, 1) := by decide +kernel
theorem dX7_holds_115 : decode cX7_holds 115 = .ok (.getfield 95, 3) := by decide +kernel
theorem dX7_holds_118 : decode cX7_holds 118 = .ok (.iload_n 3, 1) := by decide +kernel
theorem dX7_holds_119 : decode cX7_holds 119 = .ok (.iconst 1, 1) := by decide +kernel
theorem dX7_holds_120 : decode cX7_holds 120 = .ok (.isub, 1) := by decide +kernel
theorem dX7_holds_121 : decode cX7_holds 121 = .ok (.baload, 1) := by decide +kernel
theorem dX7_holds_122 : decode cX7_holds 122 = .ok (.ifCond .ne 12, 3) := by decide +kernel
theorem dX7_holds_125 : decode cX7_holds 125 = .ok (.aload_n 0, 1) := by decide +kernel
theorem dX7_holds_126 : decode cX7_holds 126 = .ok (.getfield 95, 3) := by decide +kernel
theorem dX7_holds_129 : decode cX7_holds 129 = .ok (.iload_n 3, 1) := by decide +kernel
theorem dX7_holds_130 : decode cX7_holds 130 = .ok (.baload, 1) := by decide +kernel
theorem dX7_holds_131 : decode cX7_holds 131 = .ok (.ifCond .eq 7, 3) := by decide +kernel
theorem dX7_holds_134 : decode cX7_holds 134 = .ok (.iconst 1, 1) := by decide +kernel
theorem dX7_holds_135 : decode cX7_holds 135 = .ok (.goto 4, 3) := by decide +kernel
theorem dX7_holds_138 : decode cX7_holds 138 = .ok (.iconst 0, 1) := by decide +kernel
theorem dX7_holds_139 : decode cX7_holds 139 = .ok (.bastore, 1) := by decide +kernel
theorem dX7_holds_140 : decode cX7_holds 140 = .ok (.goto 97, 3) := by decide +kernel
theorem dX7_holds_143 : decode cX7_holds 143 = .ok (.aload_n 0, 1) := by decide +kernel
theorem dX7_holds_144 : decode cX7_holds 144 = .ok (.iload 5, 2) := by decide +kernel
theorem dX7_holds_146 : decode cX7_holds 146 = .ok (.sipush 1000, 3) := by decide +kernel
theorem dX7_holds_149 : decode cX7_holds 149 = .ok (.idiv, 1) := by decide +kernel
theorem dX7_holds_150 : decode cX7_holds 150 = .ok (.iload_n 2, 1) := by decide +kernel
theorem dX7_holds_151 : decode cX7_holds 151 = .ok (.invokevirtual 304, 3) := by decide +kernel
theorem dX7_holds_154 : decode cX7_holds 154 = .ok (.istore 6, 2) := by decide +kernel
theorem dX7_holds_156 : decode cX7_holds 156 = .ok (.iload 5, 2) := by decide +kernel
theorem dX7_holds_158 : decode cX7_holds 158 = .ok (.bipush 100, 2) := by decide +kernel
theorem dX7_holds_160 : decode cX7_holds 160 = .ok (.idiv, 1) := by decide +kernel
theorem dX7_holds_161 : decode cX7_holds 161 = .ok (.bipush 10, 2) := by decide +kernel
theorem dX7_holds_163 : decode cX7_holds 163 = .ok (.irem, 1) := by decide +kernel
theorem dX7_holds_164 : decode cX7_holds 164 = .ok (.istore 7, 2) := by decide +kernel
theorem dX7_holds_166 : decode cX7_holds 166 = .ok (.aload_n 0, 1) := by decide +kernel
theorem dX7_holds_167 : decode cX7_holds 167 = .ok (.getfield 95, 3) := by decide +kernel
theorem dX7_holds_170 : decode cX7_holds 170 = .ok (.iload_n 3, 1) := by decide +kernel
theorem dX7_holds_171 : decode cX7_holds 171 = .ok (.iload 7, 2) := by decide +kernel
theorem dX7_holds_173 : decode cX7_holds 173 = .ok (.ifCond .ne 21, 3) := by decide +kernel
theorem dX7_holds_176 : decode cX7_holds 176 = .ok (.iload 6, 2) := by decide +kernel
theorem dX7_holds_178 : decode cX7_holds 178 = .ok (.iload 5, 2) := by decide +kernel
theorem dX7_holds_180 : decode cX7_holds 180 = .ok (.bipush 100, 2) := by decide +kernel
theorem dX7_holds_182 : decode cX7_holds 182 = .ok (.irem, 1) := by decide +kernel
theorem dX7_holds_183 : decode cX7_holds 183 = .ok (.if_icmp .ge 7, 3) := by decide +kernel
theorem dX7_holds_186 : decode cX7_holds 186 = .ok (.iconst 1, 1) := by decide +kernel
theorem dX7_holds_187 : decode cX7_holds 187 = .ok (.goto 46, 3) := by decide +kernel
theorem dX7_holds_190 : decode cX7_holds 190 = .ok (.iconst 0, 1) := by decide +kernel
theorem dX7_holds_191 : decode cX7_holds 191 = .ok (.goto 42, 3) := by decide +kernel
theorem dX7_holds_194 : decode cX7_holds 194 = .ok (.iload 7, 2) := by decide +kernel
theorem dX7_holds_196 : decode cX7_holds 196 = .ok (.iconst 1, 1) := by decide +kernel
theorem dX7_holds_197 : decode cX7_holds 197 = .ok (.if_icmp .ne 21, 3) := by decide +kernel
theorem dX7_holds_200 : decode cX7_holds 200 = .ok (.iload 6, 2) := by decide +kernel
theorem dX7_holds_202 : decode cX7_holds 202 = .ok (.iload 5, 2) := by decide +kernel
theorem dX7_holds_204 : decode cX7_holds 204 = .ok (.bipush 100, 2) := by decide +kernel
theorem dX7_holds_206 : decode cX7_holds 206 = .ok (.irem, 1) := by decide +kernel
theorem dX7_holds_207 : decode cX7_holds 207 = .ok (.if_icmp .ne 7, 3) := by decide +kernel
theorem dX7_holds_210 : decode cX7_holds 210 = .ok (.iconst 1, 1) := by decide +kernel
theorem dX7_holds_211 : decode cX7_holds 211 = .ok (.goto 22, 3) := by decide +kernel
theorem dX7_holds_214 : decode cX7_holds 214 = .ok (.iconst 0, 1) := by decide +kernel
theorem dX7_holds_215 : decode cX7_holds 215 = .ok (.goto 18, 3) := by decide +kernel
theorem dX7_holds_218 : decode cX7_holds 218 = .ok (.iload 6, 2) := by decide +kernel
theorem dX7_holds_220 : decode cX7_holds 220 = .ok (.iload 5, 2) := by decide +kernel
theorem dX7_holds_222 : decode cX7_holds 222 = .ok (.bipush 100, 2) := by decide +kernel
theorem dX7_holds_224 : decode cX7_holds 224 = .ok (.irem, 1) := by decide +kernel
theorem dX7_holds_225 : decode cX7_holds 225 = .ok (.if_icmp .le 7, 3) := by decide +kernel
theorem dX7_holds_228 : decode cX7_holds 228 = .ok (.iconst 1, 1) := by decide +kernel
theorem dX7_holds_229 : decode cX7_holds 229 = .ok (.goto 4, 3) := by decide +kernel
theorem dX7_holds_232 : decode cX7_holds 232 = .ok (.iconst 0, 1) := by decide +kernel
theorem dX7_holds_233 : decode cX7_holds 233 = .ok (.bastore, 1) := by decide +kernel
theorem dX7_holds_234 : decode cX7_holds 234 = .ok (.iinc 3 1, 3) := by decide +kernel
theorem dX7_holds_237 : decode cX7_holds 237 = .ok (.iinc 4 1, 3) := by decide +kernel
theorem dX7_holds_240 : decode cX7_holds 240 = .ok (.goto (-230), 3) := by decide +kernel
theorem dX7_holds_243 : decode cX7_holds 243 = .ok (.aload_n 0, 1) := by decide +kernel
theorem dX7_holds_244 : decode cX7_holds 244 = .ok (.getfield 95, 3) := by decide +kernel
theorem dX7_holds_247 : decode cX7_holds 247 = .ok (.iconst 0, 1) := by decide +kernel
theorem dX7_holds_248 : decode cX7_holds 248 = .ok (.baload, 1) := by decide +kernel
theorem dX7_holds_249 : decode cX7_holds 249 = .ok (.ireturn, 1) := by decide +kernel
theorem dX7_sum_0 : decode cX7_sum 0 = .ok (.aload_n 0, 1) := by decide +kernel
theorem dX7_sum_1 : decode cX7_sum 1 = .ok (.getfield 35, 3) := by decide +kernel
theorem dX7_sum_4 : decode cX7_sum 4 = .ok (.iload_n 1, 1) := by decide +kernel
theorem dX7_sum_5 : decode cX7_sum 5 = .ok (.iaload, 1) := by decide +kernel
theorem dX7_sum_6 : decode cX7_sum 6 = .ok (.iconst 4, 1) := by decide +kernel
theorem dX7_sum_7 : decode cX7_sum 7 = .ok (.idiv, 1) := by decide +kernel
theorem dX7_sum_8 : decode cX7_sum 8 = .ok (.ineg, 1) := by decide +kernel
theorem dX7_sum_9 : decode cX7_sum 9 = .ok (.istore_n 2, 1) := by decide +kernel
theorem dX7_sum_10 : decode cX7_sum 10 = .ok (.aload_n 0, 1) := by decide +kernel
theorem dX7_sum_11 : decode cX7_sum 11 = .ok (.invokevirtual 298, 3) := by decide +kernel
theorem dX7_sum_14 : decode cX7_sum 14 = .ok (.istore_n 3, 1) := by decide +kernel
theorem dX7_sum_15 : decode cX7_sum 15 = .ok (.iload_n 3, 1) := by decide +kernel
theorem dX7_sum_16 : decode cX7_sum 16 = .ok (.aload_n 0, 1) := by decide +kernel
theorem dX7_sum_17 : decode cX7_sum 17 = .ok (.invokevirtual 301, 3) := by decide +kernel
theorem dX7_sum_20 : decode cX7_sum 20 = .ok (.if_icmp .ge 59, 3) := by decide +kernel
theorem dX7_sum_23 : decode cX7_sum 23 = .ok (.aload_n 0, 1) := by decide +kernel
theorem dX7_sum_24 : decode cX7_sum 24 = .ok (.getfield 65, 3) := by decide +kernel
theorem dX7_sum_27 : decode cX7_sum 27 = .ok (.iload_n 3, 1) := by decide +kernel
theorem dX7_sum_28 : decode cX7_sum 28 = .ok (.iaload, 1) := by decide +kernel
theorem dX7_sum_29 : decode cX7_sum 29 = .ok (.iconst 1, 1) := by decide +kernel
theorem dX7_sum_30 : decode cX7_sum 30 = .ok (.if_icmp .gt 43, 3) := by decide +kernel
theorem dX7_sum_33 : decode cX7_sum 33 = .ok (.aload_n 0, 1) := by decide +kernel
theorem dX7_sum_34 : decode cX7_sum 34 = .ok (.iload_n 3, 1) := by decide +kernel
theorem dX7_sum_35 : decode cX7_sum 35 = .ok (.iload_n 1, 1) := by decide +kernel
theorem dX7_sum_36 : decode cX7_sum 36 = .ok (.invokevirtual 308, 3) := by decide +kernel
theorem dX7_sum_39 : decode cX7_sum 39 = .ok (.ifCond .ne 6, 3) := by decide +kernel
theorem dX7_sum_42 : decode cX7_sum 42 = .ok (.goto 31, 3) := by decide +kernel
theorem dX7_sum_45 : decode cX7_sum 45 = .ok (.iload_n 2, 1) := by decide +kernel
theorem dX7_sum_46 : decode cX7_sum 46 = .ok (.aload_n 0, 1) := by decide +kernel
theorem dX7_sum_47 : decode cX7_sum 47 = .ok (.getfield 65, 3) := by decide +kernel
theorem dX7_sum_50 : decode cX7_sum 50 = .ok (.iload_n 3, 1) := by decide +kernel
theorem dX7_sum_51 : decode cX7_sum 51 = .ok (.iaload, 1) := by decide +kernel
theorem dX7_sum_52 : decode cX7_sum 52 = .ok (.ifCond .ne 12, 3) := by decide +kernel
theorem dX7_sum_55 : decode cX7_sum 55 = .ok (.aload_n 0, 1) := by decide +kernel
theorem dX7_sum_56 : decode cX7_sum 56 = .ok (.getfield 68, 3) := by decide +kernel
theorem dX7_sum_59 : decode cX7_sum 59 = .ok (.iload_n 3, 1) := by decide +kernel
theorem dX7_sum_60 : decode cX7_sum 60 = .ok (.iaload, 1) := by decide +kernel
theorem dX7_sum_61 : decode cX7_sum 61 = .ok (.goto 10, 3) := by decide +kernel
theorem dX7_sum_64 : decode cX7_sum 64 = .ok (.aload_n 0, 1) := by decide +kernel
theorem dX7_sum_65 : decode cX7_sum 65 = .ok (.getfield 68, 3) := by decide +kernel
theorem dX7_sum_68 : decode cX7_sum 68 = .ok (.iload_n 3, 1) := by decide +kernel
theorem dX7_sum_69 : decode cX7_sum 69 = .ok (.iaload, 1) := by decide +kernel
theorem dX7_sum_70 : decode cX7_sum 70 = .ok (.ineg, 1) := by decide +kernel
theorem dX7_sum_71 : decode cX7_sum 71 = .ok (.iadd, 1) := by decide +kernel
theorem dX7_sum_72 : decode cX7_sum 72 = .ok (.istore_n 2, 1) := by decide +kernel
theorem dX7_sum_73 : decode cX7_sum 73 = .ok (.iinc 3 1, 3) := by decide +kernel
theorem dX7_sum_76 : decode cX7_sum 76 = .ok (.goto (-61), 3) := by decide +kernel
theorem dX7_sum_79 : decode cX7_sum 79 = .ok (.iload_n 2, 1) := by decide +kernel
theorem dX7_sum_80 : decode cX7_sum 80 = .ok (.ireturn, 1) := by decide +kernel
theorem dX7_isDancerBelow_0 : decode cX7_isDancerBelow 0 = .ok (.iconst 0, 1) := by decide +kernel
theorem dX7_isDancerBelow_1 : decode cX7_isDancerBelow 1 = .ok (.istore_n 2, 1) := by decide +kernel
theorem dX7_isDancerBelow_2 : decode cX7_isDancerBelow 2 = .ok (.iload_n 2, 1) := by decide +kernel
theorem dX7_isDancerBelow_3 : decode cX7_isDancerBelow 3 = .ok (.aload_n 0, 1) := by decide +kernel
theorem dX7_isDancerBelow_4 : decode cX7_isDancerBelow 4 = .ok (.getfield 7, 3) := by decide +kernel
theorem dX7_isDancerBelow_7 : decode cX7_isDancerBelow 7 = .ok (.if_icmp .ge 38, 3) := by decide +kernel
theorem dX7_isDancerBelow_10 : decode cX7_isDancerBelow 10 = .ok (.iload_n 2, 1) := by decide +kernel
theorem dX7_isDancerBelow_11 : decode cX7_isDancerBelow 11 = .ok (.iload_n 1, 1) := by decide +kernel
theorem dX7_isDancerBelow_12 : decode cX7_isDancerBelow 12 = .ok (.if_icmp .eq 27, 3) := by decide +kernel
theorem dX7_isDancerBelow_15 : decode cX7_isDancerBelow 15 = .ok (.aload_n 0, 1) := by decide +kernel
theorem dX7_isDancerBelow_16 : decode cX7_isDancerBelow 16 = .ok (.getfield 28, 3) := by decide +kernel
theorem dX7_isDancerBelow_19 : decode cX7_isDancerBelow 19 = .ok (.iload_n 2, 1) := by decide +kernel
theorem dX7_isDancerBelow_20 : decode cX7_isDancerBelow 20 = .ok (.iaload, 1) := by decide +kernel
theorem dX7_isDancerBelow_21 : decode cX7_isDancerBelow 21 = .ok (.iconst 5, 1) := by decide +kernel
theorem dX7_isDancerBelow_22 : decode cX7_isDancerBelow 22 = .ok (.if_icmp .ne 17, 3) := by decide +kernel
theorem dX7_isDancerBelow_25 : decode cX7_isDancerBelow 25 = .ok (.aload_n 0, 1) := by decide +kernel
theorem dX7_isDancerBelow_26 : decode cX7_isDancerBelow 26 = .ok (.aload_n 0, 1) := by decide +kernel
theorem dX7_isDancerBelow_27 : decode cX7_isDancerBelow 27 = .ok (.getfield 13, 3) := by decide +kernel
theorem dX7_isDancerBelow_30 : decode cX7_isDancerBelow 30 = .ok (.iload_n 2, 1) := by decide +kernel
theorem dX7_isDancerBelow_31 : decode cX7_isDancerBelow 31 = .ok (.invokevirtual 233, 3) := by decide +kernel
theorem dX7_isDancerBelow_34 : decode cX7_isDancerBelow 34 = .ok (.ifCond .ne 5, 3) := by decide +kernel
theorem dX7_isDancerBelow_37 : decode cX7_isDancerBelow 37 = .ok (.iconst 1, 1) := by decide +kernel
theorem dX7_isDancerBelow_38 : decode cX7_isDancerBelow 38 = .ok (.ireturn, 1) := by decide +kernel
theorem dX7_isDancerBelow_39 : decode cX7_isDancerBelow 39 = .ok (.iinc 2 1, 3) := by decide +kernel
theorem dX7_isDancerBelow_42 : decode cX7_isDancerBelow 42 = .ok (.goto (-40), 3) := by decide +kernel
theorem dX7_isDancerBelow_45 : decode cX7_isDancerBelow 45 = .ok (.iconst 0, 1) := by decide +kernel
theorem dX7_isDancerBelow_46 : decode cX7_isDancerBelow 46 = .ok (.ireturn, 1) := by decide +kernel
theorem dX7_noise_0 : decode cX7_noise 0 = .ok (.aload_n 0, 1) := by decide +kernel
theorem dX7_noise_1 : decode cX7_noise 1 = .ok (.iload_n 1, 1) := by decide +kernel
theorem dX7_noise_2 : decode cX7_noise 2 = .ok (.invokevirtual 311, 3) := by decide +kernel
theorem dX7_noise_5 : decode cX7_noise 5 = .ok (.istore_n 2, 1) := by decide +kernel
theorem dX7_noise_6 : decode cX7_noise 6 = .ok (.aload_n 0, 1) := by decide +kernel
theorem dX7_noise_7 : decode cX7_noise 7 = .ok (.getfield 25, 3) := by decide +kernel
theorem dX7_noise_10 : decode cX7_noise 10 = .ok (.bipush 7, 2) := by decide +kernel
theorem dX7_noise_12 : decode cX7_noise 12 = .ok (.irem, 1) := by decide +kernel
theorem dX7_noise_13 : decode cX7_noise 13 = .ok (.ifCond .ne 7, 3) := by decide +kernel
theorem dX7_noise_16 : decode cX7_noise 16 = .ok (.iconst 0, 1) := by decide +kernel
theorem dX7_noise_17 : decode cX7_noise 17 = .ok (.goto 4, 3) := by decide +kernel
theorem dX7_noise_20 : decode cX7_noise 20 = .ok (.iload_n 2, 1) := by decide +kernel
theorem dX7_noise_21 : decode cX7_noise 21 = .ok (.istore_n 3, 1) := by decide +kernel
theorem dX7_noise_22 : decode cX7_noise 22 = .ok (.aload_n 0, 1) := by decide +kernel
theorem dX7_noise_23 : decode cX7_noise 23 = .ok (.getfield 28, 3) := by decide +kernel
theorem dX7_noise_26 : decode cX7_noise 26 = .ok (.iload_n 1, 1) := by decide +kernel
theorem dX7_noise_27 : decode cX7_noise 27 = .ok (.iaload, 1) := by decide +kernel
theorem dX7_noise_28 : decode cX7_noise 28 = .ok (.tableswitch 121 1 6 #[40, 49, 55, 57, 79, 103], 40) := by decide +kernel
theorem dX7_noise_68 : decode cX7_noise 68 = .ok (.iload_n 2, 1) := by decide +kernel
theorem dX7_noise_69 : decode cX7_noise 69 = .ok (.aload_n 0, 1) := by decide +kernel
theorem dX7_noise_70 : decode cX7_noise 70 = .ok (.getfield 32, 3) := by decide +kernel
theorem dX7_noise_73 : decode cX7_noise 73 = .ok (.iload_n 1, 1) := by decide +kernel
theorem dX7_noise_74 : decode cX7_noise 74 = .ok (.iaload, 1) := by decide +kernel
theorem dX7_noise_75 : decode cX7_noise 75 = .ok (.iadd, 1) := by decide +kernel
theorem dX7_noise_76 : decode cX7_noise 76 = .ok (.ireturn, 1) := by decide +kernel
theorem dX7_noise_77 : decode cX7_noise 77 = .ok (.iload_n 2, 1) := by decide +kernel
theorem dX7_noise_78 : decode cX7_noise 78 = .ok (.iconst 2, 1) := by decide +kernel
theorem dX7_noise_79 : decode cX7_noise 79 = .ok (.idiv, 1) := by decide +kernel
theorem dX7_noise_80 : decode cX7_noise 80 = .ok (.iconst 3, 1) := by decide +kernel
theorem dX7_noise_81 : decode cX7_noise 81 = .ok (.iadd, 1) := by decide +kernel
theorem dX7_noise_82 : decode cX7_noise 82 = .ok (.ireturn, 1) := by decide +kernel
theorem dX7_noise_83 : decode cX7_noise 83 = .ok (.iload_n 3, 1) := by decide +kernel
theorem dX7_noise_84 : decode cX7_noise 84 = .ok (.ireturn, 1) := by decide +kernel
theorem dX7_noise_85 : decode cX7_noise 85 = .ok (.iload_n 2, 1) := by decide +kernel
theorem dX7_noise_86 : decode cX7_noise 86 = .ok (.aload_n 0, 1) := by decide +kernel
theorem dX7_noise_87 : decode cX7_noise 87 = .ok (.getfield 32, 3) := by decide +kernel
theorem dX7_noise_90 : decode cX7_noise 90 = .ok (.iload_n 1, 1) := by decide +kernel
theorem dX7_noise_91 : decode cX7_noise 91 = .ok (.iaload, 1) := by decide +kernel
theorem dX7_noise_92 : decode cX7_noise 92 = .ok (.iadd, 1) := by decide +kernel
theorem dX7_noise_93 : decode cX7_noise 93 = .ok (.aload_n 0, 1) := by decide +kernel
theorem dX7_noise_94 : decode cX7_noise 94 = .ok (.aload_n 0, 1) := by decide +kernel
theorem dX7_noise_95 : decode cX7_noise 95 = .ok (.getfield 38, 3) := by decide +kernel
theorem dX7_noise_98 : decode cX7_noise 98 = .ok (.iload_n 1, 1) := by decide +kernel
theorem dX7_noise_99 : decode cX7_noise 99 = .ok (.iaload, 1) := by decide +kernel
theorem dX7_noise_100 : decode cX7_noise 100 = .ok (.bipush 9, 2) := by decide +kernel
theorem dX7_noise_102 : decode cX7_noise 102 = .ok (.invokevirtual 314, 3) := by decide +kernel
theorem dX7_noise_105 : decode cX7_noise 105 = .ok (.isub, 1) := by decide +kernel
theorem dX7_noise_106 : decode cX7_noise 106 = .ok (.ireturn, 1) := by decide +kernel
theorem dX7_noise_107 : decode cX7_noise 107 = .ok (.aload_n 0, 1) := by decide +kernel
theorem dX7_noise_108 : decode cX7_noise 108 = .ok (.iload_n 1, 1) := by decide +kernel
theorem dX7_noise_109 : decode cX7_noise 109 = .ok (.invokevirtual 317, 3) := by decide +kernel
theorem dX7_noise_112 : decode cX7_noise 112 = .ok (.ifCond .eq 13, 3) := by decide +kernel
theorem dX7_noise_115 : decode cX7_noise 115 = .ok (.iconst 2, 1) := by decide +kernel
theorem dX7_noise_116 : decode cX7_noise 116 = .ok (.iload_n 2, 1) := by decide +kernel
theorem dX7_noise_117 : decode cX7_noise 117 = .ok (.iconst 2, 1) := by decide +kernel
theorem dX7_noise_118 : decode cX7_noise 118 = .ok (.idiv, 1) := by decide +kernel
theorem dX7_noise_119 : decode cX7_noise 119 = .ok (.iconst 3, 1) := by decide +kernel
theorem dX7_noise_120 : decode cX7_noise 120 = .ok (.iadd, 1) := by decide +kernel
theorem dX7_noise_121 : decode cX7_noise 121 = .ok (.imul, 1) := by decide +kernel
theorem dX7_noise_122 : decode cX7_noise 122 = .ok (.goto 8, 3) := by decide +kernel
theorem dX7_noise_125 : decode cX7_noise 125 = .ok (.iload_n 2, 1) := by decide +kernel
theorem dX7_noise_126 : decode cX7_noise 126 = .ok (.iconst 2, 1) := by decide +kernel
theorem dX7_noise_127 : decode cX7_noise 127 = .ok (.idiv, 1) := by decide +kernel
theorem dX7_noise_128 : decode cX7_noise 128 = .ok (.iconst 3, 1) := by decide +kernel
theorem dX7_noise_129 : decode cX7_noise 129 = .ok (.iadd, 1) := by decide +kernel
theorem dX7_noise_130 : decode cX7_noise 130 = .ok (.ireturn, 1) := by decide +kernel
theorem dX7_noise_131 : decode cX7_noise 131 = .ok (.iload_n 3, 1) := by decide +kernel
theorem dX7_noise_132 : decode cX7_noise 132 = .ok (.aload_n 0, 1) := by decide +kernel
theorem dX7_noise_133 : decode cX7_noise 133 = .ok (.getfield 41, 3) := by decide +kernel
theorem dX7_noise_136 : decode cX7_noise 136 = .ok (.iconst 4, 1) := by decide +kernel
theorem dX7_noise_137 : decode cX7_noise 137 = .ok (.iload_n 1, 1) := by decide +kernel
theorem dX7_noise_138 : decode cX7_noise 138 = .ok (.imul, 1) := by decide +kernel
theorem dX7_noise_139 : decode cX7_noise 139 = .ok (.aload_n 0, 1) := by decide +kernel
theorem dX7_noise_140 : decode cX7_noise 140 = .ok (.getfield 25, 3) := by decide +kernel
theorem dX7_noise_143 : decode cX7_noise 143 = .ok (.iconst 4, 1) := by decide +kernel
theorem dX7_noise_144 : decode cX7_noise 144 = .ok (.irem, 1) := by decide +kernel
theorem dX7_noise_145 : decode cX7_noise 145 = .ok (.iadd, 1) := by decide +kernel
theorem dX7_noise_146 : decode cX7_noise 146 = .ok (.iaload, 1) := by decide +kernel
theorem dX7_noise_147 : decode cX7_noise 147 = .ok (.iadd, 1) := by decide +kernel
theorem dX7_noise_148 : decode cX7_noise 148 = .ok (.ireturn, 1) := by decide +kernel
theorem dX7_noise_149 : decode cX7_noise 149 = .ok (.iload_n 2, 1) := by decide +kernel
theorem dX7_noise_150 : decode cX7_noise 150 = .ok (.ireturn, 1) := by decide +kernel
theorem dX7_heardOf_0 : decode cX7_heardOf 0 = .ok (.aload_n 0, 1) := by decide +kernel
theorem dX7_heardOf_1 : decode cX7_heardOf 1 = .ok (.iload_n 1, 1) := by decide +kernel
theorem dX7_heardOf_2 : decode cX7_heardOf 2 = .ok (.invokevirtual 320, 3) := by decide +kernel
theorem dX7_heardOf_5 : decode cX7_heardOf 5 = .ok (.istore_n 2, 1) := by decide +kernel
theorem dX7_heardOf_6 : decode cX7_heardOf 6 = .ok (.iload_n 2, 1) := by decide +kernel
theorem dX7_heardOf_7 : decode cX7_heardOf 7 = .ok (.ifCond .ge 7, 3) := by decide +kernel
theorem dX7_heardOf_10 : decode cX7_heardOf 10 = .ok (.iconst 0, 1) := by decide +kernel
theorem dX7_heardOf_11 : decode cX7_heardOf 11 = .ok (.goto 4, 3) := by decide +kernel
theorem dX7_heardOf_14 : decode cX7_heardOf 14 = .ok (.iload_n 2, 1) := by decide +kernel
theorem dX7_heardOf_15 : decode cX7_heardOf 15 = .ok (.ireturn, 1) := by decide +kernel
theorem dX7_sound_0 : decode cX7_sound 0 = .ok (.iconst 0, 1) := by decide +kernel
theorem dX7_sound_1 : decode cX7_sound 1 = .ok (.istore_n 1, 1) := by decide +kernel
theorem dX7_sound_2 : decode cX7_sound 2 = .ok (.iconst 0, 1) := by decide +kernel
theorem dX7_sound_3 : decode cX7_sound 3 = .ok (.istore_n 2, 1) := by decide +kernel
theorem dX7_sound_4 : decode cX7_sound 4 = .ok (.iload_n 2, 1) := by decide +kernel
theorem dX7_sound_5 : decode cX7_sound 5 = .ok (.aload_n 0, 1) := by decide +kernel
theorem dX7_sound_6 : decode cX7_sound 6 = .ok (.getfield 7, 3) := by decide +kernel
theorem dX7_sound_9 : decode cX7_sound 9 = .ok (.if_icmp .ge 33, 3) := by decide +kernel
theorem dX7_sound_12 : decode cX7_sound 12 = .ok (.iload_n 1, 1) := by decide +kernel
theorem dX7_sound_13 : decode cX7_sound 13 = .ok (.aload_n 0, 1) := by decide +kernel
theorem dX7_sound_14 : decode cX7_sound 14 = .ok (.aload_n 0, 1) := by decide +kernel
theorem dX7_sound_15 : decode cX7_sound 15 = .ok (.getfield 13, 3) := by decide +kernel
theorem dX7_sound_18 : decode cX7_sound 18 = .ok (.iload_n 2, 1) := by decide +kernel
theorem dX7_sound_19 : decode cX7_sound 19 = .ok (.invokevirtual 233, 3) := by decide +kernel
theorem dX7_sound_22 : decode cX7_sound 22 = .ok (.ifCond .eq 7, 3) := by decide +kernel
theorem dX7_sound_25 : decode cX7_sound 25 = .ok (.iconst 0, 1) := by decide +kernel
theorem dX7_sound_26 : decode cX7_sound 26 = .ok (.goto 8, 3) := by decide +kernel
theorem dX7_sound_29 : decode cX7_sound 29 = .ok (.aload_n 0, 1) := by decide +kernel
theorem dX7_sound_30 : decode cX7_sound 30 = .ok (.iload_n 2, 1) := by decide +kernel
theorem dX7_sound_31 : decode cX7_sound 31 = .ok (.invokevirtual 323, 3) := by decide +kernel
theorem dX7_sound_34 : decode cX7_sound 34 = .ok (.iadd, 1) := by decide +kernel
theorem dX7_sound_35 : decode cX7_sound 35 = .ok (.istore_n 1, 1) := by decide +kernel
theorem dX7_sound_36 : decode cX7_sound 36 = .ok (.iinc 2 1, 3) := by decide +kernel
theorem dX7_sound_39 : decode cX7_sound 39 = .ok (.goto (-35), 3) := by decide +kernel
theorem dX7_sound_42 : decode cX7_sound 42 = .ok (.iload_n 1, 1) := by decide +kernel
theorem dX7_sound_43 : decode cX7_sound 43 = .ok (.ireturn, 1) := by decide +kernel
theorem dX7_goDay_0 : decode cX7_goDay 0 = .ok (.aload_n 0, 1) := by decide +kernel
theorem dX7_goDay_1 : decode cX7_goDay 1 = .ok (.invokevirtual 326, 3) := by decide +kernel
theorem dX7_goDay_4 : decode cX7_goDay 4 = .ok (.istore_n 1, 1) := by decide +kernel
theorem dX7_goDay_5 : decode cX7_goDay 5 = .ok (.iload_n 1, 1) := by decide +kernel
theorem dX7_goDay_6 : decode cX7_goDay 6 = .ok (.ifCond .ne 21, 3) := by decide +kernel
theorem dX7_goDay_9 : decode cX7_goDay 9 = .ok (.aload_n 0, 1) := by decide +kernel
theorem dX7_goDay_10 : decode cX7_goDay 10 = .ok (.aload_n 0, 1) := by decide +kernel
theorem dX7_goDay_11 : decode cX7_goDay 11 = .ok (.aload_n 0, 1) := by decide +kernel
theorem dX7_goDay_12 : decode cX7_goDay 12 = .ok (.getfield 22, 3) := by decide +kernel
theorem dX7_goDay_15 : decode cX7_goDay 15 = .ok (.iconst 1, 1) := by decide +kernel
theorem dX7_goDay_16 : decode cX7_goDay 16 = .ok (.iadd, 1) := by decide +kernel
theorem dX7_goDay_17 : decode cX7_goDay 17 = .ok (.aload_n 0, 1) := by decide +kernel
theorem dX7_goDay_18 : decode cX7_goDay 18 = .ok (.getfield 99, 3) := by decide +kernel
theorem dX7_goDay_21 : decode cX7_goDay 21 = .ok (.invokevirtual 314, 3) := by decide +kernel
theorem dX7_goDay_24 : decode cX7_goDay 24 = .ok (.putfield 22, 3) := by decide +kernel
theorem dX7_goDay_27 : decode cX7_goDay 27 = .ok (.iload_n 1, 1) := by decide +kernel
theorem dX7_goDay_28 : decode cX7_goDay 28 = .ok (.ifCond .ne 13, 3) := by decide +kernel
theorem dX7_goDay_31 : decode cX7_goDay 31 = .ok (.aload_n 0, 1) := by decide +kernel
theorem dX7_goDay_32 : decode cX7_goDay 32 = .ok (.getfield 16, 3) := by decide +kernel
theorem dX7_goDay_35 : decode cX7_goDay 35 = .ok (.bipush 50, 2) := by decide +kernel
theorem dX7_goDay_37 : decode cX7_goDay 37 = .ok (.iadd, 1) := by decide +kernel
theorem dX7_goDay_38 : decode cX7_goDay 38 = .ok (.goto 14, 3) := by decide +kernel
theorem dX7_goDay_41 : decode cX7_goDay 41 = .ok (.aload_n 0, 1) := by decide +kernel
theorem dX7_goDay_42 : decode cX7_goDay 42 = .ok (.getfield 16, 3) := by decide +kernel
theorem dX7_goDay_45 : decode cX7_goDay 45 = .ok (.iload_n 1, 1) := by decide +kernel
theorem dX7_goDay_46 : decode cX7_goDay 46 = .ok (.iadd, 1) := by decide +kernel
theorem dX7_goDay_47 : decode cX7_goDay 47 = .ok (.aload_n 0, 1) := by decide +kernel
theorem dX7_goDay_48 : decode cX7_goDay 48 = .ok (.invokevirtual 329, 3) := by decide +kernel
theorem dX7_goDay_51 : decode cX7_goDay 51 = .ok (.isub, 1) := by decide +kernel
theorem dX7_goDay_52 : decode cX7_goDay 52 = .ok (.istore_n 2, 1) := by decide +kernel
theorem dX7_goDay_53 : decode cX7_goDay 53 = .ok (.aload_n 0, 1) := by decide +kernel
theorem dX7_goDay_54 : decode cX7_goDay 54 = .ok (.iload_n 2, 1) := by decide +kernel
theorem dX7_goDay_55 : decode cX7_goDay 55 = .ok (.ifCond .ge 7, 3) := by decide +kernel
theorem dX7_goDay_58 : decode cX7_goDay 58 = .ok (.iconst 0, 1) := by decide +kernel
theorem dX7_goDay_59 : decode cX7_goDay 59 = .ok (.goto 11, 3) := by decide +kernel
theorem dX7_goDay_62 : decode cX7_goDay 62 = .ok (.aload_n 0, 1) := by decide +kernel
theorem dX7_goDay_63 : decode cX7_goDay 63 = .ok (.iload_n 2, 1) := by decide +kernel
theorem dX7_goDay_64 : decode cX7_goDay 64 = .ok (.sipush 9999, 3) := by decide +kernel
theorem dX7_goDay_67 : decode cX7_goDay 67 = .ok (.invokevirtual 314, 3) := by decide +kernel
theorem dX7_goDay_70 : decode cX7_goDay 70 = .ok (.putfield 16, 3) := by decide +kernel
theorem dX7_goDay_73 : decode cX7_goDay 73 = .ok (.aload_n 0, 1) := by decide +kernel
theorem dX7_goDay_74 : decode cX7_goDay 74 = .ok (.getfield 16, 3) := by decide +kernel
theorem dX7_goDay_77 : decode cX7_goDay 77 = .ok (.bipush 100, 2) := by decide +kernel
theorem dX7_goDay_79 : decode cX7_goDay 79 = .ok (.if_icmp .lt 31, 3) := by decide +kernel
theorem dX7_goDay_82 : decode cX7_goDay 82 = .ok (.aload_n 0, 1) := by decide +kernel
theorem dX7_goDay_83 : decode cX7_goDay 83 = .ok (.aload_n 0, 1) := by decide +kernel
theorem dX7_goDay_84 : decode cX7_goDay 84 = .ok (.aload_n 0, 1) := by decide +kernel
theorem dX7_goDay_85 : decode cX7_goDay 85 = .ok (.getfield 19, 3) := by decide +kernel
theorem dX7_goDay_88 : decode cX7_goDay 88 = .ok (.iconst 1, 1) := by decide +kernel
theorem dX7_goDay_89 : decode cX7_goDay 89 = .ok (.iadd, 1) := by decide +kernel
theorem dX7_goDay_90 : decode cX7_goDay 90 = .ok (.aload_n 0, 1) := by decide +kernel
theorem dX7_goDay_91 : decode cX7_goDay 91 = .ok (.getfield 99, 3) := by decide +kernel
theorem dX7_goDay_94 : decode cX7_goDay 94 = .ok (.invokevirtual 314, 3) := by decide +kernel
theorem dX7_goDay_97 : decode cX7_goDay 97 = .ok (.putfield 19, 3) := by decide +kernel
theorem dX7_goDay_100 : decode cX7_goDay 100 = .ok (.aload_n 0, 1) := by decide +kernel
theorem dX7_goDay_101 : decode cX7_goDay 101 = .ok (.dup, 1) := by decide +kernel
theorem dX7_goDay_102 : decode cX7_goDay 102 = .ok (.getfield 16, 3) := by decide +kernel
theorem dX7_goDay_105 : decode cX7_goDay 105 = .ok (.iconst 2, 1) := by decide +kernel
theorem dX7_goDay_106 : decode cX7_goDay 106 = .ok (.idiv, 1) := by decide +kernel
theorem dX7_goDay_107 : decode cX7_goDay 107 = .ok (.putfield 16, 3) := by decide +kernel
theorem dX7_goDay_110 : decode cX7_goDay 110 = .ok (.iconst 0, 1) := by decide +kernel
theorem dX7_goDay_111 : decode cX7_goDay 111 = .ok (.istore_n 3, 1) := by decide +kernel
theorem dX7_goDay_112 : decode cX7_goDay 112 = .ok (.iload_n 3, 1) := by decide +kernel
theorem dX7_goDay_113 : decode cX7_goDay 113 = .ok (.aload_n 0, 1) := by decide +kernel
theorem dX7_goDay_114 : decode cX7_goDay 114 = .ok (.getfield 7, 3) := by decide +kernel
theorem dX7_goDay_117 : decode cX7_goDay 117 = .ok (.if_icmp .ge 47, 3) := by decide +kernel
theorem dX7_goDay_120 : decode cX7_goDay 120 = .ok (.aload_n 0, 1) := by decide +kernel
theorem dX7_goDay_121 : decode cX7_goDay 121 = .ok (.getfield 38, 3) := by decide +kernel
theorem dX7_goDay_124 : decode cX7_goDay 124 = .ok (.iload_n 3, 1) := by decide +kernel
theorem dX7_goDay_125 : decode cX7_goDay 125 = .ok (.aload_n 0, 1) := by decide +kernel
theorem dX7_goDay_126 : decode cX7_goDay 126 = .ok (.aload_n 0, 1) := by decide +kernel
theorem dX7_goDay_127 : decode cX7_goDay 127 = .ok (.getfield 13, 3) := by decide +kernel
theorem dX7_goDay_130 : decode cX7_goDay 130 = .ok (.iload_n 3, 1) := by decide +kernel
theorem dX7_goDay_131 : decode cX7_goDay 131 = .ok (.invokevirtual 233, 3) := by decide +kernel
theorem dX7_goDay_134 : decode cX7_goDay 134 = .ok (.ifCond .eq 7, 3) := by decide +kernel
theorem dX7_goDay_137 : decode cX7_goDay 137 = .ok (.iconst 0, 1) := by decide +kernel
theorem dX7_goDay_138 : decode cX7_goDay 138 = .ok (.goto 19, 3) := by decide +kernel
theorem dX7_goDay_141 : decode cX7_goDay 141 = .ok (.aload_n 0, 1) := by decide +kernel
theorem dX7_goDay_142 : decode cX7_goDay 142 = .ok (.aload_n 0, 1) := by decide +kernel
theorem dX7_goDay_143 : decode cX7_goDay 143 = .ok (.getfield 38, 3) := by decide +kernel
theorem dX7_goDay_146 : decode cX7_goDay 146 = .ok (.iload_n 3, 1) := by decide +kernel
theorem dX7_goDay_147 : decode cX7_goDay 147 = .ok (.iaload, 1) := by decide +kernel
theorem dX7_goDay_148 : decode cX7_goDay 148 = .ok (.iconst 1, 1) := by decide +kernel
theorem dX7_goDay_149 : decode cX7_goDay 149 = .ok (.iadd, 1) := by decide +kernel
theorem dX7_goDay_150 : decode cX7_goDay 150 = .ok (.aload_n 0, 1) := by decide +kernel
theorem dX7_goDay_151 : decode cX7_goDay 151 = .ok (.getfield 99, 3) := by decide +kernel
theorem dX7_goDay_154 : decode cX7_goDay 154 = .ok (.invokevirtual 314, 3) := by decide +kernel
theorem dX7_goDay_157 : decode cX7_goDay 157 = .ok (.iastore, 1) := by decide +kernel
theorem dX7_goDay_158 : decode cX7_goDay 158 = .ok (.iinc 3 1, 3) := by decide +kernel
theorem dX7_goDay_161 : decode cX7_goDay 161 = .ok (.goto (-49), 3) := by decide +kernel
theorem dX7_goDay_164 : decode cX7_goDay 164 = .ok (.aload_n 0, 1) := by decide +kernel
theorem dX7_goDay_165 : decode cX7_goDay 165 = .ok (.dup, 1) := by decide +kernel
theorem dX7_goDay_166 : decode cX7_goDay 166 = .ok (.getfield 25, 3) := by decide +kernel
theorem dX7_goDay_169 : decode cX7_goDay 169 = .ok (.iconst 1, 1) := by decide +kernel
theorem dX7_goDay_170 : decode cX7_goDay 170 = .ok (.iadd, 1) := by decide +kernel
theorem dX7_goDay_171 : decode cX7_goDay 171 = .ok (.putfield 25, 3) := by decide +kernel
theorem dX7_goDay_174 : decode cX7_goDay 174 = .ok (.return_, 1) := by decide +kernel
theorem dX7_goDays_0 : decode cX7_goDays 0 = .ok (.iconst 0, 1) := by decide +kernel
theorem dX7_goDays_1 : decode cX7_goDays 1 = .ok (.istore_n 2, 1) := by decide +kernel
theorem dX7_goDays_2 : decode cX7_goDays 2 = .ok (.iload_n 2, 1) := by decide +kernel
theorem dX7_goDays_3 : decode cX7_goDays 3 = .ok (.iload_n 1, 1) := by decide +kernel
theorem dX7_goDays_4 : decode cX7_goDays 4 = .ok (.if_icmp .ge 13, 3) := by decide +kernel
theorem dX7_goDays_7 : decode cX7_goDays 7 = .ok (.aload_n 0, 1) := by decide +kernel
theorem dX7_goDays_8 : decode cX7_goDays 8 = .ok (.invokevirtual 332, 3) := by decide +kernel
theorem dX7_goDays_11 : decode cX7_goDays 11 = .ok (.iinc 2 1, 3) := by decide +kernel
theorem dX7_goDays_14 : decode cX7_goDays 14 = .ok (.goto (-12), 3) := by decide +kernel
theorem dX7_goDays_17 : decode cX7_goDays 17 = .ok (.return_, 1) := by decide +kernel
theorem dX7_pass_0 : decode cX7_pass 0 = .ok (.aload_n 0, 1) := by decide +kernel
theorem dX7_pass_1 : decode cX7_pass 1 = .ok (.iload_n 1, 1) := by decide +kernel
theorem dX7_pass_2 : decode cX7_pass 2 = .ok (.invokevirtual 335, 3) := by decide +kernel
theorem dX7_pass_5 : decode cX7_pass 5 = .ok (.ifCond .ne 6, 3) := by decide +kernel
theorem dX7_pass_8 : decode cX7_pass 8 = .ok (.bipush (-2), 2) := by decide +kernel
theorem dX7_pass_10 : decode cX7_pass 10 = .ok (.ireturn, 1) := by decide +kernel
theorem dX7_pass_11 : decode cX7_pass 11 = .ok (.aload_n 0, 1) := by decide +kernel
theorem dX7_pass_12 : decode cX7_pass 12 = .ok (.getfield 25, 3) := by decide +kernel
theorem dX7_pass_15 : decode cX7_pass 15 = .ok (.iload_n 1, 1) := by decide +kernel
theorem dX7_pass_16 : decode cX7_pass 16 = .ok (.iadd, 1) := by decide +kernel
theorem dX7_pass_17 : decode cX7_pass 17 = .ok (.sipush 9999, 3) := by decide +kernel
theorem dX7_pass_20 : decode cX7_pass 20 = .ok (.if_icmp .le 6, 3) := by decide +kernel
theorem dX7_pass_23 : decode cX7_pass 23 = .ok (.bipush (-3), 2) := by decide +kernel
theorem dX7_pass_25 : decode cX7_pass 25 = .ok (.ireturn, 1) := by decide +kernel
theorem dX7_pass_26 : decode cX7_pass 26 = .ok (.aload_n 0, 1) := by decide +kernel
theorem dX7_pass_27 : decode cX7_pass 27 = .ok (.iload_n 1, 1) := by decide +kernel
theorem dX7_pass_28 : decode cX7_pass 28 = .ok (.invokevirtual 338, 3) := by decide +kernel
theorem dX7_pass_31 : decode cX7_pass 31 = .ok (.aload_n 0, 1) := by decide +kernel
theorem dX7_pass_32 : decode cX7_pass 32 = .ok (.getfield 25, 3) := by decide +kernel
theorem dX7_pass_35 : decode cX7_pass 35 = .ok (.ireturn, 1) := by decide +kernel
theorem dX7_save_0 : decode cX7_save 0 = .ok (.aload_n 0, 1) := by decide +kernel
theorem dX7_save_1 : decode cX7_save 1 = .ok (.ldc_w 341, 3) := by decide +kernel
theorem dX7_save_4 : decode cX7_save 4 = .ok (.putfield 99, 3) := by decide +kernel
theorem dX7_save_7 : decode cX7_save 7 = .ok (.aload_n 0, 1) := by decide +kernel
theorem dX7_save_8 : decode cX7_save 8 = .ok (.aload_n 0, 1) := by decide +kernel
theorem dX7_save_9 : decode cX7_save 9 = .ok (.getfield 13, 3) := by decide +kernel
theorem dX7_save_12 : decode cX7_save 12 = .ok (.putfield 102, 3) := by decide +kernel
theorem dX7_save_15 : decode cX7_save 15 = .ok (.aload_n 0, 1) := by decide +kernel
theorem dX7_save_16 : decode cX7_save 16 = .ok (.aload_n 0, 1) := by decide +kernel
theorem dX7_save_17 : decode cX7_save 17 = .ok (.getfield 16, 3) := by decide +kernel
theorem dX7_save_20 : decode cX7_save 20 = .ok (.putfield 105, 3) := by decide +kernel
theorem dX7_save_23 : decode cX7_save 23 = .ok (.aload_n 0, 1) := by decide +kernel
theorem dX7_save_24 : decode cX7_save 24 = .ok (.aload_n 0, 1) := by decide +kernel
theorem dX7_save_25 : decode cX7_save 25 = .ok (.getfield 19, 3) := by decide +kernel
theorem dX7_save_28 : decode cX7_save 28 = .ok (.putfield 108, 3) := by decide +kernel
theorem dX7_save_31 : decode cX7_save 31 = .ok (.aload_n 0, 1) := by decide +kernel
theorem dX7_save_32 : decode cX7_save 32 = .ok (.aload_n 0, 1) := by decide +kernel
theorem dX7_save_33 : decode cX7_save 33 = .ok (.getfield 22, 3) := by decide +kernel
theorem dX7_save_36 : decode cX7_save 36 = .ok (.putfield 111, 3) := by decide +kernel
theorem dX7_save_39 : decode cX7_save 39 = .ok (.aload_n 0, 1) := by decide +kernel
theorem dX7_save_40 : decode cX7_save 40 = .ok (.aload_n 0, 1) := by decide +kernel
theorem dX7_save_41 : decode cX7_save 41 = .ok (.getfield 25, 3) := by decide +kernel
theorem dX7_save_44 : decode cX7_save 44 = .ok (.putfield 114, 3) := by decide +kernel
theorem dX7_save_47 : decode cX7_save 47 = .ok (.iconst 0, 1) := by decide +kernel
theorem dX7_save_48 : decode cX7_save 48 = .ok (.istore_n 1, 1) := by decide +kernel
theorem dX7_save_49 : decode cX7_save 49 = .ok (.iload_n 1, 1) := by decide +kernel
theorem dX7_save_50 : decode cX7_save 50 = .ok (.bipush 6, 2) := by decide +kernel
theorem dX7_save_52 : decode cX7_save 52 = .ok (.if_icmp .ge 21, 3) := by decide +kernel
theorem dX7_save_55 : decode cX7_save 55 = .ok (.aload_n 0, 1) := by decide +kernel
theorem dX7_save_56 : decode cX7_save 56 = .ok (.getfield 117, 3) := by decide +kernel
theorem dX7_save_59 : decode cX7_save 59 = .ok (.iload_n 1, 1) := by decide +kernel
theorem dX7_save_60 : decode cX7_save 60 = .ok (.aload_n 0, 1) := by decide +kernel
theorem dX7_save_61 : decode cX7_save 61 = .ok (.getfield 38, 3) := by decide +kernel
theorem dX7_save_64 : decode cX7_save 64 = .ok (.iload_n 1, 1) := by decide +kernel
theorem dX7_save_65 : decode cX7_save 65 = .ok (.iaload, 1) := by decide +kernel
theorem dX7_save_66 : decode cX7_save 66 = .ok (.iastore, 1) := by decide +kernel
theorem dX7_save_67 : decode cX7_save 67 = .ok (.iinc 1 1, 3) := by decide +kernel
theorem dX7_save_70 : decode cX7_save 70 = .ok (.goto (-21), 3) := by decide +kernel
theorem dX7_save_73 : decode cX7_save 73 = .ok (.return_, 1) := by decide +kernel
theorem dX7_putBack_0 : decode cX7_putBack 0 = .ok (.aload_n 0, 1) := by decide +kernel
theorem dX7_putBack_1 : decode cX7_putBack 1 = .ok (.sipush 9999, 3) := by decide +kernel
theorem dX7_putBack_4 : decode cX7_putBack 4 = .ok (.putfield 99, 3) := by decide +kernel
theorem dX7_putBack_7 : decode cX7_putBack 7 = .ok (.aload_n 0, 1) := by decide +kernel
theorem dX7_putBack_8 : decode cX7_putBack 8 = .ok (.aload_n 0, 1) := by decide +kernel
theorem dX7_putBack_9 : decode cX7_putBack 9 = .ok (.getfield 102, 3) := by decide +kernel
theorem dX7_putBack_12 : decode cX7_putBack 12 = .ok (.putfield 13, 3) := by decide +kernel
theorem dX7_putBack_15 : decode cX7_putBack 15 = .ok (.aload_n 0, 1) := by decide +kernel
theorem dX7_putBack_16 : decode cX7_putBack 16 = .ok (.aload_n 0, 1) := by decide +kernel
theorem dX7_putBack_17 : decode cX7_putBack 17 = .ok (.getfield 105, 3) := by decide +kernel
theorem dX7_putBack_20 : decode cX7_putBack 20 = .ok (.putfield 16, 3) := by decide +kernel
theorem dX7_putBack_23 : decode cX7_putBack 23 = .ok (.aload_n 0, 1) := by decide +kernel
theorem dX7_putBack_24 : decode cX7_putBack 24 = .ok (.aload_n 0, 1) := by decide +kernel
theorem dX7_putBack_25 : decode cX7_putBack 25 = .ok (.getfield 108, 3) := by decide +kernel
theorem dX7_putBack_28 : decode cX7_putBack 28 = .ok (.putfield 19, 3) := by decide +kernel
theorem dX7_putBack_31 : decode cX7_putBack 31 = .ok (.aload_n 0, 1) := by decide +kernel
theorem dX7_putBack_32 : decode cX7_putBack 32 = .ok (.aload_n 0, 1) := by decide +kernel
theorem dX7_putBack_33 : decode cX7_putBack 33 = .ok (.getfield 111, 3) := by decide +kernel
theorem dX7_putBack_36 : decode cX7_putBack 36 = .ok (.putfield 22, 3) := by decide +kernel
theorem dX7_putBack_39 : decode cX7_putBack 39 = .ok (.aload_n 0, 1) := by decide +kernel
theorem dX7_putBack_40 : decode cX7_putBack 40 = .ok (.aload_n 0, 1) := by decide +kernel
theorem dX7_putBack_41 : decode cX7_putBack 41 = .ok (.getfield 114, 3) := by decide +kernel
theorem dX7_putBack_44 : decode cX7_putBack 44 = .ok (.putfield 25, 3) := by decide +kernel
theorem dX7_putBack_47 : decode cX7_putBack 47 = .ok (.iconst 0, 1) := by decide +kernel
theorem dX7_putBack_48 : decode cX7_putBack 48 = .ok (.istore_n 1, 1) := by decide +kernel
theorem dX7_putBack_49 : decode cX7_putBack 49 = .ok (.iload_n 1, 1) := by decide +kernel
theorem dX7_putBack_50 : decode cX7_putBack 50 = .ok (.bipush 6, 2) := by decide +kernel
theorem dX7_putBack_52 : decode cX7_putBack 52 = .ok (.if_icmp .ge 21, 3) := by decide +kernel
theorem dX7_putBack_55 : decode cX7_putBack 55 = .ok (.aload_n 0, 1) := by decide +kernel
theorem dX7_putBack_56 : decode cX7_putBack 56 = .ok (.getfield 38, 3) := by decide +kernel
theorem dX7_putBack_59 : decode cX7_putBack 59 = .ok (.iload_n 1, 1) := by decide +kernel
theorem dX7_putBack_60 : decode cX7_putBack 60 = .ok (.aload_n 0, 1) := by decide +kernel
theorem dX7_putBack_61 : decode cX7_putBack 61 = .ok (.getfield 117, 3) := by decide +kernel
theorem dX7_putBack_64 : decode cX7_putBack 64 = .ok (.iload_n 1, 1) := by decide +kernel
theorem dX7_putBack_65 : decode cX7_putBack 65 = .ok (.iaload, 1) := by decide +kernel
theorem dX7_putBack_66 : decode cX7_putBack 66 = .ok (.iastore, 1) := by decide +kernel
theorem dX7_putBack_67 : decode cX7_putBack 67 = .ok (.iinc 1 1, 3) := by decide +kernel
theorem dX7_putBack_70 : decode cX7_putBack 70 = .ok (.goto (-21), 3) := by decide +kernel
theorem dX7_putBack_73 : decode cX7_putBack 73 = .ok (.return_, 1) := by decide +kernel
theorem dX7_hushed_0 : decode cX7_hushed 0 = .ok (.aload_n 0, 1) := by decide +kernel
theorem dX7_hushed_1 : decode cX7_hushed 1 = .ok (.invokevirtual 342, 3) := by decide +kernel
theorem dX7_hushed_4 : decode cX7_hushed 4 = .ok (.iconst 0, 1) := by decide +kernel
theorem dX7_hushed_5 : decode cX7_hushed 5 = .ok (.istore_n 1, 1) := by decide +kernel
theorem dX7_hushed_6 : decode cX7_hushed 6 = .ok (.iload_n 1, 1) := by decide +kernel
theorem dX7_hushed_7 : decode cX7_hushed 7 = .ok (.bipush 61, 2) := by decide +kernel
theorem dX7_hushed_9 : decode cX7_hushed 9 = .ok (.if_icmp .ge 20, 3) := by decide +kernel
theorem dX7_hushed_12 : decode cX7_hushed 12 = .ok (.aload_n 0, 1) := by decide +kernel
theorem dX7_hushed_13 : decode cX7_hushed 13 = .ok (.invokevirtual 326, 3) := by decide +kernel
theorem dX7_hushed_16 : decode cX7_hushed 16 = .ok (.ifCond .eq 13, 3) := by decide +kernel
theorem dX7_hushed_19 : decode cX7_hushed 19 = .ok (.aload_n 0, 1) := by decide +kernel
theorem dX7_hushed_20 : decode cX7_hushed 20 = .ok (.invokevirtual 332, 3) := by decide +kernel
theorem dX7_hushed_23 : decode cX7_hushed 23 = .ok (.iinc 1 1, 3) := by decide +kernel
theorem dX7_hushed_26 : decode cX7_hushed 26 = .ok (.goto (-20), 3) := by decide +kernel
theorem dX7_hushed_29 : decode cX7_hushed 29 = .ok (.aload_n 0, 1) := by decide +kernel
theorem dX7_hushed_30 : decode cX7_hushed 30 = .ok (.invokevirtual 345, 3) := by decide +kernel
theorem dX7_hushed_33 : decode cX7_hushed 33 = .ok (.iload_n 1, 1) := by decide +kernel
theorem dX7_hushed_34 : decode cX7_hushed 34 = .ok (.bipush 61, 2) := by decide +kernel
theorem dX7_hushed_36 : decode cX7_hushed 36 = .ok (.if_icmp .ge 7, 3) := by decide +kernel
theorem dX7_hushed_39 : decode cX7_hushed 39 = .ok (.iload_n 1, 1) := by decide +kernel
theorem dX7_hushed_40 : decode cX7_hushed 40 = .ok (.goto 5, 3) := by decide +kernel
theorem dX7_hushed_43 : decode cX7_hushed 43 = .ok (.bipush (-5), 2) := by decide +kernel
theorem dX7_hushed_45 : decode cX7_hushed 45 = .ok (.ireturn, 1) := by decide +kernel
theorem dX7_below_0 : decode cX7_below 0 = .ok (.iconst 1, 1) := by decide +kernel
theorem dX7_below_1 : decode cX7_below 1 = .ok (.aload_n 0, 1) := by decide +kernel
theorem dX7_below_2 : decode cX7_below 2 = .ok (.getfield 7, 3) := by decide +kernel
theorem dX7_below_5 : decode cX7_below 5 = .ok (.ishl, 1) := by decide +kernel
theorem dX7_below_6 : decode cX7_below 6 = .ok (.iconst 1, 1) := by decide +kernel
theorem dX7_below_7 : decode cX7_below 7 = .ok (.isub, 1) := by decide +kernel
theorem dX7_below_8 : decode cX7_below 8 = .ok (.aload_n 0, 1) := by decide +kernel
theorem dX7_below_9 : decode cX7_below 9 = .ok (.getfield 13, 3) := by decide +kernel
theorem dX7_below_12 : decode cX7_below 12 = .ok (.iconst (-1), 1) := by decide +kernel
theorem dX7_below_13 : decode cX7_below 13 = .ok (.ixor, 1) := by decide +kernel
theorem dX7_below_14 : decode cX7_below 14 = .ok (.iand, 1) := by decide +kernel
theorem dX7_below_15 : decode cX7_below 15 = .ok (.ireturn, 1) := by decide +kernel
theorem dX7_watchApart_0 : decode cX7_watchApart 0 = .ok (.iconst 0, 1) := by decide +kernel
theorem dX7_watchApart_1 : decode cX7_watchApart 1 = .ok (.istore_n 2, 1) := by decide +kernel
theorem dX7_watchApart_2 : decode cX7_watchApart 2 = .ok (.iconst 0, 1) := by decide +kernel
theorem dX7_watchApart_3 : decode cX7_watchApart 3 = .ok (.istore_n 3, 1) := by decide +kernel
theorem dX7_watchApart_4 : decode cX7_watchApart 4 = .ok (.iload_n 3, 1) := by decide +kernel
theorem dX7_watchApart_5 : decode cX7_watchApart 5 = .ok (.aload_n 0, 1) := by decide +kernel
theorem dX7_watchApart_6 : decode cX7_watchApart 6 = .ok (.getfield 7, 3) := by decide +kernel
theorem dX7_watchApart_9 : decode cX7_watchApart 9 = .ok (.if_icmp .ge 50, 3) := by decide +kernel
theorem dX7_watchApart_12 : decode cX7_watchApart 12 = .ok (.aload_n 0, 1) := by decide +kernel
theorem dX7_watchApart_13 : decode cX7_watchApart 13 = .ok (.aload_n 0, 1) := by decide +kernel
theorem dX7_watchApart_14 : decode cX7_watchApart 14 = .ok (.getfield 13, 3) := by decide +kernel
theorem dX7_watchApart_17 : decode cX7_watchApart 17 = .ok (.iload_n 3, 1) := by decide +kernel
theorem dX7_watchApart_18 : decode cX7_watchApart 18 = .ok (.invokevirtual 233, 3) := by decide +kernel
theorem dX7_watchApart_21 : decode cX7_watchApart 21 = .ok (.ifCond .eq 6, 3) := by decide +kernel
theorem dX7_watchApart_24 : decode cX7_watchApart 24 = .ok (.goto 29, 3) := by decide +kernel
theorem dX7_watchApart_27 : decode cX7_watchApart 27 = .ok (.iload_n 2, 1) := by decide +kernel
theorem dX7_watchApart_28 : decode cX7_watchApart 28 = .ok (.aload_n 0, 1) := by decide +kernel
theorem dX7_watchApart_29 : decode cX7_watchApart 29 = .ok (.iload_n 1, 1) := by decide +kernel
theorem dX7_watchApart_30 : decode cX7_watchApart 30 = .ok (.iload_n 3, 1) := by decide +kernel
theorem dX7_watchApart_31 : decode cX7_watchApart 31 = .ok (.invokevirtual 233, 3) := by decide +kernel
theorem dX7_watchApart_34 : decode cX7_watchApart 34 = .ok (.ifCond .eq 11, 3) := by decide +kernel
theorem dX7_watchApart_37 : decode cX7_watchApart 37 = .ok (.aload_n 0, 1) := by decide +kernel
theorem dX7_watchApart_38 : decode cX7_watchApart 38 = .ok (.iload_n 3, 1) := by decide +kernel
theorem dX7_watchApart_39 : decode cX7_watchApart 39 = .ok (.invokevirtual 323, 3) := by decide +kernel
theorem dX7_watchApart_42 : decode cX7_watchApart 42 = .ok (.goto 9, 3) := by decide +kernel
theorem dX7_watchApart_45 : decode cX7_watchApart 45 = .ok (.aload_n 0, 1) := by decide +kernel
theorem dX7_watchApart_46 : decode cX7_watchApart 46 = .ok (.iload_n 3, 1) := by decide +kernel
theorem dX7_watchApart_47 : decode cX7_watchApart 47 = .ok (.invokevirtual 323, 3) := by decide +kernel
theorem dX7_watchApart_50 : decode cX7_watchApart 50 = .ok (.ineg, 1) := by decide +kernel
theorem dX7_watchApart_51 : decode cX7_watchApart 51 = .ok (.iadd, 1) := by decide +kernel
theorem dX7_watchApart_52 : decode cX7_watchApart 52 = .ok (.istore_n 2, 1) := by decide +kernel
theorem dX7_watchApart_53 : decode cX7_watchApart 53 = .ok (.iinc 3 1, 3) := by decide +kernel
theorem dX7_watchApart_56 : decode cX7_watchApart 56 = .ok (.goto (-52), 3) := by decide +kernel
theorem dX7_watchApart_59 : decode cX7_watchApart 59 = .ok (.iload_n 2, 1) := by decide +kernel
theorem dX7_watchApart_60 : decode cX7_watchApart 60 = .ok (.ifCond .ge 8, 3) := by decide +kernel
theorem dX7_watchApart_63 : decode cX7_watchApart 63 = .ok (.iload_n 2, 1) := by decide +kernel
theorem dX7_watchApart_64 : decode cX7_watchApart 64 = .ok (.ineg, 1) := by decide +kernel
theorem dX7_watchApart_65 : decode cX7_watchApart 65 = .ok (.goto 4, 3) := by decide +kernel
theorem dX7_watchApart_68 : decode cX7_watchApart 68 = .ok (.iload_n 2, 1) := by decide +kernel
theorem dX7_watchApart_69 : decode cX7_watchApart 69 = .ok (.ireturn, 1) := by decide +kernel
theorem dX7_watch_0 : decode cX7_watch 0 = .ok (.aload_n 0, 1) := by decide +kernel
theorem dX7_watch_1 : decode cX7_watch 1 = .ok (.invokevirtual 348, 3) := by decide +kernel
theorem dX7_watch_4 : decode cX7_watch 4 = .ok (.istore_n 1, 1) := by decide +kernel
theorem dX7_watch_5 : decode cX7_watch 5 = .ok (.iload_n 1, 1) := by decide +kernel
theorem dX7_watch_6 : decode cX7_watch 6 = .ok (.iload_n 1, 1) := by decide +kernel
theorem dX7_watch_7 : decode cX7_watch 7 = .ok (.ineg, 1) := by decide +kernel
theorem dX7_watch_8 : decode cX7_watch 8 = .ok (.iand, 1) := by decide +kernel
theorem dX7_watch_9 : decode cX7_watch 9 = .ok (.istore_n 2, 1) := by decide +kernel
theorem dX7_watch_10 : decode cX7_watch 10 = .ok (.iconst 0, 1) := by decide +kernel
theorem dX7_watch_11 : decode cX7_watch 11 = .ok (.istore_n 3, 1) := by decide +kernel
theorem dX7_watch_12 : decode cX7_watch 12 = .ok (.iconst 0, 1) := by decide +kernel
theorem dX7_watch_13 : decode cX7_watch 13 = .ok (.istore 4, 2) := by decide +kernel
theorem dX7_watch_15 : decode cX7_watch 15 = .ok (.iload 4, 2) := by decide +kernel
theorem dX7_watch_17 : decode cX7_watch 17 = .ok (.iload_n 1, 1) := by decide +kernel
theorem dX7_watch_18 : decode cX7_watch 18 = .ok (.if_icmp .gt 53, 3) := by decide +kernel
theorem dX7_watch_21 : decode cX7_watch 21 = .ok (.iload 4, 2) := by decide +kernel
theorem dX7_watch_23 : decode cX7_watch 23 = .ok (.iload_n 1, 1) := by decide +kernel
theorem dX7_watch_24 : decode cX7_watch 24 = .ok (.iconst (-1), 1) := by decide +kernel
theorem dX7_watch_25 : decode cX7_watch 25 = .ok (.ixor, 1) := by decide +kernel
theorem dX7_watch_26 : decode cX7_watch 26 = .ok (.iand, 1) := by decide +kernel
theorem dX7_watch_27 : decode cX7_watch 27 = .ok (.ifCond .ne 38, 3) := by decide +kernel
theorem dX7_watch_30 : decode cX7_watch 30 = .ok (.iload 4, 2) := by decide +kernel
theorem dX7_watch_32 : decode cX7_watch 32 = .ok (.iload_n 2, 1) := by decide +kernel
theorem dX7_watch_33 : decode cX7_watch 33 = .ok (.iand, 1) := by decide +kernel
theorem dX7_watch_34 : decode cX7_watch 34 = .ok (.ifCond .ne 6, 3) := by decide +kernel
theorem dX7_watch_37 : decode cX7_watch 37 = .ok (.goto 28, 3) := by decide +kernel
theorem dX7_watch_40 : decode cX7_watch 40 = .ok (.iload_n 3, 1) := by decide +kernel
theorem dX7_watch_41 : decode cX7_watch 41 = .ok (.ifCond .eq 17, 3) := by decide +kernel
theorem dX7_watch_44 : decode cX7_watch 44 = .ok (.aload_n 0, 1) := by decide +kernel
theorem dX7_watch_45 : decode cX7_watch 45 = .ok (.iload 4, 2) := by decide +kernel
theorem dX7_watch_47 : decode cX7_watch 47 = .ok (.invokevirtual 351, 3) := by decide +kernel
theorem dX7_watch_50 : decode cX7_watch 50 = .ok (.aload_n 0, 1) := by decide +kernel
theorem dX7_watch_51 : decode cX7_watch 51 = .ok (.iload_n 3, 1) := by decide +kernel
theorem dX7_watch_52 : decode cX7_watch 52 = .ok (.invokevirtual 351, 3) := by decide +kernel
theorem dX7_watch_55 : decode cX7_watch 55 = .ok (.if_icmp .ge 8, 3) := by decide +kernel
theorem dX7_watch_58 : decode cX7_watch 58 = .ok (.iload 4, 2) := by decide +kernel
theorem dX7_watch_60 : decode cX7_watch 60 = .ok (.goto 4, 3) := by decide +kernel
theorem dX7_watch_63 : decode cX7_watch 63 = .ok (.iload_n 3, 1) := by decide +kernel
theorem dX7_watch_64 : decode cX7_watch 64 = .ok (.istore_n 3, 1) := by decide +kernel
theorem dX7_watch_65 : decode cX7_watch 65 = .ok (.iinc 4 1, 3) := by decide +kernel
theorem dX7_watch_68 : decode cX7_watch 68 = .ok (.goto (-53), 3) := by decide +kernel
theorem dX7_watch_71 : decode cX7_watch 71 = .ok (.iload_n 3, 1) := by decide +kernel
theorem dX7_watch_72 : decode cX7_watch 72 = .ok (.ireturn, 1) := by decide +kernel
theorem dX7_told_0 : decode cX7_told 0 = .ok (.iload_n 1, 1) := by decide +kernel
theorem dX7_told_1 : decode cX7_told 1 = .ok (.tableswitch 109 0 9 #[55, 60, 65, 70, 75, 80, 85, 90, 95, 104], 55) := by decide +kernel
theorem dX7_told_56 : decode cX7_told 56 = .ok (.aload_n 0, 1) := by decide +kernel
theorem dX7_told_57 : decode cX7_told 57 = .ok (.getfield 25, 3) := by decide +kernel
theorem dX7_told_60 : decode cX7_told 60 = .ok (.ireturn, 1) := by decide +kernel
theorem dX7_told_61 : decode cX7_told 61 = .ok (.aload_n 0, 1) := by decide +kernel
theorem dX7_told_62 : decode cX7_told 62 = .ok (.invokevirtual 329, 3) := by decide +kernel
theorem dX7_told_65 : decode cX7_told 65 = .ok (.ireturn, 1) := by decide +kernel
theorem dX7_told_66 : decode cX7_told 66 = .ok (.aload_n 0, 1) := by decide +kernel
theorem dX7_told_67 : decode cX7_told 67 = .ok (.getfield 16, 3) := by decide +kernel
theorem dX7_told_70 : decode cX7_told 70 = .ok (.ireturn, 1) := by decide +kernel
theorem dX7_told_71 : decode cX7_told 71 = .ok (.aload_n 0, 1) := by decide +kernel
theorem dX7_told_72 : decode cX7_told 72 = .ok (.getfield 19, 3) := by decide +kernel
theorem dX7_told_75 : decode cX7_told 75 = .ok (.ireturn, 1) := by decide +kernel
theorem dX7_told_76 : decode cX7_told 76 = .ok (.aload_n 0, 1) := by decide +kernel
theorem dX7_told_77 : decode cX7_told 77 = .ok (.getfield 22, 3) := by decide +kernel
theorem dX7_told_80 : decode cX7_told 80 = .ok (.ireturn, 1) := by decide +kernel
theorem dX7_told_81 : decode cX7_told 81 = .ok (.aload_n 0, 1) := by decide +kernel
theorem dX7_told_82 : decode cX7_told 82 = .ok (.invokevirtual 326, 3) := by decide +kernel
theorem dX7_told_85 : decode cX7_told 85 = .ok (.ireturn, 1) := by decide +kernel
theorem dX7_told_86 : decode cX7_told 86 = .ok (.aload_n 0, 1) := by decide +kernel
theorem dX7_told_87 : decode cX7_told 87 = .ok (.getfield 13, 3) := by decide +kernel
theorem dX7_told_90 : decode cX7_told 90 = .ok (.ireturn, 1) := by decide +kernel
theorem dX7_told_91 : decode cX7_told 91 = .ok (.aload_n 0, 1) := by decide +kernel
theorem dX7_told_92 : decode cX7_told 92 = .ok (.invokevirtual 354, 3) := by decide +kernel
theorem dX7_told_95 : decode cX7_told 95 = .ok (.ireturn, 1) := by decide +kernel
theorem dX7_told_96 : decode cX7_told 96 = .ok (.aload_n 0, 1) := by decide +kernel
theorem dX7_told_97 : decode cX7_told 97 = .ok (.aload_n 0, 1) := by decide +kernel
theorem dX7_told_98 : decode cX7_told 98 = .ok (.invokevirtual 357, 3) := by decide +kernel
theorem dX7_told_101 : decode cX7_told 101 = .ok (.invokevirtual 351, 3) := by decide +kernel
theorem dX7_told_104 : decode cX7_told 104 = .ok (.ireturn, 1) := by decide +kernel
theorem dX7_told_105 : decode cX7_told 105 = .ok (.aload_n 0, 1) := by decide +kernel
theorem dX7_told_106 : decode cX7_told 106 = .ok (.invokevirtual 357, 3) := by decide +kernel
theorem dX7_told_109 : decode cX7_told 109 = .ok (.ireturn, 1) := by decide +kernel
theorem dX7_told_110 : decode cX7_told 110 = .ok (.iconst (-1), 1) := by decide +kernel
theorem dX7_told_111 : decode cX7_told 111 = .ok (.ireturn, 1) := by decide +kernel
theorem dX7_on_0 : decode cX7_on 0 = .ok (.aload_n 0, 1) := by decide +kernel
theorem dX7_on_1 : decode cX7_on 1 = .ok (.iload_n 2, 1) := by decide +kernel
theorem dX7_on_2 : decode cX7_on 2 = .ok (.iconst 0, 1) := by decide +kernel
theorem dX7_on_3 : decode cX7_on 3 = .ok (.iconst 3, 1) := by decide +kernel
theorem dX7_on_4 : decode cX7_on 4 = .ok (.invokevirtual 237, 3) := by decide +kernel
theorem dX7_on_7 : decode cX7_on 7 = .ok (.ifCond .ne 5, 3) := by decide +kernel
theorem dX7_on_10 : decode cX7_on 10 = .ok (.iconst (-1), 1) := by decide +kernel
theorem dX7_on_11 : decode cX7_on 11 = .ok (.ireturn, 1) := by decide +kernel
theorem dX7_on_12 : decode cX7_on 12 = .ok (.aload_n 0, 1) := by decide +kernel
theorem dX7_on_13 : decode cX7_on 13 = .ok (.iload_n 1, 1) := by decide +kernel
theorem dX7_on_14 : decode cX7_on 14 = .ok (.invokevirtual 335, 3) := by decide +kernel
theorem dX7_on_17 : decode cX7_on 17 = .ok (.ifCond .ne 6, 3) := by decide +kernel
theorem dX7_on_20 : decode cX7_on 20 = .ok (.bipush (-2), 2) := by decide +kernel
theorem dX7_on_22 : decode cX7_on 22 = .ok (.ireturn, 1) := by decide +kernel
theorem dX7_on_23 : decode cX7_on 23 = .ok (.aload_n 0, 1) := by decide +kernel
theorem dX7_on_24 : decode cX7_on 24 = .ok (.invokevirtual 342, 3) := by decide +kernel
theorem dX7_on_27 : decode cX7_on 27 = .ok (.aload_n 0, 1) := by decide +kernel
theorem dX7_on_28 : decode cX7_on 28 = .ok (.iload_n 1, 1) := by decide +kernel
theorem dX7_on_29 : decode cX7_on 29 = .ok (.invokevirtual 338, 3) := by decide +kernel
theorem dX7_on_32 : decode cX7_on 32 = .ok (.iload_n 2, 1) := by decide +kernel
theorem dX7_on_33 : decode cX7_on 33 = .ok (.ifCond .ne 10, 3) := by decide +kernel
theorem dX7_on_36 : decode cX7_on 36 = .ok (.aload_n 0, 1) := by decide +kernel
theorem dX7_on_37 : decode cX7_on 37 = .ok (.getfield 16, 3) := by decide +kernel
theorem dX7_on_40 : decode cX7_on 40 = .ok (.goto 31, 3) := by decide +kernel
theorem dX7_on_43 : decode cX7_on 43 = .ok (.iload_n 2, 1) := by decide +kernel
theorem dX7_on_44 : decode cX7_on 44 = .ok (.iconst 1, 1) := by decide +kernel
theorem dX7_on_45 : decode cX7_on 45 = .ok (.if_icmp .ne 10, 3) := by decide +kernel
theorem dX7_on_48 : decode cX7_on 48 = .ok (.aload_n 0, 1) := by decide +kernel
theorem dX7_on_49 : decode cX7_on 49 = .ok (.getfield 19, 3) := by decide +kernel
theorem dX7_on_52 : decode cX7_on 52 = .ok (.goto 19, 3) := by decide +kernel
theorem dX7_on_55 : decode cX7_on 55 = .ok (.iload_n 2, 1) := by decide +kernel
theorem dX7_on_56 : decode cX7_on 56 = .ok (.iconst 2, 1) := by decide +kernel
theorem dX7_on_57 : decode cX7_on 57 = .ok (.if_icmp .ne 10, 3) := by decide +kernel
theorem dX7_on_60 : decode cX7_on 60 = .ok (.aload_n 0, 1) := by decide +kernel
theorem dX7_on_61 : decode cX7_on 61 = .ok (.getfield 22, 3) := by decide +kernel
theorem dX7_on_64 : decode cX7_on 64 = .ok (.goto 7, 3) := by decide +kernel
theorem dX7_on_67 : decode cX7_on 67 = .ok (.aload_n 0, 1) := by decide +kernel
theorem dX7_on_68 : decode cX7_on 68 = .ok (.invokevirtual 326, 3) := by decide +kernel
theorem dX7_on_71 : decode cX7_on 71 = .ok (.istore_n 3, 1) := by decide +kernel
theorem dX7_on_72 : decode cX7_on 72 = .ok (.aload_n 0, 1) := by decide +kernel
theorem dX7_on_73 : decode cX7_on 73 = .ok (.invokevirtual 345, 3) := by decide +kernel
theorem dX7_on_76 : decode cX7_on 76 = .ok (.iload_n 3, 1) := by decide +kernel
theorem dX7_on_77 : decode cX7_on 77 = .ok (.ireturn, 1) := by decide +kernel
theorem dX7_truthsBy_0 : decode cX7_truthsBy 0 = .ok (.aload_n 0, 1) := by decide +kernel
theorem dX7_truthsBy_1 : decode cX7_truthsBy 1 = .ok (.invokevirtual 342, 3) := by decide +kernel
theorem dX7_truthsBy_4 : decode cX7_truthsBy 4 = .ok (.aload_n 0, 1) := by decide +kernel
theorem dX7_truthsBy_5 : decode cX7_truthsBy 5 = .ok (.iload_n 1, 1) := by decide +kernel
theorem dX7_truthsBy_6 : decode cX7_truthsBy 6 = .ok (.putfield 13, 3) := by decide +kernel
theorem dX7_truthsBy_9 : decode cX7_truthsBy 9 = .ok (.aload_n 0, 1) := by decide +kernel
theorem dX7_truthsBy_10 : decode cX7_truthsBy 10 = .ok (.iload_n 2, 1) := by decide +kernel
theorem dX7_truthsBy_11 : decode cX7_truthsBy 11 = .ok (.invokevirtual 338, 3) := by decide +kernel
theorem dX7_truthsBy_14 : decode cX7_truthsBy 14 = .ok (.aload_n 0, 1) := by decide +kernel
theorem dX7_truthsBy_15 : decode cX7_truthsBy 15 = .ok (.getfield 19, 3) := by decide +kernel
theorem dX7_truthsBy_18 : decode cX7_truthsBy 18 = .ok (.istore_n 3, 1) := by decide +kernel
theorem dX7_truthsBy_19 : decode cX7_truthsBy 19 = .ok (.aload_n 0, 1) := by decide +kernel
theorem dX7_truthsBy_20 : decode cX7_truthsBy 20 = .ok (.invokevirtual 345, 3) := by decide +kernel
theorem dX7_truthsBy_23 : decode cX7_truthsBy 23 = .ok (.iload_n 3, 1) := by decide +kernel
theorem dX7_truthsBy_24 : decode cX7_truthsBy 24 = .ok (.ireturn, 1) := by decide +kernel
theorem dX7_changed_0 : decode cX7_changed 0 = .ok (.iconst 0, 1) := by decide +kernel
theorem dX7_changed_1 : decode cX7_changed 1 = .ok (.istore_n 3, 1) := by decide +kernel
theorem dX7_changed_2 : decode cX7_changed 2 = .ok (.aload_n 0, 1) := by decide +kernel
theorem dX7_changed_3 : decode cX7_changed 3 = .ok (.iconst 0, 1) := by decide +kernel
theorem dX7_changed_4 : decode cX7_changed 4 = .ok (.iload_n 1, 1) := by decide +kernel
theorem dX7_changed_5 : decode cX7_changed 5 = .ok (.invokevirtual 360, 3) := by decide +kernel
theorem dX7_changed_8 : decode cX7_changed 8 = .ok (.istore 4, 2) := by decide +kernel
theorem dX7_changed_10 : decode cX7_changed 10 = .ok (.iconst 1, 1) := by decide +kernel
theorem dX7_changed_11 : decode cX7_changed 11 = .ok (.istore 5, 2) := by decide +kernel
theorem dX7_changed_13 : decode cX7_changed 13 = .ok (.iload 5, 2) := by decide +kernel
theorem dX7_changed_15 : decode cX7_changed 15 = .ok (.iconst 1, 1) := by decide +kernel
theorem dX7_changed_16 : decode cX7_changed 16 = .ok (.aload_n 0, 1) := by decide +kernel
theorem dX7_changed_17 : decode cX7_changed 17 = .ok (.getfield 7, 3) := by decide +kernel
theorem dX7_changed_20 : decode cX7_changed 20 = .ok (.ishl, 1) := by decide +kernel
theorem dX7_changed_21 : decode cX7_changed 21 = .ok (.if_icmp .ge 56, 3) := by decide +kernel
theorem dX7_changed_24 : decode cX7_changed 24 = .ok (.aload_n 0, 1) := by decide +kernel
theorem dX7_changed_25 : decode cX7_changed 25 = .ok (.iload 5, 2) := by decide +kernel
theorem dX7_changed_27 : decode cX7_changed 27 = .ok (.iload_n 1, 1) := by decide +kernel
theorem dX7_changed_28 : decode cX7_changed 28 = .ok (.invokevirtual 360, 3) := by decide +kernel
theorem dX7_changed_31 : decode cX7_changed 31 = .ok (.istore 6, 2) := by decide +kernel
theorem dX7_changed_33 : decode cX7_changed 33 = .ok (.iload 6, 2) := by decide +kernel
theorem dX7_changed_35 : decode cX7_changed 35 = .ok (.iload 4, 2) := by decide +kernel
theorem dX7_changed_37 : decode cX7_changed 37 = .ok (.if_icmp .lt 34, 3) := by decide +kernel
theorem dX7_changed_40 : decode cX7_changed 40 = .ok (.iload 6, 2) := by decide +kernel
theorem dX7_changed_42 : decode cX7_changed 42 = .ok (.iload 4, 2) := by decide +kernel
theorem dX7_changed_44 : decode cX7_changed 44 = .ok (.if_icmp .ne 20, 3) := by decide +kernel
theorem dX7_changed_47 : decode cX7_changed 47 = .ok (.aload_n 0, 1) := by decide +kernel
theorem dX7_changed_48 : decode cX7_changed 48 = .ok (.iload 5, 2) := by decide +kernel
theorem dX7_changed_50 : decode cX7_changed 50 = .ok (.invokevirtual 363, 3) := by decide +kernel
theorem dX7_changed_53 : decode cX7_changed 53 = .ok (.aload_n 0, 1) := by decide +kernel
theorem dX7_changed_54 : decode cX7_changed 54 = .ok (.iload_n 3, 1) := by decide +kernel
theorem dX7_changed_55 : decode cX7_changed 55 = .ok (.invokevirtual 363, 3) := by decide +kernel
theorem dX7_changed_58 : decode cX7_changed 58 = .ok (.if_icmp .lt 6, 3) := by decide +kernel
theorem dX7_changed_61 : decode cX7_changed 61 = .ok (.goto 10, 3) := by decide +kernel
theorem dX7_changed_64 : decode cX7_changed 64 = .ok (.iload 5, 2) := by decide +kernel
theorem dX7_changed_66 : decode cX7_changed 66 = .ok (.istore_n 3, 1) := by decide +kernel
theorem dX7_changed_67 : decode cX7_changed 67 = .ok (.iload 6, 2) := by decide +kernel
theorem dX7_changed_69 : decode cX7_changed 69 = .ok (.istore 4, 2) := by decide +kernel
theorem dX7_changed_71 : decode cX7_changed 71 = .ok (.iinc 5 1, 3) := by decide +kernel
theorem dX7_changed_74 : decode cX7_changed 74 = .ok (.goto (-61), 3) := by decide +kernel
theorem dX7_changed_77 : decode cX7_changed 77 = .ok (.iload_n 2, 1) := by decide +kernel
theorem dX7_changed_78 : decode cX7_changed 78 = .ok (.ifCond .eq 7, 3) := by decide +kernel
theorem dX7_changed_81 : decode cX7_changed 81 = .ok (.iload_n 3, 1) := by decide +kernel
theorem dX7_changed_82 : decode cX7_changed 82 = .ok (.goto 5, 3) := by decide +kernel
theorem dX7_changed_85 : decode cX7_changed 85 = .ok (.iload 4, 2) := by decide +kernel
theorem dX7_changed_87 : decode cX7_changed 87 = .ok (.ireturn, 1) := by decide +kernel
theorem dX7_fright_0 : decode cX7_fright 0 = .ok (.bipush (-5), 2) := by decide +kernel
theorem dX7_fright_2 : decode cX7_fright 2 = .ok (.istore_n 2, 1) := by decide +kernel
theorem dX7_fright_3 : decode cX7_fright 3 = .ok (.iconst 1, 1) := by decide +kernel
theorem dX7_fright_4 : decode cX7_fright 4 = .ok (.aload_n 0, 1) := by decide +kernel
theorem dX7_fright_5 : decode cX7_fright 5 = .ok (.getfield 7, 3) := by decide +kernel
theorem dX7_fright_8 : decode cX7_fright 8 = .ok (.ishl, 1) := by decide +kernel
theorem dX7_fright_9 : decode cX7_fright 9 = .ok (.iconst 1, 1) := by decide +kernel
theorem dX7_fright_10 : decode cX7_fright 10 = .ok (.isub, 1) := by decide +kernel
theorem dX7_fright_11 : decode cX7_fright 11 = .ok (.istore_n 3, 1) := by decide +kernel
theorem dX7_fright_12 : decode cX7_fright 12 = .ok (.iconst 0, 1) := by decide +kernel
theorem dX7_fright_13 : decode cX7_fright 13 = .ok (.istore 4, 2) := by decide +kernel
theorem dX7_fright_15 : decode cX7_fright 15 = .ok (.iload 4, 2) := by decide +kernel
theorem dX7_fright_17 : decode cX7_fright 17 = .ok (.iload_n 3, 1) := by decide +kernel
theorem dX7_fright_18 : decode cX7_fright 18 = .ok (.if_icmp .gt 55, 3) := by decide +kernel
theorem dX7_fright_21 : decode cX7_fright 21 = .ok (.iload_n 2, 1) := by decide +kernel
theorem dX7_fright_22 : decode cX7_fright 22 = .ok (.ifCond .lt 20, 3) := by decide +kernel
theorem dX7_fright_25 : decode cX7_fright 25 = .ok (.aload_n 0, 1) := by decide +kernel
theorem dX7_fright_26 : decode cX7_fright 26 = .ok (.iload 4, 2) := by decide +kernel
theorem dX7_fright_28 : decode cX7_fright 28 = .ok (.invokevirtual 363, 3) := by decide +kernel
theorem dX7_fright_31 : decode cX7_fright 31 = .ok (.aload_n 0, 1) := by decide +kernel
theorem dX7_fright_32 : decode cX7_fright 32 = .ok (.iload_n 2, 1) := by decide +kernel
theorem dX7_fright_33 : decode cX7_fright 33 = .ok (.invokevirtual 363, 3) := by decide +kernel
theorem dX7_fright_36 : decode cX7_fright 36 = .ok (.if_icmp .lt 6, 3) := by decide +kernel
theorem dX7_fright_39 : decode cX7_fright 39 = .ok (.goto 28, 3) := by decide +kernel
theorem dX7_fright_42 : decode cX7_fright 42 = .ok (.aload_n 0, 1) := by decide +kernel
theorem dX7_fright_43 : decode cX7_fright 43 = .ok (.iload_n 3, 1) := by decide +kernel
theorem dX7_fright_44 : decode cX7_fright 44 = .ok (.iload 4, 2) := by decide +kernel
theorem dX7_fright_46 : decode cX7_fright 46 = .ok (.iconst (-1), 1) := by decide +kernel
theorem dX7_fright_47 : decode cX7_fright 47 = .ok (.ixor, 1) := by decide +kernel
theorem dX7_fright_48 : decode cX7_fright 48 = .ok (.iand, 1) := by decide +kernel
theorem dX7_fright_49 : decode cX7_fright 49 = .ok (.iload_n 1, 1) := by decide +kernel
theorem dX7_fright_50 : decode cX7_fright 50 = .ok (.invokevirtual 360, 3) := by decide +kernel
theorem dX7_fright_53 : decode cX7_fright 53 = .ok (.aload_n 0, 1) := by decide +kernel
theorem dX7_fright_54 : decode cX7_fright 54 = .ok (.getfield 19, 3) := by decide +kernel
theorem dX7_fright_57 : decode cX7_fright 57 = .ok (.if_icmp .le 8, 3) := by decide +kernel
theorem dX7_fright_60 : decode cX7_fright 60 = .ok (.iload 4, 2) := by decide +kernel
theorem dX7_fright_62 : decode cX7_fright 62 = .ok (.goto 4, 3) := by decide +kernel
theorem dX7_fright_65 : decode cX7_fright 65 = .ok (.iload_n 2, 1) := by decide +kernel
theorem dX7_fright_66 : decode cX7_fright 66 = .ok (.istore_n 2, 1) := by decide +kernel
theorem dX7_fright_67 : decode cX7_fright 67 = .ok (.iinc 4 1, 3) := by decide +kernel
theorem dX7_fright_70 : decode cX7_fright 70 = .ok (.goto (-55), 3) := by decide +kernel
theorem dX7_fright_73 : decode cX7_fright 73 = .ok (.iload_n 2, 1) := by decide +kernel
theorem dX7_fright_74 : decode cX7_fright 74 = .ok (.ireturn, 1) := by decide +kernel
theorem dX7_best_0 : decode cX7_best 0 = .ok (.aload_n 0, 1) := by decide +kernel
theorem dX7_best_1 : decode cX7_best 1 = .ok (.iload_n 2, 1) := by decide +kernel
theorem dX7_best_2 : decode cX7_best 2 = .ok (.iconst 0, 1) := by decide +kernel
theorem dX7_best_3 : decode cX7_best 3 = .ok (.iconst 2, 1) := by decide +kernel
theorem dX7_best_4 : decode cX7_best 4 = .ok (.invokevirtual 237, 3) := by decide +kernel
theorem dX7_best_7 : decode cX7_best 7 = .ok (.ifCond .ne 5, 3) := by decide +kernel
theorem dX7_best_10 : decode cX7_best 10 = .ok (.iconst (-1), 1) := by decide +kernel
theorem dX7_best_11 : decode cX7_best 11 = .ok (.ireturn, 1) := by decide +kernel
theorem dX7_best_12 : decode cX7_best 12 = .ok (.aload_n 0, 1) := by decide +kernel
theorem dX7_best_13 : decode cX7_best 13 = .ok (.iload_n 1, 1) := by decide +kernel
theorem dX7_best_14 : decode cX7_best 14 = .ok (.iconst 1, 1) := by decide +kernel
theorem dX7_best_15 : decode cX7_best 15 = .ok (.bipush 12, 2) := by decide +kernel
theorem dX7_best_17 : decode cX7_best 17 = .ok (.invokevirtual 237, 3) := by decide +kernel
theorem dX7_best_20 : decode cX7_best 20 = .ok (.ifCond .ne 6, 3) := by decide +kernel
theorem dX7_best_23 : decode cX7_best 23 = .ok (.bipush (-2), 2) := by decide +kernel
theorem dX7_best_25 : decode cX7_best 25 = .ok (.ireturn, 1) := by decide +kernel
theorem dX7_best_26 : decode cX7_best 26 = .ok (.iload_n 2, 1) := by decide +kernel
theorem dX7_best_27 : decode cX7_best 27 = .ok (.iconst 2, 1) := by decide +kernel
theorem dX7_best_28 : decode cX7_best 28 = .ok (.if_icmp .ne 11, 3) := by decide +kernel
theorem dX7_best_31 : decode cX7_best 31 = .ok (.aload_n 0, 1) := by decide +kernel
theorem dX7_best_32 : decode cX7_best 32 = .ok (.iload_n 1, 1) := by decide +kernel
theorem dX7_best_33 : decode cX7_best 33 = .ok (.invokevirtual 366, 3) := by decide +kernel
theorem dX7_best_36 : decode cX7_best 36 = .ok (.goto 17, 3) := by decide +kernel
theorem dX7_best_39 : decode cX7_best 39 = .ok (.aload_n 0, 1) := by decide +kernel
theorem dX7_best_40 : decode cX7_best 40 = .ok (.iload_n 1, 1) := by decide +kernel
theorem dX7_best_41 : decode cX7_best 41 = .ok (.iload_n 2, 1) := by decide +kernel
theorem dX7_best_42 : decode cX7_best 42 = .ok (.ifCond .ne 7, 3) := by decide +kernel
theorem dX7_best_45 : decode cX7_best 45 = .ok (.iconst 1, 1) := by decide +kernel
theorem dX7_best_46 : decode cX7_best 46 = .ok (.goto 4, 3) := by decide +kernel
theorem dX7_best_49 : decode cX7_best 49 = .ok (.iconst 0, 1) := by decide +kernel
theorem dX7_best_50 : decode cX7_best 50 = .ok (.invokevirtual 369, 3) := by decide +kernel
theorem dX7_best_53 : decode cX7_best 53 = .ok (.ireturn, 1) := by decide +kernel
theorem dX7_hear_0 : decode cX7_hear 0 = .ok (.iload_n 1, 1) := by decide +kernel
theorem dX7_hear_1 : decode cX7_hear 1 = .ok (.iconst (-1), 1) := by decide +kernel

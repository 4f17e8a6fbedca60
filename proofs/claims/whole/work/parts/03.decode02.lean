theorem dX6_begin_12 : decode cX6_begin 12 = .ok (.getfield 21, 3) := by decide +kernel
theorem dX6_begin_15 : decode cX6_begin 15 = .ok (.areturn, 1) := by decide +kernel
theorem dX6_hushed_0 : decode cX6_hushed 0 = .ok (.aload_n 0, 1) := by decide +kernel
theorem dX6_hushed_1 : decode cX6_hushed 1 = .ok (.invokevirtual 151, 3) := by decide +kernel
theorem dX6_hushed_4 : decode cX6_hushed 4 = .ok (.astore_n 1, 1) := by decide +kernel
theorem dX6_hushed_5 : decode cX6_hushed 5 = .ok (.iconst 0, 1) := by decide +kernel
theorem dX6_hushed_6 : decode cX6_hushed 6 = .ok (.istore_n 2, 1) := by decide +kernel
theorem dX6_hushed_7 : decode cX6_hushed 7 = .ok (.iload_n 2, 1) := by decide +kernel
theorem dX6_hushed_8 : decode cX6_hushed 8 = .ok (.bipush 60, 2) := by decide +kernel
theorem dX6_hushed_10 : decode cX6_hushed 10 = .ok (.if_icmp .gt 27, 3) := by decide +kernel
theorem dX6_hushed_13 : decode cX6_hushed 13 = .ok (.aload_n 1, 1) := by decide +kernel
theorem dX6_hushed_14 : decode cX6_hushed 14 = .ok (.invokevirtual 132, 3) := by decide +kernel
theorem dX6_hushed_17 : decode cX6_hushed 17 = .ok (.istore_n 3, 1) := by decide +kernel
theorem dX6_hushed_18 : decode cX6_hushed 18 = .ok (.iload_n 3, 1) := by decide +kernel
theorem dX6_hushed_19 : decode cX6_hushed 19 = .ok (.ifCond .ne 5, 3) := by decide +kernel
theorem dX6_hushed_22 : decode cX6_hushed 22 = .ok (.iload_n 2, 1) := by decide +kernel
theorem dX6_hushed_23 : decode cX6_hushed 23 = .ok (.ireturn, 1) := by decide +kernel
theorem dX6_hushed_24 : decode cX6_hushed 24 = .ok (.aload_n 1, 1) := by decide +kernel
theorem dX6_hushed_25 : decode cX6_hushed 25 = .ok (.iload_n 3, 1) := by decide +kernel
theorem dX6_hushed_26 : decode cX6_hushed 26 = .ok (.ldc 155, 2) := by decide +kernel
theorem dX6_hushed_28 : decode cX6_hushed 28 = .ok (.invokevirtual 272, 3) := by decide +kernel
theorem dX6_hushed_31 : decode cX6_hushed 31 = .ok (.iinc 2 1, 3) := by decide +kernel
theorem dX6_hushed_34 : decode cX6_hushed 34 = .ok (.goto (-27), 3) := by decide +kernel
theorem dX6_hushed_37 : decode cX6_hushed 37 = .ok (.bipush (-5), 2) := by decide +kernel
theorem dX6_hushed_39 : decode cX6_hushed 39 = .ok (.ireturn, 1) := by decide +kernel
theorem dX6_truthsBehind_0 : decode cX6_truthsBehind 0 = .ok (.aload_n 0, 1) := by decide +kernel
theorem dX6_truthsBehind_1 : decode cX6_truthsBehind 1 = .ok (.invokevirtual 151, 3) := by decide +kernel
theorem dX6_truthsBehind_4 : decode cX6_truthsBehind 4 = .ok (.astore_n 3, 1) := by decide +kernel
theorem dX6_truthsBehind_5 : decode cX6_truthsBehind 5 = .ok (.aload_n 3, 1) := by decide +kernel
theorem dX6_truthsBehind_6 : decode cX6_truthsBehind 6 = .ok (.iload_n 2, 1) := by decide +kernel
theorem dX6_truthsBehind_7 : decode cX6_truthsBehind 7 = .ok (.putfield 135, 3) := by decide +kernel
theorem dX6_truthsBehind_10 : decode cX6_truthsBehind 10 = .ok (.iconst 0, 1) := by decide +kernel
theorem dX6_truthsBehind_11 : decode cX6_truthsBehind 11 = .ok (.istore 4, 2) := by decide +kernel
theorem dX6_truthsBehind_13 : decode cX6_truthsBehind 13 = .ok (.iload 4, 2) := by decide +kernel
theorem dX6_truthsBehind_15 : decode cX6_truthsBehind 15 = .ok (.iload_n 1, 1) := by decide +kernel
theorem dX6_truthsBehind_16 : decode cX6_truthsBehind 16 = .ok (.if_icmp .ge 19, 3) := by decide +kernel
theorem dX6_truthsBehind_19 : decode cX6_truthsBehind 19 = .ok (.aload_n 3, 1) := by decide +kernel
theorem dX6_truthsBehind_20 : decode cX6_truthsBehind 20 = .ok (.aload_n 3, 1) := by decide +kernel
theorem dX6_truthsBehind_21 : decode cX6_truthsBehind 21 = .ok (.invokevirtual 132, 3) := by decide +kernel
theorem dX6_truthsBehind_24 : decode cX6_truthsBehind 24 = .ok (.ldc 155, 2) := by decide +kernel
theorem dX6_truthsBehind_26 : decode cX6_truthsBehind 26 = .ok (.invokevirtual 272, 3) := by decide +kernel
theorem dX6_truthsBehind_29 : decode cX6_truthsBehind 29 = .ok (.iinc 4 1, 3) := by decide +kernel
theorem dX6_truthsBehind_32 : decode cX6_truthsBehind 32 = .ok (.goto (-19), 3) := by decide +kernel
theorem dX6_truthsBehind_35 : decode cX6_truthsBehind 35 = .ok (.aload_n 3, 1) := by decide +kernel
theorem dX6_truthsBehind_36 : decode cX6_truthsBehind 36 = .ok (.getfield 126, 3) := by decide +kernel
theorem dX6_truthsBehind_39 : decode cX6_truthsBehind 39 = .ok (.ireturn, 1) := by decide +kernel
theorem dX6_bestUp_0 : decode cX6_bestUp 0 = .ok (.iconst 0, 1) := by decide +kernel
theorem dX6_bestUp_1 : decode cX6_bestUp 1 = .ok (.istore_n 2, 1) := by decide +kernel
theorem dX6_bestUp_2 : decode cX6_bestUp 2 = .ok (.aload_n 0, 1) := by decide +kernel
theorem dX6_bestUp_3 : decode cX6_bestUp 3 = .ok (.iload_n 1, 1) := by decide +kernel
theorem dX6_bestUp_4 : decode cX6_bestUp 4 = .ok (.iconst 0, 1) := by decide +kernel
theorem dX6_bestUp_5 : decode cX6_bestUp 5 = .ok (.invokevirtual 159, 3) := by decide +kernel
theorem dX6_bestUp_8 : decode cX6_bestUp 8 = .ok (.istore_n 3, 1) := by decide +kernel
theorem dX6_bestUp_9 : decode cX6_bestUp 9 = .ok (.iconst 1, 1) := by decide +kernel
theorem dX6_bestUp_10 : decode cX6_bestUp 10 = .ok (.istore 4, 2) := by decide +kernel
theorem dX6_bestUp_12 : decode cX6_bestUp 12 = .ok (.iload 4, 2) := by decide +kernel
theorem dX6_bestUp_14 : decode cX6_bestUp 14 = .ok (.aload_n 0, 1) := by decide +kernel
theorem dX6_bestUp_15 : decode cX6_bestUp 15 = .ok (.getfield 12, 3) := by decide +kernel
theorem dX6_bestUp_18 : decode cX6_bestUp 18 = .ok (.invokevirtual 275, 3) := by decide +kernel
theorem dX6_bestUp_21 : decode cX6_bestUp 21 = .ok (.if_icmp .gt 48, 3) := by decide +kernel
theorem dX6_bestUp_24 : decode cX6_bestUp 24 = .ok (.aload_n 0, 1) := by decide +kernel
theorem dX6_bestUp_25 : decode cX6_bestUp 25 = .ok (.iload_n 1, 1) := by decide +kernel
theorem dX6_bestUp_26 : decode cX6_bestUp 26 = .ok (.iload 4, 2) := by decide +kernel
theorem dX6_bestUp_28 : decode cX6_bestUp 28 = .ok (.invokevirtual 159, 3) := by decide +kernel
theorem dX6_bestUp_31 : decode cX6_bestUp 31 = .ok (.istore 5, 2) := by decide +kernel
theorem dX6_bestUp_33 : decode cX6_bestUp 33 = .ok (.iload 5, 2) := by decide +kernel
theorem dX6_bestUp_35 : decode cX6_bestUp 35 = .ok (.iload_n 3, 1) := by decide +kernel
theorem dX6_bestUp_36 : decode cX6_bestUp 36 = .ok (.if_icmp .gt 21, 3) := by decide +kernel
theorem dX6_bestUp_39 : decode cX6_bestUp 39 = .ok (.iload 5, 2) := by decide +kernel
theorem dX6_bestUp_41 : decode cX6_bestUp 41 = .ok (.iload_n 3, 1) := by decide +kernel
theorem dX6_bestUp_42 : decode cX6_bestUp 42 = .ok (.if_icmp .ne 21, 3) := by decide +kernel
theorem dX6_bestUp_45 : decode cX6_bestUp 45 = .ok (.iload 4, 2) := by decide +kernel
theorem dX6_bestUp_47 : decode cX6_bestUp 47 = .ok (.invokestatic 184, 3) := by decide +kernel
theorem dX6_bestUp_50 : decode cX6_bestUp 50 = .ok (.iload_n 2, 1) := by decide +kernel
theorem dX6_bestUp_51 : decode cX6_bestUp 51 = .ok (.invokestatic 184, 3) := by decide +kernel
theorem dX6_bestUp_54 : decode cX6_bestUp 54 = .ok (.if_icmp .ge 9, 3) := by decide +kernel
theorem dX6_bestUp_57 : decode cX6_bestUp 57 = .ok (.iload 4, 2) := by decide +kernel
theorem dX6_bestUp_59 : decode cX6_bestUp 59 = .ok (.istore_n 2, 1) := by decide +kernel
theorem dX6_bestUp_60 : decode cX6_bestUp 60 = .ok (.iload 5, 2) := by decide +kernel
theorem dX6_bestUp_62 : decode cX6_bestUp 62 = .ok (.istore_n 3, 1) := by decide +kernel
theorem dX6_bestUp_63 : decode cX6_bestUp 63 = .ok (.iinc 4 1, 3) := by decide +kernel
theorem dX6_bestUp_66 : decode cX6_bestUp 66 = .ok (.goto (-54), 3) := by decide +kernel
theorem dX6_bestUp_69 : decode cX6_bestUp 69 = .ok (.iload_n 2, 1) := by decide +kernel
theorem dX6_bestUp_70 : decode cX6_bestUp 70 = .ok (.ireturn, 1) := by decide +kernel
theorem dX6_fright_0 : decode cX6_fright 0 = .ok (.bipush (-5), 2) := by decide +kernel
theorem dX6_fright_2 : decode cX6_fright 2 = .ok (.istore_n 2, 1) := by decide +kernel
theorem dX6_fright_3 : decode cX6_fright 3 = .ok (.iconst 0, 1) := by decide +kernel
theorem dX6_fright_4 : decode cX6_fright 4 = .ok (.istore_n 3, 1) := by decide +kernel
theorem dX6_fright_5 : decode cX6_fright 5 = .ok (.iload_n 3, 1) := by decide +kernel
theorem dX6_fright_6 : decode cX6_fright 6 = .ok (.aload_n 0, 1) := by decide +kernel
theorem dX6_fright_7 : decode cX6_fright 7 = .ok (.getfield 12, 3) := by decide +kernel
theorem dX6_fright_10 : decode cX6_fright 10 = .ok (.invokevirtual 275, 3) := by decide +kernel
theorem dX6_fright_13 : decode cX6_fright 13 = .ok (.if_icmp .gt 66, 3) := by decide +kernel
theorem dX6_fright_16 : decode cX6_fright 16 = .ok (.iload_n 2, 1) := by decide +kernel
theorem dX6_fright_17 : decode cX6_fright 17 = .ok (.bipush (-5), 2) := by decide +kernel
theorem dX6_fright_19 : decode cX6_fright 19 = .ok (.if_icmp .eq 14, 3) := by decide +kernel
theorem dX6_fright_22 : decode cX6_fright 22 = .ok (.iload_n 3, 1) := by decide +kernel
theorem dX6_fright_23 : decode cX6_fright 23 = .ok (.invokestatic 184, 3) := by decide +kernel
theorem dX6_fright_26 : decode cX6_fright 26 = .ok (.iload_n 2, 1) := by decide +kernel
theorem dX6_fright_27 : decode cX6_fright 27 = .ok (.invokestatic 184, 3) := by decide +kernel
theorem dX6_fright_30 : decode cX6_fright 30 = .ok (.if_icmp .ge 7, 3) := by decide +kernel
theorem dX6_fright_33 : decode cX6_fright 33 = .ok (.iconst 1, 1) := by decide +kernel
theorem dX6_fright_34 : decode cX6_fright 34 = .ok (.goto 4, 3) := by decide +kernel
theorem dX6_fright_37 : decode cX6_fright 37 = .ok (.iconst 0, 1) := by decide +kernel
theorem dX6_fright_38 : decode cX6_fright 38 = .ok (.istore 4, 2) := by decide +kernel
theorem dX6_fright_40 : decode cX6_fright 40 = .ok (.iload 4, 2) := by decide +kernel
theorem dX6_fright_42 : decode cX6_fright 42 = .ok (.ifCond .eq 31, 3) := by decide +kernel
theorem dX6_fright_45 : decode cX6_fright 45 = .ok (.aload_n 0, 1) := by decide +kernel
theorem dX6_fright_46 : decode cX6_fright 46 = .ok (.iload_n 1, 1) := by decide +kernel
theorem dX6_fright_47 : decode cX6_fright 47 = .ok (.aload_n 0, 1) := by decide +kernel
theorem dX6_fright_48 : decode cX6_fright 48 = .ok (.getfield 12, 3) := by decide +kernel
theorem dX6_fright_51 : decode cX6_fright 51 = .ok (.invokevirtual 275, 3) := by decide +kernel
theorem dX6_fright_54 : decode cX6_fright 54 = .ok (.iload_n 3, 1) := by decide +kernel
theorem dX6_fright_55 : decode cX6_fright 55 = .ok (.iconst (-1), 1) := by decide +kernel
theorem dX6_fright_56 : decode cX6_fright 56 = .ok (.ixor, 1) := by decide +kernel
theorem dX6_fright_57 : decode cX6_fright 57 = .ok (.iand, 1) := by decide +kernel
theorem dX6_fright_58 : decode cX6_fright 58 = .ok (.invokevirtual 159, 3) := by decide +kernel
theorem dX6_fright_61 : decode cX6_fright 61 = .ok (.aload_n 0, 1) := by decide +kernel
theorem dX6_fright_62 : decode cX6_fright 62 = .ok (.getfield 12, 3) := by decide +kernel
theorem dX6_fright_65 : decode cX6_fright 65 = .ok (.getfield 126, 3) := by decide +kernel
theorem dX6_fright_68 : decode cX6_fright 68 = .ok (.if_icmp .le 5, 3) := by decide +kernel
theorem dX6_fright_71 : decode cX6_fright 71 = .ok (.iload_n 3, 1) := by decide +kernel
theorem dX6_fright_72 : decode cX6_fright 72 = .ok (.istore_n 2, 1) := by decide +kernel
theorem dX6_fright_73 : decode cX6_fright 73 = .ok (.iinc 3 1, 3) := by decide +kernel
theorem dX6_fright_76 : decode cX6_fright 76 = .ok (.goto (-71), 3) := by decide +kernel
theorem dX6_fright_79 : decode cX6_fright 79 = .ok (.iload_n 2, 1) := by decide +kernel
theorem dX6_fright_80 : decode cX6_fright 80 = .ok (.ireturn, 1) := by decide +kernel
theorem dX6_watch_0 : decode cX6_watch 0 = .ok (.iconst 0, 1) := by decide +kernel
theorem dX6_watch_1 : decode cX6_watch 1 = .ok (.istore_n 1, 1) := by decide +kernel
theorem dX6_watch_2 : decode cX6_watch 2 = .ok (.iload_n 1, 1) := by decide +kernel
theorem dX6_watch_3 : decode cX6_watch 3 = .ok (.aload_n 0, 1) := by decide +kernel
theorem dX6_watch_4 : decode cX6_watch 4 = .ok (.getfield 12, 3) := by decide +kernel
theorem dX6_watch_7 : decode cX6_watch 7 = .ok (.getfield 53, 3) := by decide +kernel
theorem dX6_watch_10 : decode cX6_watch 10 = .ok (.if_icmp .ge 42, 3) := by decide +kernel
theorem dX6_watch_13 : decode cX6_watch 13 = .ok (.aload_n 0, 1) := by decide +kernel
theorem dX6_watch_14 : decode cX6_watch 14 = .ok (.getfield 44, 3) := by decide +kernel
theorem dX6_watch_17 : decode cX6_watch 17 = .ok (.iload_n 1, 1) := by decide +kernel
theorem dX6_watch_18 : decode cX6_watch 18 = .ok (.aload_n 0, 1) := by decide +kernel
theorem dX6_watch_19 : decode cX6_watch 19 = .ok (.getfield 12, 3) := by decide +kernel
theorem dX6_watch_22 : decode cX6_watch 22 = .ok (.iload_n 1, 1) := by decide +kernel
theorem dX6_watch_23 : decode cX6_watch 23 = .ok (.invokevirtual 74, 3) := by decide +kernel
theorem dX6_watch_26 : decode cX6_watch 26 = .ok (.ifCond .eq 7, 3) := by decide +kernel
theorem dX6_watch_29 : decode cX6_watch 29 = .ok (.iconst 0, 1) := by decide +kernel
theorem dX6_watch_30 : decode cX6_watch 30 = .ok (.goto 15, 3) := by decide +kernel
theorem dX6_watch_33 : decode cX6_watch 33 = .ok (.iconst 0, 1) := by decide +kernel
theorem dX6_watch_34 : decode cX6_watch 34 = .ok (.aload_n 0, 1) := by decide +kernel
theorem dX6_watch_35 : decode cX6_watch 35 = .ok (.getfield 12, 3) := by decide +kernel
theorem dX6_watch_38 : decode cX6_watch 38 = .ok (.iload_n 1, 1) := by decide +kernel
theorem dX6_watch_39 : decode cX6_watch 39 = .ok (.invokevirtual 80, 3) := by decide +kernel
theorem dX6_watch_42 : decode cX6_watch 42 = .ok (.invokestatic 278, 3) := by decide +kernel
theorem dX6_watch_45 : decode cX6_watch 45 = .ok (.iastore, 1) := by decide +kernel
theorem dX6_watch_46 : decode cX6_watch 46 = .ok (.iinc 1 1, 3) := by decide +kernel
theorem dX6_watch_49 : decode cX6_watch 49 = .ok (.goto (-47), 3) := by decide +kernel
theorem dX6_watch_52 : decode cX6_watch 52 = .ok (.aload_n 0, 1) := by decide +kernel
theorem dX6_watch_53 : decode cX6_watch 53 = .ok (.getfield 12, 3) := by decide +kernel
theorem dX6_watch_56 : decode cX6_watch 56 = .ok (.invokevirtual 275, 3) := by decide +kernel
theorem dX6_watch_59 : decode cX6_watch 59 = .ok (.aload_n 0, 1) := by decide +kernel
theorem dX6_watch_60 : decode cX6_watch 60 = .ok (.getfield 12, 3) := by decide +kernel
theorem dX6_watch_63 : decode cX6_watch 63 = .ok (.getfield 135, 3) := by decide +kernel
theorem dX6_watch_66 : decode cX6_watch 66 = .ok (.iconst (-1), 1) := by decide +kernel
theorem dX6_watch_67 : decode cX6_watch 67 = .ok (.ixor, 1) := by decide +kernel
theorem dX6_watch_68 : decode cX6_watch 68 = .ok (.iand, 1) := by decide +kernel
theorem dX6_watch_69 : decode cX6_watch 69 = .ok (.istore_n 1, 1) := by decide +kernel
theorem dX6_watch_70 : decode cX6_watch 70 = .ok (.iload_n 1, 1) := by decide +kernel
theorem dX6_watch_71 : decode cX6_watch 71 = .ok (.iload_n 1, 1) := by decide +kernel
theorem dX6_watch_72 : decode cX6_watch 72 = .ok (.ineg, 1) := by decide +kernel
theorem dX6_watch_73 : decode cX6_watch 73 = .ok (.iand, 1) := by decide +kernel
theorem dX6_watch_74 : decode cX6_watch 74 = .ok (.istore_n 2, 1) := by decide +kernel
theorem dX6_watch_75 : decode cX6_watch 75 = .ok (.iconst 0, 1) := by decide +kernel
theorem dX6_watch_76 : decode cX6_watch 76 = .ok (.istore_n 3, 1) := by decide +kernel
theorem dX6_watch_77 : decode cX6_watch 77 = .ok (.iload_n 2, 1) := by decide +kernel
theorem dX6_watch_78 : decode cX6_watch 78 = .ok (.istore 4, 2) := by decide +kernel
theorem dX6_watch_80 : decode cX6_watch 80 = .ok (.iload 4, 2) := by decide +kernel
theorem dX6_watch_82 : decode cX6_watch 82 = .ok (.iload_n 1, 1) := by decide +kernel
theorem dX6_watch_83 : decode cX6_watch 83 = .ok (.if_icmp .gt 58, 3) := by decide +kernel
theorem dX6_watch_86 : decode cX6_watch 86 = .ok (.iload 4, 2) := by decide +kernel
theorem dX6_watch_88 : decode cX6_watch 88 = .ok (.iload_n 1, 1) := by decide +kernel
theorem dX6_watch_89 : decode cX6_watch 89 = .ok (.iconst (-1), 1) := by decide +kernel
theorem dX6_watch_90 : decode cX6_watch 90 = .ok (.ixor, 1) := by decide +kernel
theorem dX6_watch_91 : decode cX6_watch 91 = .ok (.iand, 1) := by decide +kernel
theorem dX6_watch_92 : decode cX6_watch 92 = .ok (.ifCond .ne 14, 3) := by decide +kernel
theorem dX6_watch_95 : decode cX6_watch 95 = .ok (.iload 4, 2) := by decide +kernel
theorem dX6_watch_97 : decode cX6_watch 97 = .ok (.iload_n 2, 1) := by decide +kernel
theorem dX6_watch_98 : decode cX6_watch 98 = .ok (.iand, 1) := by decide +kernel
theorem dX6_watch_99 : decode cX6_watch 99 = .ok (.ifCond .eq 7, 3) := by decide +kernel
theorem dX6_watch_102 : decode cX6_watch 102 = .ok (.iconst 1, 1) := by decide +kernel
theorem dX6_watch_103 : decode cX6_watch 103 = .ok (.goto 4, 3) := by decide +kernel
theorem dX6_watch_106 : decode cX6_watch 106 = .ok (.iconst 0, 1) := by decide +kernel
theorem dX6_watch_107 : decode cX6_watch 107 = .ok (.istore 5, 2) := by decide +kernel
theorem dX6_watch_109 : decode cX6_watch 109 = .ok (.iload 5, 2) := by decide +kernel
theorem dX6_watch_111 : decode cX6_watch 111 = .ok (.ifCond .eq 24, 3) := by decide +kernel
theorem dX6_watch_114 : decode cX6_watch 114 = .ok (.iload_n 3, 1) := by decide +kernel
theorem dX6_watch_115 : decode cX6_watch 115 = .ok (.ifCond .eq 17, 3) := by decide +kernel
theorem dX6_watch_118 : decode cX6_watch 118 = .ok (.aload_n 0, 1) := by decide +kernel
theorem dX6_watch_119 : decode cX6_watch 119 = .ok (.iload 4, 2) := by decide +kernel
theorem dX6_watch_121 : decode cX6_watch 121 = .ok (.invokevirtual 144, 3) := by decide +kernel
theorem dX6_watch_124 : decode cX6_watch 124 = .ok (.aload_n 0, 1) := by decide +kernel
theorem dX6_watch_125 : decode cX6_watch 125 = .ok (.iload_n 3, 1) := by decide +kernel
theorem dX6_watch_126 : decode cX6_watch 126 = .ok (.invokevirtual 144, 3) := by decide +kernel
theorem dX6_watch_129 : decode cX6_watch 129 = .ok (.if_icmp .ge 6, 3) := by decide +kernel
theorem dX6_watch_132 : decode cX6_watch 132 = .ok (.iload 4, 2) := by decide +kernel
theorem dX6_watch_134 : decode cX6_watch 134 = .ok (.istore_n 3, 1) := by decide +kernel
theorem dX6_watch_135 : decode cX6_watch 135 = .ok (.iinc 4 1, 3) := by decide +kernel
theorem dX6_watch_138 : decode cX6_watch 138 = .ok (.goto (-58), 3) := by decide +kernel
theorem dX6_watch_141 : decode cX6_watch 141 = .ok (.iload_n 3, 1) := by decide +kernel
theorem dX6_watch_142 : decode cX6_watch 142 = .ok (.ireturn, 1) := by decide +kernel
theorem dX6_apart_0 : decode cX6_apart 0 = .ok (.iconst 0, 1) := by decide +kernel
theorem dX6_apart_1 : decode cX6_apart 1 = .ok (.istore_n 2, 1) := by decide +kernel
theorem dX6_apart_2 : decode cX6_apart 2 = .ok (.iconst 0, 1) := by decide +kernel
theorem dX6_apart_3 : decode cX6_apart 3 = .ok (.istore_n 3, 1) := by decide +kernel
theorem dX6_apart_4 : decode cX6_apart 4 = .ok (.iload_n 3, 1) := by decide +kernel
theorem dX6_apart_5 : decode cX6_apart 5 = .ok (.aload_n 0, 1) := by decide +kernel
theorem dX6_apart_6 : decode cX6_apart 6 = .ok (.getfield 12, 3) := by decide +kernel
theorem dX6_apart_9 : decode cX6_apart 9 = .ok (.getfield 53, 3) := by decide +kernel
theorem dX6_apart_12 : decode cX6_apart 12 = .ok (.if_icmp .ge 36, 3) := by decide +kernel
theorem dX6_apart_15 : decode cX6_apart 15 = .ok (.iload_n 2, 1) := by decide +kernel
theorem dX6_apart_16 : decode cX6_apart 16 = .ok (.iload_n 1, 1) := by decide +kernel
theorem dX6_apart_17 : decode cX6_apart 17 = .ok (.iload_n 3, 1) := by decide +kernel
theorem dX6_apart_18 : decode cX6_apart 18 = .ok (.ishr, 1) := by decide +kernel
theorem dX6_apart_19 : decode cX6_apart 19 = .ok (.iconst 1, 1) := by decide +kernel
theorem dX6_apart_20 : decode cX6_apart 20 = .ok (.iand, 1) := by decide +kernel
theorem dX6_apart_21 : decode cX6_apart 21 = .ok (.ifCond .eq 12, 3) := by decide +kernel
theorem dX6_apart_24 : decode cX6_apart 24 = .ok (.aload_n 0, 1) := by decide +kernel
theorem dX6_apart_25 : decode cX6_apart 25 = .ok (.getfield 44, 3) := by decide +kernel
theorem dX6_apart_28 : decode cX6_apart 28 = .ok (.iload_n 3, 1) := by decide +kernel
theorem dX6_apart_29 : decode cX6_apart 29 = .ok (.iaload, 1) := by decide +kernel
theorem dX6_apart_30 : decode cX6_apart 30 = .ok (.goto 10, 3) := by decide +kernel
theorem dX6_apart_33 : decode cX6_apart 33 = .ok (.aload_n 0, 1) := by decide +kernel
theorem dX6_apart_34 : decode cX6_apart 34 = .ok (.getfield 44, 3) := by decide +kernel
theorem dX6_apart_37 : decode cX6_apart 37 = .ok (.iload_n 3, 1) := by decide +kernel
theorem dX6_apart_38 : decode cX6_apart 38 = .ok (.iaload, 1) := by decide +kernel
theorem dX6_apart_39 : decode cX6_apart 39 = .ok (.ineg, 1) := by decide +kernel
theorem dX6_apart_40 : decode cX6_apart 40 = .ok (.iadd, 1) := by decide +kernel
theorem dX6_apart_41 : decode cX6_apart 41 = .ok (.istore_n 2, 1) := by decide +kernel
theorem dX6_apart_42 : decode cX6_apart 42 = .ok (.iinc 3 1, 3) := by decide +kernel
theorem dX6_apart_45 : decode cX6_apart 45 = .ok (.goto (-41), 3) := by decide +kernel
theorem dX6_apart_48 : decode cX6_apart 48 = .ok (.iload_n 2, 1) := by decide +kernel
theorem dX6_apart_49 : decode cX6_apart 49 = .ok (.invokestatic 281, 3) := by decide +kernel
theorem dX6_apart_52 : decode cX6_apart 52 = .ok (.ireturn, 1) := by decide +kernel
theorem dX6_likelyNerves_0 : decode cX6_likelyNerves 0 = .ok (.iconst 0, 1) := by decide +kernel
theorem dX6_likelyNerves_1 : decode cX6_likelyNerves 1 = .ok (.istore_n 2, 1) := by decide +kernel
theorem dX6_likelyNerves_2 : decode cX6_likelyNerves 2 = .ok (.iconst 0, 1) := by decide +kernel
theorem dX6_likelyNerves_3 : decode cX6_likelyNerves 3 = .ok (.istore_n 3, 1) := by decide +kernel
theorem dX6_likelyNerves_4 : decode cX6_likelyNerves 4 = .ok (.iload_n 3, 1) := by decide +kernel
theorem dX6_likelyNerves_5 : decode cX6_likelyNerves 5 = .ok (.bipush 20, 2) := by decide +kernel
theorem dX6_likelyNerves_7 : decode cX6_likelyNerves 7 = .ok (.if_icmp .gt 38, 3) := by decide +kernel
theorem dX6_likelyNerves_10 : decode cX6_likelyNerves 10 = .ok (.aload_n 0, 1) := by decide +kernel
theorem dX6_likelyNerves_11 : decode cX6_likelyNerves 11 = .ok (.invokevirtual 151, 3) := by decide +kernel
theorem dX6_likelyNerves_14 : decode cX6_likelyNerves 14 = .ok (.astore 4, 2) := by decide +kernel
theorem dX6_likelyNerves_16 : decode cX6_likelyNerves 16 = .ok (.aload 4, 2) := by decide +kernel
theorem dX6_likelyNerves_18 : decode cX6_likelyNerves 18 = .ok (.getfield 71, 3) := by decide +kernel
theorem dX6_likelyNerves_21 : decode cX6_likelyNerves 21 = .ok (.iload_n 1, 1) := by decide +kernel
theorem dX6_likelyNerves_22 : decode cX6_likelyNerves 22 = .ok (.iload_n 3, 1) := by decide +kernel
theorem dX6_likelyNerves_23 : decode cX6_likelyNerves 23 = .ok (.iastore, 1) := by decide +kernel
theorem dX6_likelyNerves_24 : decode cX6_likelyNerves 24 = .ok (.aload_n 0, 1) := by decide +kernel
theorem dX6_likelyNerves_25 : decode cX6_likelyNerves 25 = .ok (.aload 4, 2) := by decide +kernel
theorem dX6_likelyNerves_27 : decode cX6_likelyNerves 27 = .ok (.invokevirtual 284, 3) := by decide +kernel
theorem dX6_likelyNerves_30 : decode cX6_likelyNerves 30 = .ok (.ifCond .eq 9, 3) := by decide +kernel
theorem dX6_likelyNerves_33 : decode cX6_likelyNerves 33 = .ok (.iload_n 2, 1) := by decide +kernel
theorem dX6_likelyNerves_34 : decode cX6_likelyNerves 34 = .ok (.iconst 1, 1) := by decide +kernel
theorem dX6_likelyNerves_35 : decode cX6_likelyNerves 35 = .ok (.iload_n 3, 1) := by decide +kernel
theorem dX6_likelyNerves_36 : decode cX6_likelyNerves 36 = .ok (.ishl, 1) := by decide +kernel
theorem dX6_likelyNerves_37 : decode cX6_likelyNerves 37 = .ok (.ior, 1) := by decide +kernel
theorem dX6_likelyNerves_38 : decode cX6_likelyNerves 38 = .ok (.istore_n 2, 1) := by decide +kernel
theorem dX6_likelyNerves_39 : decode cX6_likelyNerves 39 = .ok (.iinc 3 1, 3) := by decide +kernel
theorem dX6_likelyNerves_42 : decode cX6_likelyNerves 42 = .ok (.goto (-38), 3) := by decide +kernel
theorem dX6_likelyNerves_45 : decode cX6_likelyNerves 45 = .ok (.iload_n 2, 1) := by decide +kernel
theorem dX6_likelyNerves_46 : decode cX6_likelyNerves 46 = .ok (.ireturn, 1) := by decide +kernel
theorem dX6_likelyNumbers_0 : decode cX6_likelyNumbers 0 = .ok (.iconst 0, 1) := by decide +kernel
theorem dX6_likelyNumbers_1 : decode cX6_likelyNumbers 1 = .ok (.istore_n 2, 1) := by decide +kernel
theorem dX6_likelyNumbers_2 : decode cX6_likelyNumbers 2 = .ok (.iconst 0, 1) := by decide +kernel
theorem dX6_likelyNumbers_3 : decode cX6_likelyNumbers 3 = .ok (.istore_n 3, 1) := by decide +kernel
theorem dX6_likelyNumbers_4 : decode cX6_likelyNumbers 4 = .ok (.iload_n 3, 1) := by decide +kernel
theorem dX6_likelyNumbers_5 : decode cX6_likelyNumbers 5 = .ok (.bipush 9, 2) := by decide +kernel
theorem dX6_likelyNumbers_7 : decode cX6_likelyNumbers 7 = .ok (.if_icmp .gt 38, 3) := by decide +kernel
theorem dX6_likelyNumbers_10 : decode cX6_likelyNumbers 10 = .ok (.aload_n 0, 1) := by decide +kernel
theorem dX6_likelyNumbers_11 : decode cX6_likelyNumbers 11 = .ok (.invokevirtual 151, 3) := by decide +kernel
theorem dX6_likelyNumbers_14 : decode cX6_likelyNumbers 14 = .ok (.astore 4, 2) := by decide +kernel
theorem dX6_likelyNumbers_16 : decode cX6_likelyNumbers 16 = .ok (.aload 4, 2) := by decide +kernel
theorem dX6_likelyNumbers_18 : decode cX6_likelyNumbers 18 = .ok (.getfield 68, 3) := by decide +kernel
theorem dX6_likelyNumbers_21 : decode cX6_likelyNumbers 21 = .ok (.iload_n 1, 1) := by decide +kernel
theorem dX6_likelyNumbers_22 : decode cX6_likelyNumbers 22 = .ok (.iload_n 3, 1) := by decide +kernel
theorem dX6_likelyNumbers_23 : decode cX6_likelyNumbers 23 = .ok (.iastore, 1) := by decide +kernel
theorem dX6_likelyNumbers_24 : decode cX6_likelyNumbers 24 = .ok (.aload_n 0, 1) := by decide +kernel
theorem dX6_likelyNumbers_25 : decode cX6_likelyNumbers 25 = .ok (.aload 4, 2) := by decide +kernel
theorem dX6_likelyNumbers_27 : decode cX6_likelyNumbers 27 = .ok (.invokevirtual 284, 3) := by decide +kernel
theorem dX6_likelyNumbers_30 : decode cX6_likelyNumbers 30 = .ok (.ifCond .eq 9, 3) := by decide +kernel
theorem dX6_likelyNumbers_33 : decode cX6_likelyNumbers 33 = .ok (.iload_n 2, 1) := by decide +kernel
theorem dX6_likelyNumbers_34 : decode cX6_likelyNumbers 34 = .ok (.iconst 1, 1) := by decide +kernel
theorem dX6_likelyNumbers_35 : decode cX6_likelyNumbers 35 = .ok (.iload_n 3, 1) := by decide +kernel
theorem dX6_likelyNumbers_36 : decode cX6_likelyNumbers 36 = .ok (.ishl, 1) := by decide +kernel
theorem dX6_likelyNumbers_37 : decode cX6_likelyNumbers 37 = .ok (.ior, 1) := by decide +kernel
theorem dX6_likelyNumbers_38 : decode cX6_likelyNumbers 38 = .ok (.istore_n 2, 1) := by decide +kernel
theorem dX6_likelyNumbers_39 : decode cX6_likelyNumbers 39 = .ok (.iinc 3 1, 3) := by decide +kernel
theorem dX6_likelyNumbers_42 : decode cX6_likelyNumbers 42 = .ok (.goto (-38), 3) := by decide +kernel
theorem dX6_likelyNumbers_45 : decode cX6_likelyNumbers 45 = .ok (.iload_n 2, 1) := by decide +kernel
theorem dX6_likelyNumbers_46 : decode cX6_likelyNumbers 46 = .ok (.ireturn, 1) := by decide +kernel
theorem dX6_isAsHeard_0 : decode cX6_isAsHeard 0 = .ok (.aload_n 0, 1) := by decide +kernel
theorem dX6_isAsHeard_1 : decode cX6_isAsHeard 1 = .ok (.getfield 12, 3) := by decide +kernel
theorem dX6_isAsHeard_4 : decode cX6_isAsHeard 4 = .ok (.getfield 166, 3) := by decide +kernel
theorem dX6_isAsHeard_7 : decode cX6_isAsHeard 7 = .ok (.invokevirtual 288, 3) := by decide +kernel
theorem dX6_isAsHeard_10 : decode cX6_isAsHeard 10 = .ok (.istore_n 2, 1) := by decide +kernel
theorem dX6_isAsHeard_11 : decode cX6_isAsHeard 11 = .ok (.iconst 0, 1) := by decide +kernel
theorem dX6_isAsHeard_12 : decode cX6_isAsHeard 12 = .ok (.istore_n 3, 1) := by decide +kernel
theorem dX6_isAsHeard_13 : decode cX6_isAsHeard 13 = .ok (.iload_n 3, 1) := by decide +kernel
theorem dX6_isAsHeard_14 : decode cX6_isAsHeard 14 = .ok (.iload_n 2, 1) := by decide +kernel
theorem dX6_isAsHeard_15 : decode cX6_isAsHeard 15 = .ok (.if_icmp .gt 84, 3) := by decide +kernel
theorem dX6_isAsHeard_18 : decode cX6_isAsHeard 18 = .ok (.aload_n 1, 1) := by decide +kernel
theorem dX6_isAsHeard_19 : decode cX6_isAsHeard 19 = .ok (.invokevirtual 132, 3) := by decide +kernel
theorem dX6_isAsHeard_22 : decode cX6_isAsHeard 22 = .ok (.istore 4, 2) := by decide +kernel
theorem dX6_isAsHeard_24 : decode cX6_isAsHeard 24 = .ok (.iconst 0, 1) := by decide +kernel
theorem dX6_isAsHeard_25 : decode cX6_isAsHeard 25 = .ok (.istore 5, 2) := by decide +kernel
theorem dX6_isAsHeard_27 : decode cX6_isAsHeard 27 = .ok (.iload 5, 2) := by decide +kernel
theorem dX6_isAsHeard_29 : decode cX6_isAsHeard 29 = .ok (.aload_n 0, 1) := by decide +kernel
theorem dX6_isAsHeard_30 : decode cX6_isAsHeard 30 = .ok (.getfield 12, 3) := by decide +kernel
theorem dX6_isAsHeard_33 : decode cX6_isAsHeard 33 = .ok (.getfield 166, 3) := by decide +kernel
theorem dX6_isAsHeard_36 : decode cX6_isAsHeard 36 = .ok (.getfield 201, 3) := by decide +kernel
theorem dX6_isAsHeard_39 : decode cX6_isAsHeard 39 = .ok (.if_icmp .ge 46, 3) := by decide +kernel
theorem dX6_isAsHeard_42 : decode cX6_isAsHeard 42 = .ok (.aload_n 0, 1) := by decide +kernel
theorem dX6_isAsHeard_43 : decode cX6_isAsHeard 43 = .ok (.getfield 12, 3) := by decide +kernel
theorem dX6_isAsHeard_46 : decode cX6_isAsHeard 46 = .ok (.getfield 166, 3) := by decide +kernel
theorem dX6_isAsHeard_49 : decode cX6_isAsHeard 49 = .ok (.getfield 204, 3) := by decide +kernel
theorem dX6_isAsHeard_52 : decode cX6_isAsHeard 52 = .ok (.iload 5, 2) := by decide +kernel
theorem dX6_isAsHeard_54 : decode cX6_isAsHeard 54 = .ok (.iaload, 1) := by decide +kernel
theorem dX6_isAsHeard_55 : decode cX6_isAsHeard 55 = .ok (.iload_n 3, 1) := by decide +kernel
theorem dX6_isAsHeard_56 : decode cX6_isAsHeard 56 = .ok (.if_icmp .ne 23, 3) := by decide +kernel
theorem dX6_isAsHeard_59 : decode cX6_isAsHeard 59 = .ok (.aload_n 0, 1) := by decide +kernel
theorem dX6_isAsHeard_60 : decode cX6_isAsHeard 60 = .ok (.getfield 12, 3) := by decide +kernel
theorem dX6_isAsHeard_63 : decode cX6_isAsHeard 63 = .ok (.getfield 166, 3) := by decide +kernel
theorem dX6_isAsHeard_66 : decode cX6_isAsHeard 66 = .ok (.getfield 207, 3) := by decide +kernel
theorem dX6_isAsHeard_69 : decode cX6_isAsHeard 69 = .ok (.iload 5, 2) := by decide +kernel
theorem dX6_isAsHeard_71 : decode cX6_isAsHeard 71 = .ok (.iaload, 1) := by decide +kernel
theorem dX6_isAsHeard_72 : decode cX6_isAsHeard 72 = .ok (.iload 4, 2) := by decide +kernel
theorem dX6_isAsHeard_74 : decode cX6_isAsHeard 74 = .ok (.if_icmp .eq 5, 3) := by decide +kernel
theorem dX6_isAsHeard_77 : decode cX6_isAsHeard 77 = .ok (.iconst 0, 1) := by decide +kernel
theorem dX6_isAsHeard_78 : decode cX6_isAsHeard 78 = .ok (.ireturn, 1) := by decide +kernel
theorem dX6_isAsHeard_79 : decode cX6_isAsHeard 79 = .ok (.iinc 5 1, 3) := by decide +kernel
theorem dX6_isAsHeard_82 : decode cX6_isAsHeard 82 = .ok (.goto (-55), 3) := by decide +kernel
theorem dX6_isAsHeard_85 : decode cX6_isAsHeard 85 = .ok (.aload_n 1, 1) := by decide +kernel
theorem dX6_isAsHeard_86 : decode cX6_isAsHeard 86 = .ok (.iload 4, 2) := by decide +kernel
theorem dX6_isAsHeard_88 : decode cX6_isAsHeard 88 = .ok (.ldc 155, 2) := by decide +kernel
theorem dX6_isAsHeard_90 : decode cX6_isAsHeard 90 = .ok (.invokevirtual 272, 3) := by decide +kernel
theorem dX6_isAsHeard_93 : decode cX6_isAsHeard 93 = .ok (.iinc 3 1, 3) := by decide +kernel
theorem dX6_isAsHeard_96 : decode cX6_isAsHeard 96 = .ok (.goto (-83), 3) := by decide +kernel
theorem dX6_isAsHeard_99 : decode cX6_isAsHeard 99 = .ok (.iconst 1, 1) := by decide +kernel
theorem dX6_isAsHeard_100 : decode cX6_isAsHeard 100 = .ok (.ireturn, 1) := by decide +kernel
theorem dX6_leastOf_0 : decode cX6_leastOf 0 = .ok (.iconst 0, 1) := by decide +kernel
theorem dX6_leastOf_1 : decode cX6_leastOf 1 = .ok (.istore_n 1, 1) := by decide +kernel
theorem dX6_leastOf_2 : decode cX6_leastOf 2 = .ok (.iload_n 1, 1) := by decide +kernel
theorem dX6_leastOf_3 : decode cX6_leastOf 3 = .ok (.bipush 9, 2) := by decide +kernel
theorem dX6_leastOf_5 : decode cX6_leastOf 5 = .ok (.if_icmp .gt 19, 3) := by decide +kernel
theorem dX6_leastOf_8 : decode cX6_leastOf 8 = .ok (.iload_n 0, 1) := by decide +kernel
theorem dX6_leastOf_9 : decode cX6_leastOf 9 = .ok (.iload_n 1, 1) := by decide +kernel
theorem dX6_leastOf_10 : decode cX6_leastOf 10 = .ok (.ishr, 1) := by decide +kernel
theorem dX6_leastOf_11 : decode cX6_leastOf 11 = .ok (.iconst 1, 1) := by decide +kernel
theorem dX6_leastOf_12 : decode cX6_leastOf 12 = .ok (.iand, 1) := by decide +kernel
theorem dX6_leastOf_13 : decode cX6_leastOf 13 = .ok (.ifCond .eq 5, 3) := by decide +kernel
theorem dX6_leastOf_16 : decode cX6_leastOf 16 = .ok (.iload_n 1, 1) := by decide +kernel
theorem dX6_leastOf_17 : decode cX6_leastOf 17 = .ok (.ireturn, 1) := by decide +kernel
theorem dX6_leastOf_18 : decode cX6_leastOf 18 = .ok (.iinc 1 1, 3) := by decide +kernel
theorem dX6_leastOf_21 : decode cX6_leastOf 21 = .ok (.goto (-19), 3) := by decide +kernel
theorem dX6_leastOf_24 : decode cX6_leastOf 24 = .ok (.bipush (-5), 2) := by decide +kernel
theorem dX6_leastOf_26 : decode cX6_leastOf 26 = .ok (.ireturn, 1) := by decide +kernel
theorem dX6_lowest_0 : decode cX6_lowest 0 = .ok (.iload_n 2, 1) := by decide +kernel
theorem dX6_lowest_1 : decode cX6_lowest 1 = .ok (.ifCond .ne 7, 3) := by decide +kernel
theorem dX6_lowest_4 : decode cX6_lowest 4 = .ok (.iload_n 0, 1) := by decide +kernel
theorem dX6_lowest_5 : decode cX6_lowest 5 = .ok (.goto 4, 3) := by decide +kernel
theorem dX6_lowest_8 : decode cX6_lowest 8 = .ok (.iload_n 1, 1) := by decide +kernel
theorem dX6_lowest_9 : decode cX6_lowest 9 = .ok (.istore_n 3, 1) := by decide +kernel
theorem dX6_lowest_10 : decode cX6_lowest 10 = .ok (.iload_n 1, 1) := by decide +kernel
theorem dX6_lowest_11 : decode cX6_lowest 11 = .ok (.istore 4, 2) := by decide +kernel
theorem dX6_lowest_13 : decode cX6_lowest 13 = .ok (.iload 4, 2) := by decide +kernel
theorem dX6_lowest_15 : decode cX6_lowest 15 = .ok (.iconst 1, 1) := by decide +kernel
theorem dX6_lowest_16 : decode cX6_lowest 16 = .ok (.if_icmp .le 29, 3) := by decide +kernel
theorem dX6_lowest_19 : decode cX6_lowest 19 = .ok (.iload_n 0, 1) := by decide +kernel
theorem dX6_lowest_20 : decode cX6_lowest 20 = .ok (.iload 4, 2) := by decide +kernel
theorem dX6_lowest_22 : decode cX6_lowest 22 = .ok (.irem, 1) := by decide +kernel
theorem dX6_lowest_23 : decode cX6_lowest 23 = .ok (.ifCond .ne 16, 3) := by decide +kernel
theorem dX6_lowest_26 : decode cX6_lowest 26 = .ok (.iload_n 1, 1) := by decide +kernel
theorem dX6_lowest_27 : decode cX6_lowest 27 = .ok (.iload 4, 2) := by decide +kernel
theorem dX6_lowest_29 : decode cX6_lowest 29 = .ok (.irem, 1) := by decide +kernel
theorem dX6_lowest_30 : decode cX6_lowest 30 = .ok (.ifCond .ne 9, 3) := by decide +kernel
theorem dX6_lowest_33 : decode cX6_lowest 33 = .ok (.iload_n 3, 1) := by decide +kernel
theorem dX6_lowest_34 : decode cX6_lowest 34 = .ok (.iload 4, 2) := by decide +kernel
theorem dX6_lowest_36 : decode cX6_lowest 36 = .ok (.idiv, 1) := by decide +kernel
theorem dX6_lowest_37 : decode cX6_lowest 37 = .ok (.i2l, 1) := by decide +kernel
theorem dX6_lowest_38 : decode cX6_lowest 38 = .ok (.lreturn, 1) := by decide +kernel
theorem dX6_lowest_39 : decode cX6_lowest 39 = .ok (.iinc 4 (-1), 3) := by decide +kernel
theorem dX6_lowest_42 : decode cX6_lowest 42 = .ok (.goto (-29), 3) := by decide +kernel
theorem dX6_lowest_45 : decode cX6_lowest 45 = .ok (.iload_n 3, 1) := by decide +kernel
theorem dX6_lowest_46 : decode cX6_lowest 46 = .ok (.i2l, 1) := by decide +kernel
theorem dX6_lowest_47 : decode cX6_lowest 47 = .ok (.lreturn, 1) := by decide +kernel
theorem dX6_follow_0 : decode cX6_follow 0 = .ok (.iload_n 1, 1) := by decide +kernel
theorem dX6_follow_1 : decode cX6_follow 1 = .ok (.tableswitch 55 0 2 #[27, 37, 46], 27) := by decide +kernel
theorem dX6_follow_28 : decode cX6_follow 28 = .ok (.aload_n 0, 1) := by decide +kernel
theorem dX6_follow_29 : decode cX6_follow 29 = .ok (.iconst 1, 1) := by decide +kernel
theorem dX6_follow_30 : decode cX6_follow 30 = .ok (.ldc 155, 2) := by decide +kernel
theorem dX6_follow_32 : decode cX6_follow 32 = .ok (.invokevirtual 147, 3) := by decide +kernel
theorem dX6_follow_35 : decode cX6_follow 35 = .ok (.goto 26, 3) := by decide +kernel
theorem dX6_follow_38 : decode cX6_follow 38 = .ok (.aload_n 0, 1) := by decide +kernel
theorem dX6_follow_39 : decode cX6_follow 39 = .ok (.iload_n 2, 1) := by decide +kernel
theorem dX6_follow_40 : decode cX6_follow 40 = .ok (.iconst 1, 1) := by decide +kernel
theorem dX6_follow_41 : decode cX6_follow 41 = .ok (.invokevirtual 87, 3) := by decide +kernel
theorem dX6_follow_44 : decode cX6_follow 44 = .ok (.goto 17, 3) := by decide +kernel
theorem dX6_follow_47 : decode cX6_follow 47 = .ok (.aload_n 0, 1) := by decide +kernel
theorem dX6_follow_48 : decode cX6_follow 48 = .ok (.iload_n 2, 1) := by decide +kernel
theorem dX6_follow_49 : decode cX6_follow 49 = .ok (.iconst 0, 1) := by decide +kernel
theorem dX6_follow_50 : decode cX6_follow 50 = .ok (.invokevirtual 87, 3) := by decide +kernel
theorem dX6_follow_53 : decode cX6_follow 53 = .ok (.goto 8, 3) := by decide +kernel
theorem dX6_follow_56 : decode cX6_follow 56 = .ok (.aload_n 0, 1) := by decide +kernel
theorem dX6_follow_57 : decode cX6_follow 57 = .ok (.iconst 0, 1) := by decide +kernel
theorem dX6_follow_58 : decode cX6_follow 58 = .ok (.putfield 91, 3) := by decide +kernel
theorem dX6_follow_61 : decode cX6_follow 61 = .ok (.return_, 1) := by decide +kernel
theorem dX6_isUnder_0 : decode cX6_isUnder 0 = .ok (.iload_n 0, 1) := by decide +kernel
theorem dX6_isUnder_1 : decode cX6_isUnder 1 = .ok (.istore_n 2, 1) := by decide +kernel
theorem dX6_isUnder_2 : decode cX6_isUnder 2 = .ok (.iconst 0, 1) := by decide +kernel
theorem dX6_isUnder_3 : decode cX6_isUnder 3 = .ok (.istore_n 3, 1) := by decide +kernel
theorem dX6_isUnder_4 : decode cX6_isUnder 4 = .ok (.iload_n 3, 1) := by decide +kernel
theorem dX6_isUnder_5 : decode cX6_isUnder 5 = .ok (.bipush 7, 2) := by decide +kernel
theorem dX6_isUnder_7 : decode cX6_isUnder 7 = .ok (.if_icmp .ge 25, 3) := by decide +kernel
theorem dX6_isUnder_10 : decode cX6_isUnder 10 = .ok (.iload_n 2, 1) := by decide +kernel
theorem dX6_isUnder_11 : decode cX6_isUnder 11 = .ok (.ifCond .lt 21, 3) := by decide +kernel
theorem dX6_isUnder_14 : decode cX6_isUnder 14 = .ok (.iload_n 2, 1) := by decide +kernel
theorem dX6_isUnder_15 : decode cX6_isUnder 15 = .ok (.iload_n 1, 1) := by decide +kernel
theorem dX6_isUnder_16 : decode cX6_isUnder 16 = .ok (.if_icmp .ne 5, 3) := by decide +kernel
theorem dX6_isUnder_19 : decode cX6_isUnder 19 = .ok (.iconst 1, 1) := by decide +kernel
theorem dX6_isUnder_20 : decode cX6_isUnder 20 = .ok (.ireturn, 1) := by decide +kernel
theorem dX6_isUnder_21 : decode cX6_isUnder 21 = .ok (.iload_n 2, 1) := by decide +kernel
theorem dX6_isUnder_22 : decode cX6_isUnder 22 = .ok (.invokestatic 291, 3) := by decide +kernel
theorem dX6_isUnder_25 : decode cX6_isUnder 25 = .ok (.istore_n 2, 1) := by decide +kernel
theorem dX6_isUnder_26 : decode cX6_isUnder 26 = .ok (.iinc 3 1, 3) := by decide +kernel
theorem dX6_isUnder_29 : decode cX6_isUnder 29 = .ok (.goto (-25), 3) := by decide +kernel
theorem dX6_isUnder_32 : decode cX6_isUnder 32 = .ok (.iconst 0, 1) := by decide +kernel
theorem dX6_isUnder_33 : decode cX6_isUnder 33 = .ok (.ireturn, 1) := by decide +kernel
theorem dX6_above_0 : decode cX6_above 0 = .ok (.iload_n 0, 1) := by decide +kernel
theorem dX6_above_1 : decode cX6_above 1 = .ok (.tableswitch 47 1 6 #[39, 39, 39, 41, 43, 45], 39) := by decide +kernel
theorem dX6_above_40 : decode cX6_above 40 = .ok (.iconst 0, 1) := by decide +kernel
theorem dX6_above_41 : decode cX6_above 41 = .ok (.ireturn, 1) := by decide +kernel
theorem dX6_above_42 : decode cX6_above 42 = .ok (.iconst 1, 1) := by decide +kernel
theorem dX6_above_43 : decode cX6_above 43 = .ok (.ireturn, 1) := by decide +kernel
theorem dX6_above_44 : decode cX6_above 44 = .ok (.iconst 2, 1) := by decide +kernel
theorem dX6_above_45 : decode cX6_above 45 = .ok (.ireturn, 1) := by decide +kernel
theorem dX6_above_46 : decode cX6_above 46 = .ok (.iconst 3, 1) := by decide +kernel
theorem dX6_above_47 : decode cX6_above 47 = .ok (.ireturn, 1) := by decide +kernel
theorem dX6_above_48 : decode cX6_above 48 = .ok (.iconst (-1), 1) := by decide +kernel
theorem dX6_above_49 : decode cX6_above 49 = .ok (.ireturn, 1) := by decide +kernel
theorem dX6_fitted_0 : decode cX6_fitted 0 = .ok (.iload_n 0, 1) := by decide +kernel
theorem dX6_fitted_1 : decode cX6_fitted 1 = .ok (.tableswitch 47 0 3 #[31, 36, 41, 45], 31) := by decide +kernel
theorem dX6_fitted_32 : decode cX6_fitted 32 = .ok (.lload_n 1, 1) := by decide +kernel
theorem dX6_fitted_33 : decode cX6_fitted 33 = .ok (.l2i, 1) := by decide +kernel
theorem dX6_fitted_34 : decode cX6_fitted 34 = .ok (.i2b, 1) := by decide +kernel
theorem dX6_fitted_35 : decode cX6_fitted 35 = .ok (.i2l, 1) := by decide +kernel
theorem dX6_fitted_36 : decode cX6_fitted 36 = .ok (.lreturn, 1) := by decide +kernel
theorem dX6_fitted_37 : decode cX6_fitted 37 = .ok (.lload_n 1, 1) := by decide +kernel
theorem dX6_fitted_38 : decode cX6_fitted 38 = .ok (.l2i, 1) := by decide +kernel
theorem dX6_fitted_39 : decode cX6_fitted 39 = .ok (.i2s, 1) := by decide +kernel
theorem dX6_fitted_40 : decode cX6_fitted 40 = .ok (.i2l, 1) := by decide +kernel
theorem dX6_fitted_41 : decode cX6_fitted 41 = .ok (.lreturn, 1) := by decide +kernel
theorem dX6_fitted_42 : decode cX6_fitted 42 = .ok (.lload_n 1, 1) := by decide +kernel
theorem dX6_fitted_43 : decode cX6_fitted 43 = .ok (.l2i, 1) := by decide +kernel
theorem dX6_fitted_44 : decode cX6_fitted 44 = .ok (.i2l, 1) := by decide +kernel
theorem dX6_fitted_45 : decode cX6_fitted 45 = .ok (.lreturn, 1) := by decide +kernel
theorem dX6_fitted_46 : decode cX6_fitted 46 = .ok (.lload_n 1, 1) := by decide +kernel
theorem dX6_fitted_47 : decode cX6_fitted 47 = .ok (.lreturn, 1) := by decide +kernel
theorem dX6_fitted_48 : decode cX6_fitted 48 = .ok (.lload_n 1, 1) := by decide +kernel
theorem dX6_fitted_49 : decode cX6_fitted 49 = .ok (.lconst 0, 1) := by decide +kernel
theorem dX6_fitted_50 : decode cX6_fitted 50 = .ok (.lcmp, 1) := by decide +kernel
theorem dX6_fitted_51 : decode cX6_fitted 51 = .ok (.ifCond .eq 7, 3) := by decide +kernel
theorem dX6_fitted_54 : decode cX6_fitted 54 = .ok (.lconst 1, 1) := by decide +kernel
theorem dX6_fitted_55 : decode cX6_fitted 55 = .ok (.goto 4, 3) := by decide +kernel
theorem dX6_fitted_58 : decode cX6_fitted 58 = .ok (.lconst 0, 1) := by decide +kernel
theorem dX6_fitted_59 : decode cX6_fitted 59 = .ok (.lreturn, 1) := by decide +kernel
theorem dX7_init_0 : decode cX7_init 0 = .ok (.aload_n 0, 1) := by decide +kernel
theorem dX7_init_1 : decode cX7_init 1 = .ok (.invokespecial 1, 3) := by decide +kernel
theorem dX7_init_4 : decode cX7_init 4 = .ok (.aload_n 0, 1) := by decide +kernel
theorem dX7_init_5 : decode cX7_init 5 = .ok (.iconst 0, 1) := by decide +kernel
theorem dX7_init_6 : decode cX7_init 6 = .ok (.putfield 7, 3) := by decide +kernel
theorem dX7_init_9 : decode cX7_init 9 = .ok (.aload_n 0, 1) := by decide +kernel
theorem dX7_init_10 : decode cX7_init 10 = .ok (.iconst 0, 1) := by decide +kernel
theorem dX7_init_11 : decode cX7_init 11 = .ok (.putfield 13, 3) := by decide +kernel
theorem dX7_init_14 : decode cX7_init 14 = .ok (.aload_n 0, 1) := by decide +kernel
theorem dX7_init_15 : decode cX7_init 15 = .ok (.iconst 0, 1) := by decide +kernel
theorem dX7_init_16 : decode cX7_init 16 = .ok (.putfield 16, 3) := by decide +kernel
theorem dX7_init_19 : decode cX7_init 19 = .ok (.aload_n 0, 1) := by decide +kernel
theorem dX7_init_20 : decode cX7_init 20 = .ok (.iconst 0, 1) := by decide +kernel
theorem dX7_init_21 : decode cX7_init 21 = .ok (.putfield 19, 3) := by decide +kernel
theorem dX7_init_24 : decode cX7_init 24 = .ok (.aload_n 0, 1) := by decide +kernel
theorem dX7_init_25 : decode cX7_init 25 = .ok (.iconst 0, 1) := by decide +kernel
theorem dX7_init_26 : decode cX7_init 26 = .ok (.putfield 22, 3) := by decide +kernel
theorem dX7_init_29 : decode cX7_init 29 = .ok (.aload_n 0, 1) := by decide +kernel
theorem dX7_init_30 : decode cX7_init 30 = .ok (.iconst 0, 1) := by decide +kernel
theorem dX7_init_31 : decode cX7_init 31 = .ok (.putfield 25, 3) := by decide +kernel
theorem dX7_init_34 : decode cX7_init 34 = .ok (.aload_n 0, 1) := by decide +kernel
theorem dX7_init_35 : decode cX7_init 35 = .ok (.bipush 6, 2) := by decide +kernel
theorem dX7_init_37 : decode cX7_init 37 = .ok (.newarray .int, 2) := by decide +kernel
theorem dX7_init_39 : decode cX7_init 39 = .ok (.putfield 28, 3) := by decide +kernel
theorem dX7_init_42 : decode cX7_init 42 = .ok (.aload_n 0, 1) := by decide +kernel
theorem dX7_init_43 : decode cX7_init 43 = .ok (.bipush 6, 2) := by decide +kernel
theorem dX7_init_45 : decode cX7_init 45 = .ok (.newarray .int, 2) := by decide +kernel
theorem dX7_init_47 : decode cX7_init 47 = .ok (.putfield 32, 3) := by decide +kernel
theorem dX7_init_50 : decode cX7_init 50 = .ok (.aload_n 0, 1) := by decide +kernel
theorem dX7_init_51 : decode cX7_init 51 = .ok (.bipush 6, 2) := by decide +kernel
theorem dX7_init_53 : decode cX7_init 53 = .ok (.newarray .int, 2) := by decide +kernel
theorem dX7_init_55 : decode cX7_init 55 = .ok (.putfield 35, 3) := by decide +kernel
theorem dX7_init_58 : decode cX7_init 58 = .ok (.aload_n 0, 1) := by decide +kernel
theorem dX7_init_59 : decode cX7_init 59 = .ok (.bipush 6, 2) := by decide +kernel
theorem dX7_init_61 : decode cX7_init 61 = .ok (.newarray .int, 2) := by decide +kernel
theorem dX7_init_63 : decode cX7_init 63 = .ok (.putfield 38, 3) := by decide +kernel
theorem dX7_init_66 : decode cX7_init 66 = .ok (.aload_n 0, 1) := by decide +kernel
theorem dX7_init_67 : decode cX7_init 67 = .ok (.bipush 24, 2) := by decide +kernel
theorem dX7_init_69 : decode cX7_init 69 = .ok (.newarray .int, 2) := by decide +kernel
theorem dX7_init_71 : decode cX7_init 71 = .ok (.putfield 41, 3) := by decide +kernel
theorem dX7_init_74 : decode cX7_init 74 = .ok (.aload_n 0, 1) := by decide +kernel
theorem dX7_init_75 : decode cX7_init 75 = .ok (.iconst 0, 1) := by decide +kernel
theorem dX7_init_76 : decode cX7_init 76 = .ok (.putfield 44, 3) := by decide +kernel
theorem dX7_init_79 : decode cX7_init 79 = .ok (.aload_n 0, 1) := by decide +kernel
theorem dX7_init_80 : decode cX7_init 80 = .ok (.iconst (-1), 1) := by decide +kernel
theorem dX7_init_81 : decode cX7_init 81 = .ok (.putfield 47, 3) := by decide +kernel
theorem dX7_init_84 : decode cX7_init 84 = .ok (.aload_n 0, 1) := by decide +kernel
theorem dX7_init_85 : decode cX7_init 85 = .ok (.iconst 0, 1) := by decide +kernel
theorem dX7_init_86 : decode cX7_init 86 = .ok (.putfield 50, 3) := by decide +kernel
theorem dX7_init_89 : decode cX7_init 89 = .ok (.aload_n 0, 1) := by decide +kernel
theorem dX7_init_90 : decode cX7_init 90 = .ok (.iconst 0, 1) := by decide +kernel
theorem dX7_init_91 : decode cX7_init 91 = .ok (.putfield 53, 3) := by decide +kernel
theorem dX7_init_94 : decode cX7_init 94 = .ok (.aload_n 0, 1) := by decide +kernel
theorem dX7_init_95 : decode cX7_init 95 = .ok (.iconst 0, 1) := by decide +kernel
theorem dX7_init_96 : decode cX7_init 96 = .ok (.putfield 56, 3) := by decide +kernel
theorem dX7_init_99 : decode cX7_init 99 = .ok (.aload_n 0, 1) := by decide +kernel
theorem dX7_init_100 : decode cX7_init 100 = .ok (.bipush 100, 2) := by decide +kernel
theorem dX7_init_102 : decode cX7_init 102 = .ok (.newarray .int, 2) := by decide +kernel
theorem dX7_init_104 : decode cX7_init 104 = .ok (.putfield 59, 3) := by decide +kernel
theorem dX7_init_107 : decode cX7_init 107 = .ok (.aload_n 0, 1) := by decide +kernel
theorem dX7_init_108 : decode cX7_init 108 = .ok (.bipush 6, 2) := by decide +kernel
theorem dX7_init_110 : decode cX7_init 110 = .ok (.newarray .int, 2) := by decide +kernel
theorem dX7_init_112 : decode cX7_init 112 = .ok (.putfield 62, 3) := by decide +kernel
theorem dX7_init_115 : decode cX7_init 115 = .ok (.aload_n 0, 1) := by decide +kernel
theorem dX7_init_116 : decode cX7_init 116 = .ok (.bipush 60, 2) := by decide +kernel
theorem dX7_init_118 : decode cX7_init 118 = .ok (.newarray .int, 2) := by decide +kernel
theorem dX7_init_120 : decode cX7_init 120 = .ok (.putfield 65, 3) := by decide +kernel
theorem dX7_init_123 : decode cX7_init 123 = .ok (.aload_n 0, 1) := by decide +kernel
theorem dX7_init_124 : decode cX7_init 124 = .ok (.bipush 60, 2) := by decide +kernel
theorem dX7_init_126 : decode cX7_init 126 = .ok (.newarray .int, 2) := by decide +kernel
theorem dX7_init_128 : decode cX7_init 128 = .ok (.putfield 68, 3) := by decide +kernel
theorem dX7_init_131 : decode cX7_init 131 = .ok (.aload_n 0, 1) := by decide +kernel
theorem dX7_init_132 : decode cX7_init 132 = .ok (.bipush 60, 2) := by decide +kernel
theorem dX7_init_134 : decode cX7_init 134 = .ok (.newarray .int, 2) := by decide +kernel
theorem dX7_init_136 : decode cX7_init 136 = .ok (.putfield 71, 3) := by decide +kernel
theorem dX7_init_139 : decode cX7_init 139 = .ok (.aload_n 0, 1) := by decide +kernel
theorem dX7_init_140 : decode cX7_init 140 = .ok (.bipush 60, 2) := by decide +kernel
theorem dX7_init_142 : decode cX7_init 142 = .ok (.newarray .int, 2) := by decide +kernel
theorem dX7_init_144 : decode cX7_init 144 = .ok (.putfield 74, 3) := by decide +kernel
theorem dX7_init_147 : decode cX7_init 147 = .ok (.aload_n 0, 1) := by decide +kernel
theorem dX7_init_148 : decode cX7_init 148 = .ok (.sipush 600, 3) := by decide +kernel
theorem dX7_init_151 : decode cX7_init 151 = .ok (.newarray .int, 2) := by decide +kernel
theorem dX7_init_153 : decode cX7_init 153 = .ok (.putfield 77, 3) := by decide +kernel
theorem dX7_init_156 : decode cX7_init 156 = .ok (.aload_n 0, 1) := by decide +kernel
theorem dX7_init_157 : decode cX7_init 157 = .ok (.bipush 101, 2) := by decide +kernel
theorem dX7_init_159 : decode cX7_init 159 = .ok (.newarray .int, 2) := by decide +kernel
theorem dX7_init_161 : decode cX7_init 161 = .ok (.putfield 80, 3) := by decide +kernel
theorem dX7_init_164 : decode cX7_init 164 = .ok (.aload_n 0, 1) := by decide +kernel
theorem dX7_init_165 : decode cX7_init 165 = .ok (.iconst 0, 1) := by decide +kernel
theorem dX7_init_166 : decode cX7_init 166 = .ok (.putfield 83, 3) := by decide +kernel
theorem dX7_init_169 : decode cX7_init 169 = .ok (.aload_n 0, 1) := by decide +kernel
theorem dX7_init_170 : decode cX7_init 170 = .ok (.iconst 0, 1) := by decide +kernel
theorem dX7_init_171 : decode cX7_init 171 = .ok (.putfield 86, 3) := by decide +kernel
theorem dX7_init_174 : decode cX7_init 174 = .ok (.aload_n 0, 1) := by decide +kernel
theorem dX7_init_175 : decode cX7_init 175 = .ok (.iconst 0, 1) := by decide +kernel
theorem dX7_init_176 : decode cX7_init 176 = .ok (.putfield 89, 3) := by decide +kernel
theorem dX7_init_179 : decode cX7_init 179 = .ok (.aload_n 0, 1) := by decide +kernel
theorem dX7_init_180 : decode cX7_init 180 = .ok (.bipush 12, 2) := by decide +kernel
theorem dX7_init_182 : decode cX7_init 182 = .ok (.newarray .int, 2) := by decide +kernel
theorem dX7_init_184 : decode cX7_init 184 = .ok (.dup, 1) := by decide +kernel
theorem dX7_init_185 : decode cX7_init 185 = .ok (.iconst 0, 1) := by decide +kernel
theorem dX7_init_186 : decode cX7_init 186 = .ok (.bipush 108, 2) := by decide +kernel
theorem dX7_init_188 : decode cX7_init 188 = .ok (.iastore, 1) := by decide +kernel
theorem dX7_init_189 : decode cX7_init 189 = .ok (.dup, 1) := by decide +kernel
theorem dX7_init_190 : decode cX7_init 190 = .ok (.iconst 1, 1) := by decide +kernel
theorem dX7_init_191 : decode cX7_init 191 = .ok (.bipush 111, 2) := by decide +kernel
theorem dX7_init_193 : decode cX7_init 193 = .ok (.iastore, 1) := by decide +kernel
theorem dX7_init_194 : decode cX7_init 194 = .ok (.dup, 1) := by decide +kernel
theorem dX7_init_195 : decode cX7_init 195 = .ok (.iconst 2, 1) := by decide +kernel
theorem dX7_init_196 : decode cX7_init 196 = .ok (.bipush 117, 2) := by decide +kernel
theorem dX7_init_198 : decode cX7_init 198 = .ok (.iastore, 1) := by decide +kernel
theorem dX7_init_199 : decode cX7_init 199 = .ok (.dup, 1) := by decide +kernel
theorem dX7_init_200 : decode cX7_init 200 = .ok (.iconst 3, 1) := by decide +kernel
theorem dX7_init_201 : decode cX7_init 201 = .ok (.bipush 100, 2) := by decide +kernel
theorem dX7_init_203 : decode cX7_init 203 = .ok (.iastore, 1) := by decide +kernel
theorem dX7_init_204 : decode cX7_init 204 = .ok (.dup, 1) := by decide +kernel
theorem dX7_init_205 : decode cX7_init 205 = .ok (.iconst 4, 1) := by decide +kernel
theorem dX7_init_206 : decode cX7_init 206 = .ok (.bipush 104, 2) := by decide +kernel
theorem dX7_init_208 : decode cX7_init 208 = .ok (.iastore, 1) := by decide +kernel
theorem dX7_init_209 : decode cX7_init 209 = .ok (.dup, 1) := by decide +kernel
theorem dX7_init_210 : decode cX7_init 210 = .ok (.iconst 5, 1) := by decide +kernel
theorem dX7_init_211 : decode cX7_init 211 = .ok (.bipush 117, 2) := by decide +kernel
theorem dX7_init_213 : decode cX7_init 213 = .ok (.iastore, 1) := by decide +kernel
theorem dX7_init_214 : decode cX7_init 214 = .ok (.dup, 1) := by decide +kernel
theorem dX7_init_215 : decode cX7_init 215 = .ok (.bipush 6, 2) := by decide +kernel
theorem dX7_init_217 : decode cX7_init 217 = .ok (.bipush 115, 2) := by decide +kernel
theorem dX7_init_219 : decode cX7_init 219 = .ok (.iastore, 1) := by decide +kernel
theorem dX7_init_220 : decode cX7_init 220 = .ok (.dup, 1) := by decide +kernel
theorem dX7_init_221 : decode cX7_init 221 = .ok (.bipush 7, 2) := by decide +kernel
theorem dX7_init_223 : decode cX7_init 223 = .ok (.bipush 104, 2) := by decide +kernel
theorem dX7_init_225 : decode cX7_init 225 = .ok (.iastore, 1) := by decide +kernel
theorem dX7_init_226 : decode cX7_init 226 = .ok (.dup, 1) := by decide +kernel
theorem dX7_init_227 : decode cX7_init 227 = .ok (.bipush 8, 2) := by decide +kernel
theorem dX7_init_229 : decode cX7_init 229 = .ok (.bipush 99, 2) := by decide +kernel
theorem dX7_init_231 : decode cX7_init 231 = .ok (.iastore, 1) := by decide +kernel
theorem dX7_init_232 : decode cX7_init 232 = .ok (.dup, 1) := by decide +kernel
theorem dX7_init_233 : decode cX7_init 233 = .ok (.bipush 9, 2) := by decide +kernel
theorem dX7_init_235 : decode cX7_init 235 = .ok (.bipush 97, 2) := by decide +kernel
theorem dX7_init_237 : decode cX7_init 237 = .ok (.iastore, 1) := by decide +kernel
theorem dX7_init_238 : decode cX7_init 238 = .ok (.dup, 1) := by decide +kernel
theorem dX7_init_239 : decode cX7_init 239 = .ok (.bipush 10, 2) := by decide +kernel
theorem dX7_init_241 : decode cX7_init 241 = .ok (.bipush 108, 2) := by decide +kernel
theorem dX7_init_243 : decode cX7_init 243 = .ok (.iastore, 1) := by decide +kernel
theorem dX7_init_244 : decode cX7_init 244 = .ok (.dup, 1) := by decide +kernel
theorem dX7_init_245 : decode cX7_init 245 = .ok (.bipush 11, 2) := by decide +kernel
theorem dX7_init_247 : decode cX7_init 247 = .ok (.bipush 109, 2) := by decide +kernel
theorem dX7_init_249 : decode cX7_init 249 = .ok (.iastore, 1) := by decide +kernel
theorem dX7_init_250 : decode cX7_init 250 = .ok (.putfield 92, 3) := by decide +kernel
theorem dX7_init_253 : decode cX7_init 253 = .ok (.aload_n 0, 1) := by decide +kernel
theorem dX7_init_254 : decode cX7_init 254 = .ok (.bipush 100, 2) := by decide +kernel
theorem dX7_init_256 : decode cX7_init 256 = .ok (.newarray .boolean, 2) := by decide +kernel
theorem dX7_init_258 : decode cX7_init 258 = .ok (.putfield 95, 3) := by decide +kernel
theorem dX7_init_261 : decode cX7_init 261 = .ok (.aload_n 0, 1) := by decide +kernel
theorem dX7_init_262 : decode cX7_init 262 = .ok (.sipush 9999, 3) := by decide +kernel
theorem dX7_init_265 : decode cX7_init 265 = .ok (.putfield 99, 3) := by decide +kernel
theorem dX7_init_268 : decode cX7_init 268 = .ok (.aload_n 0, 1) := by decide +kernel
theorem dX7_init_269 : decode cX7_init 269 = .ok (.iconst 0, 1) := by decide +kernel
theorem dX7_init_270 : decode cX7_init 270 = .ok (.putfield 102, 3) := by decide +kernel
theorem dX7_init_273 : decode cX7_init 273 = .ok (.aload_n 0, 1) := by decide +kernel
theorem dX7_init_274 : decode cX7_init 274 = .ok (.iconst 0, 1) := by decide +kernel
theorem dX7_init_275 : decode cX7_init 275 = .ok (.putfield 105, 3) := by decide +kernel
theorem dX7_init_278 : decode cX7_init 278 = .ok (.aload_n 0, 1) := by decide +kernel
theorem dX7_init_279 : decode cX7_init 279 = .ok (.iconst 0, 1) := by decide +kernel
theorem dX7_init_280 : decode cX7_init 280 = .ok (.putfield 108, 3) := by decide +kernel
theorem dX7_init_283 : decode cX7_init 283 = .ok (.aload_n 0, 1) := by decide +kernel
theorem dX7_init_284 : decode cX7_init 284 = .ok (.iconst 0, 1) := by decide +kernel
theorem dX7_init_285 : decode cX7_init 285 = .ok (.putfield 111, 3) := by decide +kernel
theorem dX7_init_288 : decode cX7_init 288 = .ok (.aload_n 0, 1) := by decide +kernel
theorem dX7_init_289 : decode cX7_init 289 = .ok (.iconst 0, 1) := by decide +kernel
theorem dX7_init_290 : decode cX7_init 290 = .ok (.putfield 114, 3) := by decide +kernel
theorem dX7_init_293 : decode cX7_init 293 = .ok (.aload_n 0, 1) := by decide +kernel
theorem dX7_init_294 : decode cX7_init 294 = .ok (.bipush 6, 2) := by decide +kernel
theorem dX7_init_296 : decode cX7_init 296 = .ok (.newarray .int, 2) := by decide +kernel
theorem dX7_init_298 : decode cX7_init 298 = .ok (.putfield 117, 3) := by decide +kernel
theorem dX7_init_301 : decode cX7_init 301 = .ok (.aload_n 0, 1) := by decide +kernel
theorem dX7_init_302 : decode cX7_init 302 = .ok (.iconst 0, 1) := by decide +kernel
theorem dX7_init_303 : decode cX7_init 303 = .ok (.putfield 120, 3) := by decide +kernel
theorem dX7_init_306 : decode cX7_init 306 = .ok (.aload_n 0, 1) := by decide +kernel
theorem dX7_init_307 : decode cX7_init 307 = .ok (.iconst 5, 1) := by decide +kernel
theorem dX7_init_308 : decode cX7_init 308 = .ok (.newarray .int, 2) := by decide +kernel
theorem dX7_init_310 : decode cX7_init 310 = .ok (.putfield 123, 3) := by decide +kernel
theorem dX7_init_313 : decode cX7_init 313 = .ok (.aload_n 0, 1) := by decide +kernel
theorem dX7_init_314 : decode cX7_init 314 = .ok (.iconst 5, 1) := by decide +kernel
theorem dX7_init_315 : decode cX7_init 315 = .ok (.newarray .int, 2) := by decide +kernel
theorem dX7_init_317 : decode cX7_init 317 = .ok (.putfield 126, 3) := by decide +kernel
theorem dX7_init_320 : decode cX7_init 320 = .ok (.aload_n 0, 1) := by decide +kernel
theorem dX7_init_321 : decode cX7_init 321 = .ok (.iconst 0, 1) := by decide +kernel
theorem dX7_init_322 : decode cX7_init 322 = .ok (.putfield 129, 3) := by decide +kernel
theorem dX7_init_325 : decode cX7_init 325 = .ok (.aload_n 0, 1) := by decide +kernel
theorem dX7_init_326 : decode cX7_init 326 = .ok (.iconst 0, 1) := by decide +kernel
theorem dX7_init_327 : decode cX7_init 327 = .ok (.putfield 132, 3) := by decide +kernel
theorem dX7_init_330 : decode cX7_init 330 = .ok (.aload_n 0, 1) := by decide +kernel
theorem dX7_init_331 : decode cX7_init 331 = .ok (.bipush 10, 2) := by decide +kernel
theorem dX7_init_333 : decode cX7_init 333 = .ok (.newarray .int, 2) := by decide +kernel
theorem dX7_init_335 : decode cX7_init 335 = .ok (.putfield 135, 3) := by decide +kernel
theorem dX7_init_338 : decode cX7_init 338 = .ok (.aload_n 0, 1) := by decide +kernel
theorem dX7_init_339 : decode cX7_init 339 = .ok (.bipush 10, 2) := by decide +kernel
theorem dX7_init_341 : decode cX7_init 341 = .ok (.newarray .int, 2) := by decide +kernel
theorem dX7_init_343 : decode cX7_init 343 = .ok (.putfield 138, 3) := by decide +kernel
theorem dX7_init_346 : decode cX7_init 346 = .ok (.aload_n 0, 1) := by decide +kernel
theorem dX7_init_347 : decode cX7_init 347 = .ok (.bipush 8, 2) := by decide +kernel
theorem dX7_init_349 : decode cX7_init 349 = .ok (.newarray .int, 2) := by decide +kernel
theorem dX7_init_351 : decode cX7_init 351 = .ok (.putfield 141, 3) := by decide +kernel
theorem dX7_init_354 : decode cX7_init 354 = .ok (.aload_n 0, 1) := by decide +kernel
theorem dX7_init_355 : decode cX7_init 355 = .ok (.bipush 8, 2) := by decide +kernel
theorem dX7_init_357 : decode cX7_init 357 = .ok (.newarray .int, 2) := by decide +kernel
theorem dX7_init_359 : decode cX7_init 359 = .ok (.putfield 144, 3) := by decide +kernel
theorem dX7_init_362 : decode cX7_init 362 = .ok (.aload_n 0, 1) := by decide +kernel
theorem dX7_init_363 : decode cX7_init 363 = .ok (.iconst 0, 1) := by decide +kernel
theorem dX7_init_364 : decode cX7_init 364 = .ok (.putfield 147, 3) := by decide +kernel
theorem dX7_init_367 : decode cX7_init 367 = .ok (.aload_n 0, 1) := by decide +kernel
theorem dX7_init_368 : decode cX7_init 368 = .ok (.iconst (-1), 1) := by decide +kernel
theorem dX7_init_369 : decode cX7_init 369 = .ok (.putfield 151, 3) := by decide +kernel
theorem dX7_init_372 : decode cX7_init 372 = .ok (.aload_n 0, 1) := by decide +kernel
theorem dX7_init_373 : decode cX7_init 373 = .ok (.iconst 0, 1) := by decide +kernel
theorem dX7_init_374 : decode cX7_init 374 = .ok (.putfield 154, 3) := by decide +kernel
theorem dX7_init_377 : decode cX7_init 377 = .ok (.aload_n 0, 1) := by decide +kernel
theorem dX7_init_378 : decode cX7_init 378 = .ok (.iconst 0, 1) := by decide +kernel
theorem dX7_init_379 : decode cX7_init 379 = .ok (.putfield 157, 3) := by decide +kernel
theorem dX7_init_382 : decode cX7_init 382 = .ok (.aload_n 0, 1) := by decide +kernel
theorem dX7_init_383 : decode cX7_init 383 = .ok (.iconst 0, 1) := by decide +kernel
theorem dX7_init_384 : decode cX7_init 384 = .ok (.putfield 160, 3) := by decide +kernel
theorem dX7_init_387 : decode cX7_init 387 = .ok (.aload_n 0, 1) := by decide +kernel
theorem dX7_init_388 : decode cX7_init 388 = .ok (.iconst 0, 1) := by decide +kernel
theorem dX7_init_389 : decode cX7_init 389 = .ok (.putfield 163, 3) := by decide +kernel
theorem dX7_init_392 : decode cX7_init 392 = .ok (.aload_n 0, 1) := by decide +kernel
theorem dX7_init_393 : decode cX7_init 393 = .ok (.iconst 0, 1) := by decide +kernel
theorem dX7_init_394 : decode cX7_init 394 = .ok (.putfield 166, 3) := by decide +kernel
theorem dX7_init_397 : decode cX7_init 397 = .ok (.aload_n 0, 1) := by decide +kernel
theorem dX7_init_398 : decode cX7_init 398 = .ok (.iconst 0, 1) := by decide +kernel
theorem dX7_init_399 : decode cX7_init 399 = .ok (.putfield 169, 3) := by decide +kernel
theorem dX7_init_402 : decode cX7_init 402 = .ok (.aload_n 0, 1) := by decide +kernel
theorem dX7_init_403 : decode cX7_init 403 = .ok (.iconst 0, 1) := by decide +kernel
theorem dX7_init_404 : decode cX7_init 404 = .ok (.putfield 172, 3) := by decide +kernel
theorem dX7_init_407 : decode cX7_init 407 = .ok (.aload_n 0, 1) := by decide +kernel
theorem dX7_init_408 : decode cX7_init 408 = .ok (.iconst 0, 1) := by decide +kernel
theorem dX7_init_409 : decode cX7_init 409 = .ok (.putfield 175, 3) := by decide +kernel
theorem dX7_init_412 : decode cX7_init 412 = .ok (.aload_n 0, 1) := by decide +kernel
theorem dX7_init_413 : decode cX7_init 413 = .ok (.iconst 0, 1) := by decide +kernel
theorem dX7_init_414 : decode cX7_init 414 = .ok (.putfield 178, 3) := by decide +kernel
theorem dX7_init_417 : decode cX7_init 417 = .ok (.aload_n 0, 1) := by decide +kernel
theorem dX7_init_418 : decode cX7_init 418 = .ok (.bipush 6, 2) := by decide +kernel
theorem dX7_init_420 : decode cX7_init 420 = .ok (.newarray .int, 2) := by decide +kernel
theorem dX7_init_422 : decode cX7_init 422 = .ok (.putfield 181, 3) := by decide +kernel
theorem dX7_init_425 : decode cX7_init 425 = .ok (.aload_n 0, 1) := by decide +kernel
theorem dX7_init_426 : decode cX7_init 426 = .ok (.bipush 6, 2) := by decide +kernel
theorem dX7_init_428 : decode cX7_init 428 = .ok (.newarray .int, 2) := by decide +kernel
theorem dX7_init_430 : decode cX7_init 430 = .ok (.putfield 184, 3) := by decide +kernel
theorem dX7_init_433 : decode cX7_init 433 = .ok (.aload_n 0, 1) := by decide +kernel
theorem dX7_init_434 : decode cX7_init 434 = .ok (.bipush 6, 2) := by decide +kernel
theorem dX7_init_436 : decode cX7_init 436 = .ok (.newarray .int, 2) := by decide +kernel
theorem dX7_init_438 : decode cX7_init 438 = .ok (.putfield 187, 3) := by decide +kernel
theorem dX7_init_441 : decode cX7_init 441 = .ok (.aload_n 0, 1) := by decide +kernel
theorem dX7_init_442 : decode cX7_init 442 = .ok (.bipush 6, 2) := by decide +kernel
theorem dX7_init_444 : decode cX7_init 444 = .ok (.newarray .int, 2) := by decide +kernel
theorem dX7_init_446 : decode cX7_init 446 = .ok (.putfield 190, 3) := by decide +kernel
theorem dX7_init_449 : decode cX7_init 449 = .ok (.aload_n 0, 1) := by decide +kernel
theorem dX7_init_450 : decode cX7_init 450 = .ok (.bipush 24, 2) := by decide +kernel
theorem dX7_init_452 : decode cX7_init 452 = .ok (.newarray .int, 2) := by decide +kernel
theorem dX7_init_454 : decode cX7_init 454 = .ok (.putfield 193, 3) := by decide +kernel
theorem dX7_init_457 : decode cX7_init 457 = .ok (.aload_n 0, 1) := by decide +kernel
theorem dX7_init_458 : decode cX7_init 458 = .ok (.iconst 5, 1) := by decide +kernel
theorem dX7_init_459 : decode cX7_init 459 = .ok (.newarray .int, 2) := by decide +kernel
theorem dX7_init_461 : decode cX7_init 461 = .ok (.putfield 196, 3) := by decide +kernel
theorem dX7_init_464 : decode cX7_init 464 = .ok (.aload_n 0, 1) := by decide +kernel
theorem dX7_init_465 : decode cX7_init 465 = .ok (.iconst 5, 1) := by decide +kernel
theorem dX7_init_466 : decode cX7_init 466 = .ok (.newarray .int, 2) := by decide +kernel
theorem dX7_init_468 : decode cX7_init 468 = .ok (.putfield 199, 3) := by decide +kernel
theorem dX7_init_471 : decode cX7_init 471 = .ok (.aload_n 0, 1) := by decide +kernel
theorem dX7_init_472 : decode cX7_init 472 = .ok (.bipush 10, 2) := by decide +kernel
theorem dX7_init_474 : decode cX7_init 474 = .ok (.newarray .int, 2) := by decide +kernel
theorem dX7_init_476 : decode cX7_init 476 = .ok (.putfield 202, 3) := by decide +kernel
theorem dX7_init_479 : decode cX7_init 479 = .ok (.aload_n 0, 1) := by decide +kernel
theorem dX7_init_480 : decode cX7_init 480 = .ok (.bipush 10, 2) := by decide +kernel
theorem dX7_init_482 : decode cX7_init 482 = .ok (.newarray .int, 2) := by decide +kernel
theorem dX7_init_484 : decode cX7_init 484 = .ok (.putfield 205, 3) := by decide +kernel
theorem dX7_init_487 : decode cX7_init 487 = .ok (.aload_n 0, 1) := by decide +kernel
theorem dX7_init_488 : decode cX7_init 488 = .ok (.bipush 8, 2) := by decide +kernel
theorem dX7_init_490 : decode cX7_init 490 = .ok (.newarray .int, 2) := by decide +kernel
theorem dX7_init_492 : decode cX7_init 492 = .ok (.putfield 208, 3) := by decide +kernel
theorem dX7_init_495 : decode cX7_init 495 = .ok (.aload_n 0, 1) := by decide +kernel
theorem dX7_init_496 : decode cX7_init 496 = .ok (.bipush 8, 2) := by decide +kernel
theorem dX7_init_498 : decode cX7_init 498 = .ok (.newarray .int, 2) := by decide +kernel
theorem dX7_init_500 : decode cX7_init 500 = .ok (.putfield 211, 3) := by decide +kernel
theorem dX7_init_503 : decode cX7_init 503 = .ok (.aload_n 0, 1) := by decide +kernel
theorem dX7_init_504 : decode cX7_init 504 = .ok (.iconst 0, 1) := by decide +kernel
theorem dX7_init_505 : decode cX7_init 505 = .ok (.putfield 214, 3) := by decide +kernel
theorem dX7_init_508 : decode cX7_init 508 = .ok (.aload_n 0, 1) := by decide +kernel
theorem dX7_init_509 : decode cX7_init 509 = .ok (.bipush 20, 2) := by decide +kernel
theorem dX7_init_511 : decode cX7_init 511 = .ok (.newarray .int, 2) := by decide +kernel
theorem dX7_init_513 : decode cX7_init 513 = .ok (.putfield 217, 3) := by decide +kernel
theorem dX7_init_516 : decode cX7_init 516 = .ok (.aload_n 0, 1) := by decide +kernel
theorem dX7_init_517 : decode cX7_init 517 = .ok (.bipush 6, 2) := by decide +kernel
theorem dX7_init_519 : decode cX7_init 519 = .ok (.newarray .int, 2) := by decide +kernel
theorem dX7_init_521 : decode cX7_init 521 = .ok (.dup, 1) := by decide +kernel
theorem dX7_init_522 : decode cX7_init 522 = .ok (.iconst 0, 1) := by decide +kernel
theorem dX7_init_523 : decode cX7_init 523 = .ok (.iconst (-1), 1) := by decide +kernel
theorem dX7_init_524 : decode cX7_init 524 = .ok (.iastore, 1) := by decide +kernel
theorem dX7_init_525 : decode cX7_init 525 = .ok (.dup, 1) := by decide +kernel
theorem dX7_init_526 : decode cX7_init 526 = .ok (.iconst 1, 1) := by decide +kernel
theorem dX7_init_527 : decode cX7_init 527 = .ok (.iconst (-1), 1) := by decide +kernel
theorem dX7_init_528 : decode cX7_init 528 = .ok (.iastore, 1) := by decide +kernel
theorem dX7_init_529 : decode cX7_init 529 = .ok (.dup, 1) := by decide +kernel
theorem dX7_init_530 : decode cX7_init 530 = .ok (.iconst 2, 1) := by decide +kernel
theorem dX7_init_531 : decode cX7_init 531 = .ok (.iconst (-1), 1) := by decide +kernel
theorem dX7_init_532 : decode cX7_init 532 = .ok (.iastore, 1) := by decide +kernel
theorem dX7_init_533 : decode cX7_init 533 = .ok (.dup, 1) := by decide +kernel
theorem dX7_init_534 : decode cX7_init 534 = .ok (.iconst 3, 1) := by decide +kernel
theorem dX7_init_535 : decode cX7_init 535 = .ok (.iconst (-1), 1) := by decide +kernel
theorem dX7_init_536 : decode cX7_init 536 = .ok (.iastore, 1) := by decide +kernel
theorem dX7_init_537 : decode cX7_init 537 = .ok (.dup, 1) := by decide +kernel
theorem dX7_init_538 : decode cX7_init 538 = .ok (.iconst 4, 1) := by decide +kernel
theorem dX7_init_539 : decode cX7_init 539 = .ok (.iconst (-1), 1) := by decide +kernel
theorem dX7_init_540 : decode cX7_init 540 = .ok (.iastore, 1) := by decide +kernel
theorem dX7_init_541 : decode cX7_init 541 = .ok (.dup, 1) := by decide +kernel
theorem dX7_init_542 : decode cX7_init 542 = .ok (.iconst 5, 1) := by decide +kernel
theorem dX7_init_543 : decode cX7_init 543 = .ok (.iconst (-1), 1) := by decide +kernel
theorem dX7_init_544 : decode cX7_init 544 = .ok (.iastore, 1) := by decide +kernel
theorem dX7_init_545 : decode cX7_init 545 = .ok (.putfield 220, 3) := by decide +kernel
theorem dX7_init_548 : decode cX7_init 548 = .ok (.aload_n 0, 1) := by decide +kernel
theorem dX7_init_549 : decode cX7_init 549 = .ok (.bipush 6, 2) := by decide +kernel
theorem dX7_init_551 : decode cX7_init 551 = .ok (.newarray .int, 2) := by decide +kernel
theorem dX7_init_553 : decode cX7_init 553 = .ok (.putfield 223, 3) := by decide +kernel
theorem dX7_init_556 : decode cX7_init 556 = .ok (.aload_n 0, 1) := by decide +kernel
theorem dX7_init_557 : decode cX7_init 557 = .ok (.sipush 360, 3) := by decide +kernel
theorem dX7_init_560 : decode cX7_init 560 = .ok (.newarray .long, 2) := by decide +kernel
theorem dX7_init_562 : decode cX7_init 562 = .ok (.putfield 226, 3) := by decide +kernel
theorem dX7_init_565 : decode cX7_init 565 = .ok (.aload_n 0, 1) := by decide +kernel
theorem dX7_init_566 : decode cX7_init 566 = .ok (.bipush 60, 2) := by decide +kernel
theorem dX7_init_568 : decode cX7_init 568 = .ok (.newarray .long, 2) := by decide +kernel
theorem dX7_init_570 : decode cX7_init 570 = .ok (.putfield 230, 3) := by decide +kernel
theorem dX7_init_573 : decode cX7_init 573 = .ok (.return_, 1) := by decide +kernel
theorem dX7_in_0 : decode cX7_in 0 = .ok (.iload_n 1, 1) := by decide +kernel
theorem dX7_in_1 : decode cX7_in 1 = .ok (.iload_n 2, 1) := by decide +kernel
theorem dX7_in_2 : decode cX7_in 2 = .ok (.if_icmp .lt 12, 3) := by decide +kernel
theorem dX7_in_5 : decode cX7_in 5 = .ok (.iload_n 1, 1) := by decide +kernel
theorem dX7_in_6 : decode cX7_in 6 = .ok (.iload_n 3, 1) := by decide +kernel
theorem dX7_in_7 : decode cX7_in 7 = .ok (.if_icmp .gt 7, 3) := by decide +kernel
theorem dX7_in_10 : decode cX7_in 10 = .ok (.iconst 1, 1) := by decide +kernel
theorem dX7_in_11 : decode cX7_in 11 = .ok (.goto 4, 3) := by decide +kernel
theorem dX7_in_14 : decode cX7_in 14 = .ok (.iconst 0, 1) := by decide +kernel
theorem dX7_in_15 : decode cX7_in 15 = .ok (.ireturn, 1) := by decide +kernel
theorem dX7_has_0 : decode cX7_has 0 = .ok (.iload_n 1, 1) := by decide +kernel
theorem dX7_has_1 : decode cX7_has 1 = .ok (.iload_n 2, 1) := by decide +kernel
theorem dX7_has_2 : decode cX7_has 2 = .ok (.ishr, 1) := by decide +kernel
theorem dX7_has_3 : decode cX7_has 3 = .ok (.iconst 1, 1) := by decide +kernel
theorem dX7_has_4 : decode cX7_has 4 = .ok (.iand, 1) := by decide +kernel
theorem dX7_has_5 : decode cX7_has 5 = .ok (.iconst 1, 1) := by decide +kernel
theorem dX7_has_6 : decode cX7_has 6 = .ok (.if_icmp .ne 7, 3) := by decide +kernel
theorem dX7_has_9 : decode cX7_has 9 = .ok (.iconst 1, 1) := by decide +kernel
theorem dX7_has_10 : decode cX7_has 10 = .ok (.goto 4, 3) := by decide +kernel
theorem dX7_has_13 : decode cX7_has 13 = .ok (.iconst 0, 1) := by decide +kernel
theorem dX7_has_14 : decode cX7_has 14 = .ok (.ireturn, 1) := by decide +kernel
theorem dX7_least_0 : decode cX7_least 0 = .ok (.iload_n 1, 1) := by decide +kernel
theorem dX7_least_1 : decode cX7_least 1 = .ok (.iload_n 2, 1) := by decide +kernel
theorem dX7_least_2 : decode cX7_least 2 = .ok (.if_icmp .ge 7, 3) := by decide +kernel
theorem dX7_least_5 : decode cX7_least 5 = .ok (.iload_n 1, 1) := by decide +kernel
theorem dX7_least_6 : decode cX7_least 6 = .ok (.goto 4, 3) := by decide +kernel
theorem dX7_least_9 : decode cX7_least 9 = .ok (.iload_n 2, 1) := by decide +kernel
theorem dX7_least_10 : decode cX7_least 10 = .ok (.ireturn, 1) := by decide +kernel
theorem dX7_bits_0 : decode cX7_bits 0 = .ok (.iconst 0, 1) := by decide +kernel
theorem dX7_bits_1 : decode cX7_bits 1 = .ok (.istore_n 2, 1) := by decide +kernel
theorem dX7_bits_2 : decode cX7_bits 2 = .ok (.iconst 0, 1) := by decide +kernel
theorem dX7_bits_3 : decode cX7_bits 3 = .ok (.istore_n 3, 1) := by decide +kernel
theorem dX7_bits_4 : decode cX7_bits 4 = .ok (.iload_n 3, 1) := by decide +kernel
theorem dX7_bits_5 : decode cX7_bits 5 = .ok (.bipush 6, 2) := by decide +kernel
theorem dX7_bits_7 : decode cX7_bits 7 = .ok (.if_icmp .ge 26, 3) := by decide +kernel
theorem dX7_bits_10 : decode cX7_bits 10 = .ok (.iload_n 2, 1) := by decide +kernel
theorem dX7_bits_11 : decode cX7_bits 11 = .ok (.aload_n 0, 1) := by decide +kernel
theorem dX7_bits_12 : decode cX7_bits 12 = .ok (.iload_n 1, 1) := by decide +kernel
theorem dX7_bits_13 : decode cX7_bits 13 = .ok (.iload_n 3, 1) := by decide +kernel
theorem dX7_bits_14 : decode cX7_bits 14 = .ok (.invokevirtual 233, 3) := by decide +kernel
theorem dX7_bits_17 : decode cX7_bits 17 = .ok (.ifCond .eq 7, 3) := by decide +kernel
theorem dX7_bits_20 : decode cX7_bits 20 = .ok (.iconst 1, 1) := by decide +kernel
theorem dX7_bits_21 : decode cX7_bits 21 = .ok (.goto 4, 3) := by decide +kernel
theorem dX7_bits_24 : decode cX7_bits 24 = .ok (.iconst 0, 1) := by decide +kernel
theorem dX7_bits_25 : decode cX7_bits 25 = .ok (.iadd, 1) := by decide +kernel
theorem dX7_bits_26 : decode cX7_bits 26 = .ok (.istore_n 2, 1) := by decide +kernel
theorem dX7_bits_27 : decode cX7_bits 27 = .ok (.iinc 3 1, 3) := by decide +kernel
theorem dX7_bits_30 : decode cX7_bits 30 = .ok (.goto (-26), 3) := by decide +kernel
theorem dX7_bits_33 : decode cX7_bits 33 = .ok (.iload_n 2, 1) := by decide +kernel
theorem dX7_bits_34 : decode cX7_bits 34 = .ok (.ireturn, 1) := by decide +kernel
theorem dX7_isMan_0 : decode cX7_isMan 0 = .ok (.aload_n 0, 1) := by decide +kernel
theorem dX7_isMan_1 : decode cX7_isMan 1 = .ok (.iload_n 1, 1) := by decide +kernel
theorem dX7_isMan_2 : decode cX7_isMan 2 = .ok (.iconst 0, 1) := by decide +kernel
theorem dX7_isMan_3 : decode cX7_isMan 3 = .ok (.aload_n 0, 1) := by decide +kernel
theorem dX7_isMan_4 : decode cX7_isMan 4 = .ok (.getfield 7, 3) := by decide +kernel
theorem dX7_isMan_7 : decode cX7_isMan 7 = .ok (.iconst 1, 1) := by decide +kernel
theorem dX7_isMan_8 : decode cX7_isMan 8 = .ok (.isub, 1) := by decide +kernel
theorem dX7_isMan_9 : decode cX7_isMan 9 = .ok (.invokevirtual 237, 3) := by decide +kernel
theorem dX7_isMan_12 : decode cX7_isMan 12 = .ok (.ireturn, 1) := by decide +kernel
theorem dX7_isNerve_0 : decode cX7_isNerve 0 = .ok (.aload_n 0, 1) := by decide +kernel
theorem dX7_isNerve_1 : decode cX7_isNerve 1 = .ok (.iload_n 1, 1) := by decide +kernel
theorem dX7_isNerve_2 : decode cX7_isNerve 2 = .ok (.iconst 0, 1) := by decide +kernel
theorem dX7_isNerve_3 : decode cX7_isNerve 3 = .ok (.bipush 20, 2) := by decide +kernel
theorem dX7_isNerve_5 : decode cX7_isNerve 5 = .ok (.invokevirtual 237, 3) := by decide +kernel
theorem dX7_isNerve_8 : decode cX7_isNerve 8 = .ok (.ireturn, 1) := by decide +kernel
theorem dX7_isDays_0 : decode cX7_isDays 0 = .ok (.aload_n 0, 1) := by decide +kernel
theorem dX7_isDays_1 : decode cX7_isDays 1 = .ok (.iload_n 1, 1) := by decide +kernel
theorem dX7_isDays_2 : decode cX7_isDays 2 = .ok (.iconst 0, 1) := by decide +kernel
theorem dX7_isDays_3 : decode cX7_isDays 3 = .ok (.bipush 60, 2) := by decide +kernel
theorem dX7_isDays_5 : decode cX7_isDays 5 = .ok (.invokevirtual 237, 3) := by decide +kernel
theorem dX7_isDays_8 : decode cX7_isDays 8 = .ok (.ireturn, 1) := by decide +kernel
theorem dX7_man_0 : decode cX7_man 0 = .ok (.aload_n 0, 1) := by decide +kernel
theorem dX7_man_1 : decode cX7_man 1 = .ok (.iload_n 1, 1) := by decide +kernel
theorem dX7_man_2 : decode cX7_man 2 = .ok (.iconst 0, 1) := by decide +kernel
theorem dX7_man_3 : decode cX7_man 3 = .ok (.bipush 6, 2) := by decide +kernel
theorem dX7_man_5 : decode cX7_man 5 = .ok (.invokevirtual 237, 3) := by decide +kernel
theorem dX7_man_8 : decode cX7_man 8 = .ok (.ifCond .ne 5, 3) := by decide +kernel
theorem dX7_man_11 : decode cX7_man 11 = .ok (.iconst (-1), 1) := by decide +kernel
theorem dX7_man_12 : decode cX7_man 12 = .ok (.ireturn, 1) := by decide +kernel
theorem dX7_man_13 : decode cX7_man 13 = .ok (.aload_n 0, 1) := by decide +kernel
theorem dX7_man_14 : decode cX7_man 14 = .ok (.iload_n 2, 1) := by decide +kernel
theorem dX7_man_15 : decode cX7_man 15 = .ok (.iconst 0, 1) := by decide +kernel
theorem dX7_man_16 : decode cX7_man 16 = .ok (.bipush 9, 2) := by decide +kernel
theorem dX7_man_18 : decode cX7_man 18 = .ok (.invokevirtual 237, 3) := by decide +kernel
theorem dX7_man_21 : decode cX7_man 21 = .ok (.ifCond .eq 11, 3) := by decide +kernel
theorem dX7_man_24 : decode cX7_man 24 = .ok (.aload_n 0, 1) := by decide +kernel
theorem dX7_man_25 : decode cX7_man 25 = .ok (.iload_n 3, 1) := by decide +kernel
theorem dX7_man_26 : decode cX7_man 26 = .ok (.invokevirtual 241, 3) := by decide +kernel
theorem dX7_man_29 : decode cX7_man 29 = .ok (.ifCond .ne 6, 3) := by decide +kernel
theorem dX7_man_32 : decode cX7_man 32 = .ok (.bipush (-2), 2) := by decide +kernel
theorem dX7_man_34 : decode cX7_man 34 = .ok (.ireturn, 1) := by decide +kernel
theorem dX7_man_35 : decode cX7_man 35 = .ok (.aload_n 0, 1) := by decide +kernel
theorem dX7_man_36 : decode cX7_man 36 = .ok (.getfield 7, 3) := by decide +kernel
theorem dX7_man_39 : decode cX7_man 39 = .ok (.bipush 6, 2) := by decide +kernel
theorem dX7_man_41 : decode cX7_man 41 = .ok (.if_icmp .ne 6, 3) := by decide +kernel
theorem dX7_man_44 : decode cX7_man 44 = .ok (.bipush (-4), 2) := by decide +kernel
theorem dX7_man_46 : decode cX7_man 46 = .ok (.ireturn, 1) := by decide +kernel
theorem dX7_man_47 : decode cX7_man 47 = .ok (.aload_n 0, 1) := by decide +kernel
theorem dX7_man_48 : decode cX7_man 48 = .ok (.getfield 28, 3) := by decide +kernel
theorem dX7_man_51 : decode cX7_man 51 = .ok (.aload_n 0, 1) := by decide +kernel
theorem dX7_man_52 : decode cX7_man 52 = .ok (.getfield 7, 3) := by decide +kernel
theorem dX7_man_55 : decode cX7_man 55 = .ok (.iload_n 1, 1) := by decide +kernel
theorem dX7_man_56 : decode cX7_man 56 = .ok (.iastore, 1) := by decide +kernel
theorem dX7_man_57 : decode cX7_man 57 = .ok (.aload_n 0, 1) := by decide +kernel
theorem dX7_man_58 : decode cX7_man 58 = .ok (.getfield 32, 3) := by decide +kernel
theorem dX7_man_61 : decode cX7_man 61 = .ok (.aload_n 0, 1) := by decide +kernel
theorem dX7_man_62 : decode cX7_man 62 = .ok (.getfield 7, 3) := by decide +kernel
theorem dX7_man_65 : decode cX7_man 65 = .ok (.iload_n 2, 1) := by decide +kernel
theorem dX7_man_66 : decode cX7_man 66 = .ok (.iastore, 1) := by decide +kernel
theorem dX7_man_67 : decode cX7_man 67 = .ok (.aload_n 0, 1) := by decide +kernel
theorem dX7_man_68 : decode cX7_man 68 = .ok (.getfield 35, 3) := by decide +kernel
theorem dX7_man_71 : decode cX7_man 71 = .ok (.aload_n 0, 1) := by decide +kernel
theorem dX7_man_72 : decode cX7_man 72 = .ok (.getfield 7, 3) := by decide +kernel
theorem dX7_man_75 : decode cX7_man 75 = .ok (.iload_n 3, 1) := by decide +kernel
theorem dX7_man_76 : decode cX7_man 76 = .ok (.iastore, 1) := by decide +kernel
theorem dX7_man_77 : decode cX7_man 77 = .ok (.aload_n 0, 1) := by decide +kernel
theorem dX7_man_78 : decode cX7_man 78 = .ok (.getfield 38, 3) := by decide +kernel
theorem dX7_man_81 : decode cX7_man 81 = .ok (.aload_n 0, 1) := by decide +kernel
theorem dX7_man_82 : decode cX7_man 82 = .ok (.getfield 7, 3) := by decide +kernel
theorem dX7_man_85 : decode cX7_man 85 = .ok (.iconst 0, 1) := by decide +kernel
theorem dX7_man_86 : decode cX7_man 86 = .ok (.iastore, 1) := by decide +kernel
theorem dX7_man_87 : decode cX7_man 87 = .ok (.aload_n 0, 1) := by decide +kernel
theorem dX7_man_88 : decode cX7_man 88 = .ok (.dup, 1) := by decide +kernel
theorem dX7_man_89 : decode cX7_man 89 = .ok (.getfield 13, 3) := by decide +kernel
theorem dX7_man_92 : decode cX7_man 92 = .ok (.iconst 1, 1) := by decide +kernel
theorem dX7_man_93 : decode cX7_man 93 = .ok (.aload_n 0, 1) := by decide +kernel
theorem dX7_man_94 : decode cX7_man 94 = .ok (.getfield 7, 3) := by decide +kernel
theorem dX7_man_97 : decode cX7_man 97 = .ok (.ishl, 1) := by decide +kernel
theorem dX7_man_98 : decode cX7_man 98 = .ok (.iconst (-1), 1) := by decide +kernel
theorem dX7_man_99 : decode cX7_man 99 = .ok (.ixor, 1) := by decide +kernel
theorem dX7_man_100 : decode cX7_man 100 = .ok (.iand, 1) := by decide +kernel
theorem dX7_man_101 : decode cX7_man 101 = .ok (.putfield 13, 3) := by decide +kernel
theorem dX7_man_104 : decode cX7_man 104 = .ok (.iconst 0, 1) := by decide +kernel
theorem dX7_man_105 : decode cX7_man 105 = .ok (.istore 4, 2) := by decide +kernel
theorem dX7_man_107 : decode cX7_man 107 = .ok (.iload 4, 2) := by decide +kernel
theorem dX7_man_109 : decode cX7_man 109 = .ok (.iconst 4, 1) := by decide +kernel
theorem dX7_man_110 : decode cX7_man 110 = .ok (.if_icmp .ge 24, 3) := by decide +kernel
theorem dX7_man_113 : decode cX7_man 113 = .ok (.aload_n 0, 1) := by decide +kernel
theorem dX7_man_114 : decode cX7_man 114 = .ok (.getfield 41, 3) := by decide +kernel
theorem dX7_man_117 : decode cX7_man 117 = .ok (.iconst 4, 1) := by decide +kernel
theorem dX7_man_118 : decode cX7_man 118 = .ok (.aload_n 0, 1) := by decide +kernel
theorem dX7_man_119 : decode cX7_man 119 = .ok (.getfield 7, 3) := by decide +kernel
theorem dX7_man_122 : decode cX7_man 122 = .ok (.imul, 1) := by decide +kernel
theorem dX7_man_123 : decode cX7_man 123 = .ok (.iload 4, 2) := by decide +kernel
theorem dX7_man_125 : decode cX7_man 125 = .ok (.iadd, 1) := by decide +kernel
theorem dX7_man_126 : decode cX7_man 126 = .ok (.iconst 0, 1) := by decide +kernel
theorem dX7_man_127 : decode cX7_man 127 = .ok (.iastore, 1) := by decide +kernel
theorem dX7_man_128 : decode cX7_man 128 = .ok (.iinc 4 1, 3) := by decide +kernel
theorem dX7_man_131 : decode cX7_man 131 = .ok (.goto (-24), 3) := by decide +kernel
theorem dX7_man_134 : decode cX7_man 134 = .ok (.aload_n 0, 1) := by decide +kernel
theorem dX7_man_135 : decode cX7_man 135 = .ok (.dup, 1) := by decide +kernel
theorem dX7_man_136 : decode cX7_man 136 = .ok (.getfield 7, 3) := by decide +kernel
theorem dX7_man_139 : decode cX7_man 139 = .ok (.iconst 1, 1) := by decide +kernel
theorem dX7_man_140 : decode cX7_man 140 = .ok (.iadd, 1) := by decide +kernel
theorem dX7_man_141 : decode cX7_man 141 = .ok (.putfield 7, 3) := by decide +kernel
theorem dX7_man_144 : decode cX7_man 144 = .ok (.aload_n 0, 1) := by decide +kernel
theorem dX7_man_145 : decode cX7_man 145 = .ok (.getfield 7, 3) := by decide +kernel
theorem dX7_man_148 : decode cX7_man 148 = .ok (.iconst 1, 1) := by decide +kernel
theorem dX7_man_149 : decode cX7_man 149 = .ok (.isub, 1) := by decide +kernel
theorem dX7_man_150 : decode cX7_man 150 = .ok (.ireturn, 1) := by decide +kernel
theorem dX7_steady_0 : decode cX7_steady 0 = .ok (.aload_n 0, 1) := by decide +kernel
theorem dX7_steady_1 : decode cX7_steady 1 = .ok (.iload_n 1, 1) := by decide +kernel
theorem dX7_steady_2 : decode cX7_steady 2 = .ok (.invokevirtual 245, 3) := by decide +kernel
theorem dX7_steady_5 : decode cX7_steady 5 = .ok (.ifCond .ne 5, 3) := by decide +kernel
theorem dX7_steady_8 : decode cX7_steady 8 = .ok (.iconst (-1), 1) := by decide +kernel
theorem dX7_steady_9 : decode cX7_steady 9 = .ok (.ireturn, 1) := by decide +kernel
theorem dX7_steady_10 : decode cX7_steady 10 = .ok (.aload_n 0, 1) := by decide +kernel
theorem dX7_steady_11 : decode cX7_steady 11 = .ok (.iload_n 2, 1) := by decide +kernel
theorem dX7_steady_12 : decode cX7_steady 12 = .ok (.invokevirtual 241, 3) := by decide +kernel
theorem dX7_steady_15 : decode cX7_steady 15 = .ok (.ifCond .ne 6, 3) := by decide +kernel
theorem dX7_steady_18 : decode cX7_steady 18 = .ok (.bipush (-2), 2) := by decide +kernel
theorem dX7_steady_20 : decode cX7_steady 20 = .ok (.ireturn, 1) := by decide +kernel
theorem dX7_steady_21 : decode cX7_steady 21 = .ok (.aload_n 0, 1) := by decide +kernel
theorem dX7_steady_22 : decode cX7_steady 22 = .ok (.getfield 35, 3) := by decide +kernel
theorem dX7_steady_25 : decode cX7_steady 25 = .ok (.iload_n 1, 1) := by decide +kernel
theorem dX7_steady_26 : decode cX7_steady 26 = .ok (.iaload, 1) := by decide +kernel
theorem dX7_steady_27 : decode cX7_steady 27 = .ok (.istore_n 3, 1) := by decide +kernel
theorem dX7_steady_28 : decode cX7_steady 28 = .ok (.aload_n 0, 1) := by decide +kernel
theorem dX7_steady_29 : decode cX7_steady 29 = .ok (.getfield 35, 3) := by decide +kernel
theorem dX7_steady_32 : decode cX7_steady 32 = .ok (.iload_n 1, 1) := by decide +kernel
theorem dX7_steady_33 : decode cX7_steady 33 = .ok (.iload_n 2, 1) := by decide +kernel
theorem dX7_steady_34 : decode cX7_steady 34 = .ok (.iastore, 1) := by decide +kernel
theorem dX7_steady_35 : decode cX7_steady 35 = .ok (.iload_n 3, 1) := by decide +kernel
theorem dX7_steady_36 : decode cX7_steady 36 = .ok (.ireturn, 1) := by decide +kernel
theorem dX7_goes_0 : decode cX7_goes 0 = .ok (.aload_n 0, 1) := by decide +kernel
theorem dX7_goes_1 : decode cX7_goes 1 = .ok (.iload_n 2, 1) := by decide +kernel
theorem dX7_goes_2 : decode cX7_goes 2 = .ok (.ifCond .eq 14, 3) := by decide +kernel
theorem dX7_goes_5 : decode cX7_goes 5 = .ok (.aload_n 0, 1) := by decide +kernel
theorem dX7_goes_6 : decode cX7_goes 6 = .ok (.getfield 13, 3) := by decide +kernel
theorem dX7_goes_9 : decode cX7_goes 9 = .ok (.iconst 1, 1) := by decide +kernel
theorem dX7_goes_10 : decode cX7_goes 10 = .ok (.iload_n 1, 1) := by decide +kernel
theorem dX7_goes_11 : decode cX7_goes 11 = .ok (.ishl, 1) := by decide +kernel
theorem dX7_goes_12 : decode cX7_goes 12 = .ok (.ior, 1) := by decide +kernel
theorem dX7_goes_13 : decode cX7_goes 13 = .ok (.goto 13, 3) := by decide +kernel
theorem dX7_goes_16 : decode cX7_goes 16 = .ok (.aload_n 0, 1) := by decide +kernel
theorem dX7_goes_17 : decode cX7_goes 17 = .ok (.getfield 13, 3) := by decide +kernel
theorem dX7_goes_20 : decode cX7_goes 20 = .ok (.iconst 1, 1) := by decide +kernel
theorem dX7_goes_21 : decode cX7_goes 21 = .ok (.iload_n 1, 1) := by decide +kernel
theorem dX7_goes_22 : decode cX7_goes 22 = .ok (.ishl, 1) := by decide +kernel
theorem dX7_goes_23 : decode cX7_goes 23 = .ok (.iconst (-1), 1) := by decide +kernel
theorem dX7_goes_24 : decode cX7_goes 24 = .ok (.ixor, 1) := by decide +kernel
theorem dX7_goes_25 : decode cX7_goes 25 = .ok (.iand, 1) := by decide +kernel
theorem dX7_goes_26 : decode cX7_goes 26 = .ok (.putfield 13, 3) := by decide +kernel
theorem dX7_goes_29 : decode cX7_goes 29 = .ok (.return_, 1) := by decide +kernel
theorem dX7_change_0 : decode cX7_change 0 = .ok (.aload_n 0, 1) := by decide +kernel
theorem dX7_change_1 : decode cX7_change 1 = .ok (.iload_n 1, 1) := by decide +kernel
theorem dX7_change_2 : decode cX7_change 2 = .ok (.invokevirtual 245, 3) := by decide +kernel
theorem dX7_change_5 : decode cX7_change 5 = .ok (.ifCond .ne 5, 3) := by decide +kernel
theorem dX7_change_8 : decode cX7_change 8 = .ok (.iconst (-1), 1) := by decide +kernel
theorem dX7_change_9 : decode cX7_change 9 = .ok (.ireturn, 1) := by decide +kernel
theorem dX7_change_10 : decode cX7_change 10 = .ok (.aload_n 0, 1) := by decide +kernel
theorem dX7_change_11 : decode cX7_change 11 = .ok (.aload_n 0, 1) := by decide +kernel
theorem dX7_change_12 : decode cX7_change 12 = .ok (.getfield 13, 3) := by decide +kernel
theorem dX7_change_15 : decode cX7_change 15 = .ok (.iload_n 1, 1) := by decide +kernel
theorem dX7_change_16 : decode cX7_change 16 = .ok (.invokevirtual 233, 3) := by decide +kernel
theorem dX7_change_19 : decode cX7_change 19 = .ok (.ifCond .eq 7, 3) := by decide +kernel
theorem dX7_change_22 : decode cX7_change 22 = .ok (.iconst 1, 1) := by decide +kernel
theorem dX7_change_23 : decode cX7_change 23 = .ok (.goto 4, 3) := by decide +kernel
theorem dX7_change_26 : decode cX7_change 26 = .ok (.iconst 0, 1) := by decide +kernel
theorem dX7_change_27 : decode cX7_change 27 = .ok (.istore_n 3, 1) := by decide +kernel
theorem dX7_change_28 : decode cX7_change 28 = .ok (.aload_n 0, 1) := by decide +kernel
theorem dX7_change_29 : decode cX7_change 29 = .ok (.iload_n 1, 1) := by decide +kernel
theorem dX7_change_30 : decode cX7_change 30 = .ok (.iload_n 2, 1) := by decide +kernel
theorem dX7_change_31 : decode cX7_change 31 = .ok (.invokevirtual 248, 3) := by decide +kernel
theorem dX7_change_34 : decode cX7_change 34 = .ok (.iload_n 3, 1) := by decide +kernel
theorem dX7_change_35 : decode cX7_change 35 = .ok (.ireturn, 1) := by decide +kernel
theorem dX7_fear_0 : decode cX7_fear 0 = .ok (.aload_n 0, 1) := by decide +kernel
theorem dX7_fear_1 : decode cX7_fear 1 = .ok (.iload_n 1, 1) := by decide +kernel
theorem dX7_fear_2 : decode cX7_fear 2 = .ok (.iconst 0, 1) := by decide +kernel
theorem dX7_fear_3 : decode cX7_fear 3 = .ok (.sipush 9999, 3) := by decide +kernel
theorem dX7_fear_6 : decode cX7_fear 6 = .ok (.invokevirtual 237, 3) := by decide +kernel
theorem dX7_fear_9 : decode cX7_fear 9 = .ok (.ifCond .ne 6, 3) := by decide +kernel
theorem dX7_fear_12 : decode cX7_fear 12 = .ok (.bipush (-2), 2) := by decide +kernel
theorem dX7_fear_14 : decode cX7_fear 14 = .ok (.ireturn, 1) := by decide +kernel
theorem dX7_fear_15 : decode cX7_fear 15 = .ok (.aload_n 0, 1) := by decide +kernel
theorem dX7_fear_16 : decode cX7_fear 16 = .ok (.getfield 16, 3) := by decide +kernel
theorem dX7_fear_19 : decode cX7_fear 19 = .ok (.istore_n 2, 1) := by decide +kernel
theorem dX7_fear_20 : decode cX7_fear 20 = .ok (.aload_n 0, 1) := by decide +kernel
theorem dX7_fear_21 : decode cX7_fear 21 = .ok (.iload_n 1, 1) := by decide +kernel
theorem dX7_fear_22 : decode cX7_fear 22 = .ok (.putfield 16, 3) := by decide +kernel
theorem dX7_fear_25 : decode cX7_fear 25 = .ok (.iload_n 2, 1) := by decide +kernel
theorem dX7_fear_26 : decode cX7_fear 26 = .ok (.ireturn, 1) := by decide +kernel
theorem dX7_row_0 : decode cX7_row 0 = .ok (.aload_n 0, 1) := by decide +kernel
theorem dX7_row_1 : decode cX7_row 1 = .ok (.iload_n 1, 1) := by decide +kernel
theorem dX7_row_2 : decode cX7_row 2 = .ok (.invokevirtual 245, 3) := by decide +kernel
theorem dX7_row_5 : decode cX7_row 5 = .ok (.ifCond .eq 13, 3) := by decide +kernel
theorem dX7_row_8 : decode cX7_row 8 = .ok (.aload_n 0, 1) := by decide +kernel
theorem dX7_row_9 : decode cX7_row 9 = .ok (.iload_n 2, 1) := by decide +kernel
theorem dX7_row_10 : decode cX7_row 10 = .ok (.iconst 0, 1) := by decide +kernel
theorem dX7_row_11 : decode cX7_row 11 = .ok (.iconst 3, 1) := by decide +kernel
theorem dX7_row_12 : decode cX7_row 12 = .ok (.invokevirtual 237, 3) := by decide +kernel
theorem dX7_row_15 : decode cX7_row 15 = .ok (.ifCond .ne 5, 3) := by decide +kernel
theorem dX7_row_18 : decode cX7_row 18 = .ok (.iconst (-1), 1) := by decide +kernel
theorem dX7_row_19 : decode cX7_row 19 = .ok (.ireturn, 1) := by decide +kernel
theorem dX7_row_20 : decode cX7_row 20 = .ok (.aload_n 0, 1) := by decide +kernel
theorem dX7_row_21 : decode cX7_row 21 = .ok (.iload_n 3, 1) := by decide +kernel
theorem dX7_row_22 : decode cX7_row 22 = .ok (.iconst 0, 1) := by decide +kernel
theorem dX7_row_23 : decode cX7_row 23 = .ok (.bipush 9, 2) := by decide +kernel
theorem dX7_row_25 : decode cX7_row 25 = .ok (.invokevirtual 237, 3) := by decide +kernel
theorem dX7_row_28 : decode cX7_row 28 = .ok (.ifCond .ne 6, 3) := by decide +kernel
theorem dX7_row_31 : decode cX7_row 31 = .ok (.bipush (-2), 2) := by decide +kernel
theorem dX7_row_33 : decode cX7_row 33 = .ok (.ireturn, 1) := by decide +kernel
theorem dX7_row_34 : decode cX7_row 34 = .ok (.aload_n 0, 1) := by decide +kernel
theorem dX7_row_35 : decode cX7_row 35 = .ok (.getfield 28, 3) := by decide +kernel
theorem dX7_row_38 : decode cX7_row 38 = .ok (.iload_n 1, 1) := by decide +kernel
theorem dX7_row_39 : decode cX7_row 39 = .ok (.iaload, 1) := by decide +kernel
theorem dX7_row_40 : decode cX7_row 40 = .ok (.bipush 6, 2) := by decide +kernel
theorem dX7_row_42 : decode cX7_row 42 = .ok (.if_icmp .eq 6, 3) := by decide +kernel
theorem dX7_row_45 : decode cX7_row 45 = .ok (.bipush (-3), 2) := by decide +kernel
theorem dX7_row_47 : decode cX7_row 47 = .ok (.ireturn, 1) := by decide +kernel
theorem dX7_row_48 : decode cX7_row 48 = .ok (.aload_n 0, 1) := by decide +kernel
theorem dX7_row_49 : decode cX7_row 49 = .ok (.getfield 41, 3) := by decide +kernel
theorem dX7_row_52 : decode cX7_row 52 = .ok (.iconst 4, 1) := by decide +kernel
theorem dX7_row_53 : decode cX7_row 53 = .ok (.iload_n 1, 1) := by decide +kernel
theorem dX7_row_54 : decode cX7_row 54 = .ok (.imul, 1) := by decide +kernel
theorem dX7_row_55 : decode cX7_row 55 = .ok (.iload_n 2, 1) := by decide +kernel
theorem dX7_row_56 : decode cX7_row 56 = .ok (.iadd, 1) := by decide +kernel
theorem dX7_row_57 : decode cX7_row 57 = .ok (.iaload, 1) := by decide +kernel
theorem dX7_row_58 : decode cX7_row 58 = .ok (.istore 4, 2) := by decide +kernel
theorem dX7_row_60 : decode cX7_row 60 = .ok (.aload_n 0, 1) := by decide +kernel
theorem dX7_row_61 : decode cX7_row 61 = .ok (.getfield 41, 3) := by decide +kernel
theorem dX7_row_64 : decode cX7_row 64 = .ok (.iconst 4, 1) := by decide +kernel
theorem dX7_row_65 : decode cX7_row 65 = .ok (.iload_n 1, 1) := by decide +kernel
theorem dX7_row_66 : decode cX7_row 66 = .ok (.imul, 1) := by decide +kernel
theorem dX7_row_67 : decode cX7_row 67 = .ok (.iload_n 2, 1) := by decide +kernel
theorem dX7_row_68 : decode cX7_row 68 = .ok (.iadd, 1) := by decide +kernel
theorem dX7_row_69 : decode cX7_row 69 = .ok (.iload_n 3, 1) := by decide +kernel
theorem dX7_row_70 : decode cX7_row 70 = .ok (.iastore, 1) := by decide +kernel
theorem dX7_row_71 : decode cX7_row 71 = .ok (.iload 4, 2) := by decide +kernel
theorem dX7_row_73 : decode cX7_row 73 = .ok (.ireturn, 1) := by decide +kernel
theorem dX7_feed_0 : decode cX7_feed 0 = .ok (.aload_n 0, 1) := by decide +kernel
theorem dX7_feed_1 : decode cX7_feed 1 = .ok (.iload_n 1, 1) := by decide +kernel
theorem dX7_feed_2 : decode cX7_feed 2 = .ok (.iconst 0, 1) := by decide +kernel
theorem dX7_feed_3 : decode cX7_feed 3 = .ok (.bipush 127, 2) := by decide +kernel
theorem dX7_feed_5 : decode cX7_feed 5 = .ok (.invokevirtual 237, 3) := by decide +kernel
theorem dX7_feed_8 : decode cX7_feed 8 = .ok (.ifCond .ne 6, 3) := by decide +kernel
theorem dX7_feed_11 : decode cX7_feed 11 = .ok (.bipush (-2), 2) := by decide +kernel
theorem dX7_feed_13 : decode cX7_feed 13 = .ok (.ireturn, 1) := by decide +kernel
theorem dX7_feed_14 : decode cX7_feed 14 = .ok (.aload_n 0, 1) := by decide +kernel
theorem dX7_feed_15 : decode cX7_feed 15 = .ok (.getfield 50, 3) := by decide +kernel
theorem dX7_feed_18 : decode cX7_feed 18 = .ok (.bipush 100, 2) := by decide +kernel
theorem dX7_feed_20 : decode cX7_feed 20 = .ok (.if_icmp .ne 6, 3) := by decide +kernel
theorem dX7_feed_23 : decode cX7_feed 23 = .ok (.bipush (-4), 2) := by decide +kernel
theorem dX7_feed_25 : decode cX7_feed 25 = .ok (.ireturn, 1) := by decide +kernel
theorem dX7_feed_26 : decode cX7_feed 26 = .ok (.aload_n 0, 1) := by decide +kernel
theorem dX7_feed_27 : decode cX7_feed 27 = .ok (.getfield 59, 3) := by decide +kernel
theorem dX7_feed_30 : decode cX7_feed 30 = .ok (.aload_n 0, 1) := by decide +kernel
theorem dX7_feed_31 : decode cX7_feed 31 = .ok (.getfield 50, 3) := by decide +kernel
theorem dX7_feed_34 : decode cX7_feed 34 = .ok (.iload_n 1, 1) := by decide +kernel
theorem dX7_feed_35 : decode cX7_feed 35 = .ok (.iastore, 1) := by decide +kernel
theorem dX7_feed_36 : decode cX7_feed 36 = .ok (.aload_n 0, 1) := by decide +kernel
theorem dX7_feed_37 : decode cX7_feed 37 = .ok (.dup, 1) := by decide +kernel
theorem dX7_feed_38 : decode cX7_feed 38 = .ok (.getfield 50, 3) := by decide +kernel
theorem dX7_feed_41 : decode cX7_feed 41 = .ok (.iconst 1, 1) := by decide +kernel
theorem dX7_feed_42 : decode cX7_feed 42 = .ok (.iadd, 1) := by decide +kernel
theorem dX7_feed_43 : decode cX7_feed 43 = .ok (.putfield 50, 3) := by decide +kernel
theorem dX7_feed_46 : decode cX7_feed 46 = .ok (.aload_n 0, 1) := by decide +kernel
theorem dX7_feed_47 : decode cX7_feed 47 = .ok (.getfield 50, 3) := by decide +kernel
theorem dX7_feed_50 : decode cX7_feed 50 = .ok (.ireturn, 1) := by decide +kernel
theorem dX7_next_0 : decode cX7_next 0 = .ok (.aload_n 0, 1) := by decide +kernel
theorem dX7_next_1 : decode cX7_next 1 = .ok (.getfield 53, 3) := by decide +kernel
theorem dX7_next_4 : decode cX7_next 4 = .ok (.aload_n 0, 1) := by decide +kernel
theorem dX7_next_5 : decode cX7_next 5 = .ok (.getfield 50, 3) := by decide +kernel
theorem dX7_next_8 : decode cX7_next 8 = .ok (.if_icmp .ge 15, 3) := by decide +kernel
theorem dX7_next_11 : decode cX7_next 11 = .ok (.aload_n 0, 1) := by decide +kernel
theorem dX7_next_12 : decode cX7_next 12 = .ok (.getfield 59, 3) := by decide +kernel
theorem dX7_next_15 : decode cX7_next 15 = .ok (.aload_n 0, 1) := by decide +kernel
theorem dX7_next_16 : decode cX7_next 16 = .ok (.getfield 53, 3) := by decide +kernel
theorem dX7_next_19 : decode cX7_next 19 = .ok (.iaload, 1) := by decide +kernel
theorem dX7_next_20 : decode cX7_next 20 = .ok (.goto 4, 3) := by decide +kernel
theorem dX7_next_23 : decode cX7_next 23 = .ok (.iconst (-1), 1) := by decide +kernel
theorem dX7_next_24 : decode cX7_next 24 = .ok (.ireturn, 1) := by decide +kernel
theorem dX7_takes_0 : decode cX7_takes 0 = .ok (.aload_n 0, 1) := by decide +kernel
theorem dX7_takes_1 : decode cX7_takes 1 = .ok (.invokevirtual 252, 3) := by decide +kernel
theorem dX7_takes_4 : decode cX7_takes 4 = .ok (.iload_n 1, 1) := by decide +kernel
theorem dX7_takes_5 : decode cX7_takes 5 = .ok (.if_icmp .eq 5, 3) := by decide +kernel
theorem dX7_takes_8 : decode cX7_takes 8 = .ok (.iconst 0, 1) := by decide +kernel
theorem dX7_takes_9 : decode cX7_takes 9 = .ok (.ireturn, 1) := by decide +kernel
theorem dX7_takes_10 : decode cX7_takes 10 = .ok (.aload_n 0, 1) := by decide +kernel
theorem dX7_takes_11 : decode cX7_takes 11 = .ok (.dup, 1) := by decide +kernel
theorem dX7_takes_12 : decode cX7_takes 12 = .ok (.getfield 53, 3) := by decide +kernel
theorem dX7_takes_15 : decode cX7_takes 15 = .ok (.iconst 1, 1) := by decide +kernel
theorem dX7_takes_16 : decode cX7_takes 16 = .ok (.iadd, 1) := by decide +kernel
theorem dX7_takes_17 : decode cX7_takes 17 = .ok (.putfield 53, 3) := by decide +kernel
theorem dX7_takes_20 : decode cX7_takes 20 = .ok (.iconst 1, 1) := by decide +kernel
theorem dX7_takes_21 : decode cX7_takes 21 = .ok (.ireturn, 1) := by decide +kernel
theorem dX7_takesWord_0 : decode cX7_takesWord 0 = .ok (.iconst 0, 1) := by decide +kernel
theorem dX7_takesWord_1 : decode cX7_takesWord 1 = .ok (.istore_n 3, 1) := by decide +kernel
theorem dX7_takesWord_2 : decode cX7_takesWord 2 = .ok (.iload_n 3, 1) := by decide +kernel
theorem dX7_takesWord_3 : decode cX7_takesWord 3 = .ok (.iload_n 2, 1) := by decide +kernel
theorem dX7_takesWord_4 : decode cX7_takesWord 4 = .ok (.if_icmp .ge 26, 3) := by decide +kernel
theorem dX7_takesWord_7 : decode cX7_takesWord 7 = .ok (.aload_n 0, 1) := by decide +kernel
theorem dX7_takesWord_8 : decode cX7_takesWord 8 = .ok (.aload_n 0, 1) := by decide +kernel
theorem dX7_takesWord_9 : decode cX7_takesWord 9 = .ok (.getfield 92, 3) := by decide +kernel
theorem dX7_takesWord_12 : decode cX7_takesWord 12 = .ok (.iload_n 1, 1) := by decide +kernel
theorem dX7_takesWord_13 : decode cX7_takesWord 13 = .ok (.iload_n 3, 1) := by decide +kernel
theorem dX7_takesWord_14 : decode cX7_takesWord 14 = .ok (.iadd, 1) := by decide +kernel
theorem dX7_takesWord_15 : decode cX7_takesWord 15 = .ok (.iaload, 1) := by decide +kernel
theorem dX7_takesWord_16 : decode cX7_takesWord 16 = .ok (.invokevirtual 256, 3) := by decide +kernel
theorem dX7_takesWord_19 : decode cX7_takesWord 19 = .ok (.ifCond .ne 5, 3) := by decide +kernel
theorem dX7_takesWord_22 : decode cX7_takesWord 22 = .ok (.iconst 0, 1) := by decide +kernel
theorem dX7_takesWord_23 : decode cX7_takesWord 23 = .ok (.ireturn, 1) := by decide +kernel
theorem dX7_takesWord_24 : decode cX7_takesWord 24 = .ok (.iinc 3 1, 3) := by decide +kernel
theorem dX7_takesWord_27 : decode cX7_takesWord 27 = .ok (.goto (-25), 3) := by decide +kernel
theorem dX7_takesWord_30 : decode cX7_takesWord 30 = .ok (.aload_n 0, 1) := by decide +kernel
theorem dX7_takesWord_31 : decode cX7_takesWord 31 = .ok (.bipush 32, 2) := by decide +kernel
theorem dX7_takesWord_33 : decode cX7_takesWord 33 = .ok (.invokevirtual 256, 3) := by decide +kernel
theorem dX7_takesWord_36 : decode cX7_takesWord 36 = .ok (.ireturn, 1) := by decide +kernel
theorem dX7_isDigit_0 : decode cX7_isDigit 0 = .ok (.aload_n 0, 1) := by decide +kernel
theorem dX7_isDigit_1 : decode cX7_isDigit 1 = .ok (.aload_n 0, 1) := by decide +kernel
theorem dX7_isDigit_2 : decode cX7_isDigit 2 = .ok (.invokevirtual 252, 3) := by decide +kernel
theorem dX7_isDigit_5 : decode cX7_isDigit 5 = .ok (.bipush 48, 2) := by decide +kernel
theorem dX7_isDigit_7 : decode cX7_isDigit 7 = .ok (.bipush 57, 2) := by decide +kernel
theorem dX7_isDigit_9 : decode cX7_isDigit 9 = .ok (.invokevirtual 237, 3) := by decide +kernel
theorem dX7_isDigit_12 : decode cX7_isDigit 12 = .ok (.ireturn, 1) := by decide +kernel
theorem dX7_takesNumber_0 : decode cX7_takesNumber 0 = .ok (.aload_n 0, 1) := by decide +kernel
theorem dX7_takesNumber_1 : decode cX7_takesNumber 1 = .ok (.invokevirtual 259, 3) := by decide +kernel
theorem dX7_takesNumber_4 : decode cX7_takesNumber 4 = .ok (.ifCond .ne 5, 3) := by decide +kernel
theorem dX7_takesNumber_7 : decode cX7_takesNumber 7 = .ok (.iconst 0, 1) := by decide +kernel
theorem dX7_takesNumber_8 : decode cX7_takesNumber 8 = .ok (.ireturn, 1) := by decide +kernel
theorem dX7_takesNumber_9 : decode cX7_takesNumber 9 = .ok (.aload_n 0, 1) := by decide +kernel
theorem dX7_takesNumber_10 : decode cX7_takesNumber 10 = .ok (.iconst 0, 1) := by decide +kernel
theorem dX7_takesNumber_11 : decode cX7_takesNumber 11 = .ok (.putfield 56, 3) := by decide +kernel
theorem dX7_takesNumber_14 : decode cX7_takesNumber 14 = .ok (.iconst 0, 1) := by decide +kernel
theorem dX7_takesNumber_15 : decode cX7_takesNumber 15 = .ok (.istore_n 1, 1) := by decide +kernel
theorem dX7_takesNumber_16 : decode cX7_takesNumber 16 = .ok (.iload_n 1, 1) := by decide +kernel
theorem dX7_takesNumber_17 : decode cX7_takesNumber 17 = .ok (.iconst 2, 1) := by decide +kernel
theorem dX7_takesNumber_18 : decode cX7_takesNumber 18 = .ok (.if_icmp .ge 45, 3) := by decide +kernel
theorem dX7_takesNumber_21 : decode cX7_takesNumber 21 = .ok (.aload_n 0, 1) := by decide +kernel
theorem dX7_takesNumber_22 : decode cX7_takesNumber 22 = .ok (.invokevirtual 259, 3) := by decide +kernel
theorem dX7_takesNumber_25 : decode cX7_takesNumber 25 = .ok (.ifCond .eq 38, 3) := by decide +kernel
theorem dX7_takesNumber_28 : decode cX7_takesNumber 28 = .ok (.aload_n 0, 1) := by decide +kernel
theorem dX7_takesNumber_29 : decode cX7_takesNumber 29 = .ok (.bipush 10, 2) := by decide +kernel
theorem dX7_takesNumber_31 : decode cX7_takesNumber 31 = .ok (.aload_n 0, 1) := by decide +kernel
theorem dX7_takesNumber_32 : decode cX7_takesNumber 32 = .ok (.getfield 56, 3) := by decide +kernel
theorem dX7_takesNumber_35 : decode cX7_takesNumber 35 = .ok (.imul, 1) := by decide +kernel
theorem dX7_takesNumber_36 : decode cX7_takesNumber 36 = .ok (.aload_n 0, 1) := by decide +kernel
theorem dX7_takesNumber_37 : decode cX7_takesNumber 37 = .ok (.invokevirtual 252, 3) := by decide +kernel
theorem dX7_takesNumber_40 : decode cX7_takesNumber 40 = .ok (.iadd, 1) := by decide +kernel
theorem dX7_takesNumber_41 : decode cX7_takesNumber 41 = .ok (.bipush 48, 2) := by decide +kernel
theorem dX7_takesNumber_43 : decode cX7_takesNumber 43 = .ok (.isub, 1) := by decide +kernel
theorem dX7_takesNumber_44 : decode cX7_takesNumber 44 = .ok (.putfield 56, 3) := by decide +kernel
theorem dX7_takesNumber_47 : decode cX7_takesNumber 47 = .ok (.aload_n 0, 1) := by decide +kernel
theorem dX7_takesNumber_48 : decode cX7_takesNumber 48 = .ok (.dup, 1) := by decide +kernel
theorem dX7_takesNumber_49 : decode cX7_takesNumber 49 = .ok (.getfield 53, 3) := by decide +kernel
theorem dX7_takesNumber_52 : decode cX7_takesNumber 52 = .ok (.iconst 1, 1) := by decide +kernel
theorem dX7_takesNumber_53 : decode cX7_takesNumber 53 = .ok (.iadd, 1) := by decide +kernel
theorem dX7_takesNumber_54 : decode cX7_takesNumber 54 = .ok (.putfield 53, 3) := by decide +kernel
theorem dX7_takesNumber_57 : decode cX7_takesNumber 57 = .ok (.iinc 1 1, 3) := by decide +kernel
theorem dX7_takesNumber_60 : decode cX7_takesNumber 60 = .ok (.goto (-44), 3) := by decide +kernel
theorem dX7_takesNumber_63 : decode cX7_takesNumber 63 = .ok (.iconst 1, 1) := by decide +kernel
theorem dX7_takesNumber_64 : decode cX7_takesNumber 64 = .ok (.ireturn, 1) := by decide +kernel
theorem dX7_emits_0 : decode cX7_emits 0 = .ok (.aload_n 0, 1) := by decide +kernel
theorem dX7_emits_1 : decode cX7_emits 1 = .ok (.getfield 77, 3) := by decide +kernel
theorem dX7_emits_4 : decode cX7_emits 4 = .ok (.aload_n 0, 1) := by decide +kernel
theorem dX7_emits_5 : decode cX7_emits 5 = .ok (.getfield 83, 3) := by decide +kernel
theorem dX7_emits_8 : decode cX7_emits 8 = .ok (.iload_n 1, 1) := by decide +kernel
theorem dX7_emits_9 : decode cX7_emits 9 = .ok (.iastore, 1) := by decide +kernel
theorem dX7_emits_10 : decode cX7_emits 10 = .ok (.aload_n 0, 1) := by decide +kernel
theorem dX7_emits_11 : decode cX7_emits 11 = .ok (.dup, 1) := by decide +kernel
theorem dX7_emits_12 : decode cX7_emits 12 = .ok (.getfield 83, 3) := by decide +kernel
theorem dX7_emits_15 : decode cX7_emits 15 = .ok (.iconst 1, 1) := by decide +kernel
theorem dX7_emits_16 : decode cX7_emits 16 = .ok (.iadd, 1) := by decide +kernel
theorem dX7_emits_17 : decode cX7_emits 17 = .ok (.putfield 83, 3) := by decide +kernel
theorem dX7_emits_20 : decode cX7_emits 20 = .ok (.return_, 1) := by decide +kernel
theorem dX7_whole_0 : decode cX7_whole 0 = .ok (.aload_n 0, 1) := by decide +kernel
theorem dX7_whole_1 : decode cX7_whole 1 = .ok (.getfield 86, 3) := by decide +kernel
theorem dX7_whole_4 : decode cX7_whole 4 = .ok (.ifCond .le 48, 3) := by decide +kernel
theorem dX7_whole_7 : decode cX7_whole 7 = .ok (.aload_n 0, 1) := by decide +kernel
theorem dX7_whole_8 : decode cX7_whole 8 = .ok (.getfield 80, 3) := by decide +kernel
theorem dX7_whole_11 : decode cX7_whole 11 = .ok (.aload_n 0, 1) := by decide +kernel
theorem dX7_whole_12 : decode cX7_whole 12 = .ok (.getfield 86, 3) := by decide +kernel
theorem dX7_whole_15 : decode cX7_whole 15 = .ok (.iconst 1, 1) := by decide +kernel
theorem dX7_whole_16 : decode cX7_whole 16 = .ok (.isub, 1) := by decide +kernel
theorem dX7_whole_17 : decode cX7_whole 17 = .ok (.iaload, 1) := by decide +kernel
theorem dX7_whole_18 : decode cX7_whole 18 = .ok (.bipush 33, 2) := by decide +kernel
theorem dX7_whole_20 : decode cX7_whole 20 = .ok (.if_icmp .ne 32, 3) := by decide +kernel
theorem dX7_whole_23 : decode cX7_whole 23 = .ok (.aload_n 0, 1) := by decide +kernel
theorem dX7_whole_24 : decode cX7_whole 24 = .ok (.bipush (-33), 2) := by decide +kernel
theorem dX7_whole_26 : decode cX7_whole 26 = .ok (.invokevirtual 263, 3) := by decide +kernel
theorem dX7_whole_29 : decode cX7_whole 29 = .ok (.aload_n 0, 1) := by decide +kernel
theorem dX7_whole_30 : decode cX7_whole 30 = .ok (.dup, 1) := by decide +kernel
theorem dX7_whole_31 : decode cX7_whole 31 = .ok (.getfield 86, 3) := by decide +kernel
theorem dX7_whole_34 : decode cX7_whole 34 = .ok (.iconst 1, 1) := by decide +kernel
theorem dX7_whole_35 : decode cX7_whole 35 = .ok (.isub, 1) := by decide +kernel
theorem dX7_whole_36 : decode cX7_whole 36 = .ok (.putfield 86, 3) := by decide +kernel
theorem dX7_whole_39 : decode cX7_whole 39 = .ok (.aload_n 0, 1) := by decide +kernel
theorem dX7_whole_40 : decode cX7_whole 40 = .ok (.dup, 1) := by decide +kernel
theorem dX7_whole_41 : decode cX7_whole 41 = .ok (.getfield 89, 3) := by decide +kernel
theorem dX7_whole_44 : decode cX7_whole 44 = .ok (.iconst 1, 1) := by decide +kernel
theorem dX7_whole_45 : decode cX7_whole 45 = .ok (.isub, 1) := by decide +kernel
theorem dX7_whole_46 : decode cX7_whole 46 = .ok (.putfield 89, 3) := by decide +kernel
theorem dX7_whole_49 : decode cX7_whole 49 = .ok (.goto (-49), 3) := by decide +kernel
theorem dX7_whole_52 : decode cX7_whole 52 = .ok (.return_, 1) := by decide +kernel
theorem dX7_settle_0 : decode cX7_settle 0 = .ok (.aload_n 0, 1) := by decide +kernel
theorem dX7_settle_1 : decode cX7_settle 1 = .ok (.getfield 86, 3) := by decide +kernel
theorem dX7_settle_4 : decode cX7_settle 4 = .ok (.ifCond .le 68, 3) := by decide +kernel
theorem dX7_settle_7 : decode cX7_settle 7 = .ok (.aload_n 0, 1) := by decide +kernel
theorem dX7_settle_8 : decode cX7_settle 8 = .ok (.getfield 80, 3) := by decide +kernel
theorem dX7_settle_11 : decode cX7_settle 11 = .ok (.aload_n 0, 1) := by decide +kernel
theorem dX7_settle_12 : decode cX7_settle 12 = .ok (.getfield 86, 3) := by decide +kernel
theorem dX7_settle_15 : decode cX7_settle 15 = .ok (.iconst 1, 1) := by decide +kernel
theorem dX7_settle_16 : decode cX7_settle 16 = .ok (.isub, 1) := by decide +kernel
theorem dX7_settle_17 : decode cX7_settle 17 = .ok (.iaload, 1) := by decide +kernel
theorem dX7_settle_18 : decode cX7_settle 18 = .ok (.bipush 38, 2) := by decide +kernel
theorem dX7_settle_20 : decode cX7_settle 20 = .ok (.if_icmp .eq 25, 3) := by decide +kernel
theorem dX7_settle_23 : decode cX7_settle 23 = .ok (.aload_n 0, 1) := by decide +kernel
theorem dX7_settle_24 : decode cX7_settle 24 = .ok (.getfield 80, 3) := by decide +kernel
theorem dX7_settle_27 : decode cX7_settle 27 = .ok (.aload_n 0, 1) := by decide +kernel
theorem dX7_settle_28 : decode cX7_settle 28 = .ok (.getfield 86, 3) := by decide +kernel
theorem dX7_settle_31 : decode cX7_settle 31 = .ok (.iconst 1, 1) := by decide +kernel
theorem dX7_settle_32 : decode cX7_settle 32 = .ok (.isub, 1) := by decide +kernel
theorem dX7_settle_33 : decode cX7_settle 33 = .ok (.iaload, 1) := by decide +kernel
theorem dX7_settle_34 : decode cX7_settle 34 = .ok (.bipush 124, 2) := by decide +kernel
theorem dX7_settle_36 : decode cX7_settle 36 = .ok (.if_icmp .ne 36, 3) := by decide +kernel
theorem dX7_settle_39 : decode cX7_settle 39 = .ok (.iload_n 1, 1) := by decide +kernel
theorem dX7_settle_40 : decode cX7_settle 40 = .ok (.bipush 38, 2) := by decide +kernel
theorem dX7_settle_42 : decode cX7_settle 42 = .ok (.if_icmp .eq 30, 3) := by decide +kernel
theorem dX7_settle_45 : decode cX7_settle 45 = .ok (.aload_n 0, 1) := by decide +kernel
theorem dX7_settle_46 : decode cX7_settle 46 = .ok (.dup, 1) := by decide +kernel
theorem dX7_settle_47 : decode cX7_settle 47 = .ok (.getfield 86, 3) := by decide +kernel
theorem dX7_settle_50 : decode cX7_settle 50 = .ok (.iconst 1, 1) := by decide +kernel
theorem dX7_settle_51 : decode cX7_settle 51 = .ok (.isub, 1) := by decide +kernel
theorem dX7_settle_52 : decode cX7_settle 52 = .ok (.putfield 86, 3) := by decide +kernel
theorem dX7_settle_55 : decode cX7_settle 55 = .ok (.aload_n 0, 1) := by decide +kernel
theorem dX7_settle_56 : decode cX7_settle 56 = .ok (.aload_n 0, 1) := by decide +kernel
theorem dX7_settle_57 : decode cX7_settle 57 = .ok (.getfield 80, 3) := by decide +kernel
theorem dX7_settle_60 : decode cX7_settle 60 = .ok (.aload_n 0, 1) := by decide +kernel
theorem dX7_settle_61 : decode cX7_settle 61 = .ok (.getfield 86, 3) := by decide +kernel
theorem dX7_settle_64 : decode cX7_settle 64 = .ok (.iaload, 1) := by decide +kernel
theorem dX7_settle_65 : decode cX7_settle 65 = .ok (.ineg, 1) := by decide +kernel
theorem dX7_settle_66 : decode cX7_settle 66 = .ok (.invokevirtual 263, 3) := by decide +kernel
theorem dX7_settle_69 : decode cX7_settle 69 = .ok (.goto (-69), 3) := by decide +kernel
theorem dX7_settle_72 : decode cX7_settle 72 = .ok (.return_, 1) := by decide +kernel
theorem dX7_place_0 : decode cX7_place 0 = .ok (.iload_n 1, 1) := by decide +kernel
theorem dX7_place_1 : decode cX7_place 1 = .ok (.lookupswitch 71 #[(97, 67), (100, 69), (107, 61), (110, 65), (112, 59), (118, 63)], 59) := by decide +kernel

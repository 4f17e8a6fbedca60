theorem dX7_hear_2 : decode cX7_hear 2 = .ok (.if_icmp .ne 10, 3) := by decide +kernel
theorem dX7_hear_5 : decode cX7_hear 5 = .ok (.aload_n 0, 1) := by decide +kernel
theorem dX7_hear_6 : decode cX7_hear 6 = .ok (.iconst 0, 1) := by decide +kernel
theorem dX7_hear_7 : decode cX7_hear 7 = .ok (.putfield 120, 3) := by decide +kernel
theorem dX7_hear_10 : decode cX7_hear 10 = .ok (.iconst 0, 1) := by decide +kernel
theorem dX7_hear_11 : decode cX7_hear 11 = .ok (.ireturn, 1) := by decide +kernel
theorem dX7_hear_12 : decode cX7_hear 12 = .ok (.aload_n 0, 1) := by decide +kernel
theorem dX7_hear_13 : decode cX7_hear 13 = .ok (.iload_n 1, 1) := by decide +kernel
theorem dX7_hear_14 : decode cX7_hear 14 = .ok (.iconst 0, 1) := by decide +kernel
theorem dX7_hear_15 : decode cX7_hear 15 = .ok (.bipush 12, 2) := by decide +kernel
theorem dX7_hear_17 : decode cX7_hear 17 = .ok (.invokevirtual 237, 3) := by decide +kernel
theorem dX7_hear_20 : decode cX7_hear 20 = .ok (.ifCond .eq 15, 3) := by decide +kernel
theorem dX7_hear_23 : decode cX7_hear 23 = .ok (.aload_n 0, 1) := by decide +kernel
theorem dX7_hear_24 : decode cX7_hear 24 = .ok (.iload_n 2, 1) := by decide +kernel
theorem dX7_hear_25 : decode cX7_hear 25 = .ok (.iconst 0, 1) := by decide +kernel
theorem dX7_hear_26 : decode cX7_hear 26 = .ok (.sipush 999, 3) := by decide +kernel
theorem dX7_hear_29 : decode cX7_hear 29 = .ok (.invokevirtual 237, 3) := by decide +kernel
theorem dX7_hear_32 : decode cX7_hear 32 = .ok (.ifCond .ne 6, 3) := by decide +kernel
theorem dX7_hear_35 : decode cX7_hear 35 = .ok (.bipush (-2), 2) := by decide +kernel
theorem dX7_hear_37 : decode cX7_hear 37 = .ok (.ireturn, 1) := by decide +kernel
theorem dX7_hear_38 : decode cX7_hear 38 = .ok (.aload_n 0, 1) := by decide +kernel
theorem dX7_hear_39 : decode cX7_hear 39 = .ok (.getfield 120, 3) := by decide +kernel
theorem dX7_hear_42 : decode cX7_hear 42 = .ok (.iconst 5, 1) := by decide +kernel
theorem dX7_hear_43 : decode cX7_hear 43 = .ok (.if_icmp .ne 6, 3) := by decide +kernel
theorem dX7_hear_46 : decode cX7_hear 46 = .ok (.bipush (-4), 2) := by decide +kernel
theorem dX7_hear_48 : decode cX7_hear 48 = .ok (.ireturn, 1) := by decide +kernel
theorem dX7_hear_49 : decode cX7_hear 49 = .ok (.aload_n 0, 1) := by decide +kernel
theorem dX7_hear_50 : decode cX7_hear 50 = .ok (.getfield 123, 3) := by decide +kernel
theorem dX7_hear_53 : decode cX7_hear 53 = .ok (.aload_n 0, 1) := by decide +kernel
theorem dX7_hear_54 : decode cX7_hear 54 = .ok (.getfield 120, 3) := by decide +kernel
theorem dX7_hear_57 : decode cX7_hear 57 = .ok (.iload_n 1, 1) := by decide +kernel
theorem dX7_hear_58 : decode cX7_hear 58 = .ok (.iastore, 1) := by decide +kernel
theorem dX7_hear_59 : decode cX7_hear 59 = .ok (.aload_n 0, 1) := by decide +kernel
theorem dX7_hear_60 : decode cX7_hear 60 = .ok (.getfield 126, 3) := by decide +kernel
theorem dX7_hear_63 : decode cX7_hear 63 = .ok (.aload_n 0, 1) := by decide +kernel
theorem dX7_hear_64 : decode cX7_hear 64 = .ok (.getfield 120, 3) := by decide +kernel
theorem dX7_hear_67 : decode cX7_hear 67 = .ok (.iload_n 2, 1) := by decide +kernel
theorem dX7_hear_68 : decode cX7_hear 68 = .ok (.iastore, 1) := by decide +kernel
theorem dX7_hear_69 : decode cX7_hear 69 = .ok (.aload_n 0, 1) := by decide +kernel
theorem dX7_hear_70 : decode cX7_hear 70 = .ok (.dup, 1) := by decide +kernel
theorem dX7_hear_71 : decode cX7_hear 71 = .ok (.getfield 120, 3) := by decide +kernel
theorem dX7_hear_74 : decode cX7_hear 74 = .ok (.iconst 1, 1) := by decide +kernel
theorem dX7_hear_75 : decode cX7_hear 75 = .ok (.iadd, 1) := by decide +kernel
theorem dX7_hear_76 : decode cX7_hear 76 = .ok (.putfield 120, 3) := by decide +kernel
theorem dX7_hear_79 : decode cX7_hear 79 = .ok (.aload_n 0, 1) := by decide +kernel
theorem dX7_hear_80 : decode cX7_hear 80 = .ok (.getfield 120, 3) := by decide +kernel
theorem dX7_hear_83 : decode cX7_hear 83 = .ok (.ireturn, 1) := by decide +kernel
theorem dX7_isHeard_0 : decode cX7_isHeard 0 = .ok (.iconst 1, 1) := by decide +kernel
theorem dX7_isHeard_1 : decode cX7_isHeard 1 = .ok (.istore_n 1, 1) := by decide +kernel
theorem dX7_isHeard_2 : decode cX7_isHeard 2 = .ok (.iconst 0, 1) := by decide +kernel
theorem dX7_isHeard_3 : decode cX7_isHeard 3 = .ok (.istore_n 2, 1) := by decide +kernel
theorem dX7_isHeard_4 : decode cX7_isHeard 4 = .ok (.iload_n 2, 1) := by decide +kernel
theorem dX7_isHeard_5 : decode cX7_isHeard 5 = .ok (.aload_n 0, 1) := by decide +kernel
theorem dX7_isHeard_6 : decode cX7_isHeard 6 = .ok (.getfield 120, 3) := by decide +kernel
theorem dX7_isHeard_9 : decode cX7_isHeard 9 = .ok (.if_icmp .ge 50, 3) := by decide +kernel
theorem dX7_isHeard_12 : decode cX7_isHeard 12 = .ok (.iload_n 1, 1) := by decide +kernel
theorem dX7_isHeard_13 : decode cX7_isHeard 13 = .ok (.ifCond .eq 46, 3) := by decide +kernel
theorem dX7_isHeard_16 : decode cX7_isHeard 16 = .ok (.aload_n 0, 1) := by decide +kernel
theorem dX7_isHeard_17 : decode cX7_isHeard 17 = .ok (.invokevirtual 342, 3) := by decide +kernel
theorem dX7_isHeard_20 : decode cX7_isHeard 20 = .ok (.aload_n 0, 1) := by decide +kernel
theorem dX7_isHeard_21 : decode cX7_isHeard 21 = .ok (.aload_n 0, 1) := by decide +kernel
theorem dX7_isHeard_22 : decode cX7_isHeard 22 = .ok (.getfield 123, 3) := by decide +kernel
theorem dX7_isHeard_25 : decode cX7_isHeard 25 = .ok (.iload_n 2, 1) := by decide +kernel
theorem dX7_isHeard_26 : decode cX7_isHeard 26 = .ok (.iaload, 1) := by decide +kernel
theorem dX7_isHeard_27 : decode cX7_isHeard 27 = .ok (.invokevirtual 338, 3) := by decide +kernel
theorem dX7_isHeard_30 : decode cX7_isHeard 30 = .ok (.aload_n 0, 1) := by decide +kernel
theorem dX7_isHeard_31 : decode cX7_isHeard 31 = .ok (.invokevirtual 326, 3) := by decide +kernel
theorem dX7_isHeard_34 : decode cX7_isHeard 34 = .ok (.aload_n 0, 1) := by decide +kernel
theorem dX7_isHeard_35 : decode cX7_isHeard 35 = .ok (.getfield 126, 3) := by decide +kernel
theorem dX7_isHeard_38 : decode cX7_isHeard 38 = .ok (.iload_n 2, 1) := by decide +kernel
theorem dX7_isHeard_39 : decode cX7_isHeard 39 = .ok (.iaload, 1) := by decide +kernel
theorem dX7_isHeard_40 : decode cX7_isHeard 40 = .ok (.if_icmp .ne 7, 3) := by decide +kernel
theorem dX7_isHeard_43 : decode cX7_isHeard 43 = .ok (.iconst 1, 1) := by decide +kernel
theorem dX7_isHeard_44 : decode cX7_isHeard 44 = .ok (.goto 4, 3) := by decide +kernel
theorem dX7_isHeard_47 : decode cX7_isHeard 47 = .ok (.iconst 0, 1) := by decide +kernel
theorem dX7_isHeard_48 : decode cX7_isHeard 48 = .ok (.istore_n 1, 1) := by decide +kernel
theorem dX7_isHeard_49 : decode cX7_isHeard 49 = .ok (.aload_n 0, 1) := by decide +kernel
theorem dX7_isHeard_50 : decode cX7_isHeard 50 = .ok (.invokevirtual 345, 3) := by decide +kernel
theorem dX7_isHeard_53 : decode cX7_isHeard 53 = .ok (.iinc 2 1, 3) := by decide +kernel
theorem dX7_isHeard_56 : decode cX7_isHeard 56 = .ok (.goto (-52), 3) := by decide +kernel
theorem dX7_isHeard_59 : decode cX7_isHeard 59 = .ok (.iload_n 1, 1) := by decide +kernel
theorem dX7_isHeard_60 : decode cX7_isHeard 60 = .ok (.ireturn, 1) := by decide +kernel
theorem dX7_nerves_0 : decode cX7_nerves 0 = .ok (.aload_n 0, 1) := by decide +kernel
theorem dX7_nerves_1 : decode cX7_nerves 1 = .ok (.getfield 35, 3) := by decide +kernel
theorem dX7_nerves_4 : decode cX7_nerves 4 = .ok (.iload_n 1, 1) := by decide +kernel
theorem dX7_nerves_5 : decode cX7_nerves 5 = .ok (.iaload, 1) := by decide +kernel
theorem dX7_nerves_6 : decode cX7_nerves 6 = .ok (.istore_n 2, 1) := by decide +kernel
theorem dX7_nerves_7 : decode cX7_nerves 7 = .ok (.iconst 0, 1) := by decide +kernel
theorem dX7_nerves_8 : decode cX7_nerves 8 = .ok (.istore_n 3, 1) := by decide +kernel
theorem dX7_nerves_9 : decode cX7_nerves 9 = .ok (.iconst 0, 1) := by decide +kernel
theorem dX7_nerves_10 : decode cX7_nerves 10 = .ok (.istore 4, 2) := by decide +kernel
theorem dX7_nerves_12 : decode cX7_nerves 12 = .ok (.iload 4, 2) := by decide +kernel
theorem dX7_nerves_14 : decode cX7_nerves 14 = .ok (.bipush 21, 2) := by decide +kernel
theorem dX7_nerves_16 : decode cX7_nerves 16 = .ok (.if_icmp .ge 35, 3) := by decide +kernel
theorem dX7_nerves_19 : decode cX7_nerves 19 = .ok (.aload_n 0, 1) := by decide +kernel
theorem dX7_nerves_20 : decode cX7_nerves 20 = .ok (.getfield 35, 3) := by decide +kernel
theorem dX7_nerves_23 : decode cX7_nerves 23 = .ok (.iload_n 1, 1) := by decide +kernel
theorem dX7_nerves_24 : decode cX7_nerves 24 = .ok (.iload 4, 2) := by decide +kernel
theorem dX7_nerves_26 : decode cX7_nerves 26 = .ok (.iastore, 1) := by decide +kernel
theorem dX7_nerves_27 : decode cX7_nerves 27 = .ok (.iload_n 3, 1) := by decide +kernel
theorem dX7_nerves_28 : decode cX7_nerves 28 = .ok (.aload_n 0, 1) := by decide +kernel
theorem dX7_nerves_29 : decode cX7_nerves 29 = .ok (.invokevirtual 373, 3) := by decide +kernel
theorem dX7_nerves_32 : decode cX7_nerves 32 = .ok (.ifCond .eq 10, 3) := by decide +kernel
theorem dX7_nerves_35 : decode cX7_nerves 35 = .ok (.iconst 1, 1) := by decide +kernel
theorem dX7_nerves_36 : decode cX7_nerves 36 = .ok (.iload 4, 2) := by decide +kernel
theorem dX7_nerves_38 : decode cX7_nerves 38 = .ok (.ishl, 1) := by decide +kernel
theorem dX7_nerves_39 : decode cX7_nerves 39 = .ok (.goto 4, 3) := by decide +kernel
theorem dX7_nerves_42 : decode cX7_nerves 42 = .ok (.iconst 0, 1) := by decide +kernel
theorem dX7_nerves_43 : decode cX7_nerves 43 = .ok (.ior, 1) := by decide +kernel
theorem dX7_nerves_44 : decode cX7_nerves 44 = .ok (.istore_n 3, 1) := by decide +kernel
theorem dX7_nerves_45 : decode cX7_nerves 45 = .ok (.iinc 4 1, 3) := by decide +kernel
theorem dX7_nerves_48 : decode cX7_nerves 48 = .ok (.goto (-36), 3) := by decide +kernel
theorem dX7_nerves_51 : decode cX7_nerves 51 = .ok (.aload_n 0, 1) := by decide +kernel
theorem dX7_nerves_52 : decode cX7_nerves 52 = .ok (.getfield 35, 3) := by decide +kernel
theorem dX7_nerves_55 : decode cX7_nerves 55 = .ok (.iload_n 1, 1) := by decide +kernel
theorem dX7_nerves_56 : decode cX7_nerves 56 = .ok (.iload_n 2, 1) := by decide +kernel
theorem dX7_nerves_57 : decode cX7_nerves 57 = .ok (.iastore, 1) := by decide +kernel
theorem dX7_nerves_58 : decode cX7_nerves 58 = .ok (.iload_n 3, 1) := by decide +kernel
theorem dX7_nerves_59 : decode cX7_nerves 59 = .ok (.ireturn, 1) := by decide +kernel
theorem dX7_of_0 : decode cX7_of 0 = .ok (.aload_n 0, 1) := by decide +kernel
theorem dX7_of_1 : decode cX7_of 1 = .ok (.iload_n 1, 1) := by decide +kernel
theorem dX7_of_2 : decode cX7_of 2 = .ok (.invokevirtual 245, 3) := by decide +kernel
theorem dX7_of_5 : decode cX7_of 5 = .ok (.ifCond .ne 7, 3) := by decide +kernel
theorem dX7_of_8 : decode cX7_of 8 = .ok (.sipush (-10001), 3) := by decide +kernel
theorem dX7_of_11 : decode cX7_of 11 = .ok (.ireturn, 1) := by decide +kernel
theorem dX7_of_12 : decode cX7_of 12 = .ok (.iload_n 2, 1) := by decide +kernel
theorem dX7_of_13 : decode cX7_of 13 = .ok (.tableswitch 101 0 6 #[43, 50, 57, 64, 82, 89, 95], 43) := by decide +kernel
theorem dX7_of_56 : decode cX7_of 56 = .ok (.aload_n 0, 1) := by decide +kernel
theorem dX7_of_57 : decode cX7_of 57 = .ok (.getfield 28, 3) := by decide +kernel
theorem dX7_of_60 : decode cX7_of 60 = .ok (.iload_n 1, 1) := by decide +kernel
theorem dX7_of_61 : decode cX7_of 61 = .ok (.iaload, 1) := by decide +kernel
theorem dX7_of_62 : decode cX7_of 62 = .ok (.ireturn, 1) := by decide +kernel
theorem dX7_of_63 : decode cX7_of 63 = .ok (.aload_n 0, 1) := by decide +kernel
theorem dX7_of_64 : decode cX7_of 64 = .ok (.getfield 32, 3) := by decide +kernel
theorem dX7_of_67 : decode cX7_of 67 = .ok (.iload_n 1, 1) := by decide +kernel
theorem dX7_of_68 : decode cX7_of 68 = .ok (.iaload, 1) := by decide +kernel
theorem dX7_of_69 : decode cX7_of 69 = .ok (.ireturn, 1) := by decide +kernel
theorem dX7_of_70 : decode cX7_of 70 = .ok (.aload_n 0, 1) := by decide +kernel
theorem dX7_of_71 : decode cX7_of 71 = .ok (.getfield 35, 3) := by decide +kernel
theorem dX7_of_74 : decode cX7_of 74 = .ok (.iload_n 1, 1) := by decide +kernel
theorem dX7_of_75 : decode cX7_of 75 = .ok (.iaload, 1) := by decide +kernel
theorem dX7_of_76 : decode cX7_of 76 = .ok (.ireturn, 1) := by decide +kernel
theorem dX7_of_77 : decode cX7_of 77 = .ok (.aload_n 0, 1) := by decide +kernel
theorem dX7_of_78 : decode cX7_of 78 = .ok (.aload_n 0, 1) := by decide +kernel
theorem dX7_of_79 : decode cX7_of 79 = .ok (.getfield 13, 3) := by decide +kernel
theorem dX7_of_82 : decode cX7_of 82 = .ok (.iload_n 1, 1) := by decide +kernel
theorem dX7_of_83 : decode cX7_of 83 = .ok (.invokevirtual 233, 3) := by decide +kernel
theorem dX7_of_86 : decode cX7_of 86 = .ok (.ifCond .eq 7, 3) := by decide +kernel
theorem dX7_of_89 : decode cX7_of 89 = .ok (.iconst 1, 1) := by decide +kernel
theorem dX7_of_90 : decode cX7_of 90 = .ok (.goto 4, 3) := by decide +kernel
theorem dX7_of_93 : decode cX7_of 93 = .ok (.iconst 0, 1) := by decide +kernel
theorem dX7_of_94 : decode cX7_of 94 = .ok (.ireturn, 1) := by decide +kernel
theorem dX7_of_95 : decode cX7_of 95 = .ok (.aload_n 0, 1) := by decide +kernel
theorem dX7_of_96 : decode cX7_of 96 = .ok (.getfield 38, 3) := by decide +kernel
theorem dX7_of_99 : decode cX7_of 99 = .ok (.iload_n 1, 1) := by decide +kernel
theorem dX7_of_100 : decode cX7_of 100 = .ok (.iaload, 1) := by decide +kernel
theorem dX7_of_101 : decode cX7_of 101 = .ok (.ireturn, 1) := by decide +kernel
theorem dX7_of_102 : decode cX7_of 102 = .ok (.aload_n 0, 1) := by decide +kernel
theorem dX7_of_103 : decode cX7_of 103 = .ok (.iload_n 1, 1) := by decide +kernel
theorem dX7_of_104 : decode cX7_of 104 = .ok (.invokevirtual 320, 3) := by decide +kernel
theorem dX7_of_107 : decode cX7_of 107 = .ok (.ireturn, 1) := by decide +kernel
theorem dX7_of_108 : decode cX7_of 108 = .ok (.aload_n 0, 1) := by decide +kernel
theorem dX7_of_109 : decode cX7_of 109 = .ok (.iload_n 1, 1) := by decide +kernel
theorem dX7_of_110 : decode cX7_of 110 = .ok (.invokevirtual 376, 3) := by decide +kernel
theorem dX7_of_113 : decode cX7_of 113 = .ok (.ireturn, 1) := by decide +kernel
theorem dX7_of_114 : decode cX7_of 114 = .ok (.sipush (-10001), 3) := by decide +kernel
theorem dX7_of_117 : decode cX7_of 117 = .ok (.ireturn, 1) := by decide +kernel
theorem dX7_can_0 : decode cX7_can 0 = .ok (.aload_n 0, 1) := by decide +kernel
theorem dX7_can_1 : decode cX7_can 1 = .ok (.iload_n 1, 1) := by decide +kernel
theorem dX7_can_2 : decode cX7_can 2 = .ok (.invokevirtual 245, 3) := by decide +kernel
theorem dX7_can_5 : decode cX7_can 5 = .ok (.ifCond .eq 13, 3) := by decide +kernel
theorem dX7_can_8 : decode cX7_can 8 = .ok (.aload_n 0, 1) := by decide +kernel
theorem dX7_can_9 : decode cX7_can 9 = .ok (.iload_n 2, 1) := by decide +kernel
theorem dX7_can_10 : decode cX7_can 10 = .ok (.iconst 0, 1) := by decide +kernel
theorem dX7_can_11 : decode cX7_can 11 = .ok (.iconst 1, 1) := by decide +kernel
theorem dX7_can_12 : decode cX7_can 12 = .ok (.invokevirtual 237, 3) := by decide +kernel
theorem dX7_can_15 : decode cX7_can 15 = .ok (.ifCond .ne 5, 3) := by decide +kernel
theorem dX7_can_18 : decode cX7_can 18 = .ok (.iconst (-1), 1) := by decide +kernel
theorem dX7_can_19 : decode cX7_can 19 = .ok (.ireturn, 1) := by decide +kernel
theorem dX7_can_20 : decode cX7_can 20 = .ok (.aload_n 0, 1) := by decide +kernel
theorem dX7_can_21 : decode cX7_can 21 = .ok (.getfield 32, 3) := by decide +kernel
theorem dX7_can_24 : decode cX7_can 24 = .ok (.iload_n 1, 1) := by decide +kernel
theorem dX7_can_25 : decode cX7_can 25 = .ok (.iaload, 1) := by decide +kernel
theorem dX7_can_26 : decode cX7_can 26 = .ok (.istore_n 3, 1) := by decide +kernel
theorem dX7_can_27 : decode cX7_can 27 = .ok (.iconst 0, 1) := by decide +kernel
theorem dX7_can_28 : decode cX7_can 28 = .ok (.istore 4, 2) := by decide +kernel
theorem dX7_can_30 : decode cX7_can 30 = .ok (.bipush (-5), 2) := by decide +kernel
theorem dX7_can_32 : decode cX7_can 32 = .ok (.istore 5, 2) := by decide +kernel
theorem dX7_can_34 : decode cX7_can 34 = .ok (.bipush 9, 2) := by decide +kernel
theorem dX7_can_36 : decode cX7_can 36 = .ok (.istore 6, 2) := by decide +kernel
theorem dX7_can_38 : decode cX7_can 38 = .ok (.iload 6, 2) := by decide +kernel
theorem dX7_can_40 : decode cX7_can 40 = .ok (.ifCond .lt 34, 3) := by decide +kernel
theorem dX7_can_43 : decode cX7_can 43 = .ok (.aload_n 0, 1) := by decide +kernel
theorem dX7_can_44 : decode cX7_can 44 = .ok (.getfield 32, 3) := by decide +kernel
theorem dX7_can_47 : decode cX7_can 47 = .ok (.iload_n 1, 1) := by decide +kernel
theorem dX7_can_48 : decode cX7_can 48 = .ok (.iload 6, 2) := by decide +kernel
theorem dX7_can_50 : decode cX7_can 50 = .ok (.iastore, 1) := by decide +kernel
theorem dX7_can_51 : decode cX7_can 51 = .ok (.aload_n 0, 1) := by decide +kernel
theorem dX7_can_52 : decode cX7_can 52 = .ok (.invokevirtual 373, 3) := by decide +kernel
theorem dX7_can_55 : decode cX7_can 55 = .ok (.ifCond .ne 6, 3) := by decide +kernel
theorem dX7_can_58 : decode cX7_can 58 = .ok (.goto 10, 3) := by decide +kernel
theorem dX7_can_61 : decode cX7_can 61 = .ok (.iinc 4 1, 3) := by decide +kernel
theorem dX7_can_64 : decode cX7_can 64 = .ok (.iload 6, 2) := by decide +kernel
theorem dX7_can_66 : decode cX7_can 66 = .ok (.istore 5, 2) := by decide +kernel
theorem dX7_can_68 : decode cX7_can 68 = .ok (.iinc 6 (-1), 3) := by decide +kernel
theorem dX7_can_71 : decode cX7_can 71 = .ok (.goto (-33), 3) := by decide +kernel
theorem dX7_can_74 : decode cX7_can 74 = .ok (.aload_n 0, 1) := by decide +kernel
theorem dX7_can_75 : decode cX7_can 75 = .ok (.getfield 32, 3) := by decide +kernel
theorem dX7_can_78 : decode cX7_can 78 = .ok (.iload_n 1, 1) := by decide +kernel
theorem dX7_can_79 : decode cX7_can 79 = .ok (.iload_n 3, 1) := by decide +kernel
theorem dX7_can_80 : decode cX7_can 80 = .ok (.iastore, 1) := by decide +kernel
theorem dX7_can_81 : decode cX7_can 81 = .ok (.iload_n 2, 1) := by decide +kernel
theorem dX7_can_82 : decode cX7_can 82 = .ok (.ifCond .ne 8, 3) := by decide +kernel
theorem dX7_can_85 : decode cX7_can 85 = .ok (.iload 4, 2) := by decide +kernel
theorem dX7_can_87 : decode cX7_can 87 = .ok (.goto 5, 3) := by decide +kernel
theorem dX7_can_90 : decode cX7_can 90 = .ok (.iload 5, 2) := by decide +kernel
theorem dX7_can_92 : decode cX7_can 92 = .ok (.ireturn, 1) := by decide +kernel
theorem dX7_divisor_0 : decode cX7_divisor 0 = .ok (.iload_n 1, 1) := by decide +kernel
theorem dX7_divisor_1 : decode cX7_divisor 1 = .ok (.istore_n 3, 1) := by decide +kernel
theorem dX7_divisor_2 : decode cX7_divisor 2 = .ok (.iload_n 2, 1) := by decide +kernel
theorem dX7_divisor_3 : decode cX7_divisor 3 = .ok (.istore 4, 2) := by decide +kernel
theorem dX7_divisor_5 : decode cX7_divisor 5 = .ok (.iload 4, 2) := by decide +kernel
theorem dX7_divisor_7 : decode cX7_divisor 7 = .ok (.ifCond .eq 19, 3) := by decide +kernel
theorem dX7_divisor_10 : decode cX7_divisor 10 = .ok (.iload_n 3, 1) := by decide +kernel
theorem dX7_divisor_11 : decode cX7_divisor 11 = .ok (.iload 4, 2) := by decide +kernel
theorem dX7_divisor_13 : decode cX7_divisor 13 = .ok (.irem, 1) := by decide +kernel
theorem dX7_divisor_14 : decode cX7_divisor 14 = .ok (.istore 5, 2) := by decide +kernel
theorem dX7_divisor_16 : decode cX7_divisor 16 = .ok (.iload 4, 2) := by decide +kernel
theorem dX7_divisor_18 : decode cX7_divisor 18 = .ok (.istore_n 3, 1) := by decide +kernel
theorem dX7_divisor_19 : decode cX7_divisor 19 = .ok (.iload 5, 2) := by decide +kernel
theorem dX7_divisor_21 : decode cX7_divisor 21 = .ok (.istore 4, 2) := by decide +kernel
theorem dX7_divisor_23 : decode cX7_divisor 23 = .ok (.goto (-18), 3) := by decide +kernel
theorem dX7_divisor_26 : decode cX7_divisor 26 = .ok (.iload_n 3, 1) := by decide +kernel
theorem dX7_divisor_27 : decode cX7_divisor 27 = .ok (.ireturn, 1) := by decide +kernel
theorem dX7_lowest_0 : decode cX7_lowest 0 = .ok (.aload_n 0, 1) := by decide +kernel
theorem dX7_lowest_1 : decode cX7_lowest 1 = .ok (.iload_n 1, 1) := by decide +kernel
theorem dX7_lowest_2 : decode cX7_lowest 2 = .ok (.iload_n 2, 1) := by decide +kernel
theorem dX7_lowest_3 : decode cX7_lowest 3 = .ok (.invokevirtual 379, 3) := by decide +kernel
theorem dX7_lowest_6 : decode cX7_lowest 6 = .ok (.istore 4, 2) := by decide +kernel
theorem dX7_lowest_8 : decode cX7_lowest 8 = .ok (.iload_n 3, 1) := by decide +kernel
theorem dX7_lowest_9 : decode cX7_lowest 9 = .ok (.ifCond .ne 11, 3) := by decide +kernel
theorem dX7_lowest_12 : decode cX7_lowest 12 = .ok (.iload_n 1, 1) := by decide +kernel
theorem dX7_lowest_13 : decode cX7_lowest 13 = .ok (.iload 4, 2) := by decide +kernel
theorem dX7_lowest_15 : decode cX7_lowest 15 = .ok (.idiv, 1) := by decide +kernel
theorem dX7_lowest_16 : decode cX7_lowest 16 = .ok (.i2l, 1) := by decide +kernel
theorem dX7_lowest_17 : decode cX7_lowest 17 = .ok (.goto 8, 3) := by decide +kernel
theorem dX7_lowest_20 : decode cX7_lowest 20 = .ok (.iload_n 2, 1) := by decide +kernel
theorem dX7_lowest_21 : decode cX7_lowest 21 = .ok (.iload 4, 2) := by decide +kernel
theorem dX7_lowest_23 : decode cX7_lowest 23 = .ok (.idiv, 1) := by decide +kernel
theorem dX7_lowest_24 : decode cX7_lowest 24 = .ok (.i2l, 1) := by decide +kernel
theorem dX7_lowest_25 : decode cX7_lowest 25 = .ok (.lreturn, 1) := by decide +kernel
theorem dX7_odds_0 : decode cX7_odds 0 = .ok (.aload_n 0, 1) := by decide +kernel
theorem dX7_odds_1 : decode cX7_odds 1 = .ok (.iload_n 1, 1) := by decide +kernel
theorem dX7_odds_2 : decode cX7_odds 2 = .ok (.iconst 0, 1) := by decide +kernel
theorem dX7_odds_3 : decode cX7_odds 3 = .ok (.bipush 20, 2) := by decide +kernel
theorem dX7_odds_5 : decode cX7_odds 5 = .ok (.invokevirtual 237, 3) := by decide +kernel
theorem dX7_odds_8 : decode cX7_odds 8 = .ok (.ifCond .eq 20, 3) := by decide +kernel
theorem dX7_odds_11 : decode cX7_odds 11 = .ok (.aload_n 0, 1) := by decide +kernel
theorem dX7_odds_12 : decode cX7_odds 12 = .ok (.iload_n 2, 1) := by decide +kernel
theorem dX7_odds_13 : decode cX7_odds 13 = .ok (.iconst 0, 1) := by decide +kernel
theorem dX7_odds_14 : decode cX7_odds 14 = .ok (.iconst 1, 1) := by decide +kernel
theorem dX7_odds_15 : decode cX7_odds 15 = .ok (.invokevirtual 237, 3) := by decide +kernel
theorem dX7_odds_18 : decode cX7_odds 18 = .ok (.ifCond .eq 10, 3) := by decide +kernel
theorem dX7_odds_21 : decode cX7_odds 21 = .ok (.aload_n 0, 1) := by decide +kernel
theorem dX7_odds_22 : decode cX7_odds 22 = .ok (.getfield 7, 3) := by decide +kernel
theorem dX7_odds_25 : decode cX7_odds 25 = .ok (.ifCond .ne 7, 3) := by decide +kernel
theorem dX7_odds_28 : decode cX7_odds 28 = .ok (.ldc2_w 382, 3) := by decide +kernel
theorem dX7_odds_31 : decode cX7_odds 31 = .ok (.lreturn, 1) := by decide +kernel
theorem dX7_odds_32 : decode cX7_odds 32 = .ok (.iconst 0, 1) := by decide +kernel
theorem dX7_odds_33 : decode cX7_odds 33 = .ok (.istore_n 3, 1) := by decide +kernel
theorem dX7_odds_34 : decode cX7_odds 34 = .ok (.iconst 0, 1) := by decide +kernel
theorem dX7_odds_35 : decode cX7_odds 35 = .ok (.istore 4, 2) := by decide +kernel
theorem dX7_odds_37 : decode cX7_odds 37 = .ok (.iload 4, 2) := by decide +kernel
theorem dX7_odds_39 : decode cX7_odds 39 = .ok (.aload_n 0, 1) := by decide +kernel
theorem dX7_odds_40 : decode cX7_odds 40 = .ok (.getfield 7, 3) := by decide +kernel
theorem dX7_odds_43 : decode cX7_odds 43 = .ok (.if_icmp .ge 38, 3) := by decide +kernel
theorem dX7_odds_46 : decode cX7_odds 46 = .ok (.iload_n 3, 1) := by decide +kernel
theorem dX7_odds_47 : decode cX7_odds 47 = .ok (.aload_n 0, 1) := by decide +kernel
theorem dX7_odds_48 : decode cX7_odds 48 = .ok (.aload_n 0, 1) := by decide +kernel
theorem dX7_odds_49 : decode cX7_odds 49 = .ok (.getfield 13, 3) := by decide +kernel
theorem dX7_odds_52 : decode cX7_odds 52 = .ok (.iconst 1, 1) := by decide +kernel
theorem dX7_odds_53 : decode cX7_odds 53 = .ok (.iload 4, 2) := by decide +kernel
theorem dX7_odds_55 : decode cX7_odds 55 = .ok (.ishl, 1) := by decide +kernel
theorem dX7_odds_56 : decode cX7_odds 56 = .ok (.ixor, 1) := by decide +kernel
theorem dX7_odds_57 : decode cX7_odds 57 = .ok (.iload_n 1, 1) := by decide +kernel
theorem dX7_odds_58 : decode cX7_odds 58 = .ok (.invokevirtual 360, 3) := by decide +kernel
theorem dX7_odds_61 : decode cX7_odds 61 = .ok (.aload_n 0, 1) := by decide +kernel
theorem dX7_odds_62 : decode cX7_odds 62 = .ok (.getfield 19, 3) := by decide +kernel
theorem dX7_odds_65 : decode cX7_odds 65 = .ok (.if_icmp .le 7, 3) := by decide +kernel
theorem dX7_odds_68 : decode cX7_odds 68 = .ok (.iconst 1, 1) := by decide +kernel
theorem dX7_odds_69 : decode cX7_odds 69 = .ok (.goto 4, 3) := by decide +kernel
theorem dX7_odds_72 : decode cX7_odds 72 = .ok (.iconst 0, 1) := by decide +kernel
theorem dX7_odds_73 : decode cX7_odds 73 = .ok (.iadd, 1) := by decide +kernel
theorem dX7_odds_74 : decode cX7_odds 74 = .ok (.istore_n 3, 1) := by decide +kernel
theorem dX7_odds_75 : decode cX7_odds 75 = .ok (.iinc 4 1, 3) := by decide +kernel
theorem dX7_odds_78 : decode cX7_odds 78 = .ok (.goto (-41), 3) := by decide +kernel
theorem dX7_odds_81 : decode cX7_odds 81 = .ok (.aload_n 0, 1) := by decide +kernel
theorem dX7_odds_82 : decode cX7_odds 82 = .ok (.iload_n 3, 1) := by decide +kernel
theorem dX7_odds_83 : decode cX7_odds 83 = .ok (.aload_n 0, 1) := by decide +kernel
theorem dX7_odds_84 : decode cX7_odds 84 = .ok (.getfield 7, 3) := by decide +kernel
theorem dX7_odds_87 : decode cX7_odds 87 = .ok (.iload_n 2, 1) := by decide +kernel
theorem dX7_odds_88 : decode cX7_odds 88 = .ok (.invokevirtual 384, 3) := by decide +kernel
theorem dX7_odds_91 : decode cX7_odds 91 = .ok (.lreturn, 1) := by decide +kernel
theorem dX7_mean_0 : decode cX7_mean 0 = .ok (.aload_n 0, 1) := by decide +kernel
theorem dX7_mean_1 : decode cX7_mean 1 = .ok (.aload_n 0, 1) := by decide +kernel
theorem dX7_mean_2 : decode cX7_mean 2 = .ok (.invokevirtual 348, 3) := by decide +kernel
theorem dX7_mean_5 : decode cX7_mean 5 = .ok (.invokevirtual 363, 3) := by decide +kernel
theorem dX7_mean_8 : decode cX7_mean 8 = .ok (.istore_n 2, 1) := by decide +kernel
theorem dX7_mean_9 : decode cX7_mean 9 = .ok (.aload_n 0, 1) := by decide +kernel
theorem dX7_mean_10 : decode cX7_mean 10 = .ok (.iload_n 1, 1) := by decide +kernel
theorem dX7_mean_11 : decode cX7_mean 11 = .ok (.iconst 0, 1) := by decide +kernel
theorem dX7_mean_12 : decode cX7_mean 12 = .ok (.iconst 1, 1) := by decide +kernel
theorem dX7_mean_13 : decode cX7_mean 13 = .ok (.invokevirtual 237, 3) := by decide +kernel
theorem dX7_mean_16 : decode cX7_mean 16 = .ok (.ifCond .eq 7, 3) := by decide +kernel
theorem dX7_mean_19 : decode cX7_mean 19 = .ok (.iload_n 2, 1) := by decide +kernel
theorem dX7_mean_20 : decode cX7_mean 20 = .ok (.ifCond .ne 7, 3) := by decide +kernel
theorem dX7_mean_23 : decode cX7_mean 23 = .ok (.ldc2_w 382, 3) := by decide +kernel
theorem dX7_mean_26 : decode cX7_mean 26 = .ok (.lreturn, 1) := by decide +kernel
theorem dX7_mean_27 : decode cX7_mean 27 = .ok (.iconst 0, 1) := by decide +kernel
theorem dX7_mean_28 : decode cX7_mean 28 = .ok (.istore_n 3, 1) := by decide +kernel
theorem dX7_mean_29 : decode cX7_mean 29 = .ok (.iconst 0, 1) := by decide +kernel
theorem dX7_mean_30 : decode cX7_mean 30 = .ok (.istore 4, 2) := by decide +kernel
theorem dX7_mean_32 : decode cX7_mean 32 = .ok (.iload 4, 2) := by decide +kernel
theorem dX7_mean_34 : decode cX7_mean 34 = .ok (.aload_n 0, 1) := by decide +kernel
theorem dX7_mean_35 : decode cX7_mean 35 = .ok (.getfield 7, 3) := by decide +kernel
theorem dX7_mean_38 : decode cX7_mean 38 = .ok (.if_icmp .ge 36, 3) := by decide +kernel
theorem dX7_mean_41 : decode cX7_mean 41 = .ok (.iload_n 3, 1) := by decide +kernel
theorem dX7_mean_42 : decode cX7_mean 42 = .ok (.aload_n 0, 1) := by decide +kernel
theorem dX7_mean_43 : decode cX7_mean 43 = .ok (.aload_n 0, 1) := by decide +kernel
theorem dX7_mean_44 : decode cX7_mean 44 = .ok (.getfield 13, 3) := by decide +kernel
theorem dX7_mean_47 : decode cX7_mean 47 = .ok (.iload 4, 2) := by decide +kernel
theorem dX7_mean_49 : decode cX7_mean 49 = .ok (.invokevirtual 233, 3) := by decide +kernel
theorem dX7_mean_52 : decode cX7_mean 52 = .ok (.ifCond .eq 7, 3) := by decide +kernel
theorem dX7_mean_55 : decode cX7_mean 55 = .ok (.iconst 0, 1) := by decide +kernel
theorem dX7_mean_56 : decode cX7_mean 56 = .ok (.goto 10, 3) := by decide +kernel
theorem dX7_mean_59 : decode cX7_mean 59 = .ok (.aload_n 0, 1) := by decide +kernel
theorem dX7_mean_60 : decode cX7_mean 60 = .ok (.getfield 35, 3) := by decide +kernel
theorem dX7_mean_63 : decode cX7_mean 63 = .ok (.iload 4, 2) := by decide +kernel
theorem dX7_mean_65 : decode cX7_mean 65 = .ok (.iaload, 1) := by decide +kernel
theorem dX7_mean_66 : decode cX7_mean 66 = .ok (.iadd, 1) := by decide +kernel
theorem dX7_mean_67 : decode cX7_mean 67 = .ok (.istore_n 3, 1) := by decide +kernel
theorem dX7_mean_68 : decode cX7_mean 68 = .ok (.iinc 4 1, 3) := by decide +kernel
theorem dX7_mean_71 : decode cX7_mean 71 = .ok (.goto (-39), 3) := by decide +kernel
theorem dX7_mean_74 : decode cX7_mean 74 = .ok (.aload_n 0, 1) := by decide +kernel
theorem dX7_mean_75 : decode cX7_mean 75 = .ok (.iload_n 3, 1) := by decide +kernel
theorem dX7_mean_76 : decode cX7_mean 76 = .ok (.iload_n 2, 1) := by decide +kernel
theorem dX7_mean_77 : decode cX7_mean 77 = .ok (.iload_n 1, 1) := by decide +kernel
theorem dX7_mean_78 : decode cX7_mean 78 = .ok (.invokevirtual 384, 3) := by decide +kernel
theorem dX7_mean_81 : decode cX7_mean 81 = .ok (.lreturn, 1) := by decide +kernel
theorem dX7_plan_0 : decode cX7_plan 0 = .ok (.iload_n 1, 1) := by decide +kernel
theorem dX7_plan_1 : decode cX7_plan 1 = .ok (.iconst (-1), 1) := by decide +kernel
theorem dX7_plan_2 : decode cX7_plan 2 = .ok (.if_icmp .ne 10, 3) := by decide +kernel
theorem dX7_plan_5 : decode cX7_plan 5 = .ok (.aload_n 0, 1) := by decide +kernel
theorem dX7_plan_6 : decode cX7_plan 6 = .ok (.iconst 0, 1) := by decide +kernel
theorem dX7_plan_7 : decode cX7_plan 7 = .ok (.putfield 129, 3) := by decide +kernel
theorem dX7_plan_10 : decode cX7_plan 10 = .ok (.iconst 0, 1) := by decide +kernel
theorem dX7_plan_11 : decode cX7_plan 11 = .ok (.ireturn, 1) := by decide +kernel
theorem dX7_plan_12 : decode cX7_plan 12 = .ok (.aload_n 0, 1) := by decide +kernel
theorem dX7_plan_13 : decode cX7_plan 13 = .ok (.iload_n 1, 1) := by decide +kernel
theorem dX7_plan_14 : decode cX7_plan 14 = .ok (.iconst 0, 1) := by decide +kernel
theorem dX7_plan_15 : decode cX7_plan 15 = .ok (.iconst 3, 1) := by decide +kernel
theorem dX7_plan_16 : decode cX7_plan 16 = .ok (.invokevirtual 237, 3) := by decide +kernel
theorem dX7_plan_19 : decode cX7_plan 19 = .ok (.ifCond .eq 21, 3) := by decide +kernel
theorem dX7_plan_22 : decode cX7_plan 22 = .ok (.aload_n 0, 1) := by decide +kernel
theorem dX7_plan_23 : decode cX7_plan 23 = .ok (.iload_n 1, 1) := by decide +kernel
theorem dX7_plan_24 : decode cX7_plan 24 = .ok (.iconst 1, 1) := by decide +kernel
theorem dX7_plan_25 : decode cX7_plan 25 = .ok (.iconst 2, 1) := by decide +kernel
theorem dX7_plan_26 : decode cX7_plan 26 = .ok (.invokevirtual 237, 3) := by decide +kernel
theorem dX7_plan_29 : decode cX7_plan 29 = .ok (.ifCond .eq 13, 3) := by decide +kernel
theorem dX7_plan_32 : decode cX7_plan 32 = .ok (.aload_n 0, 1) := by decide +kernel
theorem dX7_plan_33 : decode cX7_plan 33 = .ok (.iload_n 2, 1) := by decide +kernel
theorem dX7_plan_34 : decode cX7_plan 34 = .ok (.invokevirtual 245, 3) := by decide +kernel
theorem dX7_plan_37 : decode cX7_plan 37 = .ok (.ifCond .ne 5, 3) := by decide +kernel
theorem dX7_plan_40 : decode cX7_plan 40 = .ok (.iconst (-1), 1) := by decide +kernel
theorem dX7_plan_41 : decode cX7_plan 41 = .ok (.ireturn, 1) := by decide +kernel
theorem dX7_plan_42 : decode cX7_plan 42 = .ok (.aload_n 0, 1) := by decide +kernel
theorem dX7_plan_43 : decode cX7_plan 43 = .ok (.getfield 129, 3) := by decide +kernel
theorem dX7_plan_46 : decode cX7_plan 46 = .ok (.bipush 10, 2) := by decide +kernel
theorem dX7_plan_48 : decode cX7_plan 48 = .ok (.if_icmp .ne 6, 3) := by decide +kernel
theorem dX7_plan_51 : decode cX7_plan 51 = .ok (.bipush (-4), 2) := by decide +kernel
theorem dX7_plan_53 : decode cX7_plan 53 = .ok (.ireturn, 1) := by decide +kernel
theorem dX7_plan_54 : decode cX7_plan 54 = .ok (.aload_n 0, 1) := by decide +kernel
theorem dX7_plan_55 : decode cX7_plan 55 = .ok (.getfield 135, 3) := by decide +kernel
theorem dX7_plan_58 : decode cX7_plan 58 = .ok (.aload_n 0, 1) := by decide +kernel
theorem dX7_plan_59 : decode cX7_plan 59 = .ok (.getfield 129, 3) := by decide +kernel
theorem dX7_plan_62 : decode cX7_plan 62 = .ok (.iload_n 1, 1) := by decide +kernel
theorem dX7_plan_63 : decode cX7_plan 63 = .ok (.iastore, 1) := by decide +kernel
theorem dX7_plan_64 : decode cX7_plan 64 = .ok (.aload_n 0, 1) := by decide +kernel
theorem dX7_plan_65 : decode cX7_plan 65 = .ok (.getfield 138, 3) := by decide +kernel
theorem dX7_plan_68 : decode cX7_plan 68 = .ok (.aload_n 0, 1) := by decide +kernel
theorem dX7_plan_69 : decode cX7_plan 69 = .ok (.getfield 129, 3) := by decide +kernel
theorem dX7_plan_72 : decode cX7_plan 72 = .ok (.aload_n 0, 1) := by decide +kernel
theorem dX7_plan_73 : decode cX7_plan 73 = .ok (.iload_n 1, 1) := by decide +kernel
theorem dX7_plan_74 : decode cX7_plan 74 = .ok (.iconst 1, 1) := by decide +kernel
theorem dX7_plan_75 : decode cX7_plan 75 = .ok (.iconst 2, 1) := by decide +kernel
theorem dX7_plan_76 : decode cX7_plan 76 = .ok (.invokevirtual 237, 3) := by decide +kernel
theorem dX7_plan_79 : decode cX7_plan 79 = .ok (.ifCond .eq 7, 3) := by decide +kernel
theorem dX7_plan_82 : decode cX7_plan 82 = .ok (.iload_n 2, 1) := by decide +kernel
theorem dX7_plan_83 : decode cX7_plan 83 = .ok (.goto 4, 3) := by decide +kernel
theorem dX7_plan_86 : decode cX7_plan 86 = .ok (.iconst 0, 1) := by decide +kernel
theorem dX7_plan_87 : decode cX7_plan 87 = .ok (.iastore, 1) := by decide +kernel
theorem dX7_plan_88 : decode cX7_plan 88 = .ok (.aload_n 0, 1) := by decide +kernel
theorem dX7_plan_89 : decode cX7_plan 89 = .ok (.dup, 1) := by decide +kernel
theorem dX7_plan_90 : decode cX7_plan 90 = .ok (.getfield 129, 3) := by decide +kernel
theorem dX7_plan_93 : decode cX7_plan 93 = .ok (.iconst 1, 1) := by decide +kernel
theorem dX7_plan_94 : decode cX7_plan 94 = .ok (.iadd, 1) := by decide +kernel
theorem dX7_plan_95 : decode cX7_plan 95 = .ok (.putfield 129, 3) := by decide +kernel
theorem dX7_plan_98 : decode cX7_plan 98 = .ok (.aload_n 0, 1) := by decide +kernel
theorem dX7_plan_99 : decode cX7_plan 99 = .ok (.getfield 129, 3) := by decide +kernel
theorem dX7_plan_102 : decode cX7_plan 102 = .ok (.ireturn, 1) := by decide +kernel
theorem dX7_goPlan_0 : decode cX7_goPlan 0 = .ok (.iload_n 1, 1) := by decide +kernel
theorem dX7_goPlan_1 : decode cX7_goPlan 1 = .ok (.ifCond .ne 7, 3) := by decide +kernel
theorem dX7_goPlan_4 : decode cX7_goPlan 4 = .ok (.aload_n 0, 1) := by decide +kernel
theorem dX7_goPlan_5 : decode cX7_goPlan 5 = .ok (.invokevirtual 332, 3) := by decide +kernel
theorem dX7_goPlan_8 : decode cX7_goPlan 8 = .ok (.aload_n 0, 1) := by decide +kernel
theorem dX7_goPlan_9 : decode cX7_goPlan 9 = .ok (.iload_n 1, 1) := by decide +kernel
theorem dX7_goPlan_10 : decode cX7_goPlan 10 = .ok (.iconst 1, 1) := by decide +kernel
theorem dX7_goPlan_11 : decode cX7_goPlan 11 = .ok (.iconst 2, 1) := by decide +kernel
theorem dX7_goPlan_12 : decode cX7_goPlan 12 = .ok (.invokevirtual 237, 3) := by decide +kernel
theorem dX7_goPlan_15 : decode cX7_goPlan 15 = .ok (.ifCond .eq 18, 3) := by decide +kernel
theorem dX7_goPlan_18 : decode cX7_goPlan 18 = .ok (.aload_n 0, 1) := by decide +kernel
theorem dX7_goPlan_19 : decode cX7_goPlan 19 = .ok (.iload_n 2, 1) := by decide +kernel
theorem dX7_goPlan_20 : decode cX7_goPlan 20 = .ok (.iload_n 1, 1) := by decide +kernel
theorem dX7_goPlan_21 : decode cX7_goPlan 21 = .ok (.iconst 1, 1) := by decide +kernel
theorem dX7_goPlan_22 : decode cX7_goPlan 22 = .ok (.if_icmp .ne 7, 3) := by decide +kernel
theorem dX7_goPlan_25 : decode cX7_goPlan 25 = .ok (.iconst 1, 1) := by decide +kernel
theorem dX7_goPlan_26 : decode cX7_goPlan 26 = .ok (.goto 4, 3) := by decide +kernel
theorem dX7_goPlan_29 : decode cX7_goPlan 29 = .ok (.iconst 0, 1) := by decide +kernel
theorem dX7_goPlan_30 : decode cX7_goPlan 30 = .ok (.invokevirtual 248, 3) := by decide +kernel
theorem dX7_goPlan_33 : decode cX7_goPlan 33 = .ok (.iload_n 1, 1) := by decide +kernel
theorem dX7_goPlan_34 : decode cX7_goPlan 34 = .ok (.iconst 3, 1) := by decide +kernel
theorem dX7_goPlan_35 : decode cX7_goPlan 35 = .ok (.if_icmp .ne 8, 3) := by decide +kernel
theorem dX7_goPlan_38 : decode cX7_goPlan 38 = .ok (.aload_n 0, 1) := by decide +kernel
theorem dX7_goPlan_39 : decode cX7_goPlan 39 = .ok (.iconst 0, 1) := by decide +kernel
theorem dX7_goPlan_40 : decode cX7_goPlan 40 = .ok (.putfield 16, 3) := by decide +kernel
theorem dX7_goPlan_43 : decode cX7_goPlan 43 = .ok (.return_, 1) := by decide +kernel
theorem dX7_ends_0 : decode cX7_ends 0 = .ok (.aload_n 0, 1) := by decide +kernel
theorem dX7_ends_1 : decode cX7_ends 1 = .ok (.iload_n 1, 1) := by decide +kernel
theorem dX7_ends_2 : decode cX7_ends 2 = .ok (.iconst 0, 1) := by decide +kernel
theorem dX7_ends_3 : decode cX7_ends 3 = .ok (.iconst 1, 1) := by decide +kernel
theorem dX7_ends_4 : decode cX7_ends 4 = .ok (.invokevirtual 237, 3) := by decide +kernel
theorem dX7_ends_7 : decode cX7_ends 7 = .ok (.ifCond .ne 5, 3) := by decide +kernel
theorem dX7_ends_10 : decode cX7_ends 10 = .ok (.iconst (-1), 1) := by decide +kernel
theorem dX7_ends_11 : decode cX7_ends 11 = .ok (.ireturn, 1) := by decide +kernel
theorem dX7_ends_12 : decode cX7_ends 12 = .ok (.aload_n 0, 1) := by decide +kernel
theorem dX7_ends_13 : decode cX7_ends 13 = .ok (.invokevirtual 342, 3) := by decide +kernel
theorem dX7_ends_16 : decode cX7_ends 16 = .ok (.iconst 0, 1) := by decide +kernel
theorem dX7_ends_17 : decode cX7_ends 17 = .ok (.istore_n 2, 1) := by decide +kernel
theorem dX7_ends_18 : decode cX7_ends 18 = .ok (.iload_n 2, 1) := by decide +kernel
theorem dX7_ends_19 : decode cX7_ends 19 = .ok (.aload_n 0, 1) := by decide +kernel
theorem dX7_ends_20 : decode cX7_ends 20 = .ok (.getfield 129, 3) := by decide +kernel
theorem dX7_ends_23 : decode cX7_ends 23 = .ok (.if_icmp .ge 25, 3) := by decide +kernel
theorem dX7_ends_26 : decode cX7_ends 26 = .ok (.aload_n 0, 1) := by decide +kernel
theorem dX7_ends_27 : decode cX7_ends 27 = .ok (.aload_n 0, 1) := by decide +kernel
theorem dX7_ends_28 : decode cX7_ends 28 = .ok (.getfield 135, 3) := by decide +kernel
theorem dX7_ends_31 : decode cX7_ends 31 = .ok (.iload_n 2, 1) := by decide +kernel
theorem dX7_ends_32 : decode cX7_ends 32 = .ok (.iaload, 1) := by decide +kernel
theorem dX7_ends_33 : decode cX7_ends 33 = .ok (.aload_n 0, 1) := by decide +kernel
theorem dX7_ends_34 : decode cX7_ends 34 = .ok (.getfield 138, 3) := by decide +kernel
theorem dX7_ends_37 : decode cX7_ends 37 = .ok (.iload_n 2, 1) := by decide +kernel
theorem dX7_ends_38 : decode cX7_ends 38 = .ok (.iaload, 1) := by decide +kernel
theorem dX7_ends_39 : decode cX7_ends 39 = .ok (.invokevirtual 388, 3) := by decide +kernel
theorem dX7_ends_42 : decode cX7_ends 42 = .ok (.iinc 2 1, 3) := by decide +kernel
theorem dX7_ends_45 : decode cX7_ends 45 = .ok (.goto (-27), 3) := by decide +kernel
theorem dX7_ends_48 : decode cX7_ends 48 = .ok (.iload_n 1, 1) := by decide +kernel
theorem dX7_ends_49 : decode cX7_ends 49 = .ok (.ifCond .ne 10, 3) := by decide +kernel
theorem dX7_ends_52 : decode cX7_ends 52 = .ok (.aload_n 0, 1) := by decide +kernel
theorem dX7_ends_53 : decode cX7_ends 53 = .ok (.getfield 16, 3) := by decide +kernel
theorem dX7_ends_56 : decode cX7_ends 56 = .ok (.goto 7, 3) := by decide +kernel
theorem dX7_ends_59 : decode cX7_ends 59 = .ok (.aload_n 0, 1) := by decide +kernel
theorem dX7_ends_60 : decode cX7_ends 60 = .ok (.getfield 19, 3) := by decide +kernel
theorem dX7_ends_63 : decode cX7_ends 63 = .ok (.istore_n 2, 1) := by decide +kernel
theorem dX7_ends_64 : decode cX7_ends 64 = .ok (.aload_n 0, 1) := by decide +kernel
theorem dX7_ends_65 : decode cX7_ends 65 = .ok (.invokevirtual 345, 3) := by decide +kernel
theorem dX7_ends_68 : decode cX7_ends 68 = .ok (.iload_n 2, 1) := by decide +kernel
theorem dX7_ends_69 : decode cX7_ends 69 = .ok (.ireturn, 1) := by decide +kernel
theorem dX7_book_0 : decode cX7_book 0 = .ok (.iload_n 1, 1) := by decide +kernel
theorem dX7_book_1 : decode cX7_book 1 = .ok (.iconst (-1), 1) := by decide +kernel
theorem dX7_book_2 : decode cX7_book 2 = .ok (.if_icmp .ne 10, 3) := by decide +kernel
theorem dX7_book_5 : decode cX7_book 5 = .ok (.aload_n 0, 1) := by decide +kernel
theorem dX7_book_6 : decode cX7_book 6 = .ok (.iconst 0, 1) := by decide +kernel
theorem dX7_book_7 : decode cX7_book 7 = .ok (.putfield 132, 3) := by decide +kernel
theorem dX7_book_10 : decode cX7_book 10 = .ok (.iconst 0, 1) := by decide +kernel
theorem dX7_book_11 : decode cX7_book 11 = .ok (.ireturn, 1) := by decide +kernel
theorem dX7_book_12 : decode cX7_book 12 = .ok (.aload_n 0, 1) := by decide +kernel
theorem dX7_book_13 : decode cX7_book 13 = .ok (.iload_n 1, 1) := by decide +kernel
theorem dX7_book_14 : decode cX7_book 14 = .ok (.invokevirtual 245, 3) := by decide +kernel
theorem dX7_book_17 : decode cX7_book 17 = .ok (.ifCond .ne 5, 3) := by decide +kernel
theorem dX7_book_20 : decode cX7_book 20 = .ok (.iconst (-1), 1) := by decide +kernel
theorem dX7_book_21 : decode cX7_book 21 = .ok (.ireturn, 1) := by decide +kernel
theorem dX7_book_22 : decode cX7_book 22 = .ok (.aload_n 0, 1) := by decide +kernel
theorem dX7_book_23 : decode cX7_book 23 = .ok (.iload_n 2, 1) := by decide +kernel
theorem dX7_book_24 : decode cX7_book 24 = .ok (.invokevirtual 241, 3) := by decide +kernel
theorem dX7_book_27 : decode cX7_book 27 = .ok (.ifCond .ne 6, 3) := by decide +kernel
theorem dX7_book_30 : decode cX7_book 30 = .ok (.bipush (-2), 2) := by decide +kernel
theorem dX7_book_32 : decode cX7_book 32 = .ok (.ireturn, 1) := by decide +kernel
theorem dX7_book_33 : decode cX7_book 33 = .ok (.aload_n 0, 1) := by decide +kernel
theorem dX7_book_34 : decode cX7_book 34 = .ok (.getfield 132, 3) := by decide +kernel
theorem dX7_book_37 : decode cX7_book 37 = .ok (.bipush 8, 2) := by decide +kernel
theorem dX7_book_39 : decode cX7_book 39 = .ok (.if_icmp .ne 6, 3) := by decide +kernel
theorem dX7_book_42 : decode cX7_book 42 = .ok (.bipush (-4), 2) := by decide +kernel
theorem dX7_book_44 : decode cX7_book 44 = .ok (.ireturn, 1) := by decide +kernel
theorem dX7_book_45 : decode cX7_book 45 = .ok (.aload_n 0, 1) := by decide +kernel
theorem dX7_book_46 : decode cX7_book 46 = .ok (.getfield 141, 3) := by decide +kernel
theorem dX7_book_49 : decode cX7_book 49 = .ok (.aload_n 0, 1) := by decide +kernel
theorem dX7_book_50 : decode cX7_book 50 = .ok (.getfield 132, 3) := by decide +kernel
theorem dX7_book_53 : decode cX7_book 53 = .ok (.iload_n 1, 1) := by decide +kernel
theorem dX7_book_54 : decode cX7_book 54 = .ok (.iastore, 1) := by decide +kernel
theorem dX7_book_55 : decode cX7_book 55 = .ok (.aload_n 0, 1) := by decide +kernel
theorem dX7_book_56 : decode cX7_book 56 = .ok (.getfield 144, 3) := by decide +kernel
theorem dX7_book_59 : decode cX7_book 59 = .ok (.aload_n 0, 1) := by decide +kernel
theorem dX7_book_60 : decode cX7_book 60 = .ok (.getfield 132, 3) := by decide +kernel
theorem dX7_book_63 : decode cX7_book 63 = .ok (.iload_n 2, 1) := by decide +kernel
theorem dX7_book_64 : decode cX7_book 64 = .ok (.iastore, 1) := by decide +kernel
theorem dX7_book_65 : decode cX7_book 65 = .ok (.aload_n 0, 1) := by decide +kernel
theorem dX7_book_66 : decode cX7_book 66 = .ok (.dup, 1) := by decide +kernel
theorem dX7_book_67 : decode cX7_book 67 = .ok (.getfield 132, 3) := by decide +kernel
theorem dX7_book_70 : decode cX7_book 70 = .ok (.iconst 1, 1) := by decide +kernel
theorem dX7_book_71 : decode cX7_book 71 = .ok (.iadd, 1) := by decide +kernel
theorem dX7_book_72 : decode cX7_book 72 = .ok (.putfield 132, 3) := by decide +kernel
theorem dX7_book_75 : decode cX7_book 75 = .ok (.aload_n 0, 1) := by decide +kernel
theorem dX7_book_76 : decode cX7_book 76 = .ok (.getfield 132, 3) := by decide +kernel
theorem dX7_book_79 : decode cX7_book 79 = .ok (.ireturn, 1) := by decide +kernel
theorem dX7_looked_0 : decode cX7_looked 0 = .ok (.iconst 0, 1) := by decide +kernel
theorem dX7_looked_1 : decode cX7_looked 1 = .ok (.istore_n 1, 1) := by decide +kernel
theorem dX7_looked_2 : decode cX7_looked 2 = .ok (.iload_n 1, 1) := by decide +kernel
theorem dX7_looked_3 : decode cX7_looked 3 = .ok (.aload_n 0, 1) := by decide +kernel
theorem dX7_looked_4 : decode cX7_looked 4 = .ok (.getfield 132, 3) := by decide +kernel
theorem dX7_looked_7 : decode cX7_looked 7 = .ok (.if_icmp .ge 31, 3) := by decide +kernel
theorem dX7_looked_10 : decode cX7_looked 10 = .ok (.aload_n 0, 1) := by decide +kernel
theorem dX7_looked_11 : decode cX7_looked 11 = .ok (.getfield 35, 3) := by decide +kernel
theorem dX7_looked_14 : decode cX7_looked 14 = .ok (.aload_n 0, 1) := by decide +kernel
theorem dX7_looked_15 : decode cX7_looked 15 = .ok (.getfield 141, 3) := by decide +kernel
theorem dX7_looked_18 : decode cX7_looked 18 = .ok (.iload_n 1, 1) := by decide +kernel
theorem dX7_looked_19 : decode cX7_looked 19 = .ok (.iaload, 1) := by decide +kernel
theorem dX7_looked_20 : decode cX7_looked 20 = .ok (.iaload, 1) := by decide +kernel
theorem dX7_looked_21 : decode cX7_looked 21 = .ok (.aload_n 0, 1) := by decide +kernel
theorem dX7_looked_22 : decode cX7_looked 22 = .ok (.getfield 144, 3) := by decide +kernel
theorem dX7_looked_25 : decode cX7_looked 25 = .ok (.iload_n 1, 1) := by decide +kernel
theorem dX7_looked_26 : decode cX7_looked 26 = .ok (.iaload, 1) := by decide +kernel
theorem dX7_looked_27 : decode cX7_looked 27 = .ok (.if_icmp .eq 5, 3) := by decide +kernel
theorem dX7_looked_30 : decode cX7_looked 30 = .ok (.iload_n 1, 1) := by decide +kernel
theorem dX7_looked_31 : decode cX7_looked 31 = .ok (.ireturn, 1) := by decide +kernel
theorem dX7_looked_32 : decode cX7_looked 32 = .ok (.iinc 1 1, 3) := by decide +kernel
theorem dX7_looked_35 : decode cX7_looked 35 = .ok (.goto (-33), 3) := by decide +kernel
theorem dX7_looked_38 : decode cX7_looked 38 = .ok (.bipush (-5), 2) := by decide +kernel
theorem dX7_looked_40 : decode cX7_looked 40 = .ok (.ireturn, 1) := by decide +kernel
theorem dX7_judge_0 : decode cX7_judge 0 = .ok (.aload_n 0, 1) := by decide +kernel
theorem dX7_judge_1 : decode cX7_judge 1 = .ok (.iload_n 1, 1) := by decide +kernel
theorem dX7_judge_2 : decode cX7_judge 2 = .ok (.invokevirtual 392, 3) := by decide +kernel
theorem dX7_judge_5 : decode cX7_judge 5 = .ok (.ifCond .ne 5, 3) := by decide +kernel
theorem dX7_judge_8 : decode cX7_judge 8 = .ok (.iconst (-1), 1) := by decide +kernel
theorem dX7_judge_9 : decode cX7_judge 9 = .ok (.ireturn, 1) := by decide +kernel
theorem dX7_judge_10 : decode cX7_judge 10 = .ok (.aload_n 0, 1) := by decide +kernel
theorem dX7_judge_11 : decode cX7_judge 11 = .ok (.getfield 220, 3) := by decide +kernel
theorem dX7_judge_14 : decode cX7_judge 14 = .ok (.iload_n 1, 1) := by decide +kernel
theorem dX7_judge_15 : decode cX7_judge 15 = .ok (.iaload, 1) := by decide +kernel
theorem dX7_judge_16 : decode cX7_judge 16 = .ok (.ifCond .lt 16, 3) := by decide +kernel
theorem dX7_judge_19 : decode cX7_judge 19 = .ok (.aload_n 0, 1) := by decide +kernel
theorem dX7_judge_20 : decode cX7_judge 20 = .ok (.getfield 220, 3) := by decide +kernel
theorem dX7_judge_23 : decode cX7_judge 23 = .ok (.iload_n 1, 1) := by decide +kernel
theorem dX7_judge_24 : decode cX7_judge 24 = .ok (.iaload, 1) := by decide +kernel
theorem dX7_judge_25 : decode cX7_judge 25 = .ok (.iconst 2, 1) := by decide +kernel
theorem dX7_judge_26 : decode cX7_judge 26 = .ok (.if_icmp .eq 6, 3) := by decide +kernel
theorem dX7_judge_29 : decode cX7_judge 29 = .ok (.bipush (-12), 2) := by decide +kernel
theorem dX7_judge_31 : decode cX7_judge 31 = .ok (.ireturn, 1) := by decide +kernel
theorem dX7_judge_32 : decode cX7_judge 32 = .ok (.iconst 0, 1) := by decide +kernel
theorem dX7_judge_33 : decode cX7_judge 33 = .ok (.istore_n 3, 1) := by decide +kernel
theorem dX7_judge_34 : decode cX7_judge 34 = .ok (.iload_n 3, 1) := by decide +kernel
theorem dX7_judge_35 : decode cX7_judge 35 = .ok (.aload_n 0, 1) := by decide +kernel
theorem dX7_judge_36 : decode cX7_judge 36 = .ok (.getfield 7, 3) := by decide +kernel
theorem dX7_judge_39 : decode cX7_judge 39 = .ok (.if_icmp .ge 67, 3) := by decide +kernel
theorem dX7_judge_42 : decode cX7_judge 42 = .ok (.aload_n 0, 1) := by decide +kernel
theorem dX7_judge_43 : decode cX7_judge 43 = .ok (.getfield 220, 3) := by decide +kernel
theorem dX7_judge_46 : decode cX7_judge 46 = .ok (.iload_n 1, 1) := by decide +kernel
theorem dX7_judge_47 : decode cX7_judge 47 = .ok (.iaload, 1) := by decide +kernel
theorem dX7_judge_48 : decode cX7_judge 48 = .ok (.ifCond .lt 21, 3) := by decide +kernel
theorem dX7_judge_51 : decode cX7_judge 51 = .ok (.iload_n 2, 1) := by decide +kernel
theorem dX7_judge_52 : decode cX7_judge 52 = .ok (.ifCond .lt 17, 3) := by decide +kernel
theorem dX7_judge_55 : decode cX7_judge 55 = .ok (.iload_n 2, 1) := by decide +kernel
theorem dX7_judge_56 : decode cX7_judge 56 = .ok (.aload_n 0, 1) := by decide +kernel
theorem dX7_judge_57 : decode cX7_judge 57 = .ok (.getfield 223, 3) := by decide +kernel
theorem dX7_judge_60 : decode cX7_judge 60 = .ok (.iload_n 1, 1) := by decide +kernel
theorem dX7_judge_61 : decode cX7_judge 61 = .ok (.iaload, 1) := by decide +kernel
theorem dX7_judge_62 : decode cX7_judge 62 = .ok (.iload_n 3, 1) := by decide +kernel
theorem dX7_judge_63 : decode cX7_judge 63 = .ok (.isub, 1) := by decide +kernel
theorem dX7_judge_64 : decode cX7_judge 64 = .ok (.iconst 1, 1) := by decide +kernel
theorem dX7_judge_65 : decode cX7_judge 65 = .ok (.isub, 1) := by decide +kernel
theorem dX7_judge_66 : decode cX7_judge 66 = .ok (.if_icmp .le 8, 3) := by decide +kernel
theorem dX7_judge_69 : decode cX7_judge 69 = .ok (.bipush 100, 2) := by decide +kernel
theorem dX7_judge_71 : decode cX7_judge 71 = .ok (.iload_n 3, 1) := by decide +kernel
theorem dX7_judge_72 : decode cX7_judge 72 = .ok (.iadd, 1) := by decide +kernel
theorem dX7_judge_73 : decode cX7_judge 73 = .ok (.ireturn, 1) := by decide +kernel
theorem dX7_judge_74 : decode cX7_judge 74 = .ok (.aload_n 0, 1) := by decide +kernel
theorem dX7_judge_75 : decode cX7_judge 75 = .ok (.getfield 226, 3) := by decide +kernel
theorem dX7_judge_78 : decode cX7_judge 78 = .ok (.bipush 60, 2) := by decide +kernel
theorem dX7_judge_80 : decode cX7_judge 80 = .ok (.iload_n 1, 1) := by decide +kernel
theorem dX7_judge_81 : decode cX7_judge 81 = .ok (.imul, 1) := by decide +kernel
theorem dX7_judge_82 : decode cX7_judge 82 = .ok (.iload_n 2, 1) := by decide +kernel
theorem dX7_judge_83 : decode cX7_judge 83 = .ok (.iadd, 1) := by decide +kernel
theorem dX7_judge_84 : decode cX7_judge 84 = .ok (.iload_n 3, 1) := by decide +kernel
theorem dX7_judge_85 : decode cX7_judge 85 = .ok (.iadd, 1) := by decide +kernel
theorem dX7_judge_86 : decode cX7_judge 86 = .ok (.laload, 1) := by decide +kernel
theorem dX7_judge_87 : decode cX7_judge 87 = .ok (.aload_n 0, 1) := by decide +kernel
theorem dX7_judge_88 : decode cX7_judge 88 = .ok (.getfield 38, 3) := by decide +kernel
theorem dX7_judge_91 : decode cX7_judge 91 = .ok (.iload_n 3, 1) := by decide +kernel
theorem dX7_judge_92 : decode cX7_judge 92 = .ok (.iaload, 1) := by decide +kernel
theorem dX7_judge_93 : decode cX7_judge 93 = .ok (.i2l, 1) := by decide +kernel
theorem dX7_judge_94 : decode cX7_judge 94 = .ok (.lcmp, 1) := by decide +kernel
theorem dX7_judge_95 : decode cX7_judge 95 = .ok (.ifCond .eq 5, 3) := by decide +kernel
theorem dX7_judge_98 : decode cX7_judge 98 = .ok (.iload_n 3, 1) := by decide +kernel
theorem dX7_judge_99 : decode cX7_judge 99 = .ok (.ireturn, 1) := by decide +kernel
theorem dX7_judge_100 : decode cX7_judge 100 = .ok (.iinc 3 1, 3) := by decide +kernel
theorem dX7_judge_103 : decode cX7_judge 103 = .ok (.goto (-69), 3) := by decide +kernel
theorem dX7_judge_106 : decode cX7_judge 106 = .ok (.bipush (-5), 2) := by decide +kernel
theorem dX7_judge_108 : decode cX7_judge 108 = .ok (.ireturn, 1) := by decide +kernel
theorem dX7_image_0 : decode cX7_image 0 = .ok (.aload_n 0, 1) := by decide +kernel
theorem dX7_image_1 : decode cX7_image 1 = .ok (.iconst 1, 1) := by decide +kernel
theorem dX7_image_2 : decode cX7_image 2 = .ok (.putfield 147, 3) := by decide +kernel
theorem dX7_image_5 : decode cX7_image 5 = .ok (.aload_n 0, 1) := by decide +kernel
theorem dX7_image_6 : decode cX7_image 6 = .ok (.aload_n 0, 1) := by decide +kernel
theorem dX7_image_7 : decode cX7_image 7 = .ok (.getfield 47, 3) := by decide +kernel
theorem dX7_image_10 : decode cX7_image 10 = .ok (.putfield 151, 3) := by decide +kernel
theorem dX7_image_13 : decode cX7_image 13 = .ok (.aload_n 0, 1) := by decide +kernel
theorem dX7_image_14 : decode cX7_image 14 = .ok (.aload_n 0, 1) := by decide +kernel
theorem dX7_image_15 : decode cX7_image 15 = .ok (.getfield 7, 3) := by decide +kernel
theorem dX7_image_18 : decode cX7_image 18 = .ok (.putfield 154, 3) := by decide +kernel
theorem dX7_image_21 : decode cX7_image 21 = .ok (.aload_n 0, 1) := by decide +kernel
theorem dX7_image_22 : decode cX7_image 22 = .ok (.aload_n 0, 1) := by decide +kernel
theorem dX7_image_23 : decode cX7_image 23 = .ok (.getfield 13, 3) := by decide +kernel
theorem dX7_image_26 : decode cX7_image 26 = .ok (.putfield 157, 3) := by decide +kernel
theorem dX7_image_29 : decode cX7_image 29 = .ok (.aload_n 0, 1) := by decide +kernel
theorem dX7_image_30 : decode cX7_image 30 = .ok (.aload_n 0, 1) := by decide +kernel
theorem dX7_image_31 : decode cX7_image 31 = .ok (.getfield 16, 3) := by decide +kernel
theorem dX7_image_34 : decode cX7_image 34 = .ok (.putfield 160, 3) := by decide +kernel
theorem dX7_image_37 : decode cX7_image 37 = .ok (.aload_n 0, 1) := by decide +kernel
theorem dX7_image_38 : decode cX7_image 38 = .ok (.aload_n 0, 1) := by decide +kernel
theorem dX7_image_39 : decode cX7_image 39 = .ok (.getfield 19, 3) := by decide +kernel
theorem dX7_image_42 : decode cX7_image 42 = .ok (.putfield 163, 3) := by decide +kernel
theorem dX7_image_45 : decode cX7_image 45 = .ok (.aload_n 0, 1) := by decide +kernel
theorem dX7_image_46 : decode cX7_image 46 = .ok (.aload_n 0, 1) := by decide +kernel
theorem dX7_image_47 : decode cX7_image 47 = .ok (.getfield 22, 3) := by decide +kernel
theorem dX7_image_50 : decode cX7_image 50 = .ok (.putfield 166, 3) := by decide +kernel
theorem dX7_image_53 : decode cX7_image 53 = .ok (.aload_n 0, 1) := by decide +kernel
theorem dX7_image_54 : decode cX7_image 54 = .ok (.aload_n 0, 1) := by decide +kernel
theorem dX7_image_55 : decode cX7_image 55 = .ok (.getfield 25, 3) := by decide +kernel
theorem dX7_image_58 : decode cX7_image 58 = .ok (.putfield 169, 3) := by decide +kernel
theorem dX7_image_61 : decode cX7_image 61 = .ok (.aload_n 0, 1) := by decide +kernel
theorem dX7_image_62 : decode cX7_image 62 = .ok (.aload_n 0, 1) := by decide +kernel
theorem dX7_image_63 : decode cX7_image 63 = .ok (.getfield 120, 3) := by decide +kernel
theorem dX7_image_66 : decode cX7_image 66 = .ok (.putfield 172, 3) := by decide +kernel
theorem dX7_image_69 : decode cX7_image 69 = .ok (.aload_n 0, 1) := by decide +kernel
theorem dX7_image_70 : decode cX7_image 70 = .ok (.aload_n 0, 1) := by decide +kernel
theorem dX7_image_71 : decode cX7_image 71 = .ok (.getfield 129, 3) := by decide +kernel
theorem dX7_image_74 : decode cX7_image 74 = .ok (.putfield 175, 3) := by decide +kernel
theorem dX7_image_77 : decode cX7_image 77 = .ok (.aload_n 0, 1) := by decide +kernel
theorem dX7_image_78 : decode cX7_image 78 = .ok (.aload_n 0, 1) := by decide +kernel
theorem dX7_image_79 : decode cX7_image 79 = .ok (.getfield 132, 3) := by decide +kernel
theorem dX7_image_82 : decode cX7_image 82 = .ok (.putfield 178, 3) := by decide +kernel
theorem dX7_image_85 : decode cX7_image 85 = .ok (.iconst 0, 1) := by decide +kernel
theorem dX7_image_86 : decode cX7_image 86 = .ok (.istore_n 1, 1) := by decide +kernel
theorem dX7_image_87 : decode cX7_image 87 = .ok (.iload_n 1, 1) := by decide +kernel
theorem dX7_image_88 : decode cX7_image 88 = .ok (.bipush 6, 2) := by decide +kernel
theorem dX7_image_90 : decode cX7_image 90 = .ok (.if_icmp .ge 57, 3) := by decide +kernel
theorem dX7_image_93 : decode cX7_image 93 = .ok (.aload_n 0, 1) := by decide +kernel
theorem dX7_image_94 : decode cX7_image 94 = .ok (.getfield 181, 3) := by decide +kernel
theorem dX7_image_97 : decode cX7_image 97 = .ok (.iload_n 1, 1) := by decide +kernel
theorem dX7_image_98 : decode cX7_image 98 = .ok (.aload_n 0, 1) := by decide +kernel
theorem dX7_image_99 : decode cX7_image 99 = .ok (.getfield 28, 3) := by decide +kernel
theorem dX7_image_102 : decode cX7_image 102 = .ok (.iload_n 1, 1) := by decide +kernel
theorem dX7_image_103 : decode cX7_image 103 = .ok (.iaload, 1) := by decide +kernel
theorem dX7_image_104 : decode cX7_image 104 = .ok (.iastore, 1) := by decide +kernel
theorem dX7_image_105 : decode cX7_image 105 = .ok (.aload_n 0, 1) := by decide +kernel
theorem dX7_image_106 : decode cX7_image 106 = .ok (.getfield 184, 3) := by decide +kernel
theorem dX7_image_109 : decode cX7_image 109 = .ok (.iload_n 1, 1) := by decide +kernel
theorem dX7_image_110 : decode cX7_image 110 = .ok (.aload_n 0, 1) := by decide +kernel
theorem dX7_image_111 : decode cX7_image 111 = .ok (.getfield 32, 3) := by decide +kernel
theorem dX7_image_114 : decode cX7_image 114 = .ok (.iload_n 1, 1) := by decide +kernel
theorem dX7_image_115 : decode cX7_image 115 = .ok (.iaload, 1) := by decide +kernel
theorem dX7_image_116 : decode cX7_image 116 = .ok (.iastore, 1) := by decide +kernel
theorem dX7_image_117 : decode cX7_image 117 = .ok (.aload_n 0, 1) := by decide +kernel
theorem dX7_image_118 : decode cX7_image 118 = .ok (.getfield 187, 3) := by decide +kernel
theorem dX7_image_121 : decode cX7_image 121 = .ok (.iload_n 1, 1) := by decide +kernel
theorem dX7_image_122 : decode cX7_image 122 = .ok (.aload_n 0, 1) := by decide +kernel
theorem dX7_image_123 : decode cX7_image 123 = .ok (.getfield 35, 3) := by decide +kernel
theorem dX7_image_126 : decode cX7_image 126 = .ok (.iload_n 1, 1) := by decide +kernel
theorem dX7_image_127 : decode cX7_image 127 = .ok (.iaload, 1) := by decide +kernel
theorem dX7_image_128 : decode cX7_image 128 = .ok (.iastore, 1) := by decide +kernel
theorem dX7_image_129 : decode cX7_image 129 = .ok (.aload_n 0, 1) := by decide +kernel
theorem dX7_image_130 : decode cX7_image 130 = .ok (.getfield 190, 3) := by decide +kernel
theorem dX7_image_133 : decode cX7_image 133 = .ok (.iload_n 1, 1) := by decide +kernel
theorem dX7_image_134 : decode cX7_image 134 = .ok (.aload_n 0, 1) := by decide +kernel
theorem dX7_image_135 : decode cX7_image 135 = .ok (.getfield 38, 3) := by decide +kernel
theorem dX7_image_138 : decode cX7_image 138 = .ok (.iload_n 1, 1) := by decide +kernel
theorem dX7_image_139 : decode cX7_image 139 = .ok (.iaload, 1) := by decide +kernel
theorem dX7_image_140 : decode cX7_image 140 = .ok (.iastore, 1) := by decide +kernel
theorem dX7_image_141 : decode cX7_image 141 = .ok (.iinc 1 1, 3) := by decide +kernel
theorem dX7_image_144 : decode cX7_image 144 = .ok (.goto (-57), 3) := by decide +kernel
theorem dX7_image_147 : decode cX7_image 147 = .ok (.iconst 0, 1) := by decide +kernel
theorem dX7_image_148 : decode cX7_image 148 = .ok (.istore_n 1, 1) := by decide +kernel
theorem dX7_image_149 : decode cX7_image 149 = .ok (.iload_n 1, 1) := by decide +kernel
theorem dX7_image_150 : decode cX7_image 150 = .ok (.bipush 24, 2) := by decide +kernel
theorem dX7_image_152 : decode cX7_image 152 = .ok (.if_icmp .ge 21, 3) := by decide +kernel
theorem dX7_image_155 : decode cX7_image 155 = .ok (.aload_n 0, 1) := by decide +kernel
theorem dX7_image_156 : decode cX7_image 156 = .ok (.getfield 193, 3) := by decide +kernel
theorem dX7_image_159 : decode cX7_image 159 = .ok (.iload_n 1, 1) := by decide +kernel
theorem dX7_image_160 : decode cX7_image 160 = .ok (.aload_n 0, 1) := by decide +kernel
theorem dX7_image_161 : decode cX7_image 161 = .ok (.getfield 41, 3) := by decide +kernel
theorem dX7_image_164 : decode cX7_image 164 = .ok (.iload_n 1, 1) := by decide +kernel
theorem dX7_image_165 : decode cX7_image 165 = .ok (.iaload, 1) := by decide +kernel
theorem dX7_image_166 : decode cX7_image 166 = .ok (.iastore, 1) := by decide +kernel
theorem dX7_image_167 : decode cX7_image 167 = .ok (.iinc 1 1, 3) := by decide +kernel
theorem dX7_image_170 : decode cX7_image 170 = .ok (.goto (-21), 3) := by decide +kernel
theorem dX7_image_173 : decode cX7_image 173 = .ok (.iconst 0, 1) := by decide +kernel
theorem dX7_image_174 : decode cX7_image 174 = .ok (.istore_n 1, 1) := by decide +kernel
theorem dX7_image_175 : decode cX7_image 175 = .ok (.iload_n 1, 1) := by decide +kernel
theorem dX7_image_176 : decode cX7_image 176 = .ok (.iconst 5, 1) := by decide +kernel
theorem dX7_image_177 : decode cX7_image 177 = .ok (.if_icmp .ge 33, 3) := by decide +kernel
theorem dX7_image_180 : decode cX7_image 180 = .ok (.aload_n 0, 1) := by decide +kernel
theorem dX7_image_181 : decode cX7_image 181 = .ok (.getfield 196, 3) := by decide +kernel
theorem dX7_image_184 : decode cX7_image 184 = .ok (.iload_n 1, 1) := by decide +kernel
theorem dX7_image_185 : decode cX7_image 185 = .ok (.aload_n 0, 1) := by decide +kernel
theorem dX7_image_186 : decode cX7_image 186 = .ok (.getfield 123, 3) := by decide +kernel
theorem dX7_image_189 : decode cX7_image 189 = .ok (.iload_n 1, 1) := by decide +kernel
theorem dX7_image_190 : decode cX7_image 190 = .ok (.iaload, 1) := by decide +kernel
theorem dX7_image_191 : decode cX7_image 191 = .ok (.iastore, 1) := by decide +kernel
theorem dX7_image_192 : decode cX7_image 192 = .ok (.aload_n 0, 1) := by decide +kernel
theorem dX7_image_193 : decode cX7_image 193 = .ok (.getfield 199, 3) := by decide +kernel
theorem dX7_image_196 : decode cX7_image 196 = .ok (.iload_n 1, 1) := by decide +kernel
theorem dX7_image_197 : decode cX7_image 197 = .ok (.aload_n 0, 1) := by decide +kernel
theorem dX7_image_198 : decode cX7_image 198 = .ok (.getfield 126, 3) := by decide +kernel
theorem dX7_image_201 : decode cX7_image 201 = .ok (.iload_n 1, 1) := by decide +kernel
theorem dX7_image_202 : decode cX7_image 202 = .ok (.iaload, 1) := by decide +kernel
theorem dX7_image_203 : decode cX7_image 203 = .ok (.iastore, 1) := by decide +kernel
theorem dX7_image_204 : decode cX7_image 204 = .ok (.iinc 1 1, 3) := by decide +kernel
theorem dX7_image_207 : decode cX7_image 207 = .ok (.goto (-32), 3) := by decide +kernel
theorem dX7_image_210 : decode cX7_image 210 = .ok (.iconst 0, 1) := by decide +kernel
theorem dX7_image_211 : decode cX7_image 211 = .ok (.istore_n 1, 1) := by decide +kernel
theorem dX7_image_212 : decode cX7_image 212 = .ok (.iload_n 1, 1) := by decide +kernel
theorem dX7_image_213 : decode cX7_image 213 = .ok (.bipush 10, 2) := by decide +kernel
theorem dX7_image_215 : decode cX7_image 215 = .ok (.if_icmp .ge 33, 3) := by decide +kernel
theorem dX7_image_218 : decode cX7_image 218 = .ok (.aload_n 0, 1) := by decide +kernel
theorem dX7_image_219 : decode cX7_image 219 = .ok (.getfield 202, 3) := by decide +kernel
theorem dX7_image_222 : decode cX7_image 222 = .ok (.iload_n 1, 1) := by decide +kernel
theorem dX7_image_223 : decode cX7_image 223 = .ok (.aload_n 0, 1) := by decide +kernel
theorem dX7_image_224 : decode cX7_image 224 = .ok (.getfield 135, 3) := by decide +kernel
theorem dX7_image_227 : decode cX7_image 227 = .ok (.iload_n 1, 1) := by decide +kernel
theorem dX7_image_228 : decode cX7_image 228 = .ok (.iaload, 1) := by decide +kernel
theorem dX7_image_229 : decode cX7_image 229 = .ok (.iastore, 1) := by decide +kernel
theorem dX7_image_230 : decode cX7_image 230 = .ok (.aload_n 0, 1) := by decide +kernel
theorem dX7_image_231 : decode cX7_image 231 = .ok (.getfield 205, 3) := by decide +kernel
theorem dX7_image_234 : decode cX7_image 234 = .ok (.iload_n 1, 1) := by decide +kernel
theorem dX7_image_235 : decode cX7_image 235 = .ok (.aload_n 0, 1) := by decide +kernel
theorem dX7_image_236 : decode cX7_image 236 = .ok (.getfield 138, 3) := by decide +kernel
theorem dX7_image_239 : decode cX7_image 239 = .ok (.iload_n 1, 1) := by decide +kernel
theorem dX7_image_240 : decode cX7_image 240 = .ok (.iaload, 1) := by decide +kernel
theorem dX7_image_241 : decode cX7_image 241 = .ok (.iastore, 1) := by decide +kernel
theorem dX7_image_242 : decode cX7_image 242 = .ok (.iinc 1 1, 3) := by decide +kernel
theorem dX7_image_245 : decode cX7_image 245 = .ok (.goto (-33), 3) := by decide +kernel
theorem dX7_image_248 : decode cX7_image 248 = .ok (.iconst 0, 1) := by decide +kernel
theorem dX7_image_249 : decode cX7_image 249 = .ok (.istore_n 1, 1) := by decide +kernel
theorem dX7_image_250 : decode cX7_image 250 = .ok (.iload_n 1, 1) := by decide +kernel
theorem dX7_image_251 : decode cX7_image 251 = .ok (.bipush 8, 2) := by decide +kernel
theorem dX7_image_253 : decode cX7_image 253 = .ok (.if_icmp .ge 33, 3) := by decide +kernel
theorem dX7_image_256 : decode cX7_image 256 = .ok (.aload_n 0, 1) := by decide +kernel
theorem dX7_image_257 : decode cX7_image 257 = .ok (.getfield 208, 3) := by decide +kernel
theorem dX7_image_260 : decode cX7_image 260 = .ok (.iload_n 1, 1) := by decide +kernel
theorem dX7_image_261 : decode cX7_image 261 = .ok (.aload_n 0, 1) := by decide +kernel
theorem dX7_image_262 : decode cX7_image 262 = .ok (.getfield 141, 3) := by decide +kernel
theorem dX7_image_265 : decode cX7_image 265 = .ok (.iload_n 1, 1) := by decide +kernel
theorem dX7_image_266 : decode cX7_image 266 = .ok (.iaload, 1) := by decide +kernel
theorem dX7_image_267 : decode cX7_image 267 = .ok (.iastore, 1) := by decide +kernel
theorem dX7_image_268 : decode cX7_image 268 = .ok (.aload_n 0, 1) := by decide +kernel
theorem dX7_image_269 : decode cX7_image 269 = .ok (.getfield 211, 3) := by decide +kernel
theorem dX7_image_272 : decode cX7_image 272 = .ok (.iload_n 1, 1) := by decide +kernel
theorem dX7_image_273 : decode cX7_image 273 = .ok (.aload_n 0, 1) := by decide +kernel
theorem dX7_image_274 : decode cX7_image 274 = .ok (.getfield 144, 3) := by decide +kernel
theorem dX7_image_277 : decode cX7_image 277 = .ok (.iload_n 1, 1) := by decide +kernel
theorem dX7_image_278 : decode cX7_image 278 = .ok (.iaload, 1) := by decide +kernel
theorem dX7_image_279 : decode cX7_image 279 = .ok (.iastore, 1) := by decide +kernel
theorem dX7_image_280 : decode cX7_image 280 = .ok (.iinc 1 1, 3) := by decide +kernel
theorem dX7_image_283 : decode cX7_image 283 = .ok (.goto (-33), 3) := by decide +kernel
theorem dX7_image_286 : decode cX7_image 286 = .ok (.aload_n 0, 1) := by decide +kernel
theorem dX7_image_287 : decode cX7_image 287 = .ok (.getfield 7, 3) := by decide +kernel
theorem dX7_image_290 : decode cX7_image 290 = .ok (.ireturn, 1) := by decide +kernel
theorem dX7_undo_0 : decode cX7_undo 0 = .ok (.aload_n 0, 1) := by decide +kernel
theorem dX7_undo_1 : decode cX7_undo 1 = .ok (.getfield 147, 3) := by decide +kernel
theorem dX7_undo_4 : decode cX7_undo 4 = .ok (.ifCond .ne 6, 3) := by decide +kernel
theorem dX7_undo_7 : decode cX7_undo 7 = .ok (.bipush (-3), 2) := by decide +kernel
theorem dX7_undo_9 : decode cX7_undo 9 = .ok (.ireturn, 1) := by decide +kernel
theorem dX7_undo_10 : decode cX7_undo 10 = .ok (.aload_n 0, 1) := by decide +kernel
theorem dX7_undo_11 : decode cX7_undo 11 = .ok (.aload_n 0, 1) := by decide +kernel
theorem dX7_undo_12 : decode cX7_undo 12 = .ok (.getfield 151, 3) := by decide +kernel
theorem dX7_undo_15 : decode cX7_undo 15 = .ok (.putfield 47, 3) := by decide +kernel
theorem dX7_undo_18 : decode cX7_undo 18 = .ok (.aload_n 0, 1) := by decide +kernel
theorem dX7_undo_19 : decode cX7_undo 19 = .ok (.aload_n 0, 1) := by decide +kernel
theorem dX7_undo_20 : decode cX7_undo 20 = .ok (.getfield 154, 3) := by decide +kernel
theorem dX7_undo_23 : decode cX7_undo 23 = .ok (.putfield 7, 3) := by decide +kernel
theorem dX7_undo_26 : decode cX7_undo 26 = .ok (.aload_n 0, 1) := by decide +kernel
theorem dX7_undo_27 : decode cX7_undo 27 = .ok (.aload_n 0, 1) := by decide +kernel
theorem dX7_undo_28 : decode cX7_undo 28 = .ok (.getfield 157, 3) := by decide +kernel
theorem dX7_undo_31 : decode cX7_undo 31 = .ok (.putfield 13, 3) := by decide +kernel
theorem dX7_undo_34 : decode cX7_undo 34 = .ok (.aload_n 0, 1) := by decide +kernel
theorem dX7_undo_35 : decode cX7_undo 35 = .ok (.aload_n 0, 1) := by decide +kernel
theorem dX7_undo_36 : decode cX7_undo 36 = .ok (.getfield 160, 3) := by decide +kernel
theorem dX7_undo_39 : decode cX7_undo 39 = .ok (.putfield 16, 3) := by decide +kernel
theorem dX7_undo_42 : decode cX7_undo 42 = .ok (.aload_n 0, 1) := by decide +kernel
theorem dX7_undo_43 : decode cX7_undo 43 = .ok (.aload_n 0, 1) := by decide +kernel
theorem dX7_undo_44 : decode cX7_undo 44 = .ok (.getfield 163, 3) := by decide +kernel
theorem dX7_undo_47 : decode cX7_undo 47 = .ok (.putfield 19, 3) := by decide +kernel
theorem dX7_undo_50 : decode cX7_undo 50 = .ok (.aload_n 0, 1) := by decide +kernel
theorem dX7_undo_51 : decode cX7_undo 51 = .ok (.aload_n 0, 1) := by decide +kernel
theorem dX7_undo_52 : decode cX7_undo 52 = .ok (.getfield 166, 3) := by decide +kernel
theorem dX7_undo_55 : decode cX7_undo 55 = .ok (.putfield 22, 3) := by decide +kernel
theorem dX7_undo_58 : decode cX7_undo 58 = .ok (.aload_n 0, 1) := by decide +kernel
theorem dX7_undo_59 : decode cX7_undo 59 = .ok (.aload_n 0, 1) := by decide +kernel
theorem dX7_undo_60 : decode cX7_undo 60 = .ok (.getfield 169, 3) := by decide +kernel
theorem dX7_undo_63 : decode cX7_undo 63 = .ok (.putfield 25, 3) := by decide +kernel
theorem dX7_undo_66 : decode cX7_undo 66 = .ok (.aload_n 0, 1) := by decide +kernel
theorem dX7_undo_67 : decode cX7_undo 67 = .ok (.aload_n 0, 1) := by decide +kernel
theorem dX7_undo_68 : decode cX7_undo 68 = .ok (.getfield 172, 3) := by decide +kernel
theorem dX7_undo_71 : decode cX7_undo 71 = .ok (.putfield 120, 3) := by decide +kernel
theorem dX7_undo_74 : decode cX7_undo 74 = .ok (.aload_n 0, 1) := by decide +kernel
theorem dX7_undo_75 : decode cX7_undo 75 = .ok (.aload_n 0, 1) := by decide +kernel
theorem dX7_undo_76 : decode cX7_undo 76 = .ok (.getfield 175, 3) := by decide +kernel
theorem dX7_undo_79 : decode cX7_undo 79 = .ok (.putfield 129, 3) := by decide +kernel
theorem dX7_undo_82 : decode cX7_undo 82 = .ok (.aload_n 0, 1) := by decide +kernel
theorem dX7_undo_83 : decode cX7_undo 83 = .ok (.aload_n 0, 1) := by decide +kernel
theorem dX7_undo_84 : decode cX7_undo 84 = .ok (.getfield 178, 3) := by decide +kernel
theorem dX7_undo_87 : decode cX7_undo 87 = .ok (.putfield 132, 3) := by decide +kernel
theorem dX7_undo_90 : decode cX7_undo 90 = .ok (.iconst 0, 1) := by decide +kernel
theorem dX7_undo_91 : decode cX7_undo 91 = .ok (.istore_n 1, 1) := by decide +kernel
theorem dX7_undo_92 : decode cX7_undo 92 = .ok (.iload_n 1, 1) := by decide +kernel
theorem dX7_undo_93 : decode cX7_undo 93 = .ok (.bipush 6, 2) := by decide +kernel
theorem dX7_undo_95 : decode cX7_undo 95 = .ok (.if_icmp .ge 57, 3) := by decide +kernel
theorem dX7_undo_98 : decode cX7_undo 98 = .ok (.aload_n 0, 1) := by decide +kernel
theorem dX7_undo_99 : decode cX7_undo 99 = .ok (.getfield 28, 3) := by decide +kernel
theorem dX7_undo_102 : decode cX7_undo 102 = .ok (.iload_n 1, 1) := by decide +kernel
theorem dX7_undo_103 : decode cX7_undo 103 = .ok (.aload_n 0, 1) := by decide +kernel
theorem dX7_undo_104 : decode cX7_undo 104 = .ok (.getfield 181, 3) := by decide +kernel
theorem dX7_undo_107 : decode cX7_undo 107 = .ok (.iload_n 1, 1) := by decide +kernel
theorem dX7_undo_108 : decode cX7_undo 108 = .ok (.iaload, 1) := by decide +kernel
theorem dX7_undo_109 : decode cX7_undo 109 = .ok (.iastore, 1) := by decide +kernel
theorem dX7_undo_110 : decode cX7_undo 110 = .ok (.aload_n 0, 1) := by decide +kernel
theorem dX7_undo_111 : decode cX7_undo 111 = .ok (.getfield 32, 3) := by decide +kernel
theorem dX7_undo_114 : decode cX7_undo 114 = .ok (.iload_n 1, 1) := by decide +kernel
theorem dX7_undo_115 : decode cX7_undo 115 = .ok (.aload_n 0, 1) := by decide +kernel
theorem dX7_undo_116 : decode cX7_undo 116 = .ok (.getfield 184, 3) := by decide +kernel
theorem dX7_undo_119 : decode cX7_undo 119 = .ok (.iload_n 1, 1) := by decide +kernel
theorem dX7_undo_120 : decode cX7_undo 120 = .ok (.iaload, 1) := by decide +kernel
theorem dX7_undo_121 : decode cX7_undo 121 = .ok (.iastore, 1) := by decide +kernel
theorem dX7_undo_122 : decode cX7_undo 122 = .ok (.aload_n 0, 1) := by decide +kernel
theorem dX7_undo_123 : decode cX7_undo 123 = .ok (.getfield 35, 3) := by decide +kernel
theorem dX7_undo_126 : decode cX7_undo 126 = .ok (.iload_n 1, 1) := by decide +kernel
theorem dX7_undo_127 : decode cX7_undo 127 = .ok (.aload_n 0, 1) := by decide +kernel
theorem dX7_undo_128 : decode cX7_undo 128 = .ok (.getfield 187, 3) := by decide +kernel
theorem dX7_undo_131 : decode cX7_undo 131 = .ok (.iload_n 1, 1) := by decide +kernel
theorem dX7_undo_132 : decode cX7_undo 132 = .ok (.iaload, 1) := by decide +kernel
theorem dX7_undo_133 : decode cX7_undo 133 = .ok (.iastore, 1) := by decide +kernel
theorem dX7_undo_134 : decode cX7_undo 134 = .ok (.aload_n 0, 1) := by decide +kernel
theorem dX7_undo_135 : decode cX7_undo 135 = .ok (.getfield 38, 3) := by decide +kernel
theorem dX7_undo_138 : decode cX7_undo 138 = .ok (.iload_n 1, 1) := by decide +kernel
theorem dX7_undo_139 : decode cX7_undo 139 = .ok (.aload_n 0, 1) := by decide +kernel
theorem dX7_undo_140 : decode cX7_undo 140 = .ok (.getfield 190, 3) := by decide +kernel
theorem dX7_undo_143 : decode cX7_undo 143 = .ok (.iload_n 1, 1) := by decide +kernel
theorem dX7_undo_144 : decode cX7_undo 144 = .ok (.iaload, 1) := by decide +kernel
theorem dX7_undo_145 : decode cX7_undo 145 = .ok (.iastore, 1) := by decide +kernel
theorem dX7_undo_146 : decode cX7_undo 146 = .ok (.iinc 1 1, 3) := by decide +kernel
theorem dX7_undo_149 : decode cX7_undo 149 = .ok (.goto (-57), 3) := by decide +kernel
theorem dX7_undo_152 : decode cX7_undo 152 = .ok (.iconst 0, 1) := by decide +kernel
theorem dX7_undo_153 : decode cX7_undo 153 = .ok (.istore_n 1, 1) := by decide +kernel
theorem dX7_undo_154 : decode cX7_undo 154 = .ok (.iload_n 1, 1) := by decide +kernel
theorem dX7_undo_155 : decode cX7_undo 155 = .ok (.bipush 24, 2) := by decide +kernel
theorem dX7_undo_157 : decode cX7_undo 157 = .ok (.if_icmp .ge 21, 3) := by decide +kernel
theorem dX7_undo_160 : decode cX7_undo 160 = .ok (.aload_n 0, 1) := by decide +kernel
theorem dX7_undo_161 : decode cX7_undo 161 = .ok (.getfield 41, 3) := by decide +kernel
theorem dX7_undo_164 : decode cX7_undo 164 = .ok (.iload_n 1, 1) := by decide +kernel
theorem dX7_undo_165 : decode cX7_undo 165 = .ok (.aload_n 0, 1) := by decide +kernel
theorem dX7_undo_166 : decode cX7_undo 166 = .ok (.getfield 193, 3) := by decide +kernel
theorem dX7_undo_169 : decode cX7_undo 169 = .ok (.iload_n 1, 1) := by decide +kernel
theorem dX7_undo_170 : decode cX7_undo 170 = .ok (.iaload, 1) := by decide +kernel
theorem dX7_undo_171 : decode cX7_undo 171 = .ok (.iastore, 1) := by decide +kernel
theorem dX7_undo_172 : decode cX7_undo 172 = .ok (.iinc 1 1, 3) := by decide +kernel
theorem dX7_undo_175 : decode cX7_undo 175 = .ok (.goto (-21), 3) := by decide +kernel
theorem dX7_undo_178 : decode cX7_undo 178 = .ok (.iconst 0, 1) := by decide +kernel
theorem dX7_undo_179 : decode cX7_undo 179 = .ok (.istore_n 1, 1) := by decide +kernel
theorem dX7_undo_180 : decode cX7_undo 180 = .ok (.iload_n 1, 1) := by decide +kernel
theorem dX7_undo_181 : decode cX7_undo 181 = .ok (.iconst 5, 1) := by decide +kernel
theorem dX7_undo_182 : decode cX7_undo 182 = .ok (.if_icmp .ge 33, 3) := by decide +kernel
theorem dX7_undo_185 : decode cX7_undo 185 = .ok (.aload_n 0, 1) := by decide +kernel
theorem dX7_undo_186 : decode cX7_undo 186 = .ok (.getfield 123, 3) := by decide +kernel
theorem dX7_undo_189 : decode cX7_undo 189 = .ok (.iload_n 1, 1) := by decide +kernel
theorem dX7_undo_190 : decode cX7_undo 190 = .ok (.aload_n 0, 1) := by decide +kernel
theorem dX7_undo_191 : decode cX7_undo 191 = .ok (.getfield 196, 3) := by decide +kernel
theorem dX7_undo_194 : decode cX7_undo 194 = .ok (.iload_n 1, 1) := by decide +kernel
theorem dX7_undo_195 : decode cX7_undo 195 = .ok (.iaload, 1) := by decide +kernel
theorem dX7_undo_196 : decode cX7_undo 196 = .ok (.iastore, 1) := by decide +kernel
theorem dX7_undo_197 : decode cX7_undo 197 = .ok (.aload_n 0, 1) := by decide +kernel
theorem dX7_undo_198 : decode cX7_undo 198 = .ok (.getfield 126, 3) := by decide +kernel
theorem dX7_undo_201 : decode cX7_undo 201 = .ok (.iload_n 1, 1) := by decide +kernel
theorem dX7_undo_202 : decode cX7_undo 202 = .ok (.aload_n 0, 1) := by decide +kernel
theorem dX7_undo_203 : decode cX7_undo 203 = .ok (.getfield 199, 3) := by decide +kernel
theorem dX7_undo_206 : decode cX7_undo 206 = .ok (.iload_n 1, 1) := by decide +kernel
theorem dX7_undo_207 : decode cX7_undo 207 = .ok (.iaload, 1) := by decide +kernel
theorem dX7_undo_208 : decode cX7_undo 208 = .ok (.iastore, 1) := by decide +kernel
theorem dX7_undo_209 : decode cX7_undo 209 = .ok (.iinc 1 1, 3) := by decide +kernel
theorem dX7_undo_212 : decode cX7_undo 212 = .ok (.goto (-32), 3) := by decide +kernel
theorem dX7_undo_215 : decode cX7_undo 215 = .ok (.iconst 0, 1) := by decide +kernel
theorem dX7_undo_216 : decode cX7_undo 216 = .ok (.istore_n 1, 1) := by decide +kernel
theorem dX7_undo_217 : decode cX7_undo 217 = .ok (.iload_n 1, 1) := by decide +kernel
theorem dX7_undo_218 : decode cX7_undo 218 = .ok (.bipush 10, 2) := by decide +kernel
theorem dX7_undo_220 : decode cX7_undo 220 = .ok (.if_icmp .ge 33, 3) := by decide +kernel
theorem dX7_undo_223 : decode cX7_undo 223 = .ok (.aload_n 0, 1) := by decide +kernel
theorem dX7_undo_224 : decode cX7_undo 224 = .ok (.getfield 135, 3) := by decide +kernel
theorem dX7_undo_227 : decode cX7_undo 227 = .ok (.iload_n 1, 1) := by decide +kernel
theorem dX7_undo_228 : decode cX7_undo 228 = .ok (.aload_n 0, 1) := by decide +kernel
theorem dX7_undo_229 : decode cX7_undo 229 = .ok (.getfield 202, 3) := by decide +kernel
theorem dX7_undo_232 : decode cX7_undo 232 = .ok (.iload_n 1, 1) := by decide +kernel
theorem dX7_undo_233 : decode cX7_undo 233 = .ok (.iaload, 1) := by decide +kernel
theorem dX7_undo_234 : decode cX7_undo 234 = .ok (.iastore, 1) := by decide +kernel
theorem dX7_undo_235 : decode cX7_undo 235 = .ok (.aload_n 0, 1) := by decide +kernel
theorem dX7_undo_236 : decode cX7_undo 236 = .ok (.getfield 138, 3) := by decide +kernel
theorem dX7_undo_239 : decode cX7_undo 239 = .ok (.iload_n 1, 1) := by decide +kernel
theorem dX7_undo_240 : decode cX7_undo 240 = .ok (.aload_n 0, 1) := by decide +kernel
theorem dX7_undo_241 : decode cX7_undo 241 = .ok (.getfield 205, 3) := by decide +kernel
theorem dX7_undo_244 : decode cX7_undo 244 = .ok (.iload_n 1, 1) := by decide +kernel
theorem dX7_undo_245 : decode cX7_undo 245 = .ok (.iaload, 1) := by decide +kernel
theorem dX7_undo_246 : decode cX7_undo 246 = .ok (.iastore, 1) := by decide +kernel
theorem dX7_undo_247 : decode cX7_undo 247 = .ok (.iinc 1 1, 3) := by decide +kernel
theorem dX7_undo_250 : decode cX7_undo 250 = .ok (.goto (-33), 3) := by decide +kernel
theorem dX7_undo_253 : decode cX7_undo 253 = .ok (.iconst 0, 1) := by decide +kernel
theorem dX7_undo_254 : decode cX7_undo 254 = .ok (.istore_n 1, 1) := by decide +kernel
theorem dX7_undo_255 : decode cX7_undo 255 = .ok (.iload_n 1, 1) := by decide +kernel
theorem dX7_undo_256 : decode cX7_undo 256 = .ok (.bipush 8, 2) := by decide +kernel
theorem dX7_undo_258 : decode cX7_undo 258 = .ok (.if_icmp .ge 33, 3) := by decide +kernel
theorem dX7_undo_261 : decode cX7_undo 261 = .ok (.aload_n 0, 1) := by decide +kernel
theorem dX7_undo_262 : decode cX7_undo 262 = .ok (.getfield 141, 3) := by decide +kernel
theorem dX7_undo_265 : decode cX7_undo 265 = .ok (.iload_n 1, 1) := by decide +kernel
theorem dX7_undo_266 : decode cX7_undo 266 = .ok (.aload_n 0, 1) := by decide +kernel
theorem dX7_undo_267 : decode cX7_undo 267 = .ok (.getfield 208, 3) := by decide +kernel
theorem dX7_undo_270 : decode cX7_undo 270 = .ok (.iload_n 1, 1) := by decide +kernel
theorem dX7_undo_271 : decode cX7_undo 271 = .ok (.iaload, 1) := by decide +kernel
theorem dX7_undo_272 : decode cX7_undo 272 = .ok (.iastore, 1) := by decide +kernel
theorem dX7_undo_273 : decode cX7_undo 273 = .ok (.aload_n 0, 1) := by decide +kernel
theorem dX7_undo_274 : decode cX7_undo 274 = .ok (.getfield 144, 3) := by decide +kernel
theorem dX7_undo_277 : decode cX7_undo 277 = .ok (.iload_n 1, 1) := by decide +kernel
theorem dX7_undo_278 : decode cX7_undo 278 = .ok (.aload_n 0, 1) := by decide +kernel
theorem dX7_undo_279 : decode cX7_undo 279 = .ok (.getfield 211, 3) := by decide +kernel
theorem dX7_undo_282 : decode cX7_undo 282 = .ok (.iload_n 1, 1) := by decide +kernel
theorem dX7_undo_283 : decode cX7_undo 283 = .ok (.iaload, 1) := by decide +kernel
theorem dX7_undo_284 : decode cX7_undo 284 = .ok (.iastore, 1) := by decide +kernel
theorem dX7_undo_285 : decode cX7_undo 285 = .ok (.iinc 1 1, 3) := by decide +kernel
theorem dX7_undo_288 : decode cX7_undo 288 = .ok (.goto (-33), 3) := by decide +kernel
theorem dX7_undo_291 : decode cX7_undo 291 = .ok (.aload_n 0, 1) := by decide +kernel
theorem dX7_undo_292 : decode cX7_undo 292 = .ok (.getfield 7, 3) := by decide +kernel
theorem dX7_undo_295 : decode cX7_undo 295 = .ok (.ireturn, 1) := by decide +kernel
theorem dX7_body_0 : decode cX7_body 0 = .ok (.aload_n 0, 1) := by decide +kernel
theorem dX7_body_1 : decode cX7_body 1 = .ok (.getfield 214, 3) := by decide +kernel
theorem dX7_body_4 : decode cX7_body 4 = .ok (.bipush 20, 2) := by decide +kernel
theorem dX7_body_6 : decode cX7_body 6 = .ok (.if_icmp .ge 13, 3) := by decide +kernel
theorem dX7_body_9 : decode cX7_body 9 = .ok (.aload_n 0, 1) := by decide +kernel
theorem dX7_body_10 : decode cX7_body 10 = .ok (.getfield 217, 3) := by decide +kernel
theorem dX7_body_13 : decode cX7_body 13 = .ok (.aload_n 0, 1) := by decide +kernel
theorem dX7_body_14 : decode cX7_body 14 = .ok (.getfield 214, 3) := by decide +kernel
theorem dX7_body_17 : decode cX7_body 17 = .ok (.iload_n 1, 1) := by decide +kernel
theorem dX7_body_18 : decode cX7_body 18 = .ok (.iastore, 1) := by decide +kernel
theorem dX7_body_19 : decode cX7_body 19 = .ok (.aload_n 0, 1) := by decide +kernel
theorem dX7_body_20 : decode cX7_body 20 = .ok (.dup, 1) := by decide +kernel
theorem dX7_body_21 : decode cX7_body 21 = .ok (.getfield 214, 3) := by decide +kernel
theorem dX7_body_24 : decode cX7_body 24 = .ok (.iconst 1, 1) := by decide +kernel
theorem dX7_body_25 : decode cX7_body 25 = .ok (.iadd, 1) := by decide +kernel
theorem dX7_body_26 : decode cX7_body 26 = .ok (.putfield 214, 3) := by decide +kernel
theorem dX7_body_29 : decode cX7_body 29 = .ok (.return_, 1) := by decide +kernel
theorem dX7_manRolls_0 : decode cX7_manRolls 0 = .ok (.aload_n 0, 1) := by decide +kernel
theorem dX7_manRolls_1 : decode cX7_manRolls 1 = .ok (.bipush 10, 2) := by decide +kernel
theorem dX7_manRolls_3 : decode cX7_manRolls 3 = .ok (.invokevirtual 395, 3) := by decide +kernel
theorem dX7_manRolls_6 : decode cX7_manRolls 6 = .ok (.iload_n 2, 1) := by decide +kernel
theorem dX7_manRolls_7 : decode cX7_manRolls 7 = .ok (.iload_n 1, 1) := by decide +kernel
theorem dX7_manRolls_8 : decode cX7_manRolls 8 = .ok (.iadd, 1) := by decide +kernel
theorem dX7_manRolls_9 : decode cX7_manRolls 9 = .ok (.ireturn, 1) := by decide +kernel
theorem dX7_rollsAct_0 : decode cX7_rollsAct 0 = .ok (.aload_n 0, 1) := by decide +kernel
theorem dX7_rollsAct_1 : decode cX7_rollsAct 1 = .ok (.getfield 28, 3) := by decide +kernel
theorem dX7_rollsAct_4 : decode cX7_rollsAct 4 = .ok (.iload_n 1, 1) := by decide +kernel
theorem dX7_rollsAct_5 : decode cX7_rollsAct 5 = .ok (.iaload, 1) := by decide +kernel
theorem dX7_rollsAct_6 : decode cX7_rollsAct 6 = .ok (.tableswitch 83 2 6 #[34, 83, 49, 34, 63], 34) := by decide +kernel
theorem dX7_rollsAct_40 : decode cX7_rollsAct 40 = .ok (.aload_n 0, 1) := by decide +kernel
theorem dX7_rollsAct_41 : decode cX7_rollsAct 41 = .ok (.bipush 30, 2) := by decide +kernel
theorem dX7_rollsAct_43 : decode cX7_rollsAct 43 = .ok (.invokevirtual 395, 3) := by decide +kernel
theorem dX7_rollsAct_46 : decode cX7_rollsAct 46 = .ok (.aload_n 0, 1) := by decide +kernel
theorem dX7_rollsAct_47 : decode cX7_rollsAct 47 = .ok (.iload_n 1, 1) := by decide +kernel
theorem dX7_rollsAct_48 : decode cX7_rollsAct 48 = .ok (.iload_n 2, 1) := by decide +kernel
theorem dX7_rollsAct_49 : decode cX7_rollsAct 49 = .ok (.iconst 3, 1) := by decide +kernel
theorem dX7_rollsAct_50 : decode cX7_rollsAct 50 = .ok (.imul, 1) := by decide +kernel
theorem dX7_rollsAct_51 : decode cX7_rollsAct 51 = .ok (.invokevirtual 398, 3) := by decide +kernel
theorem dX7_rollsAct_54 : decode cX7_rollsAct 54 = .ok (.ireturn, 1) := by decide +kernel
theorem dX7_rollsAct_55 : decode cX7_rollsAct 55 = .ok (.aload_n 0, 1) := by decide +kernel
theorem dX7_rollsAct_56 : decode cX7_rollsAct 56 = .ok (.bipush 50, 2) := by decide +kernel
theorem dX7_rollsAct_58 : decode cX7_rollsAct 58 = .ok (.invokevirtual 395, 3) := by decide +kernel
theorem dX7_rollsAct_61 : decode cX7_rollsAct 61 = .ok (.aload_n 0, 1) := by decide +kernel
theorem dX7_rollsAct_62 : decode cX7_rollsAct 62 = .ok (.iload_n 1, 1) := by decide +kernel
theorem dX7_rollsAct_63 : decode cX7_rollsAct 63 = .ok (.iload_n 2, 1) := by decide +kernel
theorem dX7_rollsAct_64 : decode cX7_rollsAct 64 = .ok (.invokevirtual 398, 3) := by decide +kernel
theorem dX7_rollsAct_67 : decode cX7_rollsAct 67 = .ok (.ineg, 1) := by decide +kernel
theorem dX7_rollsAct_68 : decode cX7_rollsAct 68 = .ok (.ireturn, 1) := by decide +kernel
theorem dX7_rollsAct_69 : decode cX7_rollsAct 69 = .ok (.aload_n 0, 1) := by decide +kernel
theorem dX7_rollsAct_70 : decode cX7_rollsAct 70 = .ok (.bipush 71, 2) := by decide +kernel
theorem dX7_rollsAct_72 : decode cX7_rollsAct 72 = .ok (.invokevirtual 395, 3) := by decide +kernel
theorem dX7_rollsAct_75 : decode cX7_rollsAct 75 = .ok (.aload_n 0, 1) := by decide +kernel
theorem dX7_rollsAct_76 : decode cX7_rollsAct 76 = .ok (.iload_n 1, 1) := by decide +kernel
theorem dX7_rollsAct_77 : decode cX7_rollsAct 77 = .ok (.iload_n 2, 1) := by decide +kernel
theorem dX7_rollsAct_78 : decode cX7_rollsAct 78 = .ok (.invokevirtual 398, 3) := by decide +kernel
theorem dX7_rollsAct_81 : decode cX7_rollsAct 81 = .ok (.aload_n 0, 1) := by decide +kernel
theorem dX7_rollsAct_82 : decode cX7_rollsAct 82 = .ok (.getfield 32, 3) := by decide +kernel
theorem dX7_rollsAct_85 : decode cX7_rollsAct 85 = .ok (.iload_n 1, 1) := by decide +kernel
theorem dX7_rollsAct_86 : decode cX7_rollsAct 86 = .ok (.iaload, 1) := by decide +kernel
theorem dX7_rollsAct_87 : decode cX7_rollsAct 87 = .ok (.ixor, 1) := by decide +kernel
theorem dX7_rollsAct_88 : decode cX7_rollsAct 88 = .ok (.ireturn, 1) := by decide +kernel
theorem dX7_rollsAct_89 : decode cX7_rollsAct 89 = .ok (.aload_n 0, 1) := by decide +kernel
theorem dX7_rollsAct_90 : decode cX7_rollsAct 90 = .ok (.iload_n 1, 1) := by decide +kernel
theorem dX7_rollsAct_91 : decode cX7_rollsAct 91 = .ok (.iload_n 2, 1) := by decide +kernel
theorem dX7_rollsAct_92 : decode cX7_rollsAct 92 = .ok (.invokevirtual 398, 3) := by decide +kernel
theorem dX7_rollsAct_95 : decode cX7_rollsAct 95 = .ok (.ireturn, 1) := by decide +kernel
theorem dX7_manHums_0 : decode cX7_manHums 0 = .ok (.aload_n 0, 1) := by decide +kernel
theorem dX7_manHums_1 : decode cX7_manHums 1 = .ok (.bipush 11, 2) := by decide +kernel
theorem dX7_manHums_3 : decode cX7_manHums 3 = .ok (.invokevirtual 395, 3) := by decide +kernel
theorem dX7_manHums_6 : decode cX7_manHums 6 = .ok (.aload_n 0, 1) := by decide +kernel
theorem dX7_manHums_7 : decode cX7_manHums 7 = .ok (.iload_n 1, 1) := by decide +kernel
theorem dX7_manHums_8 : decode cX7_manHums 8 = .ok (.iload_n 2, 1) := by decide +kernel
theorem dX7_manHums_9 : decode cX7_manHums 9 = .ok (.invokevirtual 401, 3) := by decide +kernel
theorem dX7_manHums_12 : decode cX7_manHums 12 = .ok (.aload_n 0, 1) := by decide +kernel
theorem dX7_manHums_13 : decode cX7_manHums 13 = .ok (.getfield 32, 3) := by decide +kernel
theorem dX7_manHums_16 : decode cX7_manHums 16 = .ok (.iload_n 1, 1) := by decide +kernel
theorem dX7_manHums_17 : decode cX7_manHums 17 = .ok (.iaload, 1) := by decide +kernel
theorem dX7_manHums_18 : decode cX7_manHums 18 = .ok (.isub, 1) := by decide +kernel
theorem dX7_manHums_19 : decode cX7_manHums 19 = .ok (.ireturn, 1) := by decide +kernel
theorem dX7_cookHums_0 : decode cX7_cookHums 0 = .ok (.aload_n 0, 1) := by decide +kernel
theorem dX7_cookHums_1 : decode cX7_cookHums 1 = .ok (.bipush 20, 2) := by decide +kernel
theorem dX7_cookHums_3 : decode cX7_cookHums 3 = .ok (.invokevirtual 395, 3) := by decide +kernel
theorem dX7_cookHums_6 : decode cX7_cookHums 6 = .ok (.aload_n 0, 1) := by decide +kernel
theorem dX7_cookHums_7 : decode cX7_cookHums 7 = .ok (.iload_n 1, 1) := by decide +kernel
theorem dX7_cookHums_8 : decode cX7_cookHums 8 = .ok (.iload_n 2, 1) := by decide +kernel
theorem dX7_cookHums_9 : decode cX7_cookHums 9 = .ok (.invokevirtual 404, 3) := by decide +kernel
theorem dX7_cookHums_12 : decode cX7_cookHums 12 = .ok (.bipush 6, 2) := by decide +kernel
theorem dX7_cookHums_14 : decode cX7_cookHums 14 = .ok (.ixor, 1) := by decide +kernel
theorem dX7_cookHums_15 : decode cX7_cookHums 15 = .ok (.ireturn, 1) := by decide +kernel
theorem dX7_humsAct_0 : decode cX7_humsAct 0 = .ok (.aload_n 0, 1) := by decide +kernel
theorem dX7_humsAct_1 : decode cX7_humsAct 1 = .ok (.getfield 28, 3) := by decide +kernel
theorem dX7_humsAct_4 : decode cX7_humsAct 4 = .ok (.iload_n 1, 1) := by decide +kernel
theorem dX7_humsAct_5 : decode cX7_humsAct 5 = .ok (.iaload, 1) := by decide +kernel
theorem dX7_humsAct_6 : decode cX7_humsAct 6 = .ok (.lookupswitch 78 #[(1, 34), (4, 41), (6, 56)], 34) := by decide +kernel
theorem dX7_humsAct_40 : decode cX7_humsAct 40 = .ok (.aload_n 0, 1) := by decide +kernel
theorem dX7_humsAct_41 : decode cX7_humsAct 41 = .ok (.iload_n 1, 1) := by decide +kernel
theorem dX7_humsAct_42 : decode cX7_humsAct 42 = .ok (.iload_n 2, 1) := by decide +kernel
theorem dX7_humsAct_43 : decode cX7_humsAct 43 = .ok (.invokevirtual 407, 3) := by decide +kernel
theorem dX7_humsAct_46 : decode cX7_humsAct 46 = .ok (.ireturn, 1) := by decide +kernel
theorem dX7_humsAct_47 : decode cX7_humsAct 47 = .ok (.aload_n 0, 1) := by decide +kernel
theorem dX7_humsAct_48 : decode cX7_humsAct 48 = .ok (.bipush 51, 2) := by decide +kernel
theorem dX7_humsAct_50 : decode cX7_humsAct 50 = .ok (.invokevirtual 395, 3) := by decide +kernel
theorem dX7_humsAct_53 : decode cX7_humsAct 53 = .ok (.aload_n 0, 1) := by decide +kernel
theorem dX7_humsAct_54 : decode cX7_humsAct 54 = .ok (.iload_n 1, 1) := by decide +kernel
theorem dX7_humsAct_55 : decode cX7_humsAct 55 = .ok (.iload_n 2, 1) := by decide +kernel
theorem dX7_humsAct_56 : decode cX7_humsAct 56 = .ok (.iconst 1, 1) := by decide +kernel
theorem dX7_humsAct_57 : decode cX7_humsAct 57 = .ok (.iadd, 1) := by decide +kernel
theorem dX7_humsAct_58 : decode cX7_humsAct 58 = .ok (.invokevirtual 407, 3) := by decide +kernel
theorem dX7_humsAct_61 : decode cX7_humsAct 61 = .ok (.ireturn, 1) := by decide +kernel
theorem dX7_humsAct_62 : decode cX7_humsAct 62 = .ok (.aload_n 0, 1) := by decide +kernel
theorem dX7_humsAct_63 : decode cX7_humsAct 63 = .ok (.bipush 70, 2) := by decide +kernel
theorem dX7_humsAct_65 : decode cX7_humsAct 65 = .ok (.invokevirtual 395, 3) := by decide +kernel
theorem dX7_humsAct_68 : decode cX7_humsAct 68 = .ok (.aload_n 0, 1) := by decide +kernel
theorem dX7_humsAct_69 : decode cX7_humsAct 69 = .ok (.iload_n 1, 1) := by decide +kernel
theorem dX7_humsAct_70 : decode cX7_humsAct 70 = .ok (.iload_n 2, 1) := by decide +kernel
theorem dX7_humsAct_71 : decode cX7_humsAct 71 = .ok (.invokevirtual 404, 3) := by decide +kernel
theorem dX7_humsAct_74 : decode cX7_humsAct 74 = .ok (.istore_n 3, 1) := by decide +kernel
theorem dX7_humsAct_75 : decode cX7_humsAct 75 = .ok (.iload_n 3, 1) := by decide +kernel
theorem dX7_humsAct_76 : decode cX7_humsAct 76 = .ok (.aload_n 0, 1) := by decide +kernel
theorem dX7_humsAct_77 : decode cX7_humsAct 77 = .ok (.iload_n 1, 1) := by decide +kernel
theorem dX7_humsAct_78 : decode cX7_humsAct 78 = .ok (.iconst 2, 1) := by decide +kernel
theorem dX7_humsAct_79 : decode cX7_humsAct 79 = .ok (.invokevirtual 398, 3) := by decide +kernel
theorem dX7_humsAct_82 : decode cX7_humsAct 82 = .ok (.iadd, 1) := by decide +kernel
theorem dX7_humsAct_83 : decode cX7_humsAct 83 = .ok (.ireturn, 1) := by decide +kernel
theorem dX7_humsAct_84 : decode cX7_humsAct 84 = .ok (.aload_n 0, 1) := by decide +kernel
theorem dX7_humsAct_85 : decode cX7_humsAct 85 = .ok (.iload_n 1, 1) := by decide +kernel
theorem dX7_humsAct_86 : decode cX7_humsAct 86 = .ok (.iload_n 2, 1) := by decide +kernel
theorem dX7_humsAct_87 : decode cX7_humsAct 87 = .ok (.invokevirtual 404, 3) := by decide +kernel
theorem dX7_humsAct_90 : decode cX7_humsAct 90 = .ok (.ireturn, 1) := by decide +kernel
theorem dX7_manTells_0 : decode cX7_manTells 0 = .ok (.aload_n 0, 1) := by decide +kernel
theorem dX7_manTells_1 : decode cX7_manTells 1 = .ok (.bipush 12, 2) := by decide +kernel
theorem dX7_manTells_3 : decode cX7_manTells 3 = .ok (.invokevirtual 395, 3) := by decide +kernel
theorem dX7_manTells_6 : decode cX7_manTells 6 = .ok (.aload_n 0, 1) := by decide +kernel
theorem dX7_manTells_7 : decode cX7_manTells 7 = .ok (.iload_n 1, 1) := by decide +kernel
theorem dX7_manTells_8 : decode cX7_manTells 8 = .ok (.iload_n 2, 1) := by decide +kernel
theorem dX7_manTells_9 : decode cX7_manTells 9 = .ok (.invokevirtual 410, 3) := by decide +kernel
theorem dX7_manTells_12 : decode cX7_manTells 12 = .ok (.iconst 2, 1) := by decide +kernel
theorem dX7_manTells_13 : decode cX7_manTells 13 = .ok (.imul, 1) := by decide +kernel
theorem dX7_manTells_14 : decode cX7_manTells 14 = .ok (.ireturn, 1) := by decide +kernel
theorem dX7_tellsAct_0 : decode cX7_tellsAct 0 = .ok (.aload_n 0, 1) := by decide +kernel
theorem dX7_tellsAct_1 : decode cX7_tellsAct 1 = .ok (.getfield 28, 3) := by decide +kernel
theorem dX7_tellsAct_4 : decode cX7_tellsAct 4 = .ok (.iload_n 1, 1) := by decide +kernel
theorem dX7_tellsAct_5 : decode cX7_tellsAct 5 = .ok (.iaload, 1) := by decide +kernel
theorem dX7_tellsAct_6 : decode cX7_tellsAct 6 = .ok (.tableswitch 67 3 6 #[30, 67, 52, 30], 30) := by decide +kernel
theorem dX7_tellsAct_36 : decode cX7_tellsAct 36 = .ok (.aload_n 0, 1) := by decide +kernel
theorem dX7_tellsAct_37 : decode cX7_tellsAct 37 = .ok (.bipush 40, 2) := by decide +kernel
theorem dX7_tellsAct_39 : decode cX7_tellsAct 39 = .ok (.invokevirtual 395, 3) := by decide +kernel
theorem dX7_tellsAct_42 : decode cX7_tellsAct 42 = .ok (.aload_n 0, 1) := by decide +kernel
theorem dX7_tellsAct_43 : decode cX7_tellsAct 43 = .ok (.iload_n 1, 1) := by decide +kernel
theorem dX7_tellsAct_44 : decode cX7_tellsAct 44 = .ok (.iload_n 2, 1) := by decide +kernel
theorem dX7_tellsAct_45 : decode cX7_tellsAct 45 = .ok (.invokevirtual 413, 3) := by decide +kernel
theorem dX7_tellsAct_48 : decode cX7_tellsAct 48 = .ok (.istore_n 3, 1) := by decide +kernel
theorem dX7_tellsAct_49 : decode cX7_tellsAct 49 = .ok (.iload_n 3, 1) := by decide +kernel
theorem dX7_tellsAct_50 : decode cX7_tellsAct 50 = .ok (.aload_n 0, 1) := by decide +kernel
theorem dX7_tellsAct_51 : decode cX7_tellsAct 51 = .ok (.iload_n 1, 1) := by decide +kernel
theorem dX7_tellsAct_52 : decode cX7_tellsAct 52 = .ok (.iconst 1, 1) := by decide +kernel
theorem dX7_tellsAct_53 : decode cX7_tellsAct 53 = .ok (.invokevirtual 410, 3) := by decide +kernel
theorem dX7_tellsAct_56 : decode cX7_tellsAct 56 = .ok (.iadd, 1) := by decide +kernel
theorem dX7_tellsAct_57 : decode cX7_tellsAct 57 = .ok (.ireturn, 1) := by decide +kernel
theorem dX7_tellsAct_58 : decode cX7_tellsAct 58 = .ok (.aload_n 0, 1) := by decide +kernel
theorem dX7_tellsAct_59 : decode cX7_tellsAct 59 = .ok (.bipush 60, 2) := by decide +kernel
theorem dX7_tellsAct_61 : decode cX7_tellsAct 61 = .ok (.invokevirtual 395, 3) := by decide +kernel
theorem dX7_tellsAct_64 : decode cX7_tellsAct 64 = .ok (.aload_n 0, 1) := by decide +kernel
theorem dX7_tellsAct_65 : decode cX7_tellsAct 65 = .ok (.iload_n 1, 1) := by decide +kernel
theorem dX7_tellsAct_66 : decode cX7_tellsAct 66 = .ok (.iload_n 2, 1) := by decide +kernel
theorem dX7_tellsAct_67 : decode cX7_tellsAct 67 = .ok (.iload_n 1, 1) := by decide +kernel
theorem dX7_tellsAct_68 : decode cX7_tellsAct 68 = .ok (.isub, 1) := by decide +kernel
theorem dX7_tellsAct_69 : decode cX7_tellsAct 69 = .ok (.invokevirtual 413, 3) := by decide +kernel
theorem dX7_tellsAct_72 : decode cX7_tellsAct 72 = .ok (.ireturn, 1) := by decide +kernel
theorem dX7_tellsAct_73 : decode cX7_tellsAct 73 = .ok (.aload_n 0, 1) := by decide +kernel
theorem dX7_tellsAct_74 : decode cX7_tellsAct 74 = .ok (.iload_n 1, 1) := by decide +kernel
theorem dX7_tellsAct_75 : decode cX7_tellsAct 75 = .ok (.iload_n 2, 1) := by decide +kernel
theorem dX7_tellsAct_76 : decode cX7_tellsAct 76 = .ok (.invokevirtual 413, 3) := by decide +kernel
theorem dX7_tellsAct_79 : decode cX7_tellsAct 79 = .ok (.ireturn, 1) := by decide +kernel
theorem dX7_act_0 : decode cX7_act 0 = .ok (.aload_n 0, 1) := by decide +kernel
theorem dX7_act_1 : decode cX7_act 1 = .ok (.iconst 0, 1) := by decide +kernel
theorem dX7_act_2 : decode cX7_act 2 = .ok (.putfield 214, 3) := by decide +kernel
theorem dX7_act_5 : decode cX7_act 5 = .ok (.aload_n 0, 1) := by decide +kernel
theorem dX7_act_6 : decode cX7_act 6 = .ok (.iload_n 1, 1) := by decide +kernel
theorem dX7_act_7 : decode cX7_act 7 = .ok (.invokevirtual 245, 3) := by decide +kernel
theorem dX7_act_10 : decode cX7_act 10 = .ok (.ifCond .eq 13, 3) := by decide +kernel
theorem dX7_act_13 : decode cX7_act 13 = .ok (.aload_n 0, 1) := by decide +kernel
theorem dX7_act_14 : decode cX7_act 14 = .ok (.iload_n 2, 1) := by decide +kernel
theorem dX7_act_15 : decode cX7_act 15 = .ok (.iconst 0, 1) := by decide +kernel
theorem dX7_act_16 : decode cX7_act 16 = .ok (.iconst 2, 1) := by decide +kernel
theorem dX7_act_17 : decode cX7_act 17 = .ok (.invokevirtual 237, 3) := by decide +kernel
theorem dX7_act_20 : decode cX7_act 20 = .ok (.ifCond .ne 5, 3) := by decide +kernel
theorem dX7_act_23 : decode cX7_act 23 = .ok (.iconst 0, 1) := by decide +kernel
theorem dX7_act_24 : decode cX7_act 24 = .ok (.ireturn, 1) := by decide +kernel
theorem dX7_act_25 : decode cX7_act 25 = .ok (.iload_n 2, 1) := by decide +kernel
theorem dX7_act_26 : decode cX7_act 26 = .ok (.ifCond .ne 12, 3) := by decide +kernel
theorem dX7_act_29 : decode cX7_act 29 = .ok (.aload_n 0, 1) := by decide +kernel
theorem dX7_act_30 : decode cX7_act 30 = .ok (.iload_n 1, 1) := by decide +kernel
theorem dX7_act_31 : decode cX7_act 31 = .ok (.iload_n 3, 1) := by decide +kernel
theorem dX7_act_32 : decode cX7_act 32 = .ok (.invokevirtual 401, 3) := by decide +kernel
theorem dX7_act_35 : decode cX7_act 35 = .ok (.goto 23, 3) := by decide +kernel
theorem dX7_act_38 : decode cX7_act 38 = .ok (.iload_n 2, 1) := by decide +kernel
theorem dX7_act_39 : decode cX7_act 39 = .ok (.iconst 1, 1) := by decide +kernel
theorem dX7_act_40 : decode cX7_act 40 = .ok (.if_icmp .ne 12, 3) := by decide +kernel
theorem dX7_act_43 : decode cX7_act 43 = .ok (.aload_n 0, 1) := by decide +kernel
theorem dX7_act_44 : decode cX7_act 44 = .ok (.iload_n 1, 1) := by decide +kernel
theorem dX7_act_45 : decode cX7_act 45 = .ok (.iload_n 3, 1) := by decide +kernel
theorem dX7_act_46 : decode cX7_act 46 = .ok (.invokevirtual 410, 3) := by decide +kernel
theorem dX7_act_49 : decode cX7_act 49 = .ok (.goto 9, 3) := by decide +kernel
theorem dX7_act_52 : decode cX7_act 52 = .ok (.aload_n 0, 1) := by decide +kernel
theorem dX7_act_53 : decode cX7_act 53 = .ok (.iload_n 1, 1) := by decide +kernel
theorem dX7_act_54 : decode cX7_act 54 = .ok (.iload_n 3, 1) := by decide +kernel
theorem dX7_act_55 : decode cX7_act 55 = .ok (.invokevirtual 416, 3) := by decide +kernel
theorem dX7_act_58 : decode cX7_act 58 = .ok (.ireturn, 1) := by decide +kernel
theorem dX7_trace_0 : decode cX7_trace 0 = .ok (.aload_n 0, 1) := by decide +kernel
theorem dX7_trace_1 : decode cX7_trace 1 = .ok (.iload_n 1, 1) := by decide +kernel
theorem dX7_trace_2 : decode cX7_trace 2 = .ok (.iconst 0, 1) := by decide +kernel
theorem dX7_trace_3 : decode cX7_trace 3 = .ok (.bipush 19, 2) := by decide +kernel
theorem dX7_trace_5 : decode cX7_trace 5 = .ok (.invokevirtual 237, 3) := by decide +kernel
theorem dX7_trace_8 : decode cX7_trace 8 = .ok (.ifCond .eq 20, 3) := by decide +kernel
theorem dX7_trace_11 : decode cX7_trace 11 = .ok (.iload_n 1, 1) := by decide +kernel
theorem dX7_trace_12 : decode cX7_trace 12 = .ok (.aload_n 0, 1) := by decide +kernel
theorem dX7_trace_13 : decode cX7_trace 13 = .ok (.getfield 214, 3) := by decide +kernel
theorem dX7_trace_16 : decode cX7_trace 16 = .ok (.if_icmp .ge 12, 3) := by decide +kernel
theorem dX7_trace_19 : decode cX7_trace 19 = .ok (.aload_n 0, 1) := by decide +kernel
theorem dX7_trace_20 : decode cX7_trace 20 = .ok (.getfield 217, 3) := by decide +kernel
theorem dX7_trace_23 : decode cX7_trace 23 = .ok (.iload_n 1, 1) := by decide +kernel
theorem dX7_trace_24 : decode cX7_trace 24 = .ok (.iaload, 1) := by decide +kernel
theorem dX7_trace_25 : decode cX7_trace 25 = .ok (.goto 4, 3) := by decide +kernel
theorem dX7_trace_28 : decode cX7_trace 28 = .ok (.iconst (-1), 1) := by decide +kernel
theorem dX7_trace_29 : decode cX7_trace 29 = .ok (.ireturn, 1) := by decide +kernel
theorem dX7_taken_0 : decode cX7_taken 0 = .ok (.aload_n 0, 1) := by decide +kernel
theorem dX7_taken_1 : decode cX7_taken 1 = .ok (.iload_n 2, 1) := by decide +kernel
theorem dX7_taken_2 : decode cX7_taken 2 = .ok (.iconst 0, 1) := by decide +kernel
theorem dX7_taken_3 : decode cX7_taken 3 = .ok (.bipush 6, 2) := by decide +kernel
theorem dX7_taken_5 : decode cX7_taken 5 = .ok (.invokevirtual 237, 3) := by decide +kernel
theorem dX7_taken_8 : decode cX7_taken 8 = .ok (.ifCond .ne 6, 3) := by decide +kernel
theorem dX7_taken_11 : decode cX7_taken 11 = .ok (.bipush (-2), 2) := by decide +kernel
theorem dX7_taken_13 : decode cX7_taken 13 = .ok (.ireturn, 1) := by decide +kernel
theorem dX7_taken_14 : decode cX7_taken 14 = .ok (.aload_n 0, 1) := by decide +kernel
theorem dX7_taken_15 : decode cX7_taken 15 = .ok (.iload_n 1, 1) := by decide +kernel
theorem dX7_taken_16 : decode cX7_taken 16 = .ok (.invokevirtual 245, 3) := by decide +kernel
theorem dX7_taken_19 : decode cX7_taken 19 = .ok (.ifCond .ne 6, 3) := by decide +kernel
theorem dX7_taken_22 : decode cX7_taken 22 = .ok (.bipush (-11), 2) := by decide +kernel
theorem dX7_taken_24 : decode cX7_taken 24 = .ok (.ireturn, 1) := by decide +kernel
theorem dX7_taken_25 : decode cX7_taken 25 = .ok (.aload_n 0, 1) := by decide +kernel
theorem dX7_taken_26 : decode cX7_taken 26 = .ok (.getfield 28, 3) := by decide +kernel
theorem dX7_taken_29 : decode cX7_taken 29 = .ok (.iload_n 1, 1) := by decide +kernel
theorem dX7_taken_30 : decode cX7_taken 30 = .ok (.iaload, 1) := by decide +kernel
theorem dX7_taken_31 : decode cX7_taken 31 = .ok (.istore_n 3, 1) := by decide +kernel
theorem dX7_taken_32 : decode cX7_taken 32 = .ok (.iload_n 2, 1) := by decide +kernel
theorem dX7_taken_33 : decode cX7_taken 33 = .ok (.ifCond .eq 39, 3) := by decide +kernel
theorem dX7_taken_36 : decode cX7_taken 36 = .ok (.iload_n 3, 1) := by decide +kernel
theorem dX7_taken_37 : decode cX7_taken 37 = .ok (.iload_n 2, 1) := by decide +kernel
theorem dX7_taken_38 : decode cX7_taken 38 = .ok (.if_icmp .eq 34, 3) := by decide +kernel
theorem dX7_taken_41 : decode cX7_taken 41 = .ok (.iload_n 2, 1) := by decide +kernel
theorem dX7_taken_42 : decode cX7_taken 42 = .ok (.iconst 1, 1) := by decide +kernel
theorem dX7_taken_43 : decode cX7_taken 43 = .ok (.if_icmp .ne 8, 3) := by decide +kernel
theorem dX7_taken_46 : decode cX7_taken 46 = .ok (.iload_n 3, 1) := by decide +kernel
theorem dX7_taken_47 : decode cX7_taken 47 = .ok (.iconst 4, 1) := by decide +kernel
theorem dX7_taken_48 : decode cX7_taken 48 = .ok (.if_icmp .eq 24, 3) := by decide +kernel
theorem dX7_taken_51 : decode cX7_taken 51 = .ok (.iload_n 2, 1) := by decide +kernel
theorem dX7_taken_52 : decode cX7_taken 52 = .ok (.iconst 2, 1) := by decide +kernel
theorem dX7_taken_53 : decode cX7_taken 53 = .ok (.if_icmp .ne 8, 3) := by decide +kernel
theorem dX7_taken_56 : decode cX7_taken 56 = .ok (.iload_n 3, 1) := by decide +kernel
theorem dX7_taken_57 : decode cX7_taken 57 = .ok (.iconst 5, 1) := by decide +kernel
theorem dX7_taken_58 : decode cX7_taken 58 = .ok (.if_icmp .eq 14, 3) := by decide +kernel
theorem dX7_taken_61 : decode cX7_taken 61 = .ok (.iload_n 2, 1) := by decide +kernel
theorem dX7_taken_62 : decode cX7_taken 62 = .ok (.iconst 3, 1) := by decide +kernel
theorem dX7_taken_63 : decode cX7_taken 63 = .ok (.if_icmp .ne 13, 3) := by decide +kernel
theorem dX7_taken_66 : decode cX7_taken 66 = .ok (.iload_n 3, 1) := by decide +kernel
theorem dX7_taken_67 : decode cX7_taken 67 = .ok (.bipush 6, 2) := by decide +kernel
theorem dX7_taken_69 : decode cX7_taken 69 = .ok (.if_icmp .ne 7, 3) := by decide +kernel
theorem dX7_taken_72 : decode cX7_taken 72 = .ok (.iload_n 3, 1) := by decide +kernel
theorem dX7_taken_73 : decode cX7_taken 73 = .ok (.goto 5, 3) := by decide +kernel
theorem dX7_taken_76 : decode cX7_taken 76 = .ok (.bipush (-12), 2) := by decide +kernel
theorem dX7_taken_78 : decode cX7_taken 78 = .ok (.ireturn, 1) := by decide +kernel
theorem dX7_count_0 : decode cX7_count 0 = .ok (.iload_n 1, 1) := by decide +kernel
theorem dX7_count_1 : decode cX7_count 1 = .ok (.tableswitch 78 0 6 #[43, 48, 53, 58, 63, 68, 73], 43) := by decide +kernel
theorem dX7_count_44 : decode cX7_count 44 = .ok (.aload_n 0, 1) := by decide +kernel
theorem dX7_count_45 : decode cX7_count 45 = .ok (.getfield 7, 3) := by decide +kernel
theorem dX7_count_48 : decode cX7_count 48 = .ok (.ireturn, 1) := by decide +kernel
theorem dX7_count_49 : decode cX7_count 49 = .ok (.aload_n 0, 1) := by decide +kernel
theorem dX7_count_50 : decode cX7_count 50 = .ok (.getfield 44, 3) := by decide +kernel
theorem dX7_count_53 : decode cX7_count 53 = .ok (.ireturn, 1) := by decide +kernel
theorem dX7_count_54 : decode cX7_count 54 = .ok (.aload_n 0, 1) := by decide +kernel
theorem dX7_count_55 : decode cX7_count 55 = .ok (.getfield 120, 3) := by decide +kernel
theorem dX7_count_58 : decode cX7_count 58 = .ok (.ireturn, 1) := by decide +kernel
theorem dX7_count_59 : decode cX7_count 59 = .ok (.aload_n 0, 1) := by decide +kernel
theorem dX7_count_60 : decode cX7_count 60 = .ok (.getfield 129, 3) := by decide +kernel
theorem dX7_count_63 : decode cX7_count 63 = .ok (.ireturn, 1) := by decide +kernel
theorem dX7_count_64 : decode cX7_count 64 = .ok (.aload_n 0, 1) := by decide +kernel
theorem dX7_count_65 : decode cX7_count 65 = .ok (.getfield 132, 3) := by decide +kernel
theorem dX7_count_68 : decode cX7_count 68 = .ok (.ireturn, 1) := by decide +kernel
theorem dX7_count_69 : decode cX7_count 69 = .ok (.aload_n 0, 1) := by decide +kernel
theorem dX7_count_70 : decode cX7_count 70 = .ok (.getfield 50, 3) := by decide +kernel
theorem dX7_count_73 : decode cX7_count 73 = .ok (.ireturn, 1) := by decide +kernel
theorem dX7_count_74 : decode cX7_count 74 = .ok (.aload_n 0, 1) := by decide +kernel
theorem dX7_count_75 : decode cX7_count 75 = .ok (.getfield 214, 3) := by decide +kernel
theorem dX7_count_78 : decode cX7_count 78 = .ok (.ireturn, 1) := by decide +kernel
theorem dX7_count_79 : decode cX7_count 79 = .ok (.bipush (-2), 2) := by decide +kernel
theorem dX7_count_81 : decode cX7_count 81 = .ok (.ireturn, 1) := by decide +kernel
theorem dX7_isTape_0 : decode cX7_isTape 0 = .ok (.aload_n 0, 1) := by decide +kernel
theorem dX7_isTape_1 : decode cX7_isTape 1 = .ok (.iload_n 1, 1) := by decide +kernel
theorem dX7_isTape_2 : decode cX7_isTape 2 = .ok (.iconst 0, 1) := by decide +kernel
theorem dX7_isTape_3 : decode cX7_isTape 3 = .ok (.iconst 5, 1) := by decide +kernel
theorem dX7_isTape_4 : decode cX7_isTape 4 = .ok (.invokevirtual 237, 3) := by decide +kernel
theorem dX7_isTape_7 : decode cX7_isTape 7 = .ok (.ireturn, 1) := by decide +kernel
theorem dX7_tape_0 : decode cX7_tape 0 = .ok (.aload_n 0, 1) := by decide +kernel
theorem dX7_tape_1 : decode cX7_tape 1 = .ok (.iload_n 1, 1) := by decide +kernel
theorem dX7_tape_2 : decode cX7_tape 2 = .ok (.invokevirtual 392, 3) := by decide +kernel
theorem dX7_tape_5 : decode cX7_tape 5 = .ok (.ifCond .ne 5, 3) := by decide +kernel
theorem dX7_tape_8 : decode cX7_tape 8 = .ok (.iconst (-1), 1) := by decide +kernel
theorem dX7_tape_9 : decode cX7_tape 9 = .ok (.ireturn, 1) := by decide +kernel
theorem dX7_tape_10 : decode cX7_tape 10 = .ok (.aload_n 0, 1) := by decide +kernel
theorem dX7_tape_11 : decode cX7_tape 11 = .ok (.iload_n 2, 1) := by decide +kernel
theorem dX7_tape_12 : decode cX7_tape 12 = .ok (.iconst (-1), 1) := by decide +kernel
theorem dX7_tape_13 : decode cX7_tape 13 = .ok (.iconst 4, 1) := by decide +kernel
theorem dX7_tape_14 : decode cX7_tape 14 = .ok (.invokevirtual 237, 3) := by decide +kernel
theorem dX7_tape_17 : decode cX7_tape 17 = .ok (.ifCond .eq 13, 3) := by decide +kernel
theorem dX7_tape_20 : decode cX7_tape 20 = .ok (.iload_n 2, 1) := by decide +kernel
theorem dX7_tape_21 : decode cX7_tape 21 = .ok (.ifCond .lt 12, 3) := by decide +kernel
theorem dX7_tape_24 : decode cX7_tape 24 = .ok (.iload_n 3, 1) := by decide +kernel
theorem dX7_tape_25 : decode cX7_tape 25 = .ok (.bipush 60, 2) := by decide +kernel
theorem dX7_tape_27 : decode cX7_tape 27 = .ok (.if_icmp .le 6, 3) := by decide +kernel
theorem dX7_tape_30 : decode cX7_tape 30 = .ok (.bipush (-2), 2) := by decide +kernel
theorem dX7_tape_32 : decode cX7_tape 32 = .ok (.ireturn, 1) := by decide +kernel
theorem dX7_tape_33 : decode cX7_tape 33 = .ok (.iload_n 2, 1) := by decide +kernel
theorem dX7_tape_34 : decode cX7_tape 34 = .ok (.ifCond .lt 10, 3) := by decide +kernel
theorem dX7_tape_37 : decode cX7_tape 37 = .ok (.iload_n 3, 1) := by decide +kernel
theorem dX7_tape_38 : decode cX7_tape 38 = .ok (.ifCond .ge 6, 3) := by decide +kernel
theorem dX7_tape_41 : decode cX7_tape 41 = .ok (.bipush (-14), 2) := by decide +kernel
theorem dX7_tape_43 : decode cX7_tape 43 = .ok (.ireturn, 1) := by decide +kernel
theorem dX7_tape_44 : decode cX7_tape 44 = .ok (.aload_n 0, 1) := by decide +kernel
theorem dX7_tape_45 : decode cX7_tape 45 = .ok (.getfield 220, 3) := by decide +kernel
theorem dX7_tape_48 : decode cX7_tape 48 = .ok (.iload_n 1, 1) := by decide +kernel
theorem dX7_tape_49 : decode cX7_tape 49 = .ok (.iload_n 2, 1) := by decide +kernel
theorem dX7_tape_50 : decode cX7_tape 50 = .ok (.iastore, 1) := by decide +kernel
theorem dX7_tape_51 : decode cX7_tape 51 = .ok (.aload_n 0, 1) := by decide +kernel
theorem dX7_tape_52 : decode cX7_tape 52 = .ok (.getfield 223, 3) := by decide +kernel
theorem dX7_tape_55 : decode cX7_tape 55 = .ok (.iload_n 1, 1) := by decide +kernel
theorem dX7_tape_56 : decode cX7_tape 56 = .ok (.iload_n 2, 1) := by decide +kernel
theorem dX7_tape_57 : decode cX7_tape 57 = .ok (.ifCond .ge 7, 3) := by decide +kernel
theorem dX7_tape_60 : decode cX7_tape 60 = .ok (.iconst 0, 1) := by decide +kernel
theorem dX7_tape_61 : decode cX7_tape 61 = .ok (.goto 4, 3) := by decide +kernel
theorem dX7_tape_64 : decode cX7_tape 64 = .ok (.iload_n 3, 1) := by decide +kernel
theorem dX7_tape_65 : decode cX7_tape 65 = .ok (.iastore, 1) := by decide +kernel
theorem dX7_tape_66 : decode cX7_tape 66 = .ok (.iconst 0, 1) := by decide +kernel
theorem dX7_tape_67 : decode cX7_tape 67 = .ok (.istore 4, 2) := by decide +kernel

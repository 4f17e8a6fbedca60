theorem dX0_init_0 : decode cX0_init 0 = .ok (.aload_n 0, 1) := by decide +kernel
theorem dX0_init_1 : decode cX0_init 1 = .ok (.invokespecial 3, 3) := by decide +kernel
theorem dX0_init_4 : decode cX0_init 4 = .ok (.aload_n 0, 1) := by decide +kernel
theorem dX0_init_5 : decode cX0_init 5 = .ok (.bipush 20, 2) := by decide +kernel
theorem dX0_init_7 : decode cX0_init 7 = .ok (.newarray .int, 2) := by decide +kernel
theorem dX0_init_9 : decode cX0_init 9 = .ok (.putfield 9, 3) := by decide +kernel
theorem dX0_init_12 : decode cX0_init 12 = .ok (.return_, 1) := by decide +kernel
theorem dX0_run_0 : decode cX0_run 0 = .ok (.aload_n 0, 1) := by decide +kernel
theorem dX0_run_1 : decode cX0_run 1 = .ok (.iload_n 2, 1) := by decide +kernel
theorem dX0_run_2 : decode cX0_run 2 = .ok (.putfield 15, 3) := by decide +kernel
theorem dX0_run_5 : decode cX0_run 5 = .ok (.aload_n 0, 1) := by decide +kernel
theorem dX0_run_6 : decode cX0_run 6 = .ok (.iload_n 3, 1) := by decide +kernel
theorem dX0_run_7 : decode cX0_run 7 = .ok (.putfield 19, 3) := by decide +kernel
theorem dX0_run_10 : decode cX0_run 10 = .ok (.aload_n 0, 1) := by decide +kernel
theorem dX0_run_11 : decode cX0_run 11 = .ok (.iload 4, 2) := by decide +kernel
theorem dX0_run_13 : decode cX0_run 13 = .ok (.putfield 22, 3) := by decide +kernel
theorem dX0_run_16 : decode cX0_run 16 = .ok (.iload_n 1, 1) := by decide +kernel
theorem dX0_run_17 : decode cX0_run 17 = .ok (.lookupswitch 49 #[(0, 27), (1, 38)], 27) := by decide +kernel
theorem dX0_run_44 : decode cX0_run 44 = .ok (.aload_n 0, 1) := by decide +kernel
theorem dX0_run_45 : decode cX0_run 45 = .ok (.aload_n 0, 1) := by decide +kernel
theorem dX0_run_46 : decode cX0_run 46 = .ok (.getfield 19, 3) := by decide +kernel
theorem dX0_run_49 : decode cX0_run 49 = .ok (.iload 5, 2) := by decide +kernel
theorem dX0_run_51 : decode cX0_run 51 = .ok (.invokevirtual 25, 3) := by decide +kernel
theorem dX0_run_54 : decode cX0_run 54 = .ok (.ireturn, 1) := by decide +kernel
theorem dX0_run_55 : decode cX0_run 55 = .ok (.aload_n 0, 1) := by decide +kernel
theorem dX0_run_56 : decode cX0_run 56 = .ok (.aload_n 0, 1) := by decide +kernel
theorem dX0_run_57 : decode cX0_run 57 = .ok (.getfield 19, 3) := by decide +kernel
theorem dX0_run_60 : decode cX0_run 60 = .ok (.iload 5, 2) := by decide +kernel
theorem dX0_run_62 : decode cX0_run 62 = .ok (.invokevirtual 29, 3) := by decide +kernel
theorem dX0_run_65 : decode cX0_run 65 = .ok (.ireturn, 1) := by decide +kernel
theorem dX0_run_66 : decode cX0_run 66 = .ok (.aload_n 0, 1) := by decide +kernel
theorem dX0_run_67 : decode cX0_run 67 = .ok (.aload_n 0, 1) := by decide +kernel
theorem dX0_run_68 : decode cX0_run 68 = .ok (.getfield 19, 3) := by decide +kernel
theorem dX0_run_71 : decode cX0_run 71 = .ok (.iload 5, 2) := by decide +kernel
theorem dX0_run_73 : decode cX0_run 73 = .ok (.invokevirtual 32, 3) := by decide +kernel
theorem dX0_run_76 : decode cX0_run 76 = .ok (.ireturn, 1) := by decide +kernel
theorem dX0_began_0 : decode cX0_began 0 = .ok (.aload_n 0, 1) := by decide +kernel
theorem dX0_began_1 : decode cX0_began 1 = .ok (.getfield 35, 3) := by decide +kernel
theorem dX0_began_4 : decode cX0_began 4 = .ok (.bipush 20, 2) := by decide +kernel
theorem dX0_began_6 : decode cX0_began 6 = .ok (.if_icmp .ge 13, 3) := by decide +kernel
theorem dX0_began_9 : decode cX0_began 9 = .ok (.aload_n 0, 1) := by decide +kernel
theorem dX0_began_10 : decode cX0_began 10 = .ok (.getfield 9, 3) := by decide +kernel
theorem dX0_began_13 : decode cX0_began 13 = .ok (.aload_n 0, 1) := by decide +kernel
theorem dX0_began_14 : decode cX0_began 14 = .ok (.getfield 35, 3) := by decide +kernel
theorem dX0_began_17 : decode cX0_began 17 = .ok (.iload_n 1, 1) := by decide +kernel
theorem dX0_began_18 : decode cX0_began 18 = .ok (.iastore, 1) := by decide +kernel
theorem dX0_began_19 : decode cX0_began 19 = .ok (.aload_n 0, 1) := by decide +kernel
theorem dX0_began_20 : decode cX0_began 20 = .ok (.dup, 1) := by decide +kernel
theorem dX0_began_21 : decode cX0_began 21 = .ok (.getfield 35, 3) := by decide +kernel
theorem dX0_began_24 : decode cX0_began 24 = .ok (.iconst 1, 1) := by decide +kernel
theorem dX0_began_25 : decode cX0_began 25 = .ok (.iadd, 1) := by decide +kernel
theorem dX0_began_26 : decode cX0_began 26 = .ok (.putfield 35, 3) := by decide +kernel
theorem dX0_began_29 : decode cX0_began 29 = .ok (.return_, 1) := by decide +kernel
theorem dX0_rolls_0 : decode cX0_rolls 0 = .ok (.iload_n 1, 1) := by decide +kernel
theorem dX0_rolls_1 : decode cX0_rolls 1 = .ok (.tableswitch 82 2 6 #[35, 82, 50, 35, 64], 35) := by decide +kernel
theorem dX0_rolls_36 : decode cX0_rolls 36 = .ok (.aload_n 0, 1) := by decide +kernel
theorem dX0_rolls_37 : decode cX0_rolls 37 = .ok (.bipush 30, 2) := by decide +kernel
theorem dX0_rolls_39 : decode cX0_rolls 39 = .ok (.invokevirtual 38, 3) := by decide +kernel
theorem dX0_rolls_42 : decode cX0_rolls 42 = .ok (.aload_n 0, 1) := by decide +kernel
theorem dX0_rolls_43 : decode cX0_rolls 43 = .ok (.iconst 0, 1) := by decide +kernel
theorem dX0_rolls_44 : decode cX0_rolls 44 = .ok (.iload_n 2, 1) := by decide +kernel
theorem dX0_rolls_45 : decode cX0_rolls 45 = .ok (.iconst 3, 1) := by decide +kernel
theorem dX0_rolls_46 : decode cX0_rolls 46 = .ok (.imul, 1) := by decide +kernel
theorem dX0_rolls_47 : decode cX0_rolls 47 = .ok (.invokevirtual 25, 3) := by decide +kernel
theorem dX0_rolls_50 : decode cX0_rolls 50 = .ok (.ireturn, 1) := by decide +kernel
theorem dX0_rolls_51 : decode cX0_rolls 51 = .ok (.aload_n 0, 1) := by decide +kernel
theorem dX0_rolls_52 : decode cX0_rolls 52 = .ok (.bipush 50, 2) := by decide +kernel
theorem dX0_rolls_54 : decode cX0_rolls 54 = .ok (.invokevirtual 38, 3) := by decide +kernel
theorem dX0_rolls_57 : decode cX0_rolls 57 = .ok (.aload_n 0, 1) := by decide +kernel
theorem dX0_rolls_58 : decode cX0_rolls 58 = .ok (.iconst 1, 1) := by decide +kernel
theorem dX0_rolls_59 : decode cX0_rolls 59 = .ok (.iload_n 2, 1) := by decide +kernel
theorem dX0_rolls_60 : decode cX0_rolls 60 = .ok (.invokevirtual 25, 3) := by decide +kernel
theorem dX0_rolls_63 : decode cX0_rolls 63 = .ok (.ineg, 1) := by decide +kernel
theorem dX0_rolls_64 : decode cX0_rolls 64 = .ok (.ireturn, 1) := by decide +kernel
theorem dX0_rolls_65 : decode cX0_rolls 65 = .ok (.aload_n 0, 1) := by decide +kernel
theorem dX0_rolls_66 : decode cX0_rolls 66 = .ok (.bipush 71, 2) := by decide +kernel
theorem dX0_rolls_68 : decode cX0_rolls 68 = .ok (.invokevirtual 38, 3) := by decide +kernel
theorem dX0_rolls_71 : decode cX0_rolls 71 = .ok (.aload_n 0, 1) := by decide +kernel
theorem dX0_rolls_72 : decode cX0_rolls 72 = .ok (.iconst 3, 1) := by decide +kernel
theorem dX0_rolls_73 : decode cX0_rolls 73 = .ok (.iload_n 2, 1) := by decide +kernel
theorem dX0_rolls_74 : decode cX0_rolls 74 = .ok (.invokevirtual 25, 3) := by decide +kernel
theorem dX0_rolls_77 : decode cX0_rolls 77 = .ok (.aload_n 0, 1) := by decide +kernel
theorem dX0_rolls_78 : decode cX0_rolls 78 = .ok (.getfield 22, 3) := by decide +kernel
theorem dX0_rolls_81 : decode cX0_rolls 81 = .ok (.ixor, 1) := by decide +kernel
theorem dX0_rolls_82 : decode cX0_rolls 82 = .ok (.ireturn, 1) := by decide +kernel
theorem dX0_rolls_83 : decode cX0_rolls 83 = .ok (.aload_n 0, 1) := by decide +kernel
theorem dX0_rolls_84 : decode cX0_rolls 84 = .ok (.bipush 10, 2) := by decide +kernel
theorem dX0_rolls_86 : decode cX0_rolls 86 = .ok (.invokevirtual 38, 3) := by decide +kernel
theorem dX0_rolls_89 : decode cX0_rolls 89 = .ok (.iload_n 2, 1) := by decide +kernel
theorem dX0_rolls_90 : decode cX0_rolls 90 = .ok (.aload_n 0, 1) := by decide +kernel
theorem dX0_rolls_91 : decode cX0_rolls 91 = .ok (.getfield 15, 3) := by decide +kernel
theorem dX0_rolls_94 : decode cX0_rolls 94 = .ok (.iadd, 1) := by decide +kernel
theorem dX0_rolls_95 : decode cX0_rolls 95 = .ok (.ireturn, 1) := by decide +kernel
theorem dX0_hums_0 : decode cX0_hums 0 = .ok (.iload_n 1, 1) := by decide +kernel
theorem dX0_hums_1 : decode cX0_hums 1 = .ok (.lookupswitch 86 #[(1, 35), (4, 51), (6, 66)], 35) := by decide +kernel
theorem dX0_hums_36 : decode cX0_hums 36 = .ok (.aload_n 0, 1) := by decide +kernel
theorem dX0_hums_37 : decode cX0_hums 37 = .ok (.bipush 20, 2) := by decide +kernel
theorem dX0_hums_39 : decode cX0_hums 39 = .ok (.invokevirtual 38, 3) := by decide +kernel
theorem dX0_hums_42 : decode cX0_hums 42 = .ok (.aload_n 0, 1) := by decide +kernel
theorem dX0_hums_43 : decode cX0_hums 43 = .ok (.iconst 0, 1) := by decide +kernel
theorem dX0_hums_44 : decode cX0_hums 44 = .ok (.iload_n 2, 1) := by decide +kernel
theorem dX0_hums_45 : decode cX0_hums 45 = .ok (.invokevirtual 29, 3) := by decide +kernel
theorem dX0_hums_48 : decode cX0_hums 48 = .ok (.bipush 6, 2) := by decide +kernel
theorem dX0_hums_50 : decode cX0_hums 50 = .ok (.ixor, 1) := by decide +kernel
theorem dX0_hums_51 : decode cX0_hums 51 = .ok (.ireturn, 1) := by decide +kernel
theorem dX0_hums_52 : decode cX0_hums 52 = .ok (.aload_n 0, 1) := by decide +kernel
theorem dX0_hums_53 : decode cX0_hums 53 = .ok (.bipush 51, 2) := by decide +kernel
theorem dX0_hums_55 : decode cX0_hums 55 = .ok (.invokevirtual 38, 3) := by decide +kernel
theorem dX0_hums_58 : decode cX0_hums 58 = .ok (.aload_n 0, 1) := by decide +kernel
theorem dX0_hums_59 : decode cX0_hums 59 = .ok (.iconst 1, 1) := by decide +kernel
theorem dX0_hums_60 : decode cX0_hums 60 = .ok (.iload_n 2, 1) := by decide +kernel
theorem dX0_hums_61 : decode cX0_hums 61 = .ok (.iconst 1, 1) := by decide +kernel
theorem dX0_hums_62 : decode cX0_hums 62 = .ok (.iadd, 1) := by decide +kernel
theorem dX0_hums_63 : decode cX0_hums 63 = .ok (.invokevirtual 29, 3) := by decide +kernel
theorem dX0_hums_66 : decode cX0_hums 66 = .ok (.ireturn, 1) := by decide +kernel
theorem dX0_hums_67 : decode cX0_hums 67 = .ok (.aload_n 0, 1) := by decide +kernel
theorem dX0_hums_68 : decode cX0_hums 68 = .ok (.bipush 70, 2) := by decide +kernel
theorem dX0_hums_70 : decode cX0_hums 70 = .ok (.invokevirtual 38, 3) := by decide +kernel
theorem dX0_hums_73 : decode cX0_hums 73 = .ok (.aload_n 0, 1) := by decide +kernel
theorem dX0_hums_74 : decode cX0_hums 74 = .ok (.iconst 3, 1) := by decide +kernel
theorem dX0_hums_75 : decode cX0_hums 75 = .ok (.iload_n 2, 1) := by decide +kernel
theorem dX0_hums_76 : decode cX0_hums 76 = .ok (.invokevirtual 29, 3) := by decide +kernel
theorem dX0_hums_79 : decode cX0_hums 79 = .ok (.aload_n 0, 1) := by decide +kernel
theorem dX0_hums_80 : decode cX0_hums 80 = .ok (.iconst 3, 1) := by decide +kernel
theorem dX0_hums_81 : decode cX0_hums 81 = .ok (.iconst 2, 1) := by decide +kernel
theorem dX0_hums_82 : decode cX0_hums 82 = .ok (.invokevirtual 25, 3) := by decide +kernel
theorem dX0_hums_85 : decode cX0_hums 85 = .ok (.iadd, 1) := by decide +kernel
theorem dX0_hums_86 : decode cX0_hums 86 = .ok (.ireturn, 1) := by decide +kernel
theorem dX0_hums_87 : decode cX0_hums 87 = .ok (.aload_n 0, 1) := by decide +kernel
theorem dX0_hums_88 : decode cX0_hums 88 = .ok (.bipush 11, 2) := by decide +kernel
theorem dX0_hums_90 : decode cX0_hums 90 = .ok (.invokevirtual 38, 3) := by decide +kernel
theorem dX0_hums_93 : decode cX0_hums 93 = .ok (.aload_n 0, 1) := by decide +kernel
theorem dX0_hums_94 : decode cX0_hums 94 = .ok (.aload_n 0, 1) := by decide +kernel
theorem dX0_hums_95 : decode cX0_hums 95 = .ok (.getfield 19, 3) := by decide +kernel
theorem dX0_hums_98 : decode cX0_hums 98 = .ok (.iload_n 2, 1) := by decide +kernel
theorem dX0_hums_99 : decode cX0_hums 99 = .ok (.invokevirtual 25, 3) := by decide +kernel
theorem dX0_hums_102 : decode cX0_hums 102 = .ok (.aload_n 0, 1) := by decide +kernel
theorem dX0_hums_103 : decode cX0_hums 103 = .ok (.getfield 22, 3) := by decide +kernel
theorem dX0_hums_106 : decode cX0_hums 106 = .ok (.isub, 1) := by decide +kernel
theorem dX0_hums_107 : decode cX0_hums 107 = .ok (.ireturn, 1) := by decide +kernel
theorem dX0_tells_0 : decode cX0_tells 0 = .ok (.iload_n 1, 1) := by decide +kernel
theorem dX0_tells_1 : decode cX0_tells 1 = .ok (.tableswitch 72 3 6 #[31, 72, 54, 31], 31) := by decide +kernel
theorem dX0_tells_32 : decode cX0_tells 32 = .ok (.aload_n 0, 1) := by decide +kernel
theorem dX0_tells_33 : decode cX0_tells 33 = .ok (.bipush 40, 2) := by decide +kernel
theorem dX0_tells_35 : decode cX0_tells 35 = .ok (.invokevirtual 38, 3) := by decide +kernel
theorem dX0_tells_38 : decode cX0_tells 38 = .ok (.aload_n 0, 1) := by decide +kernel
theorem dX0_tells_39 : decode cX0_tells 39 = .ok (.iconst 0, 1) := by decide +kernel
theorem dX0_tells_40 : decode cX0_tells 40 = .ok (.iload_n 2, 1) := by decide +kernel
theorem dX0_tells_41 : decode cX0_tells 41 = .ok (.invokevirtual 32, 3) := by decide +kernel
theorem dX0_tells_44 : decode cX0_tells 44 = .ok (.aload_n 0, 1) := by decide +kernel
theorem dX0_tells_45 : decode cX0_tells 45 = .ok (.aload_n 0, 1) := by decide +kernel
theorem dX0_tells_46 : decode cX0_tells 46 = .ok (.getfield 19, 3) := by decide +kernel
theorem dX0_tells_49 : decode cX0_tells 49 = .ok (.iconst 1, 1) := by decide +kernel
theorem dX0_tells_50 : decode cX0_tells 50 = .ok (.invokevirtual 29, 3) := by decide +kernel
theorem dX0_tells_53 : decode cX0_tells 53 = .ok (.iadd, 1) := by decide +kernel
theorem dX0_tells_54 : decode cX0_tells 54 = .ok (.ireturn, 1) := by decide +kernel
theorem dX0_tells_55 : decode cX0_tells 55 = .ok (.aload_n 0, 1) := by decide +kernel
theorem dX0_tells_56 : decode cX0_tells 56 = .ok (.bipush 60, 2) := by decide +kernel
theorem dX0_tells_58 : decode cX0_tells 58 = .ok (.invokevirtual 38, 3) := by decide +kernel
theorem dX0_tells_61 : decode cX0_tells 61 = .ok (.aload_n 0, 1) := by decide +kernel
theorem dX0_tells_62 : decode cX0_tells 62 = .ok (.iconst 2, 1) := by decide +kernel
theorem dX0_tells_63 : decode cX0_tells 63 = .ok (.iload_n 2, 1) := by decide +kernel
theorem dX0_tells_64 : decode cX0_tells 64 = .ok (.aload_n 0, 1) := by decide +kernel
theorem dX0_tells_65 : decode cX0_tells 65 = .ok (.getfield 15, 3) := by decide +kernel
theorem dX0_tells_68 : decode cX0_tells 68 = .ok (.isub, 1) := by decide +kernel
theorem dX0_tells_69 : decode cX0_tells 69 = .ok (.invokevirtual 32, 3) := by decide +kernel
theorem dX0_tells_72 : decode cX0_tells 72 = .ok (.ireturn, 1) := by decide +kernel
theorem dX0_tells_73 : decode cX0_tells 73 = .ok (.aload_n 0, 1) := by decide +kernel
theorem dX0_tells_74 : decode cX0_tells 74 = .ok (.bipush 12, 2) := by decide +kernel
theorem dX0_tells_76 : decode cX0_tells 76 = .ok (.invokevirtual 38, 3) := by decide +kernel
theorem dX0_tells_79 : decode cX0_tells 79 = .ok (.aload_n 0, 1) := by decide +kernel
theorem dX0_tells_80 : decode cX0_tells 80 = .ok (.aload_n 0, 1) := by decide +kernel
theorem dX0_tells_81 : decode cX0_tells 81 = .ok (.getfield 19, 3) := by decide +kernel
theorem dX0_tells_84 : decode cX0_tells 84 = .ok (.iload_n 2, 1) := by decide +kernel
theorem dX0_tells_85 : decode cX0_tells 85 = .ok (.invokevirtual 29, 3) := by decide +kernel
theorem dX0_tells_88 : decode cX0_tells 88 = .ok (.iconst 2, 1) := by decide +kernel
theorem dX0_tells_89 : decode cX0_tells 89 = .ok (.imul, 1) := by decide +kernel
theorem dX0_tells_90 : decode cX0_tells 90 = .ok (.ireturn, 1) := by decide +kernel
theorem dX1_init_0 : decode cX1_init 0 = .ok (.aload_n 0, 1) := by decide +kernel
theorem dX1_init_1 : decode cX1_init 1 = .ok (.invokespecial 3, 3) := by decide +kernel
theorem dX1_init_4 : decode cX1_init 4 = .ok (.aload_n 0, 1) := by decide +kernel
theorem dX1_init_5 : decode cX1_init 5 = .ok (.bipush 6, 2) := by decide +kernel
theorem dX1_init_7 : decode cX1_init 7 = .ok (.newarray .int, 2) := by decide +kernel
theorem dX1_init_9 : decode cX1_init 9 = .ok (.putfield 9, 3) := by decide +kernel
theorem dX1_init_12 : decode cX1_init 12 = .ok (.aload_n 0, 1) := by decide +kernel
theorem dX1_init_13 : decode cX1_init 13 = .ok (.bipush 6, 2) := by decide +kernel
theorem dX1_init_15 : decode cX1_init 15 = .ok (.newarray .int, 2) := by decide +kernel
theorem dX1_init_17 : decode cX1_init 17 = .ok (.putfield 15, 3) := by decide +kernel
theorem dX1_init_20 : decode cX1_init 20 = .ok (.aload_n 0, 1) := by decide +kernel
theorem dX1_init_21 : decode cX1_init 21 = .ok (.bipush 6, 2) := by decide +kernel
theorem dX1_init_23 : decode cX1_init 23 = .ok (.newarray .int, 2) := by decide +kernel
theorem dX1_init_25 : decode cX1_init 25 = .ok (.putfield 18, 3) := by decide +kernel
theorem dX1_init_28 : decode cX1_init 28 = .ok (.aload_n 0, 1) := by decide +kernel
theorem dX1_init_29 : decode cX1_init 29 = .ok (.bipush 6, 2) := by decide +kernel
theorem dX1_init_31 : decode cX1_init 31 = .ok (.newarray .int, 2) := by decide +kernel
theorem dX1_init_33 : decode cX1_init 33 = .ok (.putfield 21, 3) := by decide +kernel
theorem dX1_init_36 : decode cX1_init 36 = .ok (.aload_n 0, 1) := by decide +kernel
theorem dX1_init_37 : decode cX1_init 37 = .ok (.bipush 24, 2) := by decide +kernel
theorem dX1_init_39 : decode cX1_init 39 = .ok (.newarray .int, 2) := by decide +kernel
theorem dX1_init_41 : decode cX1_init 41 = .ok (.putfield 24, 3) := by decide +kernel
theorem dX1_init_44 : decode cX1_init 44 = .ok (.aload_n 0, 1) := by decide +kernel
theorem dX1_init_45 : decode cX1_init 45 = .ok (.new 27, 3) := by decide +kernel
theorem dX1_init_48 : decode cX1_init 48 = .ok (.dup, 1) := by decide +kernel
theorem dX1_init_49 : decode cX1_init 49 = .ok (.iconst 5, 1) := by decide +kernel
theorem dX1_init_50 : decode cX1_init 50 = .ok (.invokespecial 29, 3) := by decide +kernel
theorem dX1_init_53 : decode cX1_init 53 = .ok (.putfield 32, 3) := by decide +kernel
theorem dX1_init_56 : decode cX1_init 56 = .ok (.aload_n 0, 1) := by decide +kernel
theorem dX1_init_57 : decode cX1_init 57 = .ok (.new 27, 3) := by decide +kernel
theorem dX1_init_60 : decode cX1_init 60 = .ok (.dup, 1) := by decide +kernel
theorem dX1_init_61 : decode cX1_init 61 = .ok (.bipush 10, 2) := by decide +kernel
theorem dX1_init_63 : decode cX1_init 63 = .ok (.invokespecial 29, 3) := by decide +kernel
theorem dX1_init_66 : decode cX1_init 66 = .ok (.putfield 36, 3) := by decide +kernel
theorem dX1_init_69 : decode cX1_init 69 = .ok (.aload_n 0, 1) := by decide +kernel
theorem dX1_init_70 : decode cX1_init 70 = .ok (.new 27, 3) := by decide +kernel
theorem dX1_init_73 : decode cX1_init 73 = .ok (.dup, 1) := by decide +kernel
theorem dX1_init_74 : decode cX1_init 74 = .ok (.bipush 8, 2) := by decide +kernel
theorem dX1_init_76 : decode cX1_init 76 = .ok (.invokespecial 29, 3) := by decide +kernel
theorem dX1_init_79 : decode cX1_init 79 = .ok (.putfield 39, 3) := by decide +kernel
theorem dX1_init_82 : decode cX1_init 82 = .ok (.aload_n 0, 1) := by decide +kernel
theorem dX1_init_83 : decode cX1_init 83 = .ok (.bipush 6, 2) := by decide +kernel
theorem dX1_init_85 : decode cX1_init 85 = .ok (.newarray .int, 2) := by decide +kernel
theorem dX1_init_87 : decode cX1_init 87 = .ok (.putfield 42, 3) := by decide +kernel
theorem dX1_init_90 : decode cX1_init 90 = .ok (.return_, 1) := by decide +kernel
theorem dX1_has_0 : decode cX1_has 0 = .ok (.iload_n 1, 1) := by decide +kernel
theorem dX1_has_1 : decode cX1_has 1 = .ok (.ifCond .lt 15, 3) := by decide +kernel
theorem dX1_has_4 : decode cX1_has 4 = .ok (.iload_n 1, 1) := by decide +kernel
theorem dX1_has_5 : decode cX1_has 5 = .ok (.aload_n 0, 1) := by decide +kernel
theorem dX1_has_6 : decode cX1_has 6 = .ok (.getfield 45, 3) := by decide +kernel
theorem dX1_has_9 : decode cX1_has 9 = .ok (.if_icmp .ge 7, 3) := by decide +kernel
theorem dX1_has_12 : decode cX1_has 12 = .ok (.iconst 1, 1) := by decide +kernel
theorem dX1_has_13 : decode cX1_has 13 = .ok (.goto 4, 3) := by decide +kernel
theorem dX1_has_16 : decode cX1_has 16 = .ok (.iconst 0, 1) := by decide +kernel
theorem dX1_has_17 : decode cX1_has 17 = .ok (.ireturn, 1) := by decide +kernel
theorem dX1_isUp_0 : decode cX1_isUp 0 = .ok (.aload_n 0, 1) := by decide +kernel
theorem dX1_isUp_1 : decode cX1_isUp 1 = .ok (.getfield 49, 3) := by decide +kernel
theorem dX1_isUp_4 : decode cX1_isUp 4 = .ok (.iload_n 1, 1) := by decide +kernel
theorem dX1_isUp_5 : decode cX1_isUp 5 = .ok (.ishr, 1) := by decide +kernel
theorem dX1_isUp_6 : decode cX1_isUp 6 = .ok (.iconst 1, 1) := by decide +kernel
theorem dX1_isUp_7 : decode cX1_isUp 7 = .ok (.iand, 1) := by decide +kernel
theorem dX1_isUp_8 : decode cX1_isUp 8 = .ok (.ifCond .eq 7, 3) := by decide +kernel
theorem dX1_isUp_11 : decode cX1_isUp 11 = .ok (.iconst 1, 1) := by decide +kernel
theorem dX1_isUp_12 : decode cX1_isUp 12 = .ok (.goto 4, 3) := by decide +kernel
theorem dX1_isUp_15 : decode cX1_isUp 15 = .ok (.iconst 0, 1) := by decide +kernel
theorem dX1_isUp_16 : decode cX1_isUp 16 = .ok (.ireturn, 1) := by decide +kernel
theorem dX1_all_0 : decode cX1_all 0 = .ok (.iconst 1, 1) := by decide +kernel
theorem dX1_all_1 : decode cX1_all 1 = .ok (.aload_n 0, 1) := by decide +kernel
theorem dX1_all_2 : decode cX1_all 2 = .ok (.getfield 45, 3) := by decide +kernel
theorem dX1_all_5 : decode cX1_all 5 = .ok (.ishl, 1) := by decide +kernel
theorem dX1_all_6 : decode cX1_all 6 = .ok (.iconst 1, 1) := by decide +kernel
theorem dX1_all_7 : decode cX1_all 7 = .ok (.isub, 1) := by decide +kernel
theorem dX1_all_8 : decode cX1_all 8 = .ok (.ireturn, 1) := by decide +kernel
theorem dX1_add_0 : decode cX1_add 0 = .ok (.aload_n 0, 1) := by decide +kernel
theorem dX1_add_1 : decode cX1_add 1 = .ok (.getfield 45, 3) := by decide +kernel
theorem dX1_add_4 : decode cX1_add 4 = .ok (.istore 4, 2) := by decide +kernel
theorem dX1_add_6 : decode cX1_add 6 = .ok (.aload_n 0, 1) := by decide +kernel
theorem dX1_add_7 : decode cX1_add 7 = .ok (.getfield 9, 3) := by decide +kernel
theorem dX1_add_10 : decode cX1_add 10 = .ok (.iload 4, 2) := by decide +kernel
theorem dX1_add_12 : decode cX1_add 12 = .ok (.iload_n 1, 1) := by decide +kernel
theorem dX1_add_13 : decode cX1_add 13 = .ok (.iastore, 1) := by decide +kernel
theorem dX1_add_14 : decode cX1_add 14 = .ok (.aload_n 0, 1) := by decide +kernel
theorem dX1_add_15 : decode cX1_add 15 = .ok (.getfield 15, 3) := by decide +kernel
theorem dX1_add_18 : decode cX1_add 18 = .ok (.iload 4, 2) := by decide +kernel
theorem dX1_add_20 : decode cX1_add 20 = .ok (.iload_n 2, 1) := by decide +kernel
theorem dX1_add_21 : decode cX1_add 21 = .ok (.iastore, 1) := by decide +kernel
theorem dX1_add_22 : decode cX1_add 22 = .ok (.aload_n 0, 1) := by decide +kernel
theorem dX1_add_23 : decode cX1_add 23 = .ok (.getfield 18, 3) := by decide +kernel
theorem dX1_add_26 : decode cX1_add 26 = .ok (.iload 4, 2) := by decide +kernel
theorem dX1_add_28 : decode cX1_add 28 = .ok (.iload_n 3, 1) := by decide +kernel
theorem dX1_add_29 : decode cX1_add 29 = .ok (.iastore, 1) := by decide +kernel
theorem dX1_add_30 : decode cX1_add 30 = .ok (.aload_n 0, 1) := by decide +kernel
theorem dX1_add_31 : decode cX1_add 31 = .ok (.getfield 21, 3) := by decide +kernel
theorem dX1_add_34 : decode cX1_add 34 = .ok (.iload 4, 2) := by decide +kernel
theorem dX1_add_36 : decode cX1_add 36 = .ok (.iconst 0, 1) := by decide +kernel
theorem dX1_add_37 : decode cX1_add 37 = .ok (.iastore, 1) := by decide +kernel
theorem dX1_add_38 : decode cX1_add 38 = .ok (.aload_n 0, 1) := by decide +kernel
theorem dX1_add_39 : decode cX1_add 39 = .ok (.iload 4, 2) := by decide +kernel
theorem dX1_add_41 : decode cX1_add 41 = .ok (.iconst 0, 1) := by decide +kernel
theorem dX1_add_42 : decode cX1_add 42 = .ok (.invokevirtual 52, 3) := by decide +kernel
theorem dX1_add_45 : decode cX1_add 45 = .ok (.iconst 0, 1) := by decide +kernel
theorem dX1_add_46 : decode cX1_add 46 = .ok (.istore 5, 2) := by decide +kernel
theorem dX1_add_48 : decode cX1_add 48 = .ok (.iload 5, 2) := by decide +kernel
theorem dX1_add_50 : decode cX1_add 50 = .ok (.iconst 4, 1) := by decide +kernel
theorem dX1_add_51 : decode cX1_add 51 = .ok (.if_icmp .ge 22, 3) := by decide +kernel
theorem dX1_add_54 : decode cX1_add 54 = .ok (.aload_n 0, 1) := by decide +kernel
theorem dX1_add_55 : decode cX1_add 55 = .ok (.getfield 24, 3) := by decide +kernel
theorem dX1_add_58 : decode cX1_add 58 = .ok (.iload 4, 2) := by decide +kernel
theorem dX1_add_60 : decode cX1_add 60 = .ok (.iconst 4, 1) := by decide +kernel
theorem dX1_add_61 : decode cX1_add 61 = .ok (.imul, 1) := by decide +kernel
theorem dX1_add_62 : decode cX1_add 62 = .ok (.iload 5, 2) := by decide +kernel
theorem dX1_add_64 : decode cX1_add 64 = .ok (.iadd, 1) := by decide +kernel
theorem dX1_add_65 : decode cX1_add 65 = .ok (.iconst 0, 1) := by decide +kernel
theorem dX1_add_66 : decode cX1_add 66 = .ok (.iastore, 1) := by decide +kernel
theorem dX1_add_67 : decode cX1_add 67 = .ok (.iinc 5 1, 3) := by decide +kernel
theorem dX1_add_70 : decode cX1_add 70 = .ok (.goto (-22), 3) := by decide +kernel
theorem dX1_add_73 : decode cX1_add 73 = .ok (.aload_n 0, 1) := by decide +kernel
theorem dX1_add_74 : decode cX1_add 74 = .ok (.dup, 1) := by decide +kernel
theorem dX1_add_75 : decode cX1_add 75 = .ok (.getfield 45, 3) := by decide +kernel
theorem dX1_add_78 : decode cX1_add 78 = .ok (.iconst 1, 1) := by decide +kernel
theorem dX1_add_79 : decode cX1_add 79 = .ok (.iadd, 1) := by decide +kernel
theorem dX1_add_80 : decode cX1_add 80 = .ok (.putfield 45, 3) := by decide +kernel
theorem dX1_add_83 : decode cX1_add 83 = .ok (.iload 4, 2) := by decide +kernel
theorem dX1_add_85 : decode cX1_add 85 = .ok (.ireturn, 1) := by decide +kernel
theorem dX1_put_0 : decode cX1_put 0 = .ok (.aload_n 0, 1) := by decide +kernel
theorem dX1_put_1 : decode cX1_put 1 = .ok (.iload_n 2, 1) := by decide +kernel
theorem dX1_put_2 : decode cX1_put 2 = .ok (.ifCond .eq 14, 3) := by decide +kernel
theorem dX1_put_5 : decode cX1_put 5 = .ok (.aload_n 0, 1) := by decide +kernel
theorem dX1_put_6 : decode cX1_put 6 = .ok (.getfield 49, 3) := by decide +kernel
theorem dX1_put_9 : decode cX1_put 9 = .ok (.iconst 1, 1) := by decide +kernel
theorem dX1_put_10 : decode cX1_put 10 = .ok (.iload_n 1, 1) := by decide +kernel
theorem dX1_put_11 : decode cX1_put 11 = .ok (.ishl, 1) := by decide +kernel
theorem dX1_put_12 : decode cX1_put 12 = .ok (.ior, 1) := by decide +kernel
theorem dX1_put_13 : decode cX1_put 13 = .ok (.goto 13, 3) := by decide +kernel
theorem dX1_put_16 : decode cX1_put 16 = .ok (.aload_n 0, 1) := by decide +kernel
theorem dX1_put_17 : decode cX1_put 17 = .ok (.getfield 49, 3) := by decide +kernel
theorem dX1_put_20 : decode cX1_put 20 = .ok (.iconst 1, 1) := by decide +kernel
theorem dX1_put_21 : decode cX1_put 21 = .ok (.iload_n 1, 1) := by decide +kernel
theorem dX1_put_22 : decode cX1_put 22 = .ok (.ishl, 1) := by decide +kernel
theorem dX1_put_23 : decode cX1_put 23 = .ok (.iconst (-1), 1) := by decide +kernel
theorem dX1_put_24 : decode cX1_put 24 = .ok (.ixor, 1) := by decide +kernel
theorem dX1_put_25 : decode cX1_put 25 = .ok (.iand, 1) := by decide +kernel
theorem dX1_put_26 : decode cX1_put 26 = .ok (.putfield 49, 3) := by decide +kernel
theorem dX1_put_29 : decode cX1_put 29 = .ok (.return_, 1) := by decide +kernel
theorem dX1_calm_0 : decode cX1_calm 0 = .ok (.aload_n 0, 1) := by decide +kernel
theorem dX1_calm_1 : decode cX1_calm 1 = .ok (.getfield 56, 3) := by decide +kernel
theorem dX1_calm_4 : decode cX1_calm 4 = .ok (.ifnonnull 8, 3) := by decide +kernel
theorem dX1_calm_7 : decode cX1_calm 7 = .ok (.bipush 10, 2) := by decide +kernel
theorem dX1_calm_9 : decode cX1_calm 9 = .ok (.goto 10, 3) := by decide +kernel
theorem dX1_calm_12 : decode cX1_calm 12 = .ok (.aload_n 0, 1) := by decide +kernel
theorem dX1_calm_13 : decode cX1_calm 13 = .ok (.getfield 56, 3) := by decide +kernel
theorem dX1_calm_16 : decode cX1_calm 16 = .ok (.getfield 60, 3) := by decide +kernel
theorem dX1_calm_19 : decode cX1_calm 19 = .ok (.ireturn, 1) := by decide +kernel
theorem dX1_noise_0 : decode cX1_noise 0 = .ok (.aload_n 0, 1) := by decide +kernel
theorem dX1_noise_1 : decode cX1_noise 1 = .ok (.getfield 56, 3) := by decide +kernel
theorem dX1_noise_4 : decode cX1_noise 4 = .ok (.ifnonnull 7, 3) := by decide +kernel
theorem dX1_noise_7 : decode cX1_noise 7 = .ok (.iconst 0, 1) := by decide +kernel
theorem dX1_noise_8 : decode cX1_noise 8 = .ok (.goto 15, 3) := by decide +kernel
theorem dX1_noise_11 : decode cX1_noise 11 = .ok (.aload_n 0, 1) := by decide +kernel
theorem dX1_noise_12 : decode cX1_noise 12 = .ok (.getfield 56, 3) := by decide +kernel
theorem dX1_noise_15 : decode cX1_noise 15 = .ok (.aload_n 0, 1) := by decide +kernel
theorem dX1_noise_16 : decode cX1_noise 16 = .ok (.iload_n 1, 1) := by decide +kernel
theorem dX1_noise_17 : decode cX1_noise 17 = .ok (.invokevirtual 65, 3) := by decide +kernel
theorem dX1_noise_20 : decode cX1_noise 20 = .ok (.invokevirtual 69, 3) := by decide +kernel
theorem dX1_noise_23 : decode cX1_noise 23 = .ok (.aload_n 0, 1) := by decide +kernel
theorem dX1_noise_24 : decode cX1_noise 24 = .ok (.getfield 18, 3) := by decide +kernel
theorem dX1_noise_27 : decode cX1_noise 27 = .ok (.iload_n 1, 1) := by decide +kernel
theorem dX1_noise_28 : decode cX1_noise 28 = .ok (.iaload, 1) := by decide +kernel
theorem dX1_noise_29 : decode cX1_noise 29 = .ok (.iconst 4, 1) := by decide +kernel
theorem dX1_noise_30 : decode cX1_noise 30 = .ok (.idiv, 1) := by decide +kernel
theorem dX1_noise_31 : decode cX1_noise 31 = .ok (.isub, 1) := by decide +kernel
theorem dX1_noise_32 : decode cX1_noise 32 = .ok (.istore_n 2, 1) := by decide +kernel
theorem dX1_noise_33 : decode cX1_noise 33 = .ok (.aload_n 0, 1) := by decide +kernel
theorem dX1_noise_34 : decode cX1_noise 34 = .ok (.getfield 73, 3) := by decide +kernel
theorem dX1_noise_37 : decode cX1_noise 37 = .ok (.bipush 7, 2) := by decide +kernel
theorem dX1_noise_39 : decode cX1_noise 39 = .ok (.irem, 1) := by decide +kernel
theorem dX1_noise_40 : decode cX1_noise 40 = .ok (.ifCond .ne 7, 3) := by decide +kernel
theorem dX1_noise_43 : decode cX1_noise 43 = .ok (.iconst 0, 1) := by decide +kernel
theorem dX1_noise_44 : decode cX1_noise 44 = .ok (.goto 4, 3) := by decide +kernel
theorem dX1_noise_47 : decode cX1_noise 47 = .ok (.iload_n 2, 1) := by decide +kernel
theorem dX1_noise_48 : decode cX1_noise 48 = .ok (.istore_n 3, 1) := by decide +kernel
theorem dX1_noise_49 : decode cX1_noise 49 = .ok (.iload_n 2, 1) := by decide +kernel
theorem dX1_noise_50 : decode cX1_noise 50 = .ok (.iconst 2, 1) := by decide +kernel
theorem dX1_noise_51 : decode cX1_noise 51 = .ok (.idiv, 1) := by decide +kernel
theorem dX1_noise_52 : decode cX1_noise 52 = .ok (.iconst 3, 1) := by decide +kernel
theorem dX1_noise_53 : decode cX1_noise 53 = .ok (.iadd, 1) := by decide +kernel
theorem dX1_noise_54 : decode cX1_noise 54 = .ok (.istore 4, 2) := by decide +kernel
theorem dX1_noise_56 : decode cX1_noise 56 = .ok (.aload_n 0, 1) := by decide +kernel
theorem dX1_noise_57 : decode cX1_noise 57 = .ok (.getfield 9, 3) := by decide +kernel
theorem dX1_noise_60 : decode cX1_noise 60 = .ok (.iload_n 1, 1) := by decide +kernel
theorem dX1_noise_61 : decode cX1_noise 61 = .ok (.iaload, 1) := by decide +kernel
theorem dX1_noise_62 : decode cX1_noise 62 = .ok (.tableswitch 109 1 6 #[38, 47, 50, 52, 73, 91], 38) := by decide +kernel
theorem dX1_noise_100 : decode cX1_noise 100 = .ok (.iload_n 2, 1) := by decide +kernel
theorem dX1_noise_101 : decode cX1_noise 101 = .ok (.aload_n 0, 1) := by decide +kernel
theorem dX1_noise_102 : decode cX1_noise 102 = .ok (.getfield 15, 3) := by decide +kernel
theorem dX1_noise_105 : decode cX1_noise 105 = .ok (.iload_n 1, 1) := by decide +kernel
theorem dX1_noise_106 : decode cX1_noise 106 = .ok (.iaload, 1) := by decide +kernel
theorem dX1_noise_107 : decode cX1_noise 107 = .ok (.iadd, 1) := by decide +kernel
theorem dX1_noise_108 : decode cX1_noise 108 = .ok (.ireturn, 1) := by decide +kernel
theorem dX1_noise_109 : decode cX1_noise 109 = .ok (.iload 4, 2) := by decide +kernel
theorem dX1_noise_111 : decode cX1_noise 111 = .ok (.ireturn, 1) := by decide +kernel
theorem dX1_noise_112 : decode cX1_noise 112 = .ok (.iload_n 3, 1) := by decide +kernel
theorem dX1_noise_113 : decode cX1_noise 113 = .ok (.ireturn, 1) := by decide +kernel
theorem dX1_noise_114 : decode cX1_noise 114 = .ok (.iload_n 2, 1) := by decide +kernel
theorem dX1_noise_115 : decode cX1_noise 115 = .ok (.aload_n 0, 1) := by decide +kernel
theorem dX1_noise_116 : decode cX1_noise 116 = .ok (.getfield 15, 3) := by decide +kernel
theorem dX1_noise_119 : decode cX1_noise 119 = .ok (.iload_n 1, 1) := by decide +kernel
theorem dX1_noise_120 : decode cX1_noise 120 = .ok (.iaload, 1) := by decide +kernel
theorem dX1_noise_121 : decode cX1_noise 121 = .ok (.iadd, 1) := by decide +kernel
theorem dX1_noise_122 : decode cX1_noise 122 = .ok (.aload_n 0, 1) := by decide +kernel
theorem dX1_noise_123 : decode cX1_noise 123 = .ok (.getfield 21, 3) := by decide +kernel
theorem dX1_noise_126 : decode cX1_noise 126 = .ok (.iload_n 1, 1) := by decide +kernel
theorem dX1_noise_127 : decode cX1_noise 127 = .ok (.iaload, 1) := by decide +kernel
theorem dX1_noise_128 : decode cX1_noise 128 = .ok (.bipush 9, 2) := by decide +kernel
theorem dX1_noise_130 : decode cX1_noise 130 = .ok (.invokestatic 76, 3) := by decide +kernel
theorem dX1_noise_133 : decode cX1_noise 133 = .ok (.isub, 1) := by decide +kernel
theorem dX1_noise_134 : decode cX1_noise 134 = .ok (.ireturn, 1) := by decide +kernel
theorem dX1_noise_135 : decode cX1_noise 135 = .ok (.aload_n 0, 1) := by decide +kernel
theorem dX1_noise_136 : decode cX1_noise 136 = .ok (.iload_n 1, 1) := by decide +kernel
theorem dX1_noise_137 : decode cX1_noise 137 = .ok (.invokevirtual 82, 3) := by decide +kernel
theorem dX1_noise_140 : decode cX1_noise 140 = .ok (.ifCond .eq 10, 3) := by decide +kernel
theorem dX1_noise_143 : decode cX1_noise 143 = .ok (.iload 4, 2) := by decide +kernel
theorem dX1_noise_145 : decode cX1_noise 145 = .ok (.iconst 2, 1) := by decide +kernel
theorem dX1_noise_146 : decode cX1_noise 146 = .ok (.imul, 1) := by decide +kernel
theorem dX1_noise_147 : decode cX1_noise 147 = .ok (.goto 5, 3) := by decide +kernel
theorem dX1_noise_150 : decode cX1_noise 150 = .ok (.iload 4, 2) := by decide +kernel
theorem dX1_noise_152 : decode cX1_noise 152 = .ok (.ireturn, 1) := by decide +kernel
theorem dX1_noise_153 : decode cX1_noise 153 = .ok (.iload_n 3, 1) := by decide +kernel
theorem dX1_noise_154 : decode cX1_noise 154 = .ok (.aload_n 0, 1) := by decide +kernel
theorem dX1_noise_155 : decode cX1_noise 155 = .ok (.getfield 24, 3) := by decide +kernel
theorem dX1_noise_158 : decode cX1_noise 158 = .ok (.iload_n 1, 1) := by decide +kernel
theorem dX1_noise_159 : decode cX1_noise 159 = .ok (.iconst 4, 1) := by decide +kernel
theorem dX1_noise_160 : decode cX1_noise 160 = .ok (.imul, 1) := by decide +kernel
theorem dX1_noise_161 : decode cX1_noise 161 = .ok (.aload_n 0, 1) := by decide +kernel
theorem dX1_noise_162 : decode cX1_noise 162 = .ok (.getfield 73, 3) := by decide +kernel
theorem dX1_noise_165 : decode cX1_noise 165 = .ok (.iconst 4, 1) := by decide +kernel
theorem dX1_noise_166 : decode cX1_noise 166 = .ok (.irem, 1) := by decide +kernel
theorem dX1_noise_167 : decode cX1_noise 167 = .ok (.iadd, 1) := by decide +kernel
theorem dX1_noise_168 : decode cX1_noise 168 = .ok (.iaload, 1) := by decide +kernel
theorem dX1_noise_169 : decode cX1_noise 169 = .ok (.iadd, 1) := by decide +kernel
theorem dX1_noise_170 : decode cX1_noise 170 = .ok (.ireturn, 1) := by decide +kernel
theorem dX1_noise_171 : decode cX1_noise 171 = .ok (.iload_n 2, 1) := by decide +kernel
theorem dX1_noise_172 : decode cX1_noise 172 = .ok (.ireturn, 1) := by decide +kernel
theorem dX1_isDancingWith_0 : decode cX1_isDancingWith 0 = .ok (.iconst 0, 1) := by decide +kernel
theorem dX1_isDancingWith_1 : decode cX1_isDancingWith 1 = .ok (.istore_n 2, 1) := by decide +kernel
theorem dX1_isDancingWith_2 : decode cX1_isDancingWith 2 = .ok (.iload_n 2, 1) := by decide +kernel
theorem dX1_isDancingWith_3 : decode cX1_isDancingWith 3 = .ok (.aload_n 0, 1) := by decide +kernel
theorem dX1_isDancingWith_4 : decode cX1_isDancingWith 4 = .ok (.getfield 45, 3) := by decide +kernel
theorem dX1_isDancingWith_7 : decode cX1_isDancingWith 7 = .ok (.if_icmp .ge 34, 3) := by decide +kernel
theorem dX1_isDancingWith_10 : decode cX1_isDancingWith 10 = .ok (.iload_n 2, 1) := by decide +kernel
theorem dX1_isDancingWith_11 : decode cX1_isDancingWith 11 = .ok (.iload_n 1, 1) := by decide +kernel
theorem dX1_isDancingWith_12 : decode cX1_isDancingWith 12 = .ok (.if_icmp .eq 23, 3) := by decide +kernel
theorem dX1_isDancingWith_15 : decode cX1_isDancingWith 15 = .ok (.aload_n 0, 1) := by decide +kernel
theorem dX1_isDancingWith_16 : decode cX1_isDancingWith 16 = .ok (.getfield 9, 3) := by decide +kernel
theorem dX1_isDancingWith_19 : decode cX1_isDancingWith 19 = .ok (.iload_n 2, 1) := by decide +kernel
theorem dX1_isDancingWith_20 : decode cX1_isDancingWith 20 = .ok (.iaload, 1) := by decide +kernel
theorem dX1_isDancingWith_21 : decode cX1_isDancingWith 21 = .ok (.iconst 5, 1) := by decide +kernel
theorem dX1_isDancingWith_22 : decode cX1_isDancingWith 22 = .ok (.if_icmp .ne 13, 3) := by decide +kernel
theorem dX1_isDancingWith_25 : decode cX1_isDancingWith 25 = .ok (.aload_n 0, 1) := by decide +kernel
theorem dX1_isDancingWith_26 : decode cX1_isDancingWith 26 = .ok (.iload_n 2, 1) := by decide +kernel
theorem dX1_isDancingWith_27 : decode cX1_isDancingWith 27 = .ok (.invokevirtual 86, 3) := by decide +kernel
theorem dX1_isDancingWith_30 : decode cX1_isDancingWith 30 = .ok (.ifCond .ne 5, 3) := by decide +kernel
theorem dX1_isDancingWith_33 : decode cX1_isDancingWith 33 = .ok (.iconst 1, 1) := by decide +kernel
theorem dX1_isDancingWith_34 : decode cX1_isDancingWith 34 = .ok (.ireturn, 1) := by decide +kernel
theorem dX1_isDancingWith_35 : decode cX1_isDancingWith 35 = .ok (.iinc 2 1, 3) := by decide +kernel
theorem dX1_isDancingWith_38 : decode cX1_isDancingWith 38 = .ok (.goto (-36), 3) := by decide +kernel
theorem dX1_isDancingWith_41 : decode cX1_isDancingWith 41 = .ok (.iconst 0, 1) := by decide +kernel
theorem dX1_isDancingWith_42 : decode cX1_isDancingWith 42 = .ok (.ireturn, 1) := by decide +kernel
theorem dX1_valuesOf_0 : decode cX1_valuesOf 0 = .ok (.aload_n 0, 1) := by decide +kernel
theorem dX1_valuesOf_1 : decode cX1_valuesOf 1 = .ok (.getfield 42, 3) := by decide +kernel
theorem dX1_valuesOf_4 : decode cX1_valuesOf 4 = .ok (.iconst 0, 1) := by decide +kernel
theorem dX1_valuesOf_5 : decode cX1_valuesOf 5 = .ok (.iload_n 1, 1) := by decide +kernel
theorem dX1_valuesOf_6 : decode cX1_valuesOf 6 = .ok (.iastore, 1) := by decide +kernel
theorem dX1_valuesOf_7 : decode cX1_valuesOf 7 = .ok (.aload_n 0, 1) := by decide +kernel
theorem dX1_valuesOf_8 : decode cX1_valuesOf 8 = .ok (.getfield 42, 3) := by decide +kernel
theorem dX1_valuesOf_11 : decode cX1_valuesOf 11 = .ok (.iconst 1, 1) := by decide +kernel
theorem dX1_valuesOf_12 : decode cX1_valuesOf 12 = .ok (.aload_n 0, 1) := by decide +kernel
theorem dX1_valuesOf_13 : decode cX1_valuesOf 13 = .ok (.getfield 9, 3) := by decide +kernel
theorem dX1_valuesOf_16 : decode cX1_valuesOf 16 = .ok (.iload_n 1, 1) := by decide +kernel
theorem dX1_valuesOf_17 : decode cX1_valuesOf 17 = .ok (.iaload, 1) := by decide +kernel
theorem dX1_valuesOf_18 : decode cX1_valuesOf 18 = .ok (.iastore, 1) := by decide +kernel
theorem dX1_valuesOf_19 : decode cX1_valuesOf 19 = .ok (.aload_n 0, 1) := by decide +kernel
theorem dX1_valuesOf_20 : decode cX1_valuesOf 20 = .ok (.getfield 42, 3) := by decide +kernel
theorem dX1_valuesOf_23 : decode cX1_valuesOf 23 = .ok (.iconst 2, 1) := by decide +kernel
theorem dX1_valuesOf_24 : decode cX1_valuesOf 24 = .ok (.aload_n 0, 1) := by decide +kernel
theorem dX1_valuesOf_25 : decode cX1_valuesOf 25 = .ok (.getfield 15, 3) := by decide +kernel
theorem dX1_valuesOf_28 : decode cX1_valuesOf 28 = .ok (.iload_n 1, 1) := by decide +kernel
theorem dX1_valuesOf_29 : decode cX1_valuesOf 29 = .ok (.iaload, 1) := by decide +kernel
theorem dX1_valuesOf_30 : decode cX1_valuesOf 30 = .ok (.iastore, 1) := by decide +kernel
theorem dX1_valuesOf_31 : decode cX1_valuesOf 31 = .ok (.aload_n 0, 1) := by decide +kernel
theorem dX1_valuesOf_32 : decode cX1_valuesOf 32 = .ok (.getfield 42, 3) := by decide +kernel
theorem dX1_valuesOf_35 : decode cX1_valuesOf 35 = .ok (.iconst 3, 1) := by decide +kernel
theorem dX1_valuesOf_36 : decode cX1_valuesOf 36 = .ok (.aload_n 0, 1) := by decide +kernel
theorem dX1_valuesOf_37 : decode cX1_valuesOf 37 = .ok (.getfield 18, 3) := by decide +kernel
theorem dX1_valuesOf_40 : decode cX1_valuesOf 40 = .ok (.iload_n 1, 1) := by decide +kernel
theorem dX1_valuesOf_41 : decode cX1_valuesOf 41 = .ok (.iaload, 1) := by decide +kernel
theorem dX1_valuesOf_42 : decode cX1_valuesOf 42 = .ok (.iastore, 1) := by decide +kernel
theorem dX1_valuesOf_43 : decode cX1_valuesOf 43 = .ok (.aload_n 0, 1) := by decide +kernel
theorem dX1_valuesOf_44 : decode cX1_valuesOf 44 = .ok (.getfield 42, 3) := by decide +kernel
theorem dX1_valuesOf_47 : decode cX1_valuesOf 47 = .ok (.iconst 4, 1) := by decide +kernel
theorem dX1_valuesOf_48 : decode cX1_valuesOf 48 = .ok (.aload_n 0, 1) := by decide +kernel
theorem dX1_valuesOf_49 : decode cX1_valuesOf 49 = .ok (.getfield 21, 3) := by decide +kernel
theorem dX1_valuesOf_52 : decode cX1_valuesOf 52 = .ok (.iload_n 1, 1) := by decide +kernel
theorem dX1_valuesOf_53 : decode cX1_valuesOf 53 = .ok (.iaload, 1) := by decide +kernel
theorem dX1_valuesOf_54 : decode cX1_valuesOf 54 = .ok (.bipush 10, 2) := by decide +kernel
theorem dX1_valuesOf_56 : decode cX1_valuesOf 56 = .ok (.irem, 1) := by decide +kernel
theorem dX1_valuesOf_57 : decode cX1_valuesOf 57 = .ok (.iastore, 1) := by decide +kernel
theorem dX1_valuesOf_58 : decode cX1_valuesOf 58 = .ok (.aload_n 0, 1) := by decide +kernel
theorem dX1_valuesOf_59 : decode cX1_valuesOf 59 = .ok (.getfield 42, 3) := by decide +kernel
theorem dX1_valuesOf_62 : decode cX1_valuesOf 62 = .ok (.iconst 5, 1) := by decide +kernel
theorem dX1_valuesOf_63 : decode cX1_valuesOf 63 = .ok (.aload_n 0, 1) := by decide +kernel
theorem dX1_valuesOf_64 : decode cX1_valuesOf 64 = .ok (.getfield 73, 3) := by decide +kernel
theorem dX1_valuesOf_67 : decode cX1_valuesOf 67 = .ok (.bipush 7, 2) := by decide +kernel
theorem dX1_valuesOf_69 : decode cX1_valuesOf 69 = .ok (.irem, 1) := by decide +kernel
theorem dX1_valuesOf_70 : decode cX1_valuesOf 70 = .ok (.iastore, 1) := by decide +kernel
theorem dX1_valuesOf_71 : decode cX1_valuesOf 71 = .ok (.aload_n 0, 1) := by decide +kernel
theorem dX1_valuesOf_72 : decode cX1_valuesOf 72 = .ok (.getfield 42, 3) := by decide +kernel
theorem dX1_valuesOf_75 : decode cX1_valuesOf 75 = .ok (.areturn, 1) := by decide +kernel
theorem dX1_sound_0 : decode cX1_sound 0 = .ok (.iconst 0, 1) := by decide +kernel
theorem dX1_sound_1 : decode cX1_sound 1 = .ok (.istore_n 1, 1) := by decide +kernel
theorem dX1_sound_2 : decode cX1_sound 2 = .ok (.iconst 0, 1) := by decide +kernel
theorem dX1_sound_3 : decode cX1_sound 3 = .ok (.istore_n 2, 1) := by decide +kernel
theorem dX1_sound_4 : decode cX1_sound 4 = .ok (.iload_n 2, 1) := by decide +kernel
theorem dX1_sound_5 : decode cX1_sound 5 = .ok (.aload_n 0, 1) := by decide +kernel
theorem dX1_sound_6 : decode cX1_sound 6 = .ok (.getfield 45, 3) := by decide +kernel
theorem dX1_sound_9 : decode cX1_sound 9 = .ok (.if_icmp .ge 29, 3) := by decide +kernel
theorem dX1_sound_12 : decode cX1_sound 12 = .ok (.aload_n 0, 1) := by decide +kernel
theorem dX1_sound_13 : decode cX1_sound 13 = .ok (.iload_n 2, 1) := by decide +kernel
theorem dX1_sound_14 : decode cX1_sound 14 = .ok (.invokevirtual 86, 3) := by decide +kernel
theorem dX1_sound_17 : decode cX1_sound 17 = .ok (.ifCond .ne 15, 3) := by decide +kernel
theorem dX1_sound_20 : decode cX1_sound 20 = .ok (.iload_n 1, 1) := by decide +kernel
theorem dX1_sound_21 : decode cX1_sound 21 = .ok (.iconst 0, 1) := by decide +kernel
theorem dX1_sound_22 : decode cX1_sound 22 = .ok (.aload_n 0, 1) := by decide +kernel
theorem dX1_sound_23 : decode cX1_sound 23 = .ok (.iload_n 2, 1) := by decide +kernel
theorem dX1_sound_24 : decode cX1_sound 24 = .ok (.invokevirtual 89, 3) := by decide +kernel
theorem dX1_sound_27 : decode cX1_sound 27 = .ok (.invokestatic 93, 3) := by decide +kernel
theorem dX1_sound_30 : decode cX1_sound 30 = .ok (.iadd, 1) := by decide +kernel
theorem dX1_sound_31 : decode cX1_sound 31 = .ok (.istore_n 1, 1) := by decide +kernel
theorem dX1_sound_32 : decode cX1_sound 32 = .ok (.iinc 2 1, 3) := by decide +kernel
theorem dX1_sound_35 : decode cX1_sound 35 = .ok (.goto (-31), 3) := by decide +kernel
theorem dX1_sound_38 : decode cX1_sound 38 = .ok (.iload_n 1, 1) := by decide +kernel
theorem dX1_sound_39 : decode cX1_sound 39 = .ok (.ireturn, 1) := by decide +kernel
theorem dX1_passDays_0 : decode cX1_passDays 0 = .ok (.iconst 0, 1) := by decide +kernel
theorem dX1_passDays_1 : decode cX1_passDays 1 = .ok (.istore_n 3, 1) := by decide +kernel
theorem dX1_passDays_2 : decode cX1_passDays 2 = .ok (.iload_n 3, 1) := by decide +kernel
theorem dX1_passDays_3 : decode cX1_passDays 3 = .ok (.iload_n 1, 1) := by decide +kernel
theorem dX1_passDays_4 : decode cX1_passDays 4 = .ok (.if_icmp .ge 18, 3) := by decide +kernel
theorem dX1_passDays_7 : decode cX1_passDays 7 = .ok (.aload_n 0, 1) := by decide +kernel
theorem dX1_passDays_8 : decode cX1_passDays 8 = .ok (.aload_n 0, 1) := by decide +kernel
theorem dX1_passDays_9 : decode cX1_passDays 9 = .ok (.invokevirtual 96, 3) := by decide +kernel
theorem dX1_passDays_12 : decode cX1_passDays 12 = .ok (.iload_n 2, 1) := by decide +kernel
theorem dX1_passDays_13 : decode cX1_passDays 13 = .ok (.invokevirtual 100, 3) := by decide +kernel
theorem dX1_passDays_16 : decode cX1_passDays 16 = .ok (.iinc 3 1, 3) := by decide +kernel
theorem dX1_passDays_19 : decode cX1_passDays 19 = .ok (.goto (-17), 3) := by decide +kernel
theorem dX1_passDays_22 : decode cX1_passDays 22 = .ok (.return_, 1) := by decide +kernel
theorem dX1_passDay_0 : decode cX1_passDay 0 = .ok (.iload_n 1, 1) := by decide +kernel
theorem dX1_passDay_1 : decode cX1_passDay 1 = .ok (.ifCond .ne 31, 3) := by decide +kernel
theorem dX1_passDay_4 : decode cX1_passDay 4 = .ok (.aload_n 0, 1) := by decide +kernel
theorem dX1_passDay_5 : decode cX1_passDay 5 = .ok (.aload_n 0, 1) := by decide +kernel
theorem dX1_passDay_6 : decode cX1_passDay 6 = .ok (.getfield 104, 3) := by decide +kernel
theorem dX1_passDay_9 : decode cX1_passDay 9 = .ok (.iconst 1, 1) := by decide +kernel
theorem dX1_passDay_10 : decode cX1_passDay 10 = .ok (.iadd, 1) := by decide +kernel
theorem dX1_passDay_11 : decode cX1_passDay 11 = .ok (.iload_n 2, 1) := by decide +kernel
theorem dX1_passDay_12 : decode cX1_passDay 12 = .ok (.invokestatic 76, 3) := by decide +kernel
theorem dX1_passDay_15 : decode cX1_passDay 15 = .ok (.putfield 104, 3) := by decide +kernel
theorem dX1_passDay_18 : decode cX1_passDay 18 = .ok (.aload_n 0, 1) := by decide +kernel
theorem dX1_passDay_19 : decode cX1_passDay 19 = .ok (.dup, 1) := by decide +kernel
theorem dX1_passDay_20 : decode cX1_passDay 20 = .ok (.getfield 107, 3) := by decide +kernel
theorem dX1_passDay_23 : decode cX1_passDay 23 = .ok (.bipush 50, 2) := by decide +kernel
theorem dX1_passDay_25 : decode cX1_passDay 25 = .ok (.iadd, 1) := by decide +kernel
theorem dX1_passDay_26 : decode cX1_passDay 26 = .ok (.putfield 107, 3) := by decide +kernel
theorem dX1_passDay_29 : decode cX1_passDay 29 = .ok (.goto 22, 3) := by decide +kernel
theorem dX1_passDay_32 : decode cX1_passDay 32 = .ok (.aload_n 0, 1) := by decide +kernel
theorem dX1_passDay_33 : decode cX1_passDay 33 = .ok (.iconst 0, 1) := by decide +kernel
theorem dX1_passDay_34 : decode cX1_passDay 34 = .ok (.aload_n 0, 1) := by decide +kernel
theorem dX1_passDay_35 : decode cX1_passDay 35 = .ok (.getfield 107, 3) := by decide +kernel
theorem dX1_passDay_38 : decode cX1_passDay 38 = .ok (.iload_n 1, 1) := by decide +kernel
theorem dX1_passDay_39 : decode cX1_passDay 39 = .ok (.iadd, 1) := by decide +kernel
theorem dX1_passDay_40 : decode cX1_passDay 40 = .ok (.aload_n 0, 1) := by decide +kernel
theorem dX1_passDay_41 : decode cX1_passDay 41 = .ok (.invokevirtual 110, 3) := by decide +kernel
theorem dX1_passDay_44 : decode cX1_passDay 44 = .ok (.isub, 1) := by decide +kernel
theorem dX1_passDay_45 : decode cX1_passDay 45 = .ok (.invokestatic 93, 3) := by decide +kernel
theorem dX1_passDay_48 : decode cX1_passDay 48 = .ok (.putfield 107, 3) := by decide +kernel
theorem dX1_passDay_51 : decode cX1_passDay 51 = .ok (.aload_n 0, 1) := by decide +kernel
theorem dX1_passDay_52 : decode cX1_passDay 52 = .ok (.aload_n 0, 1) := by decide +kernel
theorem dX1_passDay_53 : decode cX1_passDay 53 = .ok (.getfield 107, 3) := by decide +kernel
theorem dX1_passDay_56 : decode cX1_passDay 56 = .ok (.sipush 9999, 3) := by decide +kernel
theorem dX1_passDay_59 : decode cX1_passDay 59 = .ok (.invokestatic 76, 3) := by decide +kernel
theorem dX1_passDay_62 : decode cX1_passDay 62 = .ok (.putfield 107, 3) := by decide +kernel
theorem dX1_passDay_65 : decode cX1_passDay 65 = .ok (.aload_n 0, 1) := by decide +kernel
theorem dX1_passDay_66 : decode cX1_passDay 66 = .ok (.getfield 107, 3) := by decide +kernel
theorem dX1_passDay_69 : decode cX1_passDay 69 = .ok (.bipush 100, 2) := by decide +kernel
theorem dX1_passDay_71 : decode cX1_passDay 71 = .ok (.if_icmp .lt 27, 3) := by decide +kernel
theorem dX1_passDay_74 : decode cX1_passDay 74 = .ok (.aload_n 0, 1) := by decide +kernel
theorem dX1_passDay_75 : decode cX1_passDay 75 = .ok (.aload_n 0, 1) := by decide +kernel
theorem dX1_passDay_76 : decode cX1_passDay 76 = .ok (.getfield 112, 3) := by decide +kernel
theorem dX1_passDay_79 : decode cX1_passDay 79 = .ok (.iconst 1, 1) := by decide +kernel
theorem dX1_passDay_80 : decode cX1_passDay 80 = .ok (.iadd, 1) := by decide +kernel
theorem dX1_passDay_81 : decode cX1_passDay 81 = .ok (.iload_n 2, 1) := by decide +kernel
theorem dX1_passDay_82 : decode cX1_passDay 82 = .ok (.invokestatic 76, 3) := by decide +kernel
theorem dX1_passDay_85 : decode cX1_passDay 85 = .ok (.putfield 112, 3) := by decide +kernel
theorem dX1_passDay_88 : decode cX1_passDay 88 = .ok (.aload_n 0, 1) := by decide +kernel
theorem dX1_passDay_89 : decode cX1_passDay 89 = .ok (.dup, 1) := by decide +kernel
theorem dX1_passDay_90 : decode cX1_passDay 90 = .ok (.getfield 107, 3) := by decide +kernel
theorem dX1_passDay_93 : decode cX1_passDay 93 = .ok (.iconst 2, 1) := by decide +kernel
theorem dX1_passDay_94 : decode cX1_passDay 94 = .ok (.idiv, 1) := by decide +kernel
theorem dX1_passDay_95 : decode cX1_passDay 95 = .ok (.putfield 107, 3) := by decide +kernel
theorem dX1_passDay_98 : decode cX1_passDay 98 = .ok (.iconst 0, 1) := by decide +kernel
theorem dX1_passDay_99 : decode cX1_passDay 99 = .ok (.istore_n 3, 1) := by decide +kernel
theorem dX1_passDay_100 : decode cX1_passDay 100 = .ok (.iload_n 3, 1) := by decide +kernel
theorem dX1_passDay_101 : decode cX1_passDay 101 = .ok (.aload_n 0, 1) := by decide +kernel
theorem dX1_passDay_102 : decode cX1_passDay 102 = .ok (.getfield 45, 3) := by decide +kernel
theorem dX1_passDay_105 : decode cX1_passDay 105 = .ok (.if_icmp .ge 39, 3) := by decide +kernel
theorem dX1_passDay_108 : decode cX1_passDay 108 = .ok (.aload_n 0, 1) := by decide +kernel
theorem dX1_passDay_109 : decode cX1_passDay 109 = .ok (.getfield 21, 3) := by decide +kernel
theorem dX1_passDay_112 : decode cX1_passDay 112 = .ok (.iload_n 3, 1) := by decide +kernel
theorem dX1_passDay_113 : decode cX1_passDay 113 = .ok (.aload_n 0, 1) := by decide +kernel
theorem dX1_passDay_114 : decode cX1_passDay 114 = .ok (.iload_n 3, 1) := by decide +kernel
theorem dX1_passDay_115 : decode cX1_passDay 115 = .ok (.invokevirtual 86, 3) := by decide +kernel
theorem dX1_passDay_118 : decode cX1_passDay 118 = .ok (.ifCond .eq 7, 3) := by decide +kernel
theorem dX1_passDay_121 : decode cX1_passDay 121 = .ok (.iconst 0, 1) := by decide +kernel
theorem dX1_passDay_122 : decode cX1_passDay 122 = .ok (.goto 15, 3) := by decide +kernel
theorem dX1_passDay_125 : decode cX1_passDay 125 = .ok (.aload_n 0, 1) := by decide +kernel
theorem dX1_passDay_126 : decode cX1_passDay 126 = .ok (.getfield 21, 3) := by decide +kernel
theorem dX1_passDay_129 : decode cX1_passDay 129 = .ok (.iload_n 3, 1) := by decide +kernel
theorem dX1_passDay_130 : decode cX1_passDay 130 = .ok (.iaload, 1) := by decide +kernel
theorem dX1_passDay_131 : decode cX1_passDay 131 = .ok (.iconst 1, 1) := by decide +kernel
theorem dX1_passDay_132 : decode cX1_passDay 132 = .ok (.iadd, 1) := by decide +kernel
theorem dX1_passDay_133 : decode cX1_passDay 133 = .ok (.iload_n 2, 1) := by decide +kernel
theorem dX1_passDay_134 : decode cX1_passDay 134 = .ok (.invokestatic 76, 3) := by decide +kernel
theorem dX1_passDay_137 : decode cX1_passDay 137 = .ok (.iastore, 1) := by decide +kernel
theorem dX1_passDay_138 : decode cX1_passDay 138 = .ok (.iinc 3 1, 3) := by decide +kernel
theorem dX1_passDay_141 : decode cX1_passDay 141 = .ok (.goto (-41), 3) := by decide +kernel
theorem dX1_passDay_144 : decode cX1_passDay 144 = .ok (.aload_n 0, 1) := by decide +kernel
theorem dX1_passDay_145 : decode cX1_passDay 145 = .ok (.dup, 1) := by decide +kernel
theorem dX1_passDay_146 : decode cX1_passDay 146 = .ok (.getfield 73, 3) := by decide +kernel
theorem dX1_passDay_149 : decode cX1_passDay 149 = .ok (.iconst 1, 1) := by decide +kernel
theorem dX1_passDay_150 : decode cX1_passDay 150 = .ok (.iadd, 1) := by decide +kernel
theorem dX1_passDay_151 : decode cX1_passDay 151 = .ok (.putfield 73, 3) := by decide +kernel
theorem dX1_passDay_154 : decode cX1_passDay 154 = .ok (.return_, 1) := by decide +kernel
theorem dX1_copyDays_0 : decode cX1_copyDays 0 = .ok (.aload_n 0, 1) := by decide +kernel
theorem dX1_copyDays_1 : decode cX1_copyDays 1 = .ok (.aload_n 1, 1) := by decide +kernel
theorem dX1_copyDays_2 : decode cX1_copyDays 2 = .ok (.getfield 45, 3) := by decide +kernel
theorem dX1_copyDays_5 : decode cX1_copyDays 5 = .ok (.putfield 45, 3) := by decide +kernel
theorem dX1_copyDays_8 : decode cX1_copyDays 8 = .ok (.aload_n 0, 1) := by decide +kernel
theorem dX1_copyDays_9 : decode cX1_copyDays 9 = .ok (.aload_n 1, 1) := by decide +kernel
theorem dX1_copyDays_10 : decode cX1_copyDays 10 = .ok (.getfield 49, 3) := by decide +kernel
theorem dX1_copyDays_13 : decode cX1_copyDays 13 = .ok (.putfield 49, 3) := by decide +kernel
theorem dX1_copyDays_16 : decode cX1_copyDays 16 = .ok (.aload_n 0, 1) := by decide +kernel
theorem dX1_copyDays_17 : decode cX1_copyDays 17 = .ok (.aload_n 1, 1) := by decide +kernel
theorem dX1_copyDays_18 : decode cX1_copyDays 18 = .ok (.getfield 107, 3) := by decide +kernel
theorem dX1_copyDays_21 : decode cX1_copyDays 21 = .ok (.putfield 107, 3) := by decide +kernel
theorem dX1_copyDays_24 : decode cX1_copyDays 24 = .ok (.aload_n 0, 1) := by decide +kernel
theorem dX1_copyDays_25 : decode cX1_copyDays 25 = .ok (.aload_n 1, 1) := by decide +kernel
theorem dX1_copyDays_26 : decode cX1_copyDays 26 = .ok (.getfield 112, 3) := by decide +kernel
theorem dX1_copyDays_29 : decode cX1_copyDays 29 = .ok (.putfield 112, 3) := by decide +kernel
theorem dX1_copyDays_32 : decode cX1_copyDays 32 = .ok (.aload_n 0, 1) := by decide +kernel
theorem dX1_copyDays_33 : decode cX1_copyDays 33 = .ok (.aload_n 1, 1) := by decide +kernel
theorem dX1_copyDays_34 : decode cX1_copyDays 34 = .ok (.getfield 104, 3) := by decide +kernel
theorem dX1_copyDays_37 : decode cX1_copyDays 37 = .ok (.putfield 104, 3) := by decide +kernel
theorem dX1_copyDays_40 : decode cX1_copyDays 40 = .ok (.aload_n 0, 1) := by decide +kernel
theorem dX1_copyDays_41 : decode cX1_copyDays 41 = .ok (.aload_n 1, 1) := by decide +kernel
theorem dX1_copyDays_42 : decode cX1_copyDays 42 = .ok (.getfield 73, 3) := by decide +kernel
theorem dX1_copyDays_45 : decode cX1_copyDays 45 = .ok (.putfield 73, 3) := by decide +kernel
theorem dX1_copyDays_48 : decode cX1_copyDays 48 = .ok (.aload_n 0, 1) := by decide +kernel
theorem dX1_copyDays_49 : decode cX1_copyDays 49 = .ok (.aload_n 1, 1) := by decide +kernel
theorem dX1_copyDays_50 : decode cX1_copyDays 50 = .ok (.getfield 56, 3) := by decide +kernel
theorem dX1_copyDays_53 : decode cX1_copyDays 53 = .ok (.putfield 56, 3) := by decide +kernel
theorem dX1_copyDays_56 : decode cX1_copyDays 56 = .ok (.aload_n 1, 1) := by decide +kernel
theorem dX1_copyDays_57 : decode cX1_copyDays 57 = .ok (.getfield 9, 3) := by decide +kernel
theorem dX1_copyDays_60 : decode cX1_copyDays 60 = .ok (.iconst 0, 1) := by decide +kernel
theorem dX1_copyDays_61 : decode cX1_copyDays 61 = .ok (.aload_n 0, 1) := by decide +kernel
theorem dX1_copyDays_62 : decode cX1_copyDays 62 = .ok (.getfield 9, 3) := by decide +kernel
theorem dX1_copyDays_65 : decode cX1_copyDays 65 = .ok (.iconst 0, 1) := by decide +kernel
theorem dX1_copyDays_66 : decode cX1_copyDays 66 = .ok (.bipush 6, 2) := by decide +kernel
theorem dX1_copyDays_68 : decode cX1_copyDays 68 = .ok (.invokestatic 115, 3) := by decide +kernel
theorem dX1_copyDays_71 : decode cX1_copyDays 71 = .ok (.aload_n 1, 1) := by decide +kernel
theorem dX1_copyDays_72 : decode cX1_copyDays 72 = .ok (.getfield 15, 3) := by decide +kernel
theorem dX1_copyDays_75 : decode cX1_copyDays 75 = .ok (.iconst 0, 1) := by decide +kernel
theorem dX1_copyDays_76 : decode cX1_copyDays 76 = .ok (.aload_n 0, 1) := by decide +kernel
theorem dX1_copyDays_77 : decode cX1_copyDays 77 = .ok (.getfield 15, 3) := by decide +kernel
theorem dX1_copyDays_80 : decode cX1_copyDays 80 = .ok (.iconst 0, 1) := by decide +kernel
theorem dX1_copyDays_81 : decode cX1_copyDays 81 = .ok (.bipush 6, 2) := by decide +kernel
theorem dX1_copyDays_83 : decode cX1_copyDays 83 = .ok (.invokestatic 115, 3) := by decide +kernel
theorem dX1_copyDays_86 : decode cX1_copyDays 86 = .ok (.aload_n 1, 1) := by decide +kernel
theorem dX1_copyDays_87 : decode cX1_copyDays 87 = .ok (.getfield 18, 3) := by decide +kernel
theorem dX1_copyDays_90 : decode cX1_copyDays 90 = .ok (.iconst 0, 1) := by decide +kernel
theorem dX1_copyDays_91 : decode cX1_copyDays 91 = .ok (.aload_n 0, 1) := by decide +kernel
theorem dX1_copyDays_92 : decode cX1_copyDays 92 = .ok (.getfield 18, 3) := by decide +kernel
theorem dX1_copyDays_95 : decode cX1_copyDays 95 = .ok (.iconst 0, 1) := by decide +kernel
theorem dX1_copyDays_96 : decode cX1_copyDays 96 = .ok (.bipush 6, 2) := by decide +kernel
theorem dX1_copyDays_98 : decode cX1_copyDays 98 = .ok (.invokestatic 115, 3) := by decide +kernel
theorem dX1_copyDays_101 : decode cX1_copyDays 101 = .ok (.aload_n 1, 1) := by decide +kernel
theorem dX1_copyDays_102 : decode cX1_copyDays 102 = .ok (.getfield 21, 3) := by decide +kernel
theorem dX1_copyDays_105 : decode cX1_copyDays 105 = .ok (.iconst 0, 1) := by decide +kernel
theorem dX1_copyDays_106 : decode cX1_copyDays 106 = .ok (.aload_n 0, 1) := by decide +kernel
theorem dX1_copyDays_107 : decode cX1_copyDays 107 = .ok (.getfield 21, 3) := by decide +kernel
theorem dX1_copyDays_110 : decode cX1_copyDays 110 = .ok (.iconst 0, 1) := by decide +kernel
theorem dX1_copyDays_111 : decode cX1_copyDays 111 = .ok (.bipush 6, 2) := by decide +kernel
theorem dX1_copyDays_113 : decode cX1_copyDays 113 = .ok (.invokestatic 115, 3) := by decide +kernel
theorem dX1_copyDays_116 : decode cX1_copyDays 116 = .ok (.aload_n 1, 1) := by decide +kernel
theorem dX1_copyDays_117 : decode cX1_copyDays 117 = .ok (.getfield 24, 3) := by decide +kernel
theorem dX1_copyDays_120 : decode cX1_copyDays 120 = .ok (.iconst 0, 1) := by decide +kernel
theorem dX1_copyDays_121 : decode cX1_copyDays 121 = .ok (.aload_n 0, 1) := by decide +kernel
theorem dX1_copyDays_122 : decode cX1_copyDays 122 = .ok (.getfield 24, 3) := by decide +kernel
theorem dX1_copyDays_125 : decode cX1_copyDays 125 = .ok (.iconst 0, 1) := by decide +kernel
theorem dX1_copyDays_126 : decode cX1_copyDays 126 = .ok (.bipush 24, 2) := by decide +kernel
theorem dX1_copyDays_128 : decode cX1_copyDays 128 = .ok (.invokestatic 115, 3) := by decide +kernel
theorem dX1_copyDays_131 : decode cX1_copyDays 131 = .ok (.return_, 1) := by decide +kernel
theorem dX1_copyAll_0 : decode cX1_copyAll 0 = .ok (.aload_n 0, 1) := by decide +kernel
theorem dX1_copyAll_1 : decode cX1_copyAll 1 = .ok (.aload_n 1, 1) := by decide +kernel
theorem dX1_copyAll_2 : decode cX1_copyAll 2 = .ok (.invokevirtual 121, 3) := by decide +kernel
theorem dX1_copyAll_5 : decode cX1_copyAll 5 = .ok (.aload_n 0, 1) := by decide +kernel
theorem dX1_copyAll_6 : decode cX1_copyAll 6 = .ok (.getfield 32, 3) := by decide +kernel
theorem dX1_copyAll_9 : decode cX1_copyAll 9 = .ok (.aload_n 1, 1) := by decide +kernel
theorem dX1_copyAll_10 : decode cX1_copyAll 10 = .ok (.getfield 32, 3) := by decide +kernel
theorem dX1_copyAll_13 : decode cX1_copyAll 13 = .ok (.invokevirtual 125, 3) := by decide +kernel
theorem dX1_copyAll_16 : decode cX1_copyAll 16 = .ok (.aload_n 0, 1) := by decide +kernel
theorem dX1_copyAll_17 : decode cX1_copyAll 17 = .ok (.getfield 36, 3) := by decide +kernel
theorem dX1_copyAll_20 : decode cX1_copyAll 20 = .ok (.aload_n 1, 1) := by decide +kernel
theorem dX1_copyAll_21 : decode cX1_copyAll 21 = .ok (.getfield 36, 3) := by decide +kernel
theorem dX1_copyAll_24 : decode cX1_copyAll 24 = .ok (.invokevirtual 125, 3) := by decide +kernel
theorem dX1_copyAll_27 : decode cX1_copyAll 27 = .ok (.aload_n 0, 1) := by decide +kernel
theorem dX1_copyAll_28 : decode cX1_copyAll 28 = .ok (.getfield 39, 3) := by decide +kernel
theorem dX1_copyAll_31 : decode cX1_copyAll 31 = .ok (.aload_n 1, 1) := by decide +kernel
theorem dX1_copyAll_32 : decode cX1_copyAll 32 = .ok (.getfield 39, 3) := by decide +kernel
theorem dX1_copyAll_35 : decode cX1_copyAll 35 = .ok (.invokevirtual 125, 3) := by decide +kernel
theorem dX1_copyAll_38 : decode cX1_copyAll 38 = .ok (.return_, 1) := by decide +kernel
theorem dX2_init_0 : decode cX2_init 0 = .ok (.aload_n 0, 1) := by decide +kernel
theorem dX2_init_1 : decode cX2_init 1 = .ok (.invokespecial 3, 3) := by decide +kernel
theorem dX2_init_4 : decode cX2_init 4 = .ok (.aload_n 0, 1) := by decide +kernel
theorem dX2_init_5 : decode cX2_init 5 = .ok (.bipush 10, 2) := by decide +kernel
theorem dX2_init_7 : decode cX2_init 7 = .ok (.newarray .int, 2) := by decide +kernel
theorem dX2_init_9 : decode cX2_init 9 = .ok (.putfield 9, 3) := by decide +kernel
theorem dX2_init_12 : decode cX2_init 12 = .ok (.aload_n 0, 1) := by decide +kernel
theorem dX2_init_13 : decode cX2_init 13 = .ok (.bipush 10, 2) := by decide +kernel
theorem dX2_init_15 : decode cX2_init 15 = .ok (.newarray .int, 2) := by decide +kernel
theorem dX2_init_17 : decode cX2_init 17 = .ok (.putfield 15, 3) := by decide +kernel
theorem dX2_init_20 : decode cX2_init 20 = .ok (.aload_n 0, 1) := by decide +kernel
theorem dX2_init_21 : decode cX2_init 21 = .ok (.bipush 10, 2) := by decide +kernel
theorem dX2_init_23 : decode cX2_init 23 = .ok (.newarray .int, 2) := by decide +kernel
theorem dX2_init_25 : decode cX2_init 25 = .ok (.putfield 18, 3) := by decide +kernel
theorem dX2_init_28 : decode cX2_init 28 = .ok (.aload_n 0, 1) := by decide +kernel
theorem dX2_init_29 : decode cX2_init 29 = .ok (.bipush 100, 2) := by decide +kernel
theorem dX2_init_31 : decode cX2_init 31 = .ok (.newarray .int, 2) := by decide +kernel
theorem dX2_init_33 : decode cX2_init 33 = .ok (.putfield 21, 3) := by decide +kernel
theorem dX2_init_36 : decode cX2_init 36 = .ok (.aload_n 0, 1) := by decide +kernel
theorem dX2_init_37 : decode cX2_init 37 = .ok (.bipush 100, 2) := by decide +kernel
theorem dX2_init_39 : decode cX2_init 39 = .ok (.newarray .int, 2) := by decide +kernel
theorem dX2_init_41 : decode cX2_init 41 = .ok (.putfield 24, 3) := by decide +kernel
theorem dX2_init_44 : decode cX2_init 44 = .ok (.aload_n 0, 1) := by decide +kernel
theorem dX2_init_45 : decode cX2_init 45 = .ok (.bipush 100, 2) := by decide +kernel
theorem dX2_init_47 : decode cX2_init 47 = .ok (.newarray .int, 2) := by decide +kernel
theorem dX2_init_49 : decode cX2_init 49 = .ok (.putfield 27, 3) := by decide +kernel
theorem dX2_init_52 : decode cX2_init 52 = .ok (.return_, 1) := by decide +kernel
theorem dX2_clear_0 : decode cX2_clear 0 = .ok (.aload_n 0, 1) := by decide +kernel
theorem dX2_clear_1 : decode cX2_clear 1 = .ok (.bipush 10, 2) := by decide +kernel
theorem dX2_clear_3 : decode cX2_clear 3 = .ok (.putfield 30, 3) := by decide +kernel
theorem dX2_clear_6 : decode cX2_clear 6 = .ok (.aload_n 0, 1) := by decide +kernel
theorem dX2_clear_7 : decode cX2_clear 7 = .ok (.iconst 0, 1) := by decide +kernel
theorem dX2_clear_8 : decode cX2_clear 8 = .ok (.putfield 34, 3) := by decide +kernel
theorem dX2_clear_11 : decode cX2_clear 11 = .ok (.aload_n 0, 1) := by decide +kernel
theorem dX2_clear_12 : decode cX2_clear 12 = .ok (.iconst 0, 1) := by decide +kernel
theorem dX2_clear_13 : decode cX2_clear 13 = .ok (.putfield 37, 3) := by decide +kernel
theorem dX2_clear_16 : decode cX2_clear 16 = .ok (.return_, 1) := by decide +kernel
theorem dX2_addTest_0 : decode cX2_addTest 0 = .ok (.aload_n 0, 1) := by decide +kernel
theorem dX2_addTest_1 : decode cX2_addTest 1 = .ok (.iload_n 1, 1) := by decide +kernel
theorem dX2_addTest_2 : decode cX2_addTest 2 = .ok (.invokevirtual 40, 3) := by decide +kernel
theorem dX2_addTest_5 : decode cX2_addTest 5 = .ok (.ifCond .ne 5, 3) := by decide +kernel
theorem dX2_addTest_8 : decode cX2_addTest 8 = .ok (.iconst 0, 1) := by decide +kernel
theorem dX2_addTest_9 : decode cX2_addTest 9 = .ok (.ireturn, 1) := by decide +kernel
theorem dX2_addTest_10 : decode cX2_addTest 10 = .ok (.aload_n 0, 1) := by decide +kernel
theorem dX2_addTest_11 : decode cX2_addTest 11 = .ok (.getfield 24, 3) := by decide +kernel
theorem dX2_addTest_14 : decode cX2_addTest 14 = .ok (.aload_n 0, 1) := by decide +kernel
theorem dX2_addTest_15 : decode cX2_addTest 15 = .ok (.getfield 37, 3) := by decide +kernel
theorem dX2_addTest_18 : decode cX2_addTest 18 = .ok (.iconst 1, 1) := by decide +kernel
theorem dX2_addTest_19 : decode cX2_addTest 19 = .ok (.isub, 1) := by decide +kernel
theorem dX2_addTest_20 : decode cX2_addTest 20 = .ok (.iload_n 2, 1) := by decide +kernel
theorem dX2_addTest_21 : decode cX2_addTest 21 = .ok (.bipush 60, 2) := by decide +kernel
theorem dX2_addTest_23 : decode cX2_addTest 23 = .ok (.if_icmp .ne 7, 3) := by decide +kernel
theorem dX2_addTest_26 : decode cX2_addTest 26 = .ok (.iconst 0, 1) := by decide +kernel
theorem dX2_addTest_27 : decode cX2_addTest 27 = .ok (.goto 16, 3) := by decide +kernel
theorem dX2_addTest_30 : decode cX2_addTest 30 = .ok (.iload_n 2, 1) := by decide +kernel
theorem dX2_addTest_31 : decode cX2_addTest 31 = .ok (.bipush 62, 2) := by decide +kernel
theorem dX2_addTest_33 : decode cX2_addTest 33 = .ok (.if_icmp .ne 9, 3) := by decide +kernel
theorem dX2_addTest_36 : decode cX2_addTest 36 = .ok (.iload_n 3, 1) := by decide +kernel
theorem dX2_addTest_37 : decode cX2_addTest 37 = .ok (.iconst 1, 1) := by decide +kernel
theorem dX2_addTest_38 : decode cX2_addTest 38 = .ok (.iadd, 1) := by decide +kernel
theorem dX2_addTest_39 : decode cX2_addTest 39 = .ok (.goto 4, 3) := by decide +kernel
theorem dX2_addTest_42 : decode cX2_addTest 42 = .ok (.iload_n 3, 1) := by decide +kernel
theorem dX2_addTest_43 : decode cX2_addTest 43 = .ok (.iastore, 1) := by decide +kernel
theorem dX2_addTest_44 : decode cX2_addTest 44 = .ok (.aload_n 0, 1) := by decide +kernel
theorem dX2_addTest_45 : decode cX2_addTest 45 = .ok (.getfield 27, 3) := by decide +kernel
theorem dX2_addTest_48 : decode cX2_addTest 48 = .ok (.aload_n 0, 1) := by decide +kernel
theorem dX2_addTest_49 : decode cX2_addTest 49 = .ok (.getfield 37, 3) := by decide +kernel
theorem dX2_addTest_52 : decode cX2_addTest 52 = .ok (.iconst 1, 1) := by decide +kernel
theorem dX2_addTest_53 : decode cX2_addTest 53 = .ok (.isub, 1) := by decide +kernel
theorem dX2_addTest_54 : decode cX2_addTest 54 = .ok (.iload_n 2, 1) := by decide +kernel
theorem dX2_addTest_55 : decode cX2_addTest 55 = .ok (.bipush 62, 2) := by decide +kernel
theorem dX2_addTest_57 : decode cX2_addTest 57 = .ok (.if_icmp .ne 9, 3) := by decide +kernel
theorem dX2_addTest_60 : decode cX2_addTest 60 = .ok (.sipush 9999, 3) := by decide +kernel
theorem dX2_addTest_63 : decode cX2_addTest 63 = .ok (.goto 16, 3) := by decide +kernel
theorem dX2_addTest_66 : decode cX2_addTest 66 = .ok (.iload_n 2, 1) := by decide +kernel
theorem dX2_addTest_67 : decode cX2_addTest 67 = .ok (.bipush 60, 2) := by decide +kernel
theorem dX2_addTest_69 : decode cX2_addTest 69 = .ok (.if_icmp .ne 9, 3) := by decide +kernel
theorem dX2_addTest_72 : decode cX2_addTest 72 = .ok (.iload_n 3, 1) := by decide +kernel
theorem dX2_addTest_73 : decode cX2_addTest 73 = .ok (.iconst 1, 1) := by decide +kernel
theorem dX2_addTest_74 : decode cX2_addTest 74 = .ok (.isub, 1) := by decide +kernel
theorem dX2_addTest_75 : decode cX2_addTest 75 = .ok (.goto 4, 3) := by decide +kernel
theorem dX2_addTest_78 : decode cX2_addTest 78 = .ok (.iload_n 3, 1) := by decide +kernel
theorem dX2_addTest_79 : decode cX2_addTest 79 = .ok (.iastore, 1) := by decide +kernel
theorem dX2_addTest_80 : decode cX2_addTest 80 = .ok (.iconst 1, 1) := by decide +kernel
theorem dX2_addTest_81 : decode cX2_addTest 81 = .ok (.ireturn, 1) := by decide +kernel
theorem dX2_addStep_0 : decode cX2_addStep 0 = .ok (.aload_n 0, 1) := by decide +kernel
theorem dX2_addStep_1 : decode cX2_addStep 1 = .ok (.getfield 37, 3) := by decide +kernel
theorem dX2_addStep_4 : decode cX2_addStep 4 = .ok (.bipush 100, 2) := by decide +kernel
theorem dX2_addStep_6 : decode cX2_addStep 6 = .ok (.if_icmp .lt 5, 3) := by decide +kernel
theorem dX2_addStep_9 : decode cX2_addStep 9 = .ok (.iconst 0, 1) := by decide +kernel
theorem dX2_addStep_10 : decode cX2_addStep 10 = .ok (.ireturn, 1) := by decide +kernel
theorem dX2_addStep_11 : decode cX2_addStep 11 = .ok (.aload_n 0, 1) := by decide +kernel
theorem dX2_addStep_12 : decode cX2_addStep 12 = .ok (.getfield 21, 3) := by decide +kernel
theorem dX2_addStep_15 : decode cX2_addStep 15 = .ok (.aload_n 0, 1) := by decide +kernel
theorem dX2_addStep_16 : decode cX2_addStep 16 = .ok (.getfield 37, 3) := by decide +kernel
theorem dX2_addStep_19 : decode cX2_addStep 19 = .ok (.iload_n 1, 1) := by decide +kernel
theorem dX2_addStep_20 : decode cX2_addStep 20 = .ok (.iastore, 1) := by decide +kernel
theorem dX2_addStep_21 : decode cX2_addStep 21 = .ok (.aload_n 0, 1) := by decide +kernel
theorem dX2_addStep_22 : decode cX2_addStep 22 = .ok (.dup, 1) := by decide +kernel
theorem dX2_addStep_23 : decode cX2_addStep 23 = .ok (.getfield 37, 3) := by decide +kernel
theorem dX2_addStep_26 : decode cX2_addStep 26 = .ok (.iconst 1, 1) := by decide +kernel
theorem dX2_addStep_27 : decode cX2_addStep 27 = .ok (.iadd, 1) := by decide +kernel
theorem dX2_addStep_28 : decode cX2_addStep 28 = .ok (.putfield 37, 3) := by decide +kernel
theorem dX2_addStep_31 : decode cX2_addStep 31 = .ok (.iconst 1, 1) := by decide +kernel
theorem dX2_addStep_32 : decode cX2_addStep 32 = .ok (.ireturn, 1) := by decide +kernel
theorem dX2_addClause_0 : decode cX2_addClause 0 = .ok (.aload_n 0, 1) := by decide +kernel
theorem dX2_addClause_1 : decode cX2_addClause 1 = .ok (.getfield 34, 3) := by decide +kernel
theorem dX2_addClause_4 : decode cX2_addClause 4 = .ok (.bipush 10, 2) := by decide +kernel
theorem dX2_addClause_6 : decode cX2_addClause 6 = .ok (.if_icmp .lt 5, 3) := by decide +kernel
theorem dX2_addClause_9 : decode cX2_addClause 9 = .ok (.iconst 0, 1) := by decide +kernel
theorem dX2_addClause_10 : decode cX2_addClause 10 = .ok (.ireturn, 1) := by decide +kernel
theorem dX2_addClause_11 : decode cX2_addClause 11 = .ok (.aload_n 0, 1) := by decide +kernel
theorem dX2_addClause_12 : decode cX2_addClause 12 = .ok (.getfield 9, 3) := by decide +kernel
theorem dX2_addClause_15 : decode cX2_addClause 15 = .ok (.aload_n 0, 1) := by decide +kernel
theorem dX2_addClause_16 : decode cX2_addClause 16 = .ok (.getfield 34, 3) := by decide +kernel
theorem dX2_addClause_19 : decode cX2_addClause 19 = .ok (.iload_n 1, 1) := by decide +kernel
theorem dX2_addClause_20 : decode cX2_addClause 20 = .ok (.iastore, 1) := by decide +kernel
theorem dX2_addClause_21 : decode cX2_addClause 21 = .ok (.aload_n 0, 1) := by decide +kernel
theorem dX2_addClause_22 : decode cX2_addClause 22 = .ok (.getfield 15, 3) := by decide +kernel
theorem dX2_addClause_25 : decode cX2_addClause 25 = .ok (.aload_n 0, 1) := by decide +kernel
theorem dX2_addClause_26 : decode cX2_addClause 26 = .ok (.getfield 34, 3) := by decide +kernel
theorem dX2_addClause_29 : decode cX2_addClause 29 = .ok (.iload_n 2, 1) := by decide +kernel
theorem dX2_addClause_30 : decode cX2_addClause 30 = .ok (.iastore, 1) := by decide +kernel
theorem dX2_addClause_31 : decode cX2_addClause 31 = .ok (.aload_n 0, 1) := by decide +kernel
theorem dX2_addClause_32 : decode cX2_addClause 32 = .ok (.getfield 18, 3) := by decide +kernel
theorem dX2_addClause_35 : decode cX2_addClause 35 = .ok (.aload_n 0, 1) := by decide +kernel
theorem dX2_addClause_36 : decode cX2_addClause 36 = .ok (.getfield 34, 3) := by decide +kernel
theorem dX2_addClause_39 : decode cX2_addClause 39 = .ok (.aload_n 0, 1) := by decide +kernel
theorem dX2_addClause_40 : decode cX2_addClause 40 = .ok (.getfield 37, 3) := by decide +kernel
theorem dX2_addClause_43 : decode cX2_addClause 43 = .ok (.iastore, 1) := by decide +kernel
theorem dX2_addClause_44 : decode cX2_addClause 44 = .ok (.aload_n 0, 1) := by decide +kernel
theorem dX2_addClause_45 : decode cX2_addClause 45 = .ok (.dup, 1) := by decide +kernel
theorem dX2_addClause_46 : decode cX2_addClause 46 = .ok (.getfield 34, 3) := by decide +kernel
theorem dX2_addClause_49 : decode cX2_addClause 49 = .ok (.iconst 1, 1) := by decide +kernel
theorem dX2_addClause_50 : decode cX2_addClause 50 = .ok (.iadd, 1) := by decide +kernel
theorem dX2_addClause_51 : decode cX2_addClause 51 = .ok (.putfield 34, 3) := by decide +kernel
theorem dX2_addClause_54 : decode cX2_addClause 54 = .ok (.iload_n 1, 1) := by decide +kernel
theorem dX2_addClause_55 : decode cX2_addClause 55 = .ok (.iconst 2, 1) := by decide +kernel
theorem dX2_addClause_56 : decode cX2_addClause 56 = .ok (.if_icmp .ne 8, 3) := by decide +kernel
theorem dX2_addClause_59 : decode cX2_addClause 59 = .ok (.aload_n 0, 1) := by decide +kernel
theorem dX2_addClause_60 : decode cX2_addClause 60 = .ok (.iload_n 2, 1) := by decide +kernel
theorem dX2_addClause_61 : decode cX2_addClause 61 = .ok (.putfield 30, 3) := by decide +kernel
theorem dX2_addClause_64 : decode cX2_addClause 64 = .ok (.iconst 1, 1) := by decide +kernel
theorem dX2_addClause_65 : decode cX2_addClause 65 = .ok (.ireturn, 1) := by decide +kernel
theorem dX2_sumBy_0 : decode cX2_sumBy 0 = .ok (.iconst 0, 1) := by decide +kernel
theorem dX2_sumBy_1 : decode cX2_sumBy 1 = .ok (.istore_n 2, 1) := by decide +kernel
theorem dX2_sumBy_2 : decode cX2_sumBy 2 = .ok (.iconst 0, 1) := by decide +kernel
theorem dX2_sumBy_3 : decode cX2_sumBy 3 = .ok (.istore_n 3, 1) := by decide +kernel
theorem dX2_sumBy_4 : decode cX2_sumBy 4 = .ok (.iconst 0, 1) := by decide +kernel
theorem dX2_sumBy_5 : decode cX2_sumBy 5 = .ok (.istore 4, 2) := by decide +kernel
theorem dX2_sumBy_7 : decode cX2_sumBy 7 = .ok (.iload 4, 2) := by decide +kernel
theorem dX2_sumBy_9 : decode cX2_sumBy 9 = .ok (.aload_n 0, 1) := by decide +kernel
theorem dX2_sumBy_10 : decode cX2_sumBy 10 = .ok (.getfield 34, 3) := by decide +kernel
theorem dX2_sumBy_13 : decode cX2_sumBy 13 = .ok (.if_icmp .ge 75, 3) := by decide +kernel
theorem dX2_sumBy_16 : decode cX2_sumBy 16 = .ok (.aload_n 0, 1) := by decide +kernel
theorem dX2_sumBy_17 : decode cX2_sumBy 17 = .ok (.getfield 9, 3) := by decide +kernel
theorem dX2_sumBy_20 : decode cX2_sumBy 20 = .ok (.iload 4, 2) := by decide +kernel
theorem dX2_sumBy_22 : decode cX2_sumBy 22 = .ok (.iaload, 1) := by decide +kernel
theorem dX2_sumBy_23 : decode cX2_sumBy 23 = .ok (.iconst 2, 1) := by decide +kernel
theorem dX2_sumBy_24 : decode cX2_sumBy 24 = .ok (.if_icmp .eq 50, 3) := by decide +kernel
theorem dX2_sumBy_27 : decode cX2_sumBy 27 = .ok (.aload_n 0, 1) := by decide +kernel
theorem dX2_sumBy_28 : decode cX2_sumBy 28 = .ok (.iload_n 3, 1) := by decide +kernel
theorem dX2_sumBy_29 : decode cX2_sumBy 29 = .ok (.aload_n 0, 1) := by decide +kernel
theorem dX2_sumBy_30 : decode cX2_sumBy 30 = .ok (.getfield 18, 3) := by decide +kernel
theorem dX2_sumBy_33 : decode cX2_sumBy 33 = .ok (.iload 4, 2) := by decide +kernel
theorem dX2_sumBy_35 : decode cX2_sumBy 35 = .ok (.iaload, 1) := by decide +kernel
theorem dX2_sumBy_36 : decode cX2_sumBy 36 = .ok (.aload_n 1, 1) := by decide +kernel
theorem dX2_sumBy_37 : decode cX2_sumBy 37 = .ok (.invokevirtual 44, 3) := by decide +kernel
theorem dX2_sumBy_40 : decode cX2_sumBy 40 = .ok (.ifCond .eq 34, 3) := by decide +kernel
theorem dX2_sumBy_43 : decode cX2_sumBy 43 = .ok (.iload_n 2, 1) := by decide +kernel
theorem dX2_sumBy_44 : decode cX2_sumBy 44 = .ok (.aload_n 0, 1) := by decide +kernel
theorem dX2_sumBy_45 : decode cX2_sumBy 45 = .ok (.getfield 9, 3) := by decide +kernel
theorem dX2_sumBy_48 : decode cX2_sumBy 48 = .ok (.iload 4, 2) := by decide +kernel
theorem dX2_sumBy_50 : decode cX2_sumBy 50 = .ok (.iaload, 1) := by decide +kernel
theorem dX2_sumBy_51 : decode cX2_sumBy 51 = .ok (.ifCond .ne 13, 3) := by decide +kernel
theorem dX2_sumBy_54 : decode cX2_sumBy 54 = .ok (.aload_n 0, 1) := by decide +kernel
theorem dX2_sumBy_55 : decode cX2_sumBy 55 = .ok (.getfield 15, 3) := by decide +kernel
theorem dX2_sumBy_58 : decode cX2_sumBy 58 = .ok (.iload 4, 2) := by decide +kernel
theorem dX2_sumBy_60 : decode cX2_sumBy 60 = .ok (.iaload, 1) := by decide +kernel
theorem dX2_sumBy_61 : decode cX2_sumBy 61 = .ok (.goto 11, 3) := by decide +kernel
theorem dX2_sumBy_64 : decode cX2_sumBy 64 = .ok (.aload_n 0, 1) := by decide +kernel
theorem dX2_sumBy_65 : decode cX2_sumBy 65 = .ok (.getfield 15, 3) := by decide +kernel
theorem dX2_sumBy_68 : decode cX2_sumBy 68 = .ok (.iload 4, 2) := by decide +kernel
theorem dX2_sumBy_70 : decode cX2_sumBy 70 = .ok (.iaload, 1) := by decide +kernel
theorem dX2_sumBy_71 : decode cX2_sumBy 71 = .ok (.ineg, 1) := by decide +kernel
theorem dX2_sumBy_72 : decode cX2_sumBy 72 = .ok (.iadd, 1) := by decide +kernel
theorem dX2_sumBy_73 : decode cX2_sumBy 73 = .ok (.istore_n 2, 1) := by decide +kernel
theorem dX2_sumBy_74 : decode cX2_sumBy 74 = .ok (.aload_n 0, 1) := by decide +kernel
theorem dX2_sumBy_75 : decode cX2_sumBy 75 = .ok (.getfield 18, 3) := by decide +kernel
theorem dX2_sumBy_78 : decode cX2_sumBy 78 = .ok (.iload 4, 2) := by decide +kernel
theorem dX2_sumBy_80 : decode cX2_sumBy 80 = .ok (.iaload, 1) := by decide +kernel
theorem dX2_sumBy_81 : decode cX2_sumBy 81 = .ok (.istore_n 3, 1) := by decide +kernel
theorem dX2_sumBy_82 : decode cX2_sumBy 82 = .ok (.iinc 4 1, 3) := by decide +kernel
theorem dX2_sumBy_85 : decode cX2_sumBy 85 = .ok (.goto (-78), 3) := by decide +kernel
theorem dX2_sumBy_88 : decode cX2_sumBy 88 = .ok (.iload_n 2, 1) := by decide +kernel
theorem dX2_sumBy_89 : decode cX2_sumBy 89 = .ok (.ireturn, 1) := by decide +kernel
theorem dX2_holds_0 : decode cX2_holds 0 = .ok (.iconst 0, 1) := by decide +kernel
theorem dX2_holds_1 : decode cX2_holds 1 = .ok (.istore 4, 2) := by decide +kernel
theorem dX2_holds_3 : decode cX2_holds 3 = .ok (.iload_n 1, 1) := by decide +kernel
theorem dX2_holds_4 : decode cX2_holds 4 = .ok (.istore 5, 2) := by decide +kernel
theorem dX2_holds_6 : decode cX2_holds 6 = .ok (.iload 5, 2) := by decide +kernel
theorem dX2_holds_8 : decode cX2_holds 8 = .ok (.iload_n 2, 1) := by decide +kernel
theorem dX2_holds_9 : decode cX2_holds 9 = .ok (.if_icmp .ge 126, 3) := by decide +kernel
theorem dX2_holds_12 : decode cX2_holds 12 = .ok (.aload_n 0, 1) := by decide +kernel
theorem dX2_holds_13 : decode cX2_holds 13 = .ok (.getfield 21, 3) := by decide +kernel
theorem dX2_holds_16 : decode cX2_holds 16 = .ok (.iload 5, 2) := by decide +kernel
theorem dX2_holds_18 : decode cX2_holds 18 = .ok (.iaload, 1) := by decide +kernel
theorem dX2_holds_19 : decode cX2_holds 19 = .ok (.tableswitch 63 6 8 #[25, 34, 49], 25) := by decide +kernel
theorem dX2_holds_44 : decode cX2_holds 44 = .ok (.iload 4, 2) := by decide +kernel
theorem dX2_holds_46 : decode cX2_holds 46 = .ok (.iconst 1, 1) := by decide +kernel
theorem dX2_holds_47 : decode cX2_holds 47 = .ok (.ixor, 1) := by decide +kernel
theorem dX2_holds_48 : decode cX2_holds 48 = .ok (.istore 4, 2) := by decide +kernel
theorem dX2_holds_50 : decode cX2_holds 50 = .ok (.goto 79, 3) := by decide +kernel
theorem dX2_holds_53 : decode cX2_holds 53 = .ok (.iload 4, 2) := by decide +kernel
theorem dX2_holds_55 : decode cX2_holds 55 = .ok (.iconst 1, 1) := by decide +kernel
theorem dX2_holds_56 : decode cX2_holds 56 = .ok (.ishr, 1) := by decide +kernel
theorem dX2_holds_57 : decode cX2_holds 57 = .ok (.iload 4, 2) := by decide +kernel
theorem dX2_holds_59 : decode cX2_holds 59 = .ok (.bipush (-2), 2) := by decide +kernel
theorem dX2_holds_61 : decode cX2_holds 61 = .ok (.ior, 1) := by decide +kernel
theorem dX2_holds_62 : decode cX2_holds 62 = .ok (.iand, 1) := by decide +kernel
theorem dX2_holds_63 : decode cX2_holds 63 = .ok (.istore 4, 2) := by decide +kernel
theorem dX2_holds_65 : decode cX2_holds 65 = .ok (.goto 64, 3) := by decide +kernel
theorem dX2_holds_68 : decode cX2_holds 68 = .ok (.iload 4, 2) := by decide +kernel
theorem dX2_holds_70 : decode cX2_holds 70 = .ok (.iconst 1, 1) := by decide +kernel
theorem dX2_holds_71 : decode cX2_holds 71 = .ok (.ishr, 1) := by decide +kernel
theorem dX2_holds_72 : decode cX2_holds 72 = .ok (.iload 4, 2) := by decide +kernel
theorem dX2_holds_74 : decode cX2_holds 74 = .ok (.iconst 1, 1) := by decide +kernel
theorem dX2_holds_75 : decode cX2_holds 75 = .ok (.iand, 1) := by decide +kernel
theorem dX2_holds_76 : decode cX2_holds 76 = .ok (.ior, 1) := by decide +kernel
theorem dX2_holds_77 : decode cX2_holds 77 = .ok (.istore 4, 2) := by decide +kernel
theorem dX2_holds_79 : decode cX2_holds 79 = .ok (.goto 50, 3) := by decide +kernel
theorem dX2_holds_82 : decode cX2_holds 82 = .ok (.aload_n 3, 1) := by decide +kernel
theorem dX2_holds_83 : decode cX2_holds 83 = .ok (.aload_n 0, 1) := by decide +kernel
theorem dX2_holds_84 : decode cX2_holds 84 = .ok (.getfield 21, 3) := by decide +kernel
theorem dX2_holds_87 : decode cX2_holds 87 = .ok (.iload 5, 2) := by decide +kernel
theorem dX2_holds_89 : decode cX2_holds 89 = .ok (.iaload, 1) := by decide +kernel
theorem dX2_holds_90 : decode cX2_holds 90 = .ok (.iaload, 1) := by decide +kernel
theorem dX2_holds_91 : decode cX2_holds 91 = .ok (.istore 6, 2) := by decide +kernel
theorem dX2_holds_93 : decode cX2_holds 93 = .ok (.iload 4, 2) := by decide +kernel
theorem dX2_holds_95 : decode cX2_holds 95 = .ok (.iconst 1, 1) := by decide +kernel
theorem dX2_holds_96 : decode cX2_holds 96 = .ok (.ishl, 1) := by decide +kernel
theorem dX2_holds_97 : decode cX2_holds 97 = .ok (.iload 6, 2) := by decide +kernel
theorem dX2_holds_99 : decode cX2_holds 99 = .ok (.aload_n 0, 1) := by decide +kernel
theorem dX2_holds_100 : decode cX2_holds 100 = .ok (.getfield 24, 3) := by decide +kernel
theorem dX2_holds_103 : decode cX2_holds 103 = .ok (.iload 5, 2) := by decide +kernel
theorem dX2_holds_105 : decode cX2_holds 105 = .ok (.iaload, 1) := by decide +kernel
theorem dX2_holds_106 : decode cX2_holds 106 = .ok (.if_icmp .lt 19, 3) := by decide +kernel
theorem dX2_holds_109 : decode cX2_holds 109 = .ok (.iload 6, 2) := by decide +kernel
theorem dX2_holds_111 : decode cX2_holds 111 = .ok (.aload_n 0, 1) := by decide +kernel
theorem dX2_holds_112 : decode cX2_holds 112 = .ok (.getfield 27, 3) := by decide +kernel
theorem dX2_holds_115 : decode cX2_holds 115 = .ok (.iload 5, 2) := by decide +kernel
theorem dX2_holds_117 : decode cX2_holds 117 = .ok (.iaload, 1) := by decide +kernel
theorem dX2_holds_118 : decode cX2_holds 118 = .ok (.if_icmp .gt 7, 3) := by decide +kernel
theorem dX2_holds_121 : decode cX2_holds 121 = .ok (.iconst 1, 1) := by decide +kernel
theorem dX2_holds_122 : decode cX2_holds 122 = .ok (.goto 4, 3) := by decide +kernel
theorem dX2_holds_125 : decode cX2_holds 125 = .ok (.iconst 0, 1) := by decide +kernel
theorem dX2_holds_126 : decode cX2_holds 126 = .ok (.ior, 1) := by decide +kernel
theorem dX2_holds_127 : decode cX2_holds 127 = .ok (.istore 4, 2) := by decide +kernel
theorem dX2_holds_129 : decode cX2_holds 129 = .ok (.iinc 5 1, 3) := by decide +kernel
theorem dX2_holds_132 : decode cX2_holds 132 = .ok (.goto (-126), 3) := by decide +kernel
theorem dX2_holds_135 : decode cX2_holds 135 = .ok (.iload 4, 2) := by decide +kernel
theorem dX2_holds_137 : decode cX2_holds 137 = .ok (.iconst 1, 1) := by decide +kernel
theorem dX2_holds_138 : decode cX2_holds 138 = .ok (.iand, 1) := by decide +kernel
theorem dX2_holds_139 : decode cX2_holds 139 = .ok (.ifCond .eq 7, 3) := by decide +kernel
theorem dX2_holds_142 : decode cX2_holds 142 = .ok (.iconst 1, 1) := by decide +kernel
theorem dX2_holds_143 : decode cX2_holds 143 = .ok (.goto 4, 3) := by decide +kernel
theorem dX2_holds_146 : decode cX2_holds 146 = .ok (.iconst 0, 1) := by decide +kernel
theorem dX2_holds_147 : decode cX2_holds 147 = .ok (.ireturn, 1) := by decide +kernel
theorem dX3_init_0 : decode cX3_init 0 = .ok (.aload_n 0, 1) := by decide +kernel
theorem dX3_init_1 : decode cX3_init 1 = .ok (.invokespecial 1, 3) := by decide +kernel
theorem dX3_init_4 : decode cX3_init 4 = .ok (.aload_n 0, 1) := by decide +kernel
theorem dX3_init_5 : decode cX3_init 5 = .ok (.iload_n 1, 1) := by decide +kernel
theorem dX3_init_6 : decode cX3_init 6 = .ok (.newarray .int, 2) := by decide +kernel
theorem dX3_init_8 : decode cX3_init 8 = .ok (.putfield 7, 3) := by decide +kernel
theorem dX3_init_11 : decode cX3_init 11 = .ok (.aload_n 0, 1) := by decide +kernel
theorem dX3_init_12 : decode cX3_init 12 = .ok (.iload_n 1, 1) := by decide +kernel
theorem dX3_init_13 : decode cX3_init 13 = .ok (.newarray .int, 2) := by decide +kernel
theorem dX3_init_15 : decode cX3_init 15 = .ok (.putfield 13, 3) := by decide +kernel
theorem dX3_init_18 : decode cX3_init 18 = .ok (.return_, 1) := by decide +kernel
theorem dX3_isFull_0 : decode cX3_isFull 0 = .ok (.aload_n 0, 1) := by decide +kernel
theorem dX3_isFull_1 : decode cX3_isFull 1 = .ok (.getfield 16, 3) := by decide +kernel
theorem dX3_isFull_4 : decode cX3_isFull 4 = .ok (.aload_n 0, 1) := by decide +kernel
theorem dX3_isFull_5 : decode cX3_isFull 5 = .ok (.getfield 7, 3) := by decide +kernel
theorem dX3_isFull_8 : decode cX3_isFull 8 = .ok (.arraylength, 1) := by decide +kernel
theorem dX3_isFull_9 : decode cX3_isFull 9 = .ok (.if_icmp .lt 7, 3) := by decide +kernel
theorem dX3_isFull_12 : decode cX3_isFull 12 = .ok (.iconst 1, 1) := by decide +kernel
theorem dX3_isFull_13 : decode cX3_isFull 13 = .ok (.goto 4, 3) := by decide +kernel
theorem dX3_isFull_16 : decode cX3_isFull 16 = .ok (.iconst 0, 1) := by decide +kernel
theorem dX3_isFull_17 : decode cX3_isFull 17 = .ok (.ireturn, 1) := by decide +kernel
theorem dX3_empty_0 : decode cX3_empty 0 = .ok (.aload_n 0, 1) := by decide +kernel
theorem dX3_empty_1 : decode cX3_empty 1 = .ok (.iconst 0, 1) := by decide +kernel
theorem dX3_empty_2 : decode cX3_empty 2 = .ok (.putfield 16, 3) := by decide +kernel
theorem dX3_empty_5 : decode cX3_empty 5 = .ok (.iconst 0, 1) := by decide +kernel
theorem dX3_empty_6 : decode cX3_empty 6 = .ok (.ireturn, 1) := by decide +kernel
theorem dX3_add_0 : decode cX3_add 0 = .ok (.aload_n 0, 1) := by decide +kernel
theorem dX3_add_1 : decode cX3_add 1 = .ok (.getfield 7, 3) := by decide +kernel
theorem dX3_add_4 : decode cX3_add 4 = .ok (.aload_n 0, 1) := by decide +kernel
theorem dX3_add_5 : decode cX3_add 5 = .ok (.getfield 16, 3) := by decide +kernel
theorem dX3_add_8 : decode cX3_add 8 = .ok (.iload_n 1, 1) := by decide +kernel
theorem dX3_add_9 : decode cX3_add 9 = .ok (.iastore, 1) := by decide +kernel
theorem dX3_add_10 : decode cX3_add 10 = .ok (.aload_n 0, 1) := by decide +kernel
theorem dX3_add_11 : decode cX3_add 11 = .ok (.getfield 13, 3) := by decide +kernel
theorem dX3_add_14 : decode cX3_add 14 = .ok (.aload_n 0, 1) := by decide +kernel
theorem dX3_add_15 : decode cX3_add 15 = .ok (.getfield 16, 3) := by decide +kernel
theorem dX3_add_18 : decode cX3_add 18 = .ok (.iload_n 2, 1) := by decide +kernel
theorem dX3_add_19 : decode cX3_add 19 = .ok (.iastore, 1) := by decide +kernel
theorem dX3_add_20 : decode cX3_add 20 = .ok (.aload_n 0, 1) := by decide +kernel
theorem dX3_add_21 : decode cX3_add 21 = .ok (.dup, 1) := by decide +kernel
theorem dX3_add_22 : decode cX3_add 22 = .ok (.getfield 16, 3) := by decide +kernel
theorem dX3_add_25 : decode cX3_add 25 = .ok (.iconst 1, 1) := by decide +kernel
theorem dX3_add_26 : decode cX3_add 26 = .ok (.iadd, 1) := by decide +kernel
theorem dX3_add_27 : decode cX3_add 27 = .ok (.putfield 16, 3) := by decide +kernel
theorem dX3_add_30 : decode cX3_add 30 = .ok (.aload_n 0, 1) := by decide +kernel
theorem dX3_add_31 : decode cX3_add 31 = .ok (.getfield 16, 3) := by decide +kernel
theorem dX3_add_34 : decode cX3_add 34 = .ok (.ireturn, 1) := by decide +kernel
theorem dX3_greatestFirst_0 : decode cX3_greatestFirst 0 = .ok (.iconst (-1), 1) := by decide +kernel
theorem dX3_greatestFirst_1 : decode cX3_greatestFirst 1 = .ok (.istore_n 1, 1) := by decide +kernel
theorem dX3_greatestFirst_2 : decode cX3_greatestFirst 2 = .ok (.iconst 0, 1) := by decide +kernel
theorem dX3_greatestFirst_3 : decode cX3_greatestFirst 3 = .ok (.istore_n 2, 1) := by decide +kernel
theorem dX3_greatestFirst_4 : decode cX3_greatestFirst 4 = .ok (.iload_n 2, 1) := by decide +kernel
theorem dX3_greatestFirst_5 : decode cX3_greatestFirst 5 = .ok (.aload_n 0, 1) := by decide +kernel
theorem dX3_greatestFirst_6 : decode cX3_greatestFirst 6 = .ok (.getfield 16, 3) := by decide +kernel
theorem dX3_greatestFirst_9 : decode cX3_greatestFirst 9 = .ok (.if_icmp .ge 20, 3) := by decide +kernel
theorem dX3_greatestFirst_12 : decode cX3_greatestFirst 12 = .ok (.iload_n 1, 1) := by decide +kernel
theorem dX3_greatestFirst_13 : decode cX3_greatestFirst 13 = .ok (.aload_n 0, 1) := by decide +kernel
theorem dX3_greatestFirst_14 : decode cX3_greatestFirst 14 = .ok (.getfield 7, 3) := by decide +kernel
theorem dX3_greatestFirst_17 : decode cX3_greatestFirst 17 = .ok (.iload_n 2, 1) := by decide +kernel
theorem dX3_greatestFirst_18 : decode cX3_greatestFirst 18 = .ok (.iaload, 1) := by decide +kernel
theorem dX3_greatestFirst_19 : decode cX3_greatestFirst 19 = .ok (.invokestatic 20, 3) := by decide +kernel
theorem dX3_greatestFirst_22 : decode cX3_greatestFirst 22 = .ok (.istore_n 1, 1) := by decide +kernel
theorem dX3_greatestFirst_23 : decode cX3_greatestFirst 23 = .ok (.iinc 2 1, 3) := by decide +kernel
theorem dX3_greatestFirst_26 : decode cX3_greatestFirst 26 = .ok (.goto (-22), 3) := by decide +kernel
theorem dX3_greatestFirst_29 : decode cX3_greatestFirst 29 = .ok (.iload_n 1, 1) := by decide +kernel
theorem dX3_greatestFirst_30 : decode cX3_greatestFirst 30 = .ok (.ireturn, 1) := by decide +kernel
theorem dX3_copy_0 : decode cX3_copy 0 = .ok (.aload_n 0, 1) := by decide +kernel
theorem dX3_copy_1 : decode cX3_copy 1 = .ok (.aload_n 1, 1) := by decide +kernel
theorem dX3_copy_2 : decode cX3_copy 2 = .ok (.getfield 16, 3) := by decide +kernel
theorem dX3_copy_5 : decode cX3_copy 5 = .ok (.putfield 16, 3) := by decide +kernel
theorem dX3_copy_8 : decode cX3_copy 8 = .ok (.aload_n 1, 1) := by decide +kernel
theorem dX3_copy_9 : decode cX3_copy 9 = .ok (.getfield 7, 3) := by decide +kernel
theorem dX3_copy_12 : decode cX3_copy 12 = .ok (.iconst 0, 1) := by decide +kernel
theorem dX3_copy_13 : decode cX3_copy 13 = .ok (.aload_n 0, 1) := by decide +kernel
theorem dX3_copy_14 : decode cX3_copy 14 = .ok (.getfield 7, 3) := by decide +kernel
theorem dX3_copy_17 : decode cX3_copy 17 = .ok (.iconst 0, 1) := by decide +kernel
theorem dX3_copy_18 : decode cX3_copy 18 = .ok (.aload_n 0, 1) := by decide +kernel
theorem dX3_copy_19 : decode cX3_copy 19 = .ok (.getfield 16, 3) := by decide +kernel
theorem dX3_copy_22 : decode cX3_copy 22 = .ok (.invokestatic 26, 3) := by decide +kernel
theorem dX3_copy_25 : decode cX3_copy 25 = .ok (.aload_n 1, 1) := by decide +kernel
theorem dX3_copy_26 : decode cX3_copy 26 = .ok (.getfield 13, 3) := by decide +kernel
theorem dX3_copy_29 : decode cX3_copy 29 = .ok (.iconst 0, 1) := by decide +kernel
theorem dX3_copy_30 : decode cX3_copy 30 = .ok (.aload_n 0, 1) := by decide +kernel
theorem dX3_copy_31 : decode cX3_copy 31 = .ok (.getfield 13, 3) := by decide +kernel
theorem dX3_copy_34 : decode cX3_copy 34 = .ok (.iconst 0, 1) := by decide +kernel
theorem dX3_copy_35 : decode cX3_copy 35 = .ok (.aload_n 0, 1) := by decide +kernel
theorem dX3_copy_36 : decode cX3_copy 36 = .ok (.getfield 16, 3) := by decide +kernel
theorem dX3_copy_39 : decode cX3_copy 39 = .ok (.invokestatic 26, 3) := by decide +kernel
theorem dX3_copy_42 : decode cX3_copy 42 = .ok (.return_, 1) := by decide +kernel
theorem dX4_init_0 : decode cX4_init 0 = .ok (.aload_n 0, 1) := by decide +kernel
theorem dX4_init_1 : decode cX4_init 1 = .ok (.invokespecial 3, 3) := by decide +kernel
theorem dX4_init_4 : decode cX4_init 4 = .ok (.aload_n 0, 1) := by decide +kernel
theorem dX4_init_5 : decode cX4_init 5 = .ok (.iconst (-1), 1) := by decide +kernel
theorem dX4_init_6 : decode cX4_init 6 = .ok (.putfield 9, 3) := by decide +kernel
theorem dX4_init_9 : decode cX4_init 9 = .ok (.aload_n 0, 1) := by decide +kernel
theorem dX4_init_10 : decode cX4_init 10 = .ok (.bipush 60, 2) := by decide +kernel
theorem dX4_init_12 : decode cX4_init 12 = .ok (.newarray .long, 2) := by decide +kernel
theorem dX4_init_14 : decode cX4_init 14 = .ok (.putfield 15, 3) := by decide +kernel
theorem dX4_init_17 : decode cX4_init 17 = .ok (.return_, 1) := by decide +kernel
theorem dX4_become_0 : decode cX4_become 0 = .ok (.aload_n 0, 1) := by decide +kernel
theorem dX4_become_1 : decode cX4_become 1 = .ok (.iload_n 1, 1) := by decide +kernel
theorem dX4_become_2 : decode cX4_become 2 = .ok (.putfield 9, 3) := by decide +kernel
theorem dX4_become_5 : decode cX4_become 5 = .ok (.aload_n 0, 1) := by decide +kernel
theorem dX4_become_6 : decode cX4_become 6 = .ok (.iload_n 2, 1) := by decide +kernel
theorem dX4_become_7 : decode cX4_become 7 = .ok (.putfield 19, 3) := by decide +kernel
theorem dX4_become_10 : decode cX4_become 10 = .ok (.iconst 0, 1) := by decide +kernel
theorem dX4_become_11 : decode cX4_become 11 = .ok (.istore_n 3, 1) := by decide +kernel
theorem dX4_become_12 : decode cX4_become 12 = .ok (.iload_n 3, 1) := by decide +kernel
theorem dX4_become_13 : decode cX4_become 13 = .ok (.bipush 60, 2) := by decide +kernel
theorem dX4_become_15 : decode cX4_become 15 = .ok (.if_icmp .ge 16, 3) := by decide +kernel
theorem dX4_become_18 : decode cX4_become 18 = .ok (.aload_n 0, 1) := by decide +kernel
theorem dX4_become_19 : decode cX4_become 19 = .ok (.getfield 15, 3) := by decide +kernel
theorem dX4_become_22 : decode cX4_become 22 = .ok (.iload_n 3, 1) := by decide +kernel
theorem dX4_become_23 : decode cX4_become 23 = .ok (.lconst 0, 1) := by decide +kernel
theorem dX4_become_24 : decode cX4_become 24 = .ok (.lastore, 1) := by decide +kernel
theorem dX4_become_25 : decode cX4_become 25 = .ok (.iinc 3 1, 3) := by decide +kernel
theorem dX4_become_28 : decode cX4_become 28 = .ok (.goto (-16), 3) := by decide +kernel
theorem dX4_become_31 : decode cX4_become 31 = .ok (.return_, 1) := by decide +kernel
theorem dX4_hasRun_0 : decode cX4_hasRun 0 = .ok (.iload_n 1, 1) := by decide +kernel
theorem dX4_hasRun_1 : decode cX4_hasRun 1 = .ok (.ifCond .lt 29, 3) := by decide +kernel
theorem dX4_hasRun_4 : decode cX4_hasRun 4 = .ok (.iload_n 2, 1) := by decide +kernel
theorem dX4_hasRun_5 : decode cX4_hasRun 5 = .ok (.ifCond .lt 25, 3) := by decide +kernel
theorem dX4_hasRun_8 : decode cX4_hasRun 8 = .ok (.iload_n 2, 1) := by decide +kernel
theorem dX4_hasRun_9 : decode cX4_hasRun 9 = .ok (.aload_n 0, 1) := by decide +kernel
theorem dX4_hasRun_10 : decode cX4_hasRun 10 = .ok (.getfield 19, 3) := by decide +kernel
theorem dX4_hasRun_13 : decode cX4_hasRun 13 = .ok (.if_icmp .gt 17, 3) := by decide +kernel
theorem dX4_hasRun_16 : decode cX4_hasRun 16 = .ok (.iload_n 1, 1) := by decide +kernel
theorem dX4_hasRun_17 : decode cX4_hasRun 17 = .ok (.aload_n 0, 1) := by decide +kernel
theorem dX4_hasRun_18 : decode cX4_hasRun 18 = .ok (.getfield 19, 3) := by decide +kernel
theorem dX4_hasRun_21 : decode cX4_hasRun 21 = .ok (.iload_n 2, 1) := by decide +kernel
theorem dX4_hasRun_22 : decode cX4_hasRun 22 = .ok (.isub, 1) := by decide +kernel
theorem dX4_hasRun_23 : decode cX4_hasRun 23 = .ok (.if_icmp .gt 7, 3) := by decide +kernel
theorem dX4_hasRun_26 : decode cX4_hasRun 26 = .ok (.iconst 1, 1) := by decide +kernel
theorem dX4_hasRun_27 : decode cX4_hasRun 27 = .ok (.goto 4, 3) := by decide +kernel
theorem dX4_hasRun_30 : decode cX4_hasRun 30 = .ok (.iconst 0, 1) := by decide +kernel
theorem dX4_hasRun_31 : decode cX4_hasRun 31 = .ok (.ireturn, 1) := by decide +kernel
theorem dX5_init_0 : decode cX5_init 0 = .ok (.aload_n 0, 1) := by decide +kernel
theorem dX5_init_1 : decode cX5_init 1 = .ok (.invokespecial 3, 3) := by decide +kernel
theorem dX5_init_4 : decode cX5_init 4 = .ok (.aload_n 0, 1) := by decide +kernel
theorem dX5_init_5 : decode cX5_init 5 = .ok (.bipush 100, 2) := by decide +kernel
theorem dX5_init_7 : decode cX5_init 7 = .ok (.newarray .byte, 2) := by decide +kernel
theorem dX5_init_9 : decode cX5_init 9 = .ok (.putfield 9, 3) := by decide +kernel
theorem dX5_init_12 : decode cX5_init 12 = .ok (.return_, 1) := by decide +kernel
theorem dX5_add_0 : decode cX5_add 0 = .ok (.aload_n 0, 1) := by decide +kernel
theorem dX5_add_1 : decode cX5_add 1 = .ok (.getfield 9, 3) := by decide +kernel
theorem dX5_add_4 : decode cX5_add 4 = .ok (.aload_n 0, 1) := by decide +kernel
theorem dX5_add_5 : decode cX5_add 5 = .ok (.getfield 15, 3) := by decide +kernel
theorem dX5_add_8 : decode cX5_add 8 = .ok (.iload_n 1, 1) := by decide +kernel
theorem dX5_add_9 : decode cX5_add 9 = .ok (.i2b, 1) := by decide +kernel
theorem dX5_add_10 : decode cX5_add 10 = .ok (.bastore, 1) := by decide +kernel
theorem dX5_add_11 : decode cX5_add 11 = .ok (.aload_n 0, 1) := by decide +kernel
theorem dX5_add_12 : decode cX5_add 12 = .ok (.dup, 1) := by decide +kernel
theorem dX5_add_13 : decode cX5_add 13 = .ok (.getfield 15, 3) := by decide +kernel
theorem dX5_add_16 : decode cX5_add 16 = .ok (.iconst 1, 1) := by decide +kernel
theorem dX5_add_17 : decode cX5_add 17 = .ok (.iadd, 1) := by decide +kernel
theorem dX5_add_18 : decode cX5_add 18 = .ok (.putfield 15, 3) := by decide +kernel
theorem dX5_add_21 : decode cX5_add 21 = .ok (.aload_n 0, 1) := by decide +kernel
theorem dX5_add_22 : decode cX5_add 22 = .ok (.getfield 15, 3) := by decide +kernel
theorem dX5_add_25 : decode cX5_add 25 = .ok (.ireturn, 1) := by decide +kernel
theorem dX5_readInto_0 : decode cX5_readInto 0 = .ok (.aload_n 0, 1) := by decide +kernel
theorem dX5_readInto_1 : decode cX5_readInto 1 = .ok (.aload_n 1, 1) := by decide +kernel
theorem dX5_readInto_2 : decode cX5_readInto 2 = .ok (.putfield 19, 3) := by decide +kernel
theorem dX5_readInto_5 : decode cX5_readInto 5 = .ok (.aload_n 0, 1) := by decide +kernel
theorem dX5_readInto_6 : decode cX5_readInto 6 = .ok (.getfield 19, 3) := by decide +kernel
theorem dX5_readInto_9 : decode cX5_readInto 9 = .ok (.invokevirtual 23, 3) := by decide +kernel
theorem dX5_readInto_12 : decode cX5_readInto 12 = .ok (.aload_n 0, 1) := by decide +kernel
theorem dX5_readInto_13 : decode cX5_readInto 13 = .ok (.iconst 0, 1) := by decide +kernel
theorem dX5_readInto_14 : decode cX5_readInto 14 = .ok (.putfield 28, 3) := by decide +kernel
theorem dX5_readInto_17 : decode cX5_readInto 17 = .ok (.bipush 10, 2) := by decide +kernel
theorem dX5_readInto_19 : decode cX5_readInto 19 = .ok (.istore_n 2, 1) := by decide +kernel
theorem dX5_readInto_20 : decode cX5_readInto 20 = .ok (.iload_n 2, 1) := by decide +kernel
theorem dX5_readInto_21 : decode cX5_readInto 21 = .ok (.ifCond .le 53, 3) := by decide +kernel
theorem dX5_readInto_24 : decode cX5_readInto 24 = .ok (.aload_n 0, 1) := by decide +kernel
theorem dX5_readInto_25 : decode cX5_readInto 25 = .ok (.invokevirtual 31, 3) := by decide +kernel
theorem dX5_readInto_28 : decode cX5_readInto 28 = .ok (.ifCond .ne 8, 3) := by decide +kernel
theorem dX5_readInto_31 : decode cX5_readInto 31 = .ok (.aload_n 0, 1) := by decide +kernel
theorem dX5_readInto_32 : decode cX5_readInto 32 = .ok (.getfield 28, 3) := by decide +kernel
theorem dX5_readInto_35 : decode cX5_readInto 35 = .ok (.ireturn, 1) := by decide +kernel
theorem dX5_readInto_36 : decode cX5_readInto 36 = .ok (.aload_n 0, 1) := by decide +kernel
theorem dX5_readInto_37 : decode cX5_readInto 37 = .ok (.getfield 28, 3) := by decide +kernel
theorem dX5_readInto_40 : decode cX5_readInto 40 = .ok (.aload_n 0, 1) := by decide +kernel
theorem dX5_readInto_41 : decode cX5_readInto 41 = .ok (.getfield 15, 3) := by decide +kernel
theorem dX5_readInto_44 : decode cX5_readInto 44 = .ok (.if_icmp .lt 5, 3) := by decide +kernel
theorem dX5_readInto_47 : decode cX5_readInto 47 = .ok (.iconst (-1), 1) := by decide +kernel
theorem dX5_readInto_48 : decode cX5_readInto 48 = .ok (.ireturn, 1) := by decide +kernel
theorem dX5_readInto_49 : decode cX5_readInto 49 = .ok (.iload_n 2, 1) := by decide +kernel
theorem dX5_readInto_50 : decode cX5_readInto 50 = .ok (.iconst 1, 1) := by decide +kernel
theorem dX5_readInto_51 : decode cX5_readInto 51 = .ok (.if_icmp .eq 12, 3) := by decide +kernel
theorem dX5_readInto_54 : decode cX5_readInto 54 = .ok (.aload_n 0, 1) := by decide +kernel
theorem dX5_readInto_55 : decode cX5_readInto 55 = .ok (.bipush 59, 2) := by decide +kernel
theorem dX5_readInto_57 : decode cX5_readInto 57 = .ok (.invokevirtual 35, 3) := by decide +kernel
theorem dX5_readInto_60 : decode cX5_readInto 60 = .ok (.ifCond .ne 8, 3) := by decide +kernel
theorem dX5_readInto_63 : decode cX5_readInto 63 = .ok (.aload_n 0, 1) := by decide +kernel
theorem dX5_readInto_64 : decode cX5_readInto 64 = .ok (.getfield 28, 3) := by decide +kernel
theorem dX5_readInto_67 : decode cX5_readInto 67 = .ok (.ireturn, 1) := by decide +kernel
theorem dX5_readInto_68 : decode cX5_readInto 68 = .ok (.iinc 2 (-1), 3) := by decide +kernel
theorem dX5_readInto_71 : decode cX5_readInto 71 = .ok (.goto (-51), 3) := by decide +kernel
theorem dX5_readInto_74 : decode cX5_readInto 74 = .ok (.aload_n 0, 1) := by decide +kernel
theorem dX5_readInto_75 : decode cX5_readInto 75 = .ok (.getfield 28, 3) := by decide +kernel
theorem dX5_readInto_78 : decode cX5_readInto 78 = .ok (.ireturn, 1) := by decide +kernel
theorem dX5_readClause_0 : decode cX5_readClause 0 = .ok (.aload_n 0, 1) := by decide +kernel
theorem dX5_readClause_1 : decode cX5_readClause 1 = .ok (.invokevirtual 39, 3) := by decide +kernel
theorem dX5_readClause_4 : decode cX5_readClause 4 = .ok (.istore_n 1, 1) := by decide +kernel
theorem dX5_readClause_5 : decode cX5_readClause 5 = .ok (.iload_n 1, 1) := by decide +kernel
theorem dX5_readClause_6 : decode cX5_readClause 6 = .ok (.iconst (-1), 1) := by decide +kernel
theorem dX5_readClause_7 : decode cX5_readClause 7 = .ok (.if_icmp .eq 20, 3) := by decide +kernel
theorem dX5_readClause_10 : decode cX5_readClause 10 = .ok (.aload_n 0, 1) := by decide +kernel
theorem dX5_readClause_11 : decode cX5_readClause 11 = .ok (.iload_n 1, 1) := by decide +kernel
theorem dX5_readClause_12 : decode cX5_readClause 12 = .ok (.invokevirtual 43, 3) := by decide +kernel
theorem dX5_readClause_15 : decode cX5_readClause 15 = .ok (.ifCond .eq 12, 3) := by decide +kernel
theorem dX5_readClause_18 : decode cX5_readClause 18 = .ok (.aload_n 0, 1) := by decide +kernel
theorem dX5_readClause_19 : decode cX5_readClause 19 = .ok (.bipush 32, 2) := by decide +kernel
theorem dX5_readClause_21 : decode cX5_readClause 21 = .ok (.invokevirtual 35, 3) := by decide +kernel
theorem dX5_readClause_24 : decode cX5_readClause 24 = .ok (.ifCond .ne 5, 3) := by decide +kernel
theorem dX5_readClause_27 : decode cX5_readClause 27 = .ok (.iconst 0, 1) := by decide +kernel
theorem dX5_readClause_28 : decode cX5_readClause 28 = .ok (.ireturn, 1) := by decide +kernel
theorem dX5_readClause_29 : decode cX5_readClause 29 = .ok (.aload_n 0, 1) := by decide +kernel
theorem dX5_readClause_30 : decode cX5_readClause 30 = .ok (.invokevirtual 47, 3) := by decide +kernel
theorem dX5_readClause_33 : decode cX5_readClause 33 = .ok (.istore_n 2, 1) := by decide +kernel
theorem dX5_readClause_34 : decode cX5_readClause 34 = .ok (.iload_n 2, 1) := by decide +kernel
theorem dX5_readClause_35 : decode cX5_readClause 35 = .ok (.iconst (-1), 1) := by decide +kernel
theorem dX5_readClause_36 : decode cX5_readClause 36 = .ok (.if_icmp .ne 5, 3) := by decide +kernel
theorem dX5_readClause_39 : decode cX5_readClause 39 = .ok (.iconst 0, 1) := by decide +kernel
theorem dX5_readClause_40 : decode cX5_readClause 40 = .ok (.ireturn, 1) := by decide +kernel
theorem dX5_readClause_41 : decode cX5_readClause 41 = .ok (.iload_n 1, 1) := by decide +kernel
theorem dX5_readClause_42 : decode cX5_readClause 42 = .ok (.iconst 2, 1) := by decide +kernel
theorem dX5_readClause_43 : decode cX5_readClause 43 = .ok (.if_icmp .eq 22, 3) := by decide +kernel
theorem dX5_readClause_46 : decode cX5_readClause 46 = .ok (.aload_n 0, 1) := by decide +kernel
theorem dX5_readClause_47 : decode cX5_readClause 47 = .ok (.bipush 32, 2) := by decide +kernel
theorem dX5_readClause_49 : decode cX5_readClause 49 = .ok (.invokevirtual 35, 3) := by decide +kernel
theorem dX5_readClause_52 : decode cX5_readClause 52 = .ok (.ifCond .eq 11, 3) := by decide +kernel
theorem dX5_readClause_55 : decode cX5_readClause 55 = .ok (.aload_n 0, 1) := by decide +kernel
theorem dX5_readClause_56 : decode cX5_readClause 56 = .ok (.iconst 0, 1) := by decide +kernel
theorem dX5_readClause_57 : decode cX5_readClause 57 = .ok (.invokevirtual 50, 3) := by decide +kernel
theorem dX5_readClause_60 : decode cX5_readClause 60 = .ok (.ifCond .ne 5, 3) := by decide +kernel
theorem dX5_readClause_63 : decode cX5_readClause 63 = .ok (.iconst 0, 1) := by decide +kernel
theorem dX5_readClause_64 : decode cX5_readClause 64 = .ok (.ireturn, 1) := by decide +kernel
theorem dX5_readClause_65 : decode cX5_readClause 65 = .ok (.aload_n 0, 1) := by decide +kernel
theorem dX5_readClause_66 : decode cX5_readClause 66 = .ok (.getfield 19, 3) := by decide +kernel
theorem dX5_readClause_69 : decode cX5_readClause 69 = .ok (.iload_n 1, 1) := by decide +kernel
theorem dX5_readClause_70 : decode cX5_readClause 70 = .ok (.iload_n 2, 1) := by decide +kernel
theorem dX5_readClause_71 : decode cX5_readClause 71 = .ok (.invokevirtual 53, 3) := by decide +kernel
theorem dX5_readClause_74 : decode cX5_readClause 74 = .ok (.ireturn, 1) := by decide +kernel
theorem dX5_sortAhead_0 : decode cX5_sortAhead 0 = .ok (.aload_n 0, 1) := by decide +kernel
theorem dX5_sortAhead_1 : decode cX5_sortAhead 1 = .ok (.invokevirtual 57, 3) := by decide +kernel
theorem dX5_sortAhead_4 : decode cX5_sortAhead 4 = .ok (.lookupswitch 42 #[(99, 40), (104, 38), (108, 36)], 36) := by decide +kernel
theorem dX5_sortAhead_40 : decode cX5_sortAhead 40 = .ok (.iconst 0, 1) := by decide +kernel
theorem dX5_sortAhead_41 : decode cX5_sortAhead 41 = .ok (.ireturn, 1) := by decide +kernel
theorem dX5_sortAhead_42 : decode cX5_sortAhead 42 = .ok (.iconst 1, 1) := by decide +kernel
theorem dX5_sortAhead_43 : decode cX5_sortAhead 43 = .ok (.ireturn, 1) := by decide +kernel
theorem dX5_sortAhead_44 : decode cX5_sortAhead 44 = .ok (.iconst 2, 1) := by decide +kernel
theorem dX5_sortAhead_45 : decode cX5_sortAhead 45 = .ok (.ireturn, 1) := by decide +kernel
theorem dX5_sortAhead_46 : decode cX5_sortAhead 46 = .ok (.iconst (-1), 1) := by decide +kernel
theorem dX5_sortAhead_47 : decode cX5_sortAhead 47 = .ok (.ireturn, 1) := by decide +kernel
theorem dX5_takeWord_0 : decode cX5_takeWord 0 = .ok (.iload_n 1, 1) := by decide +kernel
theorem dX5_takeWord_1 : decode cX5_takeWord 1 = .ok (.ifCond .ne 8, 3) := by decide +kernel
theorem dX5_takeWord_4 : decode cX5_takeWord 4 = .ok (.ldc 60, 2) := by decide +kernel
theorem dX5_takeWord_6 : decode cX5_takeWord 6 = .ok (.goto 15, 3) := by decide +kernel
theorem dX5_takeWord_9 : decode cX5_takeWord 9 = .ok (.iload_n 1, 1) := by decide +kernel
theorem dX5_takeWord_10 : decode cX5_takeWord 10 = .ok (.iconst 1, 1) := by decide +kernel
theorem dX5_takeWord_11 : decode cX5_takeWord 11 = .ok (.if_icmp .ne 8, 3) := by decide +kernel
theorem dX5_takeWord_14 : decode cX5_takeWord 14 = .ok (.ldc 62, 2) := by decide +kernel
theorem dX5_takeWord_16 : decode cX5_takeWord 16 = .ok (.goto 5, 3) := by decide +kernel
theorem dX5_takeWord_19 : decode cX5_takeWord 19 = .ok (.ldc 64, 2) := by decide +kernel
theorem dX5_takeWord_21 : decode cX5_takeWord 21 = .ok (.astore_n 2, 1) := by decide +kernel
theorem dX5_takeWord_22 : decode cX5_takeWord 22 = .ok (.iconst 0, 1) := by decide +kernel
theorem dX5_takeWord_23 : decode cX5_takeWord 23 = .ok (.istore_n 3, 1) := by decide +kernel
theorem dX5_takeWord_24 : decode cX5_takeWord 24 = .ok (.iload_n 3, 1) := by decide +kernel
theorem dX5_takeWord_25 : decode cX5_takeWord 25 = .ok (.aload_n 2, 1) := by decide +kernel
theorem dX5_takeWord_26 : decode cX5_takeWord 26 = .ok (.invokevirtual 66, 3) := by decide +kernel
theorem dX5_takeWord_29 : decode cX5_takeWord 29 = .ok (.if_icmp .ge 23, 3) := by decide +kernel
theorem dX5_takeWord_32 : decode cX5_takeWord 32 = .ok (.aload_n 0, 1) := by decide +kernel
theorem dX5_takeWord_33 : decode cX5_takeWord 33 = .ok (.aload_n 2, 1) := by decide +kernel
theorem dX5_takeWord_34 : decode cX5_takeWord 34 = .ok (.iload_n 3, 1) := by decide +kernel
theorem dX5_takeWord_35 : decode cX5_takeWord 35 = .ok (.invokevirtual 70, 3) := by decide +kernel
theorem dX5_takeWord_38 : decode cX5_takeWord 38 = .ok (.invokevirtual 35, 3) := by decide +kernel
theorem dX5_takeWord_41 : decode cX5_takeWord 41 = .ok (.ifCond .ne 5, 3) := by decide +kernel
theorem dX5_takeWord_44 : decode cX5_takeWord 44 = .ok (.iconst 0, 1) := by decide +kernel
theorem dX5_takeWord_45 : decode cX5_takeWord 45 = .ok (.ireturn, 1) := by decide +kernel
theorem dX5_takeWord_46 : decode cX5_takeWord 46 = .ok (.iinc 3 1, 3) := by decide +kernel
theorem dX5_takeWord_49 : decode cX5_takeWord 49 = .ok (.goto (-25), 3) := by decide +kernel
theorem dX5_takeWord_52 : decode cX5_takeWord 52 = .ok (.iconst 1, 1) := by decide +kernel
theorem dX5_takeWord_53 : decode cX5_takeWord 53 = .ok (.ireturn, 1) := by decide +kernel
theorem dX5_readEither_0 : decode cX5_readEither 0 = .ok (.iconst 0, 1) := by decide +kernel
theorem dX5_readEither_1 : decode cX5_readEither 1 = .ok (.istore_n 2, 1) := by decide +kernel
theorem dX5_readEither_2 : decode cX5_readEither 2 = .ok (.iload_n 2, 1) := by decide +kernel
theorem dX5_readEither_3 : decode cX5_readEither 3 = .ok (.bipush 100, 2) := by decide +kernel
theorem dX5_readEither_5 : decode cX5_readEither 5 = .ok (.if_icmp .ge 46, 3) := by decide +kernel
theorem dX5_readEither_8 : decode cX5_readEither 8 = .ok (.aload_n 0, 1) := by decide +kernel
theorem dX5_readEither_9 : decode cX5_readEither 9 = .ok (.iload_n 1, 1) := by decide +kernel
theorem dX5_readEither_10 : decode cX5_readEither 10 = .ok (.invokevirtual 74, 3) := by decide +kernel
theorem dX5_readEither_13 : decode cX5_readEither 13 = .ok (.ifCond .eq 19, 3) := by decide +kernel
theorem dX5_readEither_16 : decode cX5_readEither 16 = .ok (.iload_n 2, 1) := by decide +kernel
theorem dX5_readEither_17 : decode cX5_readEither 17 = .ok (.ifCond .le 17, 3) := by decide +kernel
theorem dX5_readEither_20 : decode cX5_readEither 20 = .ok (.aload_n 0, 1) := by decide +kernel
theorem dX5_readEither_21 : decode cX5_readEither 21 = .ok (.getfield 19, 3) := by decide +kernel
theorem dX5_readEither_24 : decode cX5_readEither 24 = .ok (.bipush 8, 2) := by decide +kernel
theorem dX5_readEither_26 : decode cX5_readEither 26 = .ok (.invokevirtual 77, 3) := by decide +kernel
theorem dX5_readEither_29 : decode cX5_readEither 29 = .ok (.ifCond .ne 5, 3) := by decide +kernel
theorem dX5_readEither_32 : decode cX5_readEither 32 = .ok (.iconst 0, 1) := by decide +kernel
theorem dX5_readEither_33 : decode cX5_readEither 33 = .ok (.ireturn, 1) := by decide +kernel
theorem dX5_readEither_34 : decode cX5_readEither 34 = .ok (.aload_n 0, 1) := by decide +kernel
theorem dX5_readEither_35 : decode cX5_readEither 35 = .ok (.bipush 124, 2) := by decide +kernel
theorem dX5_readEither_37 : decode cX5_readEither 37 = .ok (.invokevirtual 35, 3) := by decide +kernel
theorem dX5_readEither_40 : decode cX5_readEither 40 = .ok (.ifCond .ne 5, 3) := by decide +kernel
theorem dX5_readEither_43 : decode cX5_readEither 43 = .ok (.iconst 1, 1) := by decide +kernel
theorem dX5_readEither_44 : decode cX5_readEither 44 = .ok (.ireturn, 1) := by decide +kernel
theorem dX5_readEither_45 : decode cX5_readEither 45 = .ok (.iinc 2 1, 3) := by decide +kernel
theorem dX5_readEither_48 : decode cX5_readEither 48 = .ok (.goto (-46), 3) := by decide +kernel
theorem dX5_readEither_51 : decode cX5_readEither 51 = .ok (.iconst 0, 1) := by decide +kernel
theorem dX5_readEither_52 : decode cX5_readEither 52 = .ok (.ireturn, 1) := by decide +kernel
theorem dX5_readBoth_0 : decode cX5_readBoth 0 = .ok (.iconst 0, 1) := by decide +kernel
theorem dX5_readBoth_1 : decode cX5_readBoth 1 = .ok (.istore_n 2, 1) := by decide +kernel
theorem dX5_readBoth_2 : decode cX5_readBoth 2 = .ok (.iload_n 2, 1) := by decide +kernel
theorem dX5_readBoth_3 : decode cX5_readBoth 3 = .ok (.bipush 100, 2) := by decide +kernel
theorem dX5_readBoth_5 : decode cX5_readBoth 5 = .ok (.if_icmp .ge 46, 3) := by decide +kernel
theorem dX5_readBoth_8 : decode cX5_readBoth 8 = .ok (.aload_n 0, 1) := by decide +kernel
theorem dX5_readBoth_9 : decode cX5_readBoth 9 = .ok (.iload_n 1, 1) := by decide +kernel
theorem dX5_readBoth_10 : decode cX5_readBoth 10 = .ok (.invokevirtual 80, 3) := by decide +kernel
theorem dX5_readBoth_13 : decode cX5_readBoth 13 = .ok (.ifCond .eq 19, 3) := by decide +kernel
theorem dX5_readBoth_16 : decode cX5_readBoth 16 = .ok (.iload_n 2, 1) := by decide +kernel
theorem dX5_readBoth_17 : decode cX5_readBoth 17 = .ok (.ifCond .le 17, 3) := by decide +kernel
theorem dX5_readBoth_20 : decode cX5_readBoth 20 = .ok (.aload_n 0, 1) := by decide +kernel
theorem dX5_readBoth_21 : decode cX5_readBoth 21 = .ok (.getfield 19, 3) := by decide +kernel
theorem dX5_readBoth_24 : decode cX5_readBoth 24 = .ok (.bipush 7, 2) := by decide +kernel
theorem dX5_readBoth_26 : decode cX5_readBoth 26 = .ok (.invokevirtual 77, 3) := by decide +kernel

theorem dX5_rest_5 : decode cX5_rest 5 = .ok (.lrem, 1) := by decide +kernel
theorem dX5_rest_6 : decode cX5_rest 6 = .ok (.ldc2_w 79, 3) := by decide +kernel
theorem dX5_rest_9 : decode cX5_rest 9 = .ok (.ladd, 1) := by decide +kernel
theorem dX5_rest_10 : decode cX5_rest 10 = .ok (.ldc2_w 79, 3) := by decide +kernel
theorem dX5_rest_13 : decode cX5_rest 13 = .ok (.lrem, 1) := by decide +kernel
theorem dX5_rest_14 : decode cX5_rest 14 = .ok (.lreturn, 1) := by decide +kernel
theorem dX5_add_0 : decode cX5_add 0 = .ok (.aload_n 0, 1) := by decide +kernel
theorem dX5_add_1 : decode cX5_add 1 = .ok (.iload_n 1, 1) := by decide +kernel
theorem dX5_add_2 : decode cX5_add 2 = .ok (.invokevirtual 135, 3) := by decide +kernel
theorem dX5_add_5 : decode cX5_add 5 = .ok (.ifCond .eq 11, 3) := by decide +kernel
theorem dX5_add_8 : decode cX5_add 8 = .ok (.aload_n 0, 1) := by decide +kernel
theorem dX5_add_9 : decode cX5_add 9 = .ok (.iload_n 3, 1) := by decide +kernel
theorem dX5_add_10 : decode cX5_add 10 = .ok (.invokevirtual 135, 3) := by decide +kernel
theorem dX5_add_13 : decode cX5_add 13 = .ok (.ifCond .ne 10, 3) := by decide +kernel
theorem dX5_add_16 : decode cX5_add 16 = .ok (.aload_n 0, 1) := by decide +kernel
theorem dX5_add_17 : decode cX5_add 17 = .ok (.bipush (-3), 2) := by decide +kernel
theorem dX5_add_19 : decode cX5_add 19 = .ok (.invokevirtual 114, 3) := by decide +kernel
theorem dX5_add_22 : decode cX5_add 22 = .ok (.ireturn, 1) := by decide +kernel
theorem dX5_add_23 : decode cX5_add 23 = .ok (.aload_n 0, 1) := by decide +kernel
theorem dX5_add_24 : decode cX5_add 24 = .ok (.getfield 17, 3) := by decide +kernel
theorem dX5_add_27 : decode cX5_add 27 = .ok (.iload_n 1, 1) := by decide +kernel
theorem dX5_add_28 : decode cX5_add 28 = .ok (.iaload, 1) := by decide +kernel
theorem dX5_add_29 : decode cX5_add 29 = .ok (.aload_n 0, 1) := by decide +kernel
theorem dX5_add_30 : decode cX5_add 30 = .ok (.getfield 17, 3) := by decide +kernel
theorem dX5_add_33 : decode cX5_add 33 = .ok (.iload_n 3, 1) := by decide +kernel
theorem dX5_add_34 : decode cX5_add 34 = .ok (.iaload, 1) := by decide +kernel
theorem dX5_add_35 : decode cX5_add 35 = .ok (.if_icmp .eq 10, 3) := by decide +kernel
theorem dX5_add_38 : decode cX5_add 38 = .ok (.aload_n 0, 1) := by decide +kernel
theorem dX5_add_39 : decode cX5_add 39 = .ok (.bipush (-7), 2) := by decide +kernel
theorem dX5_add_41 : decode cX5_add 41 = .ok (.invokevirtual 114, 3) := by decide +kernel
theorem dX5_add_44 : decode cX5_add 44 = .ok (.ireturn, 1) := by decide +kernel
theorem dX5_add_45 : decode cX5_add 45 = .ok (.iconst 0, 1) := by decide +kernel
theorem dX5_add_46 : decode cX5_add 46 = .ok (.istore 5, 2) := by decide +kernel
theorem dX5_add_48 : decode cX5_add 48 = .ok (.iload 5, 2) := by decide +kernel
theorem dX5_add_50 : decode cX5_add 50 = .ok (.bipush 48, 2) := by decide +kernel
theorem dX5_add_52 : decode cX5_add 52 = .ok (.if_icmp .ge 56, 3) := by decide +kernel
theorem dX5_add_55 : decode cX5_add 55 = .ok (.aload_n 0, 1) := by decide +kernel
theorem dX5_add_56 : decode cX5_add 56 = .ok (.getfield 38, 3) := by decide +kernel
theorem dX5_add_59 : decode cX5_add 59 = .ok (.iload 5, 2) := by decide +kernel
theorem dX5_add_61 : decode cX5_add 61 = .ok (.iload_n 2, 1) := by decide +kernel
theorem dX5_add_62 : decode cX5_add 62 = .ok (.invokestatic 138, 3) := by decide +kernel
theorem dX5_add_65 : decode cX5_add 65 = .ok (.aload_n 0, 1) := by decide +kernel
theorem dX5_add_66 : decode cX5_add 66 = .ok (.getfield 7, 3) := by decide +kernel
theorem dX5_add_69 : decode cX5_add 69 = .ok (.bipush 48, 2) := by decide +kernel
theorem dX5_add_71 : decode cX5_add 71 = .ok (.iload_n 1, 1) := by decide +kernel
theorem dX5_add_72 : decode cX5_add 72 = .ok (.imul, 1) := by decide +kernel
theorem dX5_add_73 : decode cX5_add 73 = .ok (.iload 5, 2) := by decide +kernel
theorem dX5_add_75 : decode cX5_add 75 = .ok (.iadd, 1) := by decide +kernel
theorem dX5_add_76 : decode cX5_add 76 = .ok (.laload, 1) := by decide +kernel
theorem dX5_add_77 : decode cX5_add 77 = .ok (.lmul, 1) := by decide +kernel
theorem dX5_add_78 : decode cX5_add 78 = .ok (.iload 4, 2) := by decide +kernel
theorem dX5_add_80 : decode cX5_add 80 = .ok (.invokestatic 138, 3) := by decide +kernel
theorem dX5_add_83 : decode cX5_add 83 = .ok (.aload_n 0, 1) := by decide +kernel
theorem dX5_add_84 : decode cX5_add 84 = .ok (.getfield 7, 3) := by decide +kernel
theorem dX5_add_87 : decode cX5_add 87 = .ok (.bipush 48, 2) := by decide +kernel
theorem dX5_add_89 : decode cX5_add 89 = .ok (.iload_n 3, 1) := by decide +kernel
theorem dX5_add_90 : decode cX5_add 90 = .ok (.imul, 1) := by decide +kernel
theorem dX5_add_91 : decode cX5_add 91 = .ok (.iload 5, 2) := by decide +kernel
theorem dX5_add_93 : decode cX5_add 93 = .ok (.iadd, 1) := by decide +kernel
theorem dX5_add_94 : decode cX5_add 94 = .ok (.laload, 1) := by decide +kernel
theorem dX5_add_95 : decode cX5_add 95 = .ok (.lmul, 1) := by decide +kernel
theorem dX5_add_96 : decode cX5_add 96 = .ok (.ladd, 1) := by decide +kernel
theorem dX5_add_97 : decode cX5_add 97 = .ok (.ldc2_w 79, 3) := by decide +kernel
theorem dX5_add_100 : decode cX5_add 100 = .ok (.lrem, 1) := by decide +kernel
theorem dX5_add_101 : decode cX5_add 101 = .ok (.lastore, 1) := by decide +kernel
theorem dX5_add_102 : decode cX5_add 102 = .ok (.iinc 5 1, 3) := by decide +kernel
theorem dX5_add_105 : decode cX5_add 105 = .ok (.goto (-57), 3) := by decide +kernel
theorem dX5_add_108 : decode cX5_add 108 = .ok (.aload_n 0, 1) := by decide +kernel
theorem dX5_add_109 : decode cX5_add 109 = .ok (.aload_n 0, 1) := by decide +kernel
theorem dX5_add_110 : decode cX5_add 110 = .ok (.getfield 17, 3) := by decide +kernel
theorem dX5_add_113 : decode cX5_add 113 = .ok (.iload_n 1, 1) := by decide +kernel
theorem dX5_add_114 : decode cX5_add 114 = .ok (.iaload, 1) := by decide +kernel
theorem dX5_add_115 : decode cX5_add 115 = .ok (.invokevirtual 142, 3) := by decide +kernel
theorem dX5_add_118 : decode cX5_add 118 = .ok (.ireturn, 1) := by decide +kernel
theorem dX5_times_0 : decode cX5_times 0 = .ok (.aload_n 0, 1) := by decide +kernel
theorem dX5_times_1 : decode cX5_times 1 = .ok (.iload_n 1, 1) := by decide +kernel
theorem dX5_times_2 : decode cX5_times 2 = .ok (.invokevirtual 135, 3) := by decide +kernel
theorem dX5_times_5 : decode cX5_times 5 = .ok (.ifCond .eq 11, 3) := by decide +kernel
theorem dX5_times_8 : decode cX5_times 8 = .ok (.aload_n 0, 1) := by decide +kernel
theorem dX5_times_9 : decode cX5_times 9 = .ok (.iload_n 2, 1) := by decide +kernel
theorem dX5_times_10 : decode cX5_times 10 = .ok (.invokevirtual 135, 3) := by decide +kernel
theorem dX5_times_13 : decode cX5_times 13 = .ok (.ifCond .ne 10, 3) := by decide +kernel
theorem dX5_times_16 : decode cX5_times 16 = .ok (.aload_n 0, 1) := by decide +kernel
theorem dX5_times_17 : decode cX5_times 17 = .ok (.bipush (-3), 2) := by decide +kernel
theorem dX5_times_19 : decode cX5_times 19 = .ok (.invokevirtual 114, 3) := by decide +kernel
theorem dX5_times_22 : decode cX5_times 22 = .ok (.ireturn, 1) := by decide +kernel
theorem dX5_times_23 : decode cX5_times 23 = .ok (.aload_n 0, 1) := by decide +kernel
theorem dX5_times_24 : decode cX5_times 24 = .ok (.aload_n 0, 1) := by decide +kernel
theorem dX5_times_25 : decode cX5_times 25 = .ok (.getfield 38, 3) := by decide +kernel
theorem dX5_times_28 : decode cX5_times 28 = .ok (.iload_n 1, 1) := by decide +kernel
theorem dX5_times_29 : decode cX5_times 29 = .ok (.invokevirtual 145, 3) := by decide +kernel
theorem dX5_times_32 : decode cX5_times 32 = .ok (.aload_n 0, 1) := by decide +kernel
theorem dX5_times_33 : decode cX5_times 33 = .ok (.aload_n 0, 1) := by decide +kernel
theorem dX5_times_34 : decode cX5_times 34 = .ok (.getfield 41, 3) := by decide +kernel
theorem dX5_times_37 : decode cX5_times 37 = .ok (.iload_n 2, 1) := by decide +kernel
theorem dX5_times_38 : decode cX5_times 38 = .ok (.invokevirtual 145, 3) := by decide +kernel
theorem dX5_times_41 : decode cX5_times 41 = .ok (.aload_n 0, 1) := by decide +kernel
theorem dX5_times_42 : decode cX5_times 42 = .ok (.aload_n 0, 1) := by decide +kernel
theorem dX5_times_43 : decode cX5_times 43 = .ok (.getfield 38, 3) := by decide +kernel
theorem dX5_times_46 : decode cX5_times 46 = .ok (.aload_n 0, 1) := by decide +kernel
theorem dX5_times_47 : decode cX5_times 47 = .ok (.getfield 41, 3) := by decide +kernel
theorem dX5_times_50 : decode cX5_times 50 = .ok (.invokevirtual 102, 3) := by decide +kernel
theorem dX5_times_53 : decode cX5_times 53 = .ok (.aload_n 0, 1) := by decide +kernel
theorem dX5_times_54 : decode cX5_times 54 = .ok (.aload_n 0, 1) := by decide +kernel
theorem dX5_times_55 : decode cX5_times 55 = .ok (.getfield 17, 3) := by decide +kernel
theorem dX5_times_58 : decode cX5_times 58 = .ok (.iload_n 1, 1) := by decide +kernel
theorem dX5_times_59 : decode cX5_times 59 = .ok (.iaload, 1) := by decide +kernel
theorem dX5_times_60 : decode cX5_times 60 = .ok (.aload_n 0, 1) := by decide +kernel
theorem dX5_times_61 : decode cX5_times 61 = .ok (.getfield 17, 3) := by decide +kernel
theorem dX5_times_64 : decode cX5_times 64 = .ok (.iload_n 2, 1) := by decide +kernel
theorem dX5_times_65 : decode cX5_times 65 = .ok (.iaload, 1) := by decide +kernel
theorem dX5_times_66 : decode cX5_times 66 = .ok (.iadd, 1) := by decide +kernel
theorem dX5_times_67 : decode cX5_times 67 = .ok (.invokevirtual 142, 3) := by decide +kernel
theorem dX5_times_70 : decode cX5_times 70 = .ok (.ireturn, 1) := by decide +kernel
theorem dX5_power_0 : decode cX5_power 0 = .ok (.aload_n 0, 1) := by decide +kernel
theorem dX5_power_1 : decode cX5_power 1 = .ok (.iload_n 1, 1) := by decide +kernel
theorem dX5_power_2 : decode cX5_power 2 = .ok (.invokevirtual 135, 3) := by decide +kernel
theorem dX5_power_5 : decode cX5_power 5 = .ok (.ifCond .ne 10, 3) := by decide +kernel
theorem dX5_power_8 : decode cX5_power 8 = .ok (.aload_n 0, 1) := by decide +kernel
theorem dX5_power_9 : decode cX5_power 9 = .ok (.bipush (-3), 2) := by decide +kernel
theorem dX5_power_11 : decode cX5_power 11 = .ok (.invokevirtual 114, 3) := by decide +kernel
theorem dX5_power_14 : decode cX5_power 14 = .ok (.ireturn, 1) := by decide +kernel
theorem dX5_power_15 : decode cX5_power 15 = .ok (.iload_n 2, 1) := by decide +kernel
theorem dX5_power_16 : decode cX5_power 16 = .ok (.ifCond .ge 10, 3) := by decide +kernel
theorem dX5_power_19 : decode cX5_power 19 = .ok (.aload_n 0, 1) := by decide +kernel
theorem dX5_power_20 : decode cX5_power 20 = .ok (.bipush (-4), 2) := by decide +kernel
theorem dX5_power_22 : decode cX5_power 22 = .ok (.invokevirtual 114, 3) := by decide +kernel
theorem dX5_power_25 : decode cX5_power 25 = .ok (.ireturn, 1) := by decide +kernel
theorem dX5_power_26 : decode cX5_power 26 = .ok (.iload_n 2, 1) := by decide +kernel
theorem dX5_power_27 : decode cX5_power 27 = .ok (.bipush 20, 2) := by decide +kernel
theorem dX5_power_29 : decode cX5_power 29 = .ok (.if_icmp .le 10, 3) := by decide +kernel
theorem dX5_power_32 : decode cX5_power 32 = .ok (.aload_n 0, 1) := by decide +kernel
theorem dX5_power_33 : decode cX5_power 33 = .ok (.bipush (-7), 2) := by decide +kernel
theorem dX5_power_35 : decode cX5_power 35 = .ok (.invokevirtual 114, 3) := by decide +kernel
theorem dX5_power_38 : decode cX5_power 38 = .ok (.ireturn, 1) := by decide +kernel
theorem dX5_power_39 : decode cX5_power 39 = .ok (.aload_n 0, 1) := by decide +kernel
theorem dX5_power_40 : decode cX5_power 40 = .ok (.aload_n 0, 1) := by decide +kernel
theorem dX5_power_41 : decode cX5_power 41 = .ok (.getfield 41, 3) := by decide +kernel
theorem dX5_power_44 : decode cX5_power 44 = .ok (.iload_n 1, 1) := by decide +kernel
theorem dX5_power_45 : decode cX5_power 45 = .ok (.invokevirtual 145, 3) := by decide +kernel
theorem dX5_power_48 : decode cX5_power 48 = .ok (.iconst 0, 1) := by decide +kernel
theorem dX5_power_49 : decode cX5_power 49 = .ok (.istore_n 3, 1) := by decide +kernel
theorem dX5_power_50 : decode cX5_power 50 = .ok (.iload_n 3, 1) := by decide +kernel
theorem dX5_power_51 : decode cX5_power 51 = .ok (.bipush 48, 2) := by decide +kernel
theorem dX5_power_53 : decode cX5_power 53 = .ok (.if_icmp .ge 24, 3) := by decide +kernel
theorem dX5_power_56 : decode cX5_power 56 = .ok (.aload_n 0, 1) := by decide +kernel
theorem dX5_power_57 : decode cX5_power 57 = .ok (.getfield 38, 3) := by decide +kernel
theorem dX5_power_60 : decode cX5_power 60 = .ok (.iload_n 3, 1) := by decide +kernel
theorem dX5_power_61 : decode cX5_power 61 = .ok (.iload_n 3, 1) := by decide +kernel
theorem dX5_power_62 : decode cX5_power 62 = .ok (.ifCond .ne 7, 3) := by decide +kernel
theorem dX5_power_65 : decode cX5_power 65 = .ok (.lconst 1, 1) := by decide +kernel
theorem dX5_power_66 : decode cX5_power 66 = .ok (.goto 4, 3) := by decide +kernel
theorem dX5_power_69 : decode cX5_power 69 = .ok (.lconst 0, 1) := by decide +kernel
theorem dX5_power_70 : decode cX5_power 70 = .ok (.lastore, 1) := by decide +kernel
theorem dX5_power_71 : decode cX5_power 71 = .ok (.iinc 3 1, 3) := by decide +kernel
theorem dX5_power_74 : decode cX5_power 74 = .ok (.goto (-24), 3) := by decide +kernel
theorem dX5_power_77 : decode cX5_power 77 = .ok (.iconst 0, 1) := by decide +kernel
theorem dX5_power_78 : decode cX5_power 78 = .ok (.istore_n 3, 1) := by decide +kernel
theorem dX5_power_79 : decode cX5_power 79 = .ok (.iload_n 3, 1) := by decide +kernel
theorem dX5_power_80 : decode cX5_power 80 = .ok (.iload_n 2, 1) := by decide +kernel
theorem dX5_power_81 : decode cX5_power 81 = .ok (.if_icmp .ge 21, 3) := by decide +kernel
theorem dX5_power_84 : decode cX5_power 84 = .ok (.aload_n 0, 1) := by decide +kernel
theorem dX5_power_85 : decode cX5_power 85 = .ok (.aload_n 0, 1) := by decide +kernel
theorem dX5_power_86 : decode cX5_power 86 = .ok (.getfield 38, 3) := by decide +kernel
theorem dX5_power_89 : decode cX5_power 89 = .ok (.aload_n 0, 1) := by decide +kernel
theorem dX5_power_90 : decode cX5_power 90 = .ok (.getfield 41, 3) := by decide +kernel
theorem dX5_power_93 : decode cX5_power 93 = .ok (.invokevirtual 102, 3) := by decide +kernel
theorem dX5_power_96 : decode cX5_power 96 = .ok (.iinc 3 1, 3) := by decide +kernel
theorem dX5_power_99 : decode cX5_power 99 = .ok (.goto (-20), 3) := by decide +kernel
theorem dX5_power_102 : decode cX5_power 102 = .ok (.aload_n 0, 1) := by decide +kernel
theorem dX5_power_103 : decode cX5_power 103 = .ok (.iload_n 2, 1) := by decide +kernel
theorem dX5_power_104 : decode cX5_power 104 = .ok (.aload_n 0, 1) := by decide +kernel
theorem dX5_power_105 : decode cX5_power 105 = .ok (.getfield 17, 3) := by decide +kernel
theorem dX5_power_108 : decode cX5_power 108 = .ok (.iload_n 1, 1) := by decide +kernel
theorem dX5_power_109 : decode cX5_power 109 = .ok (.iaload, 1) := by decide +kernel
theorem dX5_power_110 : decode cX5_power 110 = .ok (.imul, 1) := by decide +kernel
theorem dX5_power_111 : decode cX5_power 111 = .ok (.invokevirtual 142, 3) := by decide +kernel
theorem dX5_power_114 : decode cX5_power 114 = .ok (.ireturn, 1) := by decide +kernel
theorem dX5_slope_0 : decode cX5_slope 0 = .ok (.aload_n 0, 1) := by decide +kernel
theorem dX5_slope_1 : decode cX5_slope 1 = .ok (.iload_n 1, 1) := by decide +kernel
theorem dX5_slope_2 : decode cX5_slope 2 = .ok (.invokevirtual 135, 3) := by decide +kernel
theorem dX5_slope_5 : decode cX5_slope 5 = .ok (.ifCond .ne 10, 3) := by decide +kernel
theorem dX5_slope_8 : decode cX5_slope 8 = .ok (.aload_n 0, 1) := by decide +kernel
theorem dX5_slope_9 : decode cX5_slope 9 = .ok (.bipush (-3), 2) := by decide +kernel
theorem dX5_slope_11 : decode cX5_slope 11 = .ok (.invokevirtual 114, 3) := by decide +kernel
theorem dX5_slope_14 : decode cX5_slope 14 = .ok (.ireturn, 1) := by decide +kernel
theorem dX5_slope_15 : decode cX5_slope 15 = .ok (.aload_n 0, 1) := by decide +kernel
theorem dX5_slope_16 : decode cX5_slope 16 = .ok (.aload_n 0, 1) := by decide +kernel
theorem dX5_slope_17 : decode cX5_slope 17 = .ok (.getfield 38, 3) := by decide +kernel
theorem dX5_slope_20 : decode cX5_slope 20 = .ok (.iload_n 1, 1) := by decide +kernel
theorem dX5_slope_21 : decode cX5_slope 21 = .ok (.invokevirtual 145, 3) := by decide +kernel
theorem dX5_slope_24 : decode cX5_slope 24 = .ok (.aload_n 0, 1) := by decide +kernel
theorem dX5_slope_25 : decode cX5_slope 25 = .ok (.aload_n 0, 1) := by decide +kernel
theorem dX5_slope_26 : decode cX5_slope 26 = .ok (.getfield 38, 3) := by decide +kernel
theorem dX5_slope_29 : decode cX5_slope 29 = .ok (.aload_n 0, 1) := by decide +kernel
theorem dX5_slope_30 : decode cX5_slope 30 = .ok (.getfield 26, 3) := by decide +kernel
theorem dX5_slope_33 : decode cX5_slope 33 = .ok (.invokevirtual 102, 3) := by decide +kernel
theorem dX5_slope_36 : decode cX5_slope 36 = .ok (.aload_n 0, 1) := by decide +kernel
theorem dX5_slope_37 : decode cX5_slope 37 = .ok (.getfield 17, 3) := by decide +kernel
theorem dX5_slope_40 : decode cX5_slope 40 = .ok (.iload_n 1, 1) := by decide +kernel
theorem dX5_slope_41 : decode cX5_slope 41 = .ok (.iaload, 1) := by decide +kernel
theorem dX5_slope_42 : decode cX5_slope 42 = .ok (.i2l, 1) := by decide +kernel
theorem dX5_slope_43 : decode cX5_slope 43 = .ok (.ldc2_w 149, 3) := by decide +kernel
theorem dX5_slope_46 : decode cX5_slope 46 = .ok (.invokestatic 129, 3) := by decide +kernel
theorem dX5_slope_49 : decode cX5_slope 49 = .ok (.lmul, 1) := by decide +kernel
theorem dX5_slope_50 : decode cX5_slope 50 = .ok (.ldc2_w 79, 3) := by decide +kernel
theorem dX5_slope_53 : decode cX5_slope 53 = .ok (.lrem, 1) := by decide +kernel
theorem dX5_slope_54 : decode cX5_slope 54 = .ok (.lstore_n 2, 1) := by decide +kernel
theorem dX5_slope_55 : decode cX5_slope 55 = .ok (.iconst 0, 1) := by decide +kernel
theorem dX5_slope_56 : decode cX5_slope 56 = .ok (.istore 4, 2) := by decide +kernel
theorem dX5_slope_58 : decode cX5_slope 58 = .ok (.iload 4, 2) := by decide +kernel
theorem dX5_slope_60 : decode cX5_slope 60 = .ok (.bipush 48, 2) := by decide +kernel
theorem dX5_slope_62 : decode cX5_slope 62 = .ok (.if_icmp .ge 50, 3) := by decide +kernel
theorem dX5_slope_65 : decode cX5_slope 65 = .ok (.aload_n 0, 1) := by decide +kernel
theorem dX5_slope_66 : decode cX5_slope 66 = .ok (.getfield 38, 3) := by decide +kernel
theorem dX5_slope_69 : decode cX5_slope 69 = .ok (.iload 4, 2) := by decide +kernel
theorem dX5_slope_71 : decode cX5_slope 71 = .ok (.iload 4, 2) := by decide +kernel
theorem dX5_slope_73 : decode cX5_slope 73 = .ok (.i2l, 1) := by decide +kernel
theorem dX5_slope_74 : decode cX5_slope 74 = .ok (.aload_n 0, 1) := by decide +kernel
theorem dX5_slope_75 : decode cX5_slope 75 = .ok (.getfield 7, 3) := by decide +kernel
theorem dX5_slope_78 : decode cX5_slope 78 = .ok (.bipush 48, 2) := by decide +kernel
theorem dX5_slope_80 : decode cX5_slope 80 = .ok (.iload_n 1, 1) := by decide +kernel
theorem dX5_slope_81 : decode cX5_slope 81 = .ok (.imul, 1) := by decide +kernel
theorem dX5_slope_82 : decode cX5_slope 82 = .ok (.iload 4, 2) := by decide +kernel
theorem dX5_slope_84 : decode cX5_slope 84 = .ok (.iadd, 1) := by decide +kernel
theorem dX5_slope_85 : decode cX5_slope 85 = .ok (.laload, 1) := by decide +kernel
theorem dX5_slope_86 : decode cX5_slope 86 = .ok (.lmul, 1) := by decide +kernel
theorem dX5_slope_87 : decode cX5_slope 87 = .ok (.ldc2_w 79, 3) := by decide +kernel
theorem dX5_slope_90 : decode cX5_slope 90 = .ok (.lload_n 2, 1) := by decide +kernel
theorem dX5_slope_91 : decode cX5_slope 91 = .ok (.lsub, 1) := by decide +kernel
theorem dX5_slope_92 : decode cX5_slope 92 = .ok (.aload_n 0, 1) := by decide +kernel
theorem dX5_slope_93 : decode cX5_slope 93 = .ok (.getfield 38, 3) := by decide +kernel
theorem dX5_slope_96 : decode cX5_slope 96 = .ok (.iload 4, 2) := by decide +kernel
theorem dX5_slope_98 : decode cX5_slope 98 = .ok (.laload, 1) := by decide +kernel
theorem dX5_slope_99 : decode cX5_slope 99 = .ok (.lmul, 1) := by decide +kernel
theorem dX5_slope_100 : decode cX5_slope 100 = .ok (.ladd, 1) := by decide +kernel
theorem dX5_slope_101 : decode cX5_slope 101 = .ok (.ldc2_w 79, 3) := by decide +kernel
theorem dX5_slope_104 : decode cX5_slope 104 = .ok (.lrem, 1) := by decide +kernel
theorem dX5_slope_105 : decode cX5_slope 105 = .ok (.lastore, 1) := by decide +kernel
theorem dX5_slope_106 : decode cX5_slope 106 = .ok (.iinc 4 1, 3) := by decide +kernel
theorem dX5_slope_109 : decode cX5_slope 109 = .ok (.goto (-51), 3) := by decide +kernel
theorem dX5_slope_112 : decode cX5_slope 112 = .ok (.aload_n 0, 1) := by decide +kernel
theorem dX5_slope_113 : decode cX5_slope 113 = .ok (.aload_n 0, 1) := by decide +kernel
theorem dX5_slope_114 : decode cX5_slope 114 = .ok (.getfield 17, 3) := by decide +kernel
theorem dX5_slope_117 : decode cX5_slope 117 = .ok (.iload_n 1, 1) := by decide +kernel
theorem dX5_slope_118 : decode cX5_slope 118 = .ok (.iaload, 1) := by decide +kernel
theorem dX5_slope_119 : decode cX5_slope 119 = .ok (.iconst 2, 1) := by decide +kernel
theorem dX5_slope_120 : decode cX5_slope 120 = .ok (.iadd, 1) := by decide +kernel
theorem dX5_slope_121 : decode cX5_slope 121 = .ok (.invokevirtual 142, 3) := by decide +kernel
theorem dX5_slope_124 : decode cX5_slope 124 = .ok (.ireturn, 1) := by decide +kernel
theorem dX5_bracket_0 : decode cX5_bracket 0 = .ok (.aload_n 0, 1) := by decide +kernel
theorem dX5_bracket_1 : decode cX5_bracket 1 = .ok (.iload_n 1, 1) := by decide +kernel
theorem dX5_bracket_2 : decode cX5_bracket 2 = .ok (.invokevirtual 135, 3) := by decide +kernel
theorem dX5_bracket_5 : decode cX5_bracket 5 = .ok (.ifCond .eq 11, 3) := by decide +kernel
theorem dX5_bracket_8 : decode cX5_bracket 8 = .ok (.aload_n 0, 1) := by decide +kernel
theorem dX5_bracket_9 : decode cX5_bracket 9 = .ok (.iload_n 2, 1) := by decide +kernel
theorem dX5_bracket_10 : decode cX5_bracket 10 = .ok (.invokevirtual 135, 3) := by decide +kernel
theorem dX5_bracket_13 : decode cX5_bracket 13 = .ok (.ifCond .ne 10, 3) := by decide +kernel
theorem dX5_bracket_16 : decode cX5_bracket 16 = .ok (.aload_n 0, 1) := by decide +kernel
theorem dX5_bracket_17 : decode cX5_bracket 17 = .ok (.bipush (-3), 2) := by decide +kernel
theorem dX5_bracket_19 : decode cX5_bracket 19 = .ok (.invokevirtual 114, 3) := by decide +kernel
theorem dX5_bracket_22 : decode cX5_bracket 22 = .ok (.ireturn, 1) := by decide +kernel
theorem dX5_bracket_23 : decode cX5_bracket 23 = .ok (.iconst 0, 1) := by decide +kernel
theorem dX5_bracket_24 : decode cX5_bracket 24 = .ok (.istore_n 3, 1) := by decide +kernel
theorem dX5_bracket_25 : decode cX5_bracket 25 = .ok (.iload_n 3, 1) := by decide +kernel
theorem dX5_bracket_26 : decode cX5_bracket 26 = .ok (.bipush 48, 2) := by decide +kernel
theorem dX5_bracket_28 : decode cX5_bracket 28 = .ok (.if_icmp .ge 50, 3) := by decide +kernel
theorem dX5_bracket_31 : decode cX5_bracket 31 = .ok (.aload_n 0, 1) := by decide +kernel
theorem dX5_bracket_32 : decode cX5_bracket 32 = .ok (.getfield 50, 3) := by decide +kernel
theorem dX5_bracket_35 : decode cX5_bracket 35 = .ok (.iload_n 3, 1) := by decide +kernel
theorem dX5_bracket_36 : decode cX5_bracket 36 = .ok (.aload_n 0, 1) := by decide +kernel
theorem dX5_bracket_37 : decode cX5_bracket 37 = .ok (.getfield 7, 3) := by decide +kernel
theorem dX5_bracket_40 : decode cX5_bracket 40 = .ok (.bipush 48, 2) := by decide +kernel
theorem dX5_bracket_42 : decode cX5_bracket 42 = .ok (.iload_n 1, 1) := by decide +kernel
theorem dX5_bracket_43 : decode cX5_bracket 43 = .ok (.imul, 1) := by decide +kernel
theorem dX5_bracket_44 : decode cX5_bracket 44 = .ok (.iload_n 3, 1) := by decide +kernel
theorem dX5_bracket_45 : decode cX5_bracket 45 = .ok (.iadd, 1) := by decide +kernel
theorem dX5_bracket_46 : decode cX5_bracket 46 = .ok (.laload, 1) := by decide +kernel
theorem dX5_bracket_47 : decode cX5_bracket 47 = .ok (.lastore, 1) := by decide +kernel
theorem dX5_bracket_48 : decode cX5_bracket 48 = .ok (.aload_n 0, 1) := by decide +kernel
theorem dX5_bracket_49 : decode cX5_bracket 49 = .ok (.getfield 41, 3) := by decide +kernel
theorem dX5_bracket_52 : decode cX5_bracket 52 = .ok (.iload_n 3, 1) := by decide +kernel
theorem dX5_bracket_53 : decode cX5_bracket 53 = .ok (.iload_n 3, 1) := by decide +kernel
theorem dX5_bracket_54 : decode cX5_bracket 54 = .ok (.i2l, 1) := by decide +kernel
theorem dX5_bracket_55 : decode cX5_bracket 55 = .ok (.aload_n 0, 1) := by decide +kernel
theorem dX5_bracket_56 : decode cX5_bracket 56 = .ok (.getfield 7, 3) := by decide +kernel
theorem dX5_bracket_59 : decode cX5_bracket 59 = .ok (.bipush 48, 2) := by decide +kernel
theorem dX5_bracket_61 : decode cX5_bracket 61 = .ok (.iload_n 2, 1) := by decide +kernel
theorem dX5_bracket_62 : decode cX5_bracket 62 = .ok (.imul, 1) := by decide +kernel
theorem dX5_bracket_63 : decode cX5_bracket 63 = .ok (.iload_n 3, 1) := by decide +kernel
theorem dX5_bracket_64 : decode cX5_bracket 64 = .ok (.iadd, 1) := by decide +kernel
theorem dX5_bracket_65 : decode cX5_bracket 65 = .ok (.laload, 1) := by decide +kernel
theorem dX5_bracket_66 : decode cX5_bracket 66 = .ok (.lmul, 1) := by decide +kernel
theorem dX5_bracket_67 : decode cX5_bracket 67 = .ok (.ldc2_w 79, 3) := by decide +kernel
theorem dX5_bracket_70 : decode cX5_bracket 70 = .ok (.lrem, 1) := by decide +kernel
theorem dX5_bracket_71 : decode cX5_bracket 71 = .ok (.lastore, 1) := by decide +kernel
theorem dX5_bracket_72 : decode cX5_bracket 72 = .ok (.iinc 3 1, 3) := by decide +kernel
theorem dX5_bracket_75 : decode cX5_bracket 75 = .ok (.goto (-50), 3) := by decide +kernel
theorem dX5_bracket_78 : decode cX5_bracket 78 = .ok (.aload_n 0, 1) := by decide +kernel
theorem dX5_bracket_79 : decode cX5_bracket 79 = .ok (.aload_n 0, 1) := by decide +kernel
theorem dX5_bracket_80 : decode cX5_bracket 80 = .ok (.getfield 50, 3) := by decide +kernel
theorem dX5_bracket_83 : decode cX5_bracket 83 = .ok (.aload_n 0, 1) := by decide +kernel
theorem dX5_bracket_84 : decode cX5_bracket 84 = .ok (.getfield 41, 3) := by decide +kernel
theorem dX5_bracket_87 : decode cX5_bracket 87 = .ok (.invokevirtual 102, 3) := by decide +kernel
theorem dX5_bracket_90 : decode cX5_bracket 90 = .ok (.iconst 0, 1) := by decide +kernel
theorem dX5_bracket_91 : decode cX5_bracket 91 = .ok (.istore_n 3, 1) := by decide +kernel
theorem dX5_bracket_92 : decode cX5_bracket 92 = .ok (.iload_n 3, 1) := by decide +kernel
theorem dX5_bracket_93 : decode cX5_bracket 93 = .ok (.bipush 48, 2) := by decide +kernel
theorem dX5_bracket_95 : decode cX5_bracket 95 = .ok (.if_icmp .ge 50, 3) := by decide +kernel
theorem dX5_bracket_98 : decode cX5_bracket 98 = .ok (.aload_n 0, 1) := by decide +kernel
theorem dX5_bracket_99 : decode cX5_bracket 99 = .ok (.getfield 38, 3) := by decide +kernel
theorem dX5_bracket_102 : decode cX5_bracket 102 = .ok (.iload_n 3, 1) := by decide +kernel
theorem dX5_bracket_103 : decode cX5_bracket 103 = .ok (.iload_n 3, 1) := by decide +kernel
theorem dX5_bracket_104 : decode cX5_bracket 104 = .ok (.i2l, 1) := by decide +kernel
theorem dX5_bracket_105 : decode cX5_bracket 105 = .ok (.aload_n 0, 1) := by decide +kernel
theorem dX5_bracket_106 : decode cX5_bracket 106 = .ok (.getfield 7, 3) := by decide +kernel
theorem dX5_bracket_109 : decode cX5_bracket 109 = .ok (.bipush 48, 2) := by decide +kernel
theorem dX5_bracket_111 : decode cX5_bracket 111 = .ok (.iload_n 1, 1) := by decide +kernel
theorem dX5_bracket_112 : decode cX5_bracket 112 = .ok (.imul, 1) := by decide +kernel
theorem dX5_bracket_113 : decode cX5_bracket 113 = .ok (.iload_n 3, 1) := by decide +kernel
theorem dX5_bracket_114 : decode cX5_bracket 114 = .ok (.iadd, 1) := by decide +kernel
theorem dX5_bracket_115 : decode cX5_bracket 115 = .ok (.laload, 1) := by decide +kernel
theorem dX5_bracket_116 : decode cX5_bracket 116 = .ok (.lmul, 1) := by decide +kernel
theorem dX5_bracket_117 : decode cX5_bracket 117 = .ok (.ldc2_w 79, 3) := by decide +kernel
theorem dX5_bracket_120 : decode cX5_bracket 120 = .ok (.lrem, 1) := by decide +kernel
theorem dX5_bracket_121 : decode cX5_bracket 121 = .ok (.lastore, 1) := by decide +kernel
theorem dX5_bracket_122 : decode cX5_bracket 122 = .ok (.aload_n 0, 1) := by decide +kernel
theorem dX5_bracket_123 : decode cX5_bracket 123 = .ok (.getfield 41, 3) := by decide +kernel
theorem dX5_bracket_126 : decode cX5_bracket 126 = .ok (.iload_n 3, 1) := by decide +kernel
theorem dX5_bracket_127 : decode cX5_bracket 127 = .ok (.aload_n 0, 1) := by decide +kernel
theorem dX5_bracket_128 : decode cX5_bracket 128 = .ok (.getfield 7, 3) := by decide +kernel
theorem dX5_bracket_131 : decode cX5_bracket 131 = .ok (.bipush 48, 2) := by decide +kernel
theorem dX5_bracket_133 : decode cX5_bracket 133 = .ok (.iload_n 2, 1) := by decide +kernel
theorem dX5_bracket_134 : decode cX5_bracket 134 = .ok (.imul, 1) := by decide +kernel
theorem dX5_bracket_135 : decode cX5_bracket 135 = .ok (.iload_n 3, 1) := by decide +kernel
theorem dX5_bracket_136 : decode cX5_bracket 136 = .ok (.iadd, 1) := by decide +kernel
theorem dX5_bracket_137 : decode cX5_bracket 137 = .ok (.laload, 1) := by decide +kernel
theorem dX5_bracket_138 : decode cX5_bracket 138 = .ok (.lastore, 1) := by decide +kernel
theorem dX5_bracket_139 : decode cX5_bracket 139 = .ok (.iinc 3 1, 3) := by decide +kernel
theorem dX5_bracket_142 : decode cX5_bracket 142 = .ok (.goto (-50), 3) := by decide +kernel
theorem dX5_bracket_145 : decode cX5_bracket 145 = .ok (.aload_n 0, 1) := by decide +kernel
theorem dX5_bracket_146 : decode cX5_bracket 146 = .ok (.aload_n 0, 1) := by decide +kernel
theorem dX5_bracket_147 : decode cX5_bracket 147 = .ok (.getfield 38, 3) := by decide +kernel
theorem dX5_bracket_150 : decode cX5_bracket 150 = .ok (.aload_n 0, 1) := by decide +kernel
theorem dX5_bracket_151 : decode cX5_bracket 151 = .ok (.getfield 41, 3) := by decide +kernel
theorem dX5_bracket_154 : decode cX5_bracket 154 = .ok (.invokevirtual 102, 3) := by decide +kernel
theorem dX5_bracket_157 : decode cX5_bracket 157 = .ok (.iconst 0, 1) := by decide +kernel
theorem dX5_bracket_158 : decode cX5_bracket 158 = .ok (.istore_n 3, 1) := by decide +kernel
theorem dX5_bracket_159 : decode cX5_bracket 159 = .ok (.iload_n 3, 1) := by decide +kernel
theorem dX5_bracket_160 : decode cX5_bracket 160 = .ok (.bipush 48, 2) := by decide +kernel
theorem dX5_bracket_162 : decode cX5_bracket 162 = .ok (.if_icmp .ge 52, 3) := by decide +kernel
theorem dX5_bracket_165 : decode cX5_bracket 165 = .ok (.aload_n 0, 1) := by decide +kernel
theorem dX5_bracket_166 : decode cX5_bracket 166 = .ok (.getfield 38, 3) := by decide +kernel
theorem dX5_bracket_169 : decode cX5_bracket 169 = .ok (.iload_n 3, 1) := by decide +kernel
theorem dX5_bracket_170 : decode cX5_bracket 170 = .ok (.aload_n 0, 1) := by decide +kernel
theorem dX5_bracket_171 : decode cX5_bracket 171 = .ok (.getfield 17, 3) := by decide +kernel
theorem dX5_bracket_174 : decode cX5_bracket 174 = .ok (.iload_n 1, 1) := by decide +kernel
theorem dX5_bracket_175 : decode cX5_bracket 175 = .ok (.iaload, 1) := by decide +kernel
theorem dX5_bracket_176 : decode cX5_bracket 176 = .ok (.i2l, 1) := by decide +kernel
theorem dX5_bracket_177 : decode cX5_bracket 177 = .ok (.aload_n 0, 1) := by decide +kernel
theorem dX5_bracket_178 : decode cX5_bracket 178 = .ok (.getfield 50, 3) := by decide +kernel
theorem dX5_bracket_181 : decode cX5_bracket 181 = .ok (.iload_n 3, 1) := by decide +kernel
theorem dX5_bracket_182 : decode cX5_bracket 182 = .ok (.laload, 1) := by decide +kernel
theorem dX5_bracket_183 : decode cX5_bracket 183 = .ok (.lmul, 1) := by decide +kernel
theorem dX5_bracket_184 : decode cX5_bracket 184 = .ok (.ldc2_w 79, 3) := by decide +kernel
theorem dX5_bracket_187 : decode cX5_bracket 187 = .ok (.aload_n 0, 1) := by decide +kernel
theorem dX5_bracket_188 : decode cX5_bracket 188 = .ok (.getfield 17, 3) := by decide +kernel
theorem dX5_bracket_191 : decode cX5_bracket 191 = .ok (.iload_n 2, 1) := by decide +kernel
theorem dX5_bracket_192 : decode cX5_bracket 192 = .ok (.iaload, 1) := by decide +kernel
theorem dX5_bracket_193 : decode cX5_bracket 193 = .ok (.i2l, 1) := by decide +kernel
theorem dX5_bracket_194 : decode cX5_bracket 194 = .ok (.lsub, 1) := by decide +kernel
theorem dX5_bracket_195 : decode cX5_bracket 195 = .ok (.aload_n 0, 1) := by decide +kernel
theorem dX5_bracket_196 : decode cX5_bracket 196 = .ok (.getfield 38, 3) := by decide +kernel
theorem dX5_bracket_199 : decode cX5_bracket 199 = .ok (.iload_n 3, 1) := by decide +kernel
theorem dX5_bracket_200 : decode cX5_bracket 200 = .ok (.laload, 1) := by decide +kernel
theorem dX5_bracket_201 : decode cX5_bracket 201 = .ok (.lmul, 1) := by decide +kernel
theorem dX5_bracket_202 : decode cX5_bracket 202 = .ok (.ladd, 1) := by decide +kernel
theorem dX5_bracket_203 : decode cX5_bracket 203 = .ok (.ldc2_w 79, 3) := by decide +kernel
theorem dX5_bracket_206 : decode cX5_bracket 206 = .ok (.lrem, 1) := by decide +kernel
theorem dX5_bracket_207 : decode cX5_bracket 207 = .ok (.lastore, 1) := by decide +kernel
theorem dX5_bracket_208 : decode cX5_bracket 208 = .ok (.iinc 3 1, 3) := by decide +kernel
theorem dX5_bracket_211 : decode cX5_bracket 211 = .ok (.goto (-52), 3) := by decide +kernel
theorem dX5_bracket_214 : decode cX5_bracket 214 = .ok (.aload_n 0, 1) := by decide +kernel
theorem dX5_bracket_215 : decode cX5_bracket 215 = .ok (.aload_n 0, 1) := by decide +kernel
theorem dX5_bracket_216 : decode cX5_bracket 216 = .ok (.getfield 17, 3) := by decide +kernel
theorem dX5_bracket_219 : decode cX5_bracket 219 = .ok (.iload_n 1, 1) := by decide +kernel
theorem dX5_bracket_220 : decode cX5_bracket 220 = .ok (.iaload, 1) := by decide +kernel
theorem dX5_bracket_221 : decode cX5_bracket 221 = .ok (.aload_n 0, 1) := by decide +kernel
theorem dX5_bracket_222 : decode cX5_bracket 222 = .ok (.getfield 17, 3) := by decide +kernel
theorem dX5_bracket_225 : decode cX5_bracket 225 = .ok (.iload_n 2, 1) := by decide +kernel
theorem dX5_bracket_226 : decode cX5_bracket 226 = .ok (.iaload, 1) := by decide +kernel
theorem dX5_bracket_227 : decode cX5_bracket 227 = .ok (.iadd, 1) := by decide +kernel
theorem dX5_bracket_228 : decode cX5_bracket 228 = .ok (.iconst 2, 1) := by decide +kernel
theorem dX5_bracket_229 : decode cX5_bracket 229 = .ok (.iadd, 1) := by decide +kernel
theorem dX5_bracket_230 : decode cX5_bracket 230 = .ok (.invokevirtual 142, 3) := by decide +kernel
theorem dX5_bracket_233 : decode cX5_bracket 233 = .ok (.ireturn, 1) := by decide +kernel
theorem dX5_over_0 : decode cX5_over 0 = .ok (.aload_n 0, 1) := by decide +kernel
theorem dX5_over_1 : decode cX5_over 1 = .ok (.iload_n 1, 1) := by decide +kernel
theorem dX5_over_2 : decode cX5_over 2 = .ok (.invokevirtual 135, 3) := by decide +kernel
theorem dX5_over_5 : decode cX5_over 5 = .ok (.ifCond .ne 10, 3) := by decide +kernel
theorem dX5_over_8 : decode cX5_over 8 = .ok (.aload_n 0, 1) := by decide +kernel
theorem dX5_over_9 : decode cX5_over 9 = .ok (.bipush (-3), 2) := by decide +kernel
theorem dX5_over_11 : decode cX5_over 11 = .ok (.invokevirtual 114, 3) := by decide +kernel
theorem dX5_over_14 : decode cX5_over 14 = .ok (.ireturn, 1) := by decide +kernel
theorem dX5_over_15 : decode cX5_over 15 = .ok (.aload_n 0, 1) := by decide +kernel
theorem dX5_over_16 : decode cX5_over 16 = .ok (.getfield 17, 3) := by decide +kernel
theorem dX5_over_19 : decode cX5_over 19 = .ok (.iload_n 1, 1) := by decide +kernel
theorem dX5_over_20 : decode cX5_over 20 = .ok (.iaload, 1) := by decide +kernel
theorem dX5_over_21 : decode cX5_over 21 = .ok (.bipush 12, 2) := by decide +kernel
theorem dX5_over_23 : decode cX5_over 23 = .ok (.if_icmp .lt 17, 3) := by decide +kernel
theorem dX5_over_26 : decode cX5_over 26 = .ok (.aload_n 0, 1) := by decide +kernel
theorem dX5_over_27 : decode cX5_over 27 = .ok (.getfield 7, 3) := by decide +kernel
theorem dX5_over_30 : decode cX5_over 30 = .ok (.bipush 48, 2) := by decide +kernel
theorem dX5_over_32 : decode cX5_over 32 = .ok (.iload_n 1, 1) := by decide +kernel
theorem dX5_over_33 : decode cX5_over 33 = .ok (.imul, 1) := by decide +kernel
theorem dX5_over_34 : decode cX5_over 34 = .ok (.laload, 1) := by decide +kernel
theorem dX5_over_35 : decode cX5_over 35 = .ok (.lconst 0, 1) := by decide +kernel
theorem dX5_over_36 : decode cX5_over 36 = .ok (.lcmp, 1) := by decide +kernel
theorem dX5_over_37 : decode cX5_over 37 = .ok (.ifCond .eq 10, 3) := by decide +kernel
theorem dX5_over_40 : decode cX5_over 40 = .ok (.aload_n 0, 1) := by decide +kernel
theorem dX5_over_41 : decode cX5_over 41 = .ok (.bipush (-7), 2) := by decide +kernel
theorem dX5_over_43 : decode cX5_over 43 = .ok (.invokevirtual 114, 3) := by decide +kernel
theorem dX5_over_46 : decode cX5_over 46 = .ok (.ireturn, 1) := by decide +kernel
theorem dX5_over_47 : decode cX5_over 47 = .ok (.aload_n 0, 1) := by decide +kernel
theorem dX5_over_48 : decode cX5_over 48 = .ok (.aload_n 0, 1) := by decide +kernel
theorem dX5_over_49 : decode cX5_over 49 = .ok (.getfield 50, 3) := by decide +kernel
theorem dX5_over_52 : decode cX5_over 52 = .ok (.iload_n 1, 1) := by decide +kernel
theorem dX5_over_53 : decode cX5_over 53 = .ok (.invokevirtual 145, 3) := by decide +kernel
theorem dX5_over_56 : decode cX5_over 56 = .ok (.aload_n 0, 1) := by decide +kernel
theorem dX5_over_57 : decode cX5_over 57 = .ok (.aload_n 0, 1) := by decide +kernel
theorem dX5_over_58 : decode cX5_over 58 = .ok (.getfield 50, 3) := by decide +kernel
theorem dX5_over_61 : decode cX5_over 61 = .ok (.aload_n 0, 1) := by decide +kernel
theorem dX5_over_62 : decode cX5_over 62 = .ok (.getfield 17, 3) := by decide +kernel
theorem dX5_over_65 : decode cX5_over 65 = .ok (.iload_n 1, 1) := by decide +kernel
theorem dX5_over_66 : decode cX5_over 66 = .ok (.iaload, 1) := by decide +kernel
theorem dX5_over_67 : decode cX5_over 67 = .ok (.invokevirtual 151, 3) := by decide +kernel
theorem dX5_over_70 : decode cX5_over 70 = .ok (.aload_n 0, 1) := by decide +kernel
theorem dX5_over_71 : decode cX5_over 71 = .ok (.aload_n 0, 1) := by decide +kernel
theorem dX5_over_72 : decode cX5_over 72 = .ok (.getfield 17, 3) := by decide +kernel
theorem dX5_over_75 : decode cX5_over 75 = .ok (.iload_n 1, 1) := by decide +kernel
theorem dX5_over_76 : decode cX5_over 76 = .ok (.iaload, 1) := by decide +kernel
theorem dX5_over_77 : decode cX5_over 77 = .ok (.bipush 12, 2) := by decide +kernel
theorem dX5_over_79 : decode cX5_over 79 = .ok (.isub, 1) := by decide +kernel
theorem dX5_over_80 : decode cX5_over 80 = .ok (.iconst 1, 1) := by decide +kernel
theorem dX5_over_81 : decode cX5_over 81 = .ok (.invokevirtual 154, 3) := by decide +kernel
theorem dX5_over_84 : decode cX5_over 84 = .ok (.aload_n 0, 1) := by decide +kernel
theorem dX5_over_85 : decode cX5_over 85 = .ok (.aload_n 0, 1) := by decide +kernel
theorem dX5_over_86 : decode cX5_over 86 = .ok (.getfield 17, 3) := by decide +kernel
theorem dX5_over_89 : decode cX5_over 89 = .ok (.iload_n 1, 1) := by decide +kernel
theorem dX5_over_90 : decode cX5_over 90 = .ok (.iaload, 1) := by decide +kernel
theorem dX5_over_91 : decode cX5_over 91 = .ok (.bipush 12, 2) := by decide +kernel
theorem dX5_over_93 : decode cX5_over 93 = .ok (.isub, 1) := by decide +kernel
theorem dX5_over_94 : decode cX5_over 94 = .ok (.invokevirtual 142, 3) := by decide +kernel
theorem dX5_over_97 : decode cX5_over 97 = .ok (.ireturn, 1) := by decide +kernel
theorem dX5_isPrime_0 : decode cX5_isPrime 0 = .ok (.iload_n 0, 1) := by decide +kernel
theorem dX5_isPrime_1 : decode cX5_isPrime 1 = .ok (.iconst 2, 1) := by decide +kernel
theorem dX5_isPrime_2 : decode cX5_isPrime 2 = .ok (.if_icmp .eq 25, 3) := by decide +kernel
theorem dX5_isPrime_5 : decode cX5_isPrime 5 = .ok (.iload_n 0, 1) := by decide +kernel
theorem dX5_isPrime_6 : decode cX5_isPrime 6 = .ok (.iconst 3, 1) := by decide +kernel
theorem dX5_isPrime_7 : decode cX5_isPrime 7 = .ok (.if_icmp .eq 20, 3) := by decide +kernel
theorem dX5_isPrime_10 : decode cX5_isPrime 10 = .ok (.iload_n 0, 1) := by decide +kernel
theorem dX5_isPrime_11 : decode cX5_isPrime 11 = .ok (.iconst 5, 1) := by decide +kernel
theorem dX5_isPrime_12 : decode cX5_isPrime 12 = .ok (.if_icmp .eq 15, 3) := by decide +kernel
theorem dX5_isPrime_15 : decode cX5_isPrime 15 = .ok (.iload_n 0, 1) := by decide +kernel
theorem dX5_isPrime_16 : decode cX5_isPrime 16 = .ok (.bipush 7, 2) := by decide +kernel
theorem dX5_isPrime_18 : decode cX5_isPrime 18 = .ok (.if_icmp .eq 9, 3) := by decide +kernel
theorem dX5_isPrime_21 : decode cX5_isPrime 21 = .ok (.iload_n 0, 1) := by decide +kernel
theorem dX5_isPrime_22 : decode cX5_isPrime 22 = .ok (.bipush 11, 2) := by decide +kernel
theorem dX5_isPrime_24 : decode cX5_isPrime 24 = .ok (.if_icmp .ne 7, 3) := by decide +kernel
theorem dX5_isPrime_27 : decode cX5_isPrime 27 = .ok (.iconst 1, 1) := by decide +kernel
theorem dX5_isPrime_28 : decode cX5_isPrime 28 = .ok (.goto 4, 3) := by decide +kernel
theorem dX5_isPrime_31 : decode cX5_isPrime 31 = .ok (.iconst 0, 1) := by decide +kernel
theorem dX5_isPrime_32 : decode cX5_isPrime 32 = .ok (.ireturn, 1) := by decide +kernel
theorem dX5_doesTo_0 : decode cX5_doesTo 0 = .ok (.iload_n 1, 1) := by decide +kernel
theorem dX5_doesTo_1 : decode cX5_doesTo 1 = .ok (.invokestatic 106, 3) := by decide +kernel
theorem dX5_doesTo_4 : decode cX5_doesTo 4 = .ok (.istore_n 3, 1) := by decide +kernel
theorem dX5_doesTo_5 : decode cX5_doesTo 5 = .ok (.iconst 0, 1) := by decide +kernel
theorem dX5_doesTo_6 : decode cX5_doesTo 6 = .ok (.istore 4, 2) := by decide +kernel
theorem dX5_doesTo_8 : decode cX5_doesTo 8 = .ok (.iload 4, 2) := by decide +kernel
theorem dX5_doesTo_10 : decode cX5_doesTo 10 = .ok (.iload_n 3, 1) := by decide +kernel
theorem dX5_doesTo_11 : decode cX5_doesTo 11 = .ok (.if_icmp .ge 59, 3) := by decide +kernel
theorem dX5_doesTo_14 : decode cX5_doesTo 14 = .ok (.aload_n 0, 1) := by decide +kernel
theorem dX5_doesTo_15 : decode cX5_doesTo 15 = .ok (.getfield 38, 3) := by decide +kernel
theorem dX5_doesTo_18 : decode cX5_doesTo 18 = .ok (.iload 4, 2) := by decide +kernel
theorem dX5_doesTo_20 : decode cX5_doesTo 20 = .ok (.aload_n 0, 1) := by decide +kernel
theorem dX5_doesTo_21 : decode cX5_doesTo 21 = .ok (.getfield 50, 3) := by decide +kernel
theorem dX5_doesTo_24 : decode cX5_doesTo 24 = .ok (.iload_n 2, 1) := by decide +kernel
theorem dX5_doesTo_25 : decode cX5_doesTo 25 = .ok (.iload 4, 2) := by decide +kernel
theorem dX5_doesTo_27 : decode cX5_doesTo 27 = .ok (.imul, 1) := by decide +kernel
theorem dX5_doesTo_28 : decode cX5_doesTo 28 = .ok (.laload, 1) := by decide +kernel
theorem dX5_doesTo_29 : decode cX5_doesTo 29 = .ok (.iload 4, 2) := by decide +kernel
theorem dX5_doesTo_31 : decode cX5_doesTo 31 = .ok (.iload_n 2, 1) := by decide +kernel
theorem dX5_doesTo_32 : decode cX5_doesTo 32 = .ok (.irem, 1) := by decide +kernel
theorem dX5_doesTo_33 : decode cX5_doesTo 33 = .ok (.ifCond .ne 24, 3) := by decide +kernel
theorem dX5_doesTo_36 : decode cX5_doesTo 36 = .ok (.iload_n 2, 1) := by decide +kernel
theorem dX5_doesTo_37 : decode cX5_doesTo 37 = .ok (.i2l, 1) := by decide +kernel
theorem dX5_doesTo_38 : decode cX5_doesTo 38 = .ok (.iload_n 1, 1) := by decide +kernel
theorem dX5_doesTo_39 : decode cX5_doesTo 39 = .ok (.iconst 1, 1) := by decide +kernel
theorem dX5_doesTo_40 : decode cX5_doesTo 40 = .ok (.isub, 1) := by decide +kernel
theorem dX5_doesTo_41 : decode cX5_doesTo 41 = .ok (.invokestatic 85, 3) := by decide +kernel
theorem dX5_doesTo_44 : decode cX5_doesTo 44 = .ok (.aload_n 0, 1) := by decide +kernel
theorem dX5_doesTo_45 : decode cX5_doesTo 45 = .ok (.getfield 50, 3) := by decide +kernel
theorem dX5_doesTo_48 : decode cX5_doesTo 48 = .ok (.iload 4, 2) := by decide +kernel
theorem dX5_doesTo_50 : decode cX5_doesTo 50 = .ok (.iload_n 2, 1) := by decide +kernel
theorem dX5_doesTo_51 : decode cX5_doesTo 51 = .ok (.idiv, 1) := by decide +kernel
theorem dX5_doesTo_52 : decode cX5_doesTo 52 = .ok (.laload, 1) := by decide +kernel
theorem dX5_doesTo_53 : decode cX5_doesTo 53 = .ok (.lmul, 1) := by decide +kernel
theorem dX5_doesTo_54 : decode cX5_doesTo 54 = .ok (.goto 4, 3) := by decide +kernel
theorem dX5_doesTo_57 : decode cX5_doesTo 57 = .ok (.lconst 0, 1) := by decide +kernel
theorem dX5_doesTo_58 : decode cX5_doesTo 58 = .ok (.ladd, 1) := by decide +kernel
theorem dX5_doesTo_59 : decode cX5_doesTo 59 = .ok (.ldc2_w 79, 3) := by decide +kernel
theorem dX5_doesTo_62 : decode cX5_doesTo 62 = .ok (.lrem, 1) := by decide +kernel
theorem dX5_doesTo_63 : decode cX5_doesTo 63 = .ok (.lastore, 1) := by decide +kernel
theorem dX5_doesTo_64 : decode cX5_doesTo 64 = .ok (.iinc 4 1, 3) := by decide +kernel
theorem dX5_doesTo_67 : decode cX5_doesTo 67 = .ok (.goto (-59), 3) := by decide +kernel
theorem dX5_doesTo_70 : decode cX5_doesTo 70 = .ok (.aload_n 0, 1) := by decide +kernel
theorem dX5_doesTo_71 : decode cX5_doesTo 71 = .ok (.aload_n 0, 1) := by decide +kernel
theorem dX5_doesTo_72 : decode cX5_doesTo 72 = .ok (.getfield 38, 3) := by decide +kernel
theorem dX5_doesTo_75 : decode cX5_doesTo 75 = .ok (.iload_n 1, 1) := by decide +kernel
theorem dX5_doesTo_76 : decode cX5_doesTo 76 = .ok (.invokevirtual 151, 3) := by decide +kernel
theorem dX5_doesTo_79 : decode cX5_doesTo 79 = .ok (.return_, 1) := by decide +kernel
theorem dX5_prime_0 : decode cX5_prime 0 = .ok (.aload_n 0, 1) := by decide +kernel
theorem dX5_prime_1 : decode cX5_prime 1 = .ok (.iload_n 1, 1) := by decide +kernel
theorem dX5_prime_2 : decode cX5_prime 2 = .ok (.invokevirtual 135, 3) := by decide +kernel
theorem dX5_prime_5 : decode cX5_prime 5 = .ok (.ifCond .ne 10, 3) := by decide +kernel
theorem dX5_prime_8 : decode cX5_prime 8 = .ok (.aload_n 0, 1) := by decide +kernel
theorem dX5_prime_9 : decode cX5_prime 9 = .ok (.bipush (-3), 2) := by decide +kernel
theorem dX5_prime_11 : decode cX5_prime 11 = .ok (.invokevirtual 114, 3) := by decide +kernel
theorem dX5_prime_14 : decode cX5_prime 14 = .ok (.ireturn, 1) := by decide +kernel
theorem dX5_prime_15 : decode cX5_prime 15 = .ok (.iload_n 2, 1) := by decide +kernel
theorem dX5_prime_16 : decode cX5_prime 16 = .ok (.invokestatic 157, 3) := by decide +kernel
theorem dX5_prime_19 : decode cX5_prime 19 = .ok (.ifCond .eq 13, 3) := by decide +kernel
theorem dX5_prime_22 : decode cX5_prime 22 = .ok (.aload_n 0, 1) := by decide +kernel
theorem dX5_prime_23 : decode cX5_prime 23 = .ok (.getfield 17, 3) := by decide +kernel
theorem dX5_prime_26 : decode cX5_prime 26 = .ok (.iload_n 1, 1) := by decide +kernel
theorem dX5_prime_27 : decode cX5_prime 27 = .ok (.iaload, 1) := by decide +kernel
theorem dX5_prime_28 : decode cX5_prime 28 = .ok (.iconst 4, 1) := by decide +kernel
theorem dX5_prime_29 : decode cX5_prime 29 = .ok (.if_icmp .ge 10, 3) := by decide +kernel
theorem dX5_prime_32 : decode cX5_prime 32 = .ok (.aload_n 0, 1) := by decide +kernel
theorem dX5_prime_33 : decode cX5_prime 33 = .ok (.bipush (-7), 2) := by decide +kernel
theorem dX5_prime_35 : decode cX5_prime 35 = .ok (.invokevirtual 114, 3) := by decide +kernel
theorem dX5_prime_38 : decode cX5_prime 38 = .ok (.ireturn, 1) := by decide +kernel
theorem dX5_prime_39 : decode cX5_prime 39 = .ok (.aload_n 0, 1) := by decide +kernel
theorem dX5_prime_40 : decode cX5_prime 40 = .ok (.aload_n 0, 1) := by decide +kernel
theorem dX5_prime_41 : decode cX5_prime 41 = .ok (.getfield 50, 3) := by decide +kernel
theorem dX5_prime_44 : decode cX5_prime 44 = .ok (.iload_n 1, 1) := by decide +kernel
theorem dX5_prime_45 : decode cX5_prime 45 = .ok (.invokevirtual 145, 3) := by decide +kernel
theorem dX5_prime_48 : decode cX5_prime 48 = .ok (.aload_n 0, 1) := by decide +kernel
theorem dX5_prime_49 : decode cX5_prime 49 = .ok (.aload_n 0, 1) := by decide +kernel
theorem dX5_prime_50 : decode cX5_prime 50 = .ok (.getfield 17, 3) := by decide +kernel
theorem dX5_prime_53 : decode cX5_prime 53 = .ok (.iload_n 1, 1) := by decide +kernel
theorem dX5_prime_54 : decode cX5_prime 54 = .ok (.iaload, 1) := by decide +kernel
theorem dX5_prime_55 : decode cX5_prime 55 = .ok (.iload_n 2, 1) := by decide +kernel
theorem dX5_prime_56 : decode cX5_prime 56 = .ok (.invokevirtual 160, 3) := by decide +kernel
theorem dX5_prime_59 : decode cX5_prime 59 = .ok (.aload_n 0, 1) := by decide +kernel
theorem dX5_prime_60 : decode cX5_prime 60 = .ok (.aload_n 0, 1) := by decide +kernel
theorem dX5_prime_61 : decode cX5_prime 61 = .ok (.getfield 17, 3) := by decide +kernel
theorem dX5_prime_64 : decode cX5_prime 64 = .ok (.iload_n 1, 1) := by decide +kernel
theorem dX5_prime_65 : decode cX5_prime 65 = .ok (.iaload, 1) := by decide +kernel
theorem dX5_prime_66 : decode cX5_prime 66 = .ok (.iconst 0, 1) := by decide +kernel
theorem dX5_prime_67 : decode cX5_prime 67 = .ok (.invokevirtual 154, 3) := by decide +kernel
theorem dX5_prime_70 : decode cX5_prime 70 = .ok (.aload_n 0, 1) := by decide +kernel
theorem dX5_prime_71 : decode cX5_prime 71 = .ok (.aload_n 0, 1) := by decide +kernel
theorem dX5_prime_72 : decode cX5_prime 72 = .ok (.getfield 17, 3) := by decide +kernel
theorem dX5_prime_75 : decode cX5_prime 75 = .ok (.iload_n 1, 1) := by decide +kernel
theorem dX5_prime_76 : decode cX5_prime 76 = .ok (.iaload, 1) := by decide +kernel
theorem dX5_prime_77 : decode cX5_prime 77 = .ok (.invokevirtual 142, 3) := by decide +kernel
theorem dX5_prime_80 : decode cX5_prime 80 = .ok (.ireturn, 1) := by decide +kernel
theorem dX5_basis_0 : decode cX5_basis 0 = .ok (.iload_n 1, 1) := by decide +kernel
theorem dX5_basis_1 : decode cX5_basis 1 = .ok (.invokestatic 163, 3) := by decide +kernel
theorem dX5_basis_4 : decode cX5_basis 4 = .ok (.ifCond .ne 10, 3) := by decide +kernel
theorem dX5_basis_7 : decode cX5_basis 7 = .ok (.aload_n 0, 1) := by decide +kernel
theorem dX5_basis_8 : decode cX5_basis 8 = .ok (.bipush (-7), 2) := by decide +kernel
theorem dX5_basis_10 : decode cX5_basis 10 = .ok (.invokevirtual 114, 3) := by decide +kernel
theorem dX5_basis_13 : decode cX5_basis 13 = .ok (.ireturn, 1) := by decide +kernel
theorem dX5_basis_14 : decode cX5_basis 14 = .ok (.iload_n 2, 1) := by decide +kernel
theorem dX5_basis_15 : decode cX5_basis 15 = .ok (.i2l, 1) := by decide +kernel
theorem dX5_basis_16 : decode cX5_basis 16 = .ok (.lconst 0, 1) := by decide +kernel
theorem dX5_basis_17 : decode cX5_basis 17 = .ok (.iload_n 1, 1) := by decide +kernel
theorem dX5_basis_18 : decode cX5_basis 18 = .ok (.invokestatic 106, 3) := by decide +kernel
theorem dX5_basis_21 : decode cX5_basis 21 = .ok (.iconst 1, 1) := by decide +kernel
theorem dX5_basis_22 : decode cX5_basis 22 = .ok (.isub, 1) := by decide +kernel
theorem dX5_basis_23 : decode cX5_basis 23 = .ok (.i2l, 1) := by decide +kernel
theorem dX5_basis_24 : decode cX5_basis 24 = .ok (.invokestatic 98, 3) := by decide +kernel
theorem dX5_basis_27 : decode cX5_basis 27 = .ok (.ifCond .ne 10, 3) := by decide +kernel
theorem dX5_basis_30 : decode cX5_basis 30 = .ok (.aload_n 0, 1) := by decide +kernel
theorem dX5_basis_31 : decode cX5_basis 31 = .ok (.bipush (-3), 2) := by decide +kernel
theorem dX5_basis_33 : decode cX5_basis 33 = .ok (.invokevirtual 114, 3) := by decide +kernel
theorem dX5_basis_36 : decode cX5_basis 36 = .ok (.ireturn, 1) := by decide +kernel
theorem dX5_basis_37 : decode cX5_basis 37 = .ok (.aload_n 0, 1) := by decide +kernel
theorem dX5_basis_38 : decode cX5_basis 38 = .ok (.iload_n 1, 1) := by decide +kernel
theorem dX5_basis_39 : decode cX5_basis 39 = .ok (.iload_n 2, 1) := by decide +kernel
theorem dX5_basis_40 : decode cX5_basis 40 = .ok (.invokevirtual 110, 3) := by decide +kernel
theorem dX5_basis_43 : decode cX5_basis 43 = .ok (.iconst 0, 1) := by decide +kernel
theorem dX5_basis_44 : decode cX5_basis 44 = .ok (.istore_n 3, 1) := by decide +kernel
theorem dX5_basis_45 : decode cX5_basis 45 = .ok (.iload_n 3, 1) := by decide +kernel
theorem dX5_basis_46 : decode cX5_basis 46 = .ok (.bipush 48, 2) := by decide +kernel
theorem dX5_basis_48 : decode cX5_basis 48 = .ok (.if_icmp .ge 21, 3) := by decide +kernel
theorem dX5_basis_51 : decode cX5_basis 51 = .ok (.aload_n 0, 1) := by decide +kernel
theorem dX5_basis_52 : decode cX5_basis 52 = .ok (.getfield 38, 3) := by decide +kernel
theorem dX5_basis_55 : decode cX5_basis 55 = .ok (.iload_n 3, 1) := by decide +kernel
theorem dX5_basis_56 : decode cX5_basis 56 = .ok (.aload_n 0, 1) := by decide +kernel
theorem dX5_basis_57 : decode cX5_basis 57 = .ok (.getfield 44, 3) := by decide +kernel
theorem dX5_basis_60 : decode cX5_basis 60 = .ok (.iload_n 3, 1) := by decide +kernel
theorem dX5_basis_61 : decode cX5_basis 61 = .ok (.laload, 1) := by decide +kernel
theorem dX5_basis_62 : decode cX5_basis 62 = .ok (.lastore, 1) := by decide +kernel
theorem dX5_basis_63 : decode cX5_basis 63 = .ok (.iinc 3 1, 3) := by decide +kernel
theorem dX5_basis_66 : decode cX5_basis 66 = .ok (.goto (-21), 3) := by decide +kernel
theorem dX5_basis_69 : decode cX5_basis 69 = .ok (.aload_n 0, 1) := by decide +kernel
theorem dX5_basis_70 : decode cX5_basis 70 = .ok (.iload_n 1, 1) := by decide +kernel
theorem dX5_basis_71 : decode cX5_basis 71 = .ok (.invokevirtual 142, 3) := by decide +kernel
theorem dX5_basis_74 : decode cX5_basis 74 = .ok (.ireturn, 1) := by decide +kernel
theorem dX5_drop_0 : decode cX5_drop 0 = .ok (.aload_n 0, 1) := by decide +kernel
theorem dX5_drop_1 : decode cX5_drop 1 = .ok (.getfield 89, 3) := by decide +kernel
theorem dX5_drop_4 : decode cX5_drop 4 = .ok (.ifCond .ne 10, 3) := by decide +kernel
theorem dX5_drop_7 : decode cX5_drop 7 = .ok (.aload_n 0, 1) := by decide +kernel
theorem dX5_drop_8 : decode cX5_drop 8 = .ok (.bipush (-2), 2) := by decide +kernel
theorem dX5_drop_10 : decode cX5_drop 10 = .ok (.invokevirtual 114, 3) := by decide +kernel
theorem dX5_drop_13 : decode cX5_drop 13 = .ok (.ireturn, 1) := by decide +kernel
theorem dX5_drop_14 : decode cX5_drop 14 = .ok (.aload_n 0, 1) := by decide +kernel
theorem dX5_drop_15 : decode cX5_drop 15 = .ok (.dup, 1) := by decide +kernel
theorem dX5_drop_16 : decode cX5_drop 16 = .ok (.getfield 89, 3) := by decide +kernel
theorem dX5_drop_19 : decode cX5_drop 19 = .ok (.iconst 1, 1) := by decide +kernel
theorem dX5_drop_20 : decode cX5_drop 20 = .ok (.isub, 1) := by decide +kernel
theorem dX5_drop_21 : decode cX5_drop 21 = .ok (.putfield 89, 3) := by decide +kernel
theorem dX5_drop_24 : decode cX5_drop 24 = .ok (.aload_n 0, 1) := by decide +kernel
theorem dX5_drop_25 : decode cX5_drop 25 = .ok (.getfield 89, 3) := by decide +kernel
theorem dX5_drop_28 : decode cX5_drop 28 = .ok (.ireturn, 1) := by decide +kernel
theorem dX5_leastOf_0 : decode cX5_leastOf 0 = .ok (.iconst 0, 1) := by decide +kernel
theorem dX5_leastOf_1 : decode cX5_leastOf 1 = .ok (.istore_n 2, 1) := by decide +kernel
theorem dX5_leastOf_2 : decode cX5_leastOf 2 = .ok (.iload_n 2, 1) := by decide +kernel
theorem dX5_leastOf_3 : decode cX5_leastOf 3 = .ok (.bipush 48, 2) := by decide +kernel
theorem dX5_leastOf_5 : decode cX5_leastOf 5 = .ok (.if_icmp .ge 25, 3) := by decide +kernel
theorem dX5_leastOf_8 : decode cX5_leastOf 8 = .ok (.aload_n 0, 1) := by decide +kernel
theorem dX5_leastOf_9 : decode cX5_leastOf 9 = .ok (.getfield 7, 3) := by decide +kernel
theorem dX5_leastOf_12 : decode cX5_leastOf 12 = .ok (.bipush 48, 2) := by decide +kernel
theorem dX5_leastOf_14 : decode cX5_leastOf 14 = .ok (.iload_n 1, 1) := by decide +kernel
theorem dX5_leastOf_15 : decode cX5_leastOf 15 = .ok (.imul, 1) := by decide +kernel
theorem dX5_leastOf_16 : decode cX5_leastOf 16 = .ok (.iload_n 2, 1) := by decide +kernel
theorem dX5_leastOf_17 : decode cX5_leastOf 17 = .ok (.iadd, 1) := by decide +kernel
theorem dX5_leastOf_18 : decode cX5_leastOf 18 = .ok (.laload, 1) := by decide +kernel
theorem dX5_leastOf_19 : decode cX5_leastOf 19 = .ok (.lconst 0, 1) := by decide +kernel
theorem dX5_leastOf_20 : decode cX5_leastOf 20 = .ok (.lcmp, 1) := by decide +kernel
theorem dX5_leastOf_21 : decode cX5_leastOf 21 = .ok (.ifCond .ne 9, 3) := by decide +kernel
theorem dX5_leastOf_24 : decode cX5_leastOf 24 = .ok (.iinc 2 1, 3) := by decide +kernel
theorem dX5_leastOf_27 : decode cX5_leastOf 27 = .ok (.goto (-25), 3) := by decide +kernel
theorem dX5_leastOf_30 : decode cX5_leastOf 30 = .ok (.iload_n 2, 1) := by decide +kernel
theorem dX5_leastOf_31 : decode cX5_leastOf 31 = .ok (.bipush 48, 2) := by decide +kernel
theorem dX5_leastOf_33 : decode cX5_leastOf 33 = .ok (.if_icmp .ge 7, 3) := by decide +kernel
theorem dX5_leastOf_36 : decode cX5_leastOf 36 = .ok (.iload_n 2, 1) := by decide +kernel
theorem dX5_leastOf_37 : decode cX5_leastOf 37 = .ok (.goto 4, 3) := by decide +kernel
theorem dX5_leastOf_40 : decode cX5_leastOf 40 = .ok (.iconst (-1), 1) := by decide +kernel
theorem dX5_leastOf_41 : decode cX5_leastOf 41 = .ok (.ireturn, 1) := by decide +kernel
theorem dX5_look_0 : decode cX5_look 0 = .ok (.aload_n 0, 1) := by decide +kernel
theorem dX5_look_1 : decode cX5_look 1 = .ok (.iload_n 1, 1) := by decide +kernel
theorem dX5_look_2 : decode cX5_look 2 = .ok (.invokevirtual 135, 3) := by decide +kernel
theorem dX5_look_5 : decode cX5_look 5 = .ok (.ifCond .ne 10, 3) := by decide +kernel
theorem dX5_look_8 : decode cX5_look 8 = .ok (.aload_n 0, 1) := by decide +kernel
theorem dX5_look_9 : decode cX5_look 9 = .ok (.bipush (-3), 2) := by decide +kernel
theorem dX5_look_11 : decode cX5_look 11 = .ok (.invokevirtual 114, 3) := by decide +kernel
theorem dX5_look_14 : decode cX5_look 14 = .ok (.ireturn, 1) := by decide +kernel
theorem dX5_look_15 : decode cX5_look 15 = .ok (.iload_n 2, 1) := by decide +kernel
theorem dX5_look_16 : decode cX5_look 16 = .ok (.iconst 4, 1) := by decide +kernel
theorem dX5_look_17 : decode cX5_look 17 = .ok (.if_icmp .ne 30, 3) := by decide +kernel
theorem dX5_look_20 : decode cX5_look 20 = .ok (.aload_n 0, 1) := by decide +kernel
theorem dX5_look_21 : decode cX5_look 21 = .ok (.getfield 13, 3) := by decide +kernel
theorem dX5_look_24 : decode cX5_look 24 = .ok (.iload_n 1, 1) := by decide +kernel
theorem dX5_look_25 : decode cX5_look 25 = .ok (.iaload, 1) := by decide +kernel
theorem dX5_look_26 : decode cX5_look 26 = .ok (.iconst 1, 1) := by decide +kernel
theorem dX5_look_27 : decode cX5_look 27 = .ok (.if_icmp .eq 20, 3) := by decide +kernel
theorem dX5_look_30 : decode cX5_look 30 = .ok (.aload_n 0, 1) := by decide +kernel
theorem dX5_look_31 : decode cX5_look 31 = .ok (.getfield 13, 3) := by decide +kernel
theorem dX5_look_34 : decode cX5_look 34 = .ok (.iload_n 1, 1) := by decide +kernel
theorem dX5_look_35 : decode cX5_look 35 = .ok (.iaload, 1) := by decide +kernel
theorem dX5_look_36 : decode cX5_look 36 = .ok (.iconst 2, 1) := by decide +kernel
theorem dX5_look_37 : decode cX5_look 37 = .ok (.if_icmp .eq 10, 3) := by decide +kernel
theorem dX5_look_40 : decode cX5_look 40 = .ok (.aload_n 0, 1) := by decide +kernel
theorem dX5_look_41 : decode cX5_look 41 = .ok (.bipush (-5), 2) := by decide +kernel
theorem dX5_look_43 : decode cX5_look 43 = .ok (.invokevirtual 114, 3) := by decide +kernel
theorem dX5_look_46 : decode cX5_look 46 = .ok (.ireturn, 1) := by decide +kernel
theorem dX5_look_47 : decode cX5_look 47 = .ok (.iload_n 2, 1) := by decide +kernel
theorem dX5_look_48 : decode cX5_look 48 = .ok (.tableswitch 73 0 4 #[36, 43, 50, 56, 66], 36) := by decide +kernel
theorem dX5_look_84 : decode cX5_look 84 = .ok (.aload_n 0, 1) := by decide +kernel
theorem dX5_look_85 : decode cX5_look 85 = .ok (.getfield 13, 3) := by decide +kernel
theorem dX5_look_88 : decode cX5_look 88 = .ok (.iload_n 1, 1) := by decide +kernel
theorem dX5_look_89 : decode cX5_look 89 = .ok (.iaload, 1) := by decide +kernel
theorem dX5_look_90 : decode cX5_look 90 = .ok (.ireturn, 1) := by decide +kernel
theorem dX5_look_91 : decode cX5_look 91 = .ok (.aload_n 0, 1) := by decide +kernel
theorem dX5_look_92 : decode cX5_look 92 = .ok (.getfield 17, 3) := by decide +kernel
theorem dX5_look_95 : decode cX5_look 95 = .ok (.iload_n 1, 1) := by decide +kernel
theorem dX5_look_96 : decode cX5_look 96 = .ok (.iaload, 1) := by decide +kernel
theorem dX5_look_97 : decode cX5_look 97 = .ok (.ireturn, 1) := by decide +kernel
theorem dX5_look_98 : decode cX5_look 98 = .ok (.aload_n 0, 1) := by decide +kernel
theorem dX5_look_99 : decode cX5_look 99 = .ok (.iload_n 1, 1) := by decide +kernel
theorem dX5_look_100 : decode cX5_look 100 = .ok (.invokevirtual 166, 3) := by decide +kernel
theorem dX5_look_103 : decode cX5_look 103 = .ok (.ireturn, 1) := by decide +kernel
theorem dX5_look_104 : decode cX5_look 104 = .ok (.aload_n 0, 1) := by decide +kernel
theorem dX5_look_105 : decode cX5_look 105 = .ok (.getfield 17, 3) := by decide +kernel
theorem dX5_look_108 : decode cX5_look 108 = .ok (.iload_n 1, 1) := by decide +kernel
theorem dX5_look_109 : decode cX5_look 109 = .ok (.iaload, 1) := by decide +kernel
theorem dX5_look_110 : decode cX5_look 110 = .ok (.invokestatic 106, 3) := by decide +kernel
theorem dX5_look_113 : decode cX5_look 113 = .ok (.ireturn, 1) := by decide +kernel
theorem dX5_look_114 : decode cX5_look 114 = .ok (.aload_n 0, 1) := by decide +kernel
theorem dX5_look_115 : decode cX5_look 115 = .ok (.getfield 20, 3) := by decide +kernel
theorem dX5_look_118 : decode cX5_look 118 = .ok (.iload_n 1, 1) := by decide +kernel
theorem dX5_look_119 : decode cX5_look 119 = .ok (.iaload, 1) := by decide +kernel
theorem dX5_look_120 : decode cX5_look 120 = .ok (.ireturn, 1) := by decide +kernel
theorem dX5_look_121 : decode cX5_look 121 = .ok (.aload_n 0, 1) := by decide +kernel
theorem dX5_look_122 : decode cX5_look 122 = .ok (.bipush (-7), 2) := by decide +kernel
theorem dX5_look_124 : decode cX5_look 124 = .ok (.invokevirtual 114, 3) := by decide +kernel
theorem dX5_look_127 : decode cX5_look 127 = .ok (.ireturn, 1) := by decide +kernel
theorem dX5_at_0 : decode cX5_at 0 = .ok (.aload_n 0, 1) := by decide +kernel
theorem dX5_at_1 : decode cX5_at 1 = .ok (.iload_n 1, 1) := by decide +kernel
theorem dX5_at_2 : decode cX5_at 2 = .ok (.invokevirtual 135, 3) := by decide +kernel
theorem dX5_at_5 : decode cX5_at 5 = .ok (.ifCond .eq 30, 3) := by decide +kernel
theorem dX5_at_8 : decode cX5_at 8 = .ok (.iload_n 2, 1) := by decide +kernel
theorem dX5_at_9 : decode cX5_at 9 = .ok (.i2l, 1) := by decide +kernel
theorem dX5_at_10 : decode cX5_at 10 = .ok (.lconst 0, 1) := by decide +kernel
theorem dX5_at_11 : decode cX5_at 11 = .ok (.ldc2_w 169, 3) := by decide +kernel
theorem dX5_at_14 : decode cX5_at 14 = .ok (.invokestatic 98, 3) := by decide +kernel
theorem dX5_at_17 : decode cX5_at 17 = .ok (.ifCond .eq 18, 3) := by decide +kernel
theorem dX5_at_20 : decode cX5_at 20 = .ok (.aload_n 0, 1) := by decide +kernel
theorem dX5_at_21 : decode cX5_at 21 = .ok (.getfield 7, 3) := by decide +kernel
theorem dX5_at_24 : decode cX5_at 24 = .ok (.bipush 48, 2) := by decide +kernel
theorem dX5_at_26 : decode cX5_at 26 = .ok (.iload_n 1, 1) := by decide +kernel
theorem dX5_at_27 : decode cX5_at 27 = .ok (.imul, 1) := by decide +kernel
theorem dX5_at_28 : decode cX5_at 28 = .ok (.iload_n 2, 1) := by decide +kernel
theorem dX5_at_29 : decode cX5_at 29 = .ok (.iadd, 1) := by decide +kernel
theorem dX5_at_30 : decode cX5_at 30 = .ok (.laload, 1) := by decide +kernel
theorem dX5_at_31 : decode cX5_at 31 = .ok (.l2i, 1) := by decide +kernel
theorem dX5_at_32 : decode cX5_at 32 = .ok (.goto 9, 3) := by decide +kernel
theorem dX5_at_35 : decode cX5_at 35 = .ok (.aload_n 0, 1) := by decide +kernel
theorem dX5_at_36 : decode cX5_at 36 = .ok (.bipush (-3), 2) := by decide +kernel
theorem dX5_at_38 : decode cX5_at 38 = .ok (.invokevirtual 114, 3) := by decide +kernel
theorem dX5_at_41 : decode cX5_at 41 = .ok (.ireturn, 1) := by decide +kernel
theorem dX5_part_0 : decode cX5_part 0 = .ok (.aload_n 0, 1) := by decide +kernel
theorem dX5_part_1 : decode cX5_part 1 = .ok (.iload_n 1, 1) := by decide +kernel
theorem dX5_part_2 : decode cX5_part 2 = .ok (.invokevirtual 135, 3) := by decide +kernel
theorem dX5_part_5 : decode cX5_part 5 = .ok (.ifCond .eq 24, 3) := by decide +kernel
theorem dX5_part_8 : decode cX5_part 8 = .ok (.iload_n 2, 1) := by decide +kernel
theorem dX5_part_9 : decode cX5_part 9 = .ok (.i2l, 1) := by decide +kernel
theorem dX5_part_10 : decode cX5_part 10 = .ok (.lconst 0, 1) := by decide +kernel
theorem dX5_part_11 : decode cX5_part 11 = .ok (.aload_n 0, 1) := by decide +kernel
theorem dX5_part_12 : decode cX5_part 12 = .ok (.getfield 17, 3) := by decide +kernel
theorem dX5_part_15 : decode cX5_part 15 = .ok (.iload_n 1, 1) := by decide +kernel
theorem dX5_part_16 : decode cX5_part 16 = .ok (.iaload, 1) := by decide +kernel
theorem dX5_part_17 : decode cX5_part 17 = .ok (.invokestatic 106, 3) := by decide +kernel
theorem dX5_part_20 : decode cX5_part 20 = .ok (.iconst 1, 1) := by decide +kernel
theorem dX5_part_21 : decode cX5_part 21 = .ok (.isub, 1) := by decide +kernel
theorem dX5_part_22 : decode cX5_part 22 = .ok (.i2l, 1) := by decide +kernel

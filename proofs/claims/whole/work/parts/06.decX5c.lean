theorem dX5_part_23 : decode cX5_part 23 = .ok (.invokestatic 98, 3) := by decide +kernel
theorem dX5_part_26 : decode cX5_part 26 = .ok (.ifCond .ne 10, 3) := by decide +kernel
theorem dX5_part_29 : decode cX5_part 29 = .ok (.aload_n 0, 1) := by decide +kernel
theorem dX5_part_30 : decode cX5_part 30 = .ok (.bipush (-3), 2) := by decide +kernel
theorem dX5_part_32 : decode cX5_part 32 = .ok (.invokevirtual 114, 3) := by decide +kernel
theorem dX5_part_35 : decode cX5_part 35 = .ok (.ireturn, 1) := by decide +kernel
theorem dX5_part_36 : decode cX5_part 36 = .ok (.aload_n 0, 1) := by decide +kernel
theorem dX5_part_37 : decode cX5_part 37 = .ok (.aload_n 0, 1) := by decide +kernel
theorem dX5_part_38 : decode cX5_part 38 = .ok (.getfield 50, 3) := by decide +kernel
theorem dX5_part_41 : decode cX5_part 41 = .ok (.iload_n 1, 1) := by decide +kernel
theorem dX5_part_42 : decode cX5_part 42 = .ok (.invokevirtual 145, 3) := by decide +kernel
theorem dX5_part_45 : decode cX5_part 45 = .ok (.aload_n 0, 1) := by decide +kernel
theorem dX5_part_46 : decode cX5_part 46 = .ok (.aload_n 0, 1) := by decide +kernel
theorem dX5_part_47 : decode cX5_part 47 = .ok (.getfield 50, 3) := by decide +kernel
theorem dX5_part_50 : decode cX5_part 50 = .ok (.aload_n 0, 1) := by decide +kernel
theorem dX5_part_51 : decode cX5_part 51 = .ok (.getfield 17, 3) := by decide +kernel
theorem dX5_part_54 : decode cX5_part 54 = .ok (.iload_n 1, 1) := by decide +kernel
theorem dX5_part_55 : decode cX5_part 55 = .ok (.iaload, 1) := by decide +kernel
theorem dX5_part_56 : decode cX5_part 56 = .ok (.invokevirtual 151, 3) := by decide +kernel
theorem dX5_part_59 : decode cX5_part 59 = .ok (.aload_n 0, 1) := by decide +kernel
theorem dX5_part_60 : decode cX5_part 60 = .ok (.getfield 47, 3) := by decide +kernel
theorem dX5_part_63 : decode cX5_part 63 = .ok (.iload_n 2, 1) := by decide +kernel
theorem dX5_part_64 : decode cX5_part 64 = .ok (.laload, 1) := by decide +kernel
theorem dX5_part_65 : decode cX5_part 65 = .ok (.l2i, 1) := by decide +kernel
theorem dX5_part_66 : decode cX5_part 66 = .ok (.ireturn, 1) := by decide +kernel
theorem dX5_firstApart_0 : decode cX5_firstApart 0 = .ok (.iconst 0, 1) := by decide +kernel
theorem dX5_firstApart_1 : decode cX5_firstApart 1 = .ok (.istore_n 3, 1) := by decide +kernel
theorem dX5_firstApart_2 : decode cX5_firstApart 2 = .ok (.iload_n 3, 1) := by decide +kernel
theorem dX5_firstApart_3 : decode cX5_firstApart 3 = .ok (.bipush 48, 2) := by decide +kernel
theorem dX5_firstApart_5 : decode cX5_firstApart 5 = .ok (.if_icmp .ge 35, 3) := by decide +kernel
theorem dX5_firstApart_8 : decode cX5_firstApart 8 = .ok (.aload_n 0, 1) := by decide +kernel
theorem dX5_firstApart_9 : decode cX5_firstApart 9 = .ok (.getfield 7, 3) := by decide +kernel
theorem dX5_firstApart_12 : decode cX5_firstApart 12 = .ok (.bipush 48, 2) := by decide +kernel
theorem dX5_firstApart_14 : decode cX5_firstApart 14 = .ok (.iload_n 1, 1) := by decide +kernel
theorem dX5_firstApart_15 : decode cX5_firstApart 15 = .ok (.imul, 1) := by decide +kernel
theorem dX5_firstApart_16 : decode cX5_firstApart 16 = .ok (.iload_n 3, 1) := by decide +kernel
theorem dX5_firstApart_17 : decode cX5_firstApart 17 = .ok (.iadd, 1) := by decide +kernel
theorem dX5_firstApart_18 : decode cX5_firstApart 18 = .ok (.laload, 1) := by decide +kernel
theorem dX5_firstApart_19 : decode cX5_firstApart 19 = .ok (.aload_n 0, 1) := by decide +kernel
theorem dX5_firstApart_20 : decode cX5_firstApart 20 = .ok (.getfield 7, 3) := by decide +kernel
theorem dX5_firstApart_23 : decode cX5_firstApart 23 = .ok (.bipush 48, 2) := by decide +kernel
theorem dX5_firstApart_25 : decode cX5_firstApart 25 = .ok (.iload_n 2, 1) := by decide +kernel
theorem dX5_firstApart_26 : decode cX5_firstApart 26 = .ok (.imul, 1) := by decide +kernel
theorem dX5_firstApart_27 : decode cX5_firstApart 27 = .ok (.iload_n 3, 1) := by decide +kernel
theorem dX5_firstApart_28 : decode cX5_firstApart 28 = .ok (.iadd, 1) := by decide +kernel
theorem dX5_firstApart_29 : decode cX5_firstApart 29 = .ok (.laload, 1) := by decide +kernel
theorem dX5_firstApart_30 : decode cX5_firstApart 30 = .ok (.lcmp, 1) := by decide +kernel
theorem dX5_firstApart_31 : decode cX5_firstApart 31 = .ok (.ifCond .ne 9, 3) := by decide +kernel
theorem dX5_firstApart_34 : decode cX5_firstApart 34 = .ok (.iinc 3 1, 3) := by decide +kernel
theorem dX5_firstApart_37 : decode cX5_firstApart 37 = .ok (.goto (-35), 3) := by decide +kernel
theorem dX5_firstApart_40 : decode cX5_firstApart 40 = .ok (.iload_n 3, 1) := by decide +kernel
theorem dX5_firstApart_41 : decode cX5_firstApart 41 = .ok (.bipush 48, 2) := by decide +kernel
theorem dX5_firstApart_43 : decode cX5_firstApart 43 = .ok (.if_icmp .ge 7, 3) := by decide +kernel
theorem dX5_firstApart_46 : decode cX5_firstApart 46 = .ok (.iload_n 3, 1) := by decide +kernel
theorem dX5_firstApart_47 : decode cX5_firstApart 47 = .ok (.goto 4, 3) := by decide +kernel
theorem dX5_firstApart_50 : decode cX5_firstApart 50 = .ok (.iconst (-1), 1) := by decide +kernel
theorem dX5_firstApart_51 : decode cX5_firstApart 51 = .ok (.ireturn, 1) := by decide +kernel
theorem dX5_same_0 : decode cX5_same 0 = .ok (.aload_n 0, 1) := by decide +kernel
theorem dX5_same_1 : decode cX5_same 1 = .ok (.iload_n 1, 1) := by decide +kernel
theorem dX5_same_2 : decode cX5_same 2 = .ok (.invokevirtual 135, 3) := by decide +kernel
theorem dX5_same_5 : decode cX5_same 5 = .ok (.ifCond .eq 11, 3) := by decide +kernel
theorem dX5_same_8 : decode cX5_same 8 = .ok (.aload_n 0, 1) := by decide +kernel
theorem dX5_same_9 : decode cX5_same 9 = .ok (.iload_n 2, 1) := by decide +kernel
theorem dX5_same_10 : decode cX5_same 10 = .ok (.invokevirtual 135, 3) := by decide +kernel
theorem dX5_same_13 : decode cX5_same 13 = .ok (.ifCond .ne 10, 3) := by decide +kernel
theorem dX5_same_16 : decode cX5_same 16 = .ok (.aload_n 0, 1) := by decide +kernel
theorem dX5_same_17 : decode cX5_same 17 = .ok (.bipush (-3), 2) := by decide +kernel
theorem dX5_same_19 : decode cX5_same 19 = .ok (.invokevirtual 114, 3) := by decide +kernel
theorem dX5_same_22 : decode cX5_same 22 = .ok (.ireturn, 1) := by decide +kernel
theorem dX5_same_23 : decode cX5_same 23 = .ok (.aload_n 0, 1) := by decide +kernel
theorem dX5_same_24 : decode cX5_same 24 = .ok (.iload_n 1, 1) := by decide +kernel
theorem dX5_same_25 : decode cX5_same 25 = .ok (.iload_n 2, 1) := by decide +kernel
theorem dX5_same_26 : decode cX5_same 26 = .ok (.invokevirtual 171, 3) := by decide +kernel
theorem dX5_same_29 : decode cX5_same 29 = .ok (.iconst (-1), 1) := by decide +kernel
theorem dX5_same_30 : decode cX5_same 30 = .ok (.if_icmp .ne 31, 3) := by decide +kernel
theorem dX5_same_33 : decode cX5_same 33 = .ok (.aload_n 0, 1) := by decide +kernel
theorem dX5_same_34 : decode cX5_same 34 = .ok (.getfield 17, 3) := by decide +kernel
theorem dX5_same_37 : decode cX5_same 37 = .ok (.iload_n 1, 1) := by decide +kernel
theorem dX5_same_38 : decode cX5_same 38 = .ok (.iaload, 1) := by decide +kernel
theorem dX5_same_39 : decode cX5_same 39 = .ok (.aload_n 0, 1) := by decide +kernel
theorem dX5_same_40 : decode cX5_same 40 = .ok (.getfield 17, 3) := by decide +kernel
theorem dX5_same_43 : decode cX5_same 43 = .ok (.iload_n 2, 1) := by decide +kernel
theorem dX5_same_44 : decode cX5_same 44 = .ok (.iaload, 1) := by decide +kernel
theorem dX5_same_45 : decode cX5_same 45 = .ok (.if_icmp .eq 12, 3) := by decide +kernel
theorem dX5_same_48 : decode cX5_same 48 = .ok (.aload_n 0, 1) := by decide +kernel
theorem dX5_same_49 : decode cX5_same 49 = .ok (.iload_n 1, 1) := by decide +kernel
theorem dX5_same_50 : decode cX5_same 50 = .ok (.invokevirtual 166, 3) := by decide +kernel
theorem dX5_same_53 : decode cX5_same 53 = .ok (.iconst (-1), 1) := by decide +kernel
theorem dX5_same_54 : decode cX5_same 54 = .ok (.if_icmp .ne 7, 3) := by decide +kernel
theorem dX5_same_57 : decode cX5_same 57 = .ok (.iconst 1, 1) := by decide +kernel
theorem dX5_same_58 : decode cX5_same 58 = .ok (.goto 4, 3) := by decide +kernel
theorem dX5_same_61 : decode cX5_same 61 = .ok (.iconst 0, 1) := by decide +kernel
theorem dX5_same_62 : decode cX5_same 62 = .ok (.istore_n 3, 1) := by decide +kernel
theorem dX5_same_63 : decode cX5_same 63 = .ok (.iload_n 3, 1) := by decide +kernel
theorem dX5_same_64 : decode cX5_same 64 = .ok (.ifCond .eq 7, 3) := by decide +kernel
theorem dX5_same_67 : decode cX5_same 67 = .ok (.iconst 1, 1) := by decide +kernel
theorem dX5_same_68 : decode cX5_same 68 = .ok (.goto 4, 3) := by decide +kernel
theorem dX5_same_71 : decode cX5_same 71 = .ok (.iconst 0, 1) := by decide +kernel
theorem dX5_same_72 : decode cX5_same 72 = .ok (.ireturn, 1) := by decide +kernel
theorem dX5_apart_0 : decode cX5_apart 0 = .ok (.aload_n 0, 1) := by decide +kernel
theorem dX5_apart_1 : decode cX5_apart 1 = .ok (.iload_n 1, 1) := by decide +kernel
theorem dX5_apart_2 : decode cX5_apart 2 = .ok (.invokevirtual 135, 3) := by decide +kernel
theorem dX5_apart_5 : decode cX5_apart 5 = .ok (.ifCond .eq 11, 3) := by decide +kernel
theorem dX5_apart_8 : decode cX5_apart 8 = .ok (.aload_n 0, 1) := by decide +kernel
theorem dX5_apart_9 : decode cX5_apart 9 = .ok (.iload_n 2, 1) := by decide +kernel
theorem dX5_apart_10 : decode cX5_apart 10 = .ok (.invokevirtual 135, 3) := by decide +kernel
theorem dX5_apart_13 : decode cX5_apart 13 = .ok (.ifCond .ne 10, 3) := by decide +kernel
theorem dX5_apart_16 : decode cX5_apart 16 = .ok (.aload_n 0, 1) := by decide +kernel
theorem dX5_apart_17 : decode cX5_apart 17 = .ok (.bipush (-3), 2) := by decide +kernel
theorem dX5_apart_19 : decode cX5_apart 19 = .ok (.invokevirtual 114, 3) := by decide +kernel
theorem dX5_apart_22 : decode cX5_apart 22 = .ok (.ireturn, 1) := by decide +kernel
theorem dX5_apart_23 : decode cX5_apart 23 = .ok (.aload_n 0, 1) := by decide +kernel
theorem dX5_apart_24 : decode cX5_apart 24 = .ok (.getfield 17, 3) := by decide +kernel
theorem dX5_apart_27 : decode cX5_apart 27 = .ok (.iload_n 1, 1) := by decide +kernel
theorem dX5_apart_28 : decode cX5_apart 28 = .ok (.iaload, 1) := by decide +kernel
theorem dX5_apart_29 : decode cX5_apart 29 = .ok (.aload_n 0, 1) := by decide +kernel
theorem dX5_apart_30 : decode cX5_apart 30 = .ok (.getfield 17, 3) := by decide +kernel
theorem dX5_apart_33 : decode cX5_apart 33 = .ok (.iload_n 2, 1) := by decide +kernel
theorem dX5_apart_34 : decode cX5_apart 34 = .ok (.iaload, 1) := by decide +kernel
theorem dX5_apart_35 : decode cX5_apart 35 = .ok (.if_icmp .ne 12, 3) := by decide +kernel
theorem dX5_apart_38 : decode cX5_apart 38 = .ok (.aload_n 0, 1) := by decide +kernel
theorem dX5_apart_39 : decode cX5_apart 39 = .ok (.iload_n 1, 1) := by decide +kernel
theorem dX5_apart_40 : decode cX5_apart 40 = .ok (.iload_n 2, 1) := by decide +kernel
theorem dX5_apart_41 : decode cX5_apart 41 = .ok (.invokevirtual 171, 3) := by decide +kernel
theorem dX5_apart_44 : decode cX5_apart 44 = .ok (.goto 9, 3) := by decide +kernel
theorem dX5_apart_47 : decode cX5_apart 47 = .ok (.aload_n 0, 1) := by decide +kernel
theorem dX5_apart_48 : decode cX5_apart 48 = .ok (.bipush (-7), 2) := by decide +kernel
theorem dX5_apart_50 : decode cX5_apart 50 = .ok (.invokevirtual 114, 3) := by decide +kernel
theorem dX5_apart_53 : decode cX5_apart 53 = .ok (.ireturn, 1) := by decide +kernel
theorem dX5_size_0 : decode cX5_size 0 = .ok (.iload_n 1, 1) := by decide +kernel
theorem dX5_size_1 : decode cX5_size 1 = .ok (.invokestatic 163, 3) := by decide +kernel
theorem dX5_size_4 : decode cX5_size 4 = .ok (.ifCond .eq 10, 3) := by decide +kernel
theorem dX5_size_7 : decode cX5_size 7 = .ok (.iload_n 1, 1) := by decide +kernel
theorem dX5_size_8 : decode cX5_size 8 = .ok (.invokestatic 106, 3) := by decide +kernel
theorem dX5_size_11 : decode cX5_size 11 = .ok (.goto 9, 3) := by decide +kernel
theorem dX5_size_14 : decode cX5_size 14 = .ok (.aload_n 0, 1) := by decide +kernel
theorem dX5_size_15 : decode cX5_size 15 = .ok (.bipush (-7), 2) := by decide +kernel
theorem dX5_size_17 : decode cX5_size 17 = .ok (.invokevirtual 114, 3) := by decide +kernel
theorem dX5_size_20 : decode cX5_size 20 = .ok (.ireturn, 1) := by decide +kernel
theorem dX5_own_0 : decode cX5_own 0 = .ok (.aload_n 0, 1) := by decide +kernel
theorem dX5_own_1 : decode cX5_own 1 = .ok (.iload_n 1, 1) := by decide +kernel
theorem dX5_own_2 : decode cX5_own 2 = .ok (.invokevirtual 135, 3) := by decide +kernel
theorem dX5_own_5 : decode cX5_own 5 = .ok (.ifCond .ne 10, 3) := by decide +kernel
theorem dX5_own_8 : decode cX5_own 8 = .ok (.aload_n 0, 1) := by decide +kernel
theorem dX5_own_9 : decode cX5_own 9 = .ok (.bipush (-3), 2) := by decide +kernel
theorem dX5_own_11 : decode cX5_own 11 = .ok (.invokevirtual 114, 3) := by decide +kernel
theorem dX5_own_14 : decode cX5_own 14 = .ok (.ireturn, 1) := by decide +kernel
theorem dX5_own_15 : decode cX5_own 15 = .ok (.iload_n 2, 1) := by decide +kernel
theorem dX5_own_16 : decode cX5_own 16 = .ok (.invokestatic 157, 3) := by decide +kernel
theorem dX5_own_19 : decode cX5_own 19 = .ok (.ifCond .eq 13, 3) := by decide +kernel
theorem dX5_own_22 : decode cX5_own 22 = .ok (.aload_n 0, 1) := by decide +kernel
theorem dX5_own_23 : decode cX5_own 23 = .ok (.getfield 17, 3) := by decide +kernel
theorem dX5_own_26 : decode cX5_own 26 = .ok (.iload_n 1, 1) := by decide +kernel
theorem dX5_own_27 : decode cX5_own 27 = .ok (.iaload, 1) := by decide +kernel
theorem dX5_own_28 : decode cX5_own 28 = .ok (.iconst 4, 1) := by decide +kernel
theorem dX5_own_29 : decode cX5_own 29 = .ok (.if_icmp .ge 10, 3) := by decide +kernel
theorem dX5_own_32 : decode cX5_own 32 = .ok (.aload_n 0, 1) := by decide +kernel
theorem dX5_own_33 : decode cX5_own 33 = .ok (.bipush (-7), 2) := by decide +kernel
theorem dX5_own_35 : decode cX5_own 35 = .ok (.invokevirtual 114, 3) := by decide +kernel
theorem dX5_own_38 : decode cX5_own 38 = .ok (.ireturn, 1) := by decide +kernel
theorem dX5_own_39 : decode cX5_own 39 = .ok (.aload_n 0, 1) := by decide +kernel
theorem dX5_own_40 : decode cX5_own 40 = .ok (.iload_n 1, 1) := by decide +kernel
theorem dX5_own_41 : decode cX5_own 41 = .ok (.invokevirtual 166, 3) := by decide +kernel
theorem dX5_own_44 : decode cX5_own 44 = .ok (.istore_n 3, 1) := by decide +kernel
theorem dX5_own_45 : decode cX5_own 45 = .ok (.iload_n 3, 1) := by decide +kernel
theorem dX5_own_46 : decode cX5_own 46 = .ok (.ifCond .ge 5, 3) := by decide +kernel
theorem dX5_own_49 : decode cX5_own 49 = .ok (.iconst (-1), 1) := by decide +kernel
theorem dX5_own_50 : decode cX5_own 50 = .ok (.ireturn, 1) := by decide +kernel
theorem dX5_own_51 : decode cX5_own 51 = .ok (.aload_n 0, 1) := by decide +kernel
theorem dX5_own_52 : decode cX5_own 52 = .ok (.aload_n 0, 1) := by decide +kernel
theorem dX5_own_53 : decode cX5_own 53 = .ok (.getfield 50, 3) := by decide +kernel
theorem dX5_own_56 : decode cX5_own 56 = .ok (.iload_n 1, 1) := by decide +kernel
theorem dX5_own_57 : decode cX5_own 57 = .ok (.invokevirtual 145, 3) := by decide +kernel
theorem dX5_own_60 : decode cX5_own 60 = .ok (.aload_n 0, 1) := by decide +kernel
theorem dX5_own_61 : decode cX5_own 61 = .ok (.aload_n 0, 1) := by decide +kernel
theorem dX5_own_62 : decode cX5_own 62 = .ok (.getfield 17, 3) := by decide +kernel
theorem dX5_own_65 : decode cX5_own 65 = .ok (.iload_n 1, 1) := by decide +kernel
theorem dX5_own_66 : decode cX5_own 66 = .ok (.iaload, 1) := by decide +kernel
theorem dX5_own_67 : decode cX5_own 67 = .ok (.iload_n 2, 1) := by decide +kernel
theorem dX5_own_68 : decode cX5_own 68 = .ok (.invokevirtual 160, 3) := by decide +kernel
theorem dX5_own_71 : decode cX5_own 71 = .ok (.aload_n 0, 1) := by decide +kernel
theorem dX5_own_72 : decode cX5_own 72 = .ok (.aload_n 0, 1) := by decide +kernel
theorem dX5_own_73 : decode cX5_own 73 = .ok (.getfield 17, 3) := by decide +kernel
theorem dX5_own_76 : decode cX5_own 76 = .ok (.iload_n 1, 1) := by decide +kernel
theorem dX5_own_77 : decode cX5_own 77 = .ok (.iaload, 1) := by decide +kernel
theorem dX5_own_78 : decode cX5_own 78 = .ok (.iconst 0, 1) := by decide +kernel
theorem dX5_own_79 : decode cX5_own 79 = .ok (.invokevirtual 154, 3) := by decide +kernel
theorem dX5_own_82 : decode cX5_own 82 = .ok (.aload_n 0, 1) := by decide +kernel
theorem dX5_own_83 : decode cX5_own 83 = .ok (.getfield 38, 3) := by decide +kernel
theorem dX5_own_86 : decode cX5_own 86 = .ok (.iload_n 3, 1) := by decide +kernel
theorem dX5_own_87 : decode cX5_own 87 = .ok (.laload, 1) := by decide +kernel
theorem dX5_own_88 : decode cX5_own 88 = .ok (.aload_n 0, 1) := by decide +kernel
theorem dX5_own_89 : decode cX5_own 89 = .ok (.getfield 7, 3) := by decide +kernel
theorem dX5_own_92 : decode cX5_own 92 = .ok (.bipush 48, 2) := by decide +kernel
theorem dX5_own_94 : decode cX5_own 94 = .ok (.iload_n 1, 1) := by decide +kernel
theorem dX5_own_95 : decode cX5_own 95 = .ok (.imul, 1) := by decide +kernel
theorem dX5_own_96 : decode cX5_own 96 = .ok (.iload_n 3, 1) := by decide +kernel
theorem dX5_own_97 : decode cX5_own 97 = .ok (.iadd, 1) := by decide +kernel
theorem dX5_own_98 : decode cX5_own 98 = .ok (.laload, 1) := by decide +kernel
theorem dX5_own_99 : decode cX5_own 99 = .ok (.invokestatic 129, 3) := by decide +kernel
theorem dX5_own_102 : decode cX5_own 102 = .ok (.lmul, 1) := by decide +kernel
theorem dX5_own_103 : decode cX5_own 103 = .ok (.ldc2_w 79, 3) := by decide +kernel
theorem dX5_own_106 : decode cX5_own 106 = .ok (.lrem, 1) := by decide +kernel
theorem dX5_own_107 : decode cX5_own 107 = .ok (.lstore 4, 2) := by decide +kernel
theorem dX5_own_109 : decode cX5_own 109 = .ok (.iconst 0, 1) := by decide +kernel
theorem dX5_own_110 : decode cX5_own 110 = .ok (.istore 6, 2) := by decide +kernel
theorem dX5_own_112 : decode cX5_own 112 = .ok (.iload 6, 2) := by decide +kernel
theorem dX5_own_114 : decode cX5_own 114 = .ok (.bipush 48, 2) := by decide +kernel
theorem dX5_own_116 : decode cX5_own 116 = .ok (.if_icmp .ge 41, 3) := by decide +kernel
theorem dX5_own_119 : decode cX5_own 119 = .ok (.aload_n 0, 1) := by decide +kernel
theorem dX5_own_120 : decode cX5_own 120 = .ok (.getfield 38, 3) := by decide +kernel
theorem dX5_own_123 : decode cX5_own 123 = .ok (.iload 6, 2) := by decide +kernel
theorem dX5_own_125 : decode cX5_own 125 = .ok (.laload, 1) := by decide +kernel
theorem dX5_own_126 : decode cX5_own 126 = .ok (.lload 4, 2) := by decide +kernel
theorem dX5_own_128 : decode cX5_own 128 = .ok (.aload_n 0, 1) := by decide +kernel
theorem dX5_own_129 : decode cX5_own 129 = .ok (.getfield 7, 3) := by decide +kernel
theorem dX5_own_132 : decode cX5_own 132 = .ok (.bipush 48, 2) := by decide +kernel
theorem dX5_own_134 : decode cX5_own 134 = .ok (.iload_n 1, 1) := by decide +kernel
theorem dX5_own_135 : decode cX5_own 135 = .ok (.imul, 1) := by decide +kernel
theorem dX5_own_136 : decode cX5_own 136 = .ok (.iload 6, 2) := by decide +kernel
theorem dX5_own_138 : decode cX5_own 138 = .ok (.iadd, 1) := by decide +kernel
theorem dX5_own_139 : decode cX5_own 139 = .ok (.laload, 1) := by decide +kernel
theorem dX5_own_140 : decode cX5_own 140 = .ok (.lmul, 1) := by decide +kernel
theorem dX5_own_141 : decode cX5_own 141 = .ok (.ldc2_w 79, 3) := by decide +kernel
theorem dX5_own_144 : decode cX5_own 144 = .ok (.lrem, 1) := by decide +kernel
theorem dX5_own_145 : decode cX5_own 145 = .ok (.lcmp, 1) := by decide +kernel
theorem dX5_own_146 : decode cX5_own 146 = .ok (.ifCond .eq 5, 3) := by decide +kernel
theorem dX5_own_149 : decode cX5_own 149 = .ok (.iconst (-1), 1) := by decide +kernel
theorem dX5_own_150 : decode cX5_own 150 = .ok (.ireturn, 1) := by decide +kernel
theorem dX5_own_151 : decode cX5_own 151 = .ok (.iinc 6 1, 3) := by decide +kernel
theorem dX5_own_154 : decode cX5_own 154 = .ok (.goto (-42), 3) := by decide +kernel
theorem dX5_own_157 : decode cX5_own 157 = .ok (.lload 4, 2) := by decide +kernel
theorem dX5_own_159 : decode cX5_own 159 = .ok (.l2i, 1) := by decide +kernel
theorem dX5_own_160 : decode cX5_own 160 = .ok (.ireturn, 1) := by decide +kernel
theorem dX5_trace_0 : decode cX5_trace 0 = .ok (.iload_n 1, 1) := by decide +kernel
theorem dX5_trace_1 : decode cX5_trace 1 = .ok (.invokestatic 163, 3) := by decide +kernel
theorem dX5_trace_4 : decode cX5_trace 4 = .ok (.ifCond .eq 15, 3) := by decide +kernel
theorem dX5_trace_7 : decode cX5_trace 7 = .ok (.iload_n 1, 1) := by decide +kernel
theorem dX5_trace_8 : decode cX5_trace 8 = .ok (.iconst 4, 1) := by decide +kernel
theorem dX5_trace_9 : decode cX5_trace 9 = .ok (.if_icmp .lt 10, 3) := by decide +kernel
theorem dX5_trace_12 : decode cX5_trace 12 = .ok (.iload_n 2, 1) := by decide +kernel
theorem dX5_trace_13 : decode cX5_trace 13 = .ok (.invokestatic 157, 3) := by decide +kernel
theorem dX5_trace_16 : decode cX5_trace 16 = .ok (.ifCond .ne 10, 3) := by decide +kernel
theorem dX5_trace_19 : decode cX5_trace 19 = .ok (.aload_n 0, 1) := by decide +kernel
theorem dX5_trace_20 : decode cX5_trace 20 = .ok (.bipush (-7), 2) := by decide +kernel
theorem dX5_trace_22 : decode cX5_trace 22 = .ok (.invokevirtual 114, 3) := by decide +kernel
theorem dX5_trace_25 : decode cX5_trace 25 = .ok (.ireturn, 1) := by decide +kernel
theorem dX5_trace_26 : decode cX5_trace 26 = .ok (.lconst 0, 1) := by decide +kernel
theorem dX5_trace_27 : decode cX5_trace 27 = .ok (.lstore 4, 2) := by decide +kernel
theorem dX5_trace_29 : decode cX5_trace 29 = .ok (.iload_n 3, 1) := by decide +kernel
theorem dX5_trace_30 : decode cX5_trace 30 = .ok (.ifCond .eq 7, 3) := by decide +kernel
theorem dX5_trace_33 : decode cX5_trace 33 = .ok (.iconst 1, 1) := by decide +kernel
theorem dX5_trace_34 : decode cX5_trace 34 = .ok (.goto 4, 3) := by decide +kernel
theorem dX5_trace_37 : decode cX5_trace 37 = .ok (.iconst 0, 1) := by decide +kernel
theorem dX5_trace_38 : decode cX5_trace 38 = .ok (.istore 6, 2) := by decide +kernel
theorem dX5_trace_40 : decode cX5_trace 40 = .ok (.iload 6, 2) := by decide +kernel
theorem dX5_trace_42 : decode cX5_trace 42 = .ok (.iload_n 1, 1) := by decide +kernel
theorem dX5_trace_43 : decode cX5_trace 43 = .ok (.invokestatic 106, 3) := by decide +kernel
theorem dX5_trace_46 : decode cX5_trace 46 = .ok (.if_icmp .ge 64, 3) := by decide +kernel
theorem dX5_trace_49 : decode cX5_trace 49 = .ok (.aload_n 0, 1) := by decide +kernel
theorem dX5_trace_50 : decode cX5_trace 50 = .ok (.iload_n 1, 1) := by decide +kernel
theorem dX5_trace_51 : decode cX5_trace 51 = .ok (.iload 6, 2) := by decide +kernel
theorem dX5_trace_53 : decode cX5_trace 53 = .ok (.invokevirtual 110, 3) := by decide +kernel
theorem dX5_trace_56 : decode cX5_trace 56 = .ok (.iconst 0, 1) := by decide +kernel
theorem dX5_trace_57 : decode cX5_trace 57 = .ok (.istore 7, 2) := by decide +kernel
theorem dX5_trace_59 : decode cX5_trace 59 = .ok (.iload 7, 2) := by decide +kernel
theorem dX5_trace_61 : decode cX5_trace 61 = .ok (.bipush 48, 2) := by decide +kernel
theorem dX5_trace_63 : decode cX5_trace 63 = .ok (.if_icmp .ge 23, 3) := by decide +kernel
theorem dX5_trace_66 : decode cX5_trace 66 = .ok (.aload_n 0, 1) := by decide +kernel
theorem dX5_trace_67 : decode cX5_trace 67 = .ok (.getfield 50, 3) := by decide +kernel
theorem dX5_trace_70 : decode cX5_trace 70 = .ok (.iload 7, 2) := by decide +kernel
theorem dX5_trace_72 : decode cX5_trace 72 = .ok (.aload_n 0, 1) := by decide +kernel
theorem dX5_trace_73 : decode cX5_trace 73 = .ok (.getfield 44, 3) := by decide +kernel
theorem dX5_trace_76 : decode cX5_trace 76 = .ok (.iload 7, 2) := by decide +kernel
theorem dX5_trace_78 : decode cX5_trace 78 = .ok (.laload, 1) := by decide +kernel
theorem dX5_trace_79 : decode cX5_trace 79 = .ok (.lastore, 1) := by decide +kernel
theorem dX5_trace_80 : decode cX5_trace 80 = .ok (.iinc 7 1, 3) := by decide +kernel
theorem dX5_trace_83 : decode cX5_trace 83 = .ok (.goto (-24), 3) := by decide +kernel
theorem dX5_trace_86 : decode cX5_trace 86 = .ok (.aload_n 0, 1) := by decide +kernel
theorem dX5_trace_87 : decode cX5_trace 87 = .ok (.iload_n 1, 1) := by decide +kernel
theorem dX5_trace_88 : decode cX5_trace 88 = .ok (.iload_n 2, 1) := by decide +kernel
theorem dX5_trace_89 : decode cX5_trace 89 = .ok (.invokevirtual 160, 3) := by decide +kernel
theorem dX5_trace_92 : decode cX5_trace 92 = .ok (.lload 4, 2) := by decide +kernel
theorem dX5_trace_94 : decode cX5_trace 94 = .ok (.aload_n 0, 1) := by decide +kernel
theorem dX5_trace_95 : decode cX5_trace 95 = .ok (.getfield 47, 3) := by decide +kernel
theorem dX5_trace_98 : decode cX5_trace 98 = .ok (.iload 6, 2) := by decide +kernel
theorem dX5_trace_100 : decode cX5_trace 100 = .ok (.laload, 1) := by decide +kernel
theorem dX5_trace_101 : decode cX5_trace 101 = .ok (.ladd, 1) := by decide +kernel
theorem dX5_trace_102 : decode cX5_trace 102 = .ok (.lstore 4, 2) := by decide +kernel
theorem dX5_trace_104 : decode cX5_trace 104 = .ok (.iinc 6 1, 3) := by decide +kernel
theorem dX5_trace_107 : decode cX5_trace 107 = .ok (.goto (-67), 3) := by decide +kernel
theorem dX5_trace_110 : decode cX5_trace 110 = .ok (.lload 4, 2) := by decide +kernel
theorem dX5_trace_112 : decode cX5_trace 112 = .ok (.ldc2_w 79, 3) := by decide +kernel
theorem dX5_trace_115 : decode cX5_trace 115 = .ok (.lrem, 1) := by decide +kernel
theorem dX5_trace_116 : decode cX5_trace 116 = .ok (.l2i, 1) := by decide +kernel
theorem dX5_trace_117 : decode cX5_trace 117 = .ok (.ireturn, 1) := by decide +kernel
theorem dX5_squares_0 : decode cX5_squares 0 = .ok (.iload_n 1, 1) := by decide +kernel
theorem dX5_squares_1 : decode cX5_squares 1 = .ok (.i2l, 1) := by decide +kernel
theorem dX5_squares_2 : decode cX5_squares 2 = .ok (.lconst 1, 1) := by decide +kernel
theorem dX5_squares_3 : decode cX5_squares 3 = .ok (.ldc2_w 175, 3) := by decide +kernel
theorem dX5_squares_6 : decode cX5_squares 6 = .ok (.invokestatic 98, 3) := by decide +kernel
theorem dX5_squares_9 : decode cX5_squares 9 = .ok (.ifCond .eq 15, 3) := by decide +kernel
theorem dX5_squares_12 : decode cX5_squares 12 = .ok (.iload_n 2, 1) := by decide +kernel
theorem dX5_squares_13 : decode cX5_squares 13 = .ok (.i2l, 1) := by decide +kernel
theorem dX5_squares_14 : decode cX5_squares 14 = .ok (.lconst 0, 1) := by decide +kernel
theorem dX5_squares_15 : decode cX5_squares 15 = .ok (.ldc2_w 177, 3) := by decide +kernel
theorem dX5_squares_18 : decode cX5_squares 18 = .ok (.invokestatic 98, 3) := by decide +kernel
theorem dX5_squares_21 : decode cX5_squares 21 = .ok (.ifCond .ne 10, 3) := by decide +kernel
theorem dX5_squares_24 : decode cX5_squares 24 = .ok (.aload_n 0, 1) := by decide +kernel
theorem dX5_squares_25 : decode cX5_squares 25 = .ok (.bipush (-7), 2) := by decide +kernel
theorem dX5_squares_27 : decode cX5_squares 27 = .ok (.invokevirtual 114, 3) := by decide +kernel
theorem dX5_squares_30 : decode cX5_squares 30 = .ok (.ireturn, 1) := by decide +kernel
theorem dX5_squares_31 : decode cX5_squares 31 = .ok (.iconst 0, 1) := by decide +kernel
theorem dX5_squares_32 : decode cX5_squares 32 = .ok (.istore_n 3, 1) := by decide +kernel
theorem dX5_squares_33 : decode cX5_squares 33 = .ok (.iload_n 3, 1) := by decide +kernel
theorem dX5_squares_34 : decode cX5_squares 34 = .ok (.bipush 100, 2) := by decide +kernel
theorem dX5_squares_36 : decode cX5_squares 36 = .ok (.if_icmp .ge 24, 3) := by decide +kernel
theorem dX5_squares_39 : decode cX5_squares 39 = .ok (.aload_n 0, 1) := by decide +kernel
theorem dX5_squares_40 : decode cX5_squares 40 = .ok (.getfield 53, 3) := by decide +kernel
theorem dX5_squares_43 : decode cX5_squares 43 = .ok (.iload_n 3, 1) := by decide +kernel
theorem dX5_squares_44 : decode cX5_squares 44 = .ok (.iload_n 3, 1) := by decide +kernel
theorem dX5_squares_45 : decode cX5_squares 45 = .ok (.ifCond .ne 7, 3) := by decide +kernel
theorem dX5_squares_48 : decode cX5_squares 48 = .ok (.lconst 1, 1) := by decide +kernel
theorem dX5_squares_49 : decode cX5_squares 49 = .ok (.goto 4, 3) := by decide +kernel
theorem dX5_squares_52 : decode cX5_squares 52 = .ok (.lconst 0, 1) := by decide +kernel
theorem dX5_squares_53 : decode cX5_squares 53 = .ok (.lastore, 1) := by decide +kernel
theorem dX5_squares_54 : decode cX5_squares 54 = .ok (.iinc 3 1, 3) := by decide +kernel
theorem dX5_squares_57 : decode cX5_squares 57 = .ok (.goto (-24), 3) := by decide +kernel
theorem dX5_squares_60 : decode cX5_squares 60 = .ok (.iconst 0, 1) := by decide +kernel
theorem dX5_squares_61 : decode cX5_squares 61 = .ok (.istore_n 3, 1) := by decide +kernel
theorem dX5_squares_62 : decode cX5_squares 62 = .ok (.iload_n 3, 1) := by decide +kernel
theorem dX5_squares_63 : decode cX5_squares 63 = .ok (.iload_n 1, 1) := by decide +kernel
theorem dX5_squares_64 : decode cX5_squares 64 = .ok (.if_icmp .ge 115, 3) := by decide +kernel
theorem dX5_squares_67 : decode cX5_squares 67 = .ok (.iconst 0, 1) := by decide +kernel
theorem dX5_squares_68 : decode cX5_squares 68 = .ok (.istore 4, 2) := by decide +kernel
theorem dX5_squares_70 : decode cX5_squares 70 = .ok (.iload 4, 2) := by decide +kernel
theorem dX5_squares_72 : decode cX5_squares 72 = .ok (.bipush 100, 2) := by decide +kernel
theorem dX5_squares_74 : decode cX5_squares 74 = .ok (.if_icmp .ge 69, 3) := by decide +kernel
theorem dX5_squares_77 : decode cX5_squares 77 = .ok (.aload_n 0, 1) := by decide +kernel
theorem dX5_squares_78 : decode cX5_squares 78 = .ok (.getfield 56, 3) := by decide +kernel
theorem dX5_squares_81 : decode cX5_squares 81 = .ok (.iload 4, 2) := by decide +kernel
theorem dX5_squares_83 : decode cX5_squares 83 = .ok (.aload_n 0, 1) := by decide +kernel
theorem dX5_squares_84 : decode cX5_squares 84 = .ok (.getfield 53, 3) := by decide +kernel
theorem dX5_squares_87 : decode cX5_squares 87 = .ok (.iload 4, 2) := by decide +kernel
theorem dX5_squares_89 : decode cX5_squares 89 = .ok (.laload, 1) := by decide +kernel
theorem dX5_squares_90 : decode cX5_squares 90 = .ok (.lastore, 1) := by decide +kernel
theorem dX5_squares_91 : decode cX5_squares 91 = .ok (.iconst 1, 1) := by decide +kernel
theorem dX5_squares_92 : decode cX5_squares 92 = .ok (.istore 5, 2) := by decide +kernel
theorem dX5_squares_94 : decode cX5_squares 94 = .ok (.iload 5, 2) := by decide +kernel
theorem dX5_squares_96 : decode cX5_squares 96 = .ok (.iload 5, 2) := by decide +kernel
theorem dX5_squares_98 : decode cX5_squares 98 = .ok (.imul, 1) := by decide +kernel
theorem dX5_squares_99 : decode cX5_squares 99 = .ok (.iload 4, 2) := by decide +kernel
theorem dX5_squares_101 : decode cX5_squares 101 = .ok (.if_icmp .gt 36, 3) := by decide +kernel
theorem dX5_squares_104 : decode cX5_squares 104 = .ok (.aload_n 0, 1) := by decide +kernel
theorem dX5_squares_105 : decode cX5_squares 105 = .ok (.getfield 56, 3) := by decide +kernel
theorem dX5_squares_108 : decode cX5_squares 108 = .ok (.iload 4, 2) := by decide +kernel
theorem dX5_squares_110 : decode cX5_squares 110 = .ok (.dup2, 1) := by decide +kernel
theorem dX5_squares_111 : decode cX5_squares 111 = .ok (.laload, 1) := by decide +kernel
theorem dX5_squares_112 : decode cX5_squares 112 = .ok (.ldc2_w 83, 3) := by decide +kernel
theorem dX5_squares_115 : decode cX5_squares 115 = .ok (.aload_n 0, 1) := by decide +kernel
theorem dX5_squares_116 : decode cX5_squares 116 = .ok (.getfield 53, 3) := by decide +kernel
theorem dX5_squares_119 : decode cX5_squares 119 = .ok (.iload 4, 2) := by decide +kernel
theorem dX5_squares_121 : decode cX5_squares 121 = .ok (.iload 5, 2) := by decide +kernel
theorem dX5_squares_123 : decode cX5_squares 123 = .ok (.iload 5, 2) := by decide +kernel
theorem dX5_squares_125 : decode cX5_squares 125 = .ok (.imul, 1) := by decide +kernel
theorem dX5_squares_126 : decode cX5_squares 126 = .ok (.isub, 1) := by decide +kernel
theorem dX5_squares_127 : decode cX5_squares 127 = .ok (.laload, 1) := by decide +kernel
theorem dX5_squares_128 : decode cX5_squares 128 = .ok (.lmul, 1) := by decide +kernel
theorem dX5_squares_129 : decode cX5_squares 129 = .ok (.ladd, 1) := by decide +kernel
theorem dX5_squares_130 : decode cX5_squares 130 = .ok (.lastore, 1) := by decide +kernel
theorem dX5_squares_131 : decode cX5_squares 131 = .ok (.iinc 5 1, 3) := by decide +kernel
theorem dX5_squares_134 : decode cX5_squares 134 = .ok (.goto (-40), 3) := by decide +kernel
theorem dX5_squares_137 : decode cX5_squares 137 = .ok (.iinc 4 1, 3) := by decide +kernel
theorem dX5_squares_140 : decode cX5_squares 140 = .ok (.goto (-70), 3) := by decide +kernel
theorem dX5_squares_143 : decode cX5_squares 143 = .ok (.iconst 0, 1) := by decide +kernel
theorem dX5_squares_144 : decode cX5_squares 144 = .ok (.istore 4, 2) := by decide +kernel
theorem dX5_squares_146 : decode cX5_squares 146 = .ok (.iload 4, 2) := by decide +kernel
theorem dX5_squares_148 : decode cX5_squares 148 = .ok (.bipush 100, 2) := by decide +kernel
theorem dX5_squares_150 : decode cX5_squares 150 = .ok (.if_icmp .ge 23, 3) := by decide +kernel
theorem dX5_squares_153 : decode cX5_squares 153 = .ok (.aload_n 0, 1) := by decide +kernel
theorem dX5_squares_154 : decode cX5_squares 154 = .ok (.getfield 53, 3) := by decide +kernel
theorem dX5_squares_157 : decode cX5_squares 157 = .ok (.iload 4, 2) := by decide +kernel
theorem dX5_squares_159 : decode cX5_squares 159 = .ok (.aload_n 0, 1) := by decide +kernel
theorem dX5_squares_160 : decode cX5_squares 160 = .ok (.getfield 56, 3) := by decide +kernel
theorem dX5_squares_163 : decode cX5_squares 163 = .ok (.iload 4, 2) := by decide +kernel
theorem dX5_squares_165 : decode cX5_squares 165 = .ok (.laload, 1) := by decide +kernel
theorem dX5_squares_166 : decode cX5_squares 166 = .ok (.lastore, 1) := by decide +kernel
theorem dX5_squares_167 : decode cX5_squares 167 = .ok (.iinc 4 1, 3) := by decide +kernel
theorem dX5_squares_170 : decode cX5_squares 170 = .ok (.goto (-24), 3) := by decide +kernel
theorem dX5_squares_173 : decode cX5_squares 173 = .ok (.iinc 3 1, 3) := by decide +kernel
theorem dX5_squares_176 : decode cX5_squares 176 = .ok (.goto (-114), 3) := by decide +kernel
theorem dX5_squares_179 : decode cX5_squares 179 = .ok (.aload_n 0, 1) := by decide +kernel
theorem dX5_squares_180 : decode cX5_squares 180 = .ok (.getfield 53, 3) := by decide +kernel
theorem dX5_squares_183 : decode cX5_squares 183 = .ok (.iload_n 2, 1) := by decide +kernel
theorem dX5_squares_184 : decode cX5_squares 184 = .ok (.laload, 1) := by decide +kernel
theorem dX5_squares_185 : decode cX5_squares 185 = .ok (.l2i, 1) := by decide +kernel
theorem dX5_squares_186 : decode cX5_squares 186 = .ok (.ireturn, 1) := by decide +kernel
theorem dX5_count_0 : decode cX5_count 0 = .ok (.aload_n 0, 1) := by decide +kernel
theorem dX5_count_1 : decode cX5_count 1 = .ok (.getfield 89, 3) := by decide +kernel
theorem dX5_count_4 : decode cX5_count 4 = .ok (.ireturn, 1) := by decide +kernel
theorem dX5_lay_0 : decode cX5_lay 0 = .ok (.aload_n 0, 1) := by decide +kernel
theorem dX5_lay_1 : decode cX5_lay 1 = .ok (.iload_n 1, 1) := by decide +kernel
theorem dX5_lay_2 : decode cX5_lay 2 = .ok (.invokevirtual 135, 3) := by decide +kernel
theorem dX5_lay_5 : decode cX5_lay 5 = .ok (.ifCond .ne 10, 3) := by decide +kernel
theorem dX5_lay_8 : decode cX5_lay 8 = .ok (.aload_n 0, 1) := by decide +kernel
theorem dX5_lay_9 : decode cX5_lay 9 = .ok (.bipush (-3), 2) := by decide +kernel
theorem dX5_lay_11 : decode cX5_lay 11 = .ok (.invokevirtual 114, 3) := by decide +kernel
theorem dX5_lay_14 : decode cX5_lay 14 = .ok (.ireturn, 1) := by decide +kernel
theorem dX5_lay_15 : decode cX5_lay 15 = .ok (.iload_n 2, 1) := by decide +kernel
theorem dX5_lay_16 : decode cX5_lay 16 = .ok (.ifCond .ge 10, 3) := by decide +kernel
theorem dX5_lay_19 : decode cX5_lay 19 = .ok (.aload_n 0, 1) := by decide +kernel
theorem dX5_lay_20 : decode cX5_lay 20 = .ok (.bipush (-4), 2) := by decide +kernel
theorem dX5_lay_22 : decode cX5_lay 22 = .ok (.invokevirtual 114, 3) := by decide +kernel
theorem dX5_lay_25 : decode cX5_lay 25 = .ok (.ireturn, 1) := by decide +kernel
theorem dX5_lay_26 : decode cX5_lay 26 = .ok (.iload_n 2, 1) := by decide +kernel
theorem dX5_lay_27 : decode cX5_lay 27 = .ok (.bipush 48, 2) := by decide +kernel
theorem dX5_lay_29 : decode cX5_lay 29 = .ok (.if_icmp .le 10, 3) := by decide +kernel
theorem dX5_lay_32 : decode cX5_lay 32 = .ok (.aload_n 0, 1) := by decide +kernel
theorem dX5_lay_33 : decode cX5_lay 33 = .ok (.bipush (-7), 2) := by decide +kernel
theorem dX5_lay_35 : decode cX5_lay 35 = .ok (.invokevirtual 114, 3) := by decide +kernel
theorem dX5_lay_38 : decode cX5_lay 38 = .ok (.ireturn, 1) := by decide +kernel
theorem dX5_lay_39 : decode cX5_lay 39 = .ok (.aload_n 0, 1) := by decide +kernel
theorem dX5_lay_40 : decode cX5_lay 40 = .ok (.iload_n 2, 1) := by decide +kernel
theorem dX5_lay_41 : decode cX5_lay 41 = .ok (.putfield 65, 3) := by decide +kernel
theorem dX5_lay_44 : decode cX5_lay 44 = .ok (.iconst 0, 1) := by decide +kernel
theorem dX5_lay_45 : decode cX5_lay 45 = .ok (.istore_n 3, 1) := by decide +kernel
theorem dX5_lay_46 : decode cX5_lay 46 = .ok (.iload_n 3, 1) := by decide +kernel
theorem dX5_lay_47 : decode cX5_lay 47 = .ok (.iload_n 2, 1) := by decide +kernel
theorem dX5_lay_48 : decode cX5_lay 48 = .ok (.if_icmp .ge 27, 3) := by decide +kernel
theorem dX5_lay_51 : decode cX5_lay 51 = .ok (.aload_n 0, 1) := by decide +kernel
theorem dX5_lay_52 : decode cX5_lay 52 = .ok (.getfield 59, 3) := by decide +kernel
theorem dX5_lay_55 : decode cX5_lay 55 = .ok (.iload_n 3, 1) := by decide +kernel
theorem dX5_lay_56 : decode cX5_lay 56 = .ok (.aload_n 0, 1) := by decide +kernel
theorem dX5_lay_57 : decode cX5_lay 57 = .ok (.getfield 7, 3) := by decide +kernel
theorem dX5_lay_60 : decode cX5_lay 60 = .ok (.bipush 48, 2) := by decide +kernel
theorem dX5_lay_62 : decode cX5_lay 62 = .ok (.iload_n 1, 1) := by decide +kernel
theorem dX5_lay_63 : decode cX5_lay 63 = .ok (.imul, 1) := by decide +kernel
theorem dX5_lay_64 : decode cX5_lay 64 = .ok (.iload_n 3, 1) := by decide +kernel
theorem dX5_lay_65 : decode cX5_lay 65 = .ok (.iadd, 1) := by decide +kernel
theorem dX5_lay_66 : decode cX5_lay 66 = .ok (.laload, 1) := by decide +kernel
theorem dX5_lay_67 : decode cX5_lay 67 = .ok (.l2i, 1) := by decide +kernel
theorem dX5_lay_68 : decode cX5_lay 68 = .ok (.iastore, 1) := by decide +kernel
theorem dX5_lay_69 : decode cX5_lay 69 = .ok (.iinc 3 1, 3) := by decide +kernel
theorem dX5_lay_72 : decode cX5_lay 72 = .ok (.goto (-26), 3) := by decide +kernel
theorem dX5_lay_75 : decode cX5_lay 75 = .ok (.iload_n 2, 1) := by decide +kernel
theorem dX5_lay_76 : decode cX5_lay 76 = .ok (.ireturn, 1) := by decide +kernel
theorem dX5_tell_0 : decode cX5_tell 0 = .ok (.aload_n 0, 1) := by decide +kernel
theorem dX5_tell_1 : decode cX5_tell 1 = .ok (.getfield 65, 3) := by decide +kernel
theorem dX5_tell_4 : decode cX5_tell 4 = .ok (.ifCond .ge 10, 3) := by decide +kernel
theorem dX5_tell_7 : decode cX5_tell 7 = .ok (.aload_n 0, 1) := by decide +kernel
theorem dX5_tell_8 : decode cX5_tell 8 = .ok (.bipush (-2), 2) := by decide +kernel
theorem dX5_tell_10 : decode cX5_tell 10 = .ok (.invokevirtual 114, 3) := by decide +kernel
theorem dX5_tell_13 : decode cX5_tell 13 = .ok (.ireturn, 1) := by decide +kernel
theorem dX5_tell_14 : decode cX5_tell 14 = .ok (.iload_n 1, 1) := by decide +kernel
theorem dX5_tell_15 : decode cX5_tell 15 = .ok (.i2l, 1) := by decide +kernel
theorem dX5_tell_16 : decode cX5_tell 16 = .ok (.lconst 0, 1) := by decide +kernel
theorem dX5_tell_17 : decode cX5_tell 17 = .ok (.aload_n 0, 1) := by decide +kernel
theorem dX5_tell_18 : decode cX5_tell 18 = .ok (.getfield 65, 3) := by decide +kernel
theorem dX5_tell_21 : decode cX5_tell 21 = .ok (.iconst 1, 1) := by decide +kernel
theorem dX5_tell_22 : decode cX5_tell 22 = .ok (.isub, 1) := by decide +kernel
theorem dX5_tell_23 : decode cX5_tell 23 = .ok (.i2l, 1) := by decide +kernel
theorem dX5_tell_24 : decode cX5_tell 24 = .ok (.invokestatic 98, 3) := by decide +kernel
theorem dX5_tell_27 : decode cX5_tell 27 = .ok (.ifCond .ne 10, 3) := by decide +kernel
theorem dX5_tell_30 : decode cX5_tell 30 = .ok (.aload_n 0, 1) := by decide +kernel
theorem dX5_tell_31 : decode cX5_tell 31 = .ok (.bipush (-3), 2) := by decide +kernel
theorem dX5_tell_33 : decode cX5_tell 33 = .ok (.invokevirtual 114, 3) := by decide +kernel
theorem dX5_tell_36 : decode cX5_tell 36 = .ok (.ireturn, 1) := by decide +kernel
theorem dX5_tell_37 : decode cX5_tell 37 = .ok (.aload_n 0, 1) := by decide +kernel
theorem dX5_tell_38 : decode cX5_tell 38 = .ok (.getfield 59, 3) := by decide +kernel
theorem dX5_tell_41 : decode cX5_tell 41 = .ok (.iload_n 1, 1) := by decide +kernel
theorem dX5_tell_42 : decode cX5_tell 42 = .ok (.iaload, 1) := by decide +kernel
theorem dX5_tell_43 : decode cX5_tell 43 = .ok (.istore_n 3, 1) := by decide +kernel
theorem dX5_tell_44 : decode cX5_tell 44 = .ok (.aload_n 0, 1) := by decide +kernel
theorem dX5_tell_45 : decode cX5_tell 45 = .ok (.getfield 59, 3) := by decide +kernel
theorem dX5_tell_48 : decode cX5_tell 48 = .ok (.iload_n 1, 1) := by decide +kernel
theorem dX5_tell_49 : decode cX5_tell 49 = .ok (.iload_n 2, 1) := by decide +kernel
theorem dX5_tell_50 : decode cX5_tell 50 = .ok (.invokestatic 138, 3) := by decide +kernel
theorem dX5_tell_53 : decode cX5_tell 53 = .ok (.l2i, 1) := by decide +kernel
theorem dX5_tell_54 : decode cX5_tell 54 = .ok (.iastore, 1) := by decide +kernel
theorem dX5_tell_55 : decode cX5_tell 55 = .ok (.iload_n 3, 1) := by decide +kernel
theorem dX5_tell_56 : decode cX5_tell 56 = .ok (.aload_n 0, 1) := by decide +kernel
theorem dX5_tell_57 : decode cX5_tell 57 = .ok (.getfield 59, 3) := by decide +kernel
theorem dX5_tell_60 : decode cX5_tell 60 = .ok (.iload_n 1, 1) := by decide +kernel
theorem dX5_tell_61 : decode cX5_tell 61 = .ok (.iaload, 1) := by decide +kernel
theorem dX5_tell_62 : decode cX5_tell 62 = .ok (.if_icmp .eq 7, 3) := by decide +kernel
theorem dX5_tell_65 : decode cX5_tell 65 = .ok (.iconst 1, 1) := by decide +kernel
theorem dX5_tell_66 : decode cX5_tell 66 = .ok (.goto 4, 3) := by decide +kernel
theorem dX5_tell_69 : decode cX5_tell 69 = .ok (.iconst 0, 1) := by decide +kernel
theorem dX5_tell_70 : decode cX5_tell 70 = .ok (.ireturn, 1) := by decide +kernel
theorem dX5_give_0 : decode cX5_give 0 = .ok (.aload_n 0, 1) := by decide +kernel
theorem dX5_give_1 : decode cX5_give 1 = .ok (.getfield 65, 3) := by decide +kernel
theorem dX5_give_4 : decode cX5_give 4 = .ok (.ifCond .ge 10, 3) := by decide +kernel
theorem dX5_give_7 : decode cX5_give 7 = .ok (.aload_n 0, 1) := by decide +kernel
theorem dX5_give_8 : decode cX5_give 8 = .ok (.bipush (-2), 2) := by decide +kernel
theorem dX5_give_10 : decode cX5_give 10 = .ok (.invokevirtual 114, 3) := by decide +kernel
theorem dX5_give_13 : decode cX5_give 13 = .ok (.ireturn, 1) := by decide +kernel
theorem dX5_give_14 : decode cX5_give 14 = .ok (.iload_n 1, 1) := by decide +kernel
theorem dX5_give_15 : decode cX5_give 15 = .ok (.invokestatic 163, 3) := by decide +kernel
theorem dX5_give_18 : decode cX5_give 18 = .ok (.ifCond .eq 14, 3) := by decide +kernel
theorem dX5_give_21 : decode cX5_give 21 = .ok (.aload_n 0, 1) := by decide +kernel
theorem dX5_give_22 : decode cX5_give 22 = .ok (.getfield 65, 3) := by decide +kernel
theorem dX5_give_25 : decode cX5_give 25 = .ok (.iload_n 1, 1) := by decide +kernel
theorem dX5_give_26 : decode cX5_give 26 = .ok (.invokestatic 106, 3) := by decide +kernel
theorem dX5_give_29 : decode cX5_give 29 = .ok (.if_icmp .ge 10, 3) := by decide +kernel
theorem dX5_give_32 : decode cX5_give 32 = .ok (.aload_n 0, 1) := by decide +kernel
theorem dX5_give_33 : decode cX5_give 33 = .ok (.bipush (-7), 2) := by decide +kernel
theorem dX5_give_35 : decode cX5_give 35 = .ok (.invokevirtual 114, 3) := by decide +kernel
theorem dX5_give_38 : decode cX5_give 38 = .ok (.ireturn, 1) := by decide +kernel
theorem dX5_give_39 : decode cX5_give 39 = .ok (.iconst 0, 1) := by decide +kernel
theorem dX5_give_40 : decode cX5_give 40 = .ok (.istore_n 2, 1) := by decide +kernel
theorem dX5_give_41 : decode cX5_give 41 = .ok (.iload_n 2, 1) := by decide +kernel
theorem dX5_give_42 : decode cX5_give 42 = .ok (.iload_n 1, 1) := by decide +kernel
theorem dX5_give_43 : decode cX5_give 43 = .ok (.invokestatic 106, 3) := by decide +kernel
theorem dX5_give_46 : decode cX5_give 46 = .ok (.if_icmp .ge 22, 3) := by decide +kernel
theorem dX5_give_49 : decode cX5_give 49 = .ok (.aload_n 0, 1) := by decide +kernel
theorem dX5_give_50 : decode cX5_give 50 = .ok (.getfield 50, 3) := by decide +kernel
theorem dX5_give_53 : decode cX5_give 53 = .ok (.iload_n 2, 1) := by decide +kernel
theorem dX5_give_54 : decode cX5_give 54 = .ok (.aload_n 0, 1) := by decide +kernel
theorem dX5_give_55 : decode cX5_give 55 = .ok (.getfield 59, 3) := by decide +kernel
theorem dX5_give_58 : decode cX5_give 58 = .ok (.iload_n 2, 1) := by decide +kernel
theorem dX5_give_59 : decode cX5_give 59 = .ok (.iaload, 1) := by decide +kernel
theorem dX5_give_60 : decode cX5_give 60 = .ok (.i2l, 1) := by decide +kernel
theorem dX5_give_61 : decode cX5_give 61 = .ok (.lastore, 1) := by decide +kernel
theorem dX5_give_62 : decode cX5_give 62 = .ok (.iinc 2 1, 3) := by decide +kernel
theorem dX5_give_65 : decode cX5_give 65 = .ok (.goto (-24), 3) := by decide +kernel
theorem dX5_give_68 : decode cX5_give 68 = .ok (.aload_n 0, 1) := by decide +kernel
theorem dX5_give_69 : decode cX5_give 69 = .ok (.aload_n 0, 1) := by decide +kernel
theorem dX5_give_70 : decode cX5_give 70 = .ok (.getfield 50, 3) := by decide +kernel
theorem dX5_give_73 : decode cX5_give 73 = .ok (.iload_n 1, 1) := by decide +kernel
theorem dX5_give_74 : decode cX5_give 74 = .ok (.invokevirtual 151, 3) := by decide +kernel
theorem dX5_give_77 : decode cX5_give 77 = .ok (.aload_n 0, 1) := by decide +kernel
theorem dX5_give_78 : decode cX5_give 78 = .ok (.iload_n 1, 1) := by decide +kernel
theorem dX5_give_79 : decode cX5_give 79 = .ok (.iconst 0, 1) := by decide +kernel
theorem dX5_give_80 : decode cX5_give 80 = .ok (.invokevirtual 154, 3) := by decide +kernel
theorem dX5_give_83 : decode cX5_give 83 = .ok (.aload_n 0, 1) := by decide +kernel
theorem dX5_give_84 : decode cX5_give 84 = .ok (.iload_n 1, 1) := by decide +kernel
theorem dX5_give_85 : decode cX5_give 85 = .ok (.invokevirtual 142, 3) := by decide +kernel
theorem dX5_give_88 : decode cX5_give 88 = .ok (.ireturn, 1) := by decide +kernel
theorem dX5_tear_0 : decode cX5_tear 0 = .ok (.aload_n 0, 1) := by decide +kernel
theorem dX5_tear_1 : decode cX5_tear 1 = .ok (.getfield 65, 3) := by decide +kernel
theorem dX5_tear_4 : decode cX5_tear 4 = .ok (.ifCond .lt 7, 3) := by decide +kernel
theorem dX5_tear_7 : decode cX5_tear 7 = .ok (.iconst 1, 1) := by decide +kernel
theorem dX5_tear_8 : decode cX5_tear 8 = .ok (.goto 4, 3) := by decide +kernel
theorem dX5_tear_11 : decode cX5_tear 11 = .ok (.iconst 0, 1) := by decide +kernel
theorem dX5_tear_12 : decode cX5_tear 12 = .ok (.istore_n 1, 1) := by decide +kernel
theorem dX5_tear_13 : decode cX5_tear 13 = .ok (.aload_n 0, 1) := by decide +kernel
theorem dX5_tear_14 : decode cX5_tear 14 = .ok (.iconst (-1), 1) := by decide +kernel
theorem dX5_tear_15 : decode cX5_tear 15 = .ok (.putfield 65, 3) := by decide +kernel
theorem dX5_tear_18 : decode cX5_tear 18 = .ok (.iload_n 1, 1) := by decide +kernel
theorem dX5_tear_19 : decode cX5_tear 19 = .ok (.ireturn, 1) := by decide +kernel
theorem dX5_row_0 : decode cX5_row 0 = .ok (.aload_n 0, 1) := by decide +kernel
theorem dX5_row_1 : decode cX5_row 1 = .ok (.getfield 65, 3) := by decide +kernel
theorem dX5_row_4 : decode cX5_row 4 = .ok (.ifCond .ge 10, 3) := by decide +kernel
theorem dX5_row_7 : decode cX5_row 7 = .ok (.aload_n 0, 1) := by decide +kernel
theorem dX5_row_8 : decode cX5_row 8 = .ok (.bipush (-2), 2) := by decide +kernel
theorem dX5_row_10 : decode cX5_row 10 = .ok (.invokevirtual 114, 3) := by decide +kernel
theorem dX5_row_13 : decode cX5_row 13 = .ok (.ireturn, 1) := by decide +kernel
theorem dX5_row_14 : decode cX5_row 14 = .ok (.iload_n 1, 1) := by decide +kernel
theorem dX5_row_15 : decode cX5_row 15 = .ok (.i2l, 1) := by decide +kernel
theorem dX5_row_16 : decode cX5_row 16 = .ok (.lconst 0, 1) := by decide +kernel
theorem dX5_row_17 : decode cX5_row 17 = .ok (.aload_n 0, 1) := by decide +kernel
theorem dX5_row_18 : decode cX5_row 18 = .ok (.getfield 65, 3) := by decide +kernel
theorem dX5_row_21 : decode cX5_row 21 = .ok (.iconst 1, 1) := by decide +kernel
theorem dX5_row_22 : decode cX5_row 22 = .ok (.isub, 1) := by decide +kernel
theorem dX5_row_23 : decode cX5_row 23 = .ok (.i2l, 1) := by decide +kernel
theorem dX5_row_24 : decode cX5_row 24 = .ok (.invokestatic 98, 3) := by decide +kernel
theorem dX5_row_27 : decode cX5_row 27 = .ok (.ifCond .eq 12, 3) := by decide +kernel
theorem dX5_row_30 : decode cX5_row 30 = .ok (.aload_n 0, 1) := by decide +kernel
theorem dX5_row_31 : decode cX5_row 31 = .ok (.getfield 59, 3) := by decide +kernel
theorem dX5_row_34 : decode cX5_row 34 = .ok (.iload_n 1, 1) := by decide +kernel
theorem dX5_row_35 : decode cX5_row 35 = .ok (.iaload, 1) := by decide +kernel
theorem dX5_row_36 : decode cX5_row 36 = .ok (.goto 9, 3) := by decide +kernel
theorem dX5_row_39 : decode cX5_row 39 = .ok (.aload_n 0, 1) := by decide +kernel
theorem dX5_row_40 : decode cX5_row 40 = .ok (.bipush (-3), 2) := by decide +kernel
theorem dX5_row_42 : decode cX5_row 42 = .ok (.invokevirtual 114, 3) := by decide +kernel
theorem dX5_row_45 : decode cX5_row 45 = .ok (.ireturn, 1) := by decide +kernel
theorem dX5_copy_0 : decode cX5_copy 0 = .ok (.aload_n 0, 1) := by decide +kernel
theorem dX5_copy_1 : decode cX5_copy 1 = .ok (.getfield 65, 3) := by decide +kernel
theorem dX5_copy_4 : decode cX5_copy 4 = .ok (.ifCond .ge 10, 3) := by decide +kernel
theorem dX5_copy_7 : decode cX5_copy 7 = .ok (.aload_n 0, 1) := by decide +kernel
theorem dX5_copy_8 : decode cX5_copy 8 = .ok (.bipush (-2), 2) := by decide +kernel
theorem dX5_copy_10 : decode cX5_copy 10 = .ok (.invokevirtual 114, 3) := by decide +kernel
theorem dX5_copy_13 : decode cX5_copy 13 = .ok (.ireturn, 1) := by decide +kernel
theorem dX5_copy_14 : decode cX5_copy 14 = .ok (.iload_n 3, 1) := by decide +kernel
theorem dX5_copy_15 : decode cX5_copy 15 = .ok (.ifCond .ge 10, 3) := by decide +kernel
theorem dX5_copy_18 : decode cX5_copy 18 = .ok (.aload_n 0, 1) := by decide +kernel
theorem dX5_copy_19 : decode cX5_copy 19 = .ok (.bipush (-4), 2) := by decide +kernel
theorem dX5_copy_21 : decode cX5_copy 21 = .ok (.invokevirtual 114, 3) := by decide +kernel
theorem dX5_copy_24 : decode cX5_copy 24 = .ok (.ireturn, 1) := by decide +kernel
theorem dX5_copy_25 : decode cX5_copy 25 = .ok (.iload_n 1, 1) := by decide +kernel
theorem dX5_copy_26 : decode cX5_copy 26 = .ok (.ifCond .lt 35, 3) := by decide +kernel
theorem dX5_copy_29 : decode cX5_copy 29 = .ok (.iload_n 2, 1) := by decide +kernel
theorem dX5_copy_30 : decode cX5_copy 30 = .ok (.ifCond .lt 31, 3) := by decide +kernel
theorem dX5_copy_33 : decode cX5_copy 33 = .ok (.iload_n 1, 1) := by decide +kernel
theorem dX5_copy_34 : decode cX5_copy 34 = .ok (.i2l, 1) := by decide +kernel
theorem dX5_copy_35 : decode cX5_copy 35 = .ok (.iload_n 3, 1) := by decide +kernel
theorem dX5_copy_36 : decode cX5_copy 36 = .ok (.i2l, 1) := by decide +kernel
theorem dX5_copy_37 : decode cX5_copy 37 = .ok (.ladd, 1) := by decide +kernel
theorem dX5_copy_38 : decode cX5_copy 38 = .ok (.aload_n 0, 1) := by decide +kernel
theorem dX5_copy_39 : decode cX5_copy 39 = .ok (.getfield 65, 3) := by decide +kernel
theorem dX5_copy_42 : decode cX5_copy 42 = .ok (.i2l, 1) := by decide +kernel
theorem dX5_copy_43 : decode cX5_copy 43 = .ok (.lcmp, 1) := by decide +kernel
theorem dX5_copy_44 : decode cX5_copy 44 = .ok (.ifCond .gt 17, 3) := by decide +kernel
theorem dX5_copy_47 : decode cX5_copy 47 = .ok (.iload_n 2, 1) := by decide +kernel
theorem dX5_copy_48 : decode cX5_copy 48 = .ok (.i2l, 1) := by decide +kernel
theorem dX5_copy_49 : decode cX5_copy 49 = .ok (.iload_n 3, 1) := by decide +kernel
theorem dX5_copy_50 : decode cX5_copy 50 = .ok (.i2l, 1) := by decide +kernel
theorem dX5_copy_51 : decode cX5_copy 51 = .ok (.ladd, 1) := by decide +kernel
theorem dX5_copy_52 : decode cX5_copy 52 = .ok (.aload_n 0, 1) := by decide +kernel
theorem dX5_copy_53 : decode cX5_copy 53 = .ok (.getfield 65, 3) := by decide +kernel
theorem dX5_copy_56 : decode cX5_copy 56 = .ok (.i2l, 1) := by decide +kernel
theorem dX5_copy_57 : decode cX5_copy 57 = .ok (.lcmp, 1) := by decide +kernel
theorem dX5_copy_58 : decode cX5_copy 58 = .ok (.ifCond .le 10, 3) := by decide +kernel
theorem dX5_copy_61 : decode cX5_copy 61 = .ok (.aload_n 0, 1) := by decide +kernel
theorem dX5_copy_62 : decode cX5_copy 62 = .ok (.bipush (-6), 2) := by decide +kernel
theorem dX5_copy_64 : decode cX5_copy 64 = .ok (.invokevirtual 114, 3) := by decide +kernel
theorem dX5_copy_67 : decode cX5_copy 67 = .ok (.ireturn, 1) := by decide +kernel
theorem dX5_copy_68 : decode cX5_copy 68 = .ok (.iconst 0, 1) := by decide +kernel
theorem dX5_copy_69 : decode cX5_copy 69 = .ok (.istore 4, 2) := by decide +kernel
theorem dX5_copy_71 : decode cX5_copy 71 = .ok (.iload 4, 2) := by decide +kernel
theorem dX5_copy_73 : decode cX5_copy 73 = .ok (.iload_n 3, 1) := by decide +kernel
theorem dX5_copy_74 : decode cX5_copy 74 = .ok (.if_icmp .ge 25, 3) := by decide +kernel
theorem dX5_copy_77 : decode cX5_copy 77 = .ok (.aload_n 0, 1) := by decide +kernel
theorem dX5_copy_78 : decode cX5_copy 78 = .ok (.getfield 62, 3) := by decide +kernel
theorem dX5_copy_81 : decode cX5_copy 81 = .ok (.iload 4, 2) := by decide +kernel
theorem dX5_copy_83 : decode cX5_copy 83 = .ok (.aload_n 0, 1) := by decide +kernel
theorem dX5_copy_84 : decode cX5_copy 84 = .ok (.getfield 59, 3) := by decide +kernel
theorem dX5_copy_87 : decode cX5_copy 87 = .ok (.iload_n 1, 1) := by decide +kernel
theorem dX5_copy_88 : decode cX5_copy 88 = .ok (.iload 4, 2) := by decide +kernel
theorem dX5_copy_90 : decode cX5_copy 90 = .ok (.iadd, 1) := by decide +kernel
theorem dX5_copy_91 : decode cX5_copy 91 = .ok (.iaload, 1) := by decide +kernel
theorem dX5_copy_92 : decode cX5_copy 92 = .ok (.iastore, 1) := by decide +kernel
theorem dX5_copy_93 : decode cX5_copy 93 = .ok (.iinc 4 1, 3) := by decide +kernel
theorem dX5_copy_96 : decode cX5_copy 96 = .ok (.goto (-25), 3) := by decide +kernel
theorem dX5_copy_99 : decode cX5_copy 99 = .ok (.iconst 0, 1) := by decide +kernel
theorem dX5_copy_100 : decode cX5_copy 100 = .ok (.istore 4, 2) := by decide +kernel
theorem dX5_copy_102 : decode cX5_copy 102 = .ok (.iload 4, 2) := by decide +kernel
theorem dX5_copy_104 : decode cX5_copy 104 = .ok (.iload_n 3, 1) := by decide +kernel
theorem dX5_copy_105 : decode cX5_copy 105 = .ok (.if_icmp .ge 25, 3) := by decide +kernel
theorem dX5_copy_108 : decode cX5_copy 108 = .ok (.aload_n 0, 1) := by decide +kernel
theorem dX5_copy_109 : decode cX5_copy 109 = .ok (.getfield 59, 3) := by decide +kernel
theorem dX5_copy_112 : decode cX5_copy 112 = .ok (.iload_n 2, 1) := by decide +kernel
theorem dX5_copy_113 : decode cX5_copy 113 = .ok (.iload 4, 2) := by decide +kernel
theorem dX5_copy_115 : decode cX5_copy 115 = .ok (.iadd, 1) := by decide +kernel
theorem dX5_copy_116 : decode cX5_copy 116 = .ok (.aload_n 0, 1) := by decide +kernel
theorem dX5_copy_117 : decode cX5_copy 117 = .ok (.getfield 62, 3) := by decide +kernel
theorem dX5_copy_120 : decode cX5_copy 120 = .ok (.iload 4, 2) := by decide +kernel
theorem dX5_copy_122 : decode cX5_copy 122 = .ok (.iaload, 1) := by decide +kernel
theorem dX5_copy_123 : decode cX5_copy 123 = .ok (.iastore, 1) := by decide +kernel
theorem dX5_copy_124 : decode cX5_copy 124 = .ok (.iinc 4 1, 3) := by decide +kernel
theorem dX5_copy_127 : decode cX5_copy 127 = .ok (.goto (-25), 3) := by decide +kernel
theorem dX5_copy_130 : decode cX5_copy 130 = .ok (.iload_n 3, 1) := by decide +kernel
theorem dX5_copy_131 : decode cX5_copy 131 = .ok (.ireturn, 1) := by decide +kernel
theorem dX5_status_0 : decode cX5_status 0 = .ok (.iload_n 1, 1) := by decide +kernel
theorem dX5_status_1 : decode cX5_status 1 = .ok (.i2l, 1) := by decide +kernel
theorem dX5_status_2 : decode cX5_status 2 = .ok (.ldc2_w 179, 3) := by decide +kernel
theorem dX5_status_5 : decode cX5_status 5 = .ok (.ldc2_w 181, 3) := by decide +kernel
theorem dX5_status_8 : decode cX5_status 8 = .ok (.invokestatic 98, 3) := by decide +kernel
theorem dX5_status_11 : decode cX5_status 11 = .ok (.ifCond .eq 13, 3) := by decide +kernel
theorem dX5_status_14 : decode cX5_status 14 = .ok (.aload_n 0, 1) := by decide +kernel
theorem dX5_status_15 : decode cX5_status 15 = .ok (.getfield 23, 3) := by decide +kernel
theorem dX5_status_18 : decode cX5_status 18 = .ok (.iload_n 1, 1) := by decide +kernel
theorem dX5_status_19 : decode cX5_status 19 = .ok (.ineg, 1) := by decide +kernel
theorem dX5_status_20 : decode cX5_status 20 = .ok (.iaload, 1) := by decide +kernel
theorem dX5_status_21 : decode cX5_status 21 = .ok (.goto 9, 3) := by decide +kernel
theorem dX5_status_24 : decode cX5_status 24 = .ok (.aload_n 0, 1) := by decide +kernel
theorem dX5_status_25 : decode cX5_status 25 = .ok (.bipush (-7), 2) := by decide +kernel
theorem dX5_status_27 : decode cX5_status 27 = .ok (.invokevirtual 114, 3) := by decide +kernel
theorem dX5_status_30 : decode cX5_status 30 = .ok (.ireturn, 1) := by decide +kernel

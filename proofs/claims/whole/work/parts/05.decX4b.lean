theorem dX4_at_35 : decode cX4_at 35 = .ok (.laload, 1) := by decide +kernel
theorem dX4_at_36 : decode cX4_at 36 = .ok (.l2i, 1) := by decide +kernel
theorem dX4_at_37 : decode cX4_at 37 = .ok (.ireturn, 1) := by decide +kernel
theorem dX4_part_0 : decode cX4_part 0 = .ok (.aload_n 0, 1) := by decide +kernel
theorem dX4_part_1 : decode cX4_part 1 = .ok (.iload_n 1, 1) := by decide +kernel
theorem dX4_part_2 : decode cX4_part 2 = .ok (.invokevirtual 90, 3) := by decide +kernel
theorem dX4_part_5 : decode cX4_part 5 = .ok (.ifCond .eq 27, 3) := by decide +kernel
theorem dX4_part_8 : decode cX4_part 8 = .ok (.iload_n 2, 1) := by decide +kernel
theorem dX4_part_9 : decode cX4_part 9 = .ok (.ifCond .lt 23, 3) := by decide +kernel
theorem dX4_part_12 : decode cX4_part 12 = .ok (.iload_n 2, 1) := by decide +kernel
theorem dX4_part_13 : decode cX4_part 13 = .ok (.aload_n 0, 1) := by decide +kernel
theorem dX4_part_14 : decode cX4_part 14 = .ok (.getfield 18, 3) := by decide +kernel
theorem dX4_part_17 : decode cX4_part 17 = .ok (.aload_n 0, 1) := by decide +kernel
theorem dX4_part_18 : decode cX4_part 18 = .ok (.getfield 11, 3) := by decide +kernel
theorem dX4_part_21 : decode cX4_part 21 = .ok (.iload_n 1, 1) := by decide +kernel
theorem dX4_part_22 : decode cX4_part 22 = .ok (.aaload, 1) := by decide +kernel
theorem dX4_part_23 : decode cX4_part 23 = .ok (.getfield 93, 3) := by decide +kernel
theorem dX4_part_26 : decode cX4_part 26 = .ok (.invokevirtual 120, 3) := by decide +kernel
theorem dX4_part_29 : decode cX4_part 29 = .ok (.if_icmp .lt 10, 3) := by decide +kernel
theorem dX4_part_32 : decode cX4_part 32 = .ok (.aload_n 0, 1) := by decide +kernel
theorem dX4_part_33 : decode cX4_part 33 = .ok (.bipush (-3), 2) := by decide +kernel
theorem dX4_part_35 : decode cX4_part 35 = .ok (.invokevirtual 48, 3) := by decide +kernel
theorem dX4_part_38 : decode cX4_part 38 = .ok (.ireturn, 1) := by decide +kernel
theorem dX4_part_39 : decode cX4_part 39 = .ok (.aload_n 0, 1) := by decide +kernel
theorem dX4_part_40 : decode cX4_part 40 = .ok (.getfield 18, 3) := by decide +kernel
theorem dX4_part_43 : decode cX4_part 43 = .ok (.aload_n 0, 1) := by decide +kernel
theorem dX4_part_44 : decode cX4_part 44 = .ok (.getfield 11, 3) := by decide +kernel
theorem dX4_part_47 : decode cX4_part 47 = .ok (.iload_n 1, 1) := by decide +kernel
theorem dX4_part_48 : decode cX4_part 48 = .ok (.aaload, 1) := by decide +kernel
theorem dX4_part_49 : decode cX4_part 49 = .ok (.getfield 93, 3) := by decide +kernel
theorem dX4_part_52 : decode cX4_part 52 = .ok (.aload_n 0, 1) := by decide +kernel
theorem dX4_part_53 : decode cX4_part 53 = .ok (.getfield 11, 3) := by decide +kernel
theorem dX4_part_56 : decode cX4_part 56 = .ok (.iload_n 1, 1) := by decide +kernel
theorem dX4_part_57 : decode cX4_part 57 = .ok (.aaload, 1) := by decide +kernel
theorem dX4_part_58 : decode cX4_part 58 = .ok (.getfield 70, 3) := by decide +kernel
theorem dX4_part_61 : decode cX4_part 61 = .ok (.aload_n 0, 1) := by decide +kernel
theorem dX4_part_62 : decode cX4_part 62 = .ok (.getfield 22, 3) := by decide +kernel
theorem dX4_part_65 : decode cX4_part 65 = .ok (.invokevirtual 116, 3) := by decide +kernel
theorem dX4_part_68 : decode cX4_part 68 = .ok (.aload_n 0, 1) := by decide +kernel
theorem dX4_part_69 : decode cX4_part 69 = .ok (.getfield 22, 3) := by decide +kernel
theorem dX4_part_72 : decode cX4_part 72 = .ok (.iload_n 2, 1) := by decide +kernel
theorem dX4_part_73 : decode cX4_part 73 = .ok (.laload, 1) := by decide +kernel
theorem dX4_part_74 : decode cX4_part 74 = .ok (.l2i, 1) := by decide +kernel
theorem dX4_part_75 : decode cX4_part 75 = .ok (.ireturn, 1) := by decide +kernel
theorem dX4_same_0 : decode cX4_same 0 = .ok (.aload_n 0, 1) := by decide +kernel
theorem dX4_same_1 : decode cX4_same 1 = .ok (.iload_n 1, 1) := by decide +kernel
theorem dX4_same_2 : decode cX4_same 2 = .ok (.invokevirtual 90, 3) := by decide +kernel
theorem dX4_same_5 : decode cX4_same 5 = .ok (.ifCond .eq 11, 3) := by decide +kernel
theorem dX4_same_8 : decode cX4_same 8 = .ok (.aload_n 0, 1) := by decide +kernel
theorem dX4_same_9 : decode cX4_same 9 = .ok (.iload_n 2, 1) := by decide +kernel
theorem dX4_same_10 : decode cX4_same 10 = .ok (.invokevirtual 90, 3) := by decide +kernel
theorem dX4_same_13 : decode cX4_same 13 = .ok (.ifCond .ne 10, 3) := by decide +kernel
theorem dX4_same_16 : decode cX4_same 16 = .ok (.aload_n 0, 1) := by decide +kernel
theorem dX4_same_17 : decode cX4_same 17 = .ok (.bipush (-3), 2) := by decide +kernel
theorem dX4_same_19 : decode cX4_same 19 = .ok (.invokevirtual 48, 3) := by decide +kernel
theorem dX4_same_22 : decode cX4_same 22 = .ok (.ireturn, 1) := by decide +kernel
theorem dX4_same_23 : decode cX4_same 23 = .ok (.aload_n 0, 1) := by decide +kernel
theorem dX4_same_24 : decode cX4_same 24 = .ok (.getfield 11, 3) := by decide +kernel
theorem dX4_same_27 : decode cX4_same 27 = .ok (.iload_n 1, 1) := by decide +kernel
theorem dX4_same_28 : decode cX4_same 28 = .ok (.aaload, 1) := by decide +kernel
theorem dX4_same_29 : decode cX4_same 29 = .ok (.getfield 70, 3) := by decide +kernel
theorem dX4_same_32 : decode cX4_same 32 = .ok (.astore_n 3, 1) := by decide +kernel
theorem dX4_same_33 : decode cX4_same 33 = .ok (.aload_n 0, 1) := by decide +kernel
theorem dX4_same_34 : decode cX4_same 34 = .ok (.getfield 11, 3) := by decide +kernel
theorem dX4_same_37 : decode cX4_same 37 = .ok (.iload_n 2, 1) := by decide +kernel
theorem dX4_same_38 : decode cX4_same 38 = .ok (.aaload, 1) := by decide +kernel
theorem dX4_same_39 : decode cX4_same 39 = .ok (.getfield 70, 3) := by decide +kernel
theorem dX4_same_42 : decode cX4_same 42 = .ok (.astore 4, 2) := by decide +kernel
theorem dX4_same_44 : decode cX4_same 44 = .ok (.aload_n 0, 1) := by decide +kernel
theorem dX4_same_45 : decode cX4_same 45 = .ok (.getfield 11, 3) := by decide +kernel
theorem dX4_same_48 : decode cX4_same 48 = .ok (.iload_n 1, 1) := by decide +kernel
theorem dX4_same_49 : decode cX4_same 49 = .ok (.aaload, 1) := by decide +kernel
theorem dX4_same_50 : decode cX4_same 50 = .ok (.getfield 93, 3) := by decide +kernel
theorem dX4_same_53 : decode cX4_same 53 = .ok (.aload_n 0, 1) := by decide +kernel
theorem dX4_same_54 : decode cX4_same 54 = .ok (.getfield 11, 3) := by decide +kernel
theorem dX4_same_57 : decode cX4_same 57 = .ok (.iload_n 2, 1) := by decide +kernel
theorem dX4_same_58 : decode cX4_same 58 = .ok (.aaload, 1) := by decide +kernel
theorem dX4_same_59 : decode cX4_same 59 = .ok (.getfield 93, 3) := by decide +kernel
theorem dX4_same_62 : decode cX4_same 62 = .ok (.if_icmp .ne 19, 3) := by decide +kernel
theorem dX4_same_65 : decode cX4_same 65 = .ok (.aload_n 3, 1) := by decide +kernel
theorem dX4_same_66 : decode cX4_same 66 = .ok (.aload 4, 2) := by decide +kernel
theorem dX4_same_68 : decode cX4_same 68 = .ok (.invokestatic 156, 3) := by decide +kernel
theorem dX4_same_71 : decode cX4_same 71 = .ok (.iconst (-1), 1) := by decide +kernel
theorem dX4_same_72 : decode cX4_same 72 = .ok (.if_icmp .ne 7, 3) := by decide +kernel
theorem dX4_same_75 : decode cX4_same 75 = .ok (.iconst 1, 1) := by decide +kernel
theorem dX4_same_76 : decode cX4_same 76 = .ok (.goto 4, 3) := by decide +kernel
theorem dX4_same_79 : decode cX4_same 79 = .ok (.iconst 0, 1) := by decide +kernel
theorem dX4_same_80 : decode cX4_same 80 = .ok (.ireturn, 1) := by decide +kernel
theorem dX4_same_81 : decode cX4_same 81 = .ok (.aload_n 3, 1) := by decide +kernel
theorem dX4_same_82 : decode cX4_same 82 = .ok (.invokestatic 149, 3) := by decide +kernel
theorem dX4_same_85 : decode cX4_same 85 = .ok (.iconst (-1), 1) := by decide +kernel
theorem dX4_same_86 : decode cX4_same 86 = .ok (.if_icmp .ne 16, 3) := by decide +kernel
theorem dX4_same_89 : decode cX4_same 89 = .ok (.aload 4, 2) := by decide +kernel
theorem dX4_same_91 : decode cX4_same 91 = .ok (.invokestatic 149, 3) := by decide +kernel
theorem dX4_same_94 : decode cX4_same 94 = .ok (.iconst (-1), 1) := by decide +kernel
theorem dX4_same_95 : decode cX4_same 95 = .ok (.if_icmp .ne 7, 3) := by decide +kernel
theorem dX4_same_98 : decode cX4_same 98 = .ok (.iconst 1, 1) := by decide +kernel
theorem dX4_same_99 : decode cX4_same 99 = .ok (.goto 4, 3) := by decide +kernel
theorem dX4_same_102 : decode cX4_same 102 = .ok (.iconst 0, 1) := by decide +kernel
theorem dX4_same_103 : decode cX4_same 103 = .ok (.ireturn, 1) := by decide +kernel
theorem dX4_apart_0 : decode cX4_apart 0 = .ok (.aload_n 0, 1) := by decide +kernel
theorem dX4_apart_1 : decode cX4_apart 1 = .ok (.iload_n 1, 1) := by decide +kernel
theorem dX4_apart_2 : decode cX4_apart 2 = .ok (.invokevirtual 90, 3) := by decide +kernel
theorem dX4_apart_5 : decode cX4_apart 5 = .ok (.ifCond .eq 11, 3) := by decide +kernel
theorem dX4_apart_8 : decode cX4_apart 8 = .ok (.aload_n 0, 1) := by decide +kernel
theorem dX4_apart_9 : decode cX4_apart 9 = .ok (.iload_n 2, 1) := by decide +kernel
theorem dX4_apart_10 : decode cX4_apart 10 = .ok (.invokevirtual 90, 3) := by decide +kernel
theorem dX4_apart_13 : decode cX4_apart 13 = .ok (.ifCond .ne 10, 3) := by decide +kernel
theorem dX4_apart_16 : decode cX4_apart 16 = .ok (.aload_n 0, 1) := by decide +kernel
theorem dX4_apart_17 : decode cX4_apart 17 = .ok (.bipush (-3), 2) := by decide +kernel
theorem dX4_apart_19 : decode cX4_apart 19 = .ok (.invokevirtual 48, 3) := by decide +kernel
theorem dX4_apart_22 : decode cX4_apart 22 = .ok (.ireturn, 1) := by decide +kernel
theorem dX4_apart_23 : decode cX4_apart 23 = .ok (.aload_n 0, 1) := by decide +kernel
theorem dX4_apart_24 : decode cX4_apart 24 = .ok (.getfield 11, 3) := by decide +kernel
theorem dX4_apart_27 : decode cX4_apart 27 = .ok (.iload_n 1, 1) := by decide +kernel
theorem dX4_apart_28 : decode cX4_apart 28 = .ok (.aaload, 1) := by decide +kernel
theorem dX4_apart_29 : decode cX4_apart 29 = .ok (.getfield 93, 3) := by decide +kernel
theorem dX4_apart_32 : decode cX4_apart 32 = .ok (.aload_n 0, 1) := by decide +kernel
theorem dX4_apart_33 : decode cX4_apart 33 = .ok (.getfield 11, 3) := by decide +kernel
theorem dX4_apart_36 : decode cX4_apart 36 = .ok (.iload_n 2, 1) := by decide +kernel
theorem dX4_apart_37 : decode cX4_apart 37 = .ok (.aaload, 1) := by decide +kernel
theorem dX4_apart_38 : decode cX4_apart 38 = .ok (.getfield 93, 3) := by decide +kernel
theorem dX4_apart_41 : decode cX4_apart 41 = .ok (.if_icmp .eq 10, 3) := by decide +kernel
theorem dX4_apart_44 : decode cX4_apart 44 = .ok (.aload_n 0, 1) := by decide +kernel
theorem dX4_apart_45 : decode cX4_apart 45 = .ok (.bipush (-7), 2) := by decide +kernel
theorem dX4_apart_47 : decode cX4_apart 47 = .ok (.invokevirtual 48, 3) := by decide +kernel
theorem dX4_apart_50 : decode cX4_apart 50 = .ok (.ireturn, 1) := by decide +kernel
theorem dX4_apart_51 : decode cX4_apart 51 = .ok (.aload_n 0, 1) := by decide +kernel
theorem dX4_apart_52 : decode cX4_apart 52 = .ok (.getfield 11, 3) := by decide +kernel
theorem dX4_apart_55 : decode cX4_apart 55 = .ok (.iload_n 1, 1) := by decide +kernel
theorem dX4_apart_56 : decode cX4_apart 56 = .ok (.aaload, 1) := by decide +kernel
theorem dX4_apart_57 : decode cX4_apart 57 = .ok (.getfield 70, 3) := by decide +kernel
theorem dX4_apart_60 : decode cX4_apart 60 = .ok (.aload_n 0, 1) := by decide +kernel
theorem dX4_apart_61 : decode cX4_apart 61 = .ok (.getfield 11, 3) := by decide +kernel
theorem dX4_apart_64 : decode cX4_apart 64 = .ok (.iload_n 2, 1) := by decide +kernel
theorem dX4_apart_65 : decode cX4_apart 65 = .ok (.aaload, 1) := by decide +kernel
theorem dX4_apart_66 : decode cX4_apart 66 = .ok (.getfield 70, 3) := by decide +kernel
theorem dX4_apart_69 : decode cX4_apart 69 = .ok (.invokestatic 156, 3) := by decide +kernel
theorem dX4_apart_72 : decode cX4_apart 72 = .ok (.ireturn, 1) := by decide +kernel
theorem dX4_size_0 : decode cX4_size 0 = .ok (.iload_n 1, 1) := by decide +kernel
theorem dX4_size_1 : decode cX4_size 1 = .ok (.invokestatic 133, 3) := by decide +kernel
theorem dX4_size_4 : decode cX4_size 4 = .ok (.ifCond .eq 14, 3) := by decide +kernel
theorem dX4_size_7 : decode cX4_size 7 = .ok (.aload_n 0, 1) := by decide +kernel
theorem dX4_size_8 : decode cX4_size 8 = .ok (.getfield 18, 3) := by decide +kernel
theorem dX4_size_11 : decode cX4_size 11 = .ok (.iload_n 1, 1) := by decide +kernel
theorem dX4_size_12 : decode cX4_size 12 = .ok (.invokevirtual 120, 3) := by decide +kernel
theorem dX4_size_15 : decode cX4_size 15 = .ok (.goto 9, 3) := by decide +kernel
theorem dX4_size_18 : decode cX4_size 18 = .ok (.aload_n 0, 1) := by decide +kernel
theorem dX4_size_19 : decode cX4_size 19 = .ok (.bipush (-7), 2) := by decide +kernel
theorem dX4_size_21 : decode cX4_size 21 = .ok (.invokevirtual 48, 3) := by decide +kernel
theorem dX4_size_24 : decode cX4_size 24 = .ok (.ireturn, 1) := by decide +kernel
theorem dX4_own_0 : decode cX4_own 0 = .ok (.aload_n 0, 1) := by decide +kernel
theorem dX4_own_1 : decode cX4_own 1 = .ok (.iload_n 1, 1) := by decide +kernel
theorem dX4_own_2 : decode cX4_own 2 = .ok (.invokevirtual 90, 3) := by decide +kernel
theorem dX4_own_5 : decode cX4_own 5 = .ok (.ifCond .ne 10, 3) := by decide +kernel
theorem dX4_own_8 : decode cX4_own 8 = .ok (.aload_n 0, 1) := by decide +kernel
theorem dX4_own_9 : decode cX4_own 9 = .ok (.bipush (-3), 2) := by decide +kernel
theorem dX4_own_11 : decode cX4_own 11 = .ok (.invokevirtual 48, 3) := by decide +kernel
theorem dX4_own_14 : decode cX4_own 14 = .ok (.ireturn, 1) := by decide +kernel
theorem dX4_own_15 : decode cX4_own 15 = .ok (.aload_n 0, 1) := by decide +kernel
theorem dX4_own_16 : decode cX4_own 16 = .ok (.getfield 11, 3) := by decide +kernel
theorem dX4_own_19 : decode cX4_own 19 = .ok (.iload_n 1, 1) := by decide +kernel
theorem dX4_own_20 : decode cX4_own 20 = .ok (.aaload, 1) := by decide +kernel
theorem dX4_own_21 : decode cX4_own 21 = .ok (.getfield 93, 3) := by decide +kernel
theorem dX4_own_24 : decode cX4_own 24 = .ok (.istore_n 3, 1) := by decide +kernel
theorem dX4_own_25 : decode cX4_own 25 = .ok (.iload_n 2, 1) := by decide +kernel
theorem dX4_own_26 : decode cX4_own 26 = .ok (.invokestatic 126, 3) := by decide +kernel
theorem dX4_own_29 : decode cX4_own 29 = .ok (.ifCond .eq 8, 3) := by decide +kernel
theorem dX4_own_32 : decode cX4_own 32 = .ok (.iload_n 3, 1) := by decide +kernel
theorem dX4_own_33 : decode cX4_own 33 = .ok (.iconst 4, 1) := by decide +kernel
theorem dX4_own_34 : decode cX4_own 34 = .ok (.if_icmp .ge 10, 3) := by decide +kernel
theorem dX4_own_37 : decode cX4_own 37 = .ok (.aload_n 0, 1) := by decide +kernel
theorem dX4_own_38 : decode cX4_own 38 = .ok (.bipush (-7), 2) := by decide +kernel
theorem dX4_own_40 : decode cX4_own 40 = .ok (.invokevirtual 48, 3) := by decide +kernel
theorem dX4_own_43 : decode cX4_own 43 = .ok (.ireturn, 1) := by decide +kernel
theorem dX4_own_44 : decode cX4_own 44 = .ok (.aload_n 0, 1) := by decide +kernel
theorem dX4_own_45 : decode cX4_own 45 = .ok (.getfield 18, 3) := by decide +kernel
theorem dX4_own_48 : decode cX4_own 48 = .ok (.iload_n 3, 1) := by decide +kernel
theorem dX4_own_49 : decode cX4_own 49 = .ok (.aload_n 0, 1) := by decide +kernel
theorem dX4_own_50 : decode cX4_own 50 = .ok (.getfield 11, 3) := by decide +kernel
theorem dX4_own_53 : decode cX4_own 53 = .ok (.iload_n 1, 1) := by decide +kernel
theorem dX4_own_54 : decode cX4_own 54 = .ok (.aaload, 1) := by decide +kernel
theorem dX4_own_55 : decode cX4_own 55 = .ok (.getfield 70, 3) := by decide +kernel
theorem dX4_own_58 : decode cX4_own 58 = .ok (.iload_n 2, 1) := by decide +kernel
theorem dX4_own_59 : decode cX4_own 59 = .ok (.aload_n 0, 1) := by decide +kernel
theorem dX4_own_60 : decode cX4_own 60 = .ok (.getfield 26, 3) := by decide +kernel
theorem dX4_own_63 : decode cX4_own 63 = .ok (.invokevirtual 129, 3) := by decide +kernel
theorem dX4_own_66 : decode cX4_own 66 = .ok (.aload_n 0, 1) := by decide +kernel
theorem dX4_own_67 : decode cX4_own 67 = .ok (.getfield 26, 3) := by decide +kernel
theorem dX4_own_70 : decode cX4_own 70 = .ok (.aload_n 0, 1) := by decide +kernel
theorem dX4_own_71 : decode cX4_own 71 = .ok (.getfield 11, 3) := by decide +kernel
theorem dX4_own_74 : decode cX4_own 74 = .ok (.iload_n 1, 1) := by decide +kernel
theorem dX4_own_75 : decode cX4_own 75 = .ok (.aaload, 1) := by decide +kernel
theorem dX4_own_76 : decode cX4_own 76 = .ok (.getfield 70, 3) := by decide +kernel
theorem dX4_own_79 : decode cX4_own 79 = .ok (.aload_n 0, 1) := by decide +kernel
theorem dX4_own_80 : decode cX4_own 80 = .ok (.getfield 18, 3) := by decide +kernel
theorem dX4_own_83 : decode cX4_own 83 = .ok (.iload_n 3, 1) := by decide +kernel
theorem dX4_own_84 : decode cX4_own 84 = .ok (.invokevirtual 120, 3) := by decide +kernel
theorem dX4_own_87 : decode cX4_own 87 = .ok (.invokestatic 160, 3) := by decide +kernel
theorem dX4_own_90 : decode cX4_own 90 = .ok (.ireturn, 1) := by decide +kernel
theorem dX4_trace_0 : decode cX4_trace 0 = .ok (.iload_n 1, 1) := by decide +kernel
theorem dX4_trace_1 : decode cX4_trace 1 = .ok (.invokestatic 133, 3) := by decide +kernel
theorem dX4_trace_4 : decode cX4_trace 4 = .ok (.ifCond .eq 15, 3) := by decide +kernel
theorem dX4_trace_7 : decode cX4_trace 7 = .ok (.iload_n 1, 1) := by decide +kernel
theorem dX4_trace_8 : decode cX4_trace 8 = .ok (.iconst 4, 1) := by decide +kernel
theorem dX4_trace_9 : decode cX4_trace 9 = .ok (.if_icmp .lt 10, 3) := by decide +kernel
theorem dX4_trace_12 : decode cX4_trace 12 = .ok (.iload_n 2, 1) := by decide +kernel
theorem dX4_trace_13 : decode cX4_trace 13 = .ok (.invokestatic 126, 3) := by decide +kernel
theorem dX4_trace_16 : decode cX4_trace 16 = .ok (.ifCond .ne 10, 3) := by decide +kernel
theorem dX4_trace_19 : decode cX4_trace 19 = .ok (.aload_n 0, 1) := by decide +kernel
theorem dX4_trace_20 : decode cX4_trace 20 = .ok (.bipush (-7), 2) := by decide +kernel
theorem dX4_trace_22 : decode cX4_trace 22 = .ok (.invokevirtual 48, 3) := by decide +kernel
theorem dX4_trace_25 : decode cX4_trace 25 = .ok (.ireturn, 1) := by decide +kernel
theorem dX4_trace_26 : decode cX4_trace 26 = .ok (.lconst 0, 1) := by decide +kernel
theorem dX4_trace_27 : decode cX4_trace 27 = .ok (.lstore 4, 2) := by decide +kernel
theorem dX4_trace_29 : decode cX4_trace 29 = .ok (.iload_n 3, 1) := by decide +kernel
theorem dX4_trace_30 : decode cX4_trace 30 = .ok (.ifCond .eq 7, 3) := by decide +kernel
theorem dX4_trace_33 : decode cX4_trace 33 = .ok (.iconst 1, 1) := by decide +kernel
theorem dX4_trace_34 : decode cX4_trace 34 = .ok (.goto 4, 3) := by decide +kernel
theorem dX4_trace_37 : decode cX4_trace 37 = .ok (.iconst 0, 1) := by decide +kernel
theorem dX4_trace_38 : decode cX4_trace 38 = .ok (.istore 6, 2) := by decide +kernel
theorem dX4_trace_40 : decode cX4_trace 40 = .ok (.iload 6, 2) := by decide +kernel
theorem dX4_trace_42 : decode cX4_trace 42 = .ok (.aload_n 0, 1) := by decide +kernel
theorem dX4_trace_43 : decode cX4_trace 43 = .ok (.getfield 18, 3) := by decide +kernel
theorem dX4_trace_46 : decode cX4_trace 46 = .ok (.iload_n 1, 1) := by decide +kernel
theorem dX4_trace_47 : decode cX4_trace 47 = .ok (.invokevirtual 120, 3) := by decide +kernel
theorem dX4_trace_50 : decode cX4_trace 50 = .ok (.if_icmp .ge 60, 3) := by decide +kernel
theorem dX4_trace_53 : decode cX4_trace 53 = .ok (.aload_n 0, 1) := by decide +kernel
theorem dX4_trace_54 : decode cX4_trace 54 = .ok (.getfield 18, 3) := by decide +kernel
theorem dX4_trace_57 : decode cX4_trace 57 = .ok (.iload_n 1, 1) := by decide +kernel
theorem dX4_trace_58 : decode cX4_trace 58 = .ok (.aload_n 0, 1) := by decide +kernel
theorem dX4_trace_59 : decode cX4_trace 59 = .ok (.getfield 18, 3) := by decide +kernel
theorem dX4_trace_62 : decode cX4_trace 62 = .ok (.iload_n 1, 1) := by decide +kernel
theorem dX4_trace_63 : decode cX4_trace 63 = .ok (.iload 6, 2) := by decide +kernel
theorem dX4_trace_65 : decode cX4_trace 65 = .ok (.invokevirtual 136, 3) := by decide +kernel
theorem dX4_trace_68 : decode cX4_trace 68 = .ok (.iload_n 2, 1) := by decide +kernel
theorem dX4_trace_69 : decode cX4_trace 69 = .ok (.aload_n 0, 1) := by decide +kernel
theorem dX4_trace_70 : decode cX4_trace 70 = .ok (.getfield 26, 3) := by decide +kernel
theorem dX4_trace_73 : decode cX4_trace 73 = .ok (.invokevirtual 129, 3) := by decide +kernel
theorem dX4_trace_76 : decode cX4_trace 76 = .ok (.aload_n 0, 1) := by decide +kernel
theorem dX4_trace_77 : decode cX4_trace 77 = .ok (.getfield 18, 3) := by decide +kernel
theorem dX4_trace_80 : decode cX4_trace 80 = .ok (.iload_n 1, 1) := by decide +kernel
theorem dX4_trace_81 : decode cX4_trace 81 = .ok (.aload_n 0, 1) := by decide +kernel
theorem dX4_trace_82 : decode cX4_trace 82 = .ok (.getfield 26, 3) := by decide +kernel
theorem dX4_trace_85 : decode cX4_trace 85 = .ok (.aload_n 0, 1) := by decide +kernel
theorem dX4_trace_86 : decode cX4_trace 86 = .ok (.getfield 22, 3) := by decide +kernel
theorem dX4_trace_89 : decode cX4_trace 89 = .ok (.invokevirtual 116, 3) := by decide +kernel
theorem dX4_trace_92 : decode cX4_trace 92 = .ok (.lload 4, 2) := by decide +kernel
theorem dX4_trace_94 : decode cX4_trace 94 = .ok (.aload_n 0, 1) := by decide +kernel
theorem dX4_trace_95 : decode cX4_trace 95 = .ok (.getfield 22, 3) := by decide +kernel
theorem dX4_trace_98 : decode cX4_trace 98 = .ok (.iload 6, 2) := by decide +kernel
theorem dX4_trace_100 : decode cX4_trace 100 = .ok (.laload, 1) := by decide +kernel
theorem dX4_trace_101 : decode cX4_trace 101 = .ok (.ladd, 1) := by decide +kernel
theorem dX4_trace_102 : decode cX4_trace 102 = .ok (.lstore 4, 2) := by decide +kernel
theorem dX4_trace_104 : decode cX4_trace 104 = .ok (.iinc 6 1, 3) := by decide +kernel
theorem dX4_trace_107 : decode cX4_trace 107 = .ok (.goto (-67), 3) := by decide +kernel
theorem dX4_trace_110 : decode cX4_trace 110 = .ok (.lload 4, 2) := by decide +kernel
theorem dX4_trace_112 : decode cX4_trace 112 = .ok (.invokestatic 96, 3) := by decide +kernel
theorem dX4_trace_115 : decode cX4_trace 115 = .ok (.l2i, 1) := by decide +kernel
theorem dX4_trace_116 : decode cX4_trace 116 = .ok (.ireturn, 1) := by decide +kernel
theorem dX4_squares_0 : decode cX4_squares 0 = .ok (.iload_n 1, 1) := by decide +kernel
theorem dX4_squares_1 : decode cX4_squares 1 = .ok (.iconst 1, 1) := by decide +kernel
theorem dX4_squares_2 : decode cX4_squares 2 = .ok (.if_icmp .lt 19, 3) := by decide +kernel
theorem dX4_squares_5 : decode cX4_squares 5 = .ok (.iload_n 1, 1) := by decide +kernel
theorem dX4_squares_6 : decode cX4_squares 6 = .ok (.bipush 8, 2) := by decide +kernel
theorem dX4_squares_8 : decode cX4_squares 8 = .ok (.if_icmp .gt 13, 3) := by decide +kernel
theorem dX4_squares_11 : decode cX4_squares 11 = .ok (.iload_n 2, 1) := by decide +kernel
theorem dX4_squares_12 : decode cX4_squares 12 = .ok (.ifCond .lt 9, 3) := by decide +kernel
theorem dX4_squares_15 : decode cX4_squares 15 = .ok (.iload_n 2, 1) := by decide +kernel
theorem dX4_squares_16 : decode cX4_squares 16 = .ok (.bipush 100, 2) := by decide +kernel
theorem dX4_squares_18 : decode cX4_squares 18 = .ok (.if_icmp .lt 10, 3) := by decide +kernel
theorem dX4_squares_21 : decode cX4_squares 21 = .ok (.aload_n 0, 1) := by decide +kernel
theorem dX4_squares_22 : decode cX4_squares 22 = .ok (.bipush (-7), 2) := by decide +kernel
theorem dX4_squares_24 : decode cX4_squares 24 = .ok (.invokevirtual 48, 3) := by decide +kernel
theorem dX4_squares_27 : decode cX4_squares 27 = .ok (.ireturn, 1) := by decide +kernel
theorem dX4_squares_28 : decode cX4_squares 28 = .ok (.iconst 0, 1) := by decide +kernel
theorem dX4_squares_29 : decode cX4_squares 29 = .ok (.istore_n 3, 1) := by decide +kernel
theorem dX4_squares_30 : decode cX4_squares 30 = .ok (.iload_n 3, 1) := by decide +kernel
theorem dX4_squares_31 : decode cX4_squares 31 = .ok (.iload_n 2, 1) := by decide +kernel
theorem dX4_squares_32 : decode cX4_squares 32 = .ok (.if_icmp .gt 24, 3) := by decide +kernel
theorem dX4_squares_35 : decode cX4_squares 35 = .ok (.aload_n 0, 1) := by decide +kernel
theorem dX4_squares_36 : decode cX4_squares 36 = .ok (.getfield 29, 3) := by decide +kernel
theorem dX4_squares_39 : decode cX4_squares 39 = .ok (.iload_n 3, 1) := by decide +kernel
theorem dX4_squares_40 : decode cX4_squares 40 = .ok (.iload_n 3, 1) := by decide +kernel
theorem dX4_squares_41 : decode cX4_squares 41 = .ok (.ifCond .ne 7, 3) := by decide +kernel
theorem dX4_squares_44 : decode cX4_squares 44 = .ok (.iconst 1, 1) := by decide +kernel
theorem dX4_squares_45 : decode cX4_squares 45 = .ok (.goto 4, 3) := by decide +kernel
theorem dX4_squares_48 : decode cX4_squares 48 = .ok (.iconst 0, 1) := by decide +kernel
theorem dX4_squares_49 : decode cX4_squares 49 = .ok (.iastore, 1) := by decide +kernel
theorem dX4_squares_50 : decode cX4_squares 50 = .ok (.iinc 3 1, 3) := by decide +kernel
theorem dX4_squares_53 : decode cX4_squares 53 = .ok (.goto (-23), 3) := by decide +kernel
theorem dX4_squares_56 : decode cX4_squares 56 = .ok (.iconst 0, 1) := by decide +kernel
theorem dX4_squares_57 : decode cX4_squares 57 = .ok (.istore_n 3, 1) := by decide +kernel
theorem dX4_squares_58 : decode cX4_squares 58 = .ok (.iload_n 3, 1) := by decide +kernel
theorem dX4_squares_59 : decode cX4_squares 59 = .ok (.iload_n 1, 1) := by decide +kernel
theorem dX4_squares_60 : decode cX4_squares 60 = .ok (.if_icmp .ge 14, 3) := by decide +kernel
theorem dX4_squares_63 : decode cX4_squares 63 = .ok (.aload_n 0, 1) := by decide +kernel
theorem dX4_squares_64 : decode cX4_squares 64 = .ok (.iload_n 2, 1) := by decide +kernel
theorem dX4_squares_65 : decode cX4_squares 65 = .ok (.invokevirtual 164, 3) := by decide +kernel
theorem dX4_squares_68 : decode cX4_squares 68 = .ok (.iinc 3 1, 3) := by decide +kernel
theorem dX4_squares_71 : decode cX4_squares 71 = .ok (.goto (-13), 3) := by decide +kernel
theorem dX4_squares_74 : decode cX4_squares 74 = .ok (.aload_n 0, 1) := by decide +kernel
theorem dX4_squares_75 : decode cX4_squares 75 = .ok (.getfield 29, 3) := by decide +kernel
theorem dX4_squares_78 : decode cX4_squares 78 = .ok (.iload_n 2, 1) := by decide +kernel
theorem dX4_squares_79 : decode cX4_squares 79 = .ok (.iaload, 1) := by decide +kernel
theorem dX4_squares_80 : decode cX4_squares 80 = .ok (.ireturn, 1) := by decide +kernel
theorem dX4_count_0 : decode cX4_count 0 = .ok (.aload_n 0, 1) := by decide +kernel
theorem dX4_count_1 : decode cX4_count 1 = .ok (.getfield 67, 3) := by decide +kernel
theorem dX4_count_4 : decode cX4_count 4 = .ok (.ireturn, 1) := by decide +kernel
theorem dX4_lay_0 : decode cX4_lay 0 = .ok (.aload_n 0, 1) := by decide +kernel
theorem dX4_lay_1 : decode cX4_lay 1 = .ok (.iload_n 1, 1) := by decide +kernel
theorem dX4_lay_2 : decode cX4_lay 2 = .ok (.invokevirtual 90, 3) := by decide +kernel
theorem dX4_lay_5 : decode cX4_lay 5 = .ok (.ifCond .ne 10, 3) := by decide +kernel
theorem dX4_lay_8 : decode cX4_lay 8 = .ok (.aload_n 0, 1) := by decide +kernel
theorem dX4_lay_9 : decode cX4_lay 9 = .ok (.bipush (-3), 2) := by decide +kernel
theorem dX4_lay_11 : decode cX4_lay 11 = .ok (.invokevirtual 48, 3) := by decide +kernel
theorem dX4_lay_14 : decode cX4_lay 14 = .ok (.ireturn, 1) := by decide +kernel
theorem dX4_lay_15 : decode cX4_lay 15 = .ok (.iload_n 2, 1) := by decide +kernel
theorem dX4_lay_16 : decode cX4_lay 16 = .ok (.ifCond .ge 10, 3) := by decide +kernel
theorem dX4_lay_19 : decode cX4_lay 19 = .ok (.aload_n 0, 1) := by decide +kernel
theorem dX4_lay_20 : decode cX4_lay 20 = .ok (.bipush (-4), 2) := by decide +kernel
theorem dX4_lay_22 : decode cX4_lay 22 = .ok (.invokevirtual 48, 3) := by decide +kernel
theorem dX4_lay_25 : decode cX4_lay 25 = .ok (.ireturn, 1) := by decide +kernel
theorem dX4_lay_26 : decode cX4_lay 26 = .ok (.iload_n 2, 1) := by decide +kernel
theorem dX4_lay_27 : decode cX4_lay 27 = .ok (.bipush 48, 2) := by decide +kernel
theorem dX4_lay_29 : decode cX4_lay 29 = .ok (.if_icmp .le 10, 3) := by decide +kernel
theorem dX4_lay_32 : decode cX4_lay 32 = .ok (.aload_n 0, 1) := by decide +kernel
theorem dX4_lay_33 : decode cX4_lay 33 = .ok (.bipush (-7), 2) := by decide +kernel
theorem dX4_lay_35 : decode cX4_lay 35 = .ok (.invokevirtual 48, 3) := by decide +kernel
theorem dX4_lay_38 : decode cX4_lay 38 = .ok (.ireturn, 1) := by decide +kernel
theorem dX4_lay_39 : decode cX4_lay 39 = .ok (.aload_n 0, 1) := by decide +kernel
theorem dX4_lay_40 : decode cX4_lay 40 = .ok (.getfield 11, 3) := by decide +kernel
theorem dX4_lay_43 : decode cX4_lay 43 = .ok (.iload_n 1, 1) := by decide +kernel
theorem dX4_lay_44 : decode cX4_lay 44 = .ok (.aaload, 1) := by decide +kernel
theorem dX4_lay_45 : decode cX4_lay 45 = .ok (.getfield 70, 3) := by decide +kernel
theorem dX4_lay_48 : decode cX4_lay 48 = .ok (.iconst 0, 1) := by decide +kernel
theorem dX4_lay_49 : decode cX4_lay 49 = .ok (.aload_n 0, 1) := by decide +kernel
theorem dX4_lay_50 : decode cX4_lay 50 = .ok (.getfield 33, 3) := by decide +kernel
theorem dX4_lay_53 : decode cX4_lay 53 = .ok (.iconst 0, 1) := by decide +kernel
theorem dX4_lay_54 : decode cX4_lay 54 = .ok (.iload_n 2, 1) := by decide +kernel
theorem dX4_lay_55 : decode cX4_lay 55 = .ok (.invokestatic 140, 3) := by decide +kernel
theorem dX4_lay_58 : decode cX4_lay 58 = .ok (.aload_n 0, 1) := by decide +kernel
theorem dX4_lay_59 : decode cX4_lay 59 = .ok (.iload_n 2, 1) := by decide +kernel
theorem dX4_lay_60 : decode cX4_lay 60 = .ok (.putfield 36, 3) := by decide +kernel
theorem dX4_lay_63 : decode cX4_lay 63 = .ok (.iload_n 2, 1) := by decide +kernel
theorem dX4_lay_64 : decode cX4_lay 64 = .ok (.ireturn, 1) := by decide +kernel
theorem dX4_tell_0 : decode cX4_tell 0 = .ok (.aload_n 0, 1) := by decide +kernel
theorem dX4_tell_1 : decode cX4_tell 1 = .ok (.getfield 36, 3) := by decide +kernel
theorem dX4_tell_4 : decode cX4_tell 4 = .ok (.iconst (-1), 1) := by decide +kernel
theorem dX4_tell_5 : decode cX4_tell 5 = .ok (.if_icmp .ne 10, 3) := by decide +kernel
theorem dX4_tell_8 : decode cX4_tell 8 = .ok (.aload_n 0, 1) := by decide +kernel
theorem dX4_tell_9 : decode cX4_tell 9 = .ok (.bipush (-2), 2) := by decide +kernel
theorem dX4_tell_11 : decode cX4_tell 11 = .ok (.invokevirtual 48, 3) := by decide +kernel
theorem dX4_tell_14 : decode cX4_tell 14 = .ok (.ireturn, 1) := by decide +kernel
theorem dX4_tell_15 : decode cX4_tell 15 = .ok (.iload_n 1, 1) := by decide +kernel
theorem dX4_tell_16 : decode cX4_tell 16 = .ok (.ifCond .lt 11, 3) := by decide +kernel
theorem dX4_tell_19 : decode cX4_tell 19 = .ok (.iload_n 1, 1) := by decide +kernel
theorem dX4_tell_20 : decode cX4_tell 20 = .ok (.aload_n 0, 1) := by decide +kernel
theorem dX4_tell_21 : decode cX4_tell 21 = .ok (.getfield 36, 3) := by decide +kernel
theorem dX4_tell_24 : decode cX4_tell 24 = .ok (.if_icmp .lt 10, 3) := by decide +kernel
theorem dX4_tell_27 : decode cX4_tell 27 = .ok (.aload_n 0, 1) := by decide +kernel
theorem dX4_tell_28 : decode cX4_tell 28 = .ok (.bipush (-3), 2) := by decide +kernel
theorem dX4_tell_30 : decode cX4_tell 30 = .ok (.invokevirtual 48, 3) := by decide +kernel
theorem dX4_tell_33 : decode cX4_tell 33 = .ok (.ireturn, 1) := by decide +kernel
theorem dX4_tell_34 : decode cX4_tell 34 = .ok (.aload_n 0, 1) := by decide +kernel
theorem dX4_tell_35 : decode cX4_tell 35 = .ok (.getfield 33, 3) := by decide +kernel
theorem dX4_tell_38 : decode cX4_tell 38 = .ok (.iload_n 1, 1) := by decide +kernel
theorem dX4_tell_39 : decode cX4_tell 39 = .ok (.laload, 1) := by decide +kernel
theorem dX4_tell_40 : decode cX4_tell 40 = .ok (.lstore_n 3, 1) := by decide +kernel
theorem dX4_tell_41 : decode cX4_tell 41 = .ok (.aload_n 0, 1) := by decide +kernel
theorem dX4_tell_42 : decode cX4_tell 42 = .ok (.getfield 33, 3) := by decide +kernel
theorem dX4_tell_45 : decode cX4_tell 45 = .ok (.iload_n 1, 1) := by decide +kernel
theorem dX4_tell_46 : decode cX4_tell 46 = .ok (.iload_n 2, 1) := by decide +kernel
theorem dX4_tell_47 : decode cX4_tell 47 = .ok (.i2l, 1) := by decide +kernel
theorem dX4_tell_48 : decode cX4_tell 48 = .ok (.invokestatic 96, 3) := by decide +kernel
theorem dX4_tell_51 : decode cX4_tell 51 = .ok (.lastore, 1) := by decide +kernel
theorem dX4_tell_52 : decode cX4_tell 52 = .ok (.aload_n 0, 1) := by decide +kernel
theorem dX4_tell_53 : decode cX4_tell 53 = .ok (.getfield 33, 3) := by decide +kernel
theorem dX4_tell_56 : decode cX4_tell 56 = .ok (.iload_n 1, 1) := by decide +kernel
theorem dX4_tell_57 : decode cX4_tell 57 = .ok (.laload, 1) := by decide +kernel
theorem dX4_tell_58 : decode cX4_tell 58 = .ok (.lload_n 3, 1) := by decide +kernel
theorem dX4_tell_59 : decode cX4_tell 59 = .ok (.lcmp, 1) := by decide +kernel
theorem dX4_tell_60 : decode cX4_tell 60 = .ok (.ifCond .eq 7, 3) := by decide +kernel
theorem dX4_tell_63 : decode cX4_tell 63 = .ok (.iconst 1, 1) := by decide +kernel
theorem dX4_tell_64 : decode cX4_tell 64 = .ok (.goto 4, 3) := by decide +kernel
theorem dX4_tell_67 : decode cX4_tell 67 = .ok (.iconst 0, 1) := by decide +kernel
theorem dX4_tell_68 : decode cX4_tell 68 = .ok (.ireturn, 1) := by decide +kernel
theorem dX4_give_0 : decode cX4_give 0 = .ok (.aload_n 0, 1) := by decide +kernel
theorem dX4_give_1 : decode cX4_give 1 = .ok (.getfield 36, 3) := by decide +kernel
theorem dX4_give_4 : decode cX4_give 4 = .ok (.iconst (-1), 1) := by decide +kernel
theorem dX4_give_5 : decode cX4_give 5 = .ok (.if_icmp .ne 10, 3) := by decide +kernel
theorem dX4_give_8 : decode cX4_give 8 = .ok (.aload_n 0, 1) := by decide +kernel
theorem dX4_give_9 : decode cX4_give 9 = .ok (.bipush (-2), 2) := by decide +kernel
theorem dX4_give_11 : decode cX4_give 11 = .ok (.invokevirtual 48, 3) := by decide +kernel
theorem dX4_give_14 : decode cX4_give 14 = .ok (.ireturn, 1) := by decide +kernel
theorem dX4_give_15 : decode cX4_give 15 = .ok (.iload_n 1, 1) := by decide +kernel
theorem dX4_give_16 : decode cX4_give 16 = .ok (.invokestatic 133, 3) := by decide +kernel
theorem dX4_give_19 : decode cX4_give 19 = .ok (.ifCond .eq 18, 3) := by decide +kernel
theorem dX4_give_22 : decode cX4_give 22 = .ok (.aload_n 0, 1) := by decide +kernel
theorem dX4_give_23 : decode cX4_give 23 = .ok (.getfield 36, 3) := by decide +kernel
theorem dX4_give_26 : decode cX4_give 26 = .ok (.aload_n 0, 1) := by decide +kernel
theorem dX4_give_27 : decode cX4_give 27 = .ok (.getfield 18, 3) := by decide +kernel
theorem dX4_give_30 : decode cX4_give 30 = .ok (.iload_n 1, 1) := by decide +kernel
theorem dX4_give_31 : decode cX4_give 31 = .ok (.invokevirtual 120, 3) := by decide +kernel
theorem dX4_give_34 : decode cX4_give 34 = .ok (.if_icmp .ge 10, 3) := by decide +kernel
theorem dX4_give_37 : decode cX4_give 37 = .ok (.aload_n 0, 1) := by decide +kernel
theorem dX4_give_38 : decode cX4_give 38 = .ok (.bipush (-7), 2) := by decide +kernel
theorem dX4_give_40 : decode cX4_give 40 = .ok (.invokevirtual 48, 3) := by decide +kernel
theorem dX4_give_43 : decode cX4_give 43 = .ok (.ireturn, 1) := by decide +kernel
theorem dX4_give_44 : decode cX4_give 44 = .ok (.aload_n 0, 1) := by decide +kernel
theorem dX4_give_45 : decode cX4_give 45 = .ok (.iload_n 1, 1) := by decide +kernel
theorem dX4_give_46 : decode cX4_give 46 = .ok (.invokevirtual 51, 3) := by decide +kernel
theorem dX4_give_49 : decode cX4_give 49 = .ok (.ifCond .ne 10, 3) := by decide +kernel
theorem dX4_give_52 : decode cX4_give 52 = .ok (.aload_n 0, 1) := by decide +kernel
theorem dX4_give_53 : decode cX4_give 53 = .ok (.bipush (-8), 2) := by decide +kernel
theorem dX4_give_55 : decode cX4_give 55 = .ok (.invokevirtual 48, 3) := by decide +kernel
theorem dX4_give_58 : decode cX4_give 58 = .ok (.ireturn, 1) := by decide +kernel
theorem dX4_give_59 : decode cX4_give 59 = .ok (.aload_n 0, 1) := by decide +kernel
theorem dX4_give_60 : decode cX4_give 60 = .ok (.getfield 18, 3) := by decide +kernel
theorem dX4_give_63 : decode cX4_give 63 = .ok (.iload_n 1, 1) := by decide +kernel
theorem dX4_give_64 : decode cX4_give 64 = .ok (.aload_n 0, 1) := by decide +kernel
theorem dX4_give_65 : decode cX4_give 65 = .ok (.getfield 33, 3) := by decide +kernel
theorem dX4_give_68 : decode cX4_give 68 = .ok (.aload_n 0, 1) := by decide +kernel
theorem dX4_give_69 : decode cX4_give 69 = .ok (.getfield 22, 3) := by decide +kernel
theorem dX4_give_72 : decode cX4_give 72 = .ok (.invokevirtual 116, 3) := by decide +kernel
theorem dX4_give_75 : decode cX4_give 75 = .ok (.aload_n 0, 1) := by decide +kernel
theorem dX4_give_76 : decode cX4_give 76 = .ok (.getfield 18, 3) := by decide +kernel
theorem dX4_give_79 : decode cX4_give 79 = .ok (.iload_n 1, 1) := by decide +kernel
theorem dX4_give_80 : decode cX4_give 80 = .ok (.aload_n 0, 1) := by decide +kernel
theorem dX4_give_81 : decode cX4_give 81 = .ok (.getfield 22, 3) := by decide +kernel
theorem dX4_give_84 : decode cX4_give 84 = .ok (.aload_n 0, 1) := by decide +kernel
theorem dX4_give_85 : decode cX4_give 85 = .ok (.getfield 11, 3) := by decide +kernel
theorem dX4_give_88 : decode cX4_give 88 = .ok (.aload_n 0, 1) := by decide +kernel
theorem dX4_give_89 : decode cX4_give 89 = .ok (.getfield 67, 3) := by decide +kernel
theorem dX4_give_92 : decode cX4_give 92 = .ok (.aaload, 1) := by decide +kernel
theorem dX4_give_93 : decode cX4_give 93 = .ok (.getfield 70, 3) := by decide +kernel
theorem dX4_give_96 : decode cX4_give 96 = .ok (.invokevirtual 123, 3) := by decide +kernel
theorem dX4_give_99 : decode cX4_give 99 = .ok (.aload_n 0, 1) := by decide +kernel
theorem dX4_give_100 : decode cX4_give 100 = .ok (.iload_n 1, 1) := by decide +kernel
theorem dX4_give_101 : decode cX4_give 101 = .ok (.invokevirtual 100, 3) := by decide +kernel
theorem dX4_give_104 : decode cX4_give 104 = .ok (.ireturn, 1) := by decide +kernel
theorem dX4_tear_0 : decode cX4_tear 0 = .ok (.aload_n 0, 1) := by decide +kernel
theorem dX4_tear_1 : decode cX4_tear 1 = .ok (.getfield 36, 3) := by decide +kernel
theorem dX4_tear_4 : decode cX4_tear 4 = .ok (.iconst (-1), 1) := by decide +kernel
theorem dX4_tear_5 : decode cX4_tear 5 = .ok (.if_icmp .ne 7, 3) := by decide +kernel
theorem dX4_tear_8 : decode cX4_tear 8 = .ok (.iconst 0, 1) := by decide +kernel
theorem dX4_tear_9 : decode cX4_tear 9 = .ok (.goto 4, 3) := by decide +kernel
theorem dX4_tear_12 : decode cX4_tear 12 = .ok (.iconst 1, 1) := by decide +kernel
theorem dX4_tear_13 : decode cX4_tear 13 = .ok (.istore_n 1, 1) := by decide +kernel
theorem dX4_tear_14 : decode cX4_tear 14 = .ok (.aload_n 0, 1) := by decide +kernel
theorem dX4_tear_15 : decode cX4_tear 15 = .ok (.iconst (-1), 1) := by decide +kernel
theorem dX4_tear_16 : decode cX4_tear 16 = .ok (.putfield 36, 3) := by decide +kernel
theorem dX4_tear_19 : decode cX4_tear 19 = .ok (.iload_n 1, 1) := by decide +kernel
theorem dX4_tear_20 : decode cX4_tear 20 = .ok (.ireturn, 1) := by decide +kernel
theorem dX4_row_0 : decode cX4_row 0 = .ok (.aload_n 0, 1) := by decide +kernel
theorem dX4_row_1 : decode cX4_row 1 = .ok (.getfield 36, 3) := by decide +kernel
theorem dX4_row_4 : decode cX4_row 4 = .ok (.iconst (-1), 1) := by decide +kernel
theorem dX4_row_5 : decode cX4_row 5 = .ok (.if_icmp .ne 10, 3) := by decide +kernel
theorem dX4_row_8 : decode cX4_row 8 = .ok (.aload_n 0, 1) := by decide +kernel
theorem dX4_row_9 : decode cX4_row 9 = .ok (.bipush (-2), 2) := by decide +kernel
theorem dX4_row_11 : decode cX4_row 11 = .ok (.invokevirtual 48, 3) := by decide +kernel
theorem dX4_row_14 : decode cX4_row 14 = .ok (.ireturn, 1) := by decide +kernel
theorem dX4_row_15 : decode cX4_row 15 = .ok (.iload_n 1, 1) := by decide +kernel
theorem dX4_row_16 : decode cX4_row 16 = .ok (.ifCond .lt 11, 3) := by decide +kernel
theorem dX4_row_19 : decode cX4_row 19 = .ok (.iload_n 1, 1) := by decide +kernel
theorem dX4_row_20 : decode cX4_row 20 = .ok (.aload_n 0, 1) := by decide +kernel
theorem dX4_row_21 : decode cX4_row 21 = .ok (.getfield 36, 3) := by decide +kernel
theorem dX4_row_24 : decode cX4_row 24 = .ok (.if_icmp .lt 10, 3) := by decide +kernel
theorem dX4_row_27 : decode cX4_row 27 = .ok (.aload_n 0, 1) := by decide +kernel
theorem dX4_row_28 : decode cX4_row 28 = .ok (.bipush (-3), 2) := by decide +kernel
theorem dX4_row_30 : decode cX4_row 30 = .ok (.invokevirtual 48, 3) := by decide +kernel
theorem dX4_row_33 : decode cX4_row 33 = .ok (.ireturn, 1) := by decide +kernel
theorem dX4_row_34 : decode cX4_row 34 = .ok (.aload_n 0, 1) := by decide +kernel
theorem dX4_row_35 : decode cX4_row 35 = .ok (.getfield 33, 3) := by decide +kernel
theorem dX4_row_38 : decode cX4_row 38 = .ok (.iload_n 1, 1) := by decide +kernel
theorem dX4_row_39 : decode cX4_row 39 = .ok (.laload, 1) := by decide +kernel
theorem dX4_row_40 : decode cX4_row 40 = .ok (.l2i, 1) := by decide +kernel
theorem dX4_row_41 : decode cX4_row 41 = .ok (.ireturn, 1) := by decide +kernel
theorem dX4_copy_0 : decode cX4_copy 0 = .ok (.aload_n 0, 1) := by decide +kernel
theorem dX4_copy_1 : decode cX4_copy 1 = .ok (.getfield 36, 3) := by decide +kernel
theorem dX4_copy_4 : decode cX4_copy 4 = .ok (.iconst (-1), 1) := by decide +kernel
theorem dX4_copy_5 : decode cX4_copy 5 = .ok (.if_icmp .ne 10, 3) := by decide +kernel
theorem dX4_copy_8 : decode cX4_copy 8 = .ok (.aload_n 0, 1) := by decide +kernel
theorem dX4_copy_9 : decode cX4_copy 9 = .ok (.bipush (-2), 2) := by decide +kernel
theorem dX4_copy_11 : decode cX4_copy 11 = .ok (.invokevirtual 48, 3) := by decide +kernel
theorem dX4_copy_14 : decode cX4_copy 14 = .ok (.ireturn, 1) := by decide +kernel
theorem dX4_copy_15 : decode cX4_copy 15 = .ok (.iload_n 3, 1) := by decide +kernel
theorem dX4_copy_16 : decode cX4_copy 16 = .ok (.ifCond .ge 10, 3) := by decide +kernel
theorem dX4_copy_19 : decode cX4_copy 19 = .ok (.aload_n 0, 1) := by decide +kernel
theorem dX4_copy_20 : decode cX4_copy 20 = .ok (.bipush (-4), 2) := by decide +kernel
theorem dX4_copy_22 : decode cX4_copy 22 = .ok (.invokevirtual 48, 3) := by decide +kernel
theorem dX4_copy_25 : decode cX4_copy 25 = .ok (.ireturn, 1) := by decide +kernel
theorem dX4_copy_26 : decode cX4_copy 26 = .ok (.iload_n 1, 1) := by decide +kernel
theorem dX4_copy_27 : decode cX4_copy 27 = .ok (.ifCond .lt 27, 3) := by decide +kernel
theorem dX4_copy_30 : decode cX4_copy 30 = .ok (.iload_n 2, 1) := by decide +kernel
theorem dX4_copy_31 : decode cX4_copy 31 = .ok (.ifCond .lt 23, 3) := by decide +kernel
theorem dX4_copy_34 : decode cX4_copy 34 = .ok (.iload_n 1, 1) := by decide +kernel
theorem dX4_copy_35 : decode cX4_copy 35 = .ok (.aload_n 0, 1) := by decide +kernel
theorem dX4_copy_36 : decode cX4_copy 36 = .ok (.getfield 36, 3) := by decide +kernel
theorem dX4_copy_39 : decode cX4_copy 39 = .ok (.iload_n 3, 1) := by decide +kernel
theorem dX4_copy_40 : decode cX4_copy 40 = .ok (.isub, 1) := by decide +kernel
theorem dX4_copy_41 : decode cX4_copy 41 = .ok (.if_icmp .gt 13, 3) := by decide +kernel
theorem dX4_copy_44 : decode cX4_copy 44 = .ok (.iload_n 2, 1) := by decide +kernel
theorem dX4_copy_45 : decode cX4_copy 45 = .ok (.aload_n 0, 1) := by decide +kernel
theorem dX4_copy_46 : decode cX4_copy 46 = .ok (.getfield 36, 3) := by decide +kernel
theorem dX4_copy_49 : decode cX4_copy 49 = .ok (.iload_n 3, 1) := by decide +kernel
theorem dX4_copy_50 : decode cX4_copy 50 = .ok (.isub, 1) := by decide +kernel
theorem dX4_copy_51 : decode cX4_copy 51 = .ok (.if_icmp .le 10, 3) := by decide +kernel
theorem dX4_copy_54 : decode cX4_copy 54 = .ok (.aload_n 0, 1) := by decide +kernel
theorem dX4_copy_55 : decode cX4_copy 55 = .ok (.bipush (-6), 2) := by decide +kernel
theorem dX4_copy_57 : decode cX4_copy 57 = .ok (.invokevirtual 48, 3) := by decide +kernel
theorem dX4_copy_60 : decode cX4_copy 60 = .ok (.ireturn, 1) := by decide +kernel
theorem dX4_copy_61 : decode cX4_copy 61 = .ok (.aload_n 0, 1) := by decide +kernel
theorem dX4_copy_62 : decode cX4_copy 62 = .ok (.getfield 33, 3) := by decide +kernel
theorem dX4_copy_65 : decode cX4_copy 65 = .ok (.iload_n 1, 1) := by decide +kernel
theorem dX4_copy_66 : decode cX4_copy 66 = .ok (.aload_n 0, 1) := by decide +kernel
theorem dX4_copy_67 : decode cX4_copy 67 = .ok (.getfield 33, 3) := by decide +kernel
theorem dX4_copy_70 : decode cX4_copy 70 = .ok (.iload_n 2, 1) := by decide +kernel
theorem dX4_copy_71 : decode cX4_copy 71 = .ok (.iload_n 3, 1) := by decide +kernel
theorem dX4_copy_72 : decode cX4_copy 72 = .ok (.invokestatic 140, 3) := by decide +kernel
theorem dX4_copy_75 : decode cX4_copy 75 = .ok (.iload_n 3, 1) := by decide +kernel
theorem dX4_copy_76 : decode cX4_copy 76 = .ok (.ireturn, 1) := by decide +kernel
theorem dX4_status_0 : decode cX4_status 0 = .ok (.iload_n 1, 1) := by decide +kernel
theorem dX4_status_1 : decode cX4_status 1 = .ok (.invokestatic 168, 3) := by decide +kernel
theorem dX4_status_4 : decode cX4_status 4 = .ok (.ifCond .eq 13, 3) := by decide +kernel
theorem dX4_status_7 : decode cX4_status 7 = .ok (.aload_n 0, 1) := by decide +kernel
theorem dX4_status_8 : decode cX4_status 8 = .ok (.getfield 40, 3) := by decide +kernel
theorem dX4_status_11 : decode cX4_status 11 = .ok (.iload_n 1, 1) := by decide +kernel
theorem dX4_status_12 : decode cX4_status 12 = .ok (.ineg, 1) := by decide +kernel
theorem dX4_status_13 : decode cX4_status 13 = .ok (.iaload, 1) := by decide +kernel
theorem dX4_status_14 : decode cX4_status 14 = .ok (.goto 9, 3) := by decide +kernel
theorem dX4_status_17 : decode cX4_status 17 = .ok (.aload_n 0, 1) := by decide +kernel
theorem dX4_status_18 : decode cX4_status 18 = .ok (.bipush (-7), 2) := by decide +kernel
theorem dX4_status_20 : decode cX4_status 20 = .ok (.invokevirtual 48, 3) := by decide +kernel
theorem dX4_status_23 : decode cX4_status 23 = .ok (.ireturn, 1) := by decide +kernel
theorem dX4_refuse_0 : decode cX4_refuse 0 = .ok (.iload_n 1, 1) := by decide +kernel
theorem dX4_refuse_1 : decode cX4_refuse 1 = .ok (.invokestatic 168, 3) := by decide +kernel
theorem dX4_refuse_4 : decode cX4_refuse 4 = .ok (.ifCond .eq 14, 3) := by decide +kernel
theorem dX4_refuse_7 : decode cX4_refuse 7 = .ok (.aload_n 0, 1) := by decide +kernel
theorem dX4_refuse_8 : decode cX4_refuse 8 = .ok (.getfield 40, 3) := by decide +kernel
theorem dX4_refuse_11 : decode cX4_refuse 11 = .ok (.iload_n 1, 1) := by decide +kernel
theorem dX4_refuse_12 : decode cX4_refuse 12 = .ok (.ineg, 1) := by decide +kernel
theorem dX4_refuse_13 : decode cX4_refuse 13 = .ok (.dup2, 1) := by decide +kernel
theorem dX4_refuse_14 : decode cX4_refuse 14 = .ok (.iaload, 1) := by decide +kernel
theorem dX4_refuse_15 : decode cX4_refuse 15 = .ok (.iconst 1, 1) := by decide +kernel
theorem dX4_refuse_16 : decode cX4_refuse 16 = .ok (.iadd, 1) := by decide +kernel
theorem dX4_refuse_17 : decode cX4_refuse 17 = .ok (.iastore, 1) := by decide +kernel
theorem dX4_refuse_18 : decode cX4_refuse 18 = .ok (.iload_n 1, 1) := by decide +kernel
theorem dX4_refuse_19 : decode cX4_refuse 19 = .ok (.ireturn, 1) := by decide +kernel
theorem dX4_isRefusal_0 : decode cX4_isRefusal 0 = .ok (.iload_n 0, 1) := by decide +kernel
theorem dX4_isRefusal_1 : decode cX4_isRefusal 1 = .ok (.bipush (-2), 2) := by decide +kernel
theorem dX4_isRefusal_3 : decode cX4_isRefusal 3 = .ok (.if_icmp .gt 13, 3) := by decide +kernel
theorem dX4_isRefusal_6 : decode cX4_isRefusal 6 = .ok (.iload_n 0, 1) := by decide +kernel
theorem dX4_isRefusal_7 : decode cX4_isRefusal 7 = .ok (.bipush (-8), 2) := by decide +kernel
theorem dX4_isRefusal_9 : decode cX4_isRefusal 9 = .ok (.if_icmp .lt 7, 3) := by decide +kernel
theorem dX4_isRefusal_12 : decode cX4_isRefusal 12 = .ok (.iconst 1, 1) := by decide +kernel
theorem dX4_isRefusal_13 : decode cX4_isRefusal 13 = .ok (.goto 4, 3) := by decide +kernel
theorem dX4_isRefusal_16 : decode cX4_isRefusal 16 = .ok (.iconst 0, 1) := by decide +kernel
theorem dX4_isRefusal_17 : decode cX4_isRefusal 17 = .ok (.ireturn, 1) := by decide +kernel
theorem dX4_isForm_0 : decode cX4_isForm 0 = .ok (.iload_n 1, 1) := by decide +kernel
theorem dX4_isForm_1 : decode cX4_isForm 1 = .ok (.ifCond .lt 15, 3) := by decide +kernel
theorem dX4_isForm_4 : decode cX4_isForm 4 = .ok (.iload_n 1, 1) := by decide +kernel
theorem dX4_isForm_5 : decode cX4_isForm 5 = .ok (.aload_n 0, 1) := by decide +kernel
theorem dX4_isForm_6 : decode cX4_isForm 6 = .ok (.getfield 67, 3) := by decide +kernel
theorem dX4_isForm_9 : decode cX4_isForm 9 = .ok (.if_icmp .ge 7, 3) := by decide +kernel
theorem dX4_isForm_12 : decode cX4_isForm 12 = .ok (.iconst 1, 1) := by decide +kernel
theorem dX4_isForm_13 : decode cX4_isForm 13 = .ok (.goto 4, 3) := by decide +kernel
theorem dX4_isForm_16 : decode cX4_isForm 16 = .ok (.iconst 0, 1) := by decide +kernel
theorem dX4_isForm_17 : decode cX4_isForm 17 = .ok (.ireturn, 1) := by decide +kernel
theorem dX4_isWeight_0 : decode cX4_isWeight 0 = .ok (.iload_n 0, 1) := by decide +kernel
theorem dX4_isWeight_1 : decode cX4_isWeight 1 = .ok (.ifCond .lt 19, 3) := by decide +kernel
theorem dX4_isWeight_4 : decode cX4_isWeight 4 = .ok (.iload_n 0, 1) := by decide +kernel
theorem dX4_isWeight_5 : decode cX4_isWeight 5 = .ok (.bipush 40, 2) := by decide +kernel
theorem dX4_isWeight_7 : decode cX4_isWeight 7 = .ok (.if_icmp .gt 13, 3) := by decide +kernel
theorem dX4_isWeight_10 : decode cX4_isWeight 10 = .ok (.iload_n 0, 1) := by decide +kernel
theorem dX4_isWeight_11 : decode cX4_isWeight 11 = .ok (.iconst 2, 1) := by decide +kernel
theorem dX4_isWeight_12 : decode cX4_isWeight 12 = .ok (.irem, 1) := by decide +kernel
theorem dX4_isWeight_13 : decode cX4_isWeight 13 = .ok (.ifCond .ne 7, 3) := by decide +kernel
theorem dX4_isWeight_16 : decode cX4_isWeight 16 = .ok (.iconst 1, 1) := by decide +kernel
theorem dX4_isWeight_17 : decode cX4_isWeight 17 = .ok (.goto 4, 3) := by decide +kernel
theorem dX4_isWeight_20 : decode cX4_isWeight 20 = .ok (.iconst 0, 1) := by decide +kernel
theorem dX4_isWeight_21 : decode cX4_isWeight 21 = .ok (.ireturn, 1) := by decide +kernel
theorem dX4_isPrime_0 : decode cX4_isPrime 0 = .ok (.iload_n 0, 1) := by decide +kernel
theorem dX4_isPrime_1 : decode cX4_isPrime 1 = .ok (.iconst 2, 1) := by decide +kernel
theorem dX4_isPrime_2 : decode cX4_isPrime 2 = .ok (.if_icmp .eq 25, 3) := by decide +kernel
theorem dX4_isPrime_5 : decode cX4_isPrime 5 = .ok (.iload_n 0, 1) := by decide +kernel
theorem dX4_isPrime_6 : decode cX4_isPrime 6 = .ok (.iconst 3, 1) := by decide +kernel
theorem dX4_isPrime_7 : decode cX4_isPrime 7 = .ok (.if_icmp .eq 20, 3) := by decide +kernel
theorem dX4_isPrime_10 : decode cX4_isPrime 10 = .ok (.iload_n 0, 1) := by decide +kernel
theorem dX4_isPrime_11 : decode cX4_isPrime 11 = .ok (.iconst 5, 1) := by decide +kernel
theorem dX4_isPrime_12 : decode cX4_isPrime 12 = .ok (.if_icmp .eq 15, 3) := by decide +kernel
theorem dX4_isPrime_15 : decode cX4_isPrime 15 = .ok (.iload_n 0, 1) := by decide +kernel
theorem dX4_isPrime_16 : decode cX4_isPrime 16 = .ok (.bipush 7, 2) := by decide +kernel
theorem dX4_isPrime_18 : decode cX4_isPrime 18 = .ok (.if_icmp .eq 9, 3) := by decide +kernel
theorem dX4_isPrime_21 : decode cX4_isPrime 21 = .ok (.iload_n 0, 1) := by decide +kernel
theorem dX4_isPrime_22 : decode cX4_isPrime 22 = .ok (.bipush 11, 2) := by decide +kernel
theorem dX4_isPrime_24 : decode cX4_isPrime 24 = .ok (.if_icmp .ne 7, 3) := by decide +kernel
theorem dX4_isPrime_27 : decode cX4_isPrime 27 = .ok (.iconst 1, 1) := by decide +kernel
theorem dX4_isPrime_28 : decode cX4_isPrime 28 = .ok (.goto 4, 3) := by decide +kernel
theorem dX4_isPrime_31 : decode cX4_isPrime 31 = .ok (.iconst 0, 1) := by decide +kernel
theorem dX4_isPrime_32 : decode cX4_isPrime 32 = .ok (.ireturn, 1) := by decide +kernel
theorem dX4_hasRoom_0 : decode cX4_hasRoom 0 = .ok (.aload_n 0, 1) := by decide +kernel
theorem dX4_hasRoom_1 : decode cX4_hasRoom 1 = .ok (.getfield 67, 3) := by decide +kernel
theorem dX4_hasRoom_4 : decode cX4_hasRoom 4 = .ok (.bipush 16, 2) := by decide +kernel
theorem dX4_hasRoom_6 : decode cX4_hasRoom 6 = .ok (.if_icmp .ge 13, 3) := by decide +kernel
theorem dX4_hasRoom_9 : decode cX4_hasRoom 9 = .ok (.iload_n 1, 1) := by decide +kernel
theorem dX4_hasRoom_10 : decode cX4_hasRoom 10 = .ok (.bipush 40, 2) := by decide +kernel
theorem dX4_hasRoom_12 : decode cX4_hasRoom 12 = .ok (.if_icmp .gt 7, 3) := by decide +kernel
theorem dX4_hasRoom_15 : decode cX4_hasRoom 15 = .ok (.iconst 1, 1) := by decide +kernel
theorem dX4_hasRoom_16 : decode cX4_hasRoom 16 = .ok (.goto 4, 3) := by decide +kernel
theorem dX4_hasRoom_19 : decode cX4_hasRoom 19 = .ok (.iconst 0, 1) := by decide +kernel
theorem dX4_hasRoom_20 : decode cX4_hasRoom 20 = .ok (.ireturn, 1) := by decide +kernel
theorem dX4_sumsIndex_0 : decode cX4_sumsIndex 0 = .ok (.iconst 0, 1) := by decide +kernel
theorem dX4_sumsIndex_1 : decode cX4_sumsIndex 1 = .ok (.istore_n 1, 1) := by decide +kernel
theorem dX4_sumsIndex_2 : decode cX4_sumsIndex 2 = .ok (.iload_n 1, 1) := by decide +kernel
theorem dX4_sumsIndex_3 : decode cX4_sumsIndex 3 = .ok (.getstatic 171, 3) := by decide +kernel
theorem dX4_sumsIndex_6 : decode cX4_sumsIndex 6 = .ok (.arraylength, 1) := by decide +kernel
theorem dX4_sumsIndex_7 : decode cX4_sumsIndex 7 = .ok (.if_icmp .ge 20, 3) := by decide +kernel
theorem dX4_sumsIndex_10 : decode cX4_sumsIndex 10 = .ok (.getstatic 171, 3) := by decide +kernel
theorem dX4_sumsIndex_13 : decode cX4_sumsIndex 13 = .ok (.iload_n 1, 1) := by decide +kernel
theorem dX4_sumsIndex_14 : decode cX4_sumsIndex 14 = .ok (.iaload, 1) := by decide +kernel
theorem dX4_sumsIndex_15 : decode cX4_sumsIndex 15 = .ok (.iload_n 0, 1) := by decide +kernel
theorem dX4_sumsIndex_16 : decode cX4_sumsIndex 16 = .ok (.if_icmp .ne 5, 3) := by decide +kernel
theorem dX4_sumsIndex_19 : decode cX4_sumsIndex 19 = .ok (.iload_n 1, 1) := by decide +kernel
theorem dX4_sumsIndex_20 : decode cX4_sumsIndex 20 = .ok (.ireturn, 1) := by decide +kernel
theorem dX4_sumsIndex_21 : decode cX4_sumsIndex 21 = .ok (.iinc 1 1, 3) := by decide +kernel
theorem dX4_sumsIndex_24 : decode cX4_sumsIndex 24 = .ok (.goto (-22), 3) := by decide +kernel
theorem dX4_sumsIndex_27 : decode cX4_sumsIndex 27 = .ok (.iconst (-1), 1) := by decide +kernel
theorem dX4_sumsIndex_28 : decode cX4_sumsIndex 28 = .ok (.ireturn, 1) := by decide +kernel
theorem dX4_comeAsTold_0 : decode cX4_comeAsTold 0 = .ok (.aload_n 0, 1) := by decide +kernel
theorem dX4_comeAsTold_1 : decode cX4_comeAsTold 1 = .ok (.getfield 11, 3) := by decide +kernel
theorem dX4_comeAsTold_4 : decode cX4_comeAsTold 4 = .ok (.aload_n 0, 1) := by decide +kernel
theorem dX4_comeAsTold_5 : decode cX4_comeAsTold 5 = .ok (.getfield 67, 3) := by decide +kernel
theorem dX4_comeAsTold_8 : decode cX4_comeAsTold 8 = .ok (.aaload, 1) := by decide +kernel
theorem dX4_comeAsTold_9 : decode cX4_comeAsTold 9 = .ok (.astore 4, 2) := by decide +kernel
theorem dX4_comeAsTold_11 : decode cX4_comeAsTold 11 = .ok (.aload 4, 2) := by decide +kernel
theorem dX4_comeAsTold_13 : decode cX4_comeAsTold 13 = .ok (.iload_n 1, 1) := by decide +kernel
theorem dX4_comeAsTold_14 : decode cX4_comeAsTold 14 = .ok (.putfield 146, 3) := by decide +kernel
theorem dX4_comeAsTold_17 : decode cX4_comeAsTold 17 = .ok (.aload 4, 2) := by decide +kernel
theorem dX4_comeAsTold_19 : decode cX4_comeAsTold 19 = .ok (.iload_n 2, 1) := by decide +kernel
theorem dX4_comeAsTold_20 : decode cX4_comeAsTold 20 = .ok (.putfield 93, 3) := by decide +kernel
theorem dX4_comeAsTold_23 : decode cX4_comeAsTold 23 = .ok (.aload 4, 2) := by decide +kernel
theorem dX4_comeAsTold_25 : decode cX4_comeAsTold 25 = .ok (.iload_n 3, 1) := by decide +kernel
theorem dX4_comeAsTold_26 : decode cX4_comeAsTold 26 = .ok (.putfield 153, 3) := by decide +kernel
theorem dX4_comeAsTold_29 : decode cX4_comeAsTold 29 = .ok (.aload_n 0, 1) := by decide +kernel
theorem dX4_comeAsTold_30 : decode cX4_comeAsTold 30 = .ok (.dup, 1) := by decide +kernel
theorem dX4_comeAsTold_31 : decode cX4_comeAsTold 31 = .ok (.getfield 67, 3) := by decide +kernel
theorem dX4_comeAsTold_34 : decode cX4_comeAsTold 34 = .ok (.iconst 1, 1) := by decide +kernel
theorem dX4_comeAsTold_35 : decode cX4_comeAsTold 35 = .ok (.iadd, 1) := by decide +kernel
theorem dX4_comeAsTold_36 : decode cX4_comeAsTold 36 = .ok (.putfield 67, 3) := by decide +kernel
theorem dX4_comeAsTold_39 : decode cX4_comeAsTold 39 = .ok (.aload_n 0, 1) := by decide +kernel
theorem dX4_comeAsTold_40 : decode cX4_comeAsTold 40 = .ok (.getfield 67, 3) := by decide +kernel
theorem dX4_comeAsTold_43 : decode cX4_comeAsTold 43 = .ok (.iconst 1, 1) := by decide +kernel
theorem dX4_comeAsTold_44 : decode cX4_comeAsTold 44 = .ok (.isub, 1) := by decide +kernel
theorem dX4_comeAsTold_45 : decode cX4_comeAsTold 45 = .ok (.ireturn, 1) := by decide +kernel
theorem dX4_comeOfOthers_0 : decode cX4_comeOfOthers 0 = .ok (.iload_n 1, 1) := by decide +kernel
theorem dX4_comeOfOthers_1 : decode cX4_comeOfOthers 1 = .ok (.ifCond .ne 7, 3) := by decide +kernel
theorem dX4_comeOfOthers_4 : decode cX4_comeOfOthers 4 = .ok (.iconst 3, 1) := by decide +kernel
theorem dX4_comeOfOthers_5 : decode cX4_comeOfOthers 5 = .ok (.goto 27, 3) := by decide +kernel
theorem dX4_comeOfOthers_8 : decode cX4_comeOfOthers 8 = .ok (.aload_n 0, 1) := by decide +kernel
theorem dX4_comeOfOthers_9 : decode cX4_comeOfOthers 9 = .ok (.getfield 11, 3) := by decide +kernel
theorem dX4_comeOfOthers_12 : decode cX4_comeOfOthers 12 = .ok (.aload_n 0, 1) := by decide +kernel
theorem dX4_comeOfOthers_13 : decode cX4_comeOfOthers 13 = .ok (.getfield 67, 3) := by decide +kernel
theorem dX4_comeOfOthers_16 : decode cX4_comeOfOthers 16 = .ok (.aaload, 1) := by decide +kernel
theorem dX4_comeOfOthers_17 : decode cX4_comeOfOthers 17 = .ok (.getfield 70, 3) := by decide +kernel
theorem dX4_comeOfOthers_20 : decode cX4_comeOfOthers 20 = .ok (.iconst 0, 1) := by decide +kernel
theorem dX4_comeOfOthers_21 : decode cX4_comeOfOthers 21 = .ok (.laload, 1) := by decide +kernel
theorem dX4_comeOfOthers_22 : decode cX4_comeOfOthers 22 = .ok (.lconst 0, 1) := by decide +kernel
theorem dX4_comeOfOthers_23 : decode cX4_comeOfOthers 23 = .ok (.lcmp, 1) := by decide +kernel
theorem dX4_comeOfOthers_24 : decode cX4_comeOfOthers 24 = .ok (.ifCond .ne 7, 3) := by decide +kernel
theorem dX4_comeOfOthers_27 : decode cX4_comeOfOthers 27 = .ok (.iconst 4, 1) := by decide +kernel
theorem dX4_comeOfOthers_28 : decode cX4_comeOfOthers 28 = .ok (.goto 4, 3) := by decide +kernel
theorem dX4_comeOfOthers_31 : decode cX4_comeOfOthers 31 = .ok (.iconst 0, 1) := by decide +kernel
theorem dX4_comeOfOthers_32 : decode cX4_comeOfOthers 32 = .ok (.istore_n 2, 1) := by decide +kernel
theorem dX4_comeOfOthers_33 : decode cX4_comeOfOthers 33 = .ok (.aload_n 0, 1) := by decide +kernel
theorem dX4_comeOfOthers_34 : decode cX4_comeOfOthers 34 = .ok (.iload_n 2, 1) := by decide +kernel
theorem dX4_comeOfOthers_35 : decode cX4_comeOfOthers 35 = .ok (.iload_n 1, 1) := by decide +kernel
theorem dX4_comeOfOthers_36 : decode cX4_comeOfOthers 36 = .ok (.iconst 0, 1) := by decide +kernel
theorem dX4_comeOfOthers_37 : decode cX4_comeOfOthers 37 = .ok (.invokevirtual 79, 3) := by decide +kernel
theorem dX4_comeOfOthers_40 : decode cX4_comeOfOthers 40 = .ok (.ireturn, 1) := by decide +kernel
theorem dX4_takeOneSquareMore_0 : decode cX4_takeOneSquareMore 0 = .ok (.iload_n 1, 1) := by decide +kernel
theorem dX4_takeOneSquareMore_1 : decode cX4_takeOneSquareMore 1 = .ok (.istore_n 2, 1) := by decide +kernel
theorem dX4_takeOneSquareMore_2 : decode cX4_takeOneSquareMore 2 = .ok (.iload_n 2, 1) := by decide +kernel
theorem dX4_takeOneSquareMore_3 : decode cX4_takeOneSquareMore 3 = .ok (.ifCond .le 56, 3) := by decide +kernel
theorem dX4_takeOneSquareMore_6 : decode cX4_takeOneSquareMore 6 = .ok (.iconst 0, 1) := by decide +kernel
theorem dX4_takeOneSquareMore_7 : decode cX4_takeOneSquareMore 7 = .ok (.istore_n 3, 1) := by decide +kernel
theorem dX4_takeOneSquareMore_8 : decode cX4_takeOneSquareMore 8 = .ok (.iconst 1, 1) := by decide +kernel
theorem dX4_takeOneSquareMore_9 : decode cX4_takeOneSquareMore 9 = .ok (.istore 4, 2) := by decide +kernel
theorem dX4_takeOneSquareMore_11 : decode cX4_takeOneSquareMore 11 = .ok (.iload 4, 2) := by decide +kernel
theorem dX4_takeOneSquareMore_13 : decode cX4_takeOneSquareMore 13 = .ok (.iload 4, 2) := by decide +kernel
theorem dX4_takeOneSquareMore_15 : decode cX4_takeOneSquareMore 15 = .ok (.imul, 1) := by decide +kernel
theorem dX4_takeOneSquareMore_16 : decode cX4_takeOneSquareMore 16 = .ok (.iload_n 2, 1) := by decide +kernel
theorem dX4_takeOneSquareMore_17 : decode cX4_takeOneSquareMore 17 = .ok (.if_icmp .gt 24, 3) := by decide +kernel
theorem dX4_takeOneSquareMore_20 : decode cX4_takeOneSquareMore 20 = .ok (.iload_n 3, 1) := by decide +kernel
theorem dX4_takeOneSquareMore_21 : decode cX4_takeOneSquareMore 21 = .ok (.aload_n 0, 1) := by decide +kernel
theorem dX4_takeOneSquareMore_22 : decode cX4_takeOneSquareMore 22 = .ok (.getfield 29, 3) := by decide +kernel
theorem dX4_takeOneSquareMore_25 : decode cX4_takeOneSquareMore 25 = .ok (.iload_n 2, 1) := by decide +kernel
theorem dX4_takeOneSquareMore_26 : decode cX4_takeOneSquareMore 26 = .ok (.iload 4, 2) := by decide +kernel
theorem dX4_takeOneSquareMore_28 : decode cX4_takeOneSquareMore 28 = .ok (.iload 4, 2) := by decide +kernel
theorem dX4_takeOneSquareMore_30 : decode cX4_takeOneSquareMore 30 = .ok (.imul, 1) := by decide +kernel
theorem dX4_takeOneSquareMore_31 : decode cX4_takeOneSquareMore 31 = .ok (.isub, 1) := by decide +kernel
theorem dX4_takeOneSquareMore_32 : decode cX4_takeOneSquareMore 32 = .ok (.iaload, 1) := by decide +kernel
theorem dX4_takeOneSquareMore_33 : decode cX4_takeOneSquareMore 33 = .ok (.iadd, 1) := by decide +kernel
theorem dX4_takeOneSquareMore_34 : decode cX4_takeOneSquareMore 34 = .ok (.istore_n 3, 1) := by decide +kernel
theorem dX4_takeOneSquareMore_35 : decode cX4_takeOneSquareMore 35 = .ok (.iinc 4 1, 3) := by decide +kernel
theorem dX4_takeOneSquareMore_38 : decode cX4_takeOneSquareMore 38 = .ok (.goto (-27), 3) := by decide +kernel
theorem dX4_takeOneSquareMore_41 : decode cX4_takeOneSquareMore 41 = .ok (.aload_n 0, 1) := by decide +kernel
theorem dX4_takeOneSquareMore_42 : decode cX4_takeOneSquareMore 42 = .ok (.getfield 29, 3) := by decide +kernel
theorem dX4_takeOneSquareMore_45 : decode cX4_takeOneSquareMore 45 = .ok (.iload_n 2, 1) := by decide +kernel
theorem dX4_takeOneSquareMore_46 : decode cX4_takeOneSquareMore 46 = .ok (.dup2, 1) := by decide +kernel
theorem dX4_takeOneSquareMore_47 : decode cX4_takeOneSquareMore 47 = .ok (.iaload, 1) := by decide +kernel
theorem dX4_takeOneSquareMore_48 : decode cX4_takeOneSquareMore 48 = .ok (.iconst 2, 1) := by decide +kernel
theorem dX4_takeOneSquareMore_49 : decode cX4_takeOneSquareMore 49 = .ok (.iload_n 3, 1) := by decide +kernel
theorem dX4_takeOneSquareMore_50 : decode cX4_takeOneSquareMore 50 = .ok (.imul, 1) := by decide +kernel
theorem dX4_takeOneSquareMore_51 : decode cX4_takeOneSquareMore 51 = .ok (.iadd, 1) := by decide +kernel
theorem dX4_takeOneSquareMore_52 : decode cX4_takeOneSquareMore 52 = .ok (.iastore, 1) := by decide +kernel
theorem dX4_takeOneSquareMore_53 : decode cX4_takeOneSquareMore 53 = .ok (.iinc 2 (-1), 3) := by decide +kernel
theorem dX4_takeOneSquareMore_56 : decode cX4_takeOneSquareMore 56 = .ok (.goto (-54), 3) := by decide +kernel
theorem dX4_takeOneSquareMore_59 : decode cX4_takeOneSquareMore 59 = .ok (.return_, 1) := by decide +kernel

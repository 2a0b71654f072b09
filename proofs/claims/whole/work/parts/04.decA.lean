theorem dJ9_floorMod_f86c9_0 : decode cJ9_floorMod_f86c9 0 = .ok (.lload_n 0, 1) := by decide +kernel
theorem dJ9_floorMod_f86c9_1 : decode cJ9_floorMod_f86c9 1 = .ok (.lload_n 2, 1) := by decide +kernel
theorem dJ9_floorMod_f86c9_2 : decode cJ9_floorMod_f86c9 2 = .ok (.lrem, 1) := by decide +kernel
theorem dJ9_floorMod_f86c9_3 : decode cJ9_floorMod_f86c9 3 = .ok (.lstore 4, 2) := by decide +kernel
theorem dJ9_floorMod_f86c9_5 : decode cJ9_floorMod_f86c9 5 = .ok (.lload_n 0, 1) := by decide +kernel
theorem dJ9_floorMod_f86c9_6 : decode cJ9_floorMod_f86c9 6 = .ok (.lload_n 2, 1) := by decide +kernel
theorem dJ9_floorMod_f86c9_7 : decode cJ9_floorMod_f86c9 7 = .ok (.lxor, 1) := by decide +kernel
theorem dJ9_floorMod_f86c9_8 : decode cJ9_floorMod_f86c9 8 = .ok (.lconst 0, 1) := by decide +kernel
theorem dJ9_floorMod_f86c9_9 : decode cJ9_floorMod_f86c9 9 = .ok (.lcmp, 1) := by decide +kernel
theorem dJ9_floorMod_f86c9_10 : decode cJ9_floorMod_f86c9 10 = .ok (.ifCond .ge 15, 3) := by decide +kernel
theorem dJ9_floorMod_f86c9_13 : decode cJ9_floorMod_f86c9 13 = .ok (.lload 4, 2) := by decide +kernel
theorem dJ9_floorMod_f86c9_15 : decode cJ9_floorMod_f86c9 15 = .ok (.lconst 0, 1) := by decide +kernel
theorem dJ9_floorMod_f86c9_16 : decode cJ9_floorMod_f86c9 16 = .ok (.lcmp, 1) := by decide +kernel
theorem dJ9_floorMod_f86c9_17 : decode cJ9_floorMod_f86c9 17 = .ok (.ifCond .eq 8, 3) := by decide +kernel
theorem dJ9_floorMod_f86c9_20 : decode cJ9_floorMod_f86c9 20 = .ok (.lload 4, 2) := by decide +kernel
theorem dJ9_floorMod_f86c9_22 : decode cJ9_floorMod_f86c9 22 = .ok (.lload_n 2, 1) := by decide +kernel
theorem dJ9_floorMod_f86c9_23 : decode cJ9_floorMod_f86c9 23 = .ok (.ladd, 1) := by decide +kernel
theorem dJ9_floorMod_f86c9_24 : decode cJ9_floorMod_f86c9 24 = .ok (.lreturn, 1) := by decide +kernel
theorem dJ9_floorMod_f86c9_25 : decode cJ9_floorMod_f86c9 25 = .ok (.lload 4, 2) := by decide +kernel
theorem dJ9_floorMod_f86c9_27 : decode cJ9_floorMod_f86c9 27 = .ok (.lreturn, 1) := by decide +kernel
theorem dJ9_max_7cf53_0 : decode cJ9_max_7cf53 0 = .ok (.iload_n 0, 1) := by decide +kernel
theorem dJ9_max_7cf53_1 : decode cJ9_max_7cf53 1 = .ok (.iload_n 1, 1) := by decide +kernel
theorem dJ9_max_7cf53_2 : decode cJ9_max_7cf53 2 = .ok (.if_icmp .lt 7, 3) := by decide +kernel
theorem dJ9_max_7cf53_5 : decode cJ9_max_7cf53 5 = .ok (.iload_n 0, 1) := by decide +kernel
theorem dJ9_max_7cf53_6 : decode cJ9_max_7cf53 6 = .ok (.goto 4, 3) := by decide +kernel
theorem dJ9_max_7cf53_9 : decode cJ9_max_7cf53 9 = .ok (.iload_n 1, 1) := by decide +kernel
theorem dJ9_max_7cf53_10 : decode cJ9_max_7cf53 10 = .ok (.ireturn, 1) := by decide +kernel
theorem dX0_init_0 : decode cX0_init 0 = .ok (.aload_n 0, 1) := by decide +kernel
theorem dX0_init_1 : decode cX0_init 1 = .ok (.invokespecial 3, 3) := by decide +kernel
theorem dX0_init_4 : decode cX0_init 4 = .ok (.aload_n 0, 1) := by decide +kernel
theorem dX0_init_5 : decode cX0_init 5 = .ok (.ldc2_w 9, 3) := by decide +kernel
theorem dX0_init_8 : decode cX0_init 8 = .ok (.invokestatic 11, 3) := by decide +kernel
theorem dX0_init_11 : decode cX0_init 11 = .ok (.iconst 1, 1) := by decide +kernel
theorem dX0_init_12 : decode cX0_init 12 = .ok (.invokestatic 17, 3) := by decide +kernel
theorem dX0_init_15 : decode cX0_init 15 = .ok (.putfield 23, 3) := by decide +kernel
theorem dX0_init_18 : decode cX0_init 18 = .ok (.aload_n 0, 1) := by decide +kernel
theorem dX0_init_19 : decode cX0_init 19 = .ok (.invokestatic 29, 3) := by decide +kernel
theorem dX0_init_22 : decode cX0_init 22 = .ok (.putfield 33, 3) := by decide +kernel
theorem dX0_init_25 : decode cX0_init 25 = .ok (.aload_n 0, 1) := by decide +kernel
theorem dX0_init_26 : decode cX0_init 26 = .ok (.ldc2_w 36, 3) := by decide +kernel
theorem dX0_init_29 : decode cX0_init 29 = .ok (.iconst 3, 1) := by decide +kernel
theorem dX0_init_30 : decode cX0_init 30 = .ok (.invokestatic 17, 3) := by decide +kernel
theorem dX0_init_33 : decode cX0_init 33 = .ok (.putfield 38, 3) := by decide +kernel
theorem dX0_init_36 : decode cX0_init 36 = .ok (.aload_n 0, 1) := by decide +kernel
theorem dX0_init_37 : decode cX0_init 37 = .ok (.ldc2_w 41, 3) := by decide +kernel
theorem dX0_init_40 : decode cX0_init 40 = .ok (.invokestatic 11, 3) := by decide +kernel
theorem dX0_init_43 : decode cX0_init 43 = .ok (.iconst 5, 1) := by decide +kernel
theorem dX0_init_44 : decode cX0_init 44 = .ok (.invokestatic 17, 3) := by decide +kernel
theorem dX0_init_47 : decode cX0_init 47 = .ok (.putfield 43, 3) := by decide +kernel
theorem dX0_init_50 : decode cX0_init 50 = .ok (.aload_n 0, 1) := by decide +kernel
theorem dX0_init_51 : decode cX0_init 51 = .ok (.bipush 21, 2) := by decide +kernel
theorem dX0_init_53 : decode cX0_init 53 = .ok (.newarray .int, 2) := by decide +kernel
theorem dX0_init_55 : decode cX0_init 55 = .ok (.putfield 46, 3) := by decide +kernel
theorem dX0_init_58 : decode cX0_init 58 = .ok (.aload_n 0, 1) := by decide +kernel
theorem dX0_init_59 : decode cX0_init 59 = .ok (.bipush 21, 2) := by decide +kernel
theorem dX0_init_61 : decode cX0_init 61 = .ok (.newarray .int, 2) := by decide +kernel
theorem dX0_init_63 : decode cX0_init 63 = .ok (.putfield 50, 3) := by decide +kernel
theorem dX0_init_66 : decode cX0_init 66 = .ok (.iconst 0, 1) := by decide +kernel
theorem dX0_init_67 : decode cX0_init 67 = .ok (.istore_n 1, 1) := by decide +kernel
theorem dX0_init_68 : decode cX0_init 68 = .ok (.iconst 0, 1) := by decide +kernel
theorem dX0_init_69 : decode cX0_init 69 = .ok (.istore_n 2, 1) := by decide +kernel
theorem dX0_init_70 : decode cX0_init 70 = .ok (.iload_n 2, 1) := by decide +kernel
theorem dX0_init_71 : decode cX0_init 71 = .ok (.aload_n 0, 1) := by decide +kernel
theorem dX0_init_72 : decode cX0_init 72 = .ok (.getfield 46, 3) := by decide +kernel
theorem dX0_init_75 : decode cX0_init 75 = .ok (.arraylength, 1) := by decide +kernel
theorem dX0_init_76 : decode cX0_init 76 = .ok (.if_icmp .ge 37, 3) := by decide +kernel
theorem dX0_init_79 : decode cX0_init 79 = .ok (.aload_n 0, 1) := by decide +kernel
theorem dX0_init_80 : decode cX0_init 80 = .ok (.getfield 50, 3) := by decide +kernel
theorem dX0_init_83 : decode cX0_init 83 = .ok (.iload_n 2, 1) := by decide +kernel
theorem dX0_init_84 : decode cX0_init 84 = .ok (.iload_n 1, 1) := by decide +kernel
theorem dX0_init_85 : decode cX0_init 85 = .ok (.iastore, 1) := by decide +kernel
theorem dX0_init_86 : decode cX0_init 86 = .ok (.aload_n 0, 1) := by decide +kernel
theorem dX0_init_87 : decode cX0_init 87 = .ok (.getfield 46, 3) := by decide +kernel
theorem dX0_init_90 : decode cX0_init 90 = .ok (.iload_n 2, 1) := by decide +kernel
theorem dX0_init_91 : decode cX0_init 91 = .ok (.iconst 2, 1) := by decide +kernel
theorem dX0_init_92 : decode cX0_init 92 = .ok (.iload_n 2, 1) := by decide +kernel
theorem dX0_init_93 : decode cX0_init 93 = .ok (.imul, 1) := by decide +kernel
theorem dX0_init_94 : decode cX0_init 94 = .ok (.invokestatic 53, 3) := by decide +kernel
theorem dX0_init_97 : decode cX0_init 97 = .ok (.iastore, 1) := by decide +kernel
theorem dX0_init_98 : decode cX0_init 98 = .ok (.iload_n 1, 1) := by decide +kernel
theorem dX0_init_99 : decode cX0_init 99 = .ok (.aload_n 0, 1) := by decide +kernel
theorem dX0_init_100 : decode cX0_init 100 = .ok (.getfield 46, 3) := by decide +kernel
theorem dX0_init_103 : decode cX0_init 103 = .ok (.iload_n 2, 1) := by decide +kernel
theorem dX0_init_104 : decode cX0_init 104 = .ok (.iaload, 1) := by decide +kernel
theorem dX0_init_105 : decode cX0_init 105 = .ok (.iadd, 1) := by decide +kernel
theorem dX0_init_106 : decode cX0_init 106 = .ok (.istore_n 1, 1) := by decide +kernel
theorem dX0_init_107 : decode cX0_init 107 = .ok (.iinc 2 1, 3) := by decide +kernel
theorem dX0_init_110 : decode cX0_init 110 = .ok (.goto (-40), 3) := by decide +kernel
theorem dX0_init_113 : decode cX0_init 113 = .ok (.aload_n 0, 1) := by decide +kernel
theorem dX0_init_114 : decode cX0_init 114 = .ok (.iload_n 1, 1) := by decide +kernel
theorem dX0_init_115 : decode cX0_init 115 = .ok (.bipush 48, 2) := by decide +kernel
theorem dX0_init_117 : decode cX0_init 117 = .ok (.multianewarray 57 2, 4) := by decide +kernel
theorem dX0_init_121 : decode cX0_init 121 = .ok (.putfield 59, 3) := by decide +kernel
theorem dX0_init_124 : decode cX0_init 124 = .ok (.return_, 1) := by decide +kernel
theorem dX0_countSize_0 : decode cX0_countSize 0 = .ok (.iconst 0, 1) := by decide +kernel
theorem dX0_countSize_1 : decode cX0_countSize 1 = .ok (.istore_n 1, 1) := by decide +kernel
theorem dX0_countSize_2 : decode cX0_countSize 2 = .ok (.iload_n 0, 1) := by decide +kernel
theorem dX0_countSize_3 : decode cX0_countSize 3 = .ok (.istore_n 2, 1) := by decide +kernel
theorem dX0_countSize_4 : decode cX0_countSize 4 = .ok (.iload_n 2, 1) := by decide +kernel
theorem dX0_countSize_5 : decode cX0_countSize 5 = .ok (.ifCond .lt 17, 3) := by decide +kernel
theorem dX0_countSize_8 : decode cX0_countSize 8 = .ok (.iload_n 2, 1) := by decide +kernel
theorem dX0_countSize_9 : decode cX0_countSize 9 = .ok (.iconst 2, 1) := by decide +kernel
theorem dX0_countSize_10 : decode cX0_countSize 10 = .ok (.if_icmp .eq 6, 3) := by decide +kernel
theorem dX0_countSize_13 : decode cX0_countSize 13 = .ok (.iinc 1 1, 3) := by decide +kernel
theorem dX0_countSize_16 : decode cX0_countSize 16 = .ok (.iinc 2 (-12), 3) := by decide +kernel
theorem dX0_countSize_19 : decode cX0_countSize 19 = .ok (.goto (-15), 3) := by decide +kernel
theorem dX0_countSize_22 : decode cX0_countSize 22 = .ok (.iload_n 1, 1) := by decide +kernel
theorem dX0_countSize_23 : decode cX0_countSize 23 = .ok (.ireturn, 1) := by decide +kernel
theorem dX0_sizeOf_0 : decode cX0_sizeOf 0 = .ok (.aload_n 0, 1) := by decide +kernel
theorem dX0_sizeOf_1 : decode cX0_sizeOf 1 = .ok (.getfield 46, 3) := by decide +kernel
theorem dX0_sizeOf_4 : decode cX0_sizeOf 4 = .ok (.iload_n 1, 1) := by decide +kernel
theorem dX0_sizeOf_5 : decode cX0_sizeOf 5 = .ok (.iconst 2, 1) := by decide +kernel
theorem dX0_sizeOf_6 : decode cX0_sizeOf 6 = .ok (.idiv, 1) := by decide +kernel
theorem dX0_sizeOf_7 : decode cX0_sizeOf 7 = .ok (.iaload, 1) := by decide +kernel
theorem dX0_sizeOf_8 : decode cX0_sizeOf 8 = .ok (.ireturn, 1) := by decide +kernel
theorem dX0_rowOf_0 : decode cX0_rowOf 0 = .ok (.aload_n 0, 1) := by decide +kernel
theorem dX0_rowOf_1 : decode cX0_rowOf 1 = .ok (.getfield 62, 3) := by decide +kernel
theorem dX0_rowOf_4 : decode cX0_rowOf 4 = .ok (.istore_n 3, 1) := by decide +kernel
theorem dX0_rowOf_5 : decode cX0_rowOf 5 = .ok (.iload_n 3, 1) := by decide +kernel
theorem dX0_rowOf_6 : decode cX0_rowOf 6 = .ok (.iload_n 1, 1) := by decide +kernel
theorem dX0_rowOf_7 : decode cX0_rowOf 7 = .ok (.if_icmp .gt 14, 3) := by decide +kernel
theorem dX0_rowOf_10 : decode cX0_rowOf 10 = .ok (.aload_n 0, 1) := by decide +kernel
theorem dX0_rowOf_11 : decode cX0_rowOf 11 = .ok (.iload_n 3, 1) := by decide +kernel
theorem dX0_rowOf_12 : decode cX0_rowOf 12 = .ok (.invokevirtual 66, 3) := by decide +kernel
theorem dX0_rowOf_15 : decode cX0_rowOf 15 = .ok (.iinc 3 2, 3) := by decide +kernel
theorem dX0_rowOf_18 : decode cX0_rowOf 18 = .ok (.goto (-13), 3) := by decide +kernel
theorem dX0_rowOf_21 : decode cX0_rowOf 21 = .ok (.aload_n 0, 1) := by decide +kernel
theorem dX0_rowOf_22 : decode cX0_rowOf 22 = .ok (.aload_n 0, 1) := by decide +kernel
theorem dX0_rowOf_23 : decode cX0_rowOf 23 = .ok (.getfield 62, 3) := by decide +kernel
theorem dX0_rowOf_26 : decode cX0_rowOf 26 = .ok (.iload_n 1, 1) := by decide +kernel
theorem dX0_rowOf_27 : decode cX0_rowOf 27 = .ok (.iconst 2, 1) := by decide +kernel
theorem dX0_rowOf_28 : decode cX0_rowOf 28 = .ok (.iadd, 1) := by decide +kernel
theorem dX0_rowOf_29 : decode cX0_rowOf 29 = .ok (.invokestatic 70, 3) := by decide +kernel
theorem dX0_rowOf_32 : decode cX0_rowOf 32 = .ok (.putfield 62, 3) := by decide +kernel
theorem dX0_rowOf_35 : decode cX0_rowOf 35 = .ok (.aload_n 0, 1) := by decide +kernel
theorem dX0_rowOf_36 : decode cX0_rowOf 36 = .ok (.getfield 59, 3) := by decide +kernel
theorem dX0_rowOf_39 : decode cX0_rowOf 39 = .ok (.aload_n 0, 1) := by decide +kernel
theorem dX0_rowOf_40 : decode cX0_rowOf 40 = .ok (.getfield 50, 3) := by decide +kernel
theorem dX0_rowOf_43 : decode cX0_rowOf 43 = .ok (.iload_n 1, 1) := by decide +kernel
theorem dX0_rowOf_44 : decode cX0_rowOf 44 = .ok (.iconst 2, 1) := by decide +kernel
theorem dX0_rowOf_45 : decode cX0_rowOf 45 = .ok (.idiv, 1) := by decide +kernel
theorem dX0_rowOf_46 : decode cX0_rowOf 46 = .ok (.iaload, 1) := by decide +kernel
theorem dX0_rowOf_47 : decode cX0_rowOf 47 = .ok (.iload_n 2, 1) := by decide +kernel
theorem dX0_rowOf_48 : decode cX0_rowOf 48 = .ok (.iadd, 1) := by decide +kernel
theorem dX0_rowOf_49 : decode cX0_rowOf 49 = .ok (.aaload, 1) := by decide +kernel
theorem dX0_rowOf_50 : decode cX0_rowOf 50 = .ok (.areturn, 1) := by decide +kernel
theorem dX0_makeRows_0 : decode cX0_makeRows 0 = .ok (.aload_n 0, 1) := by decide +kernel
theorem dX0_makeRows_1 : decode cX0_makeRows 1 = .ok (.getfield 50, 3) := by decide +kernel
theorem dX0_makeRows_4 : decode cX0_makeRows 4 = .ok (.iload_n 1, 1) := by decide +kernel
theorem dX0_makeRows_5 : decode cX0_makeRows 5 = .ok (.iconst 2, 1) := by decide +kernel
theorem dX0_makeRows_6 : decode cX0_makeRows 6 = .ok (.idiv, 1) := by decide +kernel
theorem dX0_makeRows_7 : decode cX0_makeRows 7 = .ok (.iaload, 1) := by decide +kernel
theorem dX0_makeRows_8 : decode cX0_makeRows 8 = .ok (.istore_n 2, 1) := by decide +kernel
theorem dX0_makeRows_9 : decode cX0_makeRows 9 = .ok (.iconst 0, 1) := by decide +kernel
theorem dX0_makeRows_10 : decode cX0_makeRows 10 = .ok (.istore_n 3, 1) := by decide +kernel
theorem dX0_makeRows_11 : decode cX0_makeRows 11 = .ok (.iload_n 3, 1) := by decide +kernel
theorem dX0_makeRows_12 : decode cX0_makeRows 12 = .ok (.aload_n 0, 1) := by decide +kernel
theorem dX0_makeRows_13 : decode cX0_makeRows 13 = .ok (.iload_n 1, 1) := by decide +kernel
theorem dX0_makeRows_14 : decode cX0_makeRows 14 = .ok (.invokevirtual 76, 3) := by decide +kernel
theorem dX0_makeRows_17 : decode cX0_makeRows 17 = .ok (.if_icmp .ge 121, 3) := by decide +kernel
theorem dX0_makeRows_20 : decode cX0_makeRows 20 = .ok (.iload_n 3, 1) := by decide +kernel
theorem dX0_makeRows_21 : decode cX0_makeRows 21 = .ok (.ifCond .le 41, 3) := by decide +kernel
theorem dX0_makeRows_24 : decode cX0_makeRows 24 = .ok (.aload_n 0, 1) := by decide +kernel
theorem dX0_makeRows_25 : decode cX0_makeRows 25 = .ok (.getfield 33, 3) := by decide +kernel
theorem dX0_makeRows_28 : decode cX0_makeRows 28 = .ok (.aload_n 0, 1) := by decide +kernel
theorem dX0_makeRows_29 : decode cX0_makeRows 29 = .ok (.getfield 59, 3) := by decide +kernel
theorem dX0_makeRows_32 : decode cX0_makeRows 32 = .ok (.aload_n 0, 1) := by decide +kernel
theorem dX0_makeRows_33 : decode cX0_makeRows 33 = .ok (.getfield 50, 3) := by decide +kernel
theorem dX0_makeRows_36 : decode cX0_makeRows 36 = .ok (.iload_n 1, 1) := by decide +kernel
theorem dX0_makeRows_37 : decode cX0_makeRows 37 = .ok (.bipush 12, 2) := by decide +kernel
theorem dX0_makeRows_39 : decode cX0_makeRows 39 = .ok (.isub, 1) := by decide +kernel
theorem dX0_makeRows_40 : decode cX0_makeRows 40 = .ok (.iconst 2, 1) := by decide +kernel
theorem dX0_makeRows_41 : decode cX0_makeRows 41 = .ok (.idiv, 1) := by decide +kernel
theorem dX0_makeRows_42 : decode cX0_makeRows 42 = .ok (.iaload, 1) := by decide +kernel
theorem dX0_makeRows_43 : decode cX0_makeRows 43 = .ok (.iload_n 3, 1) := by decide +kernel
theorem dX0_makeRows_44 : decode cX0_makeRows 44 = .ok (.iadd, 1) := by decide +kernel
theorem dX0_makeRows_45 : decode cX0_makeRows 45 = .ok (.iconst 1, 1) := by decide +kernel
theorem dX0_makeRows_46 : decode cX0_makeRows 46 = .ok (.isub, 1) := by decide +kernel
theorem dX0_makeRows_47 : decode cX0_makeRows 47 = .ok (.aaload, 1) := by decide +kernel
theorem dX0_makeRows_48 : decode cX0_makeRows 48 = .ok (.aload_n 0, 1) := by decide +kernel
theorem dX0_makeRows_49 : decode cX0_makeRows 49 = .ok (.getfield 59, 3) := by decide +kernel
theorem dX0_makeRows_52 : decode cX0_makeRows 52 = .ok (.iload_n 2, 1) := by decide +kernel
theorem dX0_makeRows_53 : decode cX0_makeRows 53 = .ok (.iload_n 3, 1) := by decide +kernel
theorem dX0_makeRows_54 : decode cX0_makeRows 54 = .ok (.iadd, 1) := by decide +kernel
theorem dX0_makeRows_55 : decode cX0_makeRows 55 = .ok (.aaload, 1) := by decide +kernel
theorem dX0_makeRows_56 : decode cX0_makeRows 56 = .ok (.invokestatic 79, 3) := by decide +kernel
theorem dX0_makeRows_59 : decode cX0_makeRows 59 = .ok (.goto 73, 3) := by decide +kernel
theorem dX0_makeRows_62 : decode cX0_makeRows 62 = .ok (.iload_n 1, 1) := by decide +kernel
theorem dX0_makeRows_63 : decode cX0_makeRows 63 = .ok (.ifCond .ne 15, 3) := by decide +kernel
theorem dX0_makeRows_66 : decode cX0_makeRows 66 = .ok (.aload_n 0, 1) := by decide +kernel
theorem dX0_makeRows_67 : decode cX0_makeRows 67 = .ok (.getfield 59, 3) := by decide +kernel
theorem dX0_makeRows_70 : decode cX0_makeRows 70 = .ok (.iload_n 2, 1) := by decide +kernel
theorem dX0_makeRows_71 : decode cX0_makeRows 71 = .ok (.aaload, 1) := by decide +kernel
theorem dX0_makeRows_72 : decode cX0_makeRows 72 = .ok (.invokestatic 83, 3) := by decide +kernel
theorem dX0_makeRows_75 : decode cX0_makeRows 75 = .ok (.goto 57, 3) := by decide +kernel
theorem dX0_makeRows_78 : decode cX0_makeRows 78 = .ok (.iload_n 1, 1) := by decide +kernel
theorem dX0_makeRows_79 : decode cX0_makeRows 79 = .ok (.bipush 6, 2) := by decide +kernel
theorem dX0_makeRows_81 : decode cX0_makeRows 81 = .ok (.if_icmp .ne 23, 3) := by decide +kernel
theorem dX0_makeRows_84 : decode cX0_makeRows 84 = .ok (.aload_n 0, 1) := by decide +kernel
theorem dX0_makeRows_85 : decode cX0_makeRows 85 = .ok (.getfield 43, 3) := by decide +kernel
theorem dX0_makeRows_88 : decode cX0_makeRows 88 = .ok (.iconst 0, 1) := by decide +kernel
theorem dX0_makeRows_89 : decode cX0_makeRows 89 = .ok (.aload_n 0, 1) := by decide +kernel
theorem dX0_makeRows_90 : decode cX0_makeRows 90 = .ok (.getfield 59, 3) := by decide +kernel
theorem dX0_makeRows_93 : decode cX0_makeRows 93 = .ok (.iload_n 2, 1) := by decide +kernel
theorem dX0_makeRows_94 : decode cX0_makeRows 94 = .ok (.aaload, 1) := by decide +kernel
theorem dX0_makeRows_95 : decode cX0_makeRows 95 = .ok (.iconst 0, 1) := by decide +kernel
theorem dX0_makeRows_96 : decode cX0_makeRows 96 = .ok (.bipush 48, 2) := by decide +kernel
theorem dX0_makeRows_98 : decode cX0_makeRows 98 = .ok (.invokestatic 87, 3) := by decide +kernel
theorem dX0_makeRows_101 : decode cX0_makeRows 101 = .ok (.goto 31, 3) := by decide +kernel
theorem dX0_makeRows_104 : decode cX0_makeRows 104 = .ok (.aload_n 0, 1) := by decide +kernel
theorem dX0_makeRows_105 : decode cX0_makeRows 105 = .ok (.getfield 38, 3) := by decide +kernel
theorem dX0_makeRows_108 : decode cX0_makeRows 108 = .ok (.aload_n 0, 1) := by decide +kernel
theorem dX0_makeRows_109 : decode cX0_makeRows 109 = .ok (.getfield 59, 3) := by decide +kernel
theorem dX0_makeRows_112 : decode cX0_makeRows 112 = .ok (.aload_n 0, 1) := by decide +kernel
theorem dX0_makeRows_113 : decode cX0_makeRows 113 = .ok (.getfield 50, 3) := by decide +kernel
theorem dX0_makeRows_116 : decode cX0_makeRows 116 = .ok (.iload_n 1, 1) := by decide +kernel
theorem dX0_makeRows_117 : decode cX0_makeRows 117 = .ok (.iconst 4, 1) := by decide +kernel
theorem dX0_makeRows_118 : decode cX0_makeRows 118 = .ok (.isub, 1) := by decide +kernel
theorem dX0_makeRows_119 : decode cX0_makeRows 119 = .ok (.iconst 2, 1) := by decide +kernel
theorem dX0_makeRows_120 : decode cX0_makeRows 120 = .ok (.idiv, 1) := by decide +kernel
theorem dX0_makeRows_121 : decode cX0_makeRows 121 = .ok (.iaload, 1) := by decide +kernel
theorem dX0_makeRows_122 : decode cX0_makeRows 122 = .ok (.aaload, 1) := by decide +kernel
theorem dX0_makeRows_123 : decode cX0_makeRows 123 = .ok (.aload_n 0, 1) := by decide +kernel
theorem dX0_makeRows_124 : decode cX0_makeRows 124 = .ok (.getfield 59, 3) := by decide +kernel
theorem dX0_makeRows_127 : decode cX0_makeRows 127 = .ok (.iload_n 2, 1) := by decide +kernel
theorem dX0_makeRows_128 : decode cX0_makeRows 128 = .ok (.aaload, 1) := by decide +kernel
theorem dX0_makeRows_129 : decode cX0_makeRows 129 = .ok (.invokestatic 79, 3) := by decide +kernel
theorem dX0_makeRows_132 : decode cX0_makeRows 132 = .ok (.iinc 3 1, 3) := by decide +kernel
theorem dX0_makeRows_135 : decode cX0_makeRows 135 = .ok (.goto (-124), 3) := by decide +kernel
theorem dX0_makeRows_138 : decode cX0_makeRows 138 = .ok (.return_, 1) := by decide +kernel
theorem dX0_findParts_0 : decode cX0_findParts 0 = .ok (.iconst 0, 1) := by decide +kernel
theorem dX0_findParts_1 : decode cX0_findParts 1 = .ok (.istore 4, 2) := by decide +kernel
theorem dX0_findParts_3 : decode cX0_findParts 3 = .ok (.iload 4, 2) := by decide +kernel
theorem dX0_findParts_5 : decode cX0_findParts 5 = .ok (.aload_n 0, 1) := by decide +kernel
theorem dX0_findParts_6 : decode cX0_findParts 6 = .ok (.iload_n 1, 1) := by decide +kernel
theorem dX0_findParts_7 : decode cX0_findParts 7 = .ok (.invokevirtual 76, 3) := by decide +kernel
theorem dX0_findParts_10 : decode cX0_findParts 10 = .ok (.if_icmp .ge 60, 3) := by decide +kernel
theorem dX0_findParts_13 : decode cX0_findParts 13 = .ok (.aload_n 2, 1) := by decide +kernel
theorem dX0_findParts_14 : decode cX0_findParts 14 = .ok (.iload 4, 2) := by decide +kernel
theorem dX0_findParts_16 : decode cX0_findParts 16 = .ok (.laload, 1) := by decide +kernel
theorem dX0_findParts_17 : decode cX0_findParts 17 = .ok (.lstore 5, 2) := by decide +kernel
theorem dX0_findParts_19 : decode cX0_findParts 19 = .ok (.iconst 0, 1) := by decide +kernel
theorem dX0_findParts_20 : decode cX0_findParts 20 = .ok (.istore 7, 2) := by decide +kernel
theorem dX0_findParts_22 : decode cX0_findParts 22 = .ok (.iload 7, 2) := by decide +kernel
theorem dX0_findParts_24 : decode cX0_findParts 24 = .ok (.iload 4, 2) := by decide +kernel
theorem dX0_findParts_26 : decode cX0_findParts 26 = .ok (.if_icmp .ge 29, 3) := by decide +kernel
theorem dX0_findParts_29 : decode cX0_findParts 29 = .ok (.lload 5, 2) := by decide +kernel
theorem dX0_findParts_31 : decode cX0_findParts 31 = .ok (.aload_n 3, 1) := by decide +kernel
theorem dX0_findParts_32 : decode cX0_findParts 32 = .ok (.iload 7, 2) := by decide +kernel
theorem dX0_findParts_34 : decode cX0_findParts 34 = .ok (.laload, 1) := by decide +kernel
theorem dX0_findParts_35 : decode cX0_findParts 35 = .ok (.aload_n 0, 1) := by decide +kernel
theorem dX0_findParts_36 : decode cX0_findParts 36 = .ok (.iload_n 1, 1) := by decide +kernel
theorem dX0_findParts_37 : decode cX0_findParts 37 = .ok (.iload 7, 2) := by decide +kernel
theorem dX0_findParts_39 : decode cX0_findParts 39 = .ok (.invokevirtual 93, 3) := by decide +kernel
theorem dX0_findParts_42 : decode cX0_findParts 42 = .ok (.iload 4, 2) := by decide +kernel
theorem dX0_findParts_44 : decode cX0_findParts 44 = .ok (.laload, 1) := by decide +kernel
theorem dX0_findParts_45 : decode cX0_findParts 45 = .ok (.lmul, 1) := by decide +kernel
theorem dX0_findParts_46 : decode cX0_findParts 46 = .ok (.lsub, 1) := by decide +kernel
theorem dX0_findParts_47 : decode cX0_findParts 47 = .ok (.lstore 5, 2) := by decide +kernel
theorem dX0_findParts_49 : decode cX0_findParts 49 = .ok (.iinc 7 1, 3) := by decide +kernel
theorem dX0_findParts_52 : decode cX0_findParts 52 = .ok (.goto (-30), 3) := by decide +kernel
theorem dX0_findParts_55 : decode cX0_findParts 55 = .ok (.aload_n 3, 1) := by decide +kernel
theorem dX0_findParts_56 : decode cX0_findParts 56 = .ok (.iload 4, 2) := by decide +kernel
theorem dX0_findParts_58 : decode cX0_findParts 58 = .ok (.lload 5, 2) := by decide +kernel
theorem dX0_findParts_60 : decode cX0_findParts 60 = .ok (.invokestatic 11, 3) := by decide +kernel
theorem dX0_findParts_63 : decode cX0_findParts 63 = .ok (.lastore, 1) := by decide +kernel
theorem dX0_findParts_64 : decode cX0_findParts 64 = .ok (.iinc 4 1, 3) := by decide +kernel
theorem dX0_findParts_67 : decode cX0_findParts 67 = .ok (.goto (-64), 3) := by decide +kernel
theorem dX0_findParts_70 : decode cX0_findParts 70 = .ok (.return_, 1) := by decide +kernel
theorem dX0_join_0 : decode cX0_join 0 = .ok (.iconst 0, 1) := by decide +kernel
theorem dX0_join_1 : decode cX0_join 1 = .ok (.istore 4, 2) := by decide +kernel
theorem dX0_join_3 : decode cX0_join 3 = .ok (.iload 4, 2) := by decide +kernel
theorem dX0_join_5 : decode cX0_join 5 = .ok (.bipush 48, 2) := by decide +kernel
theorem dX0_join_7 : decode cX0_join 7 = .ok (.if_icmp .ge 61, 3) := by decide +kernel
theorem dX0_join_10 : decode cX0_join 10 = .ok (.lconst 0, 1) := by decide +kernel
theorem dX0_join_11 : decode cX0_join 11 = .ok (.lstore 5, 2) := by decide +kernel
theorem dX0_join_13 : decode cX0_join 13 = .ok (.iconst 0, 1) := by decide +kernel
theorem dX0_join_14 : decode cX0_join 14 = .ok (.istore 7, 2) := by decide +kernel
theorem dX0_join_16 : decode cX0_join 16 = .ok (.iload 7, 2) := by decide +kernel
theorem dX0_join_18 : decode cX0_join 18 = .ok (.aload_n 0, 1) := by decide +kernel
theorem dX0_join_19 : decode cX0_join 19 = .ok (.iload_n 1, 1) := by decide +kernel
theorem dX0_join_20 : decode cX0_join 20 = .ok (.invokevirtual 76, 3) := by decide +kernel
theorem dX0_join_23 : decode cX0_join 23 = .ok (.if_icmp .ge 29, 3) := by decide +kernel
theorem dX0_join_26 : decode cX0_join 26 = .ok (.lload 5, 2) := by decide +kernel
theorem dX0_join_28 : decode cX0_join 28 = .ok (.aload_n 2, 1) := by decide +kernel
theorem dX0_join_29 : decode cX0_join 29 = .ok (.iload 7, 2) := by decide +kernel
theorem dX0_join_31 : decode cX0_join 31 = .ok (.laload, 1) := by decide +kernel
theorem dX0_join_32 : decode cX0_join 32 = .ok (.aload_n 0, 1) := by decide +kernel
theorem dX0_join_33 : decode cX0_join 33 = .ok (.iload_n 1, 1) := by decide +kernel
theorem dX0_join_34 : decode cX0_join 34 = .ok (.iload 7, 2) := by decide +kernel
theorem dX0_join_36 : decode cX0_join 36 = .ok (.invokevirtual 93, 3) := by decide +kernel
theorem dX0_join_39 : decode cX0_join 39 = .ok (.iload 4, 2) := by decide +kernel
theorem dX0_join_41 : decode cX0_join 41 = .ok (.laload, 1) := by decide +kernel
theorem dX0_join_42 : decode cX0_join 42 = .ok (.lmul, 1) := by decide +kernel
theorem dX0_join_43 : decode cX0_join 43 = .ok (.ladd, 1) := by decide +kernel
theorem dX0_join_44 : decode cX0_join 44 = .ok (.lstore 5, 2) := by decide +kernel
theorem dX0_join_46 : decode cX0_join 46 = .ok (.iinc 7 1, 3) := by decide +kernel
theorem dX0_join_49 : decode cX0_join 49 = .ok (.goto (-33), 3) := by decide +kernel
theorem dX0_join_52 : decode cX0_join 52 = .ok (.aload_n 3, 1) := by decide +kernel
theorem dX0_join_53 : decode cX0_join 53 = .ok (.iload 4, 2) := by decide +kernel
theorem dX0_join_55 : decode cX0_join 55 = .ok (.lload 5, 2) := by decide +kernel
theorem dX0_join_57 : decode cX0_join 57 = .ok (.ldc2_w 97, 3) := by decide +kernel
theorem dX0_join_60 : decode cX0_join 60 = .ok (.lrem, 1) := by decide +kernel
theorem dX0_join_61 : decode cX0_join 61 = .ok (.lastore, 1) := by decide +kernel
theorem dX0_join_62 : decode cX0_join 62 = .ok (.iinc 4 1, 3) := by decide +kernel
theorem dX0_join_65 : decode cX0_join 65 = .ok (.goto (-62), 3) := by decide +kernel
theorem dX0_join_68 : decode cX0_join 68 = .ok (.return_, 1) := by decide +kernel
theorem dX0_putImage_0 : decode cX0_putImage 0 = .ok (.iload_n 3, 1) := by decide +kernel
theorem dX0_putImage_1 : decode cX0_putImage 1 = .ok (.i2l, 1) := by decide +kernel
theorem dX0_putImage_2 : decode cX0_putImage 2 = .ok (.iload_n 1, 1) := by decide +kernel
theorem dX0_putImage_3 : decode cX0_putImage 3 = .ok (.iconst 1, 1) := by decide +kernel
theorem dX0_putImage_4 : decode cX0_putImage 4 = .ok (.isub, 1) := by decide +kernel
theorem dX0_putImage_5 : decode cX0_putImage 5 = .ok (.invokestatic 99, 3) := by decide +kernel
theorem dX0_putImage_8 : decode cX0_putImage 8 = .ok (.lstore 5, 2) := by decide +kernel
theorem dX0_putImage_10 : decode cX0_putImage 10 = .ok (.iconst 0, 1) := by decide +kernel
theorem dX0_putImage_11 : decode cX0_putImage 11 = .ok (.istore 7, 2) := by decide +kernel
theorem dX0_putImage_13 : decode cX0_putImage 13 = .ok (.iload 7, 2) := by decide +kernel
theorem dX0_putImage_15 : decode cX0_putImage 15 = .ok (.aload_n 0, 1) := by decide +kernel
theorem dX0_putImage_16 : decode cX0_putImage 16 = .ok (.iload_n 1, 1) := by decide +kernel
theorem dX0_putImage_17 : decode cX0_putImage 17 = .ok (.invokevirtual 76, 3) := by decide +kernel
theorem dX0_putImage_20 : decode cX0_putImage 20 = .ok (.if_icmp .ge 49, 3) := by decide +kernel
theorem dX0_putImage_23 : decode cX0_putImage 23 = .ok (.iload 7, 2) := by decide +kernel
theorem dX0_putImage_25 : decode cX0_putImage 25 = .ok (.iload_n 3, 1) := by decide +kernel
theorem dX0_putImage_26 : decode cX0_putImage 26 = .ok (.irem, 1) := by decide +kernel
theorem dX0_putImage_27 : decode cX0_putImage 27 = .ok (.ifCond .ne 15, 3) := by decide +kernel
theorem dX0_putImage_30 : decode cX0_putImage 30 = .ok (.lload 5, 2) := by decide +kernel
theorem dX0_putImage_32 : decode cX0_putImage 32 = .ok (.aload_n 2, 1) := by decide +kernel
theorem dX0_putImage_33 : decode cX0_putImage 33 = .ok (.iload 7, 2) := by decide +kernel
theorem dX0_putImage_35 : decode cX0_putImage 35 = .ok (.iload_n 3, 1) := by decide +kernel
theorem dX0_putImage_36 : decode cX0_putImage 36 = .ok (.idiv, 1) := by decide +kernel
theorem dX0_putImage_37 : decode cX0_putImage 37 = .ok (.laload, 1) := by decide +kernel
theorem dX0_putImage_38 : decode cX0_putImage 38 = .ok (.lmul, 1) := by decide +kernel
theorem dX0_putImage_39 : decode cX0_putImage 39 = .ok (.goto 4, 3) := by decide +kernel
theorem dX0_putImage_42 : decode cX0_putImage 42 = .ok (.lconst 0, 1) := by decide +kernel
theorem dX0_putImage_43 : decode cX0_putImage 43 = .ok (.lstore 8, 2) := by decide +kernel
theorem dX0_putImage_45 : decode cX0_putImage 45 = .ok (.aload 4, 2) := by decide +kernel
theorem dX0_putImage_47 : decode cX0_putImage 47 = .ok (.iload 7, 2) := by decide +kernel
theorem dX0_putImage_49 : decode cX0_putImage 49 = .ok (.aload_n 2, 1) := by decide +kernel
theorem dX0_putImage_50 : decode cX0_putImage 50 = .ok (.iload_n 3, 1) := by decide +kernel
theorem dX0_putImage_51 : decode cX0_putImage 51 = .ok (.iload 7, 2) := by decide +kernel
theorem dX0_putImage_53 : decode cX0_putImage 53 = .ok (.imul, 1) := by decide +kernel
theorem dX0_putImage_54 : decode cX0_putImage 54 = .ok (.laload, 1) := by decide +kernel
theorem dX0_putImage_55 : decode cX0_putImage 55 = .ok (.lload 8, 2) := by decide +kernel
theorem dX0_putImage_57 : decode cX0_putImage 57 = .ok (.ladd, 1) := by decide +kernel
theorem dX0_putImage_58 : decode cX0_putImage 58 = .ok (.ldc2_w 97, 3) := by decide +kernel
theorem dX0_putImage_61 : decode cX0_putImage 61 = .ok (.lrem, 1) := by decide +kernel
theorem dX0_putImage_62 : decode cX0_putImage 62 = .ok (.lastore, 1) := by decide +kernel
theorem dX0_putImage_63 : decode cX0_putImage 63 = .ok (.iinc 7 1, 3) := by decide +kernel
theorem dX0_putImage_66 : decode cX0_putImage 66 = .ok (.goto (-53), 3) := by decide +kernel
theorem dX0_putImage_69 : decode cX0_putImage 69 = .ok (.return_, 1) := by decide +kernel
theorem dX1_init_0 : decode cX1_init 0 = .ok (.aload_n 0, 1) := by decide +kernel
theorem dX1_init_1 : decode cX1_init 1 = .ok (.invokespecial 3, 3) := by decide +kernel
theorem dX1_init_4 : decode cX1_init 4 = .ok (.aload_n 0, 1) := by decide +kernel
theorem dX1_init_5 : decode cX1_init 5 = .ok (.bipush 48, 2) := by decide +kernel
theorem dX1_init_7 : decode cX1_init 7 = .ok (.newarray .long, 2) := by decide +kernel
theorem dX1_init_9 : decode cX1_init 9 = .ok (.putfield 9, 3) := by decide +kernel
theorem dX1_init_12 : decode cX1_init 12 = .ok (.return_, 1) := by decide +kernel
theorem dX1_putBracket_0 : decode cX1_putBracket 0 = .ok (.iconst 0, 1) := by decide +kernel
theorem dX1_putBracket_1 : decode cX1_putBracket 1 = .ok (.istore_n 3, 1) := by decide +kernel
theorem dX1_putBracket_2 : decode cX1_putBracket 2 = .ok (.iload_n 3, 1) := by decide +kernel
theorem dX1_putBracket_3 : decode cX1_putBracket 3 = .ok (.bipush 48, 2) := by decide +kernel
theorem dX1_putBracket_5 : decode cX1_putBracket 5 = .ok (.if_icmp .ge 82, 3) := by decide +kernel
theorem dX1_putBracket_8 : decode cX1_putBracket 8 = .ok (.lconst 0, 1) := by decide +kernel
theorem dX1_putBracket_9 : decode cX1_putBracket 9 = .ok (.lstore 4, 2) := by decide +kernel
theorem dX1_putBracket_11 : decode cX1_putBracket 11 = .ok (.iconst 0, 1) := by decide +kernel
theorem dX1_putBracket_12 : decode cX1_putBracket 12 = .ok (.istore 6, 2) := by decide +kernel
theorem dX1_putBracket_14 : decode cX1_putBracket 14 = .ok (.iload 6, 2) := by decide +kernel
theorem dX1_putBracket_16 : decode cX1_putBracket 16 = .ok (.iload_n 3, 1) := by decide +kernel
theorem dX1_putBracket_17 : decode cX1_putBracket 17 = .ok (.if_icmp .gt 56, 3) := by decide +kernel
theorem dX1_putBracket_20 : decode cX1_putBracket 20 = .ok (.iload_n 3, 1) := by decide +kernel
theorem dX1_putBracket_21 : decode cX1_putBracket 21 = .ok (.iload 6, 2) := by decide +kernel
theorem dX1_putBracket_23 : decode cX1_putBracket 23 = .ok (.isub, 1) := by decide +kernel
theorem dX1_putBracket_24 : decode cX1_putBracket 24 = .ok (.istore 7, 2) := by decide +kernel
theorem dX1_putBracket_26 : decode cX1_putBracket 26 = .ok (.lload 4, 2) := by decide +kernel
theorem dX1_putBracket_28 : decode cX1_putBracket 28 = .ok (.aload_n 0, 1) := by decide +kernel
theorem dX1_putBracket_29 : decode cX1_putBracket 29 = .ok (.getfield 9, 3) := by decide +kernel
theorem dX1_putBracket_32 : decode cX1_putBracket 32 = .ok (.iload 6, 2) := by decide +kernel
theorem dX1_putBracket_34 : decode cX1_putBracket 34 = .ok (.laload, 1) := by decide +kernel
theorem dX1_putBracket_35 : decode cX1_putBracket 35 = .ok (.aload_n 1, 1) := by decide +kernel
theorem dX1_putBracket_36 : decode cX1_putBracket 36 = .ok (.getfield 9, 3) := by decide +kernel
theorem dX1_putBracket_39 : decode cX1_putBracket 39 = .ok (.iload 7, 2) := by decide +kernel
theorem dX1_putBracket_41 : decode cX1_putBracket 41 = .ok (.laload, 1) := by decide +kernel
theorem dX1_putBracket_42 : decode cX1_putBracket 42 = .ok (.lmul, 1) := by decide +kernel
theorem dX1_putBracket_43 : decode cX1_putBracket 43 = .ok (.ldc2_w 15, 3) := by decide +kernel
theorem dX1_putBracket_46 : decode cX1_putBracket 46 = .ok (.lrem, 1) := by decide +kernel
theorem dX1_putBracket_47 : decode cX1_putBracket 47 = .ok (.aload_n 0, 1) := by decide +kernel
theorem dX1_putBracket_48 : decode cX1_putBracket 48 = .ok (.getfield 17, 3) := by decide +kernel
theorem dX1_putBracket_51 : decode cX1_putBracket 51 = .ok (.iload 7, 2) := by decide +kernel
theorem dX1_putBracket_53 : decode cX1_putBracket 53 = .ok (.imul, 1) := by decide +kernel
theorem dX1_putBracket_54 : decode cX1_putBracket 54 = .ok (.aload_n 1, 1) := by decide +kernel
theorem dX1_putBracket_55 : decode cX1_putBracket 55 = .ok (.getfield 17, 3) := by decide +kernel
theorem dX1_putBracket_58 : decode cX1_putBracket 58 = .ok (.iload 6, 2) := by decide +kernel
theorem dX1_putBracket_60 : decode cX1_putBracket 60 = .ok (.imul, 1) := by decide +kernel
theorem dX1_putBracket_61 : decode cX1_putBracket 61 = .ok (.isub, 1) := by decide +kernel
theorem dX1_putBracket_62 : decode cX1_putBracket 62 = .ok (.i2l, 1) := by decide +kernel
theorem dX1_putBracket_63 : decode cX1_putBracket 63 = .ok (.lmul, 1) := by decide +kernel
theorem dX1_putBracket_64 : decode cX1_putBracket 64 = .ok (.ladd, 1) := by decide +kernel
theorem dX1_putBracket_65 : decode cX1_putBracket 65 = .ok (.lstore 4, 2) := by decide +kernel
theorem dX1_putBracket_67 : decode cX1_putBracket 67 = .ok (.iinc 6 1, 3) := by decide +kernel
theorem dX1_putBracket_70 : decode cX1_putBracket 70 = .ok (.goto (-56), 3) := by decide +kernel
theorem dX1_putBracket_73 : decode cX1_putBracket 73 = .ok (.aload_n 2, 1) := by decide +kernel
theorem dX1_putBracket_74 : decode cX1_putBracket 74 = .ok (.iload_n 3, 1) := by decide +kernel
theorem dX1_putBracket_75 : decode cX1_putBracket 75 = .ok (.lload 4, 2) := by decide +kernel
theorem dX1_putBracket_77 : decode cX1_putBracket 77 = .ok (.invokestatic 21, 3) := by decide +kernel
theorem dX1_putBracket_80 : decode cX1_putBracket 80 = .ok (.lastore, 1) := by decide +kernel
theorem dX1_putBracket_81 : decode cX1_putBracket 81 = .ok (.iinc 3 1, 3) := by decide +kernel
theorem dX1_putBracket_84 : decode cX1_putBracket 84 = .ok (.goto (-82), 3) := by decide +kernel
theorem dX1_putBracket_87 : decode cX1_putBracket 87 = .ok (.return_, 1) := by decide +kernel
theorem dX2_rest_0 : decode cX2_rest 0 = .ok (.lload_n 0, 1) := by decide +kernel
theorem dX2_rest_1 : decode cX2_rest 1 = .ok (.ldc2_w 9, 3) := by decide +kernel
theorem dX2_rest_4 : decode cX2_rest 4 = .ok (.invokestatic 11, 3) := by decide +kernel
theorem dX2_rest_7 : decode cX2_rest 7 = .ok (.lreturn, 1) := by decide +kernel
theorem dX2_raised_0 : decode cX2_raised 0 = .ok (.lconst 1, 1) := by decide +kernel
theorem dX2_raised_1 : decode cX2_raised 1 = .ok (.lstore_n 3, 1) := by decide +kernel
theorem dX2_raised_2 : decode cX2_raised 2 = .ok (.bipush 30, 2) := by decide +kernel
theorem dX2_raised_4 : decode cX2_raised 4 = .ok (.istore 5, 2) := by decide +kernel
theorem dX2_raised_6 : decode cX2_raised 6 = .ok (.iload 5, 2) := by decide +kernel
theorem dX2_raised_8 : decode cX2_raised 8 = .ok (.ifCond .lt 35, 3) := by decide +kernel
theorem dX2_raised_11 : decode cX2_raised 11 = .ok (.lload_n 3, 1) := by decide +kernel
theorem dX2_raised_12 : decode cX2_raised 12 = .ok (.lload_n 3, 1) := by decide +kernel
theorem dX2_raised_13 : decode cX2_raised 13 = .ok (.lmul, 1) := by decide +kernel
theorem dX2_raised_14 : decode cX2_raised 14 = .ok (.ldc2_w 9, 3) := by decide +kernel
theorem dX2_raised_17 : decode cX2_raised 17 = .ok (.lrem, 1) := by decide +kernel
theorem dX2_raised_18 : decode cX2_raised 18 = .ok (.lstore_n 3, 1) := by decide +kernel
theorem dX2_raised_19 : decode cX2_raised 19 = .ok (.iload_n 2, 1) := by decide +kernel
theorem dX2_raised_20 : decode cX2_raised 20 = .ok (.iload 5, 2) := by decide +kernel
theorem dX2_raised_22 : decode cX2_raised 22 = .ok (.ishr, 1) := by decide +kernel
theorem dX2_raised_23 : decode cX2_raised 23 = .ok (.iconst 1, 1) := by decide +kernel
theorem dX2_raised_24 : decode cX2_raised 24 = .ok (.iand, 1) := by decide +kernel
theorem dX2_raised_25 : decode cX2_raised 25 = .ok (.iconst 1, 1) := by decide +kernel
theorem dX2_raised_26 : decode cX2_raised 26 = .ok (.if_icmp .ne 11, 3) := by decide +kernel
theorem dX2_raised_29 : decode cX2_raised 29 = .ok (.lload_n 3, 1) := by decide +kernel
theorem dX2_raised_30 : decode cX2_raised 30 = .ok (.lload_n 0, 1) := by decide +kernel
theorem dX2_raised_31 : decode cX2_raised 31 = .ok (.lmul, 1) := by decide +kernel
theorem dX2_raised_32 : decode cX2_raised 32 = .ok (.ldc2_w 9, 3) := by decide +kernel
theorem dX2_raised_35 : decode cX2_raised 35 = .ok (.lrem, 1) := by decide +kernel
theorem dX2_raised_36 : decode cX2_raised 36 = .ok (.lstore_n 3, 1) := by decide +kernel
theorem dX2_raised_37 : decode cX2_raised 37 = .ok (.iinc 5 (-1), 3) := by decide +kernel
theorem dX2_raised_40 : decode cX2_raised 40 = .ok (.goto (-34), 3) := by decide +kernel
theorem dX2_raised_43 : decode cX2_raised 43 = .ok (.lload_n 3, 1) := by decide +kernel
theorem dX2_raised_44 : decode cX2_raised 44 = .ok (.lreturn, 1) := by decide +kernel
theorem dX2_quotient_0 : decode cX2_quotient 0 = .ok (.lload_n 0, 1) := by decide +kernel
theorem dX2_quotient_1 : decode cX2_quotient 1 = .ok (.invokestatic 17, 3) := by decide +kernel
theorem dX2_quotient_4 : decode cX2_quotient 4 = .ok (.lload_n 2, 1) := by decide +kernel
theorem dX2_quotient_5 : decode cX2_quotient 5 = .ok (.invokestatic 17, 3) := by decide +kernel
theorem dX2_quotient_8 : decode cX2_quotient 8 = .ok (.ldc 23, 2) := by decide +kernel
theorem dX2_quotient_10 : decode cX2_quotient 10 = .ok (.invokestatic 24, 3) := by decide +kernel
theorem dX2_quotient_13 : decode cX2_quotient 13 = .ok (.lmul, 1) := by decide +kernel
theorem dX2_quotient_14 : decode cX2_quotient 14 = .ok (.ldc2_w 9, 3) := by decide +kernel
theorem dX2_quotient_17 : decode cX2_quotient 17 = .ok (.lrem, 1) := by decide +kernel
theorem dX2_quotient_18 : decode cX2_quotient 18 = .ok (.lreturn, 1) := by decide +kernel
theorem dX3_multiply_0 : decode cX3_multiply 0 = .ok (.bipush 47, 2) := by decide +kernel
theorem dX3_multiply_2 : decode cX3_multiply 2 = .ok (.istore_n 3, 1) := by decide +kernel
theorem dX3_multiply_3 : decode cX3_multiply 3 = .ok (.iload_n 3, 1) := by decide +kernel
theorem dX3_multiply_4 : decode cX3_multiply 4 = .ok (.ifCond .lt 52, 3) := by decide +kernel
theorem dX3_multiply_7 : decode cX3_multiply 7 = .ok (.lconst 0, 1) := by decide +kernel
theorem dX3_multiply_8 : decode cX3_multiply 8 = .ok (.lstore 4, 2) := by decide +kernel
theorem dX3_multiply_10 : decode cX3_multiply 10 = .ok (.iconst 0, 1) := by decide +kernel
theorem dX3_multiply_11 : decode cX3_multiply 11 = .ok (.istore 6, 2) := by decide +kernel
theorem dX3_multiply_13 : decode cX3_multiply 13 = .ok (.iload 6, 2) := by decide +kernel
theorem dX3_multiply_15 : decode cX3_multiply 15 = .ok (.iload_n 3, 1) := by decide +kernel
theorem dX3_multiply_16 : decode cX3_multiply 16 = .ok (.if_icmp .gt 25, 3) := by decide +kernel
theorem dX3_multiply_19 : decode cX3_multiply 19 = .ok (.lload 4, 2) := by decide +kernel
theorem dX3_multiply_21 : decode cX3_multiply 21 = .ok (.aload_n 0, 1) := by decide +kernel
theorem dX3_multiply_22 : decode cX3_multiply 22 = .ok (.iload 6, 2) := by decide +kernel
theorem dX3_multiply_24 : decode cX3_multiply 24 = .ok (.laload, 1) := by decide +kernel
theorem dX3_multiply_25 : decode cX3_multiply 25 = .ok (.aload_n 1, 1) := by decide +kernel
theorem dX3_multiply_26 : decode cX3_multiply 26 = .ok (.iload_n 3, 1) := by decide +kernel
theorem dX3_multiply_27 : decode cX3_multiply 27 = .ok (.iload 6, 2) := by decide +kernel
theorem dX3_multiply_29 : decode cX3_multiply 29 = .ok (.isub, 1) := by decide +kernel
theorem dX3_multiply_30 : decode cX3_multiply 30 = .ok (.laload, 1) := by decide +kernel
theorem dX3_multiply_31 : decode cX3_multiply 31 = .ok (.lmul, 1) := by decide +kernel
theorem dX3_multiply_32 : decode cX3_multiply 32 = .ok (.ladd, 1) := by decide +kernel
theorem dX3_multiply_33 : decode cX3_multiply 33 = .ok (.lstore 4, 2) := by decide +kernel
theorem dX3_multiply_35 : decode cX3_multiply 35 = .ok (.iinc 6 1, 3) := by decide +kernel
theorem dX3_multiply_38 : decode cX3_multiply 38 = .ok (.goto (-25), 3) := by decide +kernel
theorem dX3_multiply_41 : decode cX3_multiply 41 = .ok (.aload_n 2, 1) := by decide +kernel
theorem dX3_multiply_42 : decode cX3_multiply 42 = .ok (.iload_n 3, 1) := by decide +kernel
theorem dX3_multiply_43 : decode cX3_multiply 43 = .ok (.lload 4, 2) := by decide +kernel
theorem dX3_multiply_45 : decode cX3_multiply 45 = .ok (.ldc2_w 9, 3) := by decide +kernel
theorem dX3_multiply_48 : decode cX3_multiply 48 = .ok (.lrem, 1) := by decide +kernel
theorem dX3_multiply_49 : decode cX3_multiply 49 = .ok (.lastore, 1) := by decide +kernel
theorem dX3_multiply_50 : decode cX3_multiply 50 = .ok (.iinc 3 (-1), 3) := by decide +kernel
theorem dX3_multiply_53 : decode cX3_multiply 53 = .ok (.goto (-50), 3) := by decide +kernel
theorem dX3_multiply_56 : decode cX3_multiply 56 = .ok (.return_, 1) := by decide +kernel
theorem dX3_raise_0 : decode cX3_raise 0 = .ok (.aload_n 2, 1) := by decide +kernel
theorem dX3_raise_1 : decode cX3_raise 1 = .ok (.invokestatic 11, 3) := by decide +kernel
theorem dX3_raise_4 : decode cX3_raise 4 = .ok (.iconst 4, 1) := by decide +kernel
theorem dX3_raise_5 : decode cX3_raise 5 = .ok (.istore_n 3, 1) := by decide +kernel
theorem dX3_raise_6 : decode cX3_raise 6 = .ok (.iload_n 3, 1) := by decide +kernel
theorem dX3_raise_7 : decode cX3_raise 7 = .ok (.ifCond .lt 30, 3) := by decide +kernel
theorem dX3_raise_10 : decode cX3_raise 10 = .ok (.aload_n 2, 1) := by decide +kernel
theorem dX3_raise_11 : decode cX3_raise 11 = .ok (.aload_n 2, 1) := by decide +kernel
theorem dX3_raise_12 : decode cX3_raise 12 = .ok (.aload_n 2, 1) := by decide +kernel
theorem dX3_raise_13 : decode cX3_raise 13 = .ok (.invokestatic 17, 3) := by decide +kernel
theorem dX3_raise_16 : decode cX3_raise 16 = .ok (.iload_n 1, 1) := by decide +kernel
theorem dX3_raise_17 : decode cX3_raise 17 = .ok (.iload_n 3, 1) := by decide +kernel
theorem dX3_raise_18 : decode cX3_raise 18 = .ok (.ishr, 1) := by decide +kernel
theorem dX3_raise_19 : decode cX3_raise 19 = .ok (.iconst 1, 1) := by decide +kernel
theorem dX3_raise_20 : decode cX3_raise 20 = .ok (.iand, 1) := by decide +kernel
theorem dX3_raise_21 : decode cX3_raise 21 = .ok (.iconst 1, 1) := by decide +kernel
theorem dX3_raise_22 : decode cX3_raise 22 = .ok (.if_icmp .ne 9, 3) := by decide +kernel
theorem dX3_raise_25 : decode cX3_raise 25 = .ok (.aload_n 2, 1) := by decide +kernel
theorem dX3_raise_26 : decode cX3_raise 26 = .ok (.aload_n 0, 1) := by decide +kernel
theorem dX3_raise_27 : decode cX3_raise 27 = .ok (.aload_n 2, 1) := by decide +kernel
theorem dX3_raise_28 : decode cX3_raise 28 = .ok (.invokestatic 17, 3) := by decide +kernel
theorem dX3_raise_31 : decode cX3_raise 31 = .ok (.iinc 3 (-1), 3) := by decide +kernel
theorem dX3_raise_34 : decode cX3_raise 34 = .ok (.goto (-28), 3) := by decide +kernel
theorem dX3_raise_37 : decode cX3_raise 37 = .ok (.return_, 1) := by decide +kernel
theorem dX3_putOne_0 : decode cX3_putOne 0 = .ok (.iconst 0, 1) := by decide +kernel
theorem dX3_putOne_1 : decode cX3_putOne 1 = .ok (.istore_n 1, 1) := by decide +kernel
theorem dX3_putOne_2 : decode cX3_putOne 2 = .ok (.iload_n 1, 1) := by decide +kernel
theorem dX3_putOne_3 : decode cX3_putOne 3 = .ok (.bipush 48, 2) := by decide +kernel
theorem dX3_putOne_5 : decode cX3_putOne 5 = .ok (.if_icmp .ge 21, 3) := by decide +kernel
theorem dX3_putOne_8 : decode cX3_putOne 8 = .ok (.aload_n 0, 1) := by decide +kernel
theorem dX3_putOne_9 : decode cX3_putOne 9 = .ok (.iload_n 1, 1) := by decide +kernel
theorem dX3_putOne_10 : decode cX3_putOne 10 = .ok (.iload_n 1, 1) := by decide +kernel
theorem dX3_putOne_11 : decode cX3_putOne 11 = .ok (.ifCond .ne 7, 3) := by decide +kernel
theorem dX3_putOne_14 : decode cX3_putOne 14 = .ok (.lconst 1, 1) := by decide +kernel
theorem dX3_putOne_15 : decode cX3_putOne 15 = .ok (.goto 4, 3) := by decide +kernel
theorem dX3_putOne_18 : decode cX3_putOne 18 = .ok (.lconst 0, 1) := by decide +kernel
theorem dX3_putOne_19 : decode cX3_putOne 19 = .ok (.lastore, 1) := by decide +kernel
theorem dX3_putOne_20 : decode cX3_putOne 20 = .ok (.iinc 1 1, 3) := by decide +kernel
theorem dX3_putOne_23 : decode cX3_putOne 23 = .ok (.goto (-21), 3) := by decide +kernel
theorem dX3_putOne_26 : decode cX3_putOne 26 = .ok (.return_, 1) := by decide +kernel
theorem dX3_putSums_0 : decode cX3_putSums 0 = .ok (.aload_n 3, 1) := by decide +kernel
theorem dX3_putSums_1 : decode cX3_putSums 1 = .ok (.invokestatic 11, 3) := by decide +kernel
theorem dX3_putSums_4 : decode cX3_putSums 4 = .ok (.iconst 1, 1) := by decide +kernel
theorem dX3_putSums_5 : decode cX3_putSums 5 = .ok (.istore 4, 2) := by decide +kernel
theorem dX3_putSums_7 : decode cX3_putSums 7 = .ok (.iload 4, 2) := by decide +kernel
theorem dX3_putSums_9 : decode cX3_putSums 9 = .ok (.bipush 48, 2) := by decide +kernel
theorem dX3_putSums_11 : decode cX3_putSums 11 = .ok (.if_icmp .ge 60, 3) := by decide +kernel
theorem dX3_putSums_14 : decode cX3_putSums 14 = .ok (.lload_n 0, 1) := by decide +kernel
theorem dX3_putSums_15 : decode cX3_putSums 15 = .ok (.iload 4, 2) := by decide +kernel
theorem dX3_putSums_17 : decode cX3_putSums 17 = .ok (.i2l, 1) := by decide +kernel
theorem dX3_putSums_18 : decode cX3_putSums 18 = .ok (.iload_n 2, 1) := by decide +kernel
theorem dX3_putSums_19 : decode cX3_putSums 19 = .ok (.invokestatic 21, 3) := by decide +kernel
theorem dX3_putSums_22 : decode cX3_putSums 22 = .ok (.lmul, 1) := by decide +kernel
theorem dX3_putSums_23 : decode cX3_putSums 23 = .ok (.ldc2_w 9, 3) := by decide +kernel
theorem dX3_putSums_26 : decode cX3_putSums 26 = .ok (.lrem, 1) := by decide +kernel
theorem dX3_putSums_27 : decode cX3_putSums 27 = .ok (.lstore 5, 2) := by decide +kernel
theorem dX3_putSums_29 : decode cX3_putSums 29 = .ok (.iload 4, 2) := by decide +kernel
theorem dX3_putSums_31 : decode cX3_putSums 31 = .ok (.istore 7, 2) := by decide +kernel
theorem dX3_putSums_33 : decode cX3_putSums 33 = .ok (.iload 7, 2) := by decide +kernel
theorem dX3_putSums_35 : decode cX3_putSums 35 = .ok (.bipush 48, 2) := by decide +kernel
theorem dX3_putSums_37 : decode cX3_putSums 37 = .ok (.if_icmp .ge 28, 3) := by decide +kernel
theorem dX3_putSums_40 : decode cX3_putSums 40 = .ok (.aload_n 3, 1) := by decide +kernel
theorem dX3_putSums_41 : decode cX3_putSums 41 = .ok (.iload 7, 2) := by decide +kernel
theorem dX3_putSums_43 : decode cX3_putSums 43 = .ok (.aload_n 3, 1) := by decide +kernel
theorem dX3_putSums_44 : decode cX3_putSums 44 = .ok (.iload 7, 2) := by decide +kernel
theorem dX3_putSums_46 : decode cX3_putSums 46 = .ok (.laload, 1) := by decide +kernel
theorem dX3_putSums_47 : decode cX3_putSums 47 = .ok (.lload 5, 2) := by decide +kernel
theorem dX3_putSums_49 : decode cX3_putSums 49 = .ok (.ladd, 1) := by decide +kernel
theorem dX3_putSums_50 : decode cX3_putSums 50 = .ok (.ldc2_w 9, 3) := by decide +kernel
theorem dX3_putSums_53 : decode cX3_putSums 53 = .ok (.lrem, 1) := by decide +kernel
theorem dX3_putSums_54 : decode cX3_putSums 54 = .ok (.lastore, 1) := by decide +kernel
theorem dX3_putSums_55 : decode cX3_putSums 55 = .ok (.iload 7, 2) := by decide +kernel
theorem dX3_putSums_57 : decode cX3_putSums 57 = .ok (.iload 4, 2) := by decide +kernel
theorem dX3_putSums_59 : decode cX3_putSums 59 = .ok (.iadd, 1) := by decide +kernel
theorem dX3_putSums_60 : decode cX3_putSums 60 = .ok (.istore 7, 2) := by decide +kernel
theorem dX3_putSums_62 : decode cX3_putSums 62 = .ok (.goto (-29), 3) := by decide +kernel
theorem dX3_putSums_65 : decode cX3_putSums 65 = .ok (.iinc 4 1, 3) := by decide +kernel
theorem dX3_putSums_68 : decode cX3_putSums 68 = .ok (.goto (-61), 3) := by decide +kernel
theorem dX3_putSums_71 : decode cX3_putSums 71 = .ok (.return_, 1) := by decide +kernel
theorem dX3_newSums_0 : decode cX3_newSums 0 = .ok (.bipush 48, 2) := by decide +kernel
theorem dX3_newSums_2 : decode cX3_newSums 2 = .ok (.newarray .long, 2) := by decide +kernel
theorem dX3_newSums_4 : decode cX3_newSums 4 = .ok (.astore_n 3, 1) := by decide +kernel
theorem dX3_newSums_5 : decode cX3_newSums 5 = .ok (.lload_n 0, 1) := by decide +kernel
theorem dX3_newSums_6 : decode cX3_newSums 6 = .ok (.iload_n 2, 1) := by decide +kernel
theorem dX3_newSums_7 : decode cX3_newSums 7 = .ok (.aload_n 3, 1) := by decide +kernel
theorem dX3_newSums_8 : decode cX3_newSums 8 = .ok (.invokestatic 27, 3) := by decide +kernel
theorem dX3_newSums_11 : decode cX3_newSums 11 = .ok (.aload_n 3, 1) := by decide +kernel
theorem dX3_newSums_12 : decode cX3_newSums 12 = .ok (.areturn, 1) := by decide +kernel
theorem dX3_newD_0 : decode cX3_newD 0 = .ok (.bipush 48, 2) := by decide +kernel
theorem dX3_newD_2 : decode cX3_newD 2 = .ok (.newarray .long, 2) := by decide +kernel
theorem dX3_newD_4 : decode cX3_newD 4 = .ok (.astore_n 0, 1) := by decide +kernel
theorem dX3_newD_5 : decode cX3_newD 5 = .ok (.aload_n 0, 1) := by decide +kernel
theorem dX3_newD_6 : decode cX3_newD 6 = .ok (.invokestatic 11, 3) := by decide +kernel
theorem dX3_newD_9 : decode cX3_newD 9 = .ok (.iconst 1, 1) := by decide +kernel
theorem dX3_newD_10 : decode cX3_newD 10 = .ok (.istore_n 1, 1) := by decide +kernel
theorem dX3_newD_11 : decode cX3_newD 11 = .ok (.iload_n 1, 1) := by decide +kernel
theorem dX3_newD_12 : decode cX3_newD 12 = .ok (.bipush 48, 2) := by decide +kernel
theorem dX3_newD_14 : decode cX3_newD 14 = .ok (.if_icmp .ge 38, 3) := by decide +kernel
theorem dX3_newD_17 : decode cX3_newD 17 = .ok (.bipush 47, 2) := by decide +kernel
theorem dX3_newD_19 : decode cX3_newD 19 = .ok (.istore_n 2, 1) := by decide +kernel
theorem dX3_newD_20 : decode cX3_newD 20 = .ok (.iload_n 2, 1) := by decide +kernel
theorem dX3_newD_21 : decode cX3_newD 21 = .ok (.iload_n 1, 1) := by decide +kernel
theorem dX3_newD_22 : decode cX3_newD 22 = .ok (.if_icmp .lt 24, 3) := by decide +kernel
theorem dX3_newD_25 : decode cX3_newD 25 = .ok (.aload_n 0, 1) := by decide +kernel
theorem dX3_newD_26 : decode cX3_newD 26 = .ok (.iload_n 2, 1) := by decide +kernel
theorem dX3_newD_27 : decode cX3_newD 27 = .ok (.aload_n 0, 1) := by decide +kernel
theorem dX3_newD_28 : decode cX3_newD 28 = .ok (.iload_n 2, 1) := by decide +kernel
theorem dX3_newD_29 : decode cX3_newD 29 = .ok (.laload, 1) := by decide +kernel
theorem dX3_newD_30 : decode cX3_newD 30 = .ok (.aload_n 0, 1) := by decide +kernel
theorem dX3_newD_31 : decode cX3_newD 31 = .ok (.iload_n 2, 1) := by decide +kernel
theorem dX3_newD_32 : decode cX3_newD 32 = .ok (.iload_n 1, 1) := by decide +kernel
theorem dX3_newD_33 : decode cX3_newD 33 = .ok (.isub, 1) := by decide +kernel
theorem dX3_newD_34 : decode cX3_newD 34 = .ok (.laload, 1) := by decide +kernel
theorem dX3_newD_35 : decode cX3_newD 35 = .ok (.lsub, 1) := by decide +kernel
theorem dX3_newD_36 : decode cX3_newD 36 = .ok (.invokestatic 31, 3) := by decide +kernel
theorem dX3_newD_39 : decode cX3_newD 39 = .ok (.lastore, 1) := by decide +kernel
theorem dX3_newD_40 : decode cX3_newD 40 = .ok (.iinc 2 (-1), 3) := by decide +kernel
theorem dX3_newD_43 : decode cX3_newD 43 = .ok (.goto (-23), 3) := by decide +kernel
theorem dX3_newD_46 : decode cX3_newD 46 = .ok (.iinc 1 1, 3) := by decide +kernel
theorem dX3_newD_49 : decode cX3_newD 49 = .ok (.goto (-38), 3) := by decide +kernel
theorem dX3_newD_52 : decode cX3_newD 52 = .ok (.bipush 48, 2) := by decide +kernel
theorem dX3_newD_54 : decode cX3_newD 54 = .ok (.newarray .long, 2) := by decide +kernel
theorem dX3_newD_56 : decode cX3_newD 56 = .ok (.astore_n 1, 1) := by decide +kernel
theorem dX3_newD_57 : decode cX3_newD 57 = .ok (.aload_n 0, 1) := by decide +kernel
theorem dX3_newD_58 : decode cX3_newD 58 = .ok (.bipush 24, 2) := by decide +kernel
theorem dX3_newD_60 : decode cX3_newD 60 = .ok (.aload_n 1, 1) := by decide +kernel
theorem dX3_newD_61 : decode cX3_newD 61 = .ok (.invokestatic 35, 3) := by decide +kernel
theorem dX3_newD_64 : decode cX3_newD 64 = .ok (.aload_n 1, 1) := by decide +kernel
theorem dX3_newD_65 : decode cX3_newD 65 = .ok (.iconst 0, 1) := by decide +kernel
theorem dX3_newD_66 : decode cX3_newD 66 = .ok (.aload_n 1, 1) := by decide +kernel
theorem dX3_newD_67 : decode cX3_newD 67 = .ok (.iconst 1, 1) := by decide +kernel
theorem dX3_newD_68 : decode cX3_newD 68 = .ok (.bipush 47, 2) := by decide +kernel
theorem dX3_newD_70 : decode cX3_newD 70 = .ok (.invokestatic 39, 3) := by decide +kernel
theorem dX3_newD_73 : decode cX3_newD 73 = .ok (.aload_n 1, 1) := by decide +kernel
theorem dX3_newD_74 : decode cX3_newD 74 = .ok (.iconst 0, 1) := by decide +kernel
theorem dX3_newD_75 : decode cX3_newD 75 = .ok (.lconst 0, 1) := by decide +kernel
theorem dX3_newD_76 : decode cX3_newD 76 = .ok (.lastore, 1) := by decide +kernel
theorem dX3_newD_77 : decode cX3_newD 77 = .ok (.aload_n 1, 1) := by decide +kernel
theorem dX3_newD_78 : decode cX3_newD 78 = .ok (.areturn, 1) := by decide +kernel
theorem dX3_leastPlace_0 : decode cX3_leastPlace 0 = .ok (.iconst 0, 1) := by decide +kernel
theorem dX3_leastPlace_1 : decode cX3_leastPlace 1 = .ok (.istore_n 1, 1) := by decide +kernel
theorem dX3_leastPlace_2 : decode cX3_leastPlace 2 = .ok (.iload_n 1, 1) := by decide +kernel
theorem dX3_leastPlace_3 : decode cX3_leastPlace 3 = .ok (.bipush 48, 2) := by decide +kernel
theorem dX3_leastPlace_5 : decode cX3_leastPlace 5 = .ok (.if_icmp .ge 19, 3) := by decide +kernel
theorem dX3_leastPlace_8 : decode cX3_leastPlace 8 = .ok (.aload_n 0, 1) := by decide +kernel
theorem dX3_leastPlace_9 : decode cX3_leastPlace 9 = .ok (.iload_n 1, 1) := by decide +kernel
theorem dX3_leastPlace_10 : decode cX3_leastPlace 10 = .ok (.laload, 1) := by decide +kernel
theorem dX3_leastPlace_11 : decode cX3_leastPlace 11 = .ok (.lconst 0, 1) := by decide +kernel
theorem dX3_leastPlace_12 : decode cX3_leastPlace 12 = .ok (.lcmp, 1) := by decide +kernel
theorem dX3_leastPlace_13 : decode cX3_leastPlace 13 = .ok (.ifCond .eq 5, 3) := by decide +kernel
theorem dX3_leastPlace_16 : decode cX3_leastPlace 16 = .ok (.iload_n 1, 1) := by decide +kernel
theorem dX3_leastPlace_17 : decode cX3_leastPlace 17 = .ok (.ireturn, 1) := by decide +kernel
theorem dX3_leastPlace_18 : decode cX3_leastPlace 18 = .ok (.iinc 1 1, 3) := by decide +kernel
theorem dX3_leastPlace_21 : decode cX3_leastPlace 21 = .ok (.goto (-19), 3) := by decide +kernel
theorem dX3_leastPlace_24 : decode cX3_leastPlace 24 = .ok (.iconst (-1), 1) := by decide +kernel
theorem dX3_leastPlace_25 : decode cX3_leastPlace 25 = .ok (.ireturn, 1) := by decide +kernel
theorem dX3_firstUnlike_0 : decode cX3_firstUnlike 0 = .ok (.iconst 0, 1) := by decide +kernel
theorem dX3_firstUnlike_1 : decode cX3_firstUnlike 1 = .ok (.istore_n 2, 1) := by decide +kernel
theorem dX3_firstUnlike_2 : decode cX3_firstUnlike 2 = .ok (.iload_n 2, 1) := by decide +kernel
theorem dX3_firstUnlike_3 : decode cX3_firstUnlike 3 = .ok (.bipush 48, 2) := by decide +kernel
theorem dX3_firstUnlike_5 : decode cX3_firstUnlike 5 = .ok (.if_icmp .ge 21, 3) := by decide +kernel
theorem dX3_firstUnlike_8 : decode cX3_firstUnlike 8 = .ok (.aload_n 0, 1) := by decide +kernel
theorem dX3_firstUnlike_9 : decode cX3_firstUnlike 9 = .ok (.iload_n 2, 1) := by decide +kernel
theorem dX3_firstUnlike_10 : decode cX3_firstUnlike 10 = .ok (.laload, 1) := by decide +kernel
theorem dX3_firstUnlike_11 : decode cX3_firstUnlike 11 = .ok (.aload_n 1, 1) := by decide +kernel
theorem dX3_firstUnlike_12 : decode cX3_firstUnlike 12 = .ok (.iload_n 2, 1) := by decide +kernel
theorem dX3_firstUnlike_13 : decode cX3_firstUnlike 13 = .ok (.laload, 1) := by decide +kernel
theorem dX3_firstUnlike_14 : decode cX3_firstUnlike 14 = .ok (.lcmp, 1) := by decide +kernel
theorem dX3_firstUnlike_15 : decode cX3_firstUnlike 15 = .ok (.ifCond .eq 5, 3) := by decide +kernel
theorem dX3_firstUnlike_18 : decode cX3_firstUnlike 18 = .ok (.iload_n 2, 1) := by decide +kernel
theorem dX3_firstUnlike_19 : decode cX3_firstUnlike 19 = .ok (.ireturn, 1) := by decide +kernel
theorem dX3_firstUnlike_20 : decode cX3_firstUnlike 20 = .ok (.iinc 2 1, 3) := by decide +kernel
theorem dX3_firstUnlike_23 : decode cX3_firstUnlike 23 = .ok (.goto (-21), 3) := by decide +kernel
theorem dX3_firstUnlike_26 : decode cX3_firstUnlike 26 = .ok (.iconst (-1), 1) := by decide +kernel
theorem dX3_firstUnlike_27 : decode cX3_firstUnlike 27 = .ok (.ireturn, 1) := by decide +kernel
theorem dX3_ratio_0 : decode cX3_ratio 0 = .ok (.aload_n 1, 1) := by decide +kernel
theorem dX3_ratio_1 : decode cX3_ratio 1 = .ok (.invokestatic 45, 3) := by decide +kernel
theorem dX3_ratio_4 : decode cX3_ratio 4 = .ok (.istore_n 3, 1) := by decide +kernel
theorem dX3_ratio_5 : decode cX3_ratio 5 = .ok (.iload_n 3, 1) := by decide +kernel
theorem dX3_ratio_6 : decode cX3_ratio 6 = .ok (.iconst (-1), 1) := by decide +kernel
theorem dX3_ratio_7 : decode cX3_ratio 7 = .ok (.if_icmp .eq 8, 3) := by decide +kernel
theorem dX3_ratio_10 : decode cX3_ratio 10 = .ok (.iload_n 3, 1) := by decide +kernel
theorem dX3_ratio_11 : decode cX3_ratio 11 = .ok (.iload_n 2, 1) := by decide +kernel
theorem dX3_ratio_12 : decode cX3_ratio 12 = .ok (.if_icmp .lt 5, 3) := by decide +kernel
theorem dX3_ratio_15 : decode cX3_ratio 15 = .ok (.iconst (-1), 1) := by decide +kernel
theorem dX3_ratio_16 : decode cX3_ratio 16 = .ok (.ireturn, 1) := by decide +kernel
theorem dX3_ratio_17 : decode cX3_ratio 17 = .ok (.aload_n 0, 1) := by decide +kernel
theorem dX3_ratio_18 : decode cX3_ratio 18 = .ok (.iload_n 3, 1) := by decide +kernel
theorem dX3_ratio_19 : decode cX3_ratio 19 = .ok (.laload, 1) := by decide +kernel
theorem dX3_ratio_20 : decode cX3_ratio 20 = .ok (.aload_n 1, 1) := by decide +kernel
theorem dX3_ratio_21 : decode cX3_ratio 21 = .ok (.iload_n 3, 1) := by decide +kernel
theorem dX3_ratio_22 : decode cX3_ratio 22 = .ok (.laload, 1) := by decide +kernel
theorem dX3_ratio_23 : decode cX3_ratio 23 = .ok (.invokestatic 49, 3) := by decide +kernel
theorem dX3_ratio_26 : decode cX3_ratio 26 = .ok (.lstore 4, 2) := by decide +kernel
theorem dX3_ratio_28 : decode cX3_ratio 28 = .ok (.iconst 0, 1) := by decide +kernel
theorem dX3_ratio_29 : decode cX3_ratio 29 = .ok (.istore 6, 2) := by decide +kernel
theorem dX3_ratio_31 : decode cX3_ratio 31 = .ok (.iload 6, 2) := by decide +kernel
theorem dX3_ratio_33 : decode cX3_ratio 33 = .ok (.iload_n 2, 1) := by decide +kernel
theorem dX3_ratio_34 : decode cX3_ratio 34 = .ok (.if_icmp .ge 30, 3) := by decide +kernel
theorem dX3_ratio_37 : decode cX3_ratio 37 = .ok (.aload_n 0, 1) := by decide +kernel
theorem dX3_ratio_38 : decode cX3_ratio 38 = .ok (.iload 6, 2) := by decide +kernel
theorem dX3_ratio_40 : decode cX3_ratio 40 = .ok (.laload, 1) := by decide +kernel
theorem dX3_ratio_41 : decode cX3_ratio 41 = .ok (.lload 4, 2) := by decide +kernel
theorem dX3_ratio_43 : decode cX3_ratio 43 = .ok (.aload_n 1, 1) := by decide +kernel
theorem dX3_ratio_44 : decode cX3_ratio 44 = .ok (.iload 6, 2) := by decide +kernel
theorem dX3_ratio_46 : decode cX3_ratio 46 = .ok (.laload, 1) := by decide +kernel
theorem dX3_ratio_47 : decode cX3_ratio 47 = .ok (.lmul, 1) := by decide +kernel
theorem dX3_ratio_48 : decode cX3_ratio 48 = .ok (.ldc2_w 9, 3) := by decide +kernel
theorem dX3_ratio_51 : decode cX3_ratio 51 = .ok (.lrem, 1) := by decide +kernel
theorem dX3_ratio_52 : decode cX3_ratio 52 = .ok (.lcmp, 1) := by decide +kernel
theorem dX3_ratio_53 : decode cX3_ratio 53 = .ok (.ifCond .eq 5, 3) := by decide +kernel
theorem dX3_ratio_56 : decode cX3_ratio 56 = .ok (.iconst (-1), 1) := by decide +kernel
theorem dX3_ratio_57 : decode cX3_ratio 57 = .ok (.ireturn, 1) := by decide +kernel
theorem dX3_ratio_58 : decode cX3_ratio 58 = .ok (.iinc 6 1, 3) := by decide +kernel
theorem dX3_ratio_61 : decode cX3_ratio 61 = .ok (.goto (-30), 3) := by decide +kernel
theorem dX3_ratio_64 : decode cX3_ratio 64 = .ok (.lload 4, 2) := by decide +kernel
theorem dX3_ratio_66 : decode cX3_ratio 66 = .ok (.l2i, 1) := by decide +kernel
theorem dX3_ratio_67 : decode cX3_ratio 67 = .ok (.ireturn, 1) := by decide +kernel

theorem dX4_init_0 : decode cX4_init 0 = .ok (.aload_n 0, 1) := by decide +kernel
theorem dX4_init_1 : decode cX4_init 1 = .ok (.invokespecial 1, 3) := by decide +kernel
theorem dX4_init_4 : decode cX4_init 4 = .ok (.aload_n 0, 1) := by decide +kernel
theorem dX4_init_5 : decode cX4_init 5 = .ok (.bipush 16, 2) := by decide +kernel
theorem dX4_init_7 : decode cX4_init 7 = .ok (.anewarray 9, 3) := by decide +kernel
theorem dX4_init_10 : decode cX4_init 10 = .ok (.putfield 11, 3) := by decide +kernel
theorem dX4_init_13 : decode cX4_init 13 = .ok (.aload_n 0, 1) := by decide +kernel
theorem dX4_init_14 : decode cX4_init 14 = .ok (.new 15, 3) := by decide +kernel
theorem dX4_init_17 : decode cX4_init 17 = .ok (.dup, 1) := by decide +kernel
theorem dX4_init_18 : decode cX4_init 18 = .ok (.invokespecial 17, 3) := by decide +kernel
theorem dX4_init_21 : decode cX4_init 21 = .ok (.putfield 18, 3) := by decide +kernel
theorem dX4_init_24 : decode cX4_init 24 = .ok (.aload_n 0, 1) := by decide +kernel
theorem dX4_init_25 : decode cX4_init 25 = .ok (.iconst 4, 1) := by decide +kernel
theorem dX4_init_26 : decode cX4_init 26 = .ok (.newarray .long, 2) := by decide +kernel
theorem dX4_init_28 : decode cX4_init 28 = .ok (.putfield 22, 3) := by decide +kernel
theorem dX4_init_31 : decode cX4_init 31 = .ok (.aload_n 0, 1) := by decide +kernel
theorem dX4_init_32 : decode cX4_init 32 = .ok (.iconst 4, 1) := by decide +kernel
theorem dX4_init_33 : decode cX4_init 33 = .ok (.newarray .long, 2) := by decide +kernel
theorem dX4_init_35 : decode cX4_init 35 = .ok (.putfield 26, 3) := by decide +kernel
theorem dX4_init_38 : decode cX4_init 38 = .ok (.aload_n 0, 1) := by decide +kernel
theorem dX4_init_39 : decode cX4_init 39 = .ok (.bipush 100, 2) := by decide +kernel
theorem dX4_init_41 : decode cX4_init 41 = .ok (.newarray .int, 2) := by decide +kernel
theorem dX4_init_43 : decode cX4_init 43 = .ok (.putfield 29, 3) := by decide +kernel
theorem dX4_init_46 : decode cX4_init 46 = .ok (.aload_n 0, 1) := by decide +kernel
theorem dX4_init_47 : decode cX4_init 47 = .ok (.bipush 48, 2) := by decide +kernel
theorem dX4_init_49 : decode cX4_init 49 = .ok (.newarray .long, 2) := by decide +kernel
theorem dX4_init_51 : decode cX4_init 51 = .ok (.putfield 33, 3) := by decide +kernel
theorem dX4_init_54 : decode cX4_init 54 = .ok (.aload_n 0, 1) := by decide +kernel
theorem dX4_init_55 : decode cX4_init 55 = .ok (.iconst (-1), 1) := by decide +kernel
theorem dX4_init_56 : decode cX4_init 56 = .ok (.putfield 36, 3) := by decide +kernel
theorem dX4_init_59 : decode cX4_init 59 = .ok (.aload_n 0, 1) := by decide +kernel
theorem dX4_init_60 : decode cX4_init 60 = .ok (.bipush 9, 2) := by decide +kernel
theorem dX4_init_62 : decode cX4_init 62 = .ok (.newarray .int, 2) := by decide +kernel
theorem dX4_init_64 : decode cX4_init 64 = .ok (.putfield 40, 3) := by decide +kernel
theorem dX4_init_67 : decode cX4_init 67 = .ok (.iconst 0, 1) := by decide +kernel
theorem dX4_init_68 : decode cX4_init 68 = .ok (.istore_n 1, 1) := by decide +kernel
theorem dX4_init_69 : decode cX4_init 69 = .ok (.iload_n 1, 1) := by decide +kernel
theorem dX4_init_70 : decode cX4_init 70 = .ok (.bipush 16, 2) := by decide +kernel
theorem dX4_init_72 : decode cX4_init 72 = .ok (.if_icmp .ge 22, 3) := by decide +kernel
theorem dX4_init_75 : decode cX4_init 75 = .ok (.aload_n 0, 1) := by decide +kernel
theorem dX4_init_76 : decode cX4_init 76 = .ok (.getfield 11, 3) := by decide +kernel
theorem dX4_init_79 : decode cX4_init 79 = .ok (.iload_n 1, 1) := by decide +kernel
theorem dX4_init_80 : decode cX4_init 80 = .ok (.new 9, 3) := by decide +kernel
theorem dX4_init_83 : decode cX4_init 83 = .ok (.dup, 1) := by decide +kernel
theorem dX4_init_84 : decode cX4_init 84 = .ok (.invokespecial 43, 3) := by decide +kernel
theorem dX4_init_87 : decode cX4_init 87 = .ok (.aastore, 1) := by decide +kernel
theorem dX4_init_88 : decode cX4_init 88 = .ok (.iinc 1 1, 3) := by decide +kernel
theorem dX4_init_91 : decode cX4_init 91 = .ok (.goto (-22), 3) := by decide +kernel
theorem dX4_init_94 : decode cX4_init 94 = .ok (.return_, 1) := by decide +kernel
theorem dX4_sums_0 : decode cX4_sums 0 = .ok (.iload_n 1, 1) := by decide +kernel
theorem dX4_sums_1 : decode cX4_sums 1 = .ok (.invokestatic 44, 3) := by decide +kernel
theorem dX4_sums_4 : decode cX4_sums 4 = .ok (.istore_n 2, 1) := by decide +kernel
theorem dX4_sums_5 : decode cX4_sums 5 = .ok (.iload_n 2, 1) := by decide +kernel
theorem dX4_sums_6 : decode cX4_sums 6 = .ok (.iconst (-1), 1) := by decide +kernel
theorem dX4_sums_7 : decode cX4_sums 7 = .ok (.if_icmp .ne 10, 3) := by decide +kernel
theorem dX4_sums_10 : decode cX4_sums 10 = .ok (.aload_n 0, 1) := by decide +kernel
theorem dX4_sums_11 : decode cX4_sums 11 = .ok (.bipush (-7), 2) := by decide +kernel
theorem dX4_sums_13 : decode cX4_sums 13 = .ok (.invokevirtual 48, 3) := by decide +kernel
theorem dX4_sums_16 : decode cX4_sums 16 = .ok (.ireturn, 1) := by decide +kernel
theorem dX4_sums_17 : decode cX4_sums 17 = .ok (.aload_n 0, 1) := by decide +kernel
theorem dX4_sums_18 : decode cX4_sums 18 = .ok (.iload_n 1, 1) := by decide +kernel
theorem dX4_sums_19 : decode cX4_sums 19 = .ok (.invokevirtual 51, 3) := by decide +kernel
theorem dX4_sums_22 : decode cX4_sums 22 = .ok (.ifCond .ne 10, 3) := by decide +kernel
theorem dX4_sums_25 : decode cX4_sums 25 = .ok (.aload_n 0, 1) := by decide +kernel
theorem dX4_sums_26 : decode cX4_sums 26 = .ok (.bipush (-8), 2) := by decide +kernel
theorem dX4_sums_28 : decode cX4_sums 28 = .ok (.invokevirtual 48, 3) := by decide +kernel
theorem dX4_sums_31 : decode cX4_sums 31 = .ok (.ireturn, 1) := by decide +kernel
theorem dX4_sums_32 : decode cX4_sums 32 = .ok (.getstatic 55, 3) := by decide +kernel
theorem dX4_sums_35 : decode cX4_sums 35 = .ok (.iload_n 2, 1) := by decide +kernel
theorem dX4_sums_36 : decode cX4_sums 36 = .ok (.iaload, 1) := by decide +kernel
theorem dX4_sums_37 : decode cX4_sums 37 = .ok (.i2l, 1) := by decide +kernel
theorem dX4_sums_38 : decode cX4_sums 38 = .ok (.getstatic 58, 3) := by decide +kernel
theorem dX4_sums_41 : decode cX4_sums 41 = .ok (.iload_n 2, 1) := by decide +kernel
theorem dX4_sums_42 : decode cX4_sums 42 = .ok (.iaload, 1) := by decide +kernel
theorem dX4_sums_43 : decode cX4_sums 43 = .ok (.i2l, 1) := by decide +kernel
theorem dX4_sums_44 : decode cX4_sums 44 = .ok (.invokestatic 61, 3) := by decide +kernel
theorem dX4_sums_47 : decode cX4_sums 47 = .ok (.lstore_n 3, 1) := by decide +kernel
theorem dX4_sums_48 : decode cX4_sums 48 = .ok (.lload_n 3, 1) := by decide +kernel
theorem dX4_sums_49 : decode cX4_sums 49 = .ok (.iload_n 1, 1) := by decide +kernel
theorem dX4_sums_50 : decode cX4_sums 50 = .ok (.iconst 1, 1) := by decide +kernel
theorem dX4_sums_51 : decode cX4_sums 51 = .ok (.isub, 1) := by decide +kernel
theorem dX4_sums_52 : decode cX4_sums 52 = .ok (.aload_n 0, 1) := by decide +kernel
theorem dX4_sums_53 : decode cX4_sums 53 = .ok (.getfield 11, 3) := by decide +kernel
theorem dX4_sums_56 : decode cX4_sums 56 = .ok (.aload_n 0, 1) := by decide +kernel
theorem dX4_sums_57 : decode cX4_sums 57 = .ok (.getfield 67, 3) := by decide +kernel
theorem dX4_sums_60 : decode cX4_sums 60 = .ok (.aaload, 1) := by decide +kernel
theorem dX4_sums_61 : decode cX4_sums 61 = .ok (.getfield 70, 3) := by decide +kernel
theorem dX4_sums_64 : decode cX4_sums 64 = .ok (.invokestatic 73, 3) := by decide +kernel
theorem dX4_sums_67 : decode cX4_sums 67 = .ok (.aload_n 0, 1) := by decide +kernel
theorem dX4_sums_68 : decode cX4_sums 68 = .ok (.iconst 1, 1) := by decide +kernel
theorem dX4_sums_69 : decode cX4_sums 69 = .ok (.iload_n 1, 1) := by decide +kernel
theorem dX4_sums_70 : decode cX4_sums 70 = .ok (.iload_n 1, 1) := by decide +kernel
theorem dX4_sums_71 : decode cX4_sums 71 = .ok (.invokevirtual 79, 3) := by decide +kernel
theorem dX4_sums_74 : decode cX4_sums 74 = .ok (.ireturn, 1) := by decide +kernel
theorem dX4_product_0 : decode cX4_product 0 = .ok (.iload_n 1, 1) := by decide +kernel
theorem dX4_product_1 : decode cX4_product 1 = .ok (.iconst 1, 1) := by decide +kernel
theorem dX4_product_2 : decode cX4_product 2 = .ok (.if_icmp .lt 8, 3) := by decide +kernel
theorem dX4_product_5 : decode cX4_product 5 = .ok (.iload_n 1, 1) := by decide +kernel
theorem dX4_product_6 : decode cX4_product 6 = .ok (.iconst 3, 1) := by decide +kernel
theorem dX4_product_7 : decode cX4_product 7 = .ok (.if_icmp .le 10, 3) := by decide +kernel
theorem dX4_product_10 : decode cX4_product 10 = .ok (.aload_n 0, 1) := by decide +kernel
theorem dX4_product_11 : decode cX4_product 11 = .ok (.bipush (-7), 2) := by decide +kernel
theorem dX4_product_13 : decode cX4_product 13 = .ok (.invokevirtual 48, 3) := by decide +kernel
theorem dX4_product_16 : decode cX4_product 16 = .ok (.ireturn, 1) := by decide +kernel
theorem dX4_product_17 : decode cX4_product 17 = .ok (.bipush 12, 2) := by decide +kernel
theorem dX4_product_19 : decode cX4_product 19 = .ok (.iload_n 1, 1) := by decide +kernel
theorem dX4_product_20 : decode cX4_product 20 = .ok (.imul, 1) := by decide +kernel
theorem dX4_product_21 : decode cX4_product 21 = .ok (.istore_n 2, 1) := by decide +kernel
theorem dX4_product_22 : decode cX4_product 22 = .ok (.aload_n 0, 1) := by decide +kernel
theorem dX4_product_23 : decode cX4_product 23 = .ok (.iload_n 2, 1) := by decide +kernel
theorem dX4_product_24 : decode cX4_product 24 = .ok (.invokevirtual 51, 3) := by decide +kernel
theorem dX4_product_27 : decode cX4_product 27 = .ok (.ifCond .ne 10, 3) := by decide +kernel
theorem dX4_product_30 : decode cX4_product 30 = .ok (.aload_n 0, 1) := by decide +kernel
theorem dX4_product_31 : decode cX4_product 31 = .ok (.bipush (-8), 2) := by decide +kernel
theorem dX4_product_33 : decode cX4_product 33 = .ok (.invokevirtual 48, 3) := by decide +kernel
theorem dX4_product_36 : decode cX4_product 36 = .ok (.ireturn, 1) := by decide +kernel
theorem dX4_product_37 : decode cX4_product 37 = .ok (.aload_n 0, 1) := by decide +kernel
theorem dX4_product_38 : decode cX4_product 38 = .ok (.getfield 18, 3) := by decide +kernel
theorem dX4_product_41 : decode cX4_product 41 = .ok (.getfield 83, 3) := by decide +kernel
theorem dX4_product_44 : decode cX4_product 44 = .ok (.iload_n 1, 1) := by decide +kernel
theorem dX4_product_45 : decode cX4_product 45 = .ok (.aload_n 0, 1) := by decide +kernel
theorem dX4_product_46 : decode cX4_product 46 = .ok (.getfield 11, 3) := by decide +kernel
theorem dX4_product_49 : decode cX4_product 49 = .ok (.aload_n 0, 1) := by decide +kernel
theorem dX4_product_50 : decode cX4_product 50 = .ok (.getfield 67, 3) := by decide +kernel
theorem dX4_product_53 : decode cX4_product 53 = .ok (.aaload, 1) := by decide +kernel
theorem dX4_product_54 : decode cX4_product 54 = .ok (.getfield 70, 3) := by decide +kernel
theorem dX4_product_57 : decode cX4_product 57 = .ok (.invokestatic 86, 3) := by decide +kernel
theorem dX4_product_60 : decode cX4_product 60 = .ok (.aload_n 0, 1) := by decide +kernel
theorem dX4_product_61 : decode cX4_product 61 = .ok (.iconst 2, 1) := by decide +kernel
theorem dX4_product_62 : decode cX4_product 62 = .ok (.iload_n 2, 1) := by decide +kernel
theorem dX4_product_63 : decode cX4_product 63 = .ok (.iload_n 1, 1) := by decide +kernel
theorem dX4_product_64 : decode cX4_product 64 = .ok (.invokevirtual 79, 3) := by decide +kernel
theorem dX4_product_67 : decode cX4_product 67 = .ok (.ireturn, 1) := by decide +kernel
theorem dX4_add_0 : decode cX4_add 0 = .ok (.aload_n 0, 1) := by decide +kernel
theorem dX4_add_1 : decode cX4_add 1 = .ok (.iload_n 1, 1) := by decide +kernel
theorem dX4_add_2 : decode cX4_add 2 = .ok (.invokevirtual 90, 3) := by decide +kernel
theorem dX4_add_5 : decode cX4_add 5 = .ok (.ifCond .eq 11, 3) := by decide +kernel
theorem dX4_add_8 : decode cX4_add 8 = .ok (.aload_n 0, 1) := by decide +kernel
theorem dX4_add_9 : decode cX4_add 9 = .ok (.iload_n 3, 1) := by decide +kernel
theorem dX4_add_10 : decode cX4_add 10 = .ok (.invokevirtual 90, 3) := by decide +kernel
theorem dX4_add_13 : decode cX4_add 13 = .ok (.ifCond .ne 10, 3) := by decide +kernel
theorem dX4_add_16 : decode cX4_add 16 = .ok (.aload_n 0, 1) := by decide +kernel
theorem dX4_add_17 : decode cX4_add 17 = .ok (.bipush (-3), 2) := by decide +kernel
theorem dX4_add_19 : decode cX4_add 19 = .ok (.invokevirtual 48, 3) := by decide +kernel
theorem dX4_add_22 : decode cX4_add 22 = .ok (.ireturn, 1) := by decide +kernel
theorem dX4_add_23 : decode cX4_add 23 = .ok (.aload_n 0, 1) := by decide +kernel
theorem dX4_add_24 : decode cX4_add 24 = .ok (.getfield 11, 3) := by decide +kernel
theorem dX4_add_27 : decode cX4_add 27 = .ok (.iload_n 1, 1) := by decide +kernel
theorem dX4_add_28 : decode cX4_add 28 = .ok (.aaload, 1) := by decide +kernel
theorem dX4_add_29 : decode cX4_add 29 = .ok (.getfield 93, 3) := by decide +kernel
theorem dX4_add_32 : decode cX4_add 32 = .ok (.istore 5, 2) := by decide +kernel
theorem dX4_add_34 : decode cX4_add 34 = .ok (.iload 5, 2) := by decide +kernel
theorem dX4_add_36 : decode cX4_add 36 = .ok (.aload_n 0, 1) := by decide +kernel
theorem dX4_add_37 : decode cX4_add 37 = .ok (.getfield 11, 3) := by decide +kernel
theorem dX4_add_40 : decode cX4_add 40 = .ok (.iload_n 3, 1) := by decide +kernel
theorem dX4_add_41 : decode cX4_add 41 = .ok (.aaload, 1) := by decide +kernel
theorem dX4_add_42 : decode cX4_add 42 = .ok (.getfield 93, 3) := by decide +kernel
theorem dX4_add_45 : decode cX4_add 45 = .ok (.if_icmp .eq 10, 3) := by decide +kernel
theorem dX4_add_48 : decode cX4_add 48 = .ok (.aload_n 0, 1) := by decide +kernel
theorem dX4_add_49 : decode cX4_add 49 = .ok (.bipush (-7), 2) := by decide +kernel
theorem dX4_add_51 : decode cX4_add 51 = .ok (.invokevirtual 48, 3) := by decide +kernel
theorem dX4_add_54 : decode cX4_add 54 = .ok (.ireturn, 1) := by decide +kernel
theorem dX4_add_55 : decode cX4_add 55 = .ok (.aload_n 0, 1) := by decide +kernel
theorem dX4_add_56 : decode cX4_add 56 = .ok (.iload 5, 2) := by decide +kernel
theorem dX4_add_58 : decode cX4_add 58 = .ok (.invokevirtual 51, 3) := by decide +kernel
theorem dX4_add_61 : decode cX4_add 61 = .ok (.ifCond .ne 10, 3) := by decide +kernel
theorem dX4_add_64 : decode cX4_add 64 = .ok (.aload_n 0, 1) := by decide +kernel
theorem dX4_add_65 : decode cX4_add 65 = .ok (.bipush (-8), 2) := by decide +kernel
theorem dX4_add_67 : decode cX4_add 67 = .ok (.invokevirtual 48, 3) := by decide +kernel
theorem dX4_add_70 : decode cX4_add 70 = .ok (.ireturn, 1) := by decide +kernel
theorem dX4_add_71 : decode cX4_add 71 = .ok (.aload_n 0, 1) := by decide +kernel
theorem dX4_add_72 : decode cX4_add 72 = .ok (.getfield 11, 3) := by decide +kernel
theorem dX4_add_75 : decode cX4_add 75 = .ok (.iload_n 1, 1) := by decide +kernel
theorem dX4_add_76 : decode cX4_add 76 = .ok (.aaload, 1) := by decide +kernel
theorem dX4_add_77 : decode cX4_add 77 = .ok (.getfield 70, 3) := by decide +kernel
theorem dX4_add_80 : decode cX4_add 80 = .ok (.astore 6, 2) := by decide +kernel
theorem dX4_add_82 : decode cX4_add 82 = .ok (.aload_n 0, 1) := by decide +kernel
theorem dX4_add_83 : decode cX4_add 83 = .ok (.getfield 11, 3) := by decide +kernel
theorem dX4_add_86 : decode cX4_add 86 = .ok (.iload_n 3, 1) := by decide +kernel
theorem dX4_add_87 : decode cX4_add 87 = .ok (.aaload, 1) := by decide +kernel
theorem dX4_add_88 : decode cX4_add 88 = .ok (.getfield 70, 3) := by decide +kernel
theorem dX4_add_91 : decode cX4_add 91 = .ok (.astore 7, 2) := by decide +kernel
theorem dX4_add_93 : decode cX4_add 93 = .ok (.aload_n 0, 1) := by decide +kernel
theorem dX4_add_94 : decode cX4_add 94 = .ok (.getfield 11, 3) := by decide +kernel
theorem dX4_add_97 : decode cX4_add 97 = .ok (.aload_n 0, 1) := by decide +kernel
theorem dX4_add_98 : decode cX4_add 98 = .ok (.getfield 67, 3) := by decide +kernel
theorem dX4_add_101 : decode cX4_add 101 = .ok (.aaload, 1) := by decide +kernel
theorem dX4_add_102 : decode cX4_add 102 = .ok (.getfield 70, 3) := by decide +kernel
theorem dX4_add_105 : decode cX4_add 105 = .ok (.astore 8, 2) := by decide +kernel
theorem dX4_add_107 : decode cX4_add 107 = .ok (.iconst 0, 1) := by decide +kernel
theorem dX4_add_108 : decode cX4_add 108 = .ok (.istore 9, 2) := by decide +kernel
theorem dX4_add_110 : decode cX4_add 110 = .ok (.iload 9, 2) := by decide +kernel
theorem dX4_add_112 : decode cX4_add 112 = .ok (.bipush 48, 2) := by decide +kernel
theorem dX4_add_114 : decode cX4_add 114 = .ok (.if_icmp .ge 35, 3) := by decide +kernel
theorem dX4_add_117 : decode cX4_add 117 = .ok (.aload 8, 2) := by decide +kernel
theorem dX4_add_119 : decode cX4_add 119 = .ok (.iload 9, 2) := by decide +kernel
theorem dX4_add_121 : decode cX4_add 121 = .ok (.iload_n 2, 1) := by decide +kernel
theorem dX4_add_122 : decode cX4_add 122 = .ok (.i2l, 1) := by decide +kernel
theorem dX4_add_123 : decode cX4_add 123 = .ok (.aload 6, 2) := by decide +kernel
theorem dX4_add_125 : decode cX4_add 125 = .ok (.iload 9, 2) := by decide +kernel
theorem dX4_add_127 : decode cX4_add 127 = .ok (.laload, 1) := by decide +kernel
theorem dX4_add_128 : decode cX4_add 128 = .ok (.lmul, 1) := by decide +kernel
theorem dX4_add_129 : decode cX4_add 129 = .ok (.iload 4, 2) := by decide +kernel
theorem dX4_add_131 : decode cX4_add 131 = .ok (.i2l, 1) := by decide +kernel
theorem dX4_add_132 : decode cX4_add 132 = .ok (.aload 7, 2) := by decide +kernel
theorem dX4_add_134 : decode cX4_add 134 = .ok (.iload 9, 2) := by decide +kernel
theorem dX4_add_136 : decode cX4_add 136 = .ok (.laload, 1) := by decide +kernel
theorem dX4_add_137 : decode cX4_add 137 = .ok (.lmul, 1) := by decide +kernel
theorem dX4_add_138 : decode cX4_add 138 = .ok (.ladd, 1) := by decide +kernel
theorem dX4_add_139 : decode cX4_add 139 = .ok (.invokestatic 96, 3) := by decide +kernel
theorem dX4_add_142 : decode cX4_add 142 = .ok (.lastore, 1) := by decide +kernel
theorem dX4_add_143 : decode cX4_add 143 = .ok (.iinc 9 1, 3) := by decide +kernel
theorem dX4_add_146 : decode cX4_add 146 = .ok (.goto (-36), 3) := by decide +kernel
theorem dX4_add_149 : decode cX4_add 149 = .ok (.aload_n 0, 1) := by decide +kernel
theorem dX4_add_150 : decode cX4_add 150 = .ok (.iload 5, 2) := by decide +kernel
theorem dX4_add_152 : decode cX4_add 152 = .ok (.invokevirtual 100, 3) := by decide +kernel
theorem dX4_add_155 : decode cX4_add 155 = .ok (.ireturn, 1) := by decide +kernel
theorem dX4_times_0 : decode cX4_times 0 = .ok (.aload_n 0, 1) := by decide +kernel
theorem dX4_times_1 : decode cX4_times 1 = .ok (.iload_n 1, 1) := by decide +kernel
theorem dX4_times_2 : decode cX4_times 2 = .ok (.invokevirtual 90, 3) := by decide +kernel
theorem dX4_times_5 : decode cX4_times 5 = .ok (.ifCond .eq 11, 3) := by decide +kernel
theorem dX4_times_8 : decode cX4_times 8 = .ok (.aload_n 0, 1) := by decide +kernel
theorem dX4_times_9 : decode cX4_times 9 = .ok (.iload_n 2, 1) := by decide +kernel
theorem dX4_times_10 : decode cX4_times 10 = .ok (.invokevirtual 90, 3) := by decide +kernel
theorem dX4_times_13 : decode cX4_times 13 = .ok (.ifCond .ne 10, 3) := by decide +kernel
theorem dX4_times_16 : decode cX4_times 16 = .ok (.aload_n 0, 1) := by decide +kernel
theorem dX4_times_17 : decode cX4_times 17 = .ok (.bipush (-3), 2) := by decide +kernel
theorem dX4_times_19 : decode cX4_times 19 = .ok (.invokevirtual 48, 3) := by decide +kernel
theorem dX4_times_22 : decode cX4_times 22 = .ok (.ireturn, 1) := by decide +kernel
theorem dX4_times_23 : decode cX4_times 23 = .ok (.aload_n 0, 1) := by decide +kernel
theorem dX4_times_24 : decode cX4_times 24 = .ok (.getfield 11, 3) := by decide +kernel
theorem dX4_times_27 : decode cX4_times 27 = .ok (.iload_n 1, 1) := by decide +kernel
theorem dX4_times_28 : decode cX4_times 28 = .ok (.aaload, 1) := by decide +kernel
theorem dX4_times_29 : decode cX4_times 29 = .ok (.getfield 93, 3) := by decide +kernel
theorem dX4_times_32 : decode cX4_times 32 = .ok (.aload_n 0, 1) := by decide +kernel
theorem dX4_times_33 : decode cX4_times 33 = .ok (.getfield 11, 3) := by decide +kernel
theorem dX4_times_36 : decode cX4_times 36 = .ok (.iload_n 2, 1) := by decide +kernel
theorem dX4_times_37 : decode cX4_times 37 = .ok (.aaload, 1) := by decide +kernel
theorem dX4_times_38 : decode cX4_times 38 = .ok (.getfield 93, 3) := by decide +kernel
theorem dX4_times_41 : decode cX4_times 41 = .ok (.iadd, 1) := by decide +kernel
theorem dX4_times_42 : decode cX4_times 42 = .ok (.istore_n 3, 1) := by decide +kernel
theorem dX4_times_43 : decode cX4_times 43 = .ok (.aload_n 0, 1) := by decide +kernel
theorem dX4_times_44 : decode cX4_times 44 = .ok (.iload_n 3, 1) := by decide +kernel
theorem dX4_times_45 : decode cX4_times 45 = .ok (.invokevirtual 51, 3) := by decide +kernel
theorem dX4_times_48 : decode cX4_times 48 = .ok (.ifCond .ne 10, 3) := by decide +kernel
theorem dX4_times_51 : decode cX4_times 51 = .ok (.aload_n 0, 1) := by decide +kernel
theorem dX4_times_52 : decode cX4_times 52 = .ok (.bipush (-8), 2) := by decide +kernel
theorem dX4_times_54 : decode cX4_times 54 = .ok (.invokevirtual 48, 3) := by decide +kernel
theorem dX4_times_57 : decode cX4_times 57 = .ok (.ireturn, 1) := by decide +kernel
theorem dX4_times_58 : decode cX4_times 58 = .ok (.aload_n 0, 1) := by decide +kernel
theorem dX4_times_59 : decode cX4_times 59 = .ok (.getfield 11, 3) := by decide +kernel
theorem dX4_times_62 : decode cX4_times 62 = .ok (.iload_n 1, 1) := by decide +kernel
theorem dX4_times_63 : decode cX4_times 63 = .ok (.aaload, 1) := by decide +kernel
theorem dX4_times_64 : decode cX4_times 64 = .ok (.getfield 70, 3) := by decide +kernel
theorem dX4_times_67 : decode cX4_times 67 = .ok (.aload_n 0, 1) := by decide +kernel
theorem dX4_times_68 : decode cX4_times 68 = .ok (.getfield 11, 3) := by decide +kernel
theorem dX4_times_71 : decode cX4_times 71 = .ok (.iload_n 2, 1) := by decide +kernel
theorem dX4_times_72 : decode cX4_times 72 = .ok (.aaload, 1) := by decide +kernel
theorem dX4_times_73 : decode cX4_times 73 = .ok (.getfield 70, 3) := by decide +kernel
theorem dX4_times_76 : decode cX4_times 76 = .ok (.aload_n 0, 1) := by decide +kernel
theorem dX4_times_77 : decode cX4_times 77 = .ok (.getfield 11, 3) := by decide +kernel
theorem dX4_times_80 : decode cX4_times 80 = .ok (.aload_n 0, 1) := by decide +kernel
theorem dX4_times_81 : decode cX4_times 81 = .ok (.getfield 67, 3) := by decide +kernel
theorem dX4_times_84 : decode cX4_times 84 = .ok (.aaload, 1) := by decide +kernel
theorem dX4_times_85 : decode cX4_times 85 = .ok (.getfield 70, 3) := by decide +kernel
theorem dX4_times_88 : decode cX4_times 88 = .ok (.invokestatic 103, 3) := by decide +kernel
theorem dX4_times_91 : decode cX4_times 91 = .ok (.aload_n 0, 1) := by decide +kernel
theorem dX4_times_92 : decode cX4_times 92 = .ok (.iload_n 3, 1) := by decide +kernel
theorem dX4_times_93 : decode cX4_times 93 = .ok (.invokevirtual 100, 3) := by decide +kernel
theorem dX4_times_96 : decode cX4_times 96 = .ok (.ireturn, 1) := by decide +kernel
theorem dX4_power_0 : decode cX4_power 0 = .ok (.aload_n 0, 1) := by decide +kernel
theorem dX4_power_1 : decode cX4_power 1 = .ok (.iload_n 1, 1) := by decide +kernel
theorem dX4_power_2 : decode cX4_power 2 = .ok (.invokevirtual 90, 3) := by decide +kernel
theorem dX4_power_5 : decode cX4_power 5 = .ok (.ifCond .ne 10, 3) := by decide +kernel
theorem dX4_power_8 : decode cX4_power 8 = .ok (.aload_n 0, 1) := by decide +kernel
theorem dX4_power_9 : decode cX4_power 9 = .ok (.bipush (-3), 2) := by decide +kernel
theorem dX4_power_11 : decode cX4_power 11 = .ok (.invokevirtual 48, 3) := by decide +kernel
theorem dX4_power_14 : decode cX4_power 14 = .ok (.ireturn, 1) := by decide +kernel
theorem dX4_power_15 : decode cX4_power 15 = .ok (.iload_n 2, 1) := by decide +kernel
theorem dX4_power_16 : decode cX4_power 16 = .ok (.ifCond .ge 10, 3) := by decide +kernel
theorem dX4_power_19 : decode cX4_power 19 = .ok (.aload_n 0, 1) := by decide +kernel
theorem dX4_power_20 : decode cX4_power 20 = .ok (.bipush (-4), 2) := by decide +kernel
theorem dX4_power_22 : decode cX4_power 22 = .ok (.invokevirtual 48, 3) := by decide +kernel
theorem dX4_power_25 : decode cX4_power 25 = .ok (.ireturn, 1) := by decide +kernel
theorem dX4_power_26 : decode cX4_power 26 = .ok (.iload_n 2, 1) := by decide +kernel
theorem dX4_power_27 : decode cX4_power 27 = .ok (.bipush 20, 2) := by decide +kernel
theorem dX4_power_29 : decode cX4_power 29 = .ok (.if_icmp .le 10, 3) := by decide +kernel
theorem dX4_power_32 : decode cX4_power 32 = .ok (.aload_n 0, 1) := by decide +kernel
theorem dX4_power_33 : decode cX4_power 33 = .ok (.bipush (-7), 2) := by decide +kernel
theorem dX4_power_35 : decode cX4_power 35 = .ok (.invokevirtual 48, 3) := by decide +kernel
theorem dX4_power_38 : decode cX4_power 38 = .ok (.ireturn, 1) := by decide +kernel
theorem dX4_power_39 : decode cX4_power 39 = .ok (.aload_n 0, 1) := by decide +kernel
theorem dX4_power_40 : decode cX4_power 40 = .ok (.getfield 11, 3) := by decide +kernel
theorem dX4_power_43 : decode cX4_power 43 = .ok (.iload_n 1, 1) := by decide +kernel
theorem dX4_power_44 : decode cX4_power 44 = .ok (.aaload, 1) := by decide +kernel
theorem dX4_power_45 : decode cX4_power 45 = .ok (.getfield 93, 3) := by decide +kernel
theorem dX4_power_48 : decode cX4_power 48 = .ok (.iload_n 2, 1) := by decide +kernel
theorem dX4_power_49 : decode cX4_power 49 = .ok (.imul, 1) := by decide +kernel
theorem dX4_power_50 : decode cX4_power 50 = .ok (.istore_n 3, 1) := by decide +kernel
theorem dX4_power_51 : decode cX4_power 51 = .ok (.aload_n 0, 1) := by decide +kernel
theorem dX4_power_52 : decode cX4_power 52 = .ok (.iload_n 3, 1) := by decide +kernel
theorem dX4_power_53 : decode cX4_power 53 = .ok (.invokevirtual 51, 3) := by decide +kernel
theorem dX4_power_56 : decode cX4_power 56 = .ok (.ifCond .ne 10, 3) := by decide +kernel
theorem dX4_power_59 : decode cX4_power 59 = .ok (.aload_n 0, 1) := by decide +kernel
theorem dX4_power_60 : decode cX4_power 60 = .ok (.bipush (-8), 2) := by decide +kernel
theorem dX4_power_62 : decode cX4_power 62 = .ok (.invokevirtual 48, 3) := by decide +kernel
theorem dX4_power_65 : decode cX4_power 65 = .ok (.ireturn, 1) := by decide +kernel
theorem dX4_power_66 : decode cX4_power 66 = .ok (.aload_n 0, 1) := by decide +kernel
theorem dX4_power_67 : decode cX4_power 67 = .ok (.getfield 11, 3) := by decide +kernel
theorem dX4_power_70 : decode cX4_power 70 = .ok (.iload_n 1, 1) := by decide +kernel
theorem dX4_power_71 : decode cX4_power 71 = .ok (.aaload, 1) := by decide +kernel
theorem dX4_power_72 : decode cX4_power 72 = .ok (.getfield 70, 3) := by decide +kernel
theorem dX4_power_75 : decode cX4_power 75 = .ok (.iload_n 2, 1) := by decide +kernel
theorem dX4_power_76 : decode cX4_power 76 = .ok (.aload_n 0, 1) := by decide +kernel
theorem dX4_power_77 : decode cX4_power 77 = .ok (.getfield 11, 3) := by decide +kernel
theorem dX4_power_80 : decode cX4_power 80 = .ok (.aload_n 0, 1) := by decide +kernel
theorem dX4_power_81 : decode cX4_power 81 = .ok (.getfield 67, 3) := by decide +kernel
theorem dX4_power_84 : decode cX4_power 84 = .ok (.aaload, 1) := by decide +kernel
theorem dX4_power_85 : decode cX4_power 85 = .ok (.getfield 70, 3) := by decide +kernel
theorem dX4_power_88 : decode cX4_power 88 = .ok (.invokestatic 86, 3) := by decide +kernel
theorem dX4_power_91 : decode cX4_power 91 = .ok (.aload_n 0, 1) := by decide +kernel
theorem dX4_power_92 : decode cX4_power 92 = .ok (.iload_n 3, 1) := by decide +kernel
theorem dX4_power_93 : decode cX4_power 93 = .ok (.invokevirtual 100, 3) := by decide +kernel
theorem dX4_power_96 : decode cX4_power 96 = .ok (.ireturn, 1) := by decide +kernel
theorem dX4_slope_0 : decode cX4_slope 0 = .ok (.aload_n 0, 1) := by decide +kernel
theorem dX4_slope_1 : decode cX4_slope 1 = .ok (.iload_n 1, 1) := by decide +kernel
theorem dX4_slope_2 : decode cX4_slope 2 = .ok (.invokevirtual 90, 3) := by decide +kernel
theorem dX4_slope_5 : decode cX4_slope 5 = .ok (.ifCond .ne 10, 3) := by decide +kernel
theorem dX4_slope_8 : decode cX4_slope 8 = .ok (.aload_n 0, 1) := by decide +kernel
theorem dX4_slope_9 : decode cX4_slope 9 = .ok (.bipush (-3), 2) := by decide +kernel
theorem dX4_slope_11 : decode cX4_slope 11 = .ok (.invokevirtual 48, 3) := by decide +kernel
theorem dX4_slope_14 : decode cX4_slope 14 = .ok (.ireturn, 1) := by decide +kernel
theorem dX4_slope_15 : decode cX4_slope 15 = .ok (.aload_n 0, 1) := by decide +kernel
theorem dX4_slope_16 : decode cX4_slope 16 = .ok (.getfield 11, 3) := by decide +kernel
theorem dX4_slope_19 : decode cX4_slope 19 = .ok (.iload_n 1, 1) := by decide +kernel
theorem dX4_slope_20 : decode cX4_slope 20 = .ok (.aaload, 1) := by decide +kernel
theorem dX4_slope_21 : decode cX4_slope 21 = .ok (.getfield 93, 3) := by decide +kernel
theorem dX4_slope_24 : decode cX4_slope 24 = .ok (.iconst 2, 1) := by decide +kernel
theorem dX4_slope_25 : decode cX4_slope 25 = .ok (.iadd, 1) := by decide +kernel
theorem dX4_slope_26 : decode cX4_slope 26 = .ok (.istore_n 2, 1) := by decide +kernel
theorem dX4_slope_27 : decode cX4_slope 27 = .ok (.aload_n 0, 1) := by decide +kernel
theorem dX4_slope_28 : decode cX4_slope 28 = .ok (.iload_n 2, 1) := by decide +kernel
theorem dX4_slope_29 : decode cX4_slope 29 = .ok (.invokevirtual 51, 3) := by decide +kernel
theorem dX4_slope_32 : decode cX4_slope 32 = .ok (.ifCond .ne 10, 3) := by decide +kernel
theorem dX4_slope_35 : decode cX4_slope 35 = .ok (.aload_n 0, 1) := by decide +kernel
theorem dX4_slope_36 : decode cX4_slope 36 = .ok (.bipush (-8), 2) := by decide +kernel
theorem dX4_slope_38 : decode cX4_slope 38 = .ok (.invokevirtual 48, 3) := by decide +kernel
theorem dX4_slope_41 : decode cX4_slope 41 = .ok (.ireturn, 1) := by decide +kernel
theorem dX4_slope_42 : decode cX4_slope 42 = .ok (.aload_n 0, 1) := by decide +kernel
theorem dX4_slope_43 : decode cX4_slope 43 = .ok (.getfield 11, 3) := by decide +kernel
theorem dX4_slope_46 : decode cX4_slope 46 = .ok (.iload_n 1, 1) := by decide +kernel
theorem dX4_slope_47 : decode cX4_slope 47 = .ok (.aaload, 1) := by decide +kernel
theorem dX4_slope_48 : decode cX4_slope 48 = .ok (.getfield 70, 3) := by decide +kernel
theorem dX4_slope_51 : decode cX4_slope 51 = .ok (.astore_n 3, 1) := by decide +kernel
theorem dX4_slope_52 : decode cX4_slope 52 = .ok (.aload_n 0, 1) := by decide +kernel
theorem dX4_slope_53 : decode cX4_slope 53 = .ok (.getfield 11, 3) := by decide +kernel
theorem dX4_slope_56 : decode cX4_slope 56 = .ok (.aload_n 0, 1) := by decide +kernel
theorem dX4_slope_57 : decode cX4_slope 57 = .ok (.getfield 67, 3) := by decide +kernel
theorem dX4_slope_60 : decode cX4_slope 60 = .ok (.aaload, 1) := by decide +kernel
theorem dX4_slope_61 : decode cX4_slope 61 = .ok (.getfield 70, 3) := by decide +kernel
theorem dX4_slope_64 : decode cX4_slope 64 = .ok (.astore 4, 2) := by decide +kernel
theorem dX4_slope_66 : decode cX4_slope 66 = .ok (.aload_n 0, 1) := by decide +kernel
theorem dX4_slope_67 : decode cX4_slope 67 = .ok (.getfield 11, 3) := by decide +kernel
theorem dX4_slope_70 : decode cX4_slope 70 = .ok (.iload_n 1, 1) := by decide +kernel
theorem dX4_slope_71 : decode cX4_slope 71 = .ok (.aaload, 1) := by decide +kernel
theorem dX4_slope_72 : decode cX4_slope 72 = .ok (.getfield 93, 3) := by decide +kernel
theorem dX4_slope_75 : decode cX4_slope 75 = .ok (.i2l, 1) := by decide +kernel
theorem dX4_slope_76 : decode cX4_slope 76 = .ok (.ldc2_w 107, 3) := by decide +kernel
theorem dX4_slope_79 : decode cX4_slope 79 = .ok (.invokestatic 61, 3) := by decide +kernel
theorem dX4_slope_82 : decode cX4_slope 82 = .ok (.lstore 5, 2) := by decide +kernel
theorem dX4_slope_84 : decode cX4_slope 84 = .ok (.aload_n 0, 1) := by decide +kernel
theorem dX4_slope_85 : decode cX4_slope 85 = .ok (.getfield 18, 3) := by decide +kernel
theorem dX4_slope_88 : decode cX4_slope 88 = .ok (.getfield 109, 3) := by decide +kernel
theorem dX4_slope_91 : decode cX4_slope 91 = .ok (.aload_n 3, 1) := by decide +kernel
theorem dX4_slope_92 : decode cX4_slope 92 = .ok (.aload 4, 2) := by decide +kernel
theorem dX4_slope_94 : decode cX4_slope 94 = .ok (.invokestatic 103, 3) := by decide +kernel
theorem dX4_slope_97 : decode cX4_slope 97 = .ok (.iconst 0, 1) := by decide +kernel
theorem dX4_slope_98 : decode cX4_slope 98 = .ok (.istore 7, 2) := by decide +kernel
theorem dX4_slope_100 : decode cX4_slope 100 = .ok (.iload 7, 2) := by decide +kernel
theorem dX4_slope_102 : decode cX4_slope 102 = .ok (.bipush 48, 2) := by decide +kernel
theorem dX4_slope_104 : decode cX4_slope 104 = .ok (.if_icmp .ge 34, 3) := by decide +kernel
theorem dX4_slope_107 : decode cX4_slope 107 = .ok (.aload 4, 2) := by decide +kernel
theorem dX4_slope_109 : decode cX4_slope 109 = .ok (.iload 7, 2) := by decide +kernel
theorem dX4_slope_111 : decode cX4_slope 111 = .ok (.iload 7, 2) := by decide +kernel
theorem dX4_slope_113 : decode cX4_slope 113 = .ok (.i2l, 1) := by decide +kernel
theorem dX4_slope_114 : decode cX4_slope 114 = .ok (.aload_n 3, 1) := by decide +kernel
theorem dX4_slope_115 : decode cX4_slope 115 = .ok (.iload 7, 2) := by decide +kernel
theorem dX4_slope_117 : decode cX4_slope 117 = .ok (.laload, 1) := by decide +kernel
theorem dX4_slope_118 : decode cX4_slope 118 = .ok (.lmul, 1) := by decide +kernel
theorem dX4_slope_119 : decode cX4_slope 119 = .ok (.lload 5, 2) := by decide +kernel
theorem dX4_slope_121 : decode cX4_slope 121 = .ok (.aload 4, 2) := by decide +kernel
theorem dX4_slope_123 : decode cX4_slope 123 = .ok (.iload 7, 2) := by decide +kernel
theorem dX4_slope_125 : decode cX4_slope 125 = .ok (.laload, 1) := by decide +kernel
theorem dX4_slope_126 : decode cX4_slope 126 = .ok (.lmul, 1) := by decide +kernel
theorem dX4_slope_127 : decode cX4_slope 127 = .ok (.lsub, 1) := by decide +kernel
theorem dX4_slope_128 : decode cX4_slope 128 = .ok (.invokestatic 96, 3) := by decide +kernel
theorem dX4_slope_131 : decode cX4_slope 131 = .ok (.lastore, 1) := by decide +kernel
theorem dX4_slope_132 : decode cX4_slope 132 = .ok (.iinc 7 1, 3) := by decide +kernel
theorem dX4_slope_135 : decode cX4_slope 135 = .ok (.goto (-35), 3) := by decide +kernel
theorem dX4_slope_138 : decode cX4_slope 138 = .ok (.aload_n 0, 1) := by decide +kernel
theorem dX4_slope_139 : decode cX4_slope 139 = .ok (.iload_n 2, 1) := by decide +kernel
theorem dX4_slope_140 : decode cX4_slope 140 = .ok (.invokevirtual 100, 3) := by decide +kernel
theorem dX4_slope_143 : decode cX4_slope 143 = .ok (.ireturn, 1) := by decide +kernel
theorem dX4_bracket_0 : decode cX4_bracket 0 = .ok (.aload_n 0, 1) := by decide +kernel
theorem dX4_bracket_1 : decode cX4_bracket 1 = .ok (.iload_n 1, 1) := by decide +kernel
theorem dX4_bracket_2 : decode cX4_bracket 2 = .ok (.invokevirtual 90, 3) := by decide +kernel
theorem dX4_bracket_5 : decode cX4_bracket 5 = .ok (.ifCond .eq 11, 3) := by decide +kernel
theorem dX4_bracket_8 : decode cX4_bracket 8 = .ok (.aload_n 0, 1) := by decide +kernel
theorem dX4_bracket_9 : decode cX4_bracket 9 = .ok (.iload_n 2, 1) := by decide +kernel
theorem dX4_bracket_10 : decode cX4_bracket 10 = .ok (.invokevirtual 90, 3) := by decide +kernel
theorem dX4_bracket_13 : decode cX4_bracket 13 = .ok (.ifCond .ne 10, 3) := by decide +kernel
theorem dX4_bracket_16 : decode cX4_bracket 16 = .ok (.aload_n 0, 1) := by decide +kernel
theorem dX4_bracket_17 : decode cX4_bracket 17 = .ok (.bipush (-3), 2) := by decide +kernel
theorem dX4_bracket_19 : decode cX4_bracket 19 = .ok (.invokevirtual 48, 3) := by decide +kernel
theorem dX4_bracket_22 : decode cX4_bracket 22 = .ok (.ireturn, 1) := by decide +kernel
theorem dX4_bracket_23 : decode cX4_bracket 23 = .ok (.aload_n 0, 1) := by decide +kernel
theorem dX4_bracket_24 : decode cX4_bracket 24 = .ok (.getfield 11, 3) := by decide +kernel
theorem dX4_bracket_27 : decode cX4_bracket 27 = .ok (.iload_n 1, 1) := by decide +kernel
theorem dX4_bracket_28 : decode cX4_bracket 28 = .ok (.aaload, 1) := by decide +kernel
theorem dX4_bracket_29 : decode cX4_bracket 29 = .ok (.getfield 93, 3) := by decide +kernel
theorem dX4_bracket_32 : decode cX4_bracket 32 = .ok (.aload_n 0, 1) := by decide +kernel
theorem dX4_bracket_33 : decode cX4_bracket 33 = .ok (.getfield 11, 3) := by decide +kernel
theorem dX4_bracket_36 : decode cX4_bracket 36 = .ok (.iload_n 2, 1) := by decide +kernel
theorem dX4_bracket_37 : decode cX4_bracket 37 = .ok (.aaload, 1) := by decide +kernel
theorem dX4_bracket_38 : decode cX4_bracket 38 = .ok (.getfield 93, 3) := by decide +kernel
theorem dX4_bracket_41 : decode cX4_bracket 41 = .ok (.iadd, 1) := by decide +kernel
theorem dX4_bracket_42 : decode cX4_bracket 42 = .ok (.iconst 2, 1) := by decide +kernel
theorem dX4_bracket_43 : decode cX4_bracket 43 = .ok (.iadd, 1) := by decide +kernel
theorem dX4_bracket_44 : decode cX4_bracket 44 = .ok (.istore_n 3, 1) := by decide +kernel
theorem dX4_bracket_45 : decode cX4_bracket 45 = .ok (.aload_n 0, 1) := by decide +kernel
theorem dX4_bracket_46 : decode cX4_bracket 46 = .ok (.iload_n 3, 1) := by decide +kernel
theorem dX4_bracket_47 : decode cX4_bracket 47 = .ok (.invokevirtual 51, 3) := by decide +kernel
theorem dX4_bracket_50 : decode cX4_bracket 50 = .ok (.ifCond .ne 10, 3) := by decide +kernel
theorem dX4_bracket_53 : decode cX4_bracket 53 = .ok (.aload_n 0, 1) := by decide +kernel
theorem dX4_bracket_54 : decode cX4_bracket 54 = .ok (.bipush (-8), 2) := by decide +kernel
theorem dX4_bracket_56 : decode cX4_bracket 56 = .ok (.invokevirtual 48, 3) := by decide +kernel
theorem dX4_bracket_59 : decode cX4_bracket 59 = .ok (.ireturn, 1) := by decide +kernel
theorem dX4_bracket_60 : decode cX4_bracket 60 = .ok (.aload_n 0, 1) := by decide +kernel
theorem dX4_bracket_61 : decode cX4_bracket 61 = .ok (.getfield 11, 3) := by decide +kernel
theorem dX4_bracket_64 : decode cX4_bracket 64 = .ok (.iload_n 1, 1) := by decide +kernel
theorem dX4_bracket_65 : decode cX4_bracket 65 = .ok (.aaload, 1) := by decide +kernel
theorem dX4_bracket_66 : decode cX4_bracket 66 = .ok (.aload_n 0, 1) := by decide +kernel
theorem dX4_bracket_67 : decode cX4_bracket 67 = .ok (.getfield 11, 3) := by decide +kernel
theorem dX4_bracket_70 : decode cX4_bracket 70 = .ok (.iload_n 2, 1) := by decide +kernel
theorem dX4_bracket_71 : decode cX4_bracket 71 = .ok (.aaload, 1) := by decide +kernel
theorem dX4_bracket_72 : decode cX4_bracket 72 = .ok (.aload_n 0, 1) := by decide +kernel
theorem dX4_bracket_73 : decode cX4_bracket 73 = .ok (.getfield 11, 3) := by decide +kernel
theorem dX4_bracket_76 : decode cX4_bracket 76 = .ok (.aload_n 0, 1) := by decide +kernel
theorem dX4_bracket_77 : decode cX4_bracket 77 = .ok (.getfield 67, 3) := by decide +kernel
theorem dX4_bracket_80 : decode cX4_bracket 80 = .ok (.aaload, 1) := by decide +kernel
theorem dX4_bracket_81 : decode cX4_bracket 81 = .ok (.getfield 70, 3) := by decide +kernel
theorem dX4_bracket_84 : decode cX4_bracket 84 = .ok (.invokestatic 112, 3) := by decide +kernel
theorem dX4_bracket_87 : decode cX4_bracket 87 = .ok (.aload_n 0, 1) := by decide +kernel
theorem dX4_bracket_88 : decode cX4_bracket 88 = .ok (.iload_n 3, 1) := by decide +kernel
theorem dX4_bracket_89 : decode cX4_bracket 89 = .ok (.invokevirtual 100, 3) := by decide +kernel
theorem dX4_bracket_92 : decode cX4_bracket 92 = .ok (.ireturn, 1) := by decide +kernel
theorem dX4_over_0 : decode cX4_over 0 = .ok (.aload_n 0, 1) := by decide +kernel
theorem dX4_over_1 : decode cX4_over 1 = .ok (.iload_n 1, 1) := by decide +kernel
theorem dX4_over_2 : decode cX4_over 2 = .ok (.invokevirtual 90, 3) := by decide +kernel
theorem dX4_over_5 : decode cX4_over 5 = .ok (.ifCond .ne 10, 3) := by decide +kernel
theorem dX4_over_8 : decode cX4_over 8 = .ok (.aload_n 0, 1) := by decide +kernel
theorem dX4_over_9 : decode cX4_over 9 = .ok (.bipush (-3), 2) := by decide +kernel
theorem dX4_over_11 : decode cX4_over 11 = .ok (.invokevirtual 48, 3) := by decide +kernel
theorem dX4_over_14 : decode cX4_over 14 = .ok (.ireturn, 1) := by decide +kernel
theorem dX4_over_15 : decode cX4_over 15 = .ok (.aload_n 0, 1) := by decide +kernel
theorem dX4_over_16 : decode cX4_over 16 = .ok (.getfield 11, 3) := by decide +kernel
theorem dX4_over_19 : decode cX4_over 19 = .ok (.iload_n 1, 1) := by decide +kernel
theorem dX4_over_20 : decode cX4_over 20 = .ok (.aaload, 1) := by decide +kernel
theorem dX4_over_21 : decode cX4_over 21 = .ok (.getfield 93, 3) := by decide +kernel
theorem dX4_over_24 : decode cX4_over 24 = .ok (.bipush 12, 2) := by decide +kernel
theorem dX4_over_26 : decode cX4_over 26 = .ok (.isub, 1) := by decide +kernel
theorem dX4_over_27 : decode cX4_over 27 = .ok (.istore_n 2, 1) := by decide +kernel
theorem dX4_over_28 : decode cX4_over 28 = .ok (.iload_n 2, 1) := by decide +kernel
theorem dX4_over_29 : decode cX4_over 29 = .ok (.ifCond .lt 19, 3) := by decide +kernel
theorem dX4_over_32 : decode cX4_over 32 = .ok (.aload_n 0, 1) := by decide +kernel
theorem dX4_over_33 : decode cX4_over 33 = .ok (.getfield 11, 3) := by decide +kernel
theorem dX4_over_36 : decode cX4_over 36 = .ok (.iload_n 1, 1) := by decide +kernel
theorem dX4_over_37 : decode cX4_over 37 = .ok (.aaload, 1) := by decide +kernel
theorem dX4_over_38 : decode cX4_over 38 = .ok (.getfield 70, 3) := by decide +kernel
theorem dX4_over_41 : decode cX4_over 41 = .ok (.iconst 0, 1) := by decide +kernel
theorem dX4_over_42 : decode cX4_over 42 = .ok (.laload, 1) := by decide +kernel
theorem dX4_over_43 : decode cX4_over 43 = .ok (.lconst 0, 1) := by decide +kernel
theorem dX4_over_44 : decode cX4_over 44 = .ok (.lcmp, 1) := by decide +kernel
theorem dX4_over_45 : decode cX4_over 45 = .ok (.ifCond .eq 10, 3) := by decide +kernel
theorem dX4_over_48 : decode cX4_over 48 = .ok (.aload_n 0, 1) := by decide +kernel
theorem dX4_over_49 : decode cX4_over 49 = .ok (.bipush (-7), 2) := by decide +kernel
theorem dX4_over_51 : decode cX4_over 51 = .ok (.invokevirtual 48, 3) := by decide +kernel
theorem dX4_over_54 : decode cX4_over 54 = .ok (.ireturn, 1) := by decide +kernel
theorem dX4_over_55 : decode cX4_over 55 = .ok (.aload_n 0, 1) := by decide +kernel
theorem dX4_over_56 : decode cX4_over 56 = .ok (.iload_n 2, 1) := by decide +kernel
theorem dX4_over_57 : decode cX4_over 57 = .ok (.invokevirtual 51, 3) := by decide +kernel
theorem dX4_over_60 : decode cX4_over 60 = .ok (.ifCond .ne 10, 3) := by decide +kernel
theorem dX4_over_63 : decode cX4_over 63 = .ok (.aload_n 0, 1) := by decide +kernel
theorem dX4_over_64 : decode cX4_over 64 = .ok (.bipush (-8), 2) := by decide +kernel
theorem dX4_over_66 : decode cX4_over 66 = .ok (.invokevirtual 48, 3) := by decide +kernel
theorem dX4_over_69 : decode cX4_over 69 = .ok (.ireturn, 1) := by decide +kernel
theorem dX4_over_70 : decode cX4_over 70 = .ok (.aload_n 0, 1) := by decide +kernel
theorem dX4_over_71 : decode cX4_over 71 = .ok (.getfield 18, 3) := by decide +kernel
theorem dX4_over_74 : decode cX4_over 74 = .ok (.aload_n 0, 1) := by decide +kernel
theorem dX4_over_75 : decode cX4_over 75 = .ok (.getfield 11, 3) := by decide +kernel
theorem dX4_over_78 : decode cX4_over 78 = .ok (.iload_n 1, 1) := by decide +kernel
theorem dX4_over_79 : decode cX4_over 79 = .ok (.aaload, 1) := by decide +kernel
theorem dX4_over_80 : decode cX4_over 80 = .ok (.getfield 93, 3) := by decide +kernel
theorem dX4_over_83 : decode cX4_over 83 = .ok (.aload_n 0, 1) := by decide +kernel
theorem dX4_over_84 : decode cX4_over 84 = .ok (.getfield 11, 3) := by decide +kernel
theorem dX4_over_87 : decode cX4_over 87 = .ok (.iload_n 1, 1) := by decide +kernel
theorem dX4_over_88 : decode cX4_over 88 = .ok (.aaload, 1) := by decide +kernel
theorem dX4_over_89 : decode cX4_over 89 = .ok (.getfield 70, 3) := by decide +kernel
theorem dX4_over_92 : decode cX4_over 92 = .ok (.aload_n 0, 1) := by decide +kernel
theorem dX4_over_93 : decode cX4_over 93 = .ok (.getfield 22, 3) := by decide +kernel
theorem dX4_over_96 : decode cX4_over 96 = .ok (.invokevirtual 116, 3) := by decide +kernel
theorem dX4_over_99 : decode cX4_over 99 = .ok (.iconst 1, 1) := by decide +kernel
theorem dX4_over_100 : decode cX4_over 100 = .ok (.istore_n 3, 1) := by decide +kernel
theorem dX4_over_101 : decode cX4_over 101 = .ok (.iload_n 3, 1) := by decide +kernel
theorem dX4_over_102 : decode cX4_over 102 = .ok (.aload_n 0, 1) := by decide +kernel
theorem dX4_over_103 : decode cX4_over 103 = .ok (.getfield 18, 3) := by decide +kernel
theorem dX4_over_106 : decode cX4_over 106 = .ok (.aload_n 0, 1) := by decide +kernel
theorem dX4_over_107 : decode cX4_over 107 = .ok (.getfield 11, 3) := by decide +kernel
theorem dX4_over_110 : decode cX4_over 110 = .ok (.iload_n 1, 1) := by decide +kernel
theorem dX4_over_111 : decode cX4_over 111 = .ok (.aaload, 1) := by decide +kernel
theorem dX4_over_112 : decode cX4_over 112 = .ok (.getfield 93, 3) := by decide +kernel
theorem dX4_over_115 : decode cX4_over 115 = .ok (.invokevirtual 120, 3) := by decide +kernel
theorem dX4_over_118 : decode cX4_over 118 = .ok (.if_icmp .ge 23, 3) := by decide +kernel
theorem dX4_over_121 : decode cX4_over 121 = .ok (.aload_n 0, 1) := by decide +kernel
theorem dX4_over_122 : decode cX4_over 122 = .ok (.getfield 22, 3) := by decide +kernel
theorem dX4_over_125 : decode cX4_over 125 = .ok (.iload_n 3, 1) := by decide +kernel
theorem dX4_over_126 : decode cX4_over 126 = .ok (.iconst 1, 1) := by decide +kernel
theorem dX4_over_127 : decode cX4_over 127 = .ok (.isub, 1) := by decide +kernel
theorem dX4_over_128 : decode cX4_over 128 = .ok (.aload_n 0, 1) := by decide +kernel
theorem dX4_over_129 : decode cX4_over 129 = .ok (.getfield 22, 3) := by decide +kernel
theorem dX4_over_132 : decode cX4_over 132 = .ok (.iload_n 3, 1) := by decide +kernel
theorem dX4_over_133 : decode cX4_over 133 = .ok (.laload, 1) := by decide +kernel
theorem dX4_over_134 : decode cX4_over 134 = .ok (.lastore, 1) := by decide +kernel
theorem dX4_over_135 : decode cX4_over 135 = .ok (.iinc 3 1, 3) := by decide +kernel
theorem dX4_over_138 : decode cX4_over 138 = .ok (.goto (-37), 3) := by decide +kernel
theorem dX4_over_141 : decode cX4_over 141 = .ok (.aload_n 0, 1) := by decide +kernel
theorem dX4_over_142 : decode cX4_over 142 = .ok (.getfield 18, 3) := by decide +kernel
theorem dX4_over_145 : decode cX4_over 145 = .ok (.iload_n 2, 1) := by decide +kernel
theorem dX4_over_146 : decode cX4_over 146 = .ok (.aload_n 0, 1) := by decide +kernel
theorem dX4_over_147 : decode cX4_over 147 = .ok (.getfield 22, 3) := by decide +kernel
theorem dX4_over_150 : decode cX4_over 150 = .ok (.aload_n 0, 1) := by decide +kernel
theorem dX4_over_151 : decode cX4_over 151 = .ok (.getfield 11, 3) := by decide +kernel
theorem dX4_over_154 : decode cX4_over 154 = .ok (.aload_n 0, 1) := by decide +kernel
theorem dX4_over_155 : decode cX4_over 155 = .ok (.getfield 67, 3) := by decide +kernel
theorem dX4_over_158 : decode cX4_over 158 = .ok (.aaload, 1) := by decide +kernel
theorem dX4_over_159 : decode cX4_over 159 = .ok (.getfield 70, 3) := by decide +kernel
theorem dX4_over_162 : decode cX4_over 162 = .ok (.invokevirtual 123, 3) := by decide +kernel
theorem dX4_over_165 : decode cX4_over 165 = .ok (.aload_n 0, 1) := by decide +kernel
theorem dX4_over_166 : decode cX4_over 166 = .ok (.iload_n 2, 1) := by decide +kernel
theorem dX4_over_167 : decode cX4_over 167 = .ok (.invokevirtual 100, 3) := by decide +kernel
theorem dX4_over_170 : decode cX4_over 170 = .ok (.ireturn, 1) := by decide +kernel
theorem dX4_prime_0 : decode cX4_prime 0 = .ok (.aload_n 0, 1) := by decide +kernel
theorem dX4_prime_1 : decode cX4_prime 1 = .ok (.iload_n 1, 1) := by decide +kernel
theorem dX4_prime_2 : decode cX4_prime 2 = .ok (.invokevirtual 90, 3) := by decide +kernel
theorem dX4_prime_5 : decode cX4_prime 5 = .ok (.ifCond .ne 10, 3) := by decide +kernel
theorem dX4_prime_8 : decode cX4_prime 8 = .ok (.aload_n 0, 1) := by decide +kernel
theorem dX4_prime_9 : decode cX4_prime 9 = .ok (.bipush (-3), 2) := by decide +kernel
theorem dX4_prime_11 : decode cX4_prime 11 = .ok (.invokevirtual 48, 3) := by decide +kernel
theorem dX4_prime_14 : decode cX4_prime 14 = .ok (.ireturn, 1) := by decide +kernel
theorem dX4_prime_15 : decode cX4_prime 15 = .ok (.aload_n 0, 1) := by decide +kernel
theorem dX4_prime_16 : decode cX4_prime 16 = .ok (.getfield 11, 3) := by decide +kernel
theorem dX4_prime_19 : decode cX4_prime 19 = .ok (.iload_n 1, 1) := by decide +kernel
theorem dX4_prime_20 : decode cX4_prime 20 = .ok (.aaload, 1) := by decide +kernel
theorem dX4_prime_21 : decode cX4_prime 21 = .ok (.getfield 93, 3) := by decide +kernel
theorem dX4_prime_24 : decode cX4_prime 24 = .ok (.istore_n 3, 1) := by decide +kernel
theorem dX4_prime_25 : decode cX4_prime 25 = .ok (.iload_n 2, 1) := by decide +kernel
theorem dX4_prime_26 : decode cX4_prime 26 = .ok (.invokestatic 126, 3) := by decide +kernel
theorem dX4_prime_29 : decode cX4_prime 29 = .ok (.ifCond .eq 8, 3) := by decide +kernel
theorem dX4_prime_32 : decode cX4_prime 32 = .ok (.iload_n 3, 1) := by decide +kernel
theorem dX4_prime_33 : decode cX4_prime 33 = .ok (.iconst 4, 1) := by decide +kernel
theorem dX4_prime_34 : decode cX4_prime 34 = .ok (.if_icmp .ge 10, 3) := by decide +kernel
theorem dX4_prime_37 : decode cX4_prime 37 = .ok (.aload_n 0, 1) := by decide +kernel
theorem dX4_prime_38 : decode cX4_prime 38 = .ok (.bipush (-7), 2) := by decide +kernel
theorem dX4_prime_40 : decode cX4_prime 40 = .ok (.invokevirtual 48, 3) := by decide +kernel
theorem dX4_prime_43 : decode cX4_prime 43 = .ok (.ireturn, 1) := by decide +kernel
theorem dX4_prime_44 : decode cX4_prime 44 = .ok (.aload_n 0, 1) := by decide +kernel
theorem dX4_prime_45 : decode cX4_prime 45 = .ok (.iload_n 3, 1) := by decide +kernel
theorem dX4_prime_46 : decode cX4_prime 46 = .ok (.invokevirtual 51, 3) := by decide +kernel
theorem dX4_prime_49 : decode cX4_prime 49 = .ok (.ifCond .ne 10, 3) := by decide +kernel
theorem dX4_prime_52 : decode cX4_prime 52 = .ok (.aload_n 0, 1) := by decide +kernel
theorem dX4_prime_53 : decode cX4_prime 53 = .ok (.bipush (-8), 2) := by decide +kernel
theorem dX4_prime_55 : decode cX4_prime 55 = .ok (.invokevirtual 48, 3) := by decide +kernel
theorem dX4_prime_58 : decode cX4_prime 58 = .ok (.ireturn, 1) := by decide +kernel
theorem dX4_prime_59 : decode cX4_prime 59 = .ok (.aload_n 0, 1) := by decide +kernel
theorem dX4_prime_60 : decode cX4_prime 60 = .ok (.getfield 18, 3) := by decide +kernel
theorem dX4_prime_63 : decode cX4_prime 63 = .ok (.iload_n 3, 1) := by decide +kernel
theorem dX4_prime_64 : decode cX4_prime 64 = .ok (.aload_n 0, 1) := by decide +kernel
theorem dX4_prime_65 : decode cX4_prime 65 = .ok (.getfield 11, 3) := by decide +kernel
theorem dX4_prime_68 : decode cX4_prime 68 = .ok (.iload_n 1, 1) := by decide +kernel
theorem dX4_prime_69 : decode cX4_prime 69 = .ok (.aaload, 1) := by decide +kernel
theorem dX4_prime_70 : decode cX4_prime 70 = .ok (.getfield 70, 3) := by decide +kernel
theorem dX4_prime_73 : decode cX4_prime 73 = .ok (.iload_n 2, 1) := by decide +kernel
theorem dX4_prime_74 : decode cX4_prime 74 = .ok (.aload_n 0, 1) := by decide +kernel
theorem dX4_prime_75 : decode cX4_prime 75 = .ok (.getfield 26, 3) := by decide +kernel
theorem dX4_prime_78 : decode cX4_prime 78 = .ok (.invokevirtual 129, 3) := by decide +kernel
theorem dX4_prime_81 : decode cX4_prime 81 = .ok (.aload_n 0, 1) := by decide +kernel
theorem dX4_prime_82 : decode cX4_prime 82 = .ok (.getfield 18, 3) := by decide +kernel
theorem dX4_prime_85 : decode cX4_prime 85 = .ok (.iload_n 3, 1) := by decide +kernel
theorem dX4_prime_86 : decode cX4_prime 86 = .ok (.aload_n 0, 1) := by decide +kernel
theorem dX4_prime_87 : decode cX4_prime 87 = .ok (.getfield 26, 3) := by decide +kernel
theorem dX4_prime_90 : decode cX4_prime 90 = .ok (.aload_n 0, 1) := by decide +kernel
theorem dX4_prime_91 : decode cX4_prime 91 = .ok (.getfield 22, 3) := by decide +kernel
theorem dX4_prime_94 : decode cX4_prime 94 = .ok (.invokevirtual 116, 3) := by decide +kernel
theorem dX4_prime_97 : decode cX4_prime 97 = .ok (.aload_n 0, 1) := by decide +kernel
theorem dX4_prime_98 : decode cX4_prime 98 = .ok (.getfield 18, 3) := by decide +kernel
theorem dX4_prime_101 : decode cX4_prime 101 = .ok (.iload_n 3, 1) := by decide +kernel
theorem dX4_prime_102 : decode cX4_prime 102 = .ok (.aload_n 0, 1) := by decide +kernel
theorem dX4_prime_103 : decode cX4_prime 103 = .ok (.getfield 22, 3) := by decide +kernel
theorem dX4_prime_106 : decode cX4_prime 106 = .ok (.aload_n 0, 1) := by decide +kernel
theorem dX4_prime_107 : decode cX4_prime 107 = .ok (.getfield 11, 3) := by decide +kernel
theorem dX4_prime_110 : decode cX4_prime 110 = .ok (.aload_n 0, 1) := by decide +kernel
theorem dX4_prime_111 : decode cX4_prime 111 = .ok (.getfield 67, 3) := by decide +kernel
theorem dX4_prime_114 : decode cX4_prime 114 = .ok (.aaload, 1) := by decide +kernel
theorem dX4_prime_115 : decode cX4_prime 115 = .ok (.getfield 70, 3) := by decide +kernel
theorem dX4_prime_118 : decode cX4_prime 118 = .ok (.invokevirtual 123, 3) := by decide +kernel
theorem dX4_prime_121 : decode cX4_prime 121 = .ok (.aload_n 0, 1) := by decide +kernel
theorem dX4_prime_122 : decode cX4_prime 122 = .ok (.iload_n 3, 1) := by decide +kernel
theorem dX4_prime_123 : decode cX4_prime 123 = .ok (.invokevirtual 100, 3) := by decide +kernel
theorem dX4_prime_126 : decode cX4_prime 126 = .ok (.ireturn, 1) := by decide +kernel
theorem dX4_basis_0 : decode cX4_basis 0 = .ok (.iload_n 1, 1) := by decide +kernel
theorem dX4_basis_1 : decode cX4_basis 1 = .ok (.invokestatic 133, 3) := by decide +kernel
theorem dX4_basis_4 : decode cX4_basis 4 = .ok (.ifCond .ne 10, 3) := by decide +kernel
theorem dX4_basis_7 : decode cX4_basis 7 = .ok (.aload_n 0, 1) := by decide +kernel
theorem dX4_basis_8 : decode cX4_basis 8 = .ok (.bipush (-7), 2) := by decide +kernel
theorem dX4_basis_10 : decode cX4_basis 10 = .ok (.invokevirtual 48, 3) := by decide +kernel
theorem dX4_basis_13 : decode cX4_basis 13 = .ok (.ireturn, 1) := by decide +kernel
theorem dX4_basis_14 : decode cX4_basis 14 = .ok (.iload_n 2, 1) := by decide +kernel
theorem dX4_basis_15 : decode cX4_basis 15 = .ok (.ifCond .lt 15, 3) := by decide +kernel
theorem dX4_basis_18 : decode cX4_basis 18 = .ok (.iload_n 2, 1) := by decide +kernel
theorem dX4_basis_19 : decode cX4_basis 19 = .ok (.aload_n 0, 1) := by decide +kernel
theorem dX4_basis_20 : decode cX4_basis 20 = .ok (.getfield 18, 3) := by decide +kernel
theorem dX4_basis_23 : decode cX4_basis 23 = .ok (.iload_n 1, 1) := by decide +kernel
theorem dX4_basis_24 : decode cX4_basis 24 = .ok (.invokevirtual 120, 3) := by decide +kernel
theorem dX4_basis_27 : decode cX4_basis 27 = .ok (.if_icmp .lt 10, 3) := by decide +kernel
theorem dX4_basis_30 : decode cX4_basis 30 = .ok (.aload_n 0, 1) := by decide +kernel
theorem dX4_basis_31 : decode cX4_basis 31 = .ok (.bipush (-3), 2) := by decide +kernel
theorem dX4_basis_33 : decode cX4_basis 33 = .ok (.invokevirtual 48, 3) := by decide +kernel
theorem dX4_basis_36 : decode cX4_basis 36 = .ok (.ireturn, 1) := by decide +kernel
theorem dX4_basis_37 : decode cX4_basis 37 = .ok (.aload_n 0, 1) := by decide +kernel
theorem dX4_basis_38 : decode cX4_basis 38 = .ok (.iload_n 1, 1) := by decide +kernel
theorem dX4_basis_39 : decode cX4_basis 39 = .ok (.invokevirtual 51, 3) := by decide +kernel
theorem dX4_basis_42 : decode cX4_basis 42 = .ok (.ifCond .ne 10, 3) := by decide +kernel
theorem dX4_basis_45 : decode cX4_basis 45 = .ok (.aload_n 0, 1) := by decide +kernel
theorem dX4_basis_46 : decode cX4_basis 46 = .ok (.bipush (-8), 2) := by decide +kernel
theorem dX4_basis_48 : decode cX4_basis 48 = .ok (.invokevirtual 48, 3) := by decide +kernel
theorem dX4_basis_51 : decode cX4_basis 51 = .ok (.ireturn, 1) := by decide +kernel
theorem dX4_basis_52 : decode cX4_basis 52 = .ok (.aload_n 0, 1) := by decide +kernel
theorem dX4_basis_53 : decode cX4_basis 53 = .ok (.getfield 18, 3) := by decide +kernel
theorem dX4_basis_56 : decode cX4_basis 56 = .ok (.iload_n 1, 1) := by decide +kernel
theorem dX4_basis_57 : decode cX4_basis 57 = .ok (.iload_n 2, 1) := by decide +kernel
theorem dX4_basis_58 : decode cX4_basis 58 = .ok (.invokevirtual 136, 3) := by decide +kernel
theorem dX4_basis_61 : decode cX4_basis 61 = .ok (.iconst 0, 1) := by decide +kernel
theorem dX4_basis_62 : decode cX4_basis 62 = .ok (.aload_n 0, 1) := by decide +kernel
theorem dX4_basis_63 : decode cX4_basis 63 = .ok (.getfield 11, 3) := by decide +kernel
theorem dX4_basis_66 : decode cX4_basis 66 = .ok (.aload_n 0, 1) := by decide +kernel
theorem dX4_basis_67 : decode cX4_basis 67 = .ok (.getfield 67, 3) := by decide +kernel
theorem dX4_basis_70 : decode cX4_basis 70 = .ok (.aaload, 1) := by decide +kernel
theorem dX4_basis_71 : decode cX4_basis 71 = .ok (.getfield 70, 3) := by decide +kernel
theorem dX4_basis_74 : decode cX4_basis 74 = .ok (.iconst 0, 1) := by decide +kernel
theorem dX4_basis_75 : decode cX4_basis 75 = .ok (.bipush 48, 2) := by decide +kernel
theorem dX4_basis_77 : decode cX4_basis 77 = .ok (.invokestatic 140, 3) := by decide +kernel
theorem dX4_basis_80 : decode cX4_basis 80 = .ok (.aload_n 0, 1) := by decide +kernel
theorem dX4_basis_81 : decode cX4_basis 81 = .ok (.iload_n 1, 1) := by decide +kernel
theorem dX4_basis_82 : decode cX4_basis 82 = .ok (.invokevirtual 100, 3) := by decide +kernel
theorem dX4_basis_85 : decode cX4_basis 85 = .ok (.ireturn, 1) := by decide +kernel
theorem dX4_drop_0 : decode cX4_drop 0 = .ok (.aload_n 0, 1) := by decide +kernel
theorem dX4_drop_1 : decode cX4_drop 1 = .ok (.getfield 67, 3) := by decide +kernel
theorem dX4_drop_4 : decode cX4_drop 4 = .ok (.ifCond .gt 10, 3) := by decide +kernel
theorem dX4_drop_7 : decode cX4_drop 7 = .ok (.aload_n 0, 1) := by decide +kernel
theorem dX4_drop_8 : decode cX4_drop 8 = .ok (.bipush (-2), 2) := by decide +kernel
theorem dX4_drop_10 : decode cX4_drop 10 = .ok (.invokevirtual 48, 3) := by decide +kernel
theorem dX4_drop_13 : decode cX4_drop 13 = .ok (.ireturn, 1) := by decide +kernel
theorem dX4_drop_14 : decode cX4_drop 14 = .ok (.aload_n 0, 1) := by decide +kernel
theorem dX4_drop_15 : decode cX4_drop 15 = .ok (.dup, 1) := by decide +kernel
theorem dX4_drop_16 : decode cX4_drop 16 = .ok (.getfield 67, 3) := by decide +kernel
theorem dX4_drop_19 : decode cX4_drop 19 = .ok (.iconst 1, 1) := by decide +kernel
theorem dX4_drop_20 : decode cX4_drop 20 = .ok (.isub, 1) := by decide +kernel
theorem dX4_drop_21 : decode cX4_drop 21 = .ok (.putfield 67, 3) := by decide +kernel
theorem dX4_drop_24 : decode cX4_drop 24 = .ok (.aload_n 0, 1) := by decide +kernel
theorem dX4_drop_25 : decode cX4_drop 25 = .ok (.getfield 67, 3) := by decide +kernel
theorem dX4_drop_28 : decode cX4_drop 28 = .ok (.ireturn, 1) := by decide +kernel
theorem dX4_look_0 : decode cX4_look 0 = .ok (.aload_n 0, 1) := by decide +kernel
theorem dX4_look_1 : decode cX4_look 1 = .ok (.iload_n 1, 1) := by decide +kernel
theorem dX4_look_2 : decode cX4_look 2 = .ok (.invokevirtual 90, 3) := by decide +kernel
theorem dX4_look_5 : decode cX4_look 5 = .ok (.ifCond .ne 10, 3) := by decide +kernel
theorem dX4_look_8 : decode cX4_look 8 = .ok (.aload_n 0, 1) := by decide +kernel
theorem dX4_look_9 : decode cX4_look 9 = .ok (.bipush (-3), 2) := by decide +kernel
theorem dX4_look_11 : decode cX4_look 11 = .ok (.invokevirtual 48, 3) := by decide +kernel
theorem dX4_look_14 : decode cX4_look 14 = .ok (.ireturn, 1) := by decide +kernel
theorem dX4_look_15 : decode cX4_look 15 = .ok (.aload_n 0, 1) := by decide +kernel
theorem dX4_look_16 : decode cX4_look 16 = .ok (.getfield 11, 3) := by decide +kernel
theorem dX4_look_19 : decode cX4_look 19 = .ok (.iload_n 1, 1) := by decide +kernel
theorem dX4_look_20 : decode cX4_look 20 = .ok (.aaload, 1) := by decide +kernel
theorem dX4_look_21 : decode cX4_look 21 = .ok (.astore_n 3, 1) := by decide +kernel
theorem dX4_look_22 : decode cX4_look 22 = .ok (.iload_n 2, 1) := by decide +kernel
theorem dX4_look_23 : decode cX4_look 23 = .ok (.tableswitch 93 0 4 #[33, 38, 43, 51, 63], 33) := by decide +kernel
theorem dX4_look_56 : decode cX4_look 56 = .ok (.aload_n 3, 1) := by decide +kernel
theorem dX4_look_57 : decode cX4_look 57 = .ok (.getfield 146, 3) := by decide +kernel
theorem dX4_look_60 : decode cX4_look 60 = .ok (.ireturn, 1) := by decide +kernel
theorem dX4_look_61 : decode cX4_look 61 = .ok (.aload_n 3, 1) := by decide +kernel
theorem dX4_look_62 : decode cX4_look 62 = .ok (.getfield 93, 3) := by decide +kernel
theorem dX4_look_65 : decode cX4_look 65 = .ok (.ireturn, 1) := by decide +kernel
theorem dX4_look_66 : decode cX4_look 66 = .ok (.aload_n 3, 1) := by decide +kernel
theorem dX4_look_67 : decode cX4_look 67 = .ok (.getfield 70, 3) := by decide +kernel
theorem dX4_look_70 : decode cX4_look 70 = .ok (.invokestatic 149, 3) := by decide +kernel
theorem dX4_look_73 : decode cX4_look 73 = .ok (.ireturn, 1) := by decide +kernel
theorem dX4_look_74 : decode cX4_look 74 = .ok (.aload_n 0, 1) := by decide +kernel
theorem dX4_look_75 : decode cX4_look 75 = .ok (.getfield 18, 3) := by decide +kernel
theorem dX4_look_78 : decode cX4_look 78 = .ok (.aload_n 3, 1) := by decide +kernel
theorem dX4_look_79 : decode cX4_look 79 = .ok (.getfield 93, 3) := by decide +kernel
theorem dX4_look_82 : decode cX4_look 82 = .ok (.invokevirtual 120, 3) := by decide +kernel
theorem dX4_look_85 : decode cX4_look 85 = .ok (.ireturn, 1) := by decide +kernel
theorem dX4_look_86 : decode cX4_look 86 = .ok (.aload_n 3, 1) := by decide +kernel
theorem dX4_look_87 : decode cX4_look 87 = .ok (.getfield 146, 3) := by decide +kernel
theorem dX4_look_90 : decode cX4_look 90 = .ok (.iconst 1, 1) := by decide +kernel
theorem dX4_look_91 : decode cX4_look 91 = .ok (.if_icmp .eq 11, 3) := by decide +kernel
theorem dX4_look_94 : decode cX4_look 94 = .ok (.aload_n 3, 1) := by decide +kernel
theorem dX4_look_95 : decode cX4_look 95 = .ok (.getfield 146, 3) := by decide +kernel
theorem dX4_look_98 : decode cX4_look 98 = .ok (.iconst 2, 1) := by decide +kernel
theorem dX4_look_99 : decode cX4_look 99 = .ok (.if_icmp .ne 10, 3) := by decide +kernel
theorem dX4_look_102 : decode cX4_look 102 = .ok (.aload_n 3, 1) := by decide +kernel
theorem dX4_look_103 : decode cX4_look 103 = .ok (.getfield 153, 3) := by decide +kernel
theorem dX4_look_106 : decode cX4_look 106 = .ok (.goto 9, 3) := by decide +kernel
theorem dX4_look_109 : decode cX4_look 109 = .ok (.aload_n 0, 1) := by decide +kernel
theorem dX4_look_110 : decode cX4_look 110 = .ok (.bipush (-5), 2) := by decide +kernel
theorem dX4_look_112 : decode cX4_look 112 = .ok (.invokevirtual 48, 3) := by decide +kernel
theorem dX4_look_115 : decode cX4_look 115 = .ok (.ireturn, 1) := by decide +kernel
theorem dX4_look_116 : decode cX4_look 116 = .ok (.aload_n 0, 1) := by decide +kernel
theorem dX4_look_117 : decode cX4_look 117 = .ok (.bipush (-7), 2) := by decide +kernel
theorem dX4_look_119 : decode cX4_look 119 = .ok (.invokevirtual 48, 3) := by decide +kernel
theorem dX4_look_122 : decode cX4_look 122 = .ok (.ireturn, 1) := by decide +kernel
theorem dX4_at_0 : decode cX4_at 0 = .ok (.aload_n 0, 1) := by decide +kernel
theorem dX4_at_1 : decode cX4_at 1 = .ok (.iload_n 1, 1) := by decide +kernel
theorem dX4_at_2 : decode cX4_at 2 = .ok (.invokevirtual 90, 3) := by decide +kernel
theorem dX4_at_5 : decode cX4_at 5 = .ok (.ifCond .eq 13, 3) := by decide +kernel
theorem dX4_at_8 : decode cX4_at 8 = .ok (.iload_n 2, 1) := by decide +kernel
theorem dX4_at_9 : decode cX4_at 9 = .ok (.ifCond .lt 9, 3) := by decide +kernel
theorem dX4_at_12 : decode cX4_at 12 = .ok (.iload_n 2, 1) := by decide +kernel
theorem dX4_at_13 : decode cX4_at 13 = .ok (.bipush 48, 2) := by decide +kernel
theorem dX4_at_15 : decode cX4_at 15 = .ok (.if_icmp .lt 10, 3) := by decide +kernel
theorem dX4_at_18 : decode cX4_at 18 = .ok (.aload_n 0, 1) := by decide +kernel
theorem dX4_at_19 : decode cX4_at 19 = .ok (.bipush (-3), 2) := by decide +kernel
theorem dX4_at_21 : decode cX4_at 21 = .ok (.invokevirtual 48, 3) := by decide +kernel
theorem dX4_at_24 : decode cX4_at 24 = .ok (.ireturn, 1) := by decide +kernel
theorem dX4_at_25 : decode cX4_at 25 = .ok (.aload_n 0, 1) := by decide +kernel
theorem dX4_at_26 : decode cX4_at 26 = .ok (.getfield 11, 3) := by decide +kernel
theorem dX4_at_29 : decode cX4_at 29 = .ok (.iload_n 1, 1) := by decide +kernel
theorem dX4_at_30 : decode cX4_at 30 = .ok (.aaload, 1) := by decide +kernel
theorem dX4_at_31 : decode cX4_at 31 = .ok (.getfield 70, 3) := by decide +kernel
theorem dX4_at_34 : decode cX4_at 34 = .ok (.iload_n 2, 1) := by decide +kernel

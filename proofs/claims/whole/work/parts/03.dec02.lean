theorem dX9_init_0 : decode cX9_init 0 = .ok (.aload_n 0, 1) := by decide +kernel
theorem dX9_init_1 : decode cX9_init 1 = .ok (.invokespecial 1, 3) := by decide +kernel
theorem dX9_init_4 : decode cX9_init 4 = .ok (.aload_n 0, 1) := by decide +kernel
theorem dX9_init_5 : decode cX9_init 5 = .ok (.new 7, 3) := by decide +kernel
theorem dX9_init_8 : decode cX9_init 8 = .ok (.dup, 1) := by decide +kernel
theorem dX9_init_9 : decode cX9_init 9 = .ok (.invokespecial 9, 3) := by decide +kernel
theorem dX9_init_12 : decode cX9_init 12 = .ok (.putfield 10, 3) := by decide +kernel
theorem dX9_init_15 : decode cX9_init 15 = .ok (.aload_n 0, 1) := by decide +kernel
theorem dX9_init_16 : decode cX9_init 16 = .ok (.new 16, 3) := by decide +kernel
theorem dX9_init_19 : decode cX9_init 19 = .ok (.dup, 1) := by decide +kernel
theorem dX9_init_20 : decode cX9_init 20 = .ok (.invokespecial 18, 3) := by decide +kernel
theorem dX9_init_23 : decode cX9_init 23 = .ok (.putfield 19, 3) := by decide +kernel
theorem dX9_init_26 : decode cX9_init 26 = .ok (.aload_n 0, 1) := by decide +kernel
theorem dX9_init_27 : decode cX9_init 27 = .ok (.iconst (-1), 1) := by decide +kernel
theorem dX9_init_28 : decode cX9_init 28 = .ok (.putfield 23, 3) := by decide +kernel
theorem dX9_init_31 : decode cX9_init 31 = .ok (.aload_n 0, 1) := by decide +kernel
theorem dX9_init_32 : decode cX9_init 32 = .ok (.new 27, 3) := by decide +kernel
theorem dX9_init_35 : decode cX9_init 35 = .ok (.dup, 1) := by decide +kernel
theorem dX9_init_36 : decode cX9_init 36 = .ok (.invokespecial 29, 3) := by decide +kernel
theorem dX9_init_39 : decode cX9_init 39 = .ok (.putfield 30, 3) := by decide +kernel
theorem dX9_init_42 : decode cX9_init 42 = .ok (.aload_n 0, 1) := by decide +kernel
theorem dX9_init_43 : decode cX9_init 43 = .ok (.new 34, 3) := by decide +kernel
theorem dX9_init_46 : decode cX9_init 46 = .ok (.dup, 1) := by decide +kernel
theorem dX9_init_47 : decode cX9_init 47 = .ok (.invokespecial 36, 3) := by decide +kernel
theorem dX9_init_50 : decode cX9_init 50 = .ok (.putfield 37, 3) := by decide +kernel
theorem dX9_init_53 : decode cX9_init 53 = .ok (.aload_n 0, 1) := by decide +kernel
theorem dX9_init_54 : decode cX9_init 54 = .ok (.new 41, 3) := by decide +kernel
theorem dX9_init_57 : decode cX9_init 57 = .ok (.dup, 1) := by decide +kernel
theorem dX9_init_58 : decode cX9_init 58 = .ok (.invokespecial 43, 3) := by decide +kernel
theorem dX9_init_61 : decode cX9_init 61 = .ok (.putfield 44, 3) := by decide +kernel
theorem dX9_init_64 : decode cX9_init 64 = .ok (.aload_n 0, 1) := by decide +kernel
theorem dX9_init_65 : decode cX9_init 65 = .ok (.new 48, 3) := by decide +kernel
theorem dX9_init_68 : decode cX9_init 68 = .ok (.dup, 1) := by decide +kernel
theorem dX9_init_69 : decode cX9_init 69 = .ok (.invokespecial 50, 3) := by decide +kernel
theorem dX9_init_72 : decode cX9_init 72 = .ok (.putfield 51, 3) := by decide +kernel
theorem dX9_init_75 : decode cX9_init 75 = .ok (.aload_n 0, 1) := by decide +kernel
theorem dX9_init_76 : decode cX9_init 76 = .ok (.new 55, 3) := by decide +kernel
theorem dX9_init_79 : decode cX9_init 79 = .ok (.dup, 1) := by decide +kernel
theorem dX9_init_80 : decode cX9_init 80 = .ok (.invokespecial 57, 3) := by decide +kernel
theorem dX9_init_83 : decode cX9_init 83 = .ok (.putfield 58, 3) := by decide +kernel
theorem dX9_init_86 : decode cX9_init 86 = .ok (.aload_n 0, 1) := by decide +kernel
theorem dX9_init_87 : decode cX9_init 87 = .ok (.new 62, 3) := by decide +kernel
theorem dX9_init_90 : decode cX9_init 90 = .ok (.dup, 1) := by decide +kernel
theorem dX9_init_91 : decode cX9_init 91 = .ok (.invokespecial 64, 3) := by decide +kernel
theorem dX9_init_94 : decode cX9_init 94 = .ok (.putfield 65, 3) := by decide +kernel
theorem dX9_init_97 : decode cX9_init 97 = .ok (.aload_n 0, 1) := by decide +kernel
theorem dX9_init_98 : decode cX9_init 98 = .ok (.iconst 3, 1) := by decide +kernel
theorem dX9_init_99 : decode cX9_init 99 = .ok (.anewarray 62, 3) := by decide +kernel
theorem dX9_init_102 : decode cX9_init 102 = .ok (.dup, 1) := by decide +kernel
theorem dX9_init_103 : decode cX9_init 103 = .ok (.iconst 0, 1) := by decide +kernel
theorem dX9_init_104 : decode cX9_init 104 = .ok (.new 62, 3) := by decide +kernel
theorem dX9_init_107 : decode cX9_init 107 = .ok (.dup, 1) := by decide +kernel
theorem dX9_init_108 : decode cX9_init 108 = .ok (.invokespecial 64, 3) := by decide +kernel
theorem dX9_init_111 : decode cX9_init 111 = .ok (.aastore, 1) := by decide +kernel
theorem dX9_init_112 : decode cX9_init 112 = .ok (.dup, 1) := by decide +kernel
theorem dX9_init_113 : decode cX9_init 113 = .ok (.iconst 1, 1) := by decide +kernel
theorem dX9_init_114 : decode cX9_init 114 = .ok (.new 62, 3) := by decide +kernel
theorem dX9_init_117 : decode cX9_init 117 = .ok (.dup, 1) := by decide +kernel
theorem dX9_init_118 : decode cX9_init 118 = .ok (.invokespecial 64, 3) := by decide +kernel
theorem dX9_init_121 : decode cX9_init 121 = .ok (.aastore, 1) := by decide +kernel
theorem dX9_init_122 : decode cX9_init 122 = .ok (.dup, 1) := by decide +kernel
theorem dX9_init_123 : decode cX9_init 123 = .ok (.iconst 2, 1) := by decide +kernel
theorem dX9_init_124 : decode cX9_init 124 = .ok (.new 62, 3) := by decide +kernel
theorem dX9_init_127 : decode cX9_init 127 = .ok (.dup, 1) := by decide +kernel
theorem dX9_init_128 : decode cX9_init 128 = .ok (.invokespecial 64, 3) := by decide +kernel
theorem dX9_init_131 : decode cX9_init 131 = .ok (.aastore, 1) := by decide +kernel
theorem dX9_init_132 : decode cX9_init 132 = .ok (.putfield 69, 3) := by decide +kernel
theorem dX9_init_135 : decode cX9_init 135 = .ok (.aload_n 0, 1) := by decide +kernel
theorem dX9_init_136 : decode cX9_init 136 = .ok (.iconst 0, 1) := by decide +kernel
theorem dX9_init_137 : decode cX9_init 137 = .ok (.putfield 73, 3) := by decide +kernel
theorem dX9_init_140 : decode cX9_init 140 = .ok (.aload_n 0, 1) := by decide +kernel
theorem dX9_init_141 : decode cX9_init 141 = .ok (.getfield 19, 3) := by decide +kernel
theorem dX9_init_144 : decode cX9_init 144 = .ok (.invokevirtual 76, 3) := by decide +kernel
theorem dX9_init_147 : decode cX9_init 147 = .ok (.aload_n 0, 1) := by decide +kernel
theorem dX9_init_148 : decode cX9_init 148 = .ok (.getfield 65, 3) := by decide +kernel
theorem dX9_init_151 : decode cX9_init 151 = .ok (.invokevirtual 79, 3) := by decide +kernel
theorem dX9_init_154 : decode cX9_init 154 = .ok (.aload_n 0, 1) := by decide +kernel
theorem dX9_init_155 : decode cX9_init 155 = .ok (.getfield 37, 3) := by decide +kernel
theorem dX9_init_158 : decode cX9_init 158 = .ok (.aload_n 0, 1) := by decide +kernel
theorem dX9_init_159 : decode cX9_init 159 = .ok (.getfield 19, 3) := by decide +kernel
theorem dX9_init_162 : decode cX9_init 162 = .ok (.invokevirtual 80, 3) := by decide +kernel
theorem dX9_init_165 : decode cX9_init 165 = .ok (.aload_n 0, 1) := by decide +kernel
theorem dX9_init_166 : decode cX9_init 166 = .ok (.getfield 51, 3) := by decide +kernel
theorem dX9_init_169 : decode cX9_init 169 = .ok (.aload_n 0, 1) := by decide +kernel
theorem dX9_init_170 : decode cX9_init 170 = .ok (.getfield 19, 3) := by decide +kernel
theorem dX9_init_173 : decode cX9_init 173 = .ok (.invokevirtual 84, 3) := by decide +kernel
theorem dX9_init_176 : decode cX9_init 176 = .ok (.return_, 1) := by decide +kernel
theorem dX9_feed_0 : decode cX9_feed 0 = .ok (.aload_n 0, 1) := by decide +kernel
theorem dX9_feed_1 : decode cX9_feed 1 = .ok (.getfield 10, 3) := by decide +kernel
theorem dX9_feed_4 : decode cX9_feed 4 = .ok (.getfield 85, 3) := by decide +kernel
theorem dX9_feed_7 : decode cX9_feed 7 = .ok (.bipush 20, 2) := by decide +kernel
theorem dX9_feed_9 : decode cX9_feed 9 = .ok (.iadd, 1) := by decide +kernel
theorem dX9_feed_10 : decode cX9_feed 10 = .ok (.sipush 500, 3) := by decide +kernel
theorem dX9_feed_13 : decode cX9_feed 13 = .ok (.if_icmp .le 5, 3) := by decide +kernel
theorem dX9_feed_16 : decode cX9_feed 16 = .ok (.iconst (-1), 1) := by decide +kernel
theorem dX9_feed_17 : decode cX9_feed 17 = .ok (.ireturn, 1) := by decide +kernel
theorem dX9_feed_18 : decode cX9_feed 18 = .ok (.aload_n 0, 1) := by decide +kernel
theorem dX9_feed_19 : decode cX9_feed 19 = .ok (.getfield 10, 3) := by decide +kernel
theorem dX9_feed_22 : decode cX9_feed 22 = .ok (.iload_n 1, 1) := by decide +kernel
theorem dX9_feed_23 : decode cX9_feed 23 = .ok (.invokevirtual 88, 3) := by decide +kernel
theorem dX9_feed_26 : decode cX9_feed 26 = .ok (.aload_n 0, 1) := by decide +kernel
theorem dX9_feed_27 : decode cX9_feed 27 = .ok (.getfield 10, 3) := by decide +kernel
theorem dX9_feed_30 : decode cX9_feed 30 = .ok (.iload_n 2, 1) := by decide +kernel
theorem dX9_feed_31 : decode cX9_feed 31 = .ok (.invokevirtual 88, 3) := by decide +kernel
theorem dX9_feed_34 : decode cX9_feed 34 = .ok (.aload_n 0, 1) := by decide +kernel
theorem dX9_feed_35 : decode cX9_feed 35 = .ok (.getfield 10, 3) := by decide +kernel
theorem dX9_feed_38 : decode cX9_feed 38 = .ok (.iload_n 3, 1) := by decide +kernel
theorem dX9_feed_39 : decode cX9_feed 39 = .ok (.invokevirtual 88, 3) := by decide +kernel
theorem dX9_feed_42 : decode cX9_feed 42 = .ok (.aload_n 0, 1) := by decide +kernel
theorem dX9_feed_43 : decode cX9_feed 43 = .ok (.getfield 10, 3) := by decide +kernel
theorem dX9_feed_46 : decode cX9_feed 46 = .ok (.iload 4, 2) := by decide +kernel
theorem dX9_feed_48 : decode cX9_feed 48 = .ok (.invokevirtual 88, 3) := by decide +kernel
theorem dX9_feed_51 : decode cX9_feed 51 = .ok (.aload_n 0, 1) := by decide +kernel
theorem dX9_feed_52 : decode cX9_feed 52 = .ok (.getfield 10, 3) := by decide +kernel
theorem dX9_feed_55 : decode cX9_feed 55 = .ok (.iload 5, 2) := by decide +kernel
theorem dX9_feed_57 : decode cX9_feed 57 = .ok (.invokevirtual 88, 3) := by decide +kernel
theorem dX9_feed_60 : decode cX9_feed 60 = .ok (.aload_n 0, 1) := by decide +kernel
theorem dX9_feed_61 : decode cX9_feed 61 = .ok (.getfield 10, 3) := by decide +kernel
theorem dX9_feed_64 : decode cX9_feed 64 = .ok (.getfield 85, 3) := by decide +kernel
theorem dX9_feed_67 : decode cX9_feed 67 = .ok (.ireturn, 1) := by decide +kernel
theorem dX9_sheet_0 : decode cX9_sheet 0 = .ok (.iload_n 1, 1) := by decide +kernel
theorem dX9_sheet_1 : decode cX9_sheet 1 = .ok (.iconst 0, 1) := by decide +kernel
theorem dX9_sheet_2 : decode cX9_sheet 2 = .ok (.aload_n 0, 1) := by decide +kernel
theorem dX9_sheet_3 : decode cX9_sheet 3 = .ok (.getfield 10, 3) := by decide +kernel
theorem dX9_sheet_6 : decode cX9_sheet 6 = .ok (.getfield 85, 3) := by decide +kernel
theorem dX9_sheet_9 : decode cX9_sheet 9 = .ok (.invokestatic 92, 3) := by decide +kernel
theorem dX9_sheet_12 : decode cX9_sheet 12 = .ok (.aload_n 0, 1) := by decide +kernel
theorem dX9_sheet_13 : decode cX9_sheet 13 = .ok (.getfield 10, 3) := by decide +kernel
theorem dX9_sheet_16 : decode cX9_sheet 16 = .ok (.iload_n 1, 1) := by decide +kernel
theorem dX9_sheet_17 : decode cX9_sheet 17 = .ok (.invokevirtual 96, 3) := by decide +kernel
theorem dX9_sheet_20 : decode cX9_sheet 20 = .ok (.istore_n 2, 1) := by decide +kernel
theorem dX9_sheet_21 : decode cX9_sheet 21 = .ok (.aload_n 0, 1) := by decide +kernel
theorem dX9_sheet_22 : decode cX9_sheet 22 = .ok (.aload_n 0, 1) := by decide +kernel
theorem dX9_sheet_23 : decode cX9_sheet 23 = .ok (.getfield 10, 3) := by decide +kernel
theorem dX9_sheet_26 : decode cX9_sheet 26 = .ok (.getfield 100, 3) := by decide +kernel
theorem dX9_sheet_29 : decode cX9_sheet 29 = .ok (.putfield 23, 3) := by decide +kernel
theorem dX9_sheet_32 : decode cX9_sheet 32 = .ok (.iload_n 2, 1) := by decide +kernel
theorem dX9_sheet_33 : decode cX9_sheet 33 = .ok (.ifCond .eq 8, 3) := by decide +kernel
theorem dX9_sheet_36 : decode cX9_sheet 36 = .ok (.iload_n 2, 1) := by decide +kernel
theorem dX9_sheet_37 : decode cX9_sheet 37 = .ok (.bipush 10, 2) := by decide +kernel
theorem dX9_sheet_39 : decode cX9_sheet 39 = .ok (.isub, 1) := by decide +kernel
theorem dX9_sheet_40 : decode cX9_sheet 40 = .ok (.ireturn, 1) := by decide +kernel
theorem dX9_sheet_41 : decode cX9_sheet 41 = .ok (.aload_n 0, 1) := by decide +kernel
theorem dX9_sheet_42 : decode cX9_sheet 42 = .ok (.getfield 19, 3) := by decide +kernel
theorem dX9_sheet_45 : decode cX9_sheet 45 = .ok (.aload_n 0, 1) := by decide +kernel
theorem dX9_sheet_46 : decode cX9_sheet 46 = .ok (.getfield 10, 3) := by decide +kernel
theorem dX9_sheet_49 : decode cX9_sheet 49 = .ok (.getfield 103, 3) := by decide +kernel
theorem dX9_sheet_52 : decode cX9_sheet 52 = .ok (.invokevirtual 106, 3) := by decide +kernel
theorem dX9_sheet_55 : decode cX9_sheet 55 = .ok (.aload_n 0, 1) := by decide +kernel
theorem dX9_sheet_56 : decode cX9_sheet 56 = .ok (.getfield 19, 3) := by decide +kernel
theorem dX9_sheet_59 : decode cX9_sheet 59 = .ok (.invokevirtual 109, 3) := by decide +kernel
theorem dX9_sheet_62 : decode cX9_sheet 62 = .ok (.aload_n 0, 1) := by decide +kernel
theorem dX9_sheet_63 : decode cX9_sheet 63 = .ok (.getfield 37, 3) := by decide +kernel
theorem dX9_sheet_66 : decode cX9_sheet 66 = .ok (.aload_n 0, 1) := by decide +kernel
theorem dX9_sheet_67 : decode cX9_sheet 67 = .ok (.getfield 19, 3) := by decide +kernel
theorem dX9_sheet_70 : decode cX9_sheet 70 = .ok (.invokevirtual 80, 3) := by decide +kernel
theorem dX9_sheet_73 : decode cX9_sheet 73 = .ok (.aload_n 0, 1) := by decide +kernel
theorem dX9_sheet_74 : decode cX9_sheet 74 = .ok (.getfield 51, 3) := by decide +kernel
theorem dX9_sheet_77 : decode cX9_sheet 77 = .ok (.aload_n 0, 1) := by decide +kernel
theorem dX9_sheet_78 : decode cX9_sheet 78 = .ok (.getfield 19, 3) := by decide +kernel
theorem dX9_sheet_81 : decode cX9_sheet 81 = .ok (.invokevirtual 84, 3) := by decide +kernel
theorem dX9_sheet_84 : decode cX9_sheet 84 = .ok (.aload_n 0, 1) := by decide +kernel
theorem dX9_sheet_85 : decode cX9_sheet 85 = .ok (.getfield 65, 3) := by decide +kernel
theorem dX9_sheet_88 : decode cX9_sheet 88 = .ok (.invokevirtual 79, 3) := by decide +kernel
theorem dX9_sheet_91 : decode cX9_sheet 91 = .ok (.aload_n 0, 1) := by decide +kernel
theorem dX9_sheet_92 : decode cX9_sheet 92 = .ok (.iconst 0, 1) := by decide +kernel
theorem dX9_sheet_93 : decode cX9_sheet 93 = .ok (.putfield 73, 3) := by decide +kernel
theorem dX9_sheet_96 : decode cX9_sheet 96 = .ok (.aload_n 0, 1) := by decide +kernel
theorem dX9_sheet_97 : decode cX9_sheet 97 = .ok (.getfield 19, 3) := by decide +kernel
theorem dX9_sheet_100 : decode cX9_sheet 100 = .ok (.getfield 112, 3) := by decide +kernel
theorem dX9_sheet_103 : decode cX9_sheet 103 = .ok (.ireturn, 1) := by decide +kernel
theorem dX9_fault_0 : decode cX9_fault 0 = .ok (.aload_n 0, 1) := by decide +kernel
theorem dX9_fault_1 : decode cX9_fault 1 = .ok (.getfield 23, 3) := by decide +kernel
theorem dX9_fault_4 : decode cX9_fault 4 = .ok (.ireturn, 1) := by decide +kernel
theorem dX9_told_0 : decode cX9_told 0 = .ok (.iload_n 1, 1) := by decide +kernel
theorem dX9_told_1 : decode cX9_told 1 = .ok (.iconst 0, 1) := by decide +kernel
theorem dX9_told_2 : decode cX9_told 2 = .ok (.iconst 2, 1) := by decide +kernel
theorem dX9_told_3 : decode cX9_told 3 = .ok (.invokestatic 92, 3) := by decide +kernel
theorem dX9_told_6 : decode cX9_told 6 = .ok (.iload_n 1, 1) := by decide +kernel
theorem dX9_told_7 : decode cX9_told 7 = .ok (.ifCond .ne 11, 3) := by decide +kernel
theorem dX9_told_10 : decode cX9_told 10 = .ok (.aload_n 0, 1) := by decide +kernel
theorem dX9_told_11 : decode cX9_told 11 = .ok (.getfield 19, 3) := by decide +kernel
theorem dX9_told_14 : decode cX9_told 14 = .ok (.getfield 112, 3) := by decide +kernel
theorem dX9_told_17 : decode cX9_told 17 = .ok (.ireturn, 1) := by decide +kernel
theorem dX9_told_18 : decode cX9_told 18 = .ok (.iload_n 1, 1) := by decide +kernel
theorem dX9_told_19 : decode cX9_told 19 = .ok (.iconst 1, 1) := by decide +kernel
theorem dX9_told_20 : decode cX9_told 20 = .ok (.if_icmp .ne 13, 3) := by decide +kernel
theorem dX9_told_23 : decode cX9_told 23 = .ok (.aload_n 0, 1) := by decide +kernel
theorem dX9_told_24 : decode cX9_told 24 = .ok (.getfield 19, 3) := by decide +kernel
theorem dX9_told_27 : decode cX9_told 27 = .ok (.getfield 115, 3) := by decide +kernel
theorem dX9_told_30 : decode cX9_told 30 = .ok (.goto 10, 3) := by decide +kernel
theorem dX9_told_33 : decode cX9_told 33 = .ok (.aload_n 0, 1) := by decide +kernel
theorem dX9_told_34 : decode cX9_told 34 = .ok (.getfield 19, 3) := by decide +kernel
theorem dX9_told_37 : decode cX9_told 37 = .ok (.getfield 118, 3) := by decide +kernel
theorem dX9_told_40 : decode cX9_told 40 = .ok (.ireturn, 1) := by decide +kernel
theorem dX9_squares_0 : decode cX9_squares 0 = .ok (.aload_n 0, 1) := by decide +kernel
theorem dX9_squares_1 : decode cX9_squares 1 = .ok (.iload_n 1, 1) := by decide +kernel
theorem dX9_squares_2 : decode cX9_squares 2 = .ok (.invokevirtual 121, 3) := by decide +kernel
theorem dX9_squares_5 : decode cX9_squares 5 = .ok (.iload_n 2, 1) := by decide +kernel
theorem dX9_squares_6 : decode cX9_squares 6 = .ok (.iconst 0, 1) := by decide +kernel
theorem dX9_squares_7 : decode cX9_squares 7 = .ok (.iconst 2, 1) := by decide +kernel
theorem dX9_squares_8 : decode cX9_squares 8 = .ok (.invokestatic 92, 3) := by decide +kernel
theorem dX9_squares_11 : decode cX9_squares 11 = .ok (.aload_n 0, 1) := by decide +kernel
theorem dX9_squares_12 : decode cX9_squares 12 = .ok (.getfield 19, 3) := by decide +kernel
theorem dX9_squares_15 : decode cX9_squares 15 = .ok (.getfield 124, 3) := by decide +kernel
theorem dX9_squares_18 : decode cX9_squares 18 = .ok (.iload_n 1, 1) := by decide +kernel
theorem dX9_squares_19 : decode cX9_squares 19 = .ok (.laload, 1) := by decide +kernel
theorem dX9_squares_20 : decode cX9_squares 20 = .ok (.lstore_n 3, 1) := by decide +kernel
theorem dX9_squares_21 : decode cX9_squares 21 = .ok (.iload_n 2, 1) := by decide +kernel
theorem dX9_squares_22 : decode cX9_squares 22 = .ok (.ifCond .ne 5, 3) := by decide +kernel
theorem dX9_squares_25 : decode cX9_squares 25 = .ok (.lload_n 3, 1) := by decide +kernel
theorem dX9_squares_26 : decode cX9_squares 26 = .ok (.lreturn, 1) := by decide +kernel
theorem dX9_squares_27 : decode cX9_squares 27 = .ok (.iload_n 2, 1) := by decide +kernel
theorem dX9_squares_28 : decode cX9_squares 28 = .ok (.iconst 1, 1) := by decide +kernel
theorem dX9_squares_29 : decode cX9_squares 29 = .ok (.if_icmp .ne 10, 3) := by decide +kernel
theorem dX9_squares_32 : decode cX9_squares 32 = .ok (.lload_n 3, 1) := by decide +kernel
theorem dX9_squares_33 : decode cX9_squares 33 = .ok (.invokestatic 128, 3) := by decide +kernel
theorem dX9_squares_36 : decode cX9_squares 36 = .ok (.goto 7, 3) := by decide +kernel
theorem dX9_squares_39 : decode cX9_squares 39 = .ok (.lload_n 3, 1) := by decide +kernel
theorem dX9_squares_40 : decode cX9_squares 40 = .ok (.invokestatic 134, 3) := by decide +kernel
theorem dX9_squares_43 : decode cX9_squares 43 = .ok (.lreturn, 1) := by decide +kernel
theorem dX9_letter_0 : decode cX9_letter 0 = .ok (.aload_n 0, 1) := by decide +kernel
theorem dX9_letter_1 : decode cX9_letter 1 = .ok (.iload_n 1, 1) := by decide +kernel
theorem dX9_letter_2 : decode cX9_letter 2 = .ok (.invokevirtual 121, 3) := by decide +kernel
theorem dX9_letter_5 : decode cX9_letter 5 = .ok (.iload_n 2, 1) := by decide +kernel
theorem dX9_letter_6 : decode cX9_letter 6 = .ok (.iconst 0, 1) := by decide +kernel
theorem dX9_letter_7 : decode cX9_letter 7 = .ok (.iconst 4, 1) := by decide +kernel
theorem dX9_letter_8 : decode cX9_letter 8 = .ok (.invokestatic 92, 3) := by decide +kernel
theorem dX9_letter_11 : decode cX9_letter 11 = .ok (.aload_n 0, 1) := by decide +kernel
theorem dX9_letter_12 : decode cX9_letter 12 = .ok (.getfield 19, 3) := by decide +kernel
theorem dX9_letter_15 : decode cX9_letter 15 = .ok (.getfield 124, 3) := by decide +kernel
theorem dX9_letter_18 : decode cX9_letter 18 = .ok (.iload_n 1, 1) := by decide +kernel
theorem dX9_letter_19 : decode cX9_letter 19 = .ok (.laload, 1) := by decide +kernel
theorem dX9_letter_20 : decode cX9_letter 20 = .ok (.lstore_n 3, 1) := by decide +kernel
theorem dX9_letter_21 : decode cX9_letter 21 = .ok (.iload_n 2, 1) := by decide +kernel
theorem dX9_letter_22 : decode cX9_letter 22 = .ok (.tableswitch 57 0 3 #[30, 35, 43, 48], 30) := by decide +kernel
theorem dX9_letter_52 : decode cX9_letter 52 = .ok (.lload_n 3, 1) := by decide +kernel
theorem dX9_letter_53 : decode cX9_letter 53 = .ok (.invokestatic 137, 3) := by decide +kernel
theorem dX9_letter_56 : decode cX9_letter 56 = .ok (.ireturn, 1) := by decide +kernel
theorem dX9_letter_57 : decode cX9_letter 57 = .ok (.lload_n 3, 1) := by decide +kernel
theorem dX9_letter_58 : decode cX9_letter 58 = .ok (.invokestatic 143, 3) := by decide +kernel
theorem dX9_letter_61 : decode cX9_letter 61 = .ok (.invokestatic 137, 3) := by decide +kernel
theorem dX9_letter_64 : decode cX9_letter 64 = .ok (.ireturn, 1) := by decide +kernel
theorem dX9_letter_65 : decode cX9_letter 65 = .ok (.lload_n 3, 1) := by decide +kernel
theorem dX9_letter_66 : decode cX9_letter 66 = .ok (.invokestatic 146, 3) := by decide +kernel
theorem dX9_letter_69 : decode cX9_letter 69 = .ok (.ireturn, 1) := by decide +kernel
theorem dX9_letter_70 : decode cX9_letter 70 = .ok (.aload_n 0, 1) := by decide +kernel
theorem dX9_letter_71 : decode cX9_letter 71 = .ok (.getfield 19, 3) := by decide +kernel
theorem dX9_letter_74 : decode cX9_letter 74 = .ok (.iload_n 1, 1) := by decide +kernel
theorem dX9_letter_75 : decode cX9_letter 75 = .ok (.invokevirtual 149, 3) := by decide +kernel
theorem dX9_letter_78 : decode cX9_letter 78 = .ok (.ireturn, 1) := by decide +kernel
theorem dX9_letter_79 : decode cX9_letter 79 = .ok (.aload_n 0, 1) := by decide +kernel
theorem dX9_letter_80 : decode cX9_letter 80 = .ok (.getfield 19, 3) := by decide +kernel
theorem dX9_letter_83 : decode cX9_letter 83 = .ok (.iload_n 1, 1) := by decide +kernel
theorem dX9_letter_84 : decode cX9_letter 84 = .ok (.invokevirtual 152, 3) := by decide +kernel
theorem dX9_letter_87 : decode cX9_letter 87 = .ok (.ireturn, 1) := by decide +kernel
theorem dX9_hollow_0 : decode cX9_hollow 0 = .ok (.aload_n 0, 1) := by decide +kernel
theorem dX9_hollow_1 : decode cX9_hollow 1 = .ok (.iload_n 1, 1) := by decide +kernel
theorem dX9_hollow_2 : decode cX9_hollow 2 = .ok (.invokevirtual 155, 3) := by decide +kernel
theorem dX9_hollow_5 : decode cX9_hollow 5 = .ok (.aload_n 0, 1) := by decide +kernel
theorem dX9_hollow_6 : decode cX9_hollow 6 = .ok (.getfield 19, 3) := by decide +kernel
theorem dX9_hollow_9 : decode cX9_hollow 9 = .ok (.getfield 158, 3) := by decide +kernel
theorem dX9_hollow_12 : decode cX9_hollow 12 = .ok (.iload_n 1, 1) := by decide +kernel
theorem dX9_hollow_13 : decode cX9_hollow 13 = .ok (.laload, 1) := by decide +kernel
theorem dX9_hollow_14 : decode cX9_hollow 14 = .ok (.lreturn, 1) := by decide +kernel
theorem dX9_shape_0 : decode cX9_shape 0 = .ok (.lload_n 1, 1) := by decide +kernel
theorem dX9_shape_1 : decode cX9_shape 1 = .ok (.invokestatic 161, 3) := by decide +kernel
theorem dX9_shape_4 : decode cX9_shape 4 = .ok (.lreturn, 1) := by decide +kernel
theorem dX9_apart_0 : decode cX9_apart 0 = .ok (.aload_n 0, 1) := by decide +kernel
theorem dX9_apart_1 : decode cX9_apart 1 = .ok (.iload_n 1, 1) := by decide +kernel
theorem dX9_apart_2 : decode cX9_apart 2 = .ok (.invokevirtual 155, 3) := by decide +kernel
theorem dX9_apart_5 : decode cX9_apart 5 = .ok (.aload_n 0, 1) := by decide +kernel
theorem dX9_apart_6 : decode cX9_apart 6 = .ok (.iload_n 2, 1) := by decide +kernel
theorem dX9_apart_7 : decode cX9_apart 7 = .ok (.invokevirtual 155, 3) := by decide +kernel
theorem dX9_apart_10 : decode cX9_apart 10 = .ok (.aload_n 0, 1) := by decide +kernel
theorem dX9_apart_11 : decode cX9_apart 11 = .ok (.getfield 37, 3) := by decide +kernel
theorem dX9_apart_14 : decode cX9_apart 14 = .ok (.iload_n 1, 1) := by decide +kernel
theorem dX9_apart_15 : decode cX9_apart 15 = .ok (.iload_n 2, 1) := by decide +kernel
theorem dX9_apart_16 : decode cX9_apart 16 = .ok (.iload_n 3, 1) := by decide +kernel
theorem dX9_apart_17 : decode cX9_apart 17 = .ok (.invokevirtual 164, 3) := by decide +kernel
theorem dX9_apart_20 : decode cX9_apart 20 = .ok (.ireturn, 1) := by decide +kernel
theorem dX9_punches_0 : decode cX9_punches 0 = .ok (.iload_n 1, 1) := by decide +kernel
theorem dX9_punches_1 : decode cX9_punches 1 = .ok (.iconst 0, 1) := by decide +kernel
theorem dX9_punches_2 : decode cX9_punches 2 = .ok (.bipush 64, 2) := by decide +kernel
theorem dX9_punches_4 : decode cX9_punches 4 = .ok (.invokestatic 92, 3) := by decide +kernel
theorem dX9_punches_7 : decode cX9_punches 7 = .ok (.iload_n 3, 1) := by decide +kernel
theorem dX9_punches_8 : decode cX9_punches 8 = .ok (.iconst 0, 1) := by decide +kernel
theorem dX9_punches_9 : decode cX9_punches 9 = .ok (.iconst 1, 1) := by decide +kernel
theorem dX9_punches_10 : decode cX9_punches 10 = .ok (.invokestatic 92, 3) := by decide +kernel
theorem dX9_punches_13 : decode cX9_punches 13 = .ok (.aload_n 0, 1) := by decide +kernel
theorem dX9_punches_14 : decode cX9_punches 14 = .ok (.getfield 37, 3) := by decide +kernel
theorem dX9_punches_17 : decode cX9_punches 17 = .ok (.iload_n 1, 1) := by decide +kernel
theorem dX9_punches_18 : decode cX9_punches 18 = .ok (.iload_n 2, 1) := by decide +kernel
theorem dX9_punches_19 : decode cX9_punches 19 = .ok (.invokevirtual 168, 3) := by decide +kernel
theorem dX9_punches_22 : decode cX9_punches 22 = .ok (.istore 4, 2) := by decide +kernel
theorem dX9_punches_24 : decode cX9_punches 24 = .ok (.iload_n 3, 1) := by decide +kernel
theorem dX9_punches_25 : decode cX9_punches 25 = .ok (.ifCond .ne 11, 3) := by decide +kernel
theorem dX9_punches_28 : decode cX9_punches 28 = .ok (.iload 4, 2) := by decide +kernel
theorem dX9_punches_30 : decode cX9_punches 30 = .ok (.invokestatic 172, 3) := by decide +kernel
theorem dX9_punches_33 : decode cX9_punches 33 = .ok (.goto 5, 3) := by decide +kernel
theorem dX9_punches_36 : decode cX9_punches 36 = .ok (.iload 4, 2) := by decide +kernel
theorem dX9_punches_38 : decode cX9_punches 38 = .ok (.ireturn, 1) := by decide +kernel
theorem dX9_served_0 : decode cX9_served 0 = .ok (.aload_n 0, 1) := by decide +kernel
theorem dX9_served_1 : decode cX9_served 1 = .ok (.iload_n 1, 1) := by decide +kernel
theorem dX9_served_2 : decode cX9_served 2 = .ok (.invokevirtual 155, 3) := by decide +kernel
theorem dX9_served_5 : decode cX9_served 5 = .ok (.iload_n 2, 1) := by decide +kernel
theorem dX9_served_6 : decode cX9_served 6 = .ok (.iconst 0, 1) := by decide +kernel
theorem dX9_served_7 : decode cX9_served 7 = .ok (.bipush 64, 2) := by decide +kernel
theorem dX9_served_9 : decode cX9_served 9 = .ok (.invokestatic 92, 3) := by decide +kernel
theorem dX9_served_12 : decode cX9_served 12 = .ok (.aload_n 0, 1) := by decide +kernel
theorem dX9_served_13 : decode cX9_served 13 = .ok (.getfield 37, 3) := by decide +kernel
theorem dX9_served_16 : decode cX9_served 16 = .ok (.iload_n 1, 1) := by decide +kernel
theorem dX9_served_17 : decode cX9_served 17 = .ok (.iload_n 2, 1) := by decide +kernel
theorem dX9_served_18 : decode cX9_served 18 = .ok (.iload_n 3, 1) := by decide +kernel
theorem dX9_served_19 : decode cX9_served 19 = .ok (.invokevirtual 176, 3) := by decide +kernel
theorem dX9_served_22 : decode cX9_served 22 = .ok (.ireturn, 1) := by decide +kernel
theorem dX9_bites_0 : decode cX9_bites 0 = .ok (.aload_n 0, 1) := by decide +kernel
theorem dX9_bites_1 : decode cX9_bites 1 = .ok (.iload_n 1, 1) := by decide +kernel
theorem dX9_bites_2 : decode cX9_bites 2 = .ok (.invokevirtual 121, 3) := by decide +kernel
theorem dX9_bites_5 : decode cX9_bites 5 = .ok (.iload_n 2, 1) := by decide +kernel
theorem dX9_bites_6 : decode cX9_bites 6 = .ok (.iconst 0, 1) := by decide +kernel
theorem dX9_bites_7 : decode cX9_bites 7 = .ok (.iconst 1, 1) := by decide +kernel
theorem dX9_bites_8 : decode cX9_bites 8 = .ok (.invokestatic 92, 3) := by decide +kernel
theorem dX9_bites_11 : decode cX9_bites 11 = .ok (.aload_n 0, 1) := by decide +kernel
theorem dX9_bites_12 : decode cX9_bites 12 = .ok (.iload_n 1, 1) := by decide +kernel
theorem dX9_bites_13 : decode cX9_bites 13 = .ok (.invokevirtual 179, 3) := by decide +kernel
theorem dX9_bites_16 : decode cX9_bites 16 = .ok (.invokestatic 137, 3) := by decide +kernel
theorem dX9_bites_19 : decode cX9_bites 19 = .ok (.ireturn, 1) := by decide +kernel
theorem dX9_lines_0 : decode cX9_lines 0 = .ok (.aload_n 0, 1) := by decide +kernel
theorem dX9_lines_1 : decode cX9_lines 1 = .ok (.iload_n 1, 1) := by decide +kernel
theorem dX9_lines_2 : decode cX9_lines 2 = .ok (.invokevirtual 121, 3) := by decide +kernel
theorem dX9_lines_5 : decode cX9_lines 5 = .ok (.aload_n 0, 1) := by decide +kernel
theorem dX9_lines_6 : decode cX9_lines 6 = .ok (.iload_n 1, 1) := by decide +kernel
theorem dX9_lines_7 : decode cX9_lines 7 = .ok (.invokevirtual 179, 3) := by decide +kernel
theorem dX9_lines_10 : decode cX9_lines 10 = .ok (.lreturn, 1) := by decide +kernel
theorem dX9_begin_0 : decode cX9_begin 0 = .ok (.aload_n 0, 1) := by decide +kernel
theorem dX9_begin_1 : decode cX9_begin 1 = .ok (.iload_n 1, 1) := by decide +kernel
theorem dX9_begin_2 : decode cX9_begin 2 = .ok (.invokevirtual 121, 3) := by decide +kernel
theorem dX9_begin_5 : decode cX9_begin 5 = .ok (.aload_n 0, 1) := by decide +kernel
theorem dX9_begin_6 : decode cX9_begin 6 = .ok (.getfield 65, 3) := by decide +kernel
theorem dX9_begin_9 : decode cX9_begin 9 = .ok (.iload_n 1, 1) := by decide +kernel
theorem dX9_begin_10 : decode cX9_begin 10 = .ok (.invokevirtual 183, 3) := by decide +kernel
theorem dX9_begin_13 : decode cX9_begin 13 = .ok (.return_, 1) := by decide +kernel
theorem dX9_blow_0 : decode cX9_blow 0 = .ok (.aload_n 0, 1) := by decide +kernel
theorem dX9_blow_1 : decode cX9_blow 1 = .ok (.iload_n 1, 1) := by decide +kernel
theorem dX9_blow_2 : decode cX9_blow 2 = .ok (.invokevirtual 155, 3) := by decide +kernel
theorem dX9_blow_5 : decode cX9_blow 5 = .ok (.aload_n 0, 1) := by decide +kernel
theorem dX9_blow_6 : decode cX9_blow 6 = .ok (.invokevirtual 186, 3) := by decide +kernel
theorem dX9_blow_9 : decode cX9_blow 9 = .ok (.ifCond .ne 5, 3) := by decide +kernel
theorem dX9_blow_12 : decode cX9_blow 12 = .ok (.iconst (-1), 1) := by decide +kernel
theorem dX9_blow_13 : decode cX9_blow 13 = .ok (.ireturn, 1) := by decide +kernel
theorem dX9_blow_14 : decode cX9_blow 14 = .ok (.aload_n 0, 1) := by decide +kernel
theorem dX9_blow_15 : decode cX9_blow 15 = .ok (.getfield 19, 3) := by decide +kernel
theorem dX9_blow_18 : decode cX9_blow 18 = .ok (.getfield 190, 3) := by decide +kernel
theorem dX9_blow_21 : decode cX9_blow 21 = .ok (.iload_n 1, 1) := by decide +kernel
theorem dX9_blow_22 : decode cX9_blow 22 = .ok (.iaload, 1) := by decide +kernel
theorem dX9_blow_23 : decode cX9_blow 23 = .ok (.aload_n 0, 1) := by decide +kernel
theorem dX9_blow_24 : decode cX9_blow 24 = .ok (.getfield 65, 3) := by decide +kernel
theorem dX9_blow_27 : decode cX9_blow 27 = .ok (.getfield 194, 3) := by decide +kernel
theorem dX9_blow_30 : decode cX9_blow 30 = .ok (.if_icmp .eq 6, 3) := by decide +kernel
theorem dX9_blow_33 : decode cX9_blow 33 = .ok (.bipush (-2), 2) := by decide +kernel
theorem dX9_blow_35 : decode cX9_blow 35 = .ok (.ireturn, 1) := by decide +kernel
theorem dX9_blow_36 : decode cX9_blow 36 = .ok (.aload_n 0, 1) := by decide +kernel
theorem dX9_blow_37 : decode cX9_blow 37 = .ok (.getfield 65, 3) := by decide +kernel
theorem dX9_blow_40 : decode cX9_blow 40 = .ok (.aload_n 0, 1) := by decide +kernel
theorem dX9_blow_41 : decode cX9_blow 41 = .ok (.getfield 19, 3) := by decide +kernel
theorem dX9_blow_44 : decode cX9_blow 44 = .ok (.getfield 158, 3) := by decide +kernel
theorem dX9_blow_47 : decode cX9_blow 47 = .ok (.iload_n 1, 1) := by decide +kernel
theorem dX9_blow_48 : decode cX9_blow 48 = .ok (.laload, 1) := by decide +kernel
theorem dX9_blow_49 : decode cX9_blow 49 = .ok (.invokevirtual 197, 3) := by decide +kernel
theorem dX9_blow_52 : decode cX9_blow 52 = .ok (.ireturn, 1) := by decide +kernel
theorem dX9_file_0 : decode cX9_file 0 = .ok (.iload_n 1, 1) := by decide +kernel
theorem dX9_file_1 : decode cX9_file 1 = .ok (.iload_n 2, 1) := by decide +kernel
theorem dX9_file_2 : decode cX9_file 2 = .ok (.iload_n 3, 1) := by decide +kernel
theorem dX9_file_3 : decode cX9_file 3 = .ok (.invokestatic 200, 3) := by decide +kernel
theorem dX9_file_6 : decode cX9_file 6 = .ok (.aload_n 0, 1) := by decide +kernel
theorem dX9_file_7 : decode cX9_file 7 = .ok (.invokevirtual 186, 3) := by decide +kernel
theorem dX9_file_10 : decode cX9_file 10 = .ok (.ifCond .ne 5, 3) := by decide +kernel
theorem dX9_file_13 : decode cX9_file 13 = .ok (.iconst (-1), 1) := by decide +kernel
theorem dX9_file_14 : decode cX9_file 14 = .ok (.ireturn, 1) := by decide +kernel
theorem dX9_file_15 : decode cX9_file 15 = .ok (.aload_n 0, 1) := by decide +kernel
theorem dX9_file_16 : decode cX9_file 16 = .ok (.getfield 65, 3) := by decide +kernel
theorem dX9_file_19 : decode cX9_file 19 = .ok (.iload_n 1, 1) := by decide +kernel
theorem dX9_file_20 : decode cX9_file 20 = .ok (.iload_n 2, 1) := by decide +kernel
theorem dX9_file_21 : decode cX9_file 21 = .ok (.iload_n 3, 1) := by decide +kernel
theorem dX9_file_22 : decode cX9_file 22 = .ok (.invokestatic 203, 3) := by decide +kernel
theorem dX9_file_25 : decode cX9_file 25 = .ok (.invokevirtual 207, 3) := by decide +kernel
theorem dX9_file_28 : decode cX9_file 28 = .ok (.ireturn, 1) := by decide +kernel
theorem dX9_steel_0 : decode cX9_steel 0 = .ok (.aload_n 0, 1) := by decide +kernel
theorem dX9_steel_1 : decode cX9_steel 1 = .ok (.invokevirtual 186, 3) := by decide +kernel
theorem dX9_steel_4 : decode cX9_steel 4 = .ok (.ifCond .eq 17, 3) := by decide +kernel
theorem dX9_steel_7 : decode cX9_steel 7 = .ok (.aload_n 0, 1) := by decide +kernel
theorem dX9_steel_8 : decode cX9_steel 8 = .ok (.getfield 65, 3) := by decide +kernel
theorem dX9_steel_11 : decode cX9_steel 11 = .ok (.getfield 210, 3) := by decide +kernel
theorem dX9_steel_14 : decode cX9_steel 14 = .ok (.ldc2_w 214, 3) := by decide +kernel
theorem dX9_steel_17 : decode cX9_steel 17 = .ok (.lxor, 1) := by decide +kernel
theorem dX9_steel_18 : decode cX9_steel 18 = .ok (.goto 4, 3) := by decide +kernel
theorem dX9_steel_21 : decode cX9_steel 21 = .ok (.lconst 0, 1) := by decide +kernel
theorem dX9_steel_22 : decode cX9_steel 22 = .ok (.lreturn, 1) := by decide +kernel
theorem dX9_punch_0 : decode cX9_punch 0 = .ok (.iload_n 1, 1) := by decide +kernel
theorem dX9_punch_1 : decode cX9_punch 1 = .ok (.iconst 0, 1) := by decide +kernel
theorem dX9_punch_2 : decode cX9_punch 2 = .ok (.iconst 2, 1) := by decide +kernel
theorem dX9_punch_3 : decode cX9_punch 3 = .ok (.invokestatic 92, 3) := by decide +kernel
theorem dX9_punch_6 : decode cX9_punch 6 = .ok (.aload_n 0, 1) := by decide +kernel
theorem dX9_punch_7 : decode cX9_punch 7 = .ok (.invokevirtual 186, 3) := by decide +kernel
theorem dX9_punch_10 : decode cX9_punch 10 = .ok (.ifCond .ne 5, 3) := by decide +kernel
theorem dX9_punch_13 : decode cX9_punch 13 = .ok (.iconst (-1), 1) := by decide +kernel
theorem dX9_punch_14 : decode cX9_punch 14 = .ok (.ireturn, 1) := by decide +kernel
theorem dX9_punch_15 : decode cX9_punch 15 = .ok (.aload_n 0, 1) := by decide +kernel
theorem dX9_punch_16 : decode cX9_punch 16 = .ok (.getfield 19, 3) := by decide +kernel
theorem dX9_punch_19 : decode cX9_punch 19 = .ok (.getfield 124, 3) := by decide +kernel
theorem dX9_punch_22 : decode cX9_punch 22 = .ok (.aload_n 0, 1) := by decide +kernel
theorem dX9_punch_23 : decode cX9_punch 23 = .ok (.getfield 65, 3) := by decide +kernel
theorem dX9_punch_26 : decode cX9_punch 26 = .ok (.getfield 194, 3) := by decide +kernel
theorem dX9_punch_29 : decode cX9_punch 29 = .ok (.laload, 1) := by decide +kernel
theorem dX9_punch_30 : decode cX9_punch 30 = .ok (.lstore_n 2, 1) := by decide +kernel
theorem dX9_punch_31 : decode cX9_punch 31 = .ok (.iload_n 1, 1) := by decide +kernel
theorem dX9_punch_32 : decode cX9_punch 32 = .ok (.ifCond .ne 26, 3) := by decide +kernel
theorem dX9_punch_35 : decode cX9_punch 35 = .ok (.aload_n 0, 1) := by decide +kernel
theorem dX9_punch_36 : decode cX9_punch 36 = .ok (.getfield 65, 3) := by decide +kernel
theorem dX9_punch_39 : decode cX9_punch 39 = .ok (.getfield 210, 3) := by decide +kernel
theorem dX9_punch_42 : decode cX9_punch 42 = .ok (.lload_n 2, 1) := by decide +kernel
theorem dX9_punch_43 : decode cX9_punch 43 = .ok (.land, 1) := by decide +kernel
theorem dX9_punch_44 : decode cX9_punch 44 = .ok (.lconst 0, 1) := by decide +kernel
theorem dX9_punch_45 : decode cX9_punch 45 = .ok (.lcmp, 1) := by decide +kernel
theorem dX9_punch_46 : decode cX9_punch 46 = .ok (.ifCond .ne 7, 3) := by decide +kernel
theorem dX9_punch_49 : decode cX9_punch 49 = .ok (.iconst 1, 1) := by decide +kernel
theorem dX9_punch_50 : decode cX9_punch 50 = .ok (.goto 4, 3) := by decide +kernel
theorem dX9_punch_53 : decode cX9_punch 53 = .ok (.iconst 0, 1) := by decide +kernel
theorem dX9_punch_54 : decode cX9_punch 54 = .ok (.invokestatic 216, 3) := by decide +kernel
theorem dX9_punch_57 : decode cX9_punch 57 = .ok (.ireturn, 1) := by decide +kernel
theorem dX9_punch_58 : decode cX9_punch 58 = .ok (.iload_n 1, 1) := by decide +kernel
theorem dX9_punch_59 : decode cX9_punch 59 = .ok (.iconst 1, 1) := by decide +kernel
theorem dX9_punch_60 : decode cX9_punch 60 = .ok (.if_icmp .ne 27, 3) := by decide +kernel
theorem dX9_punch_63 : decode cX9_punch 63 = .ok (.aload_n 0, 1) := by decide +kernel
theorem dX9_punch_64 : decode cX9_punch 64 = .ok (.getfield 65, 3) := by decide +kernel
theorem dX9_punch_67 : decode cX9_punch 67 = .ok (.getfield 210, 3) := by decide +kernel
theorem dX9_punch_70 : decode cX9_punch 70 = .ok (.lload_n 2, 1) := by decide +kernel
theorem dX9_punch_71 : decode cX9_punch 71 = .ok (.ldc2_w 214, 3) := by decide +kernel
theorem dX9_punch_74 : decode cX9_punch 74 = .ok (.lxor, 1) := by decide +kernel
theorem dX9_punch_75 : decode cX9_punch 75 = .ok (.lcmp, 1) := by decide +kernel
theorem dX9_punch_76 : decode cX9_punch 76 = .ok (.ifCond .ne 7, 3) := by decide +kernel
theorem dX9_punch_79 : decode cX9_punch 79 = .ok (.iconst 1, 1) := by decide +kernel
theorem dX9_punch_80 : decode cX9_punch 80 = .ok (.goto 14, 3) := by decide +kernel
theorem dX9_punch_83 : decode cX9_punch 83 = .ok (.iconst 0, 1) := by decide +kernel
theorem dX9_punch_84 : decode cX9_punch 84 = .ok (.goto 10, 3) := by decide +kernel
theorem dX9_punch_87 : decode cX9_punch 87 = .ok (.aload_n 0, 1) := by decide +kernel
theorem dX9_punch_88 : decode cX9_punch 88 = .ok (.getfield 65, 3) := by decide +kernel
theorem dX9_punch_91 : decode cX9_punch 91 = .ok (.getfield 220, 3) := by decide +kernel
theorem dX9_punch_94 : decode cX9_punch 94 = .ok (.invokestatic 216, 3) := by decide +kernel
theorem dX9_punch_97 : decode cX9_punch 97 = .ok (.ireturn, 1) := by decide +kernel
theorem dX9_addBlow_0 : decode cX9_addBlow 0 = .ok (.aload_n 0, 1) := by decide +kernel
theorem dX9_addBlow_1 : decode cX9_addBlow 1 = .ok (.iload_n 1, 1) := by decide +kernel
theorem dX9_addBlow_2 : decode cX9_addBlow 2 = .ok (.invokevirtual 155, 3) := by decide +kernel
theorem dX9_addBlow_5 : decode cX9_addBlow 5 = .ok (.aload_n 0, 1) := by decide +kernel
theorem dX9_addBlow_6 : decode cX9_addBlow 6 = .ok (.getfield 65, 3) := by decide +kernel
theorem dX9_addBlow_9 : decode cX9_addBlow 9 = .ok (.iload_n 1, 1) := by decide +kernel
theorem dX9_addBlow_10 : decode cX9_addBlow 10 = .ok (.lconst 0, 1) := by decide +kernel
theorem dX9_addBlow_11 : decode cX9_addBlow 11 = .ok (.invokevirtual 224, 3) := by decide +kernel
theorem dX9_addBlow_14 : decode cX9_addBlow 14 = .ok (.ireturn, 1) := by decide +kernel
theorem dX9_addFile_0 : decode cX9_addFile 0 = .ok (.iload_n 1, 1) := by decide +kernel
theorem dX9_addFile_1 : decode cX9_addFile 1 = .ok (.iload_n 2, 1) := by decide +kernel
theorem dX9_addFile_2 : decode cX9_addFile 2 = .ok (.iload_n 3, 1) := by decide +kernel
theorem dX9_addFile_3 : decode cX9_addFile 3 = .ok (.invokestatic 200, 3) := by decide +kernel
theorem dX9_addFile_6 : decode cX9_addFile 6 = .ok (.aload_n 0, 1) := by decide +kernel
theorem dX9_addFile_7 : decode cX9_addFile 7 = .ok (.getfield 65, 3) := by decide +kernel
theorem dX9_addFile_10 : decode cX9_addFile 10 = .ok (.iconst (-1), 1) := by decide +kernel
theorem dX9_addFile_11 : decode cX9_addFile 11 = .ok (.iload_n 1, 1) := by decide +kernel
theorem dX9_addFile_12 : decode cX9_addFile 12 = .ok (.iload_n 2, 1) := by decide +kernel
theorem dX9_addFile_13 : decode cX9_addFile 13 = .ok (.iload_n 3, 1) := by decide +kernel
theorem dX9_addFile_14 : decode cX9_addFile 14 = .ok (.invokestatic 203, 3) := by decide +kernel
theorem dX9_addFile_17 : decode cX9_addFile 17 = .ok (.invokevirtual 224, 3) := by decide +kernel
theorem dX9_addFile_20 : decode cX9_addFile 20 = .ok (.ireturn, 1) := by decide +kernel
theorem dX9_clear_0 : decode cX9_clear 0 = .ok (.aload_n 0, 1) := by decide +kernel
theorem dX9_clear_1 : decode cX9_clear 1 = .ok (.getfield 65, 3) := by decide +kernel
theorem dX9_clear_4 : decode cX9_clear 4 = .ok (.getfield 228, 3) := by decide +kernel
theorem dX9_clear_7 : decode cX9_clear 7 = .ok (.istore_n 1, 1) := by decide +kernel
theorem dX9_clear_8 : decode cX9_clear 8 = .ok (.aload_n 0, 1) := by decide +kernel
theorem dX9_clear_9 : decode cX9_clear 9 = .ok (.getfield 65, 3) := by decide +kernel
theorem dX9_clear_12 : decode cX9_clear 12 = .ok (.iconst 0, 1) := by decide +kernel
theorem dX9_clear_13 : decode cX9_clear 13 = .ok (.putfield 228, 3) := by decide +kernel
theorem dX9_clear_16 : decode cX9_clear 16 = .ok (.iload_n 1, 1) := by decide +kernel
theorem dX9_clear_17 : decode cX9_clear 17 = .ok (.ireturn, 1) := by decide +kernel
theorem dX9_judge_0 : decode cX9_judge 0 = .ok (.aload_n 0, 1) := by decide +kernel
theorem dX9_judge_1 : decode cX9_judge 1 = .ok (.iload_n 1, 1) := by decide +kernel
theorem dX9_judge_2 : decode cX9_judge 2 = .ok (.invokevirtual 121, 3) := by decide +kernel
theorem dX9_judge_5 : decode cX9_judge 5 = .ok (.iload_n 2, 1) := by decide +kernel
theorem dX9_judge_6 : decode cX9_judge 6 = .ok (.iconst 0, 1) := by decide +kernel
theorem dX9_judge_7 : decode cX9_judge 7 = .ok (.iconst 1, 1) := by decide +kernel
theorem dX9_judge_8 : decode cX9_judge 8 = .ok (.invokestatic 92, 3) := by decide +kernel
theorem dX9_judge_11 : decode cX9_judge 11 = .ok (.iload_n 2, 1) := by decide +kernel
theorem dX9_judge_12 : decode cX9_judge 12 = .ok (.ifCond .ne 16, 3) := by decide +kernel
theorem dX9_judge_15 : decode cX9_judge 15 = .ok (.aload_n 0, 1) := by decide +kernel
theorem dX9_judge_16 : decode cX9_judge 16 = .ok (.getfield 65, 3) := by decide +kernel
theorem dX9_judge_19 : decode cX9_judge 19 = .ok (.aload_n 0, 1) := by decide +kernel
theorem dX9_judge_20 : decode cX9_judge 20 = .ok (.getfield 19, 3) := by decide +kernel
theorem dX9_judge_23 : decode cX9_judge 23 = .ok (.iload_n 1, 1) := by decide +kernel
theorem dX9_judge_24 : decode cX9_judge 24 = .ok (.invokevirtual 231, 3) := by decide +kernel
theorem dX9_judge_27 : decode cX9_judge 27 = .ok (.ireturn, 1) := by decide +kernel
theorem dX9_judge_28 : decode cX9_judge 28 = .ok (.aload_n 0, 1) := by decide +kernel
theorem dX9_judge_29 : decode cX9_judge 29 = .ok (.getfield 65, 3) := by decide +kernel
theorem dX9_judge_32 : decode cX9_judge 32 = .ok (.aload_n 0, 1) := by decide +kernel
theorem dX9_judge_33 : decode cX9_judge 33 = .ok (.getfield 19, 3) := by decide +kernel
theorem dX9_judge_36 : decode cX9_judge 36 = .ok (.iload_n 1, 1) := by decide +kernel
theorem dX9_judge_37 : decode cX9_judge 37 = .ok (.aload_n 0, 1) := by decide +kernel
theorem dX9_judge_38 : decode cX9_judge 38 = .ok (.getfield 65, 3) := by decide +kernel
theorem dX9_judge_41 : decode cX9_judge 41 = .ok (.getfield 228, 3) := by decide +kernel
theorem dX9_judge_44 : decode cX9_judge 44 = .ok (.invokevirtual 235, 3) := by decide +kernel
theorem dX9_judge_47 : decode cX9_judge 47 = .ok (.aload_n 0, 1) := by decide +kernel
theorem dX9_judge_48 : decode cX9_judge 48 = .ok (.getfield 19, 3) := by decide +kernel
theorem dX9_judge_51 : decode cX9_judge 51 = .ok (.getfield 124, 3) := by decide +kernel
theorem dX9_judge_54 : decode cX9_judge 54 = .ok (.iload_n 1, 1) := by decide +kernel
theorem dX9_judge_55 : decode cX9_judge 55 = .ok (.laload, 1) := by decide +kernel
theorem dX9_judge_56 : decode cX9_judge 56 = .ok (.ldc2_w 214, 3) := by decide +kernel
theorem dX9_judge_59 : decode cX9_judge 59 = .ok (.lxor, 1) := by decide +kernel
theorem dX9_judge_60 : decode cX9_judge 60 = .ok (.lcmp, 1) := by decide +kernel
theorem dX9_judge_61 : decode cX9_judge 61 = .ok (.ifCond .ne 7, 3) := by decide +kernel
theorem dX9_judge_64 : decode cX9_judge 64 = .ok (.iconst 1, 1) := by decide +kernel
theorem dX9_judge_65 : decode cX9_judge 65 = .ok (.goto 4, 3) := by decide +kernel
theorem dX9_judge_68 : decode cX9_judge 68 = .ok (.iconst 0, 1) := by decide +kernel
theorem dX9_judge_69 : decode cX9_judge 69 = .ok (.invokestatic 216, 3) := by decide +kernel
theorem dX9_judge_72 : decode cX9_judge 72 = .ok (.ireturn, 1) := by decide +kernel
theorem dX9_hours_0 : decode cX9_hours 0 = .ok (.aload_n 0, 1) := by decide +kernel
theorem dX9_hours_1 : decode cX9_hours 1 = .ok (.iload_n 1, 1) := by decide +kernel
theorem dX9_hours_2 : decode cX9_hours 2 = .ok (.iload_n 2, 1) := by decide +kernel
theorem dX9_hours_3 : decode cX9_hours 3 = .ok (.iload_n 3, 1) := by decide +kernel
theorem dX9_hours_4 : decode cX9_hours 4 = .ok (.invokevirtual 239, 3) := by decide +kernel
theorem dX9_hours_7 : decode cX9_hours 7 = .ok (.aload_n 0, 1) := by decide +kernel
theorem dX9_hours_8 : decode cX9_hours 8 = .ok (.getfield 44, 3) := by decide +kernel
theorem dX9_hours_11 : decode cX9_hours 11 = .ok (.invokevirtual 242, 3) := by decide +kernel
theorem dX9_hours_14 : decode cX9_hours 14 = .ok (.lreturn, 1) := by decide +kernel
theorem dX9_order_0 : decode cX9_order 0 = .ok (.aload_n 0, 1) := by decide +kernel
theorem dX9_order_1 : decode cX9_order 1 = .ok (.iload_n 1, 1) := by decide +kernel
theorem dX9_order_2 : decode cX9_order 2 = .ok (.iload_n 2, 1) := by decide +kernel
theorem dX9_order_3 : decode cX9_order 3 = .ok (.iload_n 3, 1) := by decide +kernel
theorem dX9_order_4 : decode cX9_order 4 = .ok (.invokevirtual 239, 3) := by decide +kernel
theorem dX9_order_7 : decode cX9_order 7 = .ok (.aload_n 0, 1) := by decide +kernel
theorem dX9_order_8 : decode cX9_order 8 = .ok (.getfield 44, 3) := by decide +kernel
theorem dX9_order_11 : decode cX9_order 11 = .ok (.iload 4, 2) := by decide +kernel
theorem dX9_order_13 : decode cX9_order 13 = .ok (.invokevirtual 246, 3) := by decide +kernel
theorem dX9_order_16 : decode cX9_order 16 = .ok (.ireturn, 1) := by decide +kernel
theorem dX9_black_0 : decode cX9_black 0 = .ok (.aload_n 0, 1) := by decide +kernel
theorem dX9_black_1 : decode cX9_black 1 = .ok (.iload_n 1, 1) := by decide +kernel
theorem dX9_black_2 : decode cX9_black 2 = .ok (.invokevirtual 121, 3) := by decide +kernel
theorem dX9_black_5 : decode cX9_black 5 = .ok (.iload_n 2, 1) := by decide +kernel
theorem dX9_black_6 : decode cX9_black 6 = .ok (.iconst 1, 1) := by decide +kernel
theorem dX9_black_7 : decode cX9_black 7 = .ok (.bipush 9, 2) := by decide +kernel
theorem dX9_black_9 : decode cX9_black 9 = .ok (.invokestatic 92, 3) := by decide +kernel
theorem dX9_black_12 : decode cX9_black 12 = .ok (.aload_n 0, 1) := by decide +kernel
theorem dX9_black_13 : decode cX9_black 13 = .ok (.getfield 51, 3) := by decide +kernel
theorem dX9_black_16 : decode cX9_black 16 = .ok (.iload_n 1, 1) := by decide +kernel
theorem dX9_black_17 : decode cX9_black 17 = .ok (.aload_n 0, 1) := by decide +kernel
theorem dX9_black_18 : decode cX9_black 18 = .ok (.getfield 19, 3) := by decide +kernel
theorem dX9_black_21 : decode cX9_black 21 = .ok (.getfield 249, 3) := by decide +kernel
theorem dX9_black_24 : decode cX9_black 24 = .ok (.iload_n 2, 1) := by decide +kernel
theorem dX9_black_25 : decode cX9_black 25 = .ok (.iaload, 1) := by decide +kernel
theorem dX9_black_26 : decode cX9_black 26 = .ok (.invokevirtual 252, 3) := by decide +kernel
theorem dX9_black_29 : decode cX9_black 29 = .ok (.ireturn, 1) := by decide +kernel
theorem dX9_colour_0 : decode cX9_colour 0 = .ok (.iload_n 1, 1) := by decide +kernel
theorem dX9_colour_1 : decode cX9_colour 1 = .ok (.ifCond .lt 14, 3) := by decide +kernel
theorem dX9_colour_4 : decode cX9_colour 4 = .ok (.iload_n 1, 1) := by decide +kernel
theorem dX9_colour_5 : decode cX9_colour 5 = .ok (.aload_n 0, 1) := by decide +kernel
theorem dX9_colour_6 : decode cX9_colour 6 = .ok (.getfield 19, 3) := by decide +kernel
theorem dX9_colour_9 : decode cX9_colour 9 = .ok (.getfield 115, 3) := by decide +kernel
theorem dX9_colour_12 : decode cX9_colour 12 = .ok (.if_icmp .lt 14, 3) := by decide +kernel
theorem dX9_colour_15 : decode cX9_colour 15 = .ok (.new 256, 3) := by decide +kernel
theorem dX9_colour_18 : decode cX9_colour 18 = .ok (.dup, 1) := by decide +kernel
theorem dX9_colour_19 : decode cX9_colour 19 = .ok (.ldc_w 258, 3) := by decide +kernel
theorem dX9_colour_22 : decode cX9_colour 22 = .ok (.invokespecial 260, 3) := by decide +kernel
theorem dX9_colour_25 : decode cX9_colour 25 = .ok (.athrow, 1) := by decide +kernel
theorem dX9_colour_26 : decode cX9_colour 26 = .ok (.iload_n 2, 1) := by decide +kernel
theorem dX9_colour_27 : decode cX9_colour 27 = .ok (.iconst 1, 1) := by decide +kernel
theorem dX9_colour_28 : decode cX9_colour 28 = .ok (.bipush 9, 2) := by decide +kernel
theorem dX9_colour_30 : decode cX9_colour 30 = .ok (.invokestatic 92, 3) := by decide +kernel
theorem dX9_colour_33 : decode cX9_colour 33 = .ok (.iload_n 3, 1) := by decide +kernel
theorem dX9_colour_34 : decode cX9_colour 34 = .ok (.iconst 0, 1) := by decide +kernel
theorem dX9_colour_35 : decode cX9_colour 35 = .ok (.ldc_w 263, 3) := by decide +kernel
theorem dX9_colour_38 : decode cX9_colour 38 = .ok (.invokestatic 92, 3) := by decide +kernel
theorem dX9_colour_41 : decode cX9_colour 41 = .ok (.aload_n 0, 1) := by decide +kernel
theorem dX9_colour_42 : decode cX9_colour 42 = .ok (.getfield 51, 3) := by decide +kernel
theorem dX9_colour_45 : decode cX9_colour 45 = .ok (.iload_n 1, 1) := by decide +kernel
theorem dX9_colour_46 : decode cX9_colour 46 = .ok (.aload_n 0, 1) := by decide +kernel
theorem dX9_colour_47 : decode cX9_colour 47 = .ok (.getfield 19, 3) := by decide +kernel
theorem dX9_colour_50 : decode cX9_colour 50 = .ok (.getfield 249, 3) := by decide +kernel
theorem dX9_colour_53 : decode cX9_colour 53 = .ok (.iload_n 2, 1) := by decide +kernel
theorem dX9_colour_54 : decode cX9_colour 54 = .ok (.iaload, 1) := by decide +kernel
theorem dX9_colour_55 : decode cX9_colour 55 = .ok (.iload_n 3, 1) := by decide +kernel
theorem dX9_colour_56 : decode cX9_colour 56 = .ok (.invokevirtual 264, 3) := by decide +kernel
theorem dX9_colour_59 : decode cX9_colour 59 = .ok (.ireturn, 1) := by decide +kernel
theorem dX9_uneven_0 : decode cX9_uneven 0 = .ok (.iload_n 1, 1) := by decide +kernel
theorem dX9_uneven_1 : decode cX9_uneven 1 = .ok (.iconst 1, 1) := by decide +kernel
theorem dX9_uneven_2 : decode cX9_uneven 2 = .ok (.bipush 9, 2) := by decide +kernel
theorem dX9_uneven_4 : decode cX9_uneven 4 = .ok (.invokestatic 92, 3) := by decide +kernel
theorem dX9_uneven_7 : decode cX9_uneven 7 = .ok (.iload_n 2, 1) := by decide +kernel
theorem dX9_uneven_8 : decode cX9_uneven 8 = .ok (.iconst 0, 1) := by decide +kernel
theorem dX9_uneven_9 : decode cX9_uneven 9 = .ok (.ldc_w 263, 3) := by decide +kernel
theorem dX9_uneven_12 : decode cX9_uneven 12 = .ok (.invokestatic 92, 3) := by decide +kernel
theorem dX9_uneven_15 : decode cX9_uneven 15 = .ok (.aload_n 0, 1) := by decide +kernel
theorem dX9_uneven_16 : decode cX9_uneven 16 = .ok (.getfield 51, 3) := by decide +kernel
theorem dX9_uneven_19 : decode cX9_uneven 19 = .ok (.aload_n 0, 1) := by decide +kernel
theorem dX9_uneven_20 : decode cX9_uneven 20 = .ok (.getfield 19, 3) := by decide +kernel
theorem dX9_uneven_23 : decode cX9_uneven 23 = .ok (.getfield 249, 3) := by decide +kernel
theorem dX9_uneven_26 : decode cX9_uneven 26 = .ok (.iload_n 1, 1) := by decide +kernel
theorem dX9_uneven_27 : decode cX9_uneven 27 = .ok (.iaload, 1) := by decide +kernel
theorem dX9_uneven_28 : decode cX9_uneven 28 = .ok (.iload_n 2, 1) := by decide +kernel
theorem dX9_uneven_29 : decode cX9_uneven 29 = .ok (.invokevirtual 268, 3) := by decide +kernel
theorem dX9_uneven_32 : decode cX9_uneven 32 = .ok (.ireturn, 1) := by decide +kernel
theorem dX9_even_0 : decode cX9_even 0 = .ok (.iload_n 1, 1) := by decide +kernel
theorem dX9_even_1 : decode cX9_even 1 = .ok (.iconst 1, 1) := by decide +kernel
theorem dX9_even_2 : decode cX9_even 2 = .ok (.bipush 9, 2) := by decide +kernel
theorem dX9_even_4 : decode cX9_even 4 = .ok (.invokestatic 92, 3) := by decide +kernel
theorem dX9_even_7 : decode cX9_even 7 = .ok (.aload_n 0, 1) := by decide +kernel
theorem dX9_even_8 : decode cX9_even 8 = .ok (.getfield 51, 3) := by decide +kernel
theorem dX9_even_11 : decode cX9_even 11 = .ok (.aload_n 0, 1) := by decide +kernel
theorem dX9_even_12 : decode cX9_even 12 = .ok (.getfield 19, 3) := by decide +kernel
theorem dX9_even_15 : decode cX9_even 15 = .ok (.getfield 249, 3) := by decide +kernel
theorem dX9_even_18 : decode cX9_even 18 = .ok (.iload_n 1, 1) := by decide +kernel
theorem dX9_even_19 : decode cX9_even 19 = .ok (.iaload, 1) := by decide +kernel
theorem dX9_even_20 : decode cX9_even 20 = .ok (.invokevirtual 271, 3) := by decide +kernel
theorem dX9_even_23 : decode cX9_even 23 = .ok (.ireturn, 1) := by decide +kernel
theorem dX9_press_0 : decode cX9_press 0 = .ok (.iload_n 1, 1) := by decide +kernel
theorem dX9_press_1 : decode cX9_press 1 = .ok (.iconst 0, 1) := by decide +kernel
theorem dX9_press_2 : decode cX9_press 2 = .ok (.ldc_w 274, 3) := by decide +kernel
theorem dX9_press_5 : decode cX9_press 5 = .ok (.invokestatic 92, 3) := by decide +kernel
theorem dX9_press_8 : decode cX9_press 8 = .ok (.aload_n 0, 1) := by decide +kernel
theorem dX9_press_9 : decode cX9_press 9 = .ok (.getfield 51, 3) := by decide +kernel
theorem dX9_press_12 : decode cX9_press 12 = .ok (.iload_n 1, 1) := by decide +kernel
theorem dX9_press_13 : decode cX9_press 13 = .ok (.invokevirtual 275, 3) := by decide +kernel
theorem dX9_press_16 : decode cX9_press 16 = .ok (.ireturn, 1) := by decide +kernel
theorem dX9_print_0 : decode cX9_print 0 = .ok (.lload_n 1, 1) := by decide +kernel
theorem dX9_print_1 : decode cX9_print 1 = .ok (.lconst 0, 1) := by decide +kernel
theorem dX9_print_2 : decode cX9_print 2 = .ok (.lcmp, 1) := by decide +kernel
theorem dX9_print_3 : decode cX9_print 3 = .ok (.ifCond .ne 14, 3) := by decide +kernel
theorem dX9_print_6 : decode cX9_print 6 = .ok (.new 278, 3) := by decide +kernel
theorem dX9_print_9 : decode cX9_print 9 = .ok (.dup, 1) := by decide +kernel
theorem dX9_print_10 : decode cX9_print 10 = .ok (.ldc_w 280, 3) := by decide +kernel
theorem dX9_print_13 : decode cX9_print 13 = .ok (.invokespecial 282, 3) := by decide +kernel
theorem dX9_print_16 : decode cX9_print 16 = .ok (.athrow, 1) := by decide +kernel
theorem dX9_print_17 : decode cX9_print 17 = .ok (.aload_n 0, 1) := by decide +kernel
theorem dX9_print_18 : decode cX9_print 18 = .ok (.getfield 65, 3) := by decide +kernel
theorem dX9_print_21 : decode cX9_print 21 = .ok (.lload_n 1, 1) := by decide +kernel
theorem dX9_print_22 : decode cX9_print 22 = .ok (.invokevirtual 283, 3) := by decide +kernel
theorem dX9_print_25 : decode cX9_print 25 = .ok (.ireturn, 1) := by decide +kernel
theorem dX9_kin_0 : decode cX9_kin 0 = .ok (.aload_n 0, 1) := by decide +kernel
theorem dX9_kin_1 : decode cX9_kin 1 = .ok (.iload_n 1, 1) := by decide +kernel
theorem dX9_kin_2 : decode cX9_kin 2 = .ok (.invokevirtual 286, 3) := by decide +kernel
theorem dX9_kin_5 : decode cX9_kin 5 = .ok (.aload_n 0, 1) := by decide +kernel
theorem dX9_kin_6 : decode cX9_kin 6 = .ok (.iload_n 2, 1) := by decide +kernel
theorem dX9_kin_7 : decode cX9_kin 7 = .ok (.invokevirtual 286, 3) := by decide +kernel
theorem dX9_kin_10 : decode cX9_kin 10 = .ok (.iload_n 3, 1) := by decide +kernel
theorem dX9_kin_11 : decode cX9_kin 11 = .ok (.iconst 0, 1) := by decide +kernel
theorem dX9_kin_12 : decode cX9_kin 12 = .ok (.bipush 64, 2) := by decide +kernel
theorem dX9_kin_14 : decode cX9_kin 14 = .ok (.invokestatic 92, 3) := by decide +kernel
theorem dX9_kin_17 : decode cX9_kin 17 = .ok (.aload_n 0, 1) := by decide +kernel
theorem dX9_kin_18 : decode cX9_kin 18 = .ok (.getfield 58, 3) := by decide +kernel
theorem dX9_kin_21 : decode cX9_kin 21 = .ok (.aload_n 0, 1) := by decide +kernel
theorem dX9_kin_22 : decode cX9_kin 22 = .ok (.getfield 65, 3) := by decide +kernel
theorem dX9_kin_25 : decode cX9_kin 25 = .ok (.iload_n 3, 1) := by decide +kernel
theorem dX9_kin_26 : decode cX9_kin 26 = .ok (.iload 4, 2) := by decide +kernel
theorem dX9_kin_28 : decode cX9_kin 28 = .ok (.invokevirtual 289, 3) := by decide +kernel
theorem dX9_kin_31 : decode cX9_kin 31 = .ok (.aload_n 0, 1) := by decide +kernel
theorem dX9_kin_32 : decode cX9_kin 32 = .ok (.getfield 58, 3) := by decide +kernel
theorem dX9_kin_35 : decode cX9_kin 35 = .ok (.iload_n 1, 1) := by decide +kernel
theorem dX9_kin_36 : decode cX9_kin 36 = .ok (.iload_n 2, 1) := by decide +kernel
theorem dX9_kin_37 : decode cX9_kin 37 = .ok (.invokevirtual 292, 3) := by decide +kernel
theorem dX9_kin_40 : decode cX9_kin 40 = .ok (.ireturn, 1) := by decide +kernel
theorem dX9_partings_0 : decode cX9_partings 0 = .ok (.iload_n 1, 1) := by decide +kernel
theorem dX9_partings_1 : decode cX9_partings 1 = .ok (.iconst 0, 1) := by decide +kernel
theorem dX9_partings_2 : decode cX9_partings 2 = .ok (.bipush 64, 2) := by decide +kernel
theorem dX9_partings_4 : decode cX9_partings 4 = .ok (.invokestatic 92, 3) := by decide +kernel
theorem dX9_partings_7 : decode cX9_partings 7 = .ok (.iload_n 3, 1) := by decide +kernel
theorem dX9_partings_8 : decode cX9_partings 8 = .ok (.iconst 0, 1) := by decide +kernel
theorem dX9_partings_9 : decode cX9_partings 9 = .ok (.iconst 2, 1) := by decide +kernel
theorem dX9_partings_10 : decode cX9_partings 10 = .ok (.invokestatic 92, 3) := by decide +kernel
theorem dX9_partings_13 : decode cX9_partings 13 = .ok (.aload_n 0, 1) := by decide +kernel
theorem dX9_partings_14 : decode cX9_partings 14 = .ok (.getfield 58, 3) := by decide +kernel
theorem dX9_partings_17 : decode cX9_partings 17 = .ok (.aload_n 0, 1) := by decide +kernel
theorem dX9_partings_18 : decode cX9_partings 18 = .ok (.getfield 65, 3) := by decide +kernel
theorem dX9_partings_21 : decode cX9_partings 21 = .ok (.iload_n 1, 1) := by decide +kernel
theorem dX9_partings_22 : decode cX9_partings 22 = .ok (.iload_n 2, 1) := by decide +kernel
theorem dX9_partings_23 : decode cX9_partings 23 = .ok (.invokevirtual 289, 3) := by decide +kernel
theorem dX9_partings_26 : decode cX9_partings 26 = .ok (.iload_n 3, 1) := by decide +kernel
theorem dX9_partings_27 : decode cX9_partings 27 = .ok (.iconst 2, 1) := by decide +kernel
theorem dX9_partings_28 : decode cX9_partings 28 = .ok (.if_icmp .ne 11, 3) := by decide +kernel
theorem dX9_partings_31 : decode cX9_partings 31 = .ok (.aload_n 0, 1) := by decide +kernel
theorem dX9_partings_32 : decode cX9_partings 32 = .ok (.getfield 58, 3) := by decide +kernel
theorem dX9_partings_35 : decode cX9_partings 35 = .ok (.invokevirtual 296, 3) := by decide +kernel
theorem dX9_partings_38 : decode cX9_partings 38 = .ok (.ireturn, 1) := by decide +kernel
theorem dX9_partings_39 : decode cX9_partings 39 = .ok (.iload_n 3, 1) := by decide +kernel
theorem dX9_partings_40 : decode cX9_partings 40 = .ok (.ifCond .ne 13, 3) := by decide +kernel
theorem dX9_partings_43 : decode cX9_partings 43 = .ok (.aload_n 0, 1) := by decide +kernel
theorem dX9_partings_44 : decode cX9_partings 44 = .ok (.getfield 58, 3) := by decide +kernel
theorem dX9_partings_47 : decode cX9_partings 47 = .ok (.invokevirtual 300, 3) := by decide +kernel
theorem dX9_partings_50 : decode cX9_partings 50 = .ok (.goto 10, 3) := by decide +kernel
theorem dX9_partings_53 : decode cX9_partings 53 = .ok (.aload_n 0, 1) := by decide +kernel
theorem dX9_partings_54 : decode cX9_partings 54 = .ok (.getfield 58, 3) := by decide +kernel
theorem dX9_partings_57 : decode cX9_partings 57 = .ok (.invokevirtual 303, 3) := by decide +kernel
theorem dX9_partings_60 : decode cX9_partings 60 = .ok (.ireturn, 1) := by decide +kernel
theorem dX9_can_0 : decode cX9_can 0 = .ok (.aload_n 0, 1) := by decide +kernel
theorem dX9_can_1 : decode cX9_can 1 = .ok (.invokevirtual 186, 3) := by decide +kernel
theorem dX9_can_4 : decode cX9_can 4 = .ok (.ifCond .eq 21, 3) := by decide +kernel
theorem dX9_can_7 : decode cX9_can 7 = .ok (.aload_n 0, 1) := by decide +kernel
theorem dX9_can_8 : decode cX9_can 8 = .ok (.getfield 65, 3) := by decide +kernel
theorem dX9_can_11 : decode cX9_can 11 = .ok (.aload_n 0, 1) := by decide +kernel
theorem dX9_can_12 : decode cX9_can 12 = .ok (.getfield 19, 3) := by decide +kernel
theorem dX9_can_15 : decode cX9_can 15 = .ok (.invokevirtual 306, 3) := by decide +kernel
theorem dX9_can_18 : decode cX9_can 18 = .ok (.ifCond .eq 7, 3) := by decide +kernel
theorem dX9_can_21 : decode cX9_can 21 = .ok (.iconst 1, 1) := by decide +kernel
theorem dX9_can_22 : decode cX9_can 22 = .ok (.goto 4, 3) := by decide +kernel
theorem dX9_can_25 : decode cX9_can 25 = .ok (.iconst 0, 1) := by decide +kernel
theorem dX9_can_26 : decode cX9_can 26 = .ok (.ireturn, 1) := by decide +kernel
theorem dX9_left_0 : decode cX9_left 0 = .ok (.aload_n 0, 1) := by decide +kernel
theorem dX9_left_1 : decode cX9_left 1 = .ok (.invokevirtual 186, 3) := by decide +kernel
theorem dX9_left_4 : decode cX9_left 4 = .ok (.ifCond .eq 17, 3) := by decide +kernel
theorem dX9_left_7 : decode cX9_left 7 = .ok (.aload_n 0, 1) := by decide +kernel
theorem dX9_left_8 : decode cX9_left 8 = .ok (.getfield 65, 3) := by decide +kernel
theorem dX9_left_11 : decode cX9_left 11 = .ok (.aload_n 0, 1) := by decide +kernel
theorem dX9_left_12 : decode cX9_left 12 = .ok (.getfield 19, 3) := by decide +kernel
theorem dX9_left_15 : decode cX9_left 15 = .ok (.invokevirtual 306, 3) := by decide +kernel
theorem dX9_left_18 : decode cX9_left 18 = .ok (.ifCond .ne 5, 3) := by decide +kernel
theorem dX9_left_21 : decode cX9_left 21 = .ok (.iconst (-1), 1) := by decide +kernel
theorem dX9_left_22 : decode cX9_left 22 = .ok (.ireturn, 1) := by decide +kernel
theorem dX9_left_23 : decode cX9_left 23 = .ok (.aload_n 0, 1) := by decide +kernel
theorem dX9_left_24 : decode cX9_left 24 = .ok (.getfield 19, 3) := by decide +kernel
theorem dX9_left_27 : decode cX9_left 27 = .ok (.getfield 124, 3) := by decide +kernel
theorem dX9_left_30 : decode cX9_left 30 = .ok (.aload_n 0, 1) := by decide +kernel
theorem dX9_left_31 : decode cX9_left 31 = .ok (.getfield 65, 3) := by decide +kernel
theorem dX9_left_34 : decode cX9_left 34 = .ok (.getfield 194, 3) := by decide +kernel
theorem dX9_left_37 : decode cX9_left 37 = .ok (.laload, 1) := by decide +kernel
theorem dX9_left_38 : decode cX9_left 38 = .ok (.lstore_n 1, 1) := by decide +kernel
theorem dX9_left_39 : decode cX9_left 39 = .ok (.aload_n 0, 1) := by decide +kernel
theorem dX9_left_40 : decode cX9_left 40 = .ok (.getfield 30, 3) := by decide +kernel
theorem dX9_left_43 : decode cX9_left 43 = .ok (.lload_n 1, 1) := by decide +kernel
theorem dX9_left_44 : decode cX9_left 44 = .ok (.invokevirtual 310, 3) := by decide +kernel
theorem dX9_left_47 : decode cX9_left 47 = .ok (.aload_n 0, 1) := by decide +kernel
theorem dX9_left_48 : decode cX9_left 48 = .ok (.getfield 65, 3) := by decide +kernel
theorem dX9_left_51 : decode cX9_left 51 = .ok (.aload_n 0, 1) := by decide +kernel
theorem dX9_left_52 : decode cX9_left 52 = .ok (.getfield 19, 3) := by decide +kernel
theorem dX9_left_55 : decode cX9_left 55 = .ok (.invokevirtual 313, 3) := by decide +kernel
theorem dX9_left_58 : decode cX9_left 58 = .ok (.aload_n 0, 1) := by decide +kernel
theorem dX9_left_59 : decode cX9_left 59 = .ok (.getfield 30, 3) := by decide +kernel
theorem dX9_left_62 : decode cX9_left 62 = .ok (.lload_n 1, 1) := by decide +kernel
theorem dX9_left_63 : decode cX9_left 63 = .ok (.invokestatic 128, 3) := by decide +kernel
theorem dX9_left_66 : decode cX9_left 66 = .ok (.aload_n 0, 1) := by decide +kernel
theorem dX9_left_67 : decode cX9_left 67 = .ok (.getfield 65, 3) := by decide +kernel
theorem dX9_left_70 : decode cX9_left 70 = .ok (.getfield 210, 3) := by decide +kernel
theorem dX9_left_73 : decode cX9_left 73 = .ok (.ldc2_w 214, 3) := by decide +kernel
theorem dX9_left_76 : decode cX9_left 76 = .ok (.lxor, 1) := by decide +kernel
theorem dX9_left_77 : decode cX9_left 77 = .ok (.land, 1) := by decide +kernel
theorem dX9_left_78 : decode cX9_left 78 = .ok (.invokevirtual 317, 3) := by decide +kernel
theorem dX9_left_81 : decode cX9_left 81 = .ok (.iadd, 1) := by decide +kernel
theorem dX9_left_82 : decode cX9_left 82 = .ok (.ireturn, 1) := by decide +kernel
theorem dX9_bars_0 : decode cX9_bars 0 = .ok (.aload_n 0, 1) := by decide +kernel
theorem dX9_bars_1 : decode cX9_bars 1 = .ok (.iload_n 1, 1) := by decide +kernel
theorem dX9_bars_2 : decode cX9_bars 2 = .ok (.iload_n 2, 1) := by decide +kernel
theorem dX9_bars_3 : decode cX9_bars 3 = .ok (.iload_n 3, 1) := by decide +kernel
theorem dX9_bars_4 : decode cX9_bars 4 = .ok (.invokevirtual 239, 3) := by decide +kernel
theorem dX9_bars_7 : decode cX9_bars 7 = .ok (.aload_n 0, 1) := by decide +kernel
theorem dX9_bars_8 : decode cX9_bars 8 = .ok (.getfield 44, 3) := by decide +kernel
theorem dX9_bars_11 : decode cX9_bars 11 = .ok (.invokevirtual 319, 3) := by decide +kernel
theorem dX9_bars_14 : decode cX9_bars 14 = .ok (.lreturn, 1) := by decide +kernel
theorem dX9_nearest_0 : decode cX9_nearest 0 = .ok (.lload_n 1, 1) := by decide +kernel
theorem dX9_nearest_1 : decode cX9_nearest 1 = .ok (.lconst 0, 1) := by decide +kernel
theorem dX9_nearest_2 : decode cX9_nearest 2 = .ok (.lcmp, 1) := by decide +kernel
theorem dX9_nearest_3 : decode cX9_nearest 3 = .ok (.ifCond .ne 14, 3) := by decide +kernel
theorem dX9_nearest_6 : decode cX9_nearest 6 = .ok (.new 278, 3) := by decide +kernel
theorem dX9_nearest_9 : decode cX9_nearest 9 = .ok (.dup, 1) := by decide +kernel
theorem dX9_nearest_10 : decode cX9_nearest 10 = .ok (.ldc_w 280, 3) := by decide +kernel
theorem dX9_nearest_13 : decode cX9_nearest 13 = .ok (.invokespecial 282, 3) := by decide +kernel
theorem dX9_nearest_16 : decode cX9_nearest 16 = .ok (.athrow, 1) := by decide +kernel
theorem dX9_nearest_17 : decode cX9_nearest 17 = .ok (.iload 4, 2) := by decide +kernel
theorem dX9_nearest_19 : decode cX9_nearest 19 = .ok (.iconst 0, 1) := by decide +kernel
theorem dX9_nearest_20 : decode cX9_nearest 20 = .ok (.iconst 1, 1) := by decide +kernel
theorem dX9_nearest_21 : decode cX9_nearest 21 = .ok (.invokestatic 92, 3) := by decide +kernel
theorem dX9_nearest_24 : decode cX9_nearest 24 = .ok (.aload_n 0, 1) := by decide +kernel
theorem dX9_nearest_25 : decode cX9_nearest 25 = .ok (.getfield 37, 3) := by decide +kernel
theorem dX9_nearest_28 : decode cX9_nearest 28 = .ok (.lload_n 1, 1) := by decide +kernel
theorem dX9_nearest_29 : decode cX9_nearest 29 = .ok (.iload_n 3, 1) := by decide +kernel
theorem dX9_nearest_30 : decode cX9_nearest 30 = .ok (.invokevirtual 322, 3) := by decide +kernel
theorem dX9_nearest_33 : decode cX9_nearest 33 = .ok (.istore 5, 2) := by decide +kernel
theorem dX9_nearest_35 : decode cX9_nearest 35 = .ok (.iload 4, 2) := by decide +kernel
theorem dX9_nearest_37 : decode cX9_nearest 37 = .ok (.ifCond .eq 9, 3) := by decide +kernel
theorem dX9_nearest_40 : decode cX9_nearest 40 = .ok (.iload 5, 2) := by decide +kernel
theorem dX9_nearest_42 : decode cX9_nearest 42 = .ok (.iconst (-1), 1) := by decide +kernel
theorem dX9_nearest_43 : decode cX9_nearest 43 = .ok (.if_icmp .ne 8, 3) := by decide +kernel
theorem dX9_nearest_46 : decode cX9_nearest 46 = .ok (.iload 5, 2) := by decide +kernel
theorem dX9_nearest_48 : decode cX9_nearest 48 = .ok (.goto 14, 3) := by decide +kernel
theorem dX9_nearest_51 : decode cX9_nearest 51 = .ok (.aload_n 0, 1) := by decide +kernel
theorem dX9_nearest_52 : decode cX9_nearest 52 = .ok (.getfield 37, 3) := by decide +kernel
theorem dX9_nearest_55 : decode cX9_nearest 55 = .ok (.iload 5, 2) := by decide +kernel
theorem dX9_nearest_57 : decode cX9_nearest 57 = .ok (.lload_n 1, 1) := by decide +kernel
theorem dX9_nearest_58 : decode cX9_nearest 58 = .ok (.iload_n 3, 1) := by decide +kernel
theorem dX9_nearest_59 : decode cX9_nearest 59 = .ok (.invokevirtual 326, 3) := by decide +kernel
theorem dX9_nearest_62 : decode cX9_nearest 62 = .ok (.ireturn, 1) := by decide +kernel
theorem dX9_originals_0 : decode cX9_originals 0 = .ok (.iload_n 2, 1) := by decide +kernel
theorem dX9_originals_1 : decode cX9_originals 1 = .ok (.iconst 0, 1) := by decide +kernel
theorem dX9_originals_2 : decode cX9_originals 2 = .ok (.iconst 1, 1) := by decide +kernel
theorem dX9_originals_3 : decode cX9_originals 3 = .ok (.invokestatic 92, 3) := by decide +kernel
theorem dX9_originals_6 : decode cX9_originals 6 = .ok (.aload_n 0, 1) := by decide +kernel
theorem dX9_originals_7 : decode cX9_originals 7 = .ok (.getfield 37, 3) := by decide +kernel
theorem dX9_originals_10 : decode cX9_originals 10 = .ok (.aload_n 0, 1) := by decide +kernel
theorem dX9_originals_11 : decode cX9_originals 11 = .ok (.getfield 19, 3) := by decide +kernel
theorem dX9_originals_14 : decode cX9_originals 14 = .ok (.iload_n 1, 1) := by decide +kernel
theorem dX9_originals_15 : decode cX9_originals 15 = .ok (.invokevirtual 330, 3) := by decide +kernel
theorem dX9_originals_18 : decode cX9_originals 18 = .ok (.istore_n 3, 1) := by decide +kernel
theorem dX9_originals_19 : decode cX9_originals 19 = .ok (.iload_n 2, 1) := by decide +kernel
theorem dX9_originals_20 : decode cX9_originals 20 = .ok (.ifCond .ne 10, 3) := by decide +kernel
theorem dX9_originals_23 : decode cX9_originals 23 = .ok (.iload_n 3, 1) := by decide +kernel
theorem dX9_originals_24 : decode cX9_originals 24 = .ok (.invokestatic 172, 3) := by decide +kernel
theorem dX9_originals_27 : decode cX9_originals 27 = .ok (.goto 4, 3) := by decide +kernel
theorem dX9_originals_30 : decode cX9_originals 30 = .ok (.iload_n 3, 1) := by decide +kernel
theorem dX9_originals_31 : decode cX9_originals 31 = .ok (.ireturn, 1) := by decide +kernel
theorem dX9_fount_0 : decode cX9_fount 0 = .ok (.iload_n 1, 1) := by decide +kernel
theorem dX9_fount_1 : decode cX9_fount 1 = .ok (.iconst 1, 1) := by decide +kernel
theorem dX9_fount_2 : decode cX9_fount 2 = .ok (.sipush 511, 3) := by decide +kernel
theorem dX9_fount_5 : decode cX9_fount 5 = .ok (.invokestatic 92, 3) := by decide +kernel
theorem dX9_fount_8 : decode cX9_fount 8 = .ok (.iload_n 2, 1) := by decide +kernel
theorem dX9_fount_9 : decode cX9_fount 9 = .ok (.iconst 0, 1) := by decide +kernel
theorem dX9_fount_10 : decode cX9_fount 10 = .ok (.bipush 99, 2) := by decide +kernel
theorem dX9_fount_12 : decode cX9_fount 12 = .ok (.invokestatic 92, 3) := by decide +kernel
theorem dX9_fount_15 : decode cX9_fount 15 = .ok (.iload_n 1, 1) := by decide +kernel
theorem dX9_fount_16 : decode cX9_fount 16 = .ok (.iload_n 2, 1) := by decide +kernel
theorem dX9_fount_17 : decode cX9_fount 17 = .ok (.invokestatic 334, 3) := by decide +kernel
theorem dX9_fount_20 : decode cX9_fount 20 = .ok (.aload_n 0, 1) := by decide +kernel
theorem dX9_fount_21 : decode cX9_fount 21 = .ok (.getfield 37, 3) := by decide +kernel
theorem dX9_fount_24 : decode cX9_fount 24 = .ok (.iconst 0, 1) := by decide +kernel
theorem dX9_fount_25 : decode cX9_fount 25 = .ok (.iload_n 3, 1) := by decide +kernel
theorem dX9_fount_26 : decode cX9_fount 26 = .ok (.invokevirtual 168, 3) := by decide +kernel
theorem dX9_fount_29 : decode cX9_fount 29 = .ok (.invokestatic 172, 3) := by decide +kernel
theorem dX9_fount_32 : decode cX9_fount 32 = .ok (.imul, 1) := by decide +kernel
theorem dX9_fount_33 : decode cX9_fount 33 = .ok (.ireturn, 1) := by decide +kernel
theorem dX9_image_0 : decode cX9_image 0 = .ok (.aload_n 0, 1) := by decide +kernel
theorem dX9_image_1 : decode cX9_image 1 = .ok (.getfield 73, 3) := by decide +kernel
theorem dX9_image_4 : decode cX9_image 4 = .ok (.ifCond .lt 15, 3) := by decide +kernel
theorem dX9_image_7 : decode cX9_image 7 = .ok (.aload_n 0, 1) := by decide +kernel
theorem dX9_image_8 : decode cX9_image 8 = .ok (.getfield 73, 3) := by decide +kernel
theorem dX9_image_11 : decode cX9_image 11 = .ok (.aload_n 0, 1) := by decide +kernel
theorem dX9_image_12 : decode cX9_image 12 = .ok (.getfield 69, 3) := by decide +kernel
theorem dX9_image_15 : decode cX9_image 15 = .ok (.arraylength, 1) := by decide +kernel
theorem dX9_image_16 : decode cX9_image 16 = .ok (.if_icmp .lt 5, 3) := by decide +kernel
theorem dX9_image_19 : decode cX9_image 19 = .ok (.iconst (-1), 1) := by decide +kernel
theorem dX9_image_20 : decode cX9_image 20 = .ok (.ireturn, 1) := by decide +kernel
theorem dX9_image_21 : decode cX9_image 21 = .ok (.aload_n 0, 1) := by decide +kernel
theorem dX9_image_22 : decode cX9_image 22 = .ok (.getfield 69, 3) := by decide +kernel
theorem dX9_image_25 : decode cX9_image 25 = .ok (.aload_n 0, 1) := by decide +kernel
theorem dX9_image_26 : decode cX9_image 26 = .ok (.getfield 73, 3) := by decide +kernel
theorem dX9_image_29 : decode cX9_image 29 = .ok (.aaload, 1) := by decide +kernel
theorem dX9_image_30 : decode cX9_image 30 = .ok (.aload_n 0, 1) := by decide +kernel
theorem dX9_image_31 : decode cX9_image 31 = .ok (.getfield 65, 3) := by decide +kernel
theorem dX9_image_34 : decode cX9_image 34 = .ok (.invokevirtual 337, 3) := by decide +kernel
theorem dX9_image_37 : decode cX9_image 37 = .ok (.aload_n 0, 1) := by decide +kernel
theorem dX9_image_38 : decode cX9_image 38 = .ok (.dup, 1) := by decide +kernel
theorem dX9_image_39 : decode cX9_image 39 = .ok (.getfield 73, 3) := by decide +kernel
theorem dX9_image_42 : decode cX9_image 42 = .ok (.iconst 1, 1) := by decide +kernel
theorem dX9_image_43 : decode cX9_image 43 = .ok (.iadd, 1) := by decide +kernel
theorem dX9_image_44 : decode cX9_image 44 = .ok (.putfield 73, 3) := by decide +kernel
theorem dX9_image_47 : decode cX9_image 47 = .ok (.aload_n 0, 1) := by decide +kernel
theorem dX9_image_48 : decode cX9_image 48 = .ok (.getfield 73, 3) := by decide +kernel
theorem dX9_image_51 : decode cX9_image 51 = .ok (.ireturn, 1) := by decide +kernel
theorem dX9_restore_0 : decode cX9_restore 0 = .ok (.aload_n 0, 1) := by decide +kernel
theorem dX9_restore_1 : decode cX9_restore 1 = .ok (.getfield 73, 3) := by decide +kernel
theorem dX9_restore_4 : decode cX9_restore 4 = .ok (.ifCond .le 15, 3) := by decide +kernel
theorem dX9_restore_7 : decode cX9_restore 7 = .ok (.aload_n 0, 1) := by decide +kernel
theorem dX9_restore_8 : decode cX9_restore 8 = .ok (.getfield 73, 3) := by decide +kernel
theorem dX9_restore_11 : decode cX9_restore 11 = .ok (.aload_n 0, 1) := by decide +kernel
theorem dX9_restore_12 : decode cX9_restore 12 = .ok (.getfield 69, 3) := by decide +kernel
theorem dX9_restore_15 : decode cX9_restore 15 = .ok (.arraylength, 1) := by decide +kernel
theorem dX9_restore_16 : decode cX9_restore 16 = .ok (.if_icmp .le 5, 3) := by decide +kernel
theorem dX9_restore_19 : decode cX9_restore 19 = .ok (.iconst (-1), 1) := by decide +kernel
theorem dX9_restore_20 : decode cX9_restore 20 = .ok (.ireturn, 1) := by decide +kernel
theorem dX9_restore_21 : decode cX9_restore 21 = .ok (.aload_n 0, 1) := by decide +kernel
theorem dX9_restore_22 : decode cX9_restore 22 = .ok (.dup, 1) := by decide +kernel
theorem dX9_restore_23 : decode cX9_restore 23 = .ok (.getfield 73, 3) := by decide +kernel
theorem dX9_restore_26 : decode cX9_restore 26 = .ok (.iconst 1, 1) := by decide +kernel
theorem dX9_restore_27 : decode cX9_restore 27 = .ok (.isub, 1) := by decide +kernel
theorem dX9_restore_28 : decode cX9_restore 28 = .ok (.putfield 73, 3) := by decide +kernel
theorem dX9_restore_31 : decode cX9_restore 31 = .ok (.aload_n 0, 1) := by decide +kernel
theorem dX9_restore_32 : decode cX9_restore 32 = .ok (.getfield 65, 3) := by decide +kernel
theorem dX9_restore_35 : decode cX9_restore 35 = .ok (.aload_n 0, 1) := by decide +kernel
theorem dX9_restore_36 : decode cX9_restore 36 = .ok (.getfield 69, 3) := by decide +kernel
theorem dX9_restore_39 : decode cX9_restore 39 = .ok (.aload_n 0, 1) := by decide +kernel
theorem dX9_restore_40 : decode cX9_restore 40 = .ok (.getfield 73, 3) := by decide +kernel
theorem dX9_restore_43 : decode cX9_restore 43 = .ok (.aaload, 1) := by decide +kernel
theorem dX9_restore_44 : decode cX9_restore 44 = .ok (.invokevirtual 337, 3) := by decide +kernel
theorem dX9_restore_47 : decode cX9_restore 47 = .ok (.aload_n 0, 1) := by decide +kernel
theorem dX9_restore_48 : decode cX9_restore 48 = .ok (.getfield 73, 3) := by decide +kernel
theorem dX9_restore_51 : decode cX9_restore 51 = .ok (.ireturn, 1) := by decide +kernel
theorem dX9_count_0 : decode cX9_count 0 = .ok (.iload_n 1, 1) := by decide +kernel
theorem dX9_count_1 : decode cX9_count 1 = .ok (.tableswitch 60 0 3 #[31, 39, 47, 52], 31) := by decide +kernel
theorem dX9_count_32 : decode cX9_count 32 = .ok (.aload_n 0, 1) := by decide +kernel
theorem dX9_count_33 : decode cX9_count 33 = .ok (.getfield 65, 3) := by decide +kernel
theorem dX9_count_36 : decode cX9_count 36 = .ok (.getfield 228, 3) := by decide +kernel
theorem dX9_count_39 : decode cX9_count 39 = .ok (.ireturn, 1) := by decide +kernel
theorem dX9_count_40 : decode cX9_count 40 = .ok (.aload_n 0, 1) := by decide +kernel
theorem dX9_count_41 : decode cX9_count 41 = .ok (.getfield 65, 3) := by decide +kernel
theorem dX9_count_44 : decode cX9_count 44 = .ok (.getfield 340, 3) := by decide +kernel
theorem dX9_count_47 : decode cX9_count 47 = .ok (.ireturn, 1) := by decide +kernel
theorem dX9_count_48 : decode cX9_count 48 = .ok (.aload_n 0, 1) := by decide +kernel
theorem dX9_count_49 : decode cX9_count 49 = .ok (.getfield 73, 3) := by decide +kernel
theorem dX9_count_52 : decode cX9_count 52 = .ok (.ireturn, 1) := by decide +kernel
theorem dX9_count_53 : decode cX9_count 53 = .ok (.aload_n 0, 1) := by decide +kernel
theorem dX9_count_54 : decode cX9_count 54 = .ok (.getfield 10, 3) := by decide +kernel
theorem dX9_count_57 : decode cX9_count 57 = .ok (.getfield 85, 3) := by decide +kernel
theorem dX9_count_60 : decode cX9_count 60 = .ok (.ireturn, 1) := by decide +kernel
theorem dX9_count_61 : decode cX9_count 61 = .ok (.iconst (-1), 1) := by decide +kernel
theorem dX9_count_62 : decode cX9_count 62 = .ok (.ireturn, 1) := by decide +kernel
theorem dX9_needLetter_0 : decode cX9_needLetter 0 = .ok (.iload_n 1, 1) := by decide +kernel
theorem dX9_needLetter_1 : decode cX9_needLetter 1 = .ok (.ifCond .lt 14, 3) := by decide +kernel
theorem dX9_needLetter_4 : decode cX9_needLetter 4 = .ok (.iload_n 1, 1) := by decide +kernel
theorem dX9_needLetter_5 : decode cX9_needLetter 5 = .ok (.aload_n 0, 1) := by decide +kernel
theorem dX9_needLetter_6 : decode cX9_needLetter 6 = .ok (.getfield 19, 3) := by decide +kernel
theorem dX9_needLetter_9 : decode cX9_needLetter 9 = .ok (.getfield 112, 3) := by decide +kernel
theorem dX9_needLetter_12 : decode cX9_needLetter 12 = .ok (.if_icmp .lt 14, 3) := by decide +kernel
theorem dX9_needLetter_15 : decode cX9_needLetter 15 = .ok (.new 343, 3) := by decide +kernel
theorem dX9_needLetter_18 : decode cX9_needLetter 18 = .ok (.dup, 1) := by decide +kernel
theorem dX9_needLetter_19 : decode cX9_needLetter 19 = .ok (.ldc_w 345, 3) := by decide +kernel
theorem dX9_needLetter_22 : decode cX9_needLetter 22 = .ok (.invokespecial 347, 3) := by decide +kernel
theorem dX9_needLetter_25 : decode cX9_needLetter 25 = .ok (.athrow, 1) := by decide +kernel
theorem dX9_needLetter_26 : decode cX9_needLetter 26 = .ok (.return_, 1) := by decide +kernel
theorem dX9_needHollow_0 : decode cX9_needHollow 0 = .ok (.iload_n 1, 1) := by decide +kernel
theorem dX9_needHollow_1 : decode cX9_needHollow 1 = .ok (.ifCond .lt 14, 3) := by decide +kernel
theorem dX9_needHollow_4 : decode cX9_needHollow 4 = .ok (.iload_n 1, 1) := by decide +kernel
theorem dX9_needHollow_5 : decode cX9_needHollow 5 = .ok (.aload_n 0, 1) := by decide +kernel
theorem dX9_needHollow_6 : decode cX9_needHollow 6 = .ok (.getfield 19, 3) := by decide +kernel
theorem dX9_needHollow_9 : decode cX9_needHollow 9 = .ok (.getfield 118, 3) := by decide +kernel
theorem dX9_needHollow_12 : decode cX9_needHollow 12 = .ok (.if_icmp .lt 14, 3) := by decide +kernel
theorem dX9_needHollow_15 : decode cX9_needHollow 15 = .ok (.new 256, 3) := by decide +kernel
theorem dX9_needHollow_18 : decode cX9_needHollow 18 = .ok (.dup, 1) := by decide +kernel
theorem dX9_needHollow_19 : decode cX9_needHollow 19 = .ok (.ldc_w 348, 3) := by decide +kernel
theorem dX9_needHollow_22 : decode cX9_needHollow 22 = .ok (.invokespecial 260, 3) := by decide +kernel
theorem dX9_needHollow_25 : decode cX9_needHollow 25 = .ok (.athrow, 1) := by decide +kernel
theorem dX9_needHollow_26 : decode cX9_needHollow 26 = .ok (.return_, 1) := by decide +kernel
theorem dX9_needPrint_0 : decode cX9_needPrint 0 = .ok (.iload_n 1, 1) := by decide +kernel
theorem dX9_needPrint_1 : decode cX9_needPrint 1 = .ok (.ifCond .lt 14, 3) := by decide +kernel
theorem dX9_needPrint_4 : decode cX9_needPrint 4 = .ok (.iload_n 1, 1) := by decide +kernel
theorem dX9_needPrint_5 : decode cX9_needPrint 5 = .ok (.aload_n 0, 1) := by decide +kernel
theorem dX9_needPrint_6 : decode cX9_needPrint 6 = .ok (.getfield 65, 3) := by decide +kernel
theorem dX9_needPrint_9 : decode cX9_needPrint 9 = .ok (.getfield 340, 3) := by decide +kernel
theorem dX9_needPrint_12 : decode cX9_needPrint 12 = .ok (.if_icmp .lt 14, 3) := by decide +kernel
theorem dX9_needPrint_15 : decode cX9_needPrint 15 = .ok (.new 256, 3) := by decide +kernel
theorem dX9_needPrint_18 : decode cX9_needPrint 18 = .ok (.dup, 1) := by decide +kernel
theorem dX9_needPrint_19 : decode cX9_needPrint 19 = .ok (.ldc_w 350, 3) := by decide +kernel
theorem dX9_needPrint_22 : decode cX9_needPrint 22 = .ok (.invokespecial 260, 3) := by decide +kernel
theorem dX9_needPrint_25 : decode cX9_needPrint 25 = .ok (.athrow, 1) := by decide +kernel
theorem dX9_needPrint_26 : decode cX9_needPrint 26 = .ok (.return_, 1) := by decide +kernel
theorem dX9_needRange_0 : decode cX9_needRange 0 = .ok (.iload_n 0, 1) := by decide +kernel
theorem dX9_needRange_1 : decode cX9_needRange 1 = .ok (.iload_n 1, 1) := by decide +kernel
theorem dX9_needRange_2 : decode cX9_needRange 2 = .ok (.if_icmp .lt 8, 3) := by decide +kernel
theorem dX9_needRange_5 : decode cX9_needRange 5 = .ok (.iload_n 0, 1) := by decide +kernel
theorem dX9_needRange_6 : decode cX9_needRange 6 = .ok (.iload_n 2, 1) := by decide +kernel
theorem dX9_needRange_7 : decode cX9_needRange 7 = .ok (.if_icmp .le 14, 3) := by decide +kernel
theorem dX9_needRange_10 : decode cX9_needRange 10 = .ok (.new 278, 3) := by decide +kernel
theorem dX9_needRange_13 : decode cX9_needRange 13 = .ok (.dup, 1) := by decide +kernel
theorem dX9_needRange_14 : decode cX9_needRange 14 = .ok (.ldc_w 352, 3) := by decide +kernel
theorem dX9_needRange_17 : decode cX9_needRange 17 = .ok (.invokespecial 282, 3) := by decide +kernel
theorem dX9_needRange_20 : decode cX9_needRange 20 = .ok (.athrow, 1) := by decide +kernel
theorem dX9_needRange_21 : decode cX9_needRange 21 = .ok (.return_, 1) := by decide +kernel
theorem dX9_needFile_0 : decode cX9_needFile 0 = .ok (.iload_n 0, 1) := by decide +kernel
theorem dX9_needFile_1 : decode cX9_needFile 1 = .ok (.iconst 0, 1) := by decide +kernel
theorem dX9_needFile_2 : decode cX9_needFile 2 = .ok (.iconst 3, 1) := by decide +kernel
theorem dX9_needFile_3 : decode cX9_needFile 3 = .ok (.invokestatic 92, 3) := by decide +kernel
theorem dX9_needFile_6 : decode cX9_needFile 6 = .ok (.iload_n 1, 1) := by decide +kernel
theorem dX9_needFile_7 : decode cX9_needFile 7 = .ok (.iconst 0, 1) := by decide +kernel
theorem dX9_needFile_8 : decode cX9_needFile 8 = .ok (.bipush 7, 2) := by decide +kernel
theorem dX9_needFile_10 : decode cX9_needFile 10 = .ok (.invokestatic 92, 3) := by decide +kernel
theorem dX9_needFile_13 : decode cX9_needFile 13 = .ok (.iload_n 2, 1) := by decide +kernel
theorem dX9_needFile_14 : decode cX9_needFile 14 = .ok (.iconst 1, 1) := by decide +kernel
theorem dX9_needFile_15 : decode cX9_needFile 15 = .ok (.bipush 8, 2) := by decide +kernel
theorem dX9_needFile_17 : decode cX9_needFile 17 = .ok (.invokestatic 92, 3) := by decide +kernel
theorem dX9_needFile_20 : decode cX9_needFile 20 = .ok (.return_, 1) := by decide +kernel
theorem dX9_asNumber_0 : decode cX9_asNumber 0 = .ok (.iload_n 0, 1) := by decide +kernel
theorem dX9_asNumber_1 : decode cX9_asNumber 1 = .ok (.ifCond .eq 7, 3) := by decide +kernel
theorem dX9_asNumber_4 : decode cX9_asNumber 4 = .ok (.iconst 1, 1) := by decide +kernel
theorem dX9_asNumber_5 : decode cX9_asNumber 5 = .ok (.goto 4, 3) := by decide +kernel
theorem dX9_asNumber_8 : decode cX9_asNumber 8 = .ok (.iconst 0, 1) := by decide +kernel
theorem dX9_asNumber_9 : decode cX9_asNumber 9 = .ok (.ireturn, 1) := by decide +kernel
theorem dX9_hasPunch_0 : decode cX9_hasPunch 0 = .ok (.aload_n 0, 1) := by decide +kernel
theorem dX9_hasPunch_1 : decode cX9_hasPunch 1 = .ok (.getfield 65, 3) := by decide +kernel
theorem dX9_hasPunch_4 : decode cX9_hasPunch 4 = .ok (.getfield 194, 3) := by decide +kernel
theorem dX9_hasPunch_7 : decode cX9_hasPunch 7 = .ok (.ifCond .lt 24, 3) := by decide +kernel
theorem dX9_hasPunch_10 : decode cX9_hasPunch 10 = .ok (.aload_n 0, 1) := by decide +kernel
theorem dX9_hasPunch_11 : decode cX9_hasPunch 11 = .ok (.getfield 65, 3) := by decide +kernel
theorem dX9_hasPunch_14 : decode cX9_hasPunch 14 = .ok (.getfield 194, 3) := by decide +kernel
theorem dX9_hasPunch_17 : decode cX9_hasPunch 17 = .ok (.aload_n 0, 1) := by decide +kernel
theorem dX9_hasPunch_18 : decode cX9_hasPunch 18 = .ok (.getfield 19, 3) := by decide +kernel
theorem dX9_hasPunch_21 : decode cX9_hasPunch 21 = .ok (.getfield 112, 3) := by decide +kernel
theorem dX9_hasPunch_24 : decode cX9_hasPunch 24 = .ok (.if_icmp .ge 7, 3) := by decide +kernel
theorem dX9_hasPunch_27 : decode cX9_hasPunch 27 = .ok (.iconst 1, 1) := by decide +kernel
theorem dX9_hasPunch_28 : decode cX9_hasPunch 28 = .ok (.goto 4, 3) := by decide +kernel
theorem dX9_hasPunch_31 : decode cX9_hasPunch 31 = .ok (.iconst 0, 1) := by decide +kernel
theorem dX9_hasPunch_32 : decode cX9_hasPunch 32 = .ok (.ireturn, 1) := by decide +kernel
theorem dX9_linesOf_0 : decode cX9_linesOf 0 = .ok (.iload_n 1, 1) := by decide +kernel
theorem dX9_linesOf_1 : decode cX9_linesOf 1 = .ok (.ifCond .lt 14, 3) := by decide +kernel
theorem dX9_linesOf_4 : decode cX9_linesOf 4 = .ok (.iload_n 1, 1) := by decide +kernel
theorem dX9_linesOf_5 : decode cX9_linesOf 5 = .ok (.aload_n 0, 1) := by decide +kernel
theorem dX9_linesOf_6 : decode cX9_linesOf 6 = .ok (.getfield 19, 3) := by decide +kernel
theorem dX9_linesOf_9 : decode cX9_linesOf 9 = .ok (.getfield 112, 3) := by decide +kernel
theorem dX9_linesOf_12 : decode cX9_linesOf 12 = .ok (.if_icmp .lt 5, 3) := by decide +kernel
theorem dX9_linesOf_15 : decode cX9_linesOf 15 = .ok (.lconst 0, 1) := by decide +kernel
theorem dX9_linesOf_16 : decode cX9_linesOf 16 = .ok (.lreturn, 1) := by decide +kernel
theorem dX9_linesOf_17 : decode cX9_linesOf 17 = .ok (.aload_n 0, 1) := by decide +kernel
theorem dX9_linesOf_18 : decode cX9_linesOf 18 = .ok (.getfield 19, 3) := by decide +kernel
theorem dX9_linesOf_21 : decode cX9_linesOf 21 = .ok (.getfield 354, 3) := by decide +kernel
theorem dX9_linesOf_24 : decode cX9_linesOf 24 = .ok (.iload_n 1, 1) := by decide +kernel
theorem dX9_linesOf_25 : decode cX9_linesOf 25 = .ok (.laload, 1) := by decide +kernel
theorem dX9_linesOf_26 : decode cX9_linesOf 26 = .ok (.lstore_n 2, 1) := by decide +kernel
theorem dX9_linesOf_27 : decode cX9_linesOf 27 = .ok (.lload_n 2, 1) := by decide +kernel
theorem dX9_linesOf_28 : decode cX9_linesOf 28 = .ok (.ldc2_w 214, 3) := by decide +kernel
theorem dX9_linesOf_31 : decode cX9_linesOf 31 = .ok (.lcmp, 1) := by decide +kernel
theorem dX9_linesOf_32 : decode cX9_linesOf 32 = .ok (.ifCond .eq 5, 3) := by decide +kernel
theorem dX9_linesOf_35 : decode cX9_linesOf 35 = .ok (.lload_n 2, 1) := by decide +kernel
theorem dX9_linesOf_36 : decode cX9_linesOf 36 = .ok (.lreturn, 1) := by decide +kernel
theorem dX9_linesOf_37 : decode cX9_linesOf 37 = .ok (.aload_n 0, 1) := by decide +kernel
theorem dX9_linesOf_38 : decode cX9_linesOf 38 = .ok (.getfield 19, 3) := by decide +kernel
theorem dX9_linesOf_41 : decode cX9_linesOf 41 = .ok (.getfield 124, 3) := by decide +kernel
theorem dX9_linesOf_44 : decode cX9_linesOf 44 = .ok (.iload_n 1, 1) := by decide +kernel
theorem dX9_linesOf_45 : decode cX9_linesOf 45 = .ok (.laload, 1) := by decide +kernel
theorem dX9_linesOf_46 : decode cX9_linesOf 46 = .ok (.lstore 4, 2) := by decide +kernel
theorem dX9_linesOf_48 : decode cX9_linesOf 48 = .ok (.aload_n 0, 1) := by decide +kernel
theorem dX9_linesOf_49 : decode cX9_linesOf 49 = .ok (.getfield 30, 3) := by decide +kernel
theorem dX9_linesOf_52 : decode cX9_linesOf 52 = .ok (.lload 4, 2) := by decide +kernel
theorem dX9_linesOf_54 : decode cX9_linesOf 54 = .ok (.invokevirtual 310, 3) := by decide +kernel
theorem dX9_linesOf_57 : decode cX9_linesOf 57 = .ok (.aload_n 0, 1) := by decide +kernel
theorem dX9_linesOf_58 : decode cX9_linesOf 58 = .ok (.getfield 30, 3) := by decide +kernel
theorem dX9_linesOf_61 : decode cX9_linesOf 61 = .ok (.lload 4, 2) := by decide +kernel
theorem dX9_linesOf_63 : decode cX9_linesOf 63 = .ok (.invokestatic 128, 3) := by decide +kernel
theorem dX9_linesOf_66 : decode cX9_linesOf 66 = .ok (.invokevirtual 357, 3) := by decide +kernel
theorem dX9_linesOf_69 : decode cX9_linesOf 69 = .ok (.lstore 6, 2) := by decide +kernel
theorem dX9_linesOf_71 : decode cX9_linesOf 71 = .ok (.aload_n 0, 1) := by decide +kernel
theorem dX9_linesOf_72 : decode cX9_linesOf 72 = .ok (.getfield 19, 3) := by decide +kernel
theorem dX9_linesOf_75 : decode cX9_linesOf 75 = .ok (.getfield 354, 3) := by decide +kernel
theorem dX9_linesOf_78 : decode cX9_linesOf 78 = .ok (.iload_n 1, 1) := by decide +kernel
theorem dX9_linesOf_79 : decode cX9_linesOf 79 = .ok (.lload 6, 2) := by decide +kernel
theorem dX9_linesOf_81 : decode cX9_linesOf 81 = .ok (.lastore, 1) := by decide +kernel
theorem dX9_linesOf_82 : decode cX9_linesOf 82 = .ok (.lload 6, 2) := by decide +kernel
theorem dX9_linesOf_84 : decode cX9_linesOf 84 = .ok (.lreturn, 1) := by decide +kernel
theorem dX9_layCutting_0 : decode cX9_layCutting 0 = .ok (.aload_n 0, 1) := by decide +kernel
theorem dX9_layCutting_1 : decode cX9_layCutting 1 = .ok (.iload_n 1, 1) := by decide +kernel
theorem dX9_layCutting_2 : decode cX9_layCutting 2 = .ok (.invokevirtual 121, 3) := by decide +kernel
theorem dX9_layCutting_5 : decode cX9_layCutting 5 = .ok (.iload_n 2, 1) := by decide +kernel
theorem dX9_layCutting_6 : decode cX9_layCutting 6 = .ok (.iconst 0, 1) := by decide +kernel
theorem dX9_layCutting_7 : decode cX9_layCutting 7 = .ok (.bipush 15, 2) := by decide +kernel
theorem dX9_layCutting_9 : decode cX9_layCutting 9 = .ok (.invokestatic 92, 3) := by decide +kernel
theorem dX9_layCutting_12 : decode cX9_layCutting 12 = .ok (.iload_n 3, 1) := by decide +kernel
theorem dX9_layCutting_13 : decode cX9_layCutting 13 = .ok (.iconst 0, 1) := by decide +kernel
theorem dX9_layCutting_14 : decode cX9_layCutting 14 = .ok (.bipush 15, 2) := by decide +kernel
theorem dX9_layCutting_16 : decode cX9_layCutting 16 = .ok (.invokestatic 92, 3) := by decide +kernel
theorem dX9_layCutting_19 : decode cX9_layCutting 19 = .ok (.aload_n 0, 1) := by decide +kernel
theorem dX9_layCutting_20 : decode cX9_layCutting 20 = .ok (.iload_n 1, 1) := by decide +kernel
theorem dX9_layCutting_21 : decode cX9_layCutting 21 = .ok (.invokevirtual 179, 3) := by decide +kernel
theorem dX9_layCutting_24 : decode cX9_layCutting 24 = .ok (.lstore 4, 2) := by decide +kernel
theorem dX9_layCutting_26 : decode cX9_layCutting 26 = .ok (.aload_n 0, 1) := by decide +kernel
theorem dX9_layCutting_27 : decode cX9_layCutting 27 = .ok (.getfield 30, 3) := by decide +kernel
theorem dX9_layCutting_30 : decode cX9_layCutting 30 = .ok (.aload_n 0, 1) := by decide +kernel
theorem dX9_layCutting_31 : decode cX9_layCutting 31 = .ok (.getfield 19, 3) := by decide +kernel
theorem dX9_layCutting_34 : decode cX9_layCutting 34 = .ok (.getfield 124, 3) := by decide +kernel
theorem dX9_layCutting_37 : decode cX9_layCutting 37 = .ok (.iload_n 1, 1) := by decide +kernel
theorem dX9_layCutting_38 : decode cX9_layCutting 38 = .ok (.laload, 1) := by decide +kernel
theorem dX9_layCutting_39 : decode cX9_layCutting 39 = .ok (.invokevirtual 310, 3) := by decide +kernel
theorem dX9_layCutting_42 : decode cX9_layCutting 42 = .ok (.aload_n 0, 1) := by decide +kernel
theorem dX9_layCutting_43 : decode cX9_layCutting 43 = .ok (.getfield 44, 3) := by decide +kernel
theorem dX9_layCutting_46 : decode cX9_layCutting 46 = .ok (.aload_n 0, 1) := by decide +kernel
theorem dX9_layCutting_47 : decode cX9_layCutting 47 = .ok (.getfield 19, 3) := by decide +kernel
theorem dX9_layCutting_50 : decode cX9_layCutting 50 = .ok (.iload_n 1, 1) := by decide +kernel
theorem dX9_layCutting_51 : decode cX9_layCutting 51 = .ok (.iload_n 2, 1) := by decide +kernel
theorem dX9_layCutting_52 : decode cX9_layCutting 52 = .ok (.invokevirtual 359, 3) := by decide +kernel
theorem dX9_layCutting_55 : decode cX9_layCutting 55 = .ok (.aload_n 0, 1) := by decide +kernel
theorem dX9_layCutting_56 : decode cX9_layCutting 56 = .ok (.getfield 44, 3) := by decide +kernel
theorem dX9_layCutting_59 : decode cX9_layCutting 59 = .ok (.aload_n 0, 1) := by decide +kernel
theorem dX9_layCutting_60 : decode cX9_layCutting 60 = .ok (.getfield 30, 3) := by decide +kernel
theorem dX9_layCutting_63 : decode cX9_layCutting 63 = .ok (.lload 4, 2) := by decide +kernel
theorem dX9_layCutting_65 : decode cX9_layCutting 65 = .ok (.iload_n 3, 1) := by decide +kernel
theorem dX9_layCutting_66 : decode cX9_layCutting 66 = .ok (.invokevirtual 362, 3) := by decide +kernel
theorem dX9_layCutting_69 : decode cX9_layCutting 69 = .ok (.return_, 1) := by decide +kernel

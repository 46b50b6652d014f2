theorem dX6_init_0 : decode cX6_init 0 = .ok (.aload_n 0, 1) := by decide +kernel
theorem dX6_init_1 : decode cX6_init 1 = .ok (.invokespecial 3, 3) := by decide +kernel
theorem dX6_init_4 : decode cX6_init 4 = .ok (.aload_n 0, 1) := by decide +kernel
theorem dX6_init_5 : decode cX6_init 5 = .ok (.iconst 0, 1) := by decide +kernel
theorem dX6_init_6 : decode cX6_init 6 = .ok (.putfield 9, 3) := by decide +kernel
theorem dX6_init_9 : decode cX6_init 9 = .ok (.aload_n 0, 1) := by decide +kernel
theorem dX6_init_10 : decode cX6_init 10 = .ok (.iconst 0, 1) := by decide +kernel
theorem dX6_init_11 : decode cX6_init 11 = .ok (.putfield 15, 3) := by decide +kernel
theorem dX6_init_14 : decode cX6_init 14 = .ok (.aload_n 0, 1) := by decide +kernel
theorem dX6_init_15 : decode cX6_init 15 = .ok (.bipush 10, 2) := by decide +kernel
theorem dX6_init_17 : decode cX6_init 17 = .ok (.newarray .int, 2) := by decide +kernel
theorem dX6_init_19 : decode cX6_init 19 = .ok (.putfield 18, 3) := by decide +kernel
theorem dX6_init_22 : decode cX6_init 22 = .ok (.aload_n 0, 1) := by decide +kernel
theorem dX6_init_23 : decode cX6_init 23 = .ok (.bipush 10, 2) := by decide +kernel
theorem dX6_init_25 : decode cX6_init 25 = .ok (.newarray .int, 2) := by decide +kernel
theorem dX6_init_27 : decode cX6_init 27 = .ok (.putfield 22, 3) := by decide +kernel
theorem dX6_init_30 : decode cX6_init 30 = .ok (.aload_n 0, 1) := by decide +kernel
theorem dX6_init_31 : decode cX6_init 31 = .ok (.bipush 10, 2) := by decide +kernel
theorem dX6_init_33 : decode cX6_init 33 = .ok (.newarray .int, 2) := by decide +kernel
theorem dX6_init_35 : decode cX6_init 35 = .ok (.putfield 25, 3) := by decide +kernel
theorem dX6_init_38 : decode cX6_init 38 = .ok (.aload_n 0, 1) := by decide +kernel
theorem dX6_init_39 : decode cX6_init 39 = .ok (.bipush 17, 2) := by decide +kernel
theorem dX6_init_41 : decode cX6_init 41 = .ok (.newarray .int, 2) := by decide +kernel
theorem dX6_init_43 : decode cX6_init 43 = .ok (.putfield 28, 3) := by decide +kernel
theorem dX6_init_46 : decode cX6_init 46 = .ok (.aload_n 0, 1) := by decide +kernel
theorem dX6_init_47 : decode cX6_init 47 = .ok (.bipush 6, 2) := by decide +kernel
theorem dX6_init_49 : decode cX6_init 49 = .ok (.newarray .int, 2) := by decide +kernel
theorem dX6_init_51 : decode cX6_init 51 = .ok (.putfield 31, 3) := by decide +kernel
theorem dX6_init_54 : decode cX6_init 54 = .ok (.aload_n 0, 1) := by decide +kernel
theorem dX6_init_55 : decode cX6_init 55 = .ok (.bipush 6, 2) := by decide +kernel
theorem dX6_init_57 : decode cX6_init 57 = .ok (.newarray .int, 2) := by decide +kernel
theorem dX6_init_59 : decode cX6_init 59 = .ok (.putfield 34, 3) := by decide +kernel
theorem dX6_init_62 : decode cX6_init 62 = .ok (.aload_n 0, 1) := by decide +kernel
theorem dX6_init_63 : decode cX6_init 63 = .ok (.bipush 6, 2) := by decide +kernel
theorem dX6_init_65 : decode cX6_init 65 = .ok (.newarray .int, 2) := by decide +kernel
theorem dX6_init_67 : decode cX6_init 67 = .ok (.putfield 37, 3) := by decide +kernel
theorem dX6_init_70 : decode cX6_init 70 = .ok (.aload_n 0, 1) := by decide +kernel
theorem dX6_init_71 : decode cX6_init 71 = .ok (.bipush 36, 2) := by decide +kernel
theorem dX6_init_73 : decode cX6_init 73 = .ok (.newarray .int, 2) := by decide +kernel
theorem dX6_init_75 : decode cX6_init 75 = .ok (.putfield 40, 3) := by decide +kernel
theorem dX6_init_78 : decode cX6_init 78 = .ok (.aload_n 0, 1) := by decide +kernel
theorem dX6_init_79 : decode cX6_init 79 = .ok (.bipush 60, 2) := by decide +kernel
theorem dX6_init_81 : decode cX6_init 81 = .ok (.newarray .int, 2) := by decide +kernel
theorem dX6_init_83 : decode cX6_init 83 = .ok (.putfield 43, 3) := by decide +kernel
theorem dX6_init_86 : decode cX6_init 86 = .ok (.aload_n 0, 1) := by decide +kernel
theorem dX6_init_87 : decode cX6_init 87 = .ok (.iconst 0, 1) := by decide +kernel
theorem dX6_init_88 : decode cX6_init 88 = .ok (.putfield 46, 3) := by decide +kernel
theorem dX6_init_91 : decode cX6_init 91 = .ok (.aload_n 0, 1) := by decide +kernel
theorem dX6_init_92 : decode cX6_init 92 = .ok (.iconst 0, 1) := by decide +kernel
theorem dX6_init_93 : decode cX6_init 93 = .ok (.putfield 49, 3) := by decide +kernel
theorem dX6_init_96 : decode cX6_init 96 = .ok (.return_, 1) := by decide +kernel
theorem dX6_lay_0 : decode cX6_lay 0 = .ok (.aload_n 0, 1) := by decide +kernel
theorem dX6_lay_1 : decode cX6_lay 1 = .ok (.aload_n 1, 1) := by decide +kernel
theorem dX6_lay_2 : decode cX6_lay 2 = .ok (.getfield 52, 3) := by decide +kernel
theorem dX6_lay_5 : decode cX6_lay 5 = .ok (.putfield 9, 3) := by decide +kernel
theorem dX6_lay_8 : decode cX6_lay 8 = .ok (.aload_n 0, 1) := by decide +kernel
theorem dX6_lay_9 : decode cX6_lay 9 = .ok (.aload_n 1, 1) := by decide +kernel
theorem dX6_lay_10 : decode cX6_lay 10 = .ok (.getfield 55, 3) := by decide +kernel
theorem dX6_lay_13 : decode cX6_lay 13 = .ok (.putfield 15, 3) := by decide +kernel
theorem dX6_lay_16 : decode cX6_lay 16 = .ok (.iconst 0, 1) := by decide +kernel
theorem dX6_lay_17 : decode cX6_lay 17 = .ok (.istore_n 2, 1) := by decide +kernel
theorem dX6_lay_18 : decode cX6_lay 18 = .ok (.iload_n 2, 1) := by decide +kernel
theorem dX6_lay_19 : decode cX6_lay 19 = .ok (.aload_n 0, 1) := by decide +kernel
theorem dX6_lay_20 : decode cX6_lay 20 = .ok (.getfield 9, 3) := by decide +kernel
theorem dX6_lay_23 : decode cX6_lay 23 = .ok (.if_icmp .ge 48, 3) := by decide +kernel
theorem dX6_lay_26 : decode cX6_lay 26 = .ok (.aload_n 1, 1) := by decide +kernel
theorem dX6_lay_27 : decode cX6_lay 27 = .ok (.iload_n 2, 1) := by decide +kernel
theorem dX6_lay_28 : decode cX6_lay 28 = .ok (.invokevirtual 56, 3) := by decide +kernel
theorem dX6_lay_31 : decode cX6_lay 31 = .ok (.lstore_n 3, 1) := by decide +kernel
theorem dX6_lay_32 : decode cX6_lay 32 = .ok (.aload_n 0, 1) := by decide +kernel
theorem dX6_lay_33 : decode cX6_lay 33 = .ok (.getfield 18, 3) := by decide +kernel
theorem dX6_lay_36 : decode cX6_lay 36 = .ok (.iload_n 2, 1) := by decide +kernel
theorem dX6_lay_37 : decode cX6_lay 37 = .ok (.lload_n 3, 1) := by decide +kernel
theorem dX6_lay_38 : decode cX6_lay 38 = .ok (.invokestatic 60, 3) := by decide +kernel
theorem dX6_lay_41 : decode cX6_lay 41 = .ok (.iastore, 1) := by decide +kernel
theorem dX6_lay_42 : decode cX6_lay 42 = .ok (.aload_n 0, 1) := by decide +kernel
theorem dX6_lay_43 : decode cX6_lay 43 = .ok (.getfield 22, 3) := by decide +kernel
theorem dX6_lay_46 : decode cX6_lay 46 = .ok (.iload_n 2, 1) := by decide +kernel
theorem dX6_lay_47 : decode cX6_lay 47 = .ok (.lload_n 3, 1) := by decide +kernel
theorem dX6_lay_48 : decode cX6_lay 48 = .ok (.invokestatic 66, 3) := by decide +kernel
theorem dX6_lay_51 : decode cX6_lay 51 = .ok (.invokestatic 60, 3) := by decide +kernel
theorem dX6_lay_54 : decode cX6_lay 54 = .ok (.iastore, 1) := by decide +kernel
theorem dX6_lay_55 : decode cX6_lay 55 = .ok (.aload_n 0, 1) := by decide +kernel
theorem dX6_lay_56 : decode cX6_lay 56 = .ok (.getfield 25, 3) := by decide +kernel
theorem dX6_lay_59 : decode cX6_lay 59 = .ok (.iload_n 2, 1) := by decide +kernel
theorem dX6_lay_60 : decode cX6_lay 60 = .ok (.lload_n 3, 1) := by decide +kernel
theorem dX6_lay_61 : decode cX6_lay 61 = .ok (.invokestatic 72, 3) := by decide +kernel
theorem dX6_lay_64 : decode cX6_lay 64 = .ok (.iastore, 1) := by decide +kernel
theorem dX6_lay_65 : decode cX6_lay 65 = .ok (.iinc 2 1, 3) := by decide +kernel
theorem dX6_lay_68 : decode cX6_lay 68 = .ok (.goto (-50), 3) := by decide +kernel
theorem dX6_lay_71 : decode cX6_lay 71 = .ok (.aload_n 0, 1) := by decide +kernel
theorem dX6_lay_72 : decode cX6_lay 72 = .ok (.getfield 28, 3) := by decide +kernel
theorem dX6_lay_75 : decode cX6_lay 75 = .ok (.bipush (-2), 2) := by decide +kernel
theorem dX6_lay_77 : decode cX6_lay 77 = .ok (.invokestatic 74, 3) := by decide +kernel
theorem dX6_lay_80 : decode cX6_lay 80 = .ok (.aload_n 0, 1) := by decide +kernel
theorem dX6_lay_81 : decode cX6_lay 81 = .ok (.getfield 43, 3) := by decide +kernel
theorem dX6_lay_84 : decode cX6_lay 84 = .ok (.iconst 0, 1) := by decide +kernel
theorem dX6_lay_85 : decode cX6_lay 85 = .ok (.invokestatic 74, 3) := by decide +kernel
theorem dX6_lay_88 : decode cX6_lay 88 = .ok (.iconst 0, 1) := by decide +kernel
theorem dX6_lay_89 : decode cX6_lay 89 = .ok (.istore_n 2, 1) := by decide +kernel
theorem dX6_lay_90 : decode cX6_lay 90 = .ok (.iload_n 2, 1) := by decide +kernel
theorem dX6_lay_91 : decode cX6_lay 91 = .ok (.aload_n 0, 1) := by decide +kernel
theorem dX6_lay_92 : decode cX6_lay 92 = .ok (.getfield 15, 3) := by decide +kernel
theorem dX6_lay_95 : decode cX6_lay 95 = .ok (.if_icmp .ge 47, 3) := by decide +kernel
theorem dX6_lay_98 : decode cX6_lay 98 = .ok (.iconst 0, 1) := by decide +kernel
theorem dX6_lay_99 : decode cX6_lay 99 = .ok (.istore_n 3, 1) := by decide +kernel
theorem dX6_lay_100 : decode cX6_lay 100 = .ok (.iload_n 3, 1) := by decide +kernel
theorem dX6_lay_101 : decode cX6_lay 101 = .ok (.aload_n 1, 1) := by decide +kernel
theorem dX6_lay_102 : decode cX6_lay 102 = .ok (.getfield 80, 3) := by decide +kernel
theorem dX6_lay_105 : decode cX6_lay 105 = .ok (.iload_n 2, 1) := by decide +kernel
theorem dX6_lay_106 : decode cX6_lay 106 = .ok (.iaload, 1) := by decide +kernel
theorem dX6_lay_107 : decode cX6_lay 107 = .ok (.if_icmp .ge 29, 3) := by decide +kernel
theorem dX6_lay_110 : decode cX6_lay 110 = .ok (.aload_n 0, 1) := by decide +kernel
theorem dX6_lay_111 : decode cX6_lay 111 = .ok (.getfield 43, 3) := by decide +kernel
theorem dX6_lay_114 : decode cX6_lay 114 = .ok (.bipush 10, 2) := by decide +kernel
theorem dX6_lay_116 : decode cX6_lay 116 = .ok (.iload_n 2, 1) := by decide +kernel
theorem dX6_lay_117 : decode cX6_lay 117 = .ok (.imul, 1) := by decide +kernel
theorem dX6_lay_118 : decode cX6_lay 118 = .ok (.aload_n 1, 1) := by decide +kernel
theorem dX6_lay_119 : decode cX6_lay 119 = .ok (.iload_n 2, 1) := by decide +kernel
theorem dX6_lay_120 : decode cX6_lay 120 = .ok (.iload_n 3, 1) := by decide +kernel
theorem dX6_lay_121 : decode cX6_lay 121 = .ok (.invokevirtual 83, 3) := by decide +kernel
theorem dX6_lay_124 : decode cX6_lay 124 = .ok (.iadd, 1) := by decide +kernel
theorem dX6_lay_125 : decode cX6_lay 125 = .ok (.dup2, 1) := by decide +kernel
theorem dX6_lay_126 : decode cX6_lay 126 = .ok (.iaload, 1) := by decide +kernel
theorem dX6_lay_127 : decode cX6_lay 127 = .ok (.iconst 1, 1) := by decide +kernel
theorem dX6_lay_128 : decode cX6_lay 128 = .ok (.iadd, 1) := by decide +kernel
theorem dX6_lay_129 : decode cX6_lay 129 = .ok (.iastore, 1) := by decide +kernel
theorem dX6_lay_130 : decode cX6_lay 130 = .ok (.iinc 3 1, 3) := by decide +kernel
theorem dX6_lay_133 : decode cX6_lay 133 = .ok (.goto (-33), 3) := by decide +kernel
theorem dX6_lay_136 : decode cX6_lay 136 = .ok (.iinc 2 1, 3) := by decide +kernel
theorem dX6_lay_139 : decode cX6_lay 139 = .ok (.goto (-49), 3) := by decide +kernel
theorem dX6_lay_142 : decode cX6_lay 142 = .ok (.return_, 1) := by decide +kernel
theorem dX6_blackOf_0 : decode cX6_blackOf 0 = .ok (.iload_n 1, 1) := by decide +kernel
theorem dX6_blackOf_1 : decode cX6_blackOf 1 = .ok (.ifCond .lt 30, 3) := by decide +kernel
theorem dX6_blackOf_4 : decode cX6_blackOf 4 = .ok (.iload_n 1, 1) := by decide +kernel
theorem dX6_blackOf_5 : decode cX6_blackOf 5 = .ok (.bipush 10, 2) := by decide +kernel
theorem dX6_blackOf_7 : decode cX6_blackOf 7 = .ok (.if_icmp .ge 24, 3) := by decide +kernel
theorem dX6_blackOf_10 : decode cX6_blackOf 10 = .ok (.bipush 16, 2) := by decide +kernel
theorem dX6_blackOf_12 : decode cX6_blackOf 12 = .ok (.aload_n 0, 1) := by decide +kernel
theorem dX6_blackOf_13 : decode cX6_blackOf 13 = .ok (.getfield 18, 3) := by decide +kernel
theorem dX6_blackOf_16 : decode cX6_blackOf 16 = .ok (.iload_n 1, 1) := by decide +kernel
theorem dX6_blackOf_17 : decode cX6_blackOf 17 = .ok (.iaload, 1) := by decide +kernel
theorem dX6_blackOf_18 : decode cX6_blackOf 18 = .ok (.imul, 1) := by decide +kernel
theorem dX6_blackOf_19 : decode cX6_blackOf 19 = .ok (.iload_n 2, 1) := by decide +kernel
theorem dX6_blackOf_20 : decode cX6_blackOf 20 = .ok (.aload_n 0, 1) := by decide +kernel
theorem dX6_blackOf_21 : decode cX6_blackOf 21 = .ok (.getfield 22, 3) := by decide +kernel
theorem dX6_blackOf_24 : decode cX6_blackOf 24 = .ok (.iload_n 1, 1) := by decide +kernel
theorem dX6_blackOf_25 : decode cX6_blackOf 25 = .ok (.iaload, 1) := by decide +kernel
theorem dX6_blackOf_26 : decode cX6_blackOf 26 = .ok (.imul, 1) := by decide +kernel
theorem dX6_blackOf_27 : decode cX6_blackOf 27 = .ok (.iadd, 1) := by decide +kernel
theorem dX6_blackOf_28 : decode cX6_blackOf 28 = .ok (.goto 4, 3) := by decide +kernel
theorem dX6_blackOf_31 : decode cX6_blackOf 31 = .ok (.iconst 0, 1) := by decide +kernel
theorem dX6_blackOf_32 : decode cX6_blackOf 32 = .ok (.ireturn, 1) := by decide +kernel
theorem dX6_colourBy_0 : decode cX6_colourBy 0 = .ok (.iload_n 1, 1) := by decide +kernel
theorem dX6_colourBy_1 : decode cX6_colourBy 1 = .ok (.ifCond .gt 7, 3) := by decide +kernel
theorem dX6_colourBy_4 : decode cX6_colourBy 4 = .ok (.iconst 0, 1) := by decide +kernel
theorem dX6_colourBy_5 : decode cX6_colourBy 5 = .ok (.goto 13, 3) := by decide +kernel
theorem dX6_colourBy_8 : decode cX6_colourBy 8 = .ok (.sipush 1000, 3) := by decide +kernel
theorem dX6_colourBy_11 : decode cX6_colourBy 11 = .ok (.iload_n 0, 1) := by decide +kernel
theorem dX6_colourBy_12 : decode cX6_colourBy 12 = .ok (.imul, 1) := by decide +kernel
theorem dX6_colourBy_13 : decode cX6_colourBy 13 = .ok (.bipush 16, 2) := by decide +kernel
theorem dX6_colourBy_15 : decode cX6_colourBy 15 = .ok (.iload_n 1, 1) := by decide +kernel
theorem dX6_colourBy_16 : decode cX6_colourBy 16 = .ok (.imul, 1) := by decide +kernel
theorem dX6_colourBy_17 : decode cX6_colourBy 17 = .ok (.idiv, 1) := by decide +kernel
theorem dX6_colourBy_18 : decode cX6_colourBy 18 = .ok (.ireturn, 1) := by decide +kernel
theorem dX6_blackOfWord_0 : decode cX6_blackOfWord 0 = .ok (.iconst 0, 1) := by decide +kernel
theorem dX6_blackOfWord_1 : decode cX6_blackOfWord 1 = .ok (.istore_n 3, 1) := by decide +kernel
theorem dX6_blackOfWord_2 : decode cX6_blackOfWord 2 = .ok (.iconst 0, 1) := by decide +kernel
theorem dX6_blackOfWord_3 : decode cX6_blackOfWord 3 = .ok (.istore 4, 2) := by decide +kernel
theorem dX6_blackOfWord_5 : decode cX6_blackOfWord 5 = .ok (.iload 4, 2) := by decide +kernel
theorem dX6_blackOfWord_7 : decode cX6_blackOfWord 7 = .ok (.aload_n 0, 1) := by decide +kernel
theorem dX6_blackOfWord_8 : decode cX6_blackOfWord 8 = .ok (.getfield 9, 3) := by decide +kernel
theorem dX6_blackOfWord_11 : decode cX6_blackOfWord 11 = .ok (.if_icmp .ge 32, 3) := by decide +kernel
theorem dX6_blackOfWord_14 : decode cX6_blackOfWord 14 = .ok (.iload_n 3, 1) := by decide +kernel
theorem dX6_blackOfWord_15 : decode cX6_blackOfWord 15 = .ok (.aload_n 0, 1) := by decide +kernel
theorem dX6_blackOfWord_16 : decode cX6_blackOfWord 16 = .ok (.getfield 43, 3) := by decide +kernel
theorem dX6_blackOfWord_19 : decode cX6_blackOfWord 19 = .ok (.bipush 10, 2) := by decide +kernel
theorem dX6_blackOfWord_21 : decode cX6_blackOfWord 21 = .ok (.iload_n 1, 1) := by decide +kernel
theorem dX6_blackOfWord_22 : decode cX6_blackOfWord 22 = .ok (.imul, 1) := by decide +kernel
theorem dX6_blackOfWord_23 : decode cX6_blackOfWord 23 = .ok (.iload 4, 2) := by decide +kernel
theorem dX6_blackOfWord_25 : decode cX6_blackOfWord 25 = .ok (.iadd, 1) := by decide +kernel
theorem dX6_blackOfWord_26 : decode cX6_blackOfWord 26 = .ok (.iaload, 1) := by decide +kernel
theorem dX6_blackOfWord_27 : decode cX6_blackOfWord 27 = .ok (.aload_n 0, 1) := by decide +kernel
theorem dX6_blackOfWord_28 : decode cX6_blackOfWord 28 = .ok (.iload 4, 2) := by decide +kernel
theorem dX6_blackOfWord_30 : decode cX6_blackOfWord 30 = .ok (.iload_n 2, 1) := by decide +kernel
theorem dX6_blackOfWord_31 : decode cX6_blackOfWord 31 = .ok (.invokevirtual 87, 3) := by decide +kernel
theorem dX6_blackOfWord_34 : decode cX6_blackOfWord 34 = .ok (.imul, 1) := by decide +kernel
theorem dX6_blackOfWord_35 : decode cX6_blackOfWord 35 = .ok (.iadd, 1) := by decide +kernel
theorem dX6_blackOfWord_36 : decode cX6_blackOfWord 36 = .ok (.istore_n 3, 1) := by decide +kernel
theorem dX6_blackOfWord_37 : decode cX6_blackOfWord 37 = .ok (.iinc 4 1, 3) := by decide +kernel
theorem dX6_blackOfWord_40 : decode cX6_blackOfWord 40 = .ok (.goto (-35), 3) := by decide +kernel
theorem dX6_blackOfWord_43 : decode cX6_blackOfWord 43 = .ok (.iload_n 3, 1) := by decide +kernel
theorem dX6_blackOfWord_44 : decode cX6_blackOfWord 44 = .ok (.ireturn, 1) := by decide +kernel
theorem dX6_spaceOfWord_0 : decode cX6_spaceOfWord 0 = .ok (.iconst 0, 1) := by decide +kernel
theorem dX6_spaceOfWord_1 : decode cX6_spaceOfWord 1 = .ok (.istore_n 3, 1) := by decide +kernel
theorem dX6_spaceOfWord_2 : decode cX6_spaceOfWord 2 = .ok (.iconst 0, 1) := by decide +kernel
theorem dX6_spaceOfWord_3 : decode cX6_spaceOfWord 3 = .ok (.istore 4, 2) := by decide +kernel
theorem dX6_spaceOfWord_5 : decode cX6_spaceOfWord 5 = .ok (.iload 4, 2) := by decide +kernel
theorem dX6_spaceOfWord_7 : decode cX6_spaceOfWord 7 = .ok (.aload_n 0, 1) := by decide +kernel
theorem dX6_spaceOfWord_8 : decode cX6_spaceOfWord 8 = .ok (.getfield 9, 3) := by decide +kernel
theorem dX6_spaceOfWord_11 : decode cX6_spaceOfWord 11 = .ok (.if_icmp .ge 43, 3) := by decide +kernel
theorem dX6_spaceOfWord_14 : decode cX6_spaceOfWord 14 = .ok (.iload_n 3, 1) := by decide +kernel
theorem dX6_spaceOfWord_15 : decode cX6_spaceOfWord 15 = .ok (.aload_n 0, 1) := by decide +kernel
theorem dX6_spaceOfWord_16 : decode cX6_spaceOfWord 16 = .ok (.getfield 43, 3) := by decide +kernel
theorem dX6_spaceOfWord_19 : decode cX6_spaceOfWord 19 = .ok (.bipush 10, 2) := by decide +kernel
theorem dX6_spaceOfWord_21 : decode cX6_spaceOfWord 21 = .ok (.iload_n 1, 1) := by decide +kernel
theorem dX6_spaceOfWord_22 : decode cX6_spaceOfWord 22 = .ok (.imul, 1) := by decide +kernel
theorem dX6_spaceOfWord_23 : decode cX6_spaceOfWord 23 = .ok (.iload 4, 2) := by decide +kernel
theorem dX6_spaceOfWord_25 : decode cX6_spaceOfWord 25 = .ok (.iadd, 1) := by decide +kernel
theorem dX6_spaceOfWord_26 : decode cX6_spaceOfWord 26 = .ok (.iaload, 1) := by decide +kernel
theorem dX6_spaceOfWord_27 : decode cX6_spaceOfWord 27 = .ok (.aload_n 0, 1) := by decide +kernel
theorem dX6_spaceOfWord_28 : decode cX6_spaceOfWord 28 = .ok (.getfield 25, 3) := by decide +kernel
theorem dX6_spaceOfWord_31 : decode cX6_spaceOfWord 31 = .ok (.iload 4, 2) := by decide +kernel
theorem dX6_spaceOfWord_33 : decode cX6_spaceOfWord 33 = .ok (.iaload, 1) := by decide +kernel
theorem dX6_spaceOfWord_34 : decode cX6_spaceOfWord 34 = .ok (.iload_n 2, 1) := by decide +kernel
theorem dX6_spaceOfWord_35 : decode cX6_spaceOfWord 35 = .ok (.getstatic 90, 3) := by decide +kernel
theorem dX6_spaceOfWord_38 : decode cX6_spaceOfWord 38 = .ok (.iload 4, 2) := by decide +kernel
theorem dX6_spaceOfWord_40 : decode cX6_spaceOfWord 40 = .ok (.iaload, 1) := by decide +kernel
theorem dX6_spaceOfWord_41 : decode cX6_spaceOfWord 41 = .ok (.idiv, 1) := by decide +kernel
theorem dX6_spaceOfWord_42 : decode cX6_spaceOfWord 42 = .ok (.iconst 5, 1) := by decide +kernel
theorem dX6_spaceOfWord_43 : decode cX6_spaceOfWord 43 = .ok (.irem, 1) := by decide +kernel
theorem dX6_spaceOfWord_44 : decode cX6_spaceOfWord 44 = .ok (.iadd, 1) := by decide +kernel
theorem dX6_spaceOfWord_45 : decode cX6_spaceOfWord 45 = .ok (.imul, 1) := by decide +kernel
theorem dX6_spaceOfWord_46 : decode cX6_spaceOfWord 46 = .ok (.iadd, 1) := by decide +kernel
theorem dX6_spaceOfWord_47 : decode cX6_spaceOfWord 47 = .ok (.istore_n 3, 1) := by decide +kernel
theorem dX6_spaceOfWord_48 : decode cX6_spaceOfWord 48 = .ok (.iinc 4 1, 3) := by decide +kernel
theorem dX6_spaceOfWord_51 : decode cX6_spaceOfWord 51 = .ok (.goto (-46), 3) := by decide +kernel
theorem dX6_spaceOfWord_54 : decode cX6_spaceOfWord 54 = .ok (.iload_n 3, 1) := by decide +kernel
theorem dX6_spaceOfWord_55 : decode cX6_spaceOfWord 55 = .ok (.ireturn, 1) := by decide +kernel
theorem dX6_colourOf_0 : decode cX6_colourOf 0 = .ok (.aload_n 0, 1) := by decide +kernel
theorem dX6_colourOf_1 : decode cX6_colourOf 1 = .ok (.iload_n 1, 1) := by decide +kernel
theorem dX6_colourOf_2 : decode cX6_colourOf 2 = .ok (.iload_n 2, 1) := by decide +kernel
theorem dX6_colourOf_3 : decode cX6_colourOf 3 = .ok (.invokevirtual 93, 3) := by decide +kernel
theorem dX6_colourOf_6 : decode cX6_colourOf 6 = .ok (.aload_n 0, 1) := by decide +kernel
theorem dX6_colourOf_7 : decode cX6_colourOf 7 = .ok (.iload_n 1, 1) := by decide +kernel
theorem dX6_colourOf_8 : decode cX6_colourOf 8 = .ok (.iload_n 3, 1) := by decide +kernel
theorem dX6_colourOf_9 : decode cX6_colourOf 9 = .ok (.invokevirtual 96, 3) := by decide +kernel
theorem dX6_colourOf_12 : decode cX6_colourOf 12 = .ok (.invokestatic 99, 3) := by decide +kernel
theorem dX6_colourOf_15 : decode cX6_colourOf 15 = .ok (.ireturn, 1) := by decide +kernel
theorem dX6_unevenOf_0 : decode cX6_unevenOf 0 = .ok (.aload_n 0, 1) := by decide +kernel
theorem dX6_unevenOf_1 : decode cX6_unevenOf 1 = .ok (.iload_n 1, 1) := by decide +kernel
theorem dX6_unevenOf_2 : decode cX6_unevenOf 2 = .ok (.iload_n 2, 1) := by decide +kernel
theorem dX6_unevenOf_3 : decode cX6_unevenOf 3 = .ok (.invokevirtual 102, 3) := by decide +kernel
theorem dX6_unevenOf_6 : decode cX6_unevenOf 6 = .ok (.aload_n 0, 1) := by decide +kernel
theorem dX6_unevenOf_7 : decode cX6_unevenOf 7 = .ok (.iconst (-1), 1) := by decide +kernel
theorem dX6_unevenOf_8 : decode cX6_unevenOf 8 = .ok (.invokevirtual 106, 3) := by decide +kernel
theorem dX6_unevenOf_11 : decode cX6_unevenOf 11 = .ok (.ireturn, 1) := by decide +kernel
theorem dX6_layWords_0 : decode cX6_layWords 0 = .ok (.iconst 0, 1) := by decide +kernel
theorem dX6_layWords_1 : decode cX6_layWords 1 = .ok (.istore_n 3, 1) := by decide +kernel
theorem dX6_layWords_2 : decode cX6_layWords 2 = .ok (.iload_n 3, 1) := by decide +kernel
theorem dX6_layWords_3 : decode cX6_layWords 3 = .ok (.aload_n 0, 1) := by decide +kernel
theorem dX6_layWords_4 : decode cX6_layWords 4 = .ok (.getfield 15, 3) := by decide +kernel
theorem dX6_layWords_7 : decode cX6_layWords 7 = .ok (.if_icmp .ge 33, 3) := by decide +kernel
theorem dX6_layWords_10 : decode cX6_layWords 10 = .ok (.aload_n 0, 1) := by decide +kernel
theorem dX6_layWords_11 : decode cX6_layWords 11 = .ok (.getfield 34, 3) := by decide +kernel
theorem dX6_layWords_14 : decode cX6_layWords 14 = .ok (.iload_n 3, 1) := by decide +kernel
theorem dX6_layWords_15 : decode cX6_layWords 15 = .ok (.aload_n 0, 1) := by decide +kernel
theorem dX6_layWords_16 : decode cX6_layWords 16 = .ok (.iload_n 3, 1) := by decide +kernel
theorem dX6_layWords_17 : decode cX6_layWords 17 = .ok (.iload_n 1, 1) := by decide +kernel
theorem dX6_layWords_18 : decode cX6_layWords 18 = .ok (.invokevirtual 93, 3) := by decide +kernel
theorem dX6_layWords_21 : decode cX6_layWords 21 = .ok (.iastore, 1) := by decide +kernel
theorem dX6_layWords_22 : decode cX6_layWords 22 = .ok (.aload_n 0, 1) := by decide +kernel
theorem dX6_layWords_23 : decode cX6_layWords 23 = .ok (.getfield 37, 3) := by decide +kernel
theorem dX6_layWords_26 : decode cX6_layWords 26 = .ok (.iload_n 3, 1) := by decide +kernel
theorem dX6_layWords_27 : decode cX6_layWords 27 = .ok (.aload_n 0, 1) := by decide +kernel
theorem dX6_layWords_28 : decode cX6_layWords 28 = .ok (.iload_n 3, 1) := by decide +kernel
theorem dX6_layWords_29 : decode cX6_layWords 29 = .ok (.iload_n 2, 1) := by decide +kernel
theorem dX6_layWords_30 : decode cX6_layWords 30 = .ok (.invokevirtual 96, 3) := by decide +kernel
theorem dX6_layWords_33 : decode cX6_layWords 33 = .ok (.iastore, 1) := by decide +kernel
theorem dX6_layWords_34 : decode cX6_layWords 34 = .ok (.iinc 3 1, 3) := by decide +kernel
theorem dX6_layWords_37 : decode cX6_layWords 37 = .ok (.goto (-35), 3) := by decide +kernel
theorem dX6_layWords_40 : decode cX6_layWords 40 = .ok (.return_, 1) := by decide +kernel
theorem dX6_unevenAtLeast_0 : decode cX6_unevenAtLeast 0 = .ok (.iconst 0, 1) := by decide +kernel
theorem dX6_unevenAtLeast_1 : decode cX6_unevenAtLeast 1 = .ok (.istore_n 2, 1) := by decide +kernel
theorem dX6_unevenAtLeast_2 : decode cX6_unevenAtLeast 2 = .ok (.ldc 110, 2) := by decide +kernel
theorem dX6_unevenAtLeast_4 : decode cX6_unevenAtLeast 4 = .ok (.istore_n 3, 1) := by decide +kernel
theorem dX6_unevenAtLeast_5 : decode cX6_unevenAtLeast 5 = .ok (.iconst 0, 1) := by decide +kernel
theorem dX6_unevenAtLeast_6 : decode cX6_unevenAtLeast 6 = .ok (.istore 4, 2) := by decide +kernel
theorem dX6_unevenAtLeast_8 : decode cX6_unevenAtLeast 8 = .ok (.iload 4, 2) := by decide +kernel
theorem dX6_unevenAtLeast_10 : decode cX6_unevenAtLeast 10 = .ok (.aload_n 0, 1) := by decide +kernel
theorem dX6_unevenAtLeast_11 : decode cX6_unevenAtLeast 11 = .ok (.getfield 15, 3) := by decide +kernel
theorem dX6_unevenAtLeast_14 : decode cX6_unevenAtLeast 14 = .ok (.if_icmp .ge 84, 3) := by decide +kernel
theorem dX6_unevenAtLeast_17 : decode cX6_unevenAtLeast 17 = .ok (.iload_n 1, 1) := by decide +kernel
theorem dX6_unevenAtLeast_18 : decode cX6_unevenAtLeast 18 = .ok (.ifCond .lt 24, 3) := by decide +kernel
theorem dX6_unevenAtLeast_21 : decode cX6_unevenAtLeast 21 = .ok (.iload_n 1, 1) := by decide +kernel
theorem dX6_unevenAtLeast_22 : decode cX6_unevenAtLeast 22 = .ok (.bipush 6, 2) := by decide +kernel
theorem dX6_unevenAtLeast_24 : decode cX6_unevenAtLeast 24 = .ok (.if_icmp .ge 18, 3) := by decide +kernel
theorem dX6_unevenAtLeast_27 : decode cX6_unevenAtLeast 27 = .ok (.aload_n 0, 1) := by decide +kernel
theorem dX6_unevenAtLeast_28 : decode cX6_unevenAtLeast 28 = .ok (.getfield 40, 3) := by decide +kernel
theorem dX6_unevenAtLeast_31 : decode cX6_unevenAtLeast 31 = .ok (.bipush 6, 2) := by decide +kernel
theorem dX6_unevenAtLeast_33 : decode cX6_unevenAtLeast 33 = .ok (.iload 4, 2) := by decide +kernel
theorem dX6_unevenAtLeast_35 : decode cX6_unevenAtLeast 35 = .ok (.imul, 1) := by decide +kernel
theorem dX6_unevenAtLeast_36 : decode cX6_unevenAtLeast 36 = .ok (.iload_n 1, 1) := by decide +kernel
theorem dX6_unevenAtLeast_37 : decode cX6_unevenAtLeast 37 = .ok (.iadd, 1) := by decide +kernel
theorem dX6_unevenAtLeast_38 : decode cX6_unevenAtLeast 38 = .ok (.iaload, 1) := by decide +kernel
theorem dX6_unevenAtLeast_39 : decode cX6_unevenAtLeast 39 = .ok (.goto 4, 3) := by decide +kernel
theorem dX6_unevenAtLeast_42 : decode cX6_unevenAtLeast 42 = .ok (.iconst 0, 1) := by decide +kernel
theorem dX6_unevenAtLeast_43 : decode cX6_unevenAtLeast 43 = .ok (.istore 5, 2) := by decide +kernel
theorem dX6_unevenAtLeast_45 : decode cX6_unevenAtLeast 45 = .ok (.iload_n 2, 1) := by decide +kernel
theorem dX6_unevenAtLeast_46 : decode cX6_unevenAtLeast 46 = .ok (.aload_n 0, 1) := by decide +kernel
theorem dX6_unevenAtLeast_47 : decode cX6_unevenAtLeast 47 = .ok (.getfield 34, 3) := by decide +kernel
theorem dX6_unevenAtLeast_50 : decode cX6_unevenAtLeast 50 = .ok (.iload 4, 2) := by decide +kernel
theorem dX6_unevenAtLeast_52 : decode cX6_unevenAtLeast 52 = .ok (.iaload, 1) := by decide +kernel
theorem dX6_unevenAtLeast_53 : decode cX6_unevenAtLeast 53 = .ok (.aload_n 0, 1) := by decide +kernel
theorem dX6_unevenAtLeast_54 : decode cX6_unevenAtLeast 54 = .ok (.getfield 37, 3) := by decide +kernel
theorem dX6_unevenAtLeast_57 : decode cX6_unevenAtLeast 57 = .ok (.iload 4, 2) := by decide +kernel
theorem dX6_unevenAtLeast_59 : decode cX6_unevenAtLeast 59 = .ok (.iaload, 1) := by decide +kernel
theorem dX6_unevenAtLeast_60 : decode cX6_unevenAtLeast 60 = .ok (.iload 5, 2) := by decide +kernel
theorem dX6_unevenAtLeast_62 : decode cX6_unevenAtLeast 62 = .ok (.iadd, 1) := by decide +kernel
theorem dX6_unevenAtLeast_63 : decode cX6_unevenAtLeast 63 = .ok (.invokestatic 99, 3) := by decide +kernel
theorem dX6_unevenAtLeast_66 : decode cX6_unevenAtLeast 66 = .ok (.invokestatic 111, 3) := by decide +kernel
theorem dX6_unevenAtLeast_69 : decode cX6_unevenAtLeast 69 = .ok (.istore_n 2, 1) := by decide +kernel
theorem dX6_unevenAtLeast_70 : decode cX6_unevenAtLeast 70 = .ok (.iload_n 3, 1) := by decide +kernel
theorem dX6_unevenAtLeast_71 : decode cX6_unevenAtLeast 71 = .ok (.aload_n 0, 1) := by decide +kernel
theorem dX6_unevenAtLeast_72 : decode cX6_unevenAtLeast 72 = .ok (.getfield 34, 3) := by decide +kernel
theorem dX6_unevenAtLeast_75 : decode cX6_unevenAtLeast 75 = .ok (.iload 4, 2) := by decide +kernel
theorem dX6_unevenAtLeast_77 : decode cX6_unevenAtLeast 77 = .ok (.iaload, 1) := by decide +kernel
theorem dX6_unevenAtLeast_78 : decode cX6_unevenAtLeast 78 = .ok (.aload_n 0, 1) := by decide +kernel
theorem dX6_unevenAtLeast_79 : decode cX6_unevenAtLeast 79 = .ok (.getfield 37, 3) := by decide +kernel
theorem dX6_unevenAtLeast_82 : decode cX6_unevenAtLeast 82 = .ok (.iload 4, 2) := by decide +kernel
theorem dX6_unevenAtLeast_84 : decode cX6_unevenAtLeast 84 = .ok (.iaload, 1) := by decide +kernel
theorem dX6_unevenAtLeast_85 : decode cX6_unevenAtLeast 85 = .ok (.invokestatic 99, 3) := by decide +kernel
theorem dX6_unevenAtLeast_88 : decode cX6_unevenAtLeast 88 = .ok (.invokestatic 116, 3) := by decide +kernel
theorem dX6_unevenAtLeast_91 : decode cX6_unevenAtLeast 91 = .ok (.istore_n 3, 1) := by decide +kernel
theorem dX6_unevenAtLeast_92 : decode cX6_unevenAtLeast 92 = .ok (.iinc 4 1, 3) := by decide +kernel
theorem dX6_unevenAtLeast_95 : decode cX6_unevenAtLeast 95 = .ok (.goto (-87), 3) := by decide +kernel
theorem dX6_unevenAtLeast_98 : decode cX6_unevenAtLeast 98 = .ok (.aload_n 0, 1) := by decide +kernel
theorem dX6_unevenAtLeast_99 : decode cX6_unevenAtLeast 99 = .ok (.getfield 15, 3) := by decide +kernel
theorem dX6_unevenAtLeast_102 : decode cX6_unevenAtLeast 102 = .ok (.ifCond .ne 7, 3) := by decide +kernel
theorem dX6_unevenAtLeast_105 : decode cX6_unevenAtLeast 105 = .ok (.iconst 0, 1) := by decide +kernel
theorem dX6_unevenAtLeast_106 : decode cX6_unevenAtLeast 106 = .ok (.goto 10, 3) := by decide +kernel
theorem dX6_unevenAtLeast_109 : decode cX6_unevenAtLeast 109 = .ok (.iconst 0, 1) := by decide +kernel
theorem dX6_unevenAtLeast_110 : decode cX6_unevenAtLeast 110 = .ok (.iload_n 2, 1) := by decide +kernel
theorem dX6_unevenAtLeast_111 : decode cX6_unevenAtLeast 111 = .ok (.iload_n 3, 1) := by decide +kernel
theorem dX6_unevenAtLeast_112 : decode cX6_unevenAtLeast 112 = .ok (.isub, 1) := by decide +kernel
theorem dX6_unevenAtLeast_113 : decode cX6_unevenAtLeast 113 = .ok (.invokestatic 111, 3) := by decide +kernel
theorem dX6_unevenAtLeast_116 : decode cX6_unevenAtLeast 116 = .ok (.ireturn, 1) := by decide +kernel
theorem dX6_evenRoom_0 : decode cX6_evenRoom 0 = .ok (.iload_n 1, 1) := by decide +kernel
theorem dX6_evenRoom_1 : decode cX6_evenRoom 1 = .ok (.ifCond .lt 12, 3) := by decide +kernel
theorem dX6_evenRoom_4 : decode cX6_evenRoom 4 = .ok (.iload_n 1, 1) := by decide +kernel
theorem dX6_evenRoom_5 : decode cX6_evenRoom 5 = .ok (.aload_n 0, 1) := by decide +kernel
theorem dX6_evenRoom_6 : decode cX6_evenRoom 6 = .ok (.getfield 28, 3) := by decide +kernel
theorem dX6_evenRoom_9 : decode cX6_evenRoom 9 = .ok (.arraylength, 1) := by decide +kernel
theorem dX6_evenRoom_10 : decode cX6_evenRoom 10 = .ok (.if_icmp .lt 5, 3) := by decide +kernel
theorem dX6_evenRoom_13 : decode cX6_evenRoom 13 = .ok (.iconst (-1), 1) := by decide +kernel
theorem dX6_evenRoom_14 : decode cX6_evenRoom 14 = .ok (.ireturn, 1) := by decide +kernel
theorem dX6_evenRoom_15 : decode cX6_evenRoom 15 = .ok (.aload_n 0, 1) := by decide +kernel
theorem dX6_evenRoom_16 : decode cX6_evenRoom 16 = .ok (.getfield 28, 3) := by decide +kernel
theorem dX6_evenRoom_19 : decode cX6_evenRoom 19 = .ok (.iload_n 1, 1) := by decide +kernel
theorem dX6_evenRoom_20 : decode cX6_evenRoom 20 = .ok (.iaload, 1) := by decide +kernel
theorem dX6_evenRoom_21 : decode cX6_evenRoom 21 = .ok (.bipush (-2), 2) := by decide +kernel
theorem dX6_evenRoom_23 : decode cX6_evenRoom 23 = .ok (.if_icmp .ne 14, 3) := by decide +kernel
theorem dX6_evenRoom_26 : decode cX6_evenRoom 26 = .ok (.aload_n 0, 1) := by decide +kernel
theorem dX6_evenRoom_27 : decode cX6_evenRoom 27 = .ok (.getfield 28, 3) := by decide +kernel
theorem dX6_evenRoom_30 : decode cX6_evenRoom 30 = .ok (.iload_n 1, 1) := by decide +kernel
theorem dX6_evenRoom_31 : decode cX6_evenRoom 31 = .ok (.aload_n 0, 1) := by decide +kernel
theorem dX6_evenRoom_32 : decode cX6_evenRoom 32 = .ok (.iload_n 1, 1) := by decide +kernel
theorem dX6_evenRoom_33 : decode cX6_evenRoom 33 = .ok (.invokevirtual 119, 3) := by decide +kernel
theorem dX6_evenRoom_36 : decode cX6_evenRoom 36 = .ok (.iastore, 1) := by decide +kernel
theorem dX6_evenRoom_37 : decode cX6_evenRoom 37 = .ok (.aload_n 0, 1) := by decide +kernel
theorem dX6_evenRoom_38 : decode cX6_evenRoom 38 = .ok (.getfield 28, 3) := by decide +kernel
theorem dX6_evenRoom_41 : decode cX6_evenRoom 41 = .ok (.iload_n 1, 1) := by decide +kernel
theorem dX6_evenRoom_42 : decode cX6_evenRoom 42 = .ok (.iaload, 1) := by decide +kernel
theorem dX6_evenRoom_43 : decode cX6_evenRoom 43 = .ok (.ireturn, 1) := by decide +kernel
theorem dX6_findEvenRoom_0 : decode cX6_findEvenRoom 0 = .ok (.aload_n 0, 1) := by decide +kernel
theorem dX6_findEvenRoom_1 : decode cX6_findEvenRoom 1 = .ok (.invokevirtual 122, 3) := by decide +kernel
theorem dX6_findEvenRoom_4 : decode cX6_findEvenRoom 4 = .ok (.istore_n 2, 1) := by decide +kernel
theorem dX6_findEvenRoom_5 : decode cX6_findEvenRoom 5 = .ok (.iload_n 2, 1) := by decide +kernel
theorem dX6_findEvenRoom_6 : decode cX6_findEvenRoom 6 = .ok (.bipush 6, 2) := by decide +kernel
theorem dX6_findEvenRoom_8 : decode cX6_findEvenRoom 8 = .ok (.if_icmp .le 5, 3) := by decide +kernel
theorem dX6_findEvenRoom_11 : decode cX6_findEvenRoom 11 = .ok (.iconst (-1), 1) := by decide +kernel
theorem dX6_findEvenRoom_12 : decode cX6_findEvenRoom 12 = .ok (.ireturn, 1) := by decide +kernel
theorem dX6_findEvenRoom_13 : decode cX6_findEvenRoom 13 = .ok (.aload_n 0, 1) := by decide +kernel
theorem dX6_findEvenRoom_14 : decode cX6_findEvenRoom 14 = .ok (.iload_n 1, 1) := by decide +kernel
theorem dX6_findEvenRoom_15 : decode cX6_findEvenRoom 15 = .ok (.iconst 0, 1) := by decide +kernel
theorem dX6_findEvenRoom_16 : decode cX6_findEvenRoom 16 = .ok (.invokevirtual 102, 3) := by decide +kernel
theorem dX6_findEvenRoom_19 : decode cX6_findEvenRoom 19 = .ok (.aload_n 0, 1) := by decide +kernel
theorem dX6_findEvenRoom_20 : decode cX6_findEvenRoom 20 = .ok (.iload_n 2, 1) := by decide +kernel
theorem dX6_findEvenRoom_21 : decode cX6_findEvenRoom 21 = .ok (.invokevirtual 126, 3) := by decide +kernel
theorem dX6_findEvenRoom_24 : decode cX6_findEvenRoom 24 = .ok (.aload_n 0, 1) := by decide +kernel
theorem dX6_findEvenRoom_25 : decode cX6_findEvenRoom 25 = .ok (.ldc 110, 2) := by decide +kernel
theorem dX6_findEvenRoom_27 : decode cX6_findEvenRoom 27 = .ok (.putfield 46, 3) := by decide +kernel
theorem dX6_findEvenRoom_30 : decode cX6_findEvenRoom 30 = .ok (.aload_n 0, 1) := by decide +kernel
theorem dX6_findEvenRoom_31 : decode cX6_findEvenRoom 31 = .ok (.iconst 0, 1) := by decide +kernel
theorem dX6_findEvenRoom_32 : decode cX6_findEvenRoom 32 = .ok (.putfield 49, 3) := by decide +kernel
theorem dX6_findEvenRoom_35 : decode cX6_findEvenRoom 35 = .ok (.aload_n 0, 1) := by decide +kernel
theorem dX6_findEvenRoom_36 : decode cX6_findEvenRoom 36 = .ok (.iload_n 2, 1) := by decide +kernel
theorem dX6_findEvenRoom_37 : decode cX6_findEvenRoom 37 = .ok (.iconst 1, 1) := by decide +kernel
theorem dX6_findEvenRoom_38 : decode cX6_findEvenRoom 38 = .ok (.isub, 1) := by decide +kernel
theorem dX6_findEvenRoom_39 : decode cX6_findEvenRoom 39 = .ok (.iconst 0, 1) := by decide +kernel
theorem dX6_findEvenRoom_40 : decode cX6_findEvenRoom 40 = .ok (.invokestatic 130, 3) := by decide +kernel
theorem dX6_findEvenRoom_43 : decode cX6_findEvenRoom 43 = .ok (.aload_n 0, 1) := by decide +kernel
theorem dX6_findEvenRoom_44 : decode cX6_findEvenRoom 44 = .ok (.getfield 49, 3) := by decide +kernel
theorem dX6_findEvenRoom_47 : decode cX6_findEvenRoom 47 = .ok (.ireturn, 1) := by decide +kernel
theorem dX6_listFree_0 : decode cX6_listFree 0 = .ok (.iconst 0, 1) := by decide +kernel
theorem dX6_listFree_1 : decode cX6_listFree 1 = .ok (.istore_n 1, 1) := by decide +kernel
theorem dX6_listFree_2 : decode cX6_listFree 2 = .ok (.iconst 0, 1) := by decide +kernel
theorem dX6_listFree_3 : decode cX6_listFree 3 = .ok (.istore_n 2, 1) := by decide +kernel
theorem dX6_listFree_4 : decode cX6_listFree 4 = .ok (.iload_n 2, 1) := by decide +kernel
theorem dX6_listFree_5 : decode cX6_listFree 5 = .ok (.aload_n 0, 1) := by decide +kernel
theorem dX6_listFree_6 : decode cX6_listFree 6 = .ok (.getfield 9, 3) := by decide +kernel
theorem dX6_listFree_9 : decode cX6_listFree 9 = .ok (.if_icmp .ge 78, 3) := by decide +kernel
theorem dX6_listFree_12 : decode cX6_listFree 12 = .ok (.iconst 0, 1) := by decide +kernel
theorem dX6_listFree_13 : decode cX6_listFree 13 = .ok (.istore_n 3, 1) := by decide +kernel
theorem dX6_listFree_14 : decode cX6_listFree 14 = .ok (.iconst 0, 1) := by decide +kernel
theorem dX6_listFree_15 : decode cX6_listFree 15 = .ok (.istore 4, 2) := by decide +kernel
theorem dX6_listFree_17 : decode cX6_listFree 17 = .ok (.iload 4, 2) := by decide +kernel
theorem dX6_listFree_19 : decode cX6_listFree 19 = .ok (.aload_n 0, 1) := by decide +kernel
theorem dX6_listFree_20 : decode cX6_listFree 20 = .ok (.getfield 15, 3) := by decide +kernel
theorem dX6_listFree_23 : decode cX6_listFree 23 = .ok (.if_icmp .ge 34, 3) := by decide +kernel
theorem dX6_listFree_26 : decode cX6_listFree 26 = .ok (.iload_n 3, 1) := by decide +kernel
theorem dX6_listFree_27 : decode cX6_listFree 27 = .ok (.ifCond .ne 18, 3) := by decide +kernel
theorem dX6_listFree_30 : decode cX6_listFree 30 = .ok (.aload_n 0, 1) := by decide +kernel
theorem dX6_listFree_31 : decode cX6_listFree 31 = .ok (.getfield 43, 3) := by decide +kernel
theorem dX6_listFree_34 : decode cX6_listFree 34 = .ok (.bipush 10, 2) := by decide +kernel
theorem dX6_listFree_36 : decode cX6_listFree 36 = .ok (.iload 4, 2) := by decide +kernel
theorem dX6_listFree_38 : decode cX6_listFree 38 = .ok (.imul, 1) := by decide +kernel
theorem dX6_listFree_39 : decode cX6_listFree 39 = .ok (.iload_n 2, 1) := by decide +kernel
theorem dX6_listFree_40 : decode cX6_listFree 40 = .ok (.iadd, 1) := by decide +kernel
theorem dX6_listFree_41 : decode cX6_listFree 41 = .ok (.iaload, 1) := by decide +kernel
theorem dX6_listFree_42 : decode cX6_listFree 42 = .ok (.ifCond .le 7, 3) := by decide +kernel
theorem dX6_listFree_45 : decode cX6_listFree 45 = .ok (.iconst 1, 1) := by decide +kernel
theorem dX6_listFree_46 : decode cX6_listFree 46 = .ok (.goto 4, 3) := by decide +kernel
theorem dX6_listFree_49 : decode cX6_listFree 49 = .ok (.iconst 0, 1) := by decide +kernel
theorem dX6_listFree_50 : decode cX6_listFree 50 = .ok (.istore_n 3, 1) := by decide +kernel
theorem dX6_listFree_51 : decode cX6_listFree 51 = .ok (.iinc 4 1, 3) := by decide +kernel
theorem dX6_listFree_54 : decode cX6_listFree 54 = .ok (.goto (-37), 3) := by decide +kernel
theorem dX6_listFree_57 : decode cX6_listFree 57 = .ok (.iload_n 3, 1) := by decide +kernel
theorem dX6_listFree_58 : decode cX6_listFree 58 = .ok (.ifCond .eq 16, 3) := by decide +kernel
theorem dX6_listFree_61 : decode cX6_listFree 61 = .ok (.iload_n 1, 1) := by decide +kernel
theorem dX6_listFree_62 : decode cX6_listFree 62 = .ok (.bipush 6, 2) := by decide +kernel
theorem dX6_listFree_64 : decode cX6_listFree 64 = .ok (.if_icmp .ge 10, 3) := by decide +kernel
theorem dX6_listFree_67 : decode cX6_listFree 67 = .ok (.aload_n 0, 1) := by decide +kernel
theorem dX6_listFree_68 : decode cX6_listFree 68 = .ok (.getfield 31, 3) := by decide +kernel
theorem dX6_listFree_71 : decode cX6_listFree 71 = .ok (.iload_n 1, 1) := by decide +kernel
theorem dX6_listFree_72 : decode cX6_listFree 72 = .ok (.iload_n 2, 1) := by decide +kernel
theorem dX6_listFree_73 : decode cX6_listFree 73 = .ok (.iastore, 1) := by decide +kernel
theorem dX6_listFree_74 : decode cX6_listFree 74 = .ok (.iload_n 3, 1) := by decide +kernel
theorem dX6_listFree_75 : decode cX6_listFree 75 = .ok (.ifCond .eq 6, 3) := by decide +kernel
theorem dX6_listFree_78 : decode cX6_listFree 78 = .ok (.iinc 1 1, 3) := by decide +kernel
theorem dX6_listFree_81 : decode cX6_listFree 81 = .ok (.iinc 2 1, 3) := by decide +kernel
theorem dX6_listFree_84 : decode cX6_listFree 84 = .ok (.goto (-80), 3) := by decide +kernel
theorem dX6_listFree_87 : decode cX6_listFree 87 = .ok (.iload_n 1, 1) := by decide +kernel
theorem dX6_listFree_88 : decode cX6_listFree 88 = .ok (.ireturn, 1) := by decide +kernel
theorem dX6_layWider_0 : decode cX6_layWider 0 = .ok (.iconst 0, 1) := by decide +kernel
theorem dX6_layWider_1 : decode cX6_layWider 1 = .ok (.istore_n 2, 1) := by decide +kernel
theorem dX6_layWider_2 : decode cX6_layWider 2 = .ok (.iload_n 2, 1) := by decide +kernel
theorem dX6_layWider_3 : decode cX6_layWider 3 = .ok (.aload_n 0, 1) := by decide +kernel
theorem dX6_layWider_4 : decode cX6_layWider 4 = .ok (.getfield 15, 3) := by decide +kernel
theorem dX6_layWider_7 : decode cX6_layWider 7 = .ok (.if_icmp .ge 68, 3) := by decide +kernel
theorem dX6_layWider_10 : decode cX6_layWider 10 = .ok (.iconst 0, 1) := by decide +kernel
theorem dX6_layWider_11 : decode cX6_layWider 11 = .ok (.istore_n 3, 1) := by decide +kernel
theorem dX6_layWider_12 : decode cX6_layWider 12 = .ok (.iconst 0, 1) := by decide +kernel
theorem dX6_layWider_13 : decode cX6_layWider 13 = .ok (.istore 4, 2) := by decide +kernel
theorem dX6_layWider_15 : decode cX6_layWider 15 = .ok (.iload 4, 2) := by decide +kernel
theorem dX6_layWider_17 : decode cX6_layWider 17 = .ok (.iload_n 1, 1) := by decide +kernel
theorem dX6_layWider_18 : decode cX6_layWider 18 = .ok (.if_icmp .ge 51, 3) := by decide +kernel
theorem dX6_layWider_21 : decode cX6_layWider 21 = .ok (.iload 4, 2) := by decide +kernel
theorem dX6_layWider_23 : decode cX6_layWider 23 = .ok (.bipush 6, 2) := by decide +kernel
theorem dX6_layWider_25 : decode cX6_layWider 25 = .ok (.if_icmp .ge 44, 3) := by decide +kernel
theorem dX6_layWider_28 : decode cX6_layWider 28 = .ok (.iload_n 3, 1) := by decide +kernel
theorem dX6_layWider_29 : decode cX6_layWider 29 = .ok (.iconst 4, 1) := by decide +kernel
theorem dX6_layWider_30 : decode cX6_layWider 30 = .ok (.aload_n 0, 1) := by decide +kernel
theorem dX6_layWider_31 : decode cX6_layWider 31 = .ok (.getfield 43, 3) := by decide +kernel
theorem dX6_layWider_34 : decode cX6_layWider 34 = .ok (.bipush 10, 2) := by decide +kernel
theorem dX6_layWider_36 : decode cX6_layWider 36 = .ok (.iload_n 2, 1) := by decide +kernel
theorem dX6_layWider_37 : decode cX6_layWider 37 = .ok (.imul, 1) := by decide +kernel
theorem dX6_layWider_38 : decode cX6_layWider 38 = .ok (.aload_n 0, 1) := by decide +kernel
theorem dX6_layWider_39 : decode cX6_layWider 39 = .ok (.getfield 31, 3) := by decide +kernel
theorem dX6_layWider_42 : decode cX6_layWider 42 = .ok (.iload 4, 2) := by decide +kernel
theorem dX6_layWider_44 : decode cX6_layWider 44 = .ok (.iaload, 1) := by decide +kernel
theorem dX6_layWider_45 : decode cX6_layWider 45 = .ok (.iadd, 1) := by decide +kernel
theorem dX6_layWider_46 : decode cX6_layWider 46 = .ok (.iaload, 1) := by decide +kernel
theorem dX6_layWider_47 : decode cX6_layWider 47 = .ok (.imul, 1) := by decide +kernel
theorem dX6_layWider_48 : decode cX6_layWider 48 = .ok (.iadd, 1) := by decide +kernel
theorem dX6_layWider_49 : decode cX6_layWider 49 = .ok (.istore_n 3, 1) := by decide +kernel
theorem dX6_layWider_50 : decode cX6_layWider 50 = .ok (.aload_n 0, 1) := by decide +kernel
theorem dX6_layWider_51 : decode cX6_layWider 51 = .ok (.getfield 40, 3) := by decide +kernel
theorem dX6_layWider_54 : decode cX6_layWider 54 = .ok (.bipush 6, 2) := by decide +kernel
theorem dX6_layWider_56 : decode cX6_layWider 56 = .ok (.iload_n 2, 1) := by decide +kernel
theorem dX6_layWider_57 : decode cX6_layWider 57 = .ok (.imul, 1) := by decide +kernel
theorem dX6_layWider_58 : decode cX6_layWider 58 = .ok (.iload 4, 2) := by decide +kernel
theorem dX6_layWider_60 : decode cX6_layWider 60 = .ok (.iadd, 1) := by decide +kernel
theorem dX6_layWider_61 : decode cX6_layWider 61 = .ok (.iload_n 3, 1) := by decide +kernel
theorem dX6_layWider_62 : decode cX6_layWider 62 = .ok (.iastore, 1) := by decide +kernel
theorem dX6_layWider_63 : decode cX6_layWider 63 = .ok (.iinc 4 1, 3) := by decide +kernel
theorem dX6_layWider_66 : decode cX6_layWider 66 = .ok (.goto (-51), 3) := by decide +kernel
theorem dX6_layWider_69 : decode cX6_layWider 69 = .ok (.iinc 2 1, 3) := by decide +kernel
theorem dX6_layWider_72 : decode cX6_layWider 72 = .ok (.goto (-70), 3) := by decide +kernel
theorem dX6_layWider_75 : decode cX6_layWider 75 = .ok (.return_, 1) := by decide +kernel
theorem dX6_widen_0 : decode cX6_widen 0 = .ok (.iconst 0, 1) := by decide +kernel
theorem dX6_widen_1 : decode cX6_widen 1 = .ok (.istore_n 3, 1) := by decide +kernel
theorem dX6_widen_2 : decode cX6_widen 2 = .ok (.iload_n 3, 1) := by decide +kernel
theorem dX6_widen_3 : decode cX6_widen 3 = .ok (.aload_n 0, 1) := by decide +kernel
theorem dX6_widen_4 : decode cX6_widen 4 = .ok (.getfield 15, 3) := by decide +kernel
theorem dX6_widen_7 : decode cX6_widen 7 = .ok (.if_icmp .ge 46, 3) := by decide +kernel
theorem dX6_widen_10 : decode cX6_widen 10 = .ok (.iload_n 1, 1) := by decide +kernel
theorem dX6_widen_11 : decode cX6_widen 11 = .ok (.ifCond .lt 42, 3) := by decide +kernel
theorem dX6_widen_14 : decode cX6_widen 14 = .ok (.iload_n 1, 1) := by decide +kernel
theorem dX6_widen_15 : decode cX6_widen 15 = .ok (.bipush 6, 2) := by decide +kernel
theorem dX6_widen_17 : decode cX6_widen 17 = .ok (.if_icmp .ge 36, 3) := by decide +kernel
theorem dX6_widen_20 : decode cX6_widen 20 = .ok (.aload_n 0, 1) := by decide +kernel
theorem dX6_widen_21 : decode cX6_widen 21 = .ok (.getfield 37, 3) := by decide +kernel
theorem dX6_widen_24 : decode cX6_widen 24 = .ok (.iload_n 3, 1) := by decide +kernel
theorem dX6_widen_25 : decode cX6_widen 25 = .ok (.dup2, 1) := by decide +kernel
theorem dX6_widen_26 : decode cX6_widen 26 = .ok (.iaload, 1) := by decide +kernel
theorem dX6_widen_27 : decode cX6_widen 27 = .ok (.iload_n 2, 1) := by decide +kernel
theorem dX6_widen_28 : decode cX6_widen 28 = .ok (.aload_n 0, 1) := by decide +kernel
theorem dX6_widen_29 : decode cX6_widen 29 = .ok (.getfield 43, 3) := by decide +kernel
theorem dX6_widen_32 : decode cX6_widen 32 = .ok (.bipush 10, 2) := by decide +kernel
theorem dX6_widen_34 : decode cX6_widen 34 = .ok (.iload_n 3, 1) := by decide +kernel
theorem dX6_widen_35 : decode cX6_widen 35 = .ok (.imul, 1) := by decide +kernel
theorem dX6_widen_36 : decode cX6_widen 36 = .ok (.aload_n 0, 1) := by decide +kernel
theorem dX6_widen_37 : decode cX6_widen 37 = .ok (.getfield 31, 3) := by decide +kernel
theorem dX6_widen_40 : decode cX6_widen 40 = .ok (.iload_n 1, 1) := by decide +kernel
theorem dX6_widen_41 : decode cX6_widen 41 = .ok (.iaload, 1) := by decide +kernel
theorem dX6_widen_42 : decode cX6_widen 42 = .ok (.iadd, 1) := by decide +kernel
theorem dX6_widen_43 : decode cX6_widen 43 = .ok (.iaload, 1) := by decide +kernel
theorem dX6_widen_44 : decode cX6_widen 44 = .ok (.imul, 1) := by decide +kernel
theorem dX6_widen_45 : decode cX6_widen 45 = .ok (.iadd, 1) := by decide +kernel
theorem dX6_widen_46 : decode cX6_widen 46 = .ok (.iastore, 1) := by decide +kernel
theorem dX6_widen_47 : decode cX6_widen 47 = .ok (.iinc 3 1, 3) := by decide +kernel
theorem dX6_widen_50 : decode cX6_widen 50 = .ok (.goto (-48), 3) := by decide +kernel
theorem dX6_widen_53 : decode cX6_widen 53 = .ok (.return_, 1) := by decide +kernel
theorem dX6_seekEven_0 : decode cX6_seekEven 0 = .ok (.aload_n 0, 1) := by decide +kernel
theorem dX6_seekEven_1 : decode cX6_seekEven 1 = .ok (.iload_n 1, 1) := by decide +kernel
theorem dX6_seekEven_2 : decode cX6_seekEven 2 = .ok (.invokevirtual 106, 3) := by decide +kernel
theorem dX6_seekEven_5 : decode cX6_seekEven 5 = .ok (.istore_n 3, 1) := by decide +kernel
theorem dX6_seekEven_6 : decode cX6_seekEven 6 = .ok (.iload_n 3, 1) := by decide +kernel
theorem dX6_seekEven_7 : decode cX6_seekEven 7 = .ok (.aload_n 0, 1) := by decide +kernel
theorem dX6_seekEven_8 : decode cX6_seekEven 8 = .ok (.getfield 46, 3) := by decide +kernel
theorem dX6_seekEven_11 : decode cX6_seekEven 11 = .ok (.if_icmp .ge 9, 3) := by decide +kernel
theorem dX6_seekEven_14 : decode cX6_seekEven 14 = .ok (.iload_n 1, 1) := by decide +kernel
theorem dX6_seekEven_15 : decode cX6_seekEven 15 = .ok (.bipush 6, 2) := by decide +kernel
theorem dX6_seekEven_17 : decode cX6_seekEven 17 = .ok (.if_icmp .lt 4, 3) := by decide +kernel
theorem dX6_seekEven_20 : decode cX6_seekEven 20 = .ok (.return_, 1) := by decide +kernel
theorem dX6_seekEven_21 : decode cX6_seekEven 21 = .ok (.iload_n 1, 1) := by decide +kernel
theorem dX6_seekEven_22 : decode cX6_seekEven 22 = .ok (.ifCond .ge 14, 3) := by decide +kernel
theorem dX6_seekEven_25 : decode cX6_seekEven 25 = .ok (.aload_n 0, 1) := by decide +kernel
theorem dX6_seekEven_26 : decode cX6_seekEven 26 = .ok (.iload_n 3, 1) := by decide +kernel
theorem dX6_seekEven_27 : decode cX6_seekEven 27 = .ok (.putfield 46, 3) := by decide +kernel
theorem dX6_seekEven_30 : decode cX6_seekEven 30 = .ok (.aload_n 0, 1) := by decide +kernel
theorem dX6_seekEven_31 : decode cX6_seekEven 31 = .ok (.iload_n 2, 1) := by decide +kernel
theorem dX6_seekEven_32 : decode cX6_seekEven 32 = .ok (.putfield 49, 3) := by decide +kernel
theorem dX6_seekEven_35 : decode cX6_seekEven 35 = .ok (.return_, 1) := by decide +kernel
theorem dX6_seekEven_36 : decode cX6_seekEven 36 = .ok (.iconst 0, 1) := by decide +kernel
theorem dX6_seekEven_37 : decode cX6_seekEven 37 = .ok (.istore 4, 2) := by decide +kernel
theorem dX6_seekEven_39 : decode cX6_seekEven 39 = .ok (.iload 4, 2) := by decide +kernel
theorem dX6_seekEven_41 : decode cX6_seekEven 41 = .ok (.iconst 5, 1) := by decide +kernel
theorem dX6_seekEven_42 : decode cX6_seekEven 42 = .ok (.if_icmp .ge 37, 3) := by decide +kernel
theorem dX6_seekEven_45 : decode cX6_seekEven 45 = .ok (.aload_n 0, 1) := by decide +kernel
theorem dX6_seekEven_46 : decode cX6_seekEven 46 = .ok (.iload_n 1, 1) := by decide +kernel
theorem dX6_seekEven_47 : decode cX6_seekEven 47 = .ok (.iconst 1, 1) := by decide +kernel
theorem dX6_seekEven_48 : decode cX6_seekEven 48 = .ok (.isub, 1) := by decide +kernel
theorem dX6_seekEven_49 : decode cX6_seekEven 49 = .ok (.iload_n 2, 1) := by decide +kernel
theorem dX6_seekEven_50 : decode cX6_seekEven 50 = .ok (.iload 4, 2) := by decide +kernel
theorem dX6_seekEven_52 : decode cX6_seekEven 52 = .ok (.getstatic 90, 3) := by decide +kernel
theorem dX6_seekEven_55 : decode cX6_seekEven 55 = .ok (.aload_n 0, 1) := by decide +kernel
theorem dX6_seekEven_56 : decode cX6_seekEven 56 = .ok (.getfield 31, 3) := by decide +kernel
theorem dX6_seekEven_59 : decode cX6_seekEven 59 = .ok (.iload_n 1, 1) := by decide +kernel
theorem dX6_seekEven_60 : decode cX6_seekEven 60 = .ok (.iaload, 1) := by decide +kernel
theorem dX6_seekEven_61 : decode cX6_seekEven 61 = .ok (.iaload, 1) := by decide +kernel
theorem dX6_seekEven_62 : decode cX6_seekEven 62 = .ok (.imul, 1) := by decide +kernel
theorem dX6_seekEven_63 : decode cX6_seekEven 63 = .ok (.iadd, 1) := by decide +kernel
theorem dX6_seekEven_64 : decode cX6_seekEven 64 = .ok (.invokestatic 130, 3) := by decide +kernel
theorem dX6_seekEven_67 : decode cX6_seekEven 67 = .ok (.aload_n 0, 1) := by decide +kernel
theorem dX6_seekEven_68 : decode cX6_seekEven 68 = .ok (.iload_n 1, 1) := by decide +kernel
theorem dX6_seekEven_69 : decode cX6_seekEven 69 = .ok (.iconst 1, 1) := by decide +kernel
theorem dX6_seekEven_70 : decode cX6_seekEven 70 = .ok (.invokevirtual 134, 3) := by decide +kernel
theorem dX6_seekEven_73 : decode cX6_seekEven 73 = .ok (.iinc 4 1, 3) := by decide +kernel
theorem dX6_seekEven_76 : decode cX6_seekEven 76 = .ok (.goto (-37), 3) := by decide +kernel
theorem dX6_seekEven_79 : decode cX6_seekEven 79 = .ok (.aload_n 0, 1) := by decide +kernel
theorem dX6_seekEven_80 : decode cX6_seekEven 80 = .ok (.iload_n 1, 1) := by decide +kernel
theorem dX6_seekEven_81 : decode cX6_seekEven 81 = .ok (.bipush (-5), 2) := by decide +kernel
theorem dX6_seekEven_83 : decode cX6_seekEven 83 = .ok (.invokevirtual 134, 3) := by decide +kernel
theorem dX6_seekEven_86 : decode cX6_seekEven 86 = .ok (.return_, 1) := by decide +kernel
theorem dX6_spreadNearest_0 : decode cX6_spreadNearest 0 = .ok (.aload_n 0, 1) := by decide +kernel
theorem dX6_spreadNearest_1 : decode cX6_spreadNearest 1 = .ok (.getfield 15, 3) := by decide +kernel
theorem dX6_spreadNearest_4 : decode cX6_spreadNearest 4 = .ok (.ifCond .gt 5, 3) := by decide +kernel
theorem dX6_spreadNearest_7 : decode cX6_spreadNearest 7 = .ok (.iconst (-1), 1) := by decide +kernel
theorem dX6_spreadNearest_8 : decode cX6_spreadNearest 8 = .ok (.ireturn, 1) := by decide +kernel
theorem dX6_spreadNearest_9 : decode cX6_spreadNearest 9 = .ok (.iconst (-1), 1) := by decide +kernel
theorem dX6_spreadNearest_10 : decode cX6_spreadNearest 10 = .ok (.istore_n 2, 1) := by decide +kernel
theorem dX6_spreadNearest_11 : decode cX6_spreadNearest 11 = .ok (.ldc 110, 2) := by decide +kernel
theorem dX6_spreadNearest_13 : decode cX6_spreadNearest 13 = .ok (.istore_n 3, 1) := by decide +kernel
theorem dX6_spreadNearest_14 : decode cX6_spreadNearest 14 = .ok (.iconst 0, 1) := by decide +kernel
theorem dX6_spreadNearest_15 : decode cX6_spreadNearest 15 = .ok (.istore 4, 2) := by decide +kernel
theorem dX6_spreadNearest_17 : decode cX6_spreadNearest 17 = .ok (.iload 4, 2) := by decide +kernel
theorem dX6_spreadNearest_19 : decode cX6_spreadNearest 19 = .ok (.bipush 16, 2) := by decide +kernel
theorem dX6_spreadNearest_21 : decode cX6_spreadNearest 21 = .ok (.if_icmp .gt 70, 3) := by decide +kernel
theorem dX6_spreadNearest_24 : decode cX6_spreadNearest 24 = .ok (.iconst 0, 1) := by decide +kernel
theorem dX6_spreadNearest_25 : decode cX6_spreadNearest 25 = .ok (.istore 5, 2) := by decide +kernel
theorem dX6_spreadNearest_27 : decode cX6_spreadNearest 27 = .ok (.iconst 0, 1) := by decide +kernel
theorem dX6_spreadNearest_28 : decode cX6_spreadNearest 28 = .ok (.istore 6, 2) := by decide +kernel
theorem dX6_spreadNearest_30 : decode cX6_spreadNearest 30 = .ok (.iload 6, 2) := by decide +kernel
theorem dX6_spreadNearest_32 : decode cX6_spreadNearest 32 = .ok (.aload_n 0, 1) := by decide +kernel
theorem dX6_spreadNearest_33 : decode cX6_spreadNearest 33 = .ok (.getfield 15, 3) := by decide +kernel
theorem dX6_spreadNearest_36 : decode cX6_spreadNearest 36 = .ok (.if_icmp .ge 23, 3) := by decide +kernel
theorem dX6_spreadNearest_39 : decode cX6_spreadNearest 39 = .ok (.iload 5, 2) := by decide +kernel
theorem dX6_spreadNearest_41 : decode cX6_spreadNearest 41 = .ok (.aload_n 0, 1) := by decide +kernel
theorem dX6_spreadNearest_42 : decode cX6_spreadNearest 42 = .ok (.iload 6, 2) := by decide +kernel
theorem dX6_spreadNearest_44 : decode cX6_spreadNearest 44 = .ok (.iload 4, 2) := by decide +kernel
theorem dX6_spreadNearest_46 : decode cX6_spreadNearest 46 = .ok (.iconst 0, 1) := by decide +kernel
theorem dX6_spreadNearest_47 : decode cX6_spreadNearest 47 = .ok (.invokevirtual 137, 3) := by decide +kernel
theorem dX6_spreadNearest_50 : decode cX6_spreadNearest 50 = .ok (.iadd, 1) := by decide +kernel
theorem dX6_spreadNearest_51 : decode cX6_spreadNearest 51 = .ok (.istore 5, 2) := by decide +kernel
theorem dX6_spreadNearest_53 : decode cX6_spreadNearest 53 = .ok (.iinc 6 1, 3) := by decide +kernel
theorem dX6_spreadNearest_56 : decode cX6_spreadNearest 56 = .ok (.goto (-26), 3) := by decide +kernel
theorem dX6_spreadNearest_59 : decode cX6_spreadNearest 59 = .ok (.iload 5, 2) := by decide +kernel
theorem dX6_spreadNearest_61 : decode cX6_spreadNearest 61 = .ok (.aload_n 0, 1) := by decide +kernel
theorem dX6_spreadNearest_62 : decode cX6_spreadNearest 62 = .ok (.getfield 15, 3) := by decide +kernel
theorem dX6_spreadNearest_65 : decode cX6_spreadNearest 65 = .ok (.idiv, 1) := by decide +kernel
theorem dX6_spreadNearest_66 : decode cX6_spreadNearest 66 = .ok (.iload_n 1, 1) := by decide +kernel
theorem dX6_spreadNearest_67 : decode cX6_spreadNearest 67 = .ok (.isub, 1) := by decide +kernel
theorem dX6_spreadNearest_68 : decode cX6_spreadNearest 68 = .ok (.invokestatic 141, 3) := by decide +kernel
theorem dX6_spreadNearest_71 : decode cX6_spreadNearest 71 = .ok (.istore 6, 2) := by decide +kernel
theorem dX6_spreadNearest_73 : decode cX6_spreadNearest 73 = .ok (.iload 6, 2) := by decide +kernel
theorem dX6_spreadNearest_75 : decode cX6_spreadNearest 75 = .ok (.iload_n 3, 1) := by decide +kernel
theorem dX6_spreadNearest_76 : decode cX6_spreadNearest 76 = .ok (.if_icmp .ge 9, 3) := by decide +kernel
theorem dX6_spreadNearest_79 : decode cX6_spreadNearest 79 = .ok (.iload 6, 2) := by decide +kernel
theorem dX6_spreadNearest_81 : decode cX6_spreadNearest 81 = .ok (.istore_n 3, 1) := by decide +kernel
theorem dX6_spreadNearest_82 : decode cX6_spreadNearest 82 = .ok (.iload 4, 2) := by decide +kernel
theorem dX6_spreadNearest_84 : decode cX6_spreadNearest 84 = .ok (.istore_n 2, 1) := by decide +kernel
theorem dX6_spreadNearest_85 : decode cX6_spreadNearest 85 = .ok (.iinc 4 1, 3) := by decide +kernel
theorem dX6_spreadNearest_88 : decode cX6_spreadNearest 88 = .ok (.goto (-71), 3) := by decide +kernel
theorem dX6_spreadNearest_91 : decode cX6_spreadNearest 91 = .ok (.iload_n 2, 1) := by decide +kernel
theorem dX6_spreadNearest_92 : decode cX6_spreadNearest 92 = .ok (.ireturn, 1) := by decide +kernel
theorem dX6_sizeGroups_0 : decode cX6_sizeGroups 0 = .ok (.iconst 0, 1) := by decide +kernel
theorem dX6_sizeGroups_1 : decode cX6_sizeGroups 1 = .ok (.istore_n 2, 1) := by decide +kernel
theorem dX6_sizeGroups_2 : decode cX6_sizeGroups 2 = .ok (.iconst 0, 1) := by decide +kernel
theorem dX6_sizeGroups_3 : decode cX6_sizeGroups 3 = .ok (.istore_n 3, 1) := by decide +kernel
theorem dX6_sizeGroups_4 : decode cX6_sizeGroups 4 = .ok (.iconst 1, 1) := by decide +kernel
theorem dX6_sizeGroups_5 : decode cX6_sizeGroups 5 = .ok (.istore 4, 2) := by decide +kernel
theorem dX6_sizeGroups_7 : decode cX6_sizeGroups 7 = .ok (.iload 4, 2) := by decide +kernel
theorem dX6_sizeGroups_9 : decode cX6_sizeGroups 9 = .ok (.bipush 9, 2) := by decide +kernel
theorem dX6_sizeGroups_11 : decode cX6_sizeGroups 11 = .ok (.if_icmp .gt 52, 3) := by decide +kernel
theorem dX6_sizeGroups_14 : decode cX6_sizeGroups 14 = .ok (.iload_n 0, 1) := by decide +kernel
theorem dX6_sizeGroups_15 : decode cX6_sizeGroups 15 = .ok (.iconst 1, 1) := by decide +kernel
theorem dX6_sizeGroups_16 : decode cX6_sizeGroups 16 = .ok (.iload 4, 2) := by decide +kernel
theorem dX6_sizeGroups_18 : decode cX6_sizeGroups 18 = .ok (.iconst 1, 1) := by decide +kernel
theorem dX6_sizeGroups_19 : decode cX6_sizeGroups 19 = .ok (.isub, 1) := by decide +kernel
theorem dX6_sizeGroups_20 : decode cX6_sizeGroups 20 = .ok (.ishl, 1) := by decide +kernel
theorem dX6_sizeGroups_21 : decode cX6_sizeGroups 21 = .ok (.iand, 1) := by decide +kernel
theorem dX6_sizeGroups_22 : decode cX6_sizeGroups 22 = .ok (.ifCond .ne 6, 3) := by decide +kernel
theorem dX6_sizeGroups_25 : decode cX6_sizeGroups 25 = .ok (.goto 32, 3) := by decide +kernel
theorem dX6_sizeGroups_28 : decode cX6_sizeGroups 28 = .ok (.iload_n 2, 1) := by decide +kernel
theorem dX6_sizeGroups_29 : decode cX6_sizeGroups 29 = .ok (.ifCond .eq 22, 3) := by decide +kernel
theorem dX6_sizeGroups_32 : decode cX6_sizeGroups 32 = .ok (.bipush 16, 2) := by decide +kernel
theorem dX6_sizeGroups_34 : decode cX6_sizeGroups 34 = .ok (.iload 4, 2) := by decide +kernel
theorem dX6_sizeGroups_36 : decode cX6_sizeGroups 36 = .ok (.imul, 1) := by decide +kernel
theorem dX6_sizeGroups_37 : decode cX6_sizeGroups 37 = .ok (.iload 4, 2) := by decide +kernel
theorem dX6_sizeGroups_39 : decode cX6_sizeGroups 39 = .ok (.imul, 1) := by decide +kernel
theorem dX6_sizeGroups_40 : decode cX6_sizeGroups 40 = .ok (.bipush 16, 2) := by decide +kernel
theorem dX6_sizeGroups_42 : decode cX6_sizeGroups 42 = .ok (.iload_n 1, 1) := by decide +kernel
theorem dX6_sizeGroups_43 : decode cX6_sizeGroups 43 = .ok (.iadd, 1) := by decide +kernel
theorem dX6_sizeGroups_44 : decode cX6_sizeGroups 44 = .ok (.iload_n 3, 1) := by decide +kernel
theorem dX6_sizeGroups_45 : decode cX6_sizeGroups 45 = .ok (.imul, 1) := by decide +kernel
theorem dX6_sizeGroups_46 : decode cX6_sizeGroups 46 = .ok (.iload_n 3, 1) := by decide +kernel
theorem dX6_sizeGroups_47 : decode cX6_sizeGroups 47 = .ok (.imul, 1) := by decide +kernel
theorem dX6_sizeGroups_48 : decode cX6_sizeGroups 48 = .ok (.if_icmp .le 9, 3) := by decide +kernel
theorem dX6_sizeGroups_51 : decode cX6_sizeGroups 51 = .ok (.iinc 2 1, 3) := by decide +kernel
theorem dX6_sizeGroups_54 : decode cX6_sizeGroups 54 = .ok (.iload 4, 2) := by decide +kernel
theorem dX6_sizeGroups_56 : decode cX6_sizeGroups 56 = .ok (.istore_n 3, 1) := by decide +kernel
theorem dX6_sizeGroups_57 : decode cX6_sizeGroups 57 = .ok (.iinc 4 1, 3) := by decide +kernel
theorem dX6_sizeGroups_60 : decode cX6_sizeGroups 60 = .ok (.goto (-53), 3) := by decide +kernel
theorem dX6_sizeGroups_63 : decode cX6_sizeGroups 63 = .ok (.iload_n 2, 1) := by decide +kernel
theorem dX6_sizeGroups_64 : decode cX6_sizeGroups 64 = .ok (.ireturn, 1) := by decide +kernel
theorem dX7_init_0 : decode cX7_init 0 = .ok (.aload_n 0, 1) := by decide +kernel
theorem dX7_init_1 : decode cX7_init 1 = .ok (.invokespecial 3, 3) := by decide +kernel
theorem dX7_init_4 : decode cX7_init 4 = .ok (.aload_n 0, 1) := by decide +kernel
theorem dX7_init_5 : decode cX7_init 5 = .ok (.bipush 10, 2) := by decide +kernel
theorem dX7_init_7 : decode cX7_init 7 = .ok (.newarray .long, 2) := by decide +kernel
theorem dX7_init_9 : decode cX7_init 9 = .ok (.putfield 9, 3) := by decide +kernel
theorem dX7_init_12 : decode cX7_init 12 = .ok (.aload_n 0, 1) := by decide +kernel
theorem dX7_init_13 : decode cX7_init 13 = .ok (.bipush 10, 2) := by decide +kernel
theorem dX7_init_15 : decode cX7_init 15 = .ok (.newarray .long, 2) := by decide +kernel
theorem dX7_init_17 : decode cX7_init 17 = .ok (.putfield 15, 3) := by decide +kernel
theorem dX7_init_20 : decode cX7_init 20 = .ok (.aload_n 0, 1) := by decide +kernel
theorem dX7_init_21 : decode cX7_init 21 = .ok (.bipush 48, 2) := by decide +kernel
theorem dX7_init_23 : decode cX7_init 23 = .ok (.newarray .int, 2) := by decide +kernel
theorem dX7_init_25 : decode cX7_init 25 = .ok (.putfield 18, 3) := by decide +kernel
theorem dX7_init_28 : decode cX7_init 28 = .ok (.aload_n 0, 1) := by decide +kernel
theorem dX7_init_29 : decode cX7_init 29 = .ok (.bipush 6, 2) := by decide +kernel
theorem dX7_init_31 : decode cX7_init 31 = .ok (.newarray .int, 2) := by decide +kernel
theorem dX7_init_33 : decode cX7_init 33 = .ok (.putfield 22, 3) := by decide +kernel
theorem dX7_init_36 : decode cX7_init 36 = .ok (.aload_n 0, 1) := by decide +kernel
theorem dX7_init_37 : decode cX7_init 37 = .ok (.bipush 10, 2) := by decide +kernel
theorem dX7_init_39 : decode cX7_init 39 = .ok (.newarray .int, 2) := by decide +kernel
theorem dX7_init_41 : decode cX7_init 41 = .ok (.putfield 25, 3) := by decide +kernel
theorem dX7_init_44 : decode cX7_init 44 = .ok (.aload_n 0, 1) := by decide +kernel
theorem dX7_init_45 : decode cX7_init 45 = .ok (.bipush 16, 2) := by decide +kernel
theorem dX7_init_47 : decode cX7_init 47 = .ok (.newarray .long, 2) := by decide +kernel
theorem dX7_init_49 : decode cX7_init 49 = .ok (.putfield 28, 3) := by decide +kernel
theorem dX7_init_52 : decode cX7_init 52 = .ok (.aload_n 0, 1) := by decide +kernel
theorem dX7_init_53 : decode cX7_init 53 = .ok (.bipush 16, 2) := by decide +kernel
theorem dX7_init_55 : decode cX7_init 55 = .ok (.newarray .int, 2) := by decide +kernel
theorem dX7_init_57 : decode cX7_init 57 = .ok (.putfield 31, 3) := by decide +kernel
theorem dX7_init_60 : decode cX7_init 60 = .ok (.return_, 1) := by decide +kernel
theorem dX7_wipe_0 : decode cX7_wipe 0 = .ok (.aload_n 0, 1) := by decide +kernel
theorem dX7_wipe_1 : decode cX7_wipe 1 = .ok (.iconst 0, 1) := by decide +kernel
theorem dX7_wipe_2 : decode cX7_wipe 2 = .ok (.putfield 34, 3) := by decide +kernel
theorem dX7_wipe_5 : decode cX7_wipe 5 = .ok (.aload_n 0, 1) := by decide +kernel
theorem dX7_wipe_6 : decode cX7_wipe 6 = .ok (.iconst 0, 1) := by decide +kernel
theorem dX7_wipe_7 : decode cX7_wipe 7 = .ok (.putfield 38, 3) := by decide +kernel
theorem dX7_wipe_10 : decode cX7_wipe 10 = .ok (.aload_n 0, 1) := by decide +kernel
theorem dX7_wipe_11 : decode cX7_wipe 11 = .ok (.iconst 0, 1) := by decide +kernel
theorem dX7_wipe_12 : decode cX7_wipe 12 = .ok (.putfield 41, 3) := by decide +kernel
theorem dX7_wipe_15 : decode cX7_wipe 15 = .ok (.aload_n 0, 1) := by decide +kernel
theorem dX7_wipe_16 : decode cX7_wipe 16 = .ok (.getfield 9, 3) := by decide +kernel
theorem dX7_wipe_19 : decode cX7_wipe 19 = .ok (.lconst 0, 1) := by decide +kernel
theorem dX7_wipe_20 : decode cX7_wipe 20 = .ok (.invokestatic 44, 3) := by decide +kernel
theorem dX7_wipe_23 : decode cX7_wipe 23 = .ok (.aload_n 0, 1) := by decide +kernel
theorem dX7_wipe_24 : decode cX7_wipe 24 = .ok (.getfield 15, 3) := by decide +kernel
theorem dX7_wipe_27 : decode cX7_wipe 27 = .ok (.ldc2_w 50, 3) := by decide +kernel
theorem dX7_wipe_30 : decode cX7_wipe 30 = .ok (.invokestatic 44, 3) := by decide +kernel
theorem dX7_wipe_33 : decode cX7_wipe 33 = .ok (.aload_n 0, 1) := by decide +kernel
theorem dX7_wipe_34 : decode cX7_wipe 34 = .ok (.getfield 22, 3) := by decide +kernel
theorem dX7_wipe_37 : decode cX7_wipe 37 = .ok (.iconst 0, 1) := by decide +kernel
theorem dX7_wipe_38 : decode cX7_wipe 38 = .ok (.invokestatic 52, 3) := by decide +kernel
theorem dX7_wipe_41 : decode cX7_wipe 41 = .ok (.aload_n 0, 1) := by decide +kernel
theorem dX7_wipe_42 : decode cX7_wipe 42 = .ok (.getfield 25, 3) := by decide +kernel
theorem dX7_wipe_45 : decode cX7_wipe 45 = .ok (.iconst 4, 1) := by decide +kernel
theorem dX7_wipe_46 : decode cX7_wipe 46 = .ok (.invokestatic 52, 3) := by decide +kernel
theorem dX7_wipe_49 : decode cX7_wipe 49 = .ok (.return_, 1) := by decide +kernel
theorem dX7_copyOf_0 : decode cX7_copyOf 0 = .ok (.aload_n 0, 1) := by decide +kernel
theorem dX7_copyOf_1 : decode cX7_copyOf 1 = .ok (.invokevirtual 55, 3) := by decide +kernel
theorem dX7_copyOf_4 : decode cX7_copyOf 4 = .ok (.aload_n 0, 1) := by decide +kernel
theorem dX7_copyOf_5 : decode cX7_copyOf 5 = .ok (.aload_n 1, 1) := by decide +kernel
theorem dX7_copyOf_6 : decode cX7_copyOf 6 = .ok (.getfield 34, 3) := by decide +kernel
theorem dX7_copyOf_9 : decode cX7_copyOf 9 = .ok (.putfield 34, 3) := by decide +kernel
theorem dX7_copyOf_12 : decode cX7_copyOf 12 = .ok (.aload_n 0, 1) := by decide +kernel
theorem dX7_copyOf_13 : decode cX7_copyOf 13 = .ok (.aload_n 1, 1) := by decide +kernel
theorem dX7_copyOf_14 : decode cX7_copyOf 14 = .ok (.getfield 38, 3) := by decide +kernel
theorem dX7_copyOf_17 : decode cX7_copyOf 17 = .ok (.putfield 38, 3) := by decide +kernel
theorem dX7_copyOf_20 : decode cX7_copyOf 20 = .ok (.aload_n 1, 1) := by decide +kernel
theorem dX7_copyOf_21 : decode cX7_copyOf 21 = .ok (.getfield 9, 3) := by decide +kernel
theorem dX7_copyOf_24 : decode cX7_copyOf 24 = .ok (.iconst 0, 1) := by decide +kernel
theorem dX7_copyOf_25 : decode cX7_copyOf 25 = .ok (.aload_n 0, 1) := by decide +kernel
theorem dX7_copyOf_26 : decode cX7_copyOf 26 = .ok (.getfield 9, 3) := by decide +kernel
theorem dX7_copyOf_29 : decode cX7_copyOf 29 = .ok (.iconst 0, 1) := by decide +kernel
theorem dX7_copyOf_30 : decode cX7_copyOf 30 = .ok (.bipush 10, 2) := by decide +kernel
theorem dX7_copyOf_32 : decode cX7_copyOf 32 = .ok (.invokestatic 58, 3) := by decide +kernel
theorem dX7_copyOf_35 : decode cX7_copyOf 35 = .ok (.aload_n 1, 1) := by decide +kernel
theorem dX7_copyOf_36 : decode cX7_copyOf 36 = .ok (.getfield 18, 3) := by decide +kernel
theorem dX7_copyOf_39 : decode cX7_copyOf 39 = .ok (.iconst 0, 1) := by decide +kernel
theorem dX7_copyOf_40 : decode cX7_copyOf 40 = .ok (.aload_n 0, 1) := by decide +kernel
theorem dX7_copyOf_41 : decode cX7_copyOf 41 = .ok (.getfield 18, 3) := by decide +kernel
theorem dX7_copyOf_44 : decode cX7_copyOf 44 = .ok (.iconst 0, 1) := by decide +kernel
theorem dX7_copyOf_45 : decode cX7_copyOf 45 = .ok (.bipush 48, 2) := by decide +kernel
theorem dX7_copyOf_47 : decode cX7_copyOf 47 = .ok (.invokestatic 58, 3) := by decide +kernel
theorem dX7_copyOf_50 : decode cX7_copyOf 50 = .ok (.aload_n 1, 1) := by decide +kernel
theorem dX7_copyOf_51 : decode cX7_copyOf 51 = .ok (.getfield 22, 3) := by decide +kernel
theorem dX7_copyOf_54 : decode cX7_copyOf 54 = .ok (.iconst 0, 1) := by decide +kernel
theorem dX7_copyOf_55 : decode cX7_copyOf 55 = .ok (.aload_n 0, 1) := by decide +kernel
theorem dX7_copyOf_56 : decode cX7_copyOf 56 = .ok (.getfield 22, 3) := by decide +kernel
theorem dX7_copyOf_59 : decode cX7_copyOf 59 = .ok (.iconst 0, 1) := by decide +kernel
theorem dX7_copyOf_60 : decode cX7_copyOf 60 = .ok (.bipush 6, 2) := by decide +kernel
theorem dX7_copyOf_62 : decode cX7_copyOf 62 = .ok (.invokestatic 58, 3) := by decide +kernel
theorem dX7_copyOf_65 : decode cX7_copyOf 65 = .ok (.aload_n 1, 1) := by decide +kernel
theorem dX7_copyOf_66 : decode cX7_copyOf 66 = .ok (.getfield 25, 3) := by decide +kernel
theorem dX7_copyOf_69 : decode cX7_copyOf 69 = .ok (.iconst 0, 1) := by decide +kernel
theorem dX7_copyOf_70 : decode cX7_copyOf 70 = .ok (.aload_n 0, 1) := by decide +kernel
theorem dX7_copyOf_71 : decode cX7_copyOf 71 = .ok (.getfield 25, 3) := by decide +kernel
theorem dX7_copyOf_74 : decode cX7_copyOf 74 = .ok (.iconst 0, 1) := by decide +kernel
theorem dX7_copyOf_75 : decode cX7_copyOf 75 = .ok (.bipush 10, 2) := by decide +kernel
theorem dX7_copyOf_77 : decode cX7_copyOf 77 = .ok (.invokestatic 58, 3) := by decide +kernel
theorem dX7_copyOf_80 : decode cX7_copyOf 80 = .ok (.return_, 1) := by decide +kernel
theorem dX7_addLetter_0 : decode cX7_addLetter 0 = .ok (.aload_n 0, 1) := by decide +kernel
theorem dX7_addLetter_1 : decode cX7_addLetter 1 = .ok (.getfield 34, 3) := by decide +kernel
theorem dX7_addLetter_4 : decode cX7_addLetter 4 = .ok (.bipush 10, 2) := by decide +kernel
theorem dX7_addLetter_6 : decode cX7_addLetter 6 = .ok (.if_icmp .ge 23, 3) := by decide +kernel
theorem dX7_addLetter_9 : decode cX7_addLetter 9 = .ok (.aload_n 0, 1) := by decide +kernel
theorem dX7_addLetter_10 : decode cX7_addLetter 10 = .ok (.getfield 9, 3) := by decide +kernel
theorem dX7_addLetter_13 : decode cX7_addLetter 13 = .ok (.aload_n 0, 1) := by decide +kernel
theorem dX7_addLetter_14 : decode cX7_addLetter 14 = .ok (.getfield 34, 3) := by decide +kernel
theorem dX7_addLetter_17 : decode cX7_addLetter 17 = .ok (.lload_n 1, 1) := by decide +kernel
theorem dX7_addLetter_18 : decode cX7_addLetter 18 = .ok (.lastore, 1) := by decide +kernel
theorem dX7_addLetter_19 : decode cX7_addLetter 19 = .ok (.aload_n 0, 1) := by decide +kernel
theorem dX7_addLetter_20 : decode cX7_addLetter 20 = .ok (.dup, 1) := by decide +kernel
theorem dX7_addLetter_21 : decode cX7_addLetter 21 = .ok (.getfield 34, 3) := by decide +kernel
theorem dX7_addLetter_24 : decode cX7_addLetter 24 = .ok (.iconst 1, 1) := by decide +kernel
theorem dX7_addLetter_25 : decode cX7_addLetter 25 = .ok (.iadd, 1) := by decide +kernel
theorem dX7_addLetter_26 : decode cX7_addLetter 26 = .ok (.putfield 34, 3) := by decide +kernel
theorem dX7_addLetter_29 : decode cX7_addLetter 29 = .ok (.return_, 1) := by decide +kernel
theorem dX7_setLatestInk_0 : decode cX7_setLatestInk 0 = .ok (.aload_n 0, 1) := by decide +kernel
theorem dX7_setLatestInk_1 : decode cX7_setLatestInk 1 = .ok (.getfield 34, 3) := by decide +kernel
theorem dX7_setLatestInk_4 : decode cX7_setLatestInk 4 = .ok (.ifCond .le 24, 3) := by decide +kernel
theorem dX7_setLatestInk_7 : decode cX7_setLatestInk 7 = .ok (.aload_n 0, 1) := by decide +kernel
theorem dX7_setLatestInk_8 : decode cX7_setLatestInk 8 = .ok (.getfield 34, 3) := by decide +kernel
theorem dX7_setLatestInk_11 : decode cX7_setLatestInk 11 = .ok (.bipush 10, 2) := by decide +kernel
theorem dX7_setLatestInk_13 : decode cX7_setLatestInk 13 = .ok (.if_icmp .gt 15, 3) := by decide +kernel
theorem dX7_setLatestInk_16 : decode cX7_setLatestInk 16 = .ok (.aload_n 0, 1) := by decide +kernel
theorem dX7_setLatestInk_17 : decode cX7_setLatestInk 17 = .ok (.getfield 9, 3) := by decide +kernel
theorem dX7_setLatestInk_20 : decode cX7_setLatestInk 20 = .ok (.aload_n 0, 1) := by decide +kernel
theorem dX7_setLatestInk_21 : decode cX7_setLatestInk 21 = .ok (.getfield 34, 3) := by decide +kernel
theorem dX7_setLatestInk_24 : decode cX7_setLatestInk 24 = .ok (.iconst 1, 1) := by decide +kernel
theorem dX7_setLatestInk_25 : decode cX7_setLatestInk 25 = .ok (.isub, 1) := by decide +kernel
theorem dX7_setLatestInk_26 : decode cX7_setLatestInk 26 = .ok (.lload_n 1, 1) := by decide +kernel
theorem dX7_setLatestInk_27 : decode cX7_setLatestInk 27 = .ok (.lastore, 1) := by decide +kernel
theorem dX7_setLatestInk_28 : decode cX7_setLatestInk 28 = .ok (.return_, 1) := by decide +kernel
theorem dX7_inkOf_0 : decode cX7_inkOf 0 = .ok (.iload_n 1, 1) := by decide +kernel
theorem dX7_inkOf_1 : decode cX7_inkOf 1 = .ok (.ifCond .lt 20, 3) := by decide +kernel
theorem dX7_inkOf_4 : decode cX7_inkOf 4 = .ok (.iload_n 1, 1) := by decide +kernel
theorem dX7_inkOf_5 : decode cX7_inkOf 5 = .ok (.aload_n 0, 1) := by decide +kernel
theorem dX7_inkOf_6 : decode cX7_inkOf 6 = .ok (.getfield 34, 3) := by decide +kernel
theorem dX7_inkOf_9 : decode cX7_inkOf 9 = .ok (.if_icmp .ge 12, 3) := by decide +kernel
theorem dX7_inkOf_12 : decode cX7_inkOf 12 = .ok (.aload_n 0, 1) := by decide +kernel
theorem dX7_inkOf_13 : decode cX7_inkOf 13 = .ok (.getfield 9, 3) := by decide +kernel
theorem dX7_inkOf_16 : decode cX7_inkOf 16 = .ok (.iload_n 1, 1) := by decide +kernel
theorem dX7_inkOf_17 : decode cX7_inkOf 17 = .ok (.laload, 1) := by decide +kernel
theorem dX7_inkOf_18 : decode cX7_inkOf 18 = .ok (.goto 4, 3) := by decide +kernel
theorem dX7_inkOf_21 : decode cX7_inkOf 21 = .ok (.lconst 0, 1) := by decide +kernel
theorem dX7_inkOf_22 : decode cX7_inkOf 22 = .ok (.lreturn, 1) := by decide +kernel
theorem dX7_latestInk_0 : decode cX7_latestInk 0 = .ok (.aload_n 0, 1) := by decide +kernel
theorem dX7_latestInk_1 : decode cX7_latestInk 1 = .ok (.aload_n 0, 1) := by decide +kernel
theorem dX7_latestInk_2 : decode cX7_latestInk 2 = .ok (.getfield 34, 3) := by decide +kernel
theorem dX7_latestInk_5 : decode cX7_latestInk 5 = .ok (.iconst 1, 1) := by decide +kernel
theorem dX7_latestInk_6 : decode cX7_latestInk 6 = .ok (.isub, 1) := by decide +kernel
theorem dX7_latestInk_7 : decode cX7_latestInk 7 = .ok (.invokevirtual 64, 3) := by decide +kernel
theorem dX7_latestInk_10 : decode cX7_latestInk 10 = .ok (.lreturn, 1) := by decide +kernel
theorem dX7_wordLetter_0 : decode cX7_wordLetter 0 = .ok (.iload_n 1, 1) := by decide +kernel
theorem dX7_wordLetter_1 : decode cX7_wordLetter 1 = .ok (.ifCond .lt 21, 3) := by decide +kernel
theorem dX7_wordLetter_4 : decode cX7_wordLetter 4 = .ok (.iload_n 1, 1) := by decide +kernel
theorem dX7_wordLetter_5 : decode cX7_wordLetter 5 = .ok (.aload_n 0, 1) := by decide +kernel
theorem dX7_wordLetter_6 : decode cX7_wordLetter 6 = .ok (.getfield 38, 3) := by decide +kernel
theorem dX7_wordLetter_9 : decode cX7_wordLetter 9 = .ok (.if_icmp .ge 13, 3) := by decide +kernel
theorem dX7_wordLetter_12 : decode cX7_wordLetter 12 = .ok (.iload_n 2, 1) := by decide +kernel
theorem dX7_wordLetter_13 : decode cX7_wordLetter 13 = .ok (.ifCond .lt 9, 3) := by decide +kernel
theorem dX7_wordLetter_16 : decode cX7_wordLetter 16 = .ok (.iload_n 2, 1) := by decide +kernel
theorem dX7_wordLetter_17 : decode cX7_wordLetter 17 = .ok (.bipush 8, 2) := by decide +kernel
theorem dX7_wordLetter_19 : decode cX7_wordLetter 19 = .ok (.if_icmp .lt 5, 3) := by decide +kernel
theorem dX7_wordLetter_22 : decode cX7_wordLetter 22 = .ok (.iconst 0, 1) := by decide +kernel
theorem dX7_wordLetter_23 : decode cX7_wordLetter 23 = .ok (.ireturn, 1) := by decide +kernel
theorem dX7_wordLetter_24 : decode cX7_wordLetter 24 = .ok (.aload_n 0, 1) := by decide +kernel
theorem dX7_wordLetter_25 : decode cX7_wordLetter 25 = .ok (.getfield 18, 3) := by decide +kernel
theorem dX7_wordLetter_28 : decode cX7_wordLetter 28 = .ok (.bipush 8, 2) := by decide +kernel
theorem dX7_wordLetter_30 : decode cX7_wordLetter 30 = .ok (.iload_n 1, 1) := by decide +kernel
theorem dX7_wordLetter_31 : decode cX7_wordLetter 31 = .ok (.imul, 1) := by decide +kernel
theorem dX7_wordLetter_32 : decode cX7_wordLetter 32 = .ok (.iload_n 2, 1) := by decide +kernel
theorem dX7_wordLetter_33 : decode cX7_wordLetter 33 = .ok (.iadd, 1) := by decide +kernel
theorem dX7_wordLetter_34 : decode cX7_wordLetter 34 = .ok (.iaload, 1) := by decide +kernel
theorem dX7_wordLetter_35 : decode cX7_wordLetter 35 = .ok (.ireturn, 1) := by decide +kernel
theorem dX7_findHollows_0 : decode cX7_findHollows 0 = .ok (.aload_n 0, 1) := by decide +kernel
theorem dX7_findHollows_1 : decode cX7_findHollows 1 = .ok (.iconst 0, 1) := by decide +kernel
theorem dX7_findHollows_2 : decode cX7_findHollows 2 = .ok (.putfield 41, 3) := by decide +kernel
theorem dX7_findHollows_5 : decode cX7_findHollows 5 = .ok (.iconst 0, 1) := by decide +kernel
theorem dX7_findHollows_6 : decode cX7_findHollows 6 = .ok (.istore_n 1, 1) := by decide +kernel
theorem dX7_findHollows_7 : decode cX7_findHollows 7 = .ok (.iload_n 1, 1) := by decide +kernel
theorem dX7_findHollows_8 : decode cX7_findHollows 8 = .ok (.aload_n 0, 1) := by decide +kernel
theorem dX7_findHollows_9 : decode cX7_findHollows 9 = .ok (.getfield 34, 3) := by decide +kernel
theorem dX7_findHollows_12 : decode cX7_findHollows 12 = .ok (.if_icmp .ge 100, 3) := by decide +kernel
theorem dX7_findHollows_15 : decode cX7_findHollows 15 = .ok (.aload_n 0, 1) := by decide +kernel
theorem dX7_findHollows_16 : decode cX7_findHollows 16 = .ok (.getfield 9, 3) := by decide +kernel
theorem dX7_findHollows_19 : decode cX7_findHollows 19 = .ok (.iload_n 1, 1) := by decide +kernel
theorem dX7_findHollows_20 : decode cX7_findHollows 20 = .ok (.laload, 1) := by decide +kernel
theorem dX7_findHollows_21 : decode cX7_findHollows 21 = .ok (.invokestatic 68, 3) := by decide +kernel
theorem dX7_findHollows_24 : decode cX7_findHollows 24 = .ok (.lstore_n 2, 1) := by decide +kernel
theorem dX7_findHollows_25 : decode cX7_findHollows 25 = .ok (.iconst 0, 1) := by decide +kernel
theorem dX7_findHollows_26 : decode cX7_findHollows 26 = .ok (.istore 4, 2) := by decide +kernel
theorem dX7_findHollows_28 : decode cX7_findHollows 28 = .ok (.iload 4, 2) := by decide +kernel
theorem dX7_findHollows_30 : decode cX7_findHollows 30 = .ok (.bipush 64, 2) := by decide +kernel
theorem dX7_findHollows_32 : decode cX7_findHollows 32 = .ok (.if_icmp .ge 74, 3) := by decide +kernel
theorem dX7_findHollows_35 : decode cX7_findHollows 35 = .ok (.lload_n 2, 1) := by decide +kernel
theorem dX7_findHollows_36 : decode cX7_findHollows 36 = .ok (.lconst 0, 1) := by decide +kernel
theorem dX7_findHollows_37 : decode cX7_findHollows 37 = .ok (.lcmp, 1) := by decide +kernel
theorem dX7_findHollows_38 : decode cX7_findHollows 38 = .ok (.ifCond .eq 68, 3) := by decide +kernel
theorem dX7_findHollows_41 : decode cX7_findHollows 41 = .ok (.aload_n 0, 1) := by decide +kernel
theorem dX7_findHollows_42 : decode cX7_findHollows 42 = .ok (.getfield 41, 3) := by decide +kernel
theorem dX7_findHollows_45 : decode cX7_findHollows 45 = .ok (.bipush 16, 2) := by decide +kernel
theorem dX7_findHollows_47 : decode cX7_findHollows 47 = .ok (.if_icmp .ge 59, 3) := by decide +kernel
theorem dX7_findHollows_50 : decode cX7_findHollows 50 = .ok (.lload_n 2, 1) := by decide +kernel
theorem dX7_findHollows_51 : decode cX7_findHollows 51 = .ok (.lload_n 2, 1) := by decide +kernel
theorem dX7_findHollows_52 : decode cX7_findHollows 52 = .ok (.lneg, 1) := by decide +kernel
theorem dX7_findHollows_53 : decode cX7_findHollows 53 = .ok (.land, 1) := by decide +kernel
theorem dX7_findHollows_54 : decode cX7_findHollows 54 = .ok (.lload_n 2, 1) := by decide +kernel
theorem dX7_findHollows_55 : decode cX7_findHollows 55 = .ok (.invokestatic 74, 3) := by decide +kernel
theorem dX7_findHollows_58 : decode cX7_findHollows 58 = .ok (.lstore 5, 2) := by decide +kernel
theorem dX7_findHollows_60 : decode cX7_findHollows 60 = .ok (.aload_n 0, 1) := by decide +kernel
theorem dX7_findHollows_61 : decode cX7_findHollows 61 = .ok (.getfield 28, 3) := by decide +kernel
theorem dX7_findHollows_64 : decode cX7_findHollows 64 = .ok (.aload_n 0, 1) := by decide +kernel
theorem dX7_findHollows_65 : decode cX7_findHollows 65 = .ok (.getfield 41, 3) := by decide +kernel
theorem dX7_findHollows_68 : decode cX7_findHollows 68 = .ok (.lload 5, 2) := by decide +kernel
theorem dX7_findHollows_70 : decode cX7_findHollows 70 = .ok (.lastore, 1) := by decide +kernel
theorem dX7_findHollows_71 : decode cX7_findHollows 71 = .ok (.aload_n 0, 1) := by decide +kernel
theorem dX7_findHollows_72 : decode cX7_findHollows 72 = .ok (.getfield 31, 3) := by decide +kernel
theorem dX7_findHollows_75 : decode cX7_findHollows 75 = .ok (.aload_n 0, 1) := by decide +kernel
theorem dX7_findHollows_76 : decode cX7_findHollows 76 = .ok (.getfield 41, 3) := by decide +kernel
theorem dX7_findHollows_79 : decode cX7_findHollows 79 = .ok (.iload_n 1, 1) := by decide +kernel
theorem dX7_findHollows_80 : decode cX7_findHollows 80 = .ok (.iastore, 1) := by decide +kernel
theorem dX7_findHollows_81 : decode cX7_findHollows 81 = .ok (.aload_n 0, 1) := by decide +kernel
theorem dX7_findHollows_82 : decode cX7_findHollows 82 = .ok (.dup, 1) := by decide +kernel
theorem dX7_findHollows_83 : decode cX7_findHollows 83 = .ok (.getfield 41, 3) := by decide +kernel
theorem dX7_findHollows_86 : decode cX7_findHollows 86 = .ok (.iconst 1, 1) := by decide +kernel
theorem dX7_findHollows_87 : decode cX7_findHollows 87 = .ok (.iadd, 1) := by decide +kernel
theorem dX7_findHollows_88 : decode cX7_findHollows 88 = .ok (.putfield 41, 3) := by decide +kernel
theorem dX7_findHollows_91 : decode cX7_findHollows 91 = .ok (.lload_n 2, 1) := by decide +kernel
theorem dX7_findHollows_92 : decode cX7_findHollows 92 = .ok (.lload 5, 2) := by decide +kernel
theorem dX7_findHollows_94 : decode cX7_findHollows 94 = .ok (.ldc2_w 50, 3) := by decide +kernel
theorem dX7_findHollows_97 : decode cX7_findHollows 97 = .ok (.lxor, 1) := by decide +kernel
theorem dX7_findHollows_98 : decode cX7_findHollows 98 = .ok (.land, 1) := by decide +kernel
theorem dX7_findHollows_99 : decode cX7_findHollows 99 = .ok (.lstore_n 2, 1) := by decide +kernel
theorem dX7_findHollows_100 : decode cX7_findHollows 100 = .ok (.iinc 4 1, 3) := by decide +kernel
theorem dX7_findHollows_103 : decode cX7_findHollows 103 = .ok (.goto (-75), 3) := by decide +kernel
theorem dX7_findHollows_106 : decode cX7_findHollows 106 = .ok (.iinc 1 1, 3) := by decide +kernel
theorem dX7_findHollows_109 : decode cX7_findHollows 109 = .ok (.goto (-102), 3) := by decide +kernel
theorem dX7_findHollows_112 : decode cX7_findHollows 112 = .ok (.return_, 1) := by decide +kernel
theorem dX7_grown_0 : decode cX7_grown 0 = .ok (.lload_n 0, 1) := by decide +kernel
theorem dX7_grown_1 : decode cX7_grown 1 = .ok (.lstore 4, 2) := by decide +kernel
theorem dX7_grown_3 : decode cX7_grown 3 = .ok (.iconst 0, 1) := by decide +kernel
theorem dX7_grown_4 : decode cX7_grown 4 = .ok (.istore 6, 2) := by decide +kernel
theorem dX7_grown_6 : decode cX7_grown 6 = .ok (.iload 6, 2) := by decide +kernel
theorem dX7_grown_8 : decode cX7_grown 8 = .ok (.bipush 64, 2) := by decide +kernel
theorem dX7_grown_10 : decode cX7_grown 10 = .ok (.if_icmp .ge 36, 3) := by decide +kernel
theorem dX7_grown_13 : decode cX7_grown 13 = .ok (.lload 4, 2) := by decide +kernel
theorem dX7_grown_15 : decode cX7_grown 15 = .ok (.lload 4, 2) := by decide +kernel
theorem dX7_grown_17 : decode cX7_grown 17 = .ok (.invokestatic 78, 3) := by decide +kernel
theorem dX7_grown_20 : decode cX7_grown 20 = .ok (.lload_n 2, 1) := by decide +kernel
theorem dX7_grown_21 : decode cX7_grown 21 = .ok (.land, 1) := by decide +kernel
theorem dX7_grown_22 : decode cX7_grown 22 = .ok (.lor, 1) := by decide +kernel
theorem dX7_grown_23 : decode cX7_grown 23 = .ok (.lstore 7, 2) := by decide +kernel
theorem dX7_grown_25 : decode cX7_grown 25 = .ok (.lload 7, 2) := by decide +kernel
theorem dX7_grown_27 : decode cX7_grown 27 = .ok (.lload 4, 2) := by decide +kernel
theorem dX7_grown_29 : decode cX7_grown 29 = .ok (.lcmp, 1) := by decide +kernel
theorem dX7_grown_30 : decode cX7_grown 30 = .ok (.ifCond .ne 6, 3) := by decide +kernel
theorem dX7_grown_33 : decode cX7_grown 33 = .ok (.goto 13, 3) := by decide +kernel
theorem dX7_grown_36 : decode cX7_grown 36 = .ok (.lload 7, 2) := by decide +kernel
theorem dX7_grown_38 : decode cX7_grown 38 = .ok (.lstore 4, 2) := by decide +kernel
theorem dX7_grown_40 : decode cX7_grown 40 = .ok (.iinc 6 1, 3) := by decide +kernel
theorem dX7_grown_43 : decode cX7_grown 43 = .ok (.goto (-37), 3) := by decide +kernel
theorem dX7_grown_46 : decode cX7_grown 46 = .ok (.lload 4, 2) := by decide +kernel
theorem dX7_grown_48 : decode cX7_grown 48 = .ok (.lreturn, 1) := by decide +kernel
theorem dX7_firstHollowOf_0 : decode cX7_firstHollowOf 0 = .ok (.iconst 0, 1) := by decide +kernel
theorem dX7_firstHollowOf_1 : decode cX7_firstHollowOf 1 = .ok (.istore_n 2, 1) := by decide +kernel
theorem dX7_firstHollowOf_2 : decode cX7_firstHollowOf 2 = .ok (.iload_n 2, 1) := by decide +kernel
theorem dX7_firstHollowOf_3 : decode cX7_firstHollowOf 3 = .ok (.aload_n 0, 1) := by decide +kernel
theorem dX7_firstHollowOf_4 : decode cX7_firstHollowOf 4 = .ok (.getfield 41, 3) := by decide +kernel
theorem dX7_firstHollowOf_7 : decode cX7_firstHollowOf 7 = .ok (.if_icmp .ge 21, 3) := by decide +kernel
theorem dX7_firstHollowOf_10 : decode cX7_firstHollowOf 10 = .ok (.aload_n 0, 1) := by decide +kernel
theorem dX7_firstHollowOf_11 : decode cX7_firstHollowOf 11 = .ok (.getfield 31, 3) := by decide +kernel
theorem dX7_firstHollowOf_14 : decode cX7_firstHollowOf 14 = .ok (.iload_n 2, 1) := by decide +kernel
theorem dX7_firstHollowOf_15 : decode cX7_firstHollowOf 15 = .ok (.iaload, 1) := by decide +kernel
theorem dX7_firstHollowOf_16 : decode cX7_firstHollowOf 16 = .ok (.iload_n 1, 1) := by decide +kernel
theorem dX7_firstHollowOf_17 : decode cX7_firstHollowOf 17 = .ok (.if_icmp .ne 5, 3) := by decide +kernel
theorem dX7_firstHollowOf_20 : decode cX7_firstHollowOf 20 = .ok (.iload_n 2, 1) := by decide +kernel
theorem dX7_firstHollowOf_21 : decode cX7_firstHollowOf 21 = .ok (.ireturn, 1) := by decide +kernel
theorem dX7_firstHollowOf_22 : decode cX7_firstHollowOf 22 = .ok (.iinc 2 1, 3) := by decide +kernel
theorem dX7_firstHollowOf_25 : decode cX7_firstHollowOf 25 = .ok (.goto (-23), 3) := by decide +kernel
theorem dX7_firstHollowOf_28 : decode cX7_firstHollowOf 28 = .ok (.iconst (-1), 1) := by decide +kernel
theorem dX7_firstHollowOf_29 : decode cX7_firstHollowOf 29 = .ok (.ireturn, 1) := by decide +kernel
theorem dX7_hollowsOf_0 : decode cX7_hollowsOf 0 = .ok (.iconst 0, 1) := by decide +kernel
theorem dX7_hollowsOf_1 : decode cX7_hollowsOf 1 = .ok (.istore_n 2, 1) := by decide +kernel
theorem dX7_hollowsOf_2 : decode cX7_hollowsOf 2 = .ok (.iconst 0, 1) := by decide +kernel
theorem dX7_hollowsOf_3 : decode cX7_hollowsOf 3 = .ok (.istore_n 3, 1) := by decide +kernel
theorem dX7_hollowsOf_4 : decode cX7_hollowsOf 4 = .ok (.iload_n 3, 1) := by decide +kernel
theorem dX7_hollowsOf_5 : decode cX7_hollowsOf 5 = .ok (.aload_n 0, 1) := by decide +kernel
theorem dX7_hollowsOf_6 : decode cX7_hollowsOf 6 = .ok (.getfield 41, 3) := by decide +kernel
theorem dX7_hollowsOf_9 : decode cX7_hollowsOf 9 = .ok (.if_icmp .ge 22, 3) := by decide +kernel
theorem dX7_hollowsOf_12 : decode cX7_hollowsOf 12 = .ok (.aload_n 0, 1) := by decide +kernel
theorem dX7_hollowsOf_13 : decode cX7_hollowsOf 13 = .ok (.getfield 31, 3) := by decide +kernel
theorem dX7_hollowsOf_16 : decode cX7_hollowsOf 16 = .ok (.iload_n 3, 1) := by decide +kernel
theorem dX7_hollowsOf_17 : decode cX7_hollowsOf 17 = .ok (.iaload, 1) := by decide +kernel
theorem dX7_hollowsOf_18 : decode cX7_hollowsOf 18 = .ok (.iload_n 1, 1) := by decide +kernel
theorem dX7_hollowsOf_19 : decode cX7_hollowsOf 19 = .ok (.if_icmp .ne 6, 3) := by decide +kernel
theorem dX7_hollowsOf_22 : decode cX7_hollowsOf 22 = .ok (.iinc 2 1, 3) := by decide +kernel
theorem dX7_hollowsOf_25 : decode cX7_hollowsOf 25 = .ok (.iinc 3 1, 3) := by decide +kernel
theorem dX7_hollowsOf_28 : decode cX7_hollowsOf 28 = .ok (.goto (-24), 3) := by decide +kernel
theorem dX7_hollowsOf_31 : decode cX7_hollowsOf 31 = .ok (.iload_n 2, 1) := by decide +kernel
theorem dX7_hollowsOf_32 : decode cX7_hollowsOf 32 = .ok (.ireturn, 1) := by decide +kernel
theorem dX8_init_0 : decode cX8_init 0 = .ok (.aload_n 0, 1) := by decide +kernel
theorem dX8_init_1 : decode cX8_init 1 = .ok (.invokespecial 3, 3) := by decide +kernel
theorem dX8_init_4 : decode cX8_init 4 = .ok (.aload_n 0, 1) := by decide +kernel
theorem dX8_init_5 : decode cX8_init 5 = .ok (.sipush 500, 3) := by decide +kernel
theorem dX8_init_8 : decode cX8_init 8 = .ok (.newarray .int, 2) := by decide +kernel
theorem dX8_init_10 : decode cX8_init 10 = .ok (.putfield 9, 3) := by decide +kernel
theorem dX8_init_13 : decode cX8_init 13 = .ok (.aload_n 0, 1) := by decide +kernel
theorem dX8_init_14 : decode cX8_init 14 = .ok (.new 15, 3) := by decide +kernel
theorem dX8_init_17 : decode cX8_init 17 = .ok (.dup, 1) := by decide +kernel
theorem dX8_init_18 : decode cX8_init 18 = .ok (.invokespecial 17, 3) := by decide +kernel
theorem dX8_init_21 : decode cX8_init 21 = .ok (.putfield 18, 3) := by decide +kernel
theorem dX8_init_24 : decode cX8_init 24 = .ok (.aload_n 0, 1) := by decide +kernel
theorem dX8_init_25 : decode cX8_init 25 = .ok (.iconst 0, 1) := by decide +kernel
theorem dX8_init_26 : decode cX8_init 26 = .ok (.putfield 22, 3) := by decide +kernel
theorem dX8_init_29 : decode cX8_init 29 = .ok (.aload_n 0, 1) := by decide +kernel
theorem dX8_init_30 : decode cX8_init 30 = .ok (.iconst 0, 1) := by decide +kernel
theorem dX8_init_31 : decode cX8_init 31 = .ok (.putfield 26, 3) := by decide +kernel
theorem dX8_init_34 : decode cX8_init 34 = .ok (.aload_n 0, 1) := by decide +kernel
theorem dX8_init_35 : decode cX8_init 35 = .ok (.iconst 0, 1) := by decide +kernel
theorem dX8_init_36 : decode cX8_init 36 = .ok (.putfield 29, 3) := by decide +kernel
theorem dX8_init_39 : decode cX8_init 39 = .ok (.aload_n 0, 1) := by decide +kernel
theorem dX8_init_40 : decode cX8_init 40 = .ok (.iconst 0, 1) := by decide +kernel
theorem dX8_init_41 : decode cX8_init 41 = .ok (.putfield 32, 3) := by decide +kernel
theorem dX8_init_44 : decode cX8_init 44 = .ok (.aload_n 0, 1) := by decide +kernel
theorem dX8_init_45 : decode cX8_init 45 = .ok (.iconst (-1), 1) := by decide +kernel
theorem dX8_init_46 : decode cX8_init 46 = .ok (.putfield 35, 3) := by decide +kernel
theorem dX8_init_49 : decode cX8_init 49 = .ok (.return_, 1) := by decide +kernel
theorem dX8_putNumber_0 : decode cX8_putNumber 0 = .ok (.bipush 24, 2) := by decide +kernel
theorem dX8_putNumber_2 : decode cX8_putNumber 2 = .ok (.istore_n 2, 1) := by decide +kernel
theorem dX8_putNumber_3 : decode cX8_putNumber 3 = .ok (.iload_n 2, 1) := by decide +kernel
theorem dX8_putNumber_4 : decode cX8_putNumber 4 = .ok (.ifCond .lt 45, 3) := by decide +kernel
theorem dX8_putNumber_7 : decode cX8_putNumber 7 = .ok (.aload_n 0, 1) := by decide +kernel
theorem dX8_putNumber_8 : decode cX8_putNumber 8 = .ok (.getfield 22, 3) := by decide +kernel
theorem dX8_putNumber_11 : decode cX8_putNumber 11 = .ok (.sipush 500, 3) := by decide +kernel
theorem dX8_putNumber_14 : decode cX8_putNumber 14 = .ok (.if_icmp .ge 35, 3) := by decide +kernel
theorem dX8_putNumber_17 : decode cX8_putNumber 17 = .ok (.aload_n 0, 1) := by decide +kernel
theorem dX8_putNumber_18 : decode cX8_putNumber 18 = .ok (.getfield 9, 3) := by decide +kernel
theorem dX8_putNumber_21 : decode cX8_putNumber 21 = .ok (.aload_n 0, 1) := by decide +kernel
theorem dX8_putNumber_22 : decode cX8_putNumber 22 = .ok (.getfield 22, 3) := by decide +kernel
theorem dX8_putNumber_25 : decode cX8_putNumber 25 = .ok (.iload_n 1, 1) := by decide +kernel
theorem dX8_putNumber_26 : decode cX8_putNumber 26 = .ok (.iload_n 2, 1) := by decide +kernel
theorem dX8_putNumber_27 : decode cX8_putNumber 27 = .ok (.iushr, 1) := by decide +kernel
theorem dX8_putNumber_28 : decode cX8_putNumber 28 = .ok (.sipush 255, 3) := by decide +kernel
theorem dX8_putNumber_31 : decode cX8_putNumber 31 = .ok (.iand, 1) := by decide +kernel
theorem dX8_putNumber_32 : decode cX8_putNumber 32 = .ok (.iastore, 1) := by decide +kernel
theorem dX8_putNumber_33 : decode cX8_putNumber 33 = .ok (.aload_n 0, 1) := by decide +kernel
theorem dX8_putNumber_34 : decode cX8_putNumber 34 = .ok (.dup, 1) := by decide +kernel
theorem dX8_putNumber_35 : decode cX8_putNumber 35 = .ok (.getfield 22, 3) := by decide +kernel
theorem dX8_putNumber_38 : decode cX8_putNumber 38 = .ok (.iconst 1, 1) := by decide +kernel
theorem dX8_putNumber_39 : decode cX8_putNumber 39 = .ok (.iadd, 1) := by decide +kernel
theorem dX8_putNumber_40 : decode cX8_putNumber 40 = .ok (.putfield 22, 3) := by decide +kernel
theorem dX8_putNumber_43 : decode cX8_putNumber 43 = .ok (.iinc 2 (-8), 3) := by decide +kernel
theorem dX8_putNumber_46 : decode cX8_putNumber 46 = .ok (.goto (-43), 3) := by decide +kernel
theorem dX8_putNumber_49 : decode cX8_putNumber 49 = .ok (.return_, 1) := by decide +kernel
theorem dX8_readFirst_0 : decode cX8_readFirst 0 = .ok (.aload_n 0, 1) := by decide +kernel
theorem dX8_readFirst_1 : decode cX8_readFirst 1 = .ok (.iload_n 1, 1) := by decide +kernel
theorem dX8_readFirst_2 : decode cX8_readFirst 2 = .ok (.sipush 500, 3) := by decide +kernel
theorem dX8_readFirst_5 : decode cX8_readFirst 5 = .ok (.invokestatic 38, 3) := by decide +kernel
theorem dX8_readFirst_8 : decode cX8_readFirst 8 = .ok (.putfield 26, 3) := by decide +kernel
theorem dX8_readFirst_11 : decode cX8_readFirst 11 = .ok (.aload_n 0, 1) := by decide +kernel
theorem dX8_readFirst_12 : decode cX8_readFirst 12 = .ok (.iconst 0, 1) := by decide +kernel
theorem dX8_readFirst_13 : decode cX8_readFirst 13 = .ok (.putfield 22, 3) := by decide +kernel
theorem dX8_readFirst_16 : decode cX8_readFirst 16 = .ok (.aload_n 0, 1) := by decide +kernel
theorem dX8_readFirst_17 : decode cX8_readFirst 17 = .ok (.iconst 0, 1) := by decide +kernel
theorem dX8_readFirst_18 : decode cX8_readFirst 18 = .ok (.putfield 29, 3) := by decide +kernel
theorem dX8_readFirst_21 : decode cX8_readFirst 21 = .ok (.aload_n 0, 1) := by decide +kernel
theorem dX8_readFirst_22 : decode cX8_readFirst 22 = .ok (.iconst 0, 1) := by decide +kernel
theorem dX8_readFirst_23 : decode cX8_readFirst 23 = .ok (.putfield 32, 3) := by decide +kernel
theorem dX8_readFirst_26 : decode cX8_readFirst 26 = .ok (.aload_n 0, 1) := by decide +kernel
theorem dX8_readFirst_27 : decode cX8_readFirst 27 = .ok (.iconst (-1), 1) := by decide +kernel
theorem dX8_readFirst_28 : decode cX8_readFirst 28 = .ok (.putfield 35, 3) := by decide +kernel
theorem dX8_readFirst_31 : decode cX8_readFirst 31 = .ok (.aload_n 0, 1) := by decide +kernel
theorem dX8_readFirst_32 : decode cX8_readFirst 32 = .ok (.getfield 18, 3) := by decide +kernel
theorem dX8_readFirst_35 : decode cX8_readFirst 35 = .ok (.invokevirtual 44, 3) := by decide +kernel
theorem dX8_readFirst_38 : decode cX8_readFirst 38 = .ok (.aload_n 0, 1) := by decide +kernel
theorem dX8_readFirst_39 : decode cX8_readFirst 39 = .ok (.invokevirtual 47, 3) := by decide +kernel
theorem dX8_readFirst_42 : decode cX8_readFirst 42 = .ok (.iconst 0, 1) := by decide +kernel
theorem dX8_readFirst_43 : decode cX8_readFirst 43 = .ok (.istore_n 2, 1) := by decide +kernel
theorem dX8_readFirst_44 : decode cX8_readFirst 44 = .ok (.iload_n 2, 1) := by decide +kernel
theorem dX8_readFirst_45 : decode cX8_readFirst 45 = .ok (.sipush 500, 3) := by decide +kernel
theorem dX8_readFirst_48 : decode cX8_readFirst 48 = .ok (.if_icmp .ge 36, 3) := by decide +kernel
theorem dX8_readFirst_51 : decode cX8_readFirst 51 = .ok (.aload_n 0, 1) := by decide +kernel
theorem dX8_readFirst_52 : decode cX8_readFirst 52 = .ok (.getfield 29, 3) := by decide +kernel
theorem dX8_readFirst_55 : decode cX8_readFirst 55 = .ok (.aload_n 0, 1) := by decide +kernel
theorem dX8_readFirst_56 : decode cX8_readFirst 56 = .ok (.getfield 26, 3) := by decide +kernel
theorem dX8_readFirst_59 : decode cX8_readFirst 59 = .ok (.if_icmp .ge 25, 3) := by decide +kernel
theorem dX8_readFirst_62 : decode cX8_readFirst 62 = .ok (.aload_n 0, 1) := by decide +kernel
theorem dX8_readFirst_63 : decode cX8_readFirst 63 = .ok (.getfield 32, 3) := by decide +kernel
theorem dX8_readFirst_66 : decode cX8_readFirst 66 = .ok (.ifCond .ne 18, 3) := by decide +kernel
theorem dX8_readFirst_69 : decode cX8_readFirst 69 = .ok (.aload_n 0, 1) := by decide +kernel
theorem dX8_readFirst_70 : decode cX8_readFirst 70 = .ok (.iload_n 2, 1) := by decide +kernel
theorem dX8_readFirst_71 : decode cX8_readFirst 71 = .ok (.invokevirtual 50, 3) := by decide +kernel
theorem dX8_readFirst_74 : decode cX8_readFirst 74 = .ok (.aload_n 0, 1) := by decide +kernel
theorem dX8_readFirst_75 : decode cX8_readFirst 75 = .ok (.invokevirtual 47, 3) := by decide +kernel
theorem dX8_readFirst_78 : decode cX8_readFirst 78 = .ok (.iinc 2 1, 3) := by decide +kernel
theorem dX8_readFirst_81 : decode cX8_readFirst 81 = .ok (.goto (-37), 3) := by decide +kernel
theorem dX8_readFirst_84 : decode cX8_readFirst 84 = .ok (.aload_n 0, 1) := by decide +kernel
theorem dX8_readFirst_85 : decode cX8_readFirst 85 = .ok (.getfield 32, 3) := by decide +kernel
theorem dX8_readFirst_88 : decode cX8_readFirst 88 = .ok (.ireturn, 1) := by decide +kernel
theorem dX8_fail_0 : decode cX8_fail 0 = .ok (.aload_n 0, 1) := by decide +kernel
theorem dX8_fail_1 : decode cX8_fail 1 = .ok (.getfield 32, 3) := by decide +kernel
theorem dX8_fail_4 : decode cX8_fail 4 = .ok (.ifCond .ne 13, 3) := by decide +kernel
theorem dX8_fail_7 : decode cX8_fail 7 = .ok (.aload_n 0, 1) := by decide +kernel
theorem dX8_fail_8 : decode cX8_fail 8 = .ok (.iload_n 1, 1) := by decide +kernel
theorem dX8_fail_9 : decode cX8_fail 9 = .ok (.putfield 32, 3) := by decide +kernel
theorem dX8_fail_12 : decode cX8_fail 12 = .ok (.aload_n 0, 1) := by decide +kernel
theorem dX8_fail_13 : decode cX8_fail 13 = .ok (.iload_n 2, 1) := by decide +kernel
theorem dX8_fail_14 : decode cX8_fail 14 = .ok (.putfield 35, 3) := by decide +kernel
theorem dX8_fail_17 : decode cX8_fail 17 = .ok (.return_, 1) := by decide +kernel
theorem dX8_here_0 : decode cX8_here 0 = .ok (.aload_n 0, 1) := by decide +kernel
theorem dX8_here_1 : decode cX8_here 1 = .ok (.getfield 29, 3) := by decide +kernel
theorem dX8_here_4 : decode cX8_here 4 = .ok (.ifCond .lt 26, 3) := by decide +kernel
theorem dX8_here_7 : decode cX8_here 7 = .ok (.aload_n 0, 1) := by decide +kernel
theorem dX8_here_8 : decode cX8_here 8 = .ok (.getfield 29, 3) := by decide +kernel
theorem dX8_here_11 : decode cX8_here 11 = .ok (.aload_n 0, 1) := by decide +kernel
theorem dX8_here_12 : decode cX8_here 12 = .ok (.getfield 26, 3) := by decide +kernel
theorem dX8_here_15 : decode cX8_here 15 = .ok (.if_icmp .ge 15, 3) := by decide +kernel
theorem dX8_here_18 : decode cX8_here 18 = .ok (.aload_n 0, 1) := by decide +kernel
theorem dX8_here_19 : decode cX8_here 19 = .ok (.getfield 9, 3) := by decide +kernel
theorem dX8_here_22 : decode cX8_here 22 = .ok (.aload_n 0, 1) := by decide +kernel
theorem dX8_here_23 : decode cX8_here 23 = .ok (.getfield 29, 3) := by decide +kernel
theorem dX8_here_26 : decode cX8_here 26 = .ok (.iaload, 1) := by decide +kernel
theorem dX8_here_27 : decode cX8_here 27 = .ok (.goto 4, 3) := by decide +kernel
theorem dX8_here_30 : decode cX8_here 30 = .ok (.iconst (-1), 1) := by decide +kernel
theorem dX8_here_31 : decode cX8_here 31 = .ok (.ireturn, 1) := by decide +kernel
theorem dX8_digitStands_0 : decode cX8_digitStands 0 = .ok (.aload_n 0, 1) := by decide +kernel
theorem dX8_digitStands_1 : decode cX8_digitStands 1 = .ok (.invokevirtual 54, 3) := by decide +kernel
theorem dX8_digitStands_4 : decode cX8_digitStands 4 = .ok (.bipush 48, 2) := by decide +kernel
theorem dX8_digitStands_6 : decode cX8_digitStands 6 = .ok (.if_icmp .lt 16, 3) := by decide +kernel
theorem dX8_digitStands_9 : decode cX8_digitStands 9 = .ok (.aload_n 0, 1) := by decide +kernel
theorem dX8_digitStands_10 : decode cX8_digitStands 10 = .ok (.invokevirtual 54, 3) := by decide +kernel
theorem dX8_digitStands_13 : decode cX8_digitStands 13 = .ok (.bipush 57, 2) := by decide +kernel
theorem dX8_digitStands_15 : decode cX8_digitStands 15 = .ok (.if_icmp .gt 7, 3) := by decide +kernel
theorem dX8_digitStands_18 : decode cX8_digitStands 18 = .ok (.iconst 1, 1) := by decide +kernel
theorem dX8_digitStands_19 : decode cX8_digitStands 19 = .ok (.goto 4, 3) := by decide +kernel
theorem dX8_digitStands_22 : decode cX8_digitStands 22 = .ok (.iconst 0, 1) := by decide +kernel
theorem dX8_digitStands_23 : decode cX8_digitStands 23 = .ok (.ireturn, 1) := by decide +kernel
theorem dX8_skipBlanks_0 : decode cX8_skipBlanks 0 = .ok (.iconst 0, 1) := by decide +kernel
theorem dX8_skipBlanks_1 : decode cX8_skipBlanks 1 = .ok (.istore_n 1, 1) := by decide +kernel
theorem dX8_skipBlanks_2 : decode cX8_skipBlanks 2 = .ok (.iload_n 1, 1) := by decide +kernel
theorem dX8_skipBlanks_3 : decode cX8_skipBlanks 3 = .ok (.sipush 500, 3) := by decide +kernel
theorem dX8_skipBlanks_6 : decode cX8_skipBlanks 6 = .ok (.if_icmp .ge 28, 3) := by decide +kernel
theorem dX8_skipBlanks_9 : decode cX8_skipBlanks 9 = .ok (.aload_n 0, 1) := by decide +kernel
theorem dX8_skipBlanks_10 : decode cX8_skipBlanks 10 = .ok (.invokevirtual 54, 3) := by decide +kernel
theorem dX8_skipBlanks_13 : decode cX8_skipBlanks 13 = .ok (.bipush 32, 2) := by decide +kernel
theorem dX8_skipBlanks_15 : decode cX8_skipBlanks 15 = .ok (.if_icmp .ne 19, 3) := by decide +kernel
theorem dX8_skipBlanks_18 : decode cX8_skipBlanks 18 = .ok (.aload_n 0, 1) := by decide +kernel
theorem dX8_skipBlanks_19 : decode cX8_skipBlanks 19 = .ok (.dup, 1) := by decide +kernel
theorem dX8_skipBlanks_20 : decode cX8_skipBlanks 20 = .ok (.getfield 29, 3) := by decide +kernel
theorem dX8_skipBlanks_23 : decode cX8_skipBlanks 23 = .ok (.iconst 1, 1) := by decide +kernel
theorem dX8_skipBlanks_24 : decode cX8_skipBlanks 24 = .ok (.iadd, 1) := by decide +kernel
theorem dX8_skipBlanks_25 : decode cX8_skipBlanks 25 = .ok (.putfield 29, 3) := by decide +kernel
theorem dX8_skipBlanks_28 : decode cX8_skipBlanks 28 = .ok (.iinc 1 1, 3) := by decide +kernel
theorem dX8_skipBlanks_31 : decode cX8_skipBlanks 31 = .ok (.goto (-29), 3) := by decide +kernel
theorem dX8_skipBlanks_34 : decode cX8_skipBlanks 34 = .ok (.return_, 1) := by decide +kernel
theorem dX8_readClause_0 : decode cX8_readClause 0 = .ok (.aload_n 0, 1) := by decide +kernel
theorem dX8_readClause_1 : decode cX8_readClause 1 = .ok (.getfield 29, 3) := by decide +kernel
theorem dX8_readClause_4 : decode cX8_readClause 4 = .ok (.istore_n 2, 1) := by decide +kernel
theorem dX8_readClause_5 : decode cX8_readClause 5 = .ok (.aload_n 0, 1) := by decide +kernel
theorem dX8_readClause_6 : decode cX8_readClause 6 = .ok (.invokevirtual 58, 3) := by decide +kernel
theorem dX8_readClause_9 : decode cX8_readClause 9 = .ok (.istore_n 3, 1) := by decide +kernel
theorem dX8_readClause_10 : decode cX8_readClause 10 = .ok (.iload_n 3, 1) := by decide +kernel
theorem dX8_readClause_11 : decode cX8_readClause 11 = .ok (.iconst 3, 1) := by decide +kernel
theorem dX8_readClause_12 : decode cX8_readClause 12 = .ok (.if_icmp .eq 13, 3) := by decide +kernel
theorem dX8_readClause_15 : decode cX8_readClause 15 = .ok (.iload_n 3, 1) := by decide +kernel
theorem dX8_readClause_16 : decode cX8_readClause 16 = .ok (.iconst 4, 1) := by decide +kernel
theorem dX8_readClause_17 : decode cX8_readClause 17 = .ok (.if_icmp .eq 8, 3) := by decide +kernel
theorem dX8_readClause_20 : decode cX8_readClause 20 = .ok (.iload_n 3, 1) := by decide +kernel
theorem dX8_readClause_21 : decode cX8_readClause 21 = .ok (.iconst 5, 1) := by decide +kernel
theorem dX8_readClause_22 : decode cX8_readClause 22 = .ok (.if_icmp .ne 7, 3) := by decide +kernel
theorem dX8_readClause_25 : decode cX8_readClause 25 = .ok (.iconst 1, 1) := by decide +kernel
theorem dX8_readClause_26 : decode cX8_readClause 26 = .ok (.goto 4, 3) := by decide +kernel
theorem dX8_readClause_29 : decode cX8_readClause 29 = .ok (.iconst 0, 1) := by decide +kernel
theorem dX8_readClause_30 : decode cX8_readClause 30 = .ok (.istore 4, 2) := by decide +kernel
theorem dX8_readClause_32 : decode cX8_readClause 32 = .ok (.iload_n 3, 1) := by decide +kernel
theorem dX8_readClause_33 : decode cX8_readClause 33 = .ok (.iconst (-1), 1) := by decide +kernel
theorem dX8_readClause_34 : decode cX8_readClause 34 = .ok (.if_icmp .eq 18, 3) := by decide +kernel
theorem dX8_readClause_37 : decode cX8_readClause 37 = .ok (.iload 4, 2) := by decide +kernel
theorem dX8_readClause_39 : decode cX8_readClause 39 = .ok (.ifCond .eq 22, 3) := by decide +kernel
theorem dX8_readClause_42 : decode cX8_readClause 42 = .ok (.aload_n 0, 1) := by decide +kernel
theorem dX8_readClause_43 : decode cX8_readClause 43 = .ok (.getfield 18, 3) := by decide +kernel
theorem dX8_readClause_46 : decode cX8_readClause 46 = .ok (.getfield 61, 3) := by decide +kernel
theorem dX8_readClause_49 : decode cX8_readClause 49 = .ok (.ifCond .ne 12, 3) := by decide +kernel
theorem dX8_readClause_52 : decode cX8_readClause 52 = .ok (.aload_n 0, 1) := by decide +kernel
theorem dX8_readClause_53 : decode cX8_readClause 53 = .ok (.iconst 1, 1) := by decide +kernel
theorem dX8_readClause_54 : decode cX8_readClause 54 = .ok (.iload_n 2, 1) := by decide +kernel
theorem dX8_readClause_55 : decode cX8_readClause 55 = .ok (.invokevirtual 64, 3) := by decide +kernel
theorem dX8_readClause_58 : decode cX8_readClause 58 = .ok (.goto 35, 3) := by decide +kernel
theorem dX8_readClause_61 : decode cX8_readClause 61 = .ok (.iload_n 1, 1) := by decide +kernel
theorem dX8_readClause_62 : decode cX8_readClause 62 = .ok (.bipush 60, 2) := by decide +kernel
theorem dX8_readClause_64 : decode cX8_readClause 64 = .ok (.if_icmp .ge 11, 3) := by decide +kernel
theorem dX8_readClause_67 : decode cX8_readClause 67 = .ok (.aload_n 0, 1) := by decide +kernel
theorem dX8_readClause_68 : decode cX8_readClause 68 = .ok (.iload_n 3, 1) := by decide +kernel
theorem dX8_readClause_69 : decode cX8_readClause 69 = .ok (.invokevirtual 68, 3) := by decide +kernel
theorem dX8_readClause_72 : decode cX8_readClause 72 = .ok (.ifCond .eq 12, 3) := by decide +kernel
theorem dX8_readClause_75 : decode cX8_readClause 75 = .ok (.aload_n 0, 1) := by decide +kernel
theorem dX8_readClause_76 : decode cX8_readClause 76 = .ok (.iconst 3, 1) := by decide +kernel
theorem dX8_readClause_77 : decode cX8_readClause 77 = .ok (.iload_n 2, 1) := by decide +kernel
theorem dX8_readClause_78 : decode cX8_readClause 78 = .ok (.invokevirtual 64, 3) := by decide +kernel
theorem dX8_readClause_81 : decode cX8_readClause 81 = .ok (.goto 12, 3) := by decide +kernel
theorem dX8_readClause_84 : decode cX8_readClause 84 = .ok (.aload_n 0, 1) := by decide +kernel
theorem dX8_readClause_85 : decode cX8_readClause 85 = .ok (.iload_n 3, 1) := by decide +kernel
theorem dX8_readClause_86 : decode cX8_readClause 86 = .ok (.invokevirtual 72, 3) := by decide +kernel
theorem dX8_readClause_89 : decode cX8_readClause 89 = .ok (.aload_n 0, 1) := by decide +kernel
theorem dX8_readClause_90 : decode cX8_readClause 90 = .ok (.invokevirtual 75, 3) := by decide +kernel
theorem dX8_readClause_93 : decode cX8_readClause 93 = .ok (.return_, 1) := by decide +kernel
theorem dX8_readRest_0 : decode cX8_readRest 0 = .ok (.iload_n 1, 1) := by decide +kernel
theorem dX8_readRest_1 : decode cX8_readRest 1 = .ok (.tableswitch 80 0 7 #[47, 58, 58, 80, 80, 80, 66, 73], 47) := by decide +kernel
theorem dX8_readRest_48 : decode cX8_readRest 48 = .ok (.aload_n 0, 1) := by decide +kernel
theorem dX8_readRest_49 : decode cX8_readRest 49 = .ok (.getfield 18, 3) := by decide +kernel
theorem dX8_readRest_52 : decode cX8_readRest 52 = .ok (.lconst 0, 1) := by decide +kernel
theorem dX8_readRest_53 : decode cX8_readRest 53 = .ok (.invokevirtual 78, 3) := by decide +kernel
theorem dX8_readRest_56 : decode cX8_readRest 56 = .ok (.goto 30, 3) := by decide +kernel
theorem dX8_readRest_59 : decode cX8_readRest 59 = .ok (.aload_n 0, 1) := by decide +kernel
theorem dX8_readRest_60 : decode cX8_readRest 60 = .ok (.iload_n 1, 1) := by decide +kernel
theorem dX8_readRest_61 : decode cX8_readRest 61 = .ok (.invokevirtual 82, 3) := by decide +kernel
theorem dX8_readRest_64 : decode cX8_readRest 64 = .ok (.goto 22, 3) := by decide +kernel
theorem dX8_readRest_67 : decode cX8_readRest 67 = .ok (.aload_n 0, 1) := by decide +kernel
theorem dX8_readRest_68 : decode cX8_readRest 68 = .ok (.invokevirtual 85, 3) := by decide +kernel
theorem dX8_readRest_71 : decode cX8_readRest 71 = .ok (.goto 15, 3) := by decide +kernel
theorem dX8_readRest_74 : decode cX8_readRest 74 = .ok (.aload_n 0, 1) := by decide +kernel
theorem dX8_readRest_75 : decode cX8_readRest 75 = .ok (.invokevirtual 88, 3) := by decide +kernel
theorem dX8_readRest_78 : decode cX8_readRest 78 = .ok (.goto 8, 3) := by decide +kernel
theorem dX8_readRest_81 : decode cX8_readRest 81 = .ok (.aload_n 0, 1) := by decide +kernel
theorem dX8_readRest_82 : decode cX8_readRest 82 = .ok (.iload_n 1, 1) := by decide +kernel
theorem dX8_readRest_83 : decode cX8_readRest 83 = .ok (.invokevirtual 91, 3) := by decide +kernel
theorem dX8_readRest_86 : decode cX8_readRest 86 = .ok (.return_, 1) := by decide +kernel
theorem dX8_isOneTooMany_0 : decode cX8_isOneTooMany 0 = .ok (.iload_n 1, 1) := by decide +kernel
theorem dX8_isOneTooMany_1 : decode cX8_isOneTooMany 1 = .ok (.bipush 6, 2) := by decide +kernel
theorem dX8_isOneTooMany_3 : decode cX8_isOneTooMany 3 = .ok (.if_icmp .ne 21, 3) := by decide +kernel
theorem dX8_isOneTooMany_6 : decode cX8_isOneTooMany 6 = .ok (.aload_n 0, 1) := by decide +kernel
theorem dX8_isOneTooMany_7 : decode cX8_isOneTooMany 7 = .ok (.getfield 18, 3) := by decide +kernel
theorem dX8_isOneTooMany_10 : decode cX8_isOneTooMany 10 = .ok (.getfield 94, 3) := by decide +kernel
theorem dX8_isOneTooMany_13 : decode cX8_isOneTooMany 13 = .ok (.bipush 6, 2) := by decide +kernel
theorem dX8_isOneTooMany_15 : decode cX8_isOneTooMany 15 = .ok (.if_icmp .lt 7, 3) := by decide +kernel
theorem dX8_isOneTooMany_18 : decode cX8_isOneTooMany 18 = .ok (.iconst 1, 1) := by decide +kernel
theorem dX8_isOneTooMany_19 : decode cX8_isOneTooMany 19 = .ok (.goto 4, 3) := by decide +kernel
theorem dX8_isOneTooMany_22 : decode cX8_isOneTooMany 22 = .ok (.iconst 0, 1) := by decide +kernel
theorem dX8_isOneTooMany_23 : decode cX8_isOneTooMany 23 = .ok (.ireturn, 1) := by decide +kernel
theorem dX8_isOneTooMany_24 : decode cX8_isOneTooMany 24 = .ok (.iload_n 1, 1) := by decide +kernel
theorem dX8_isOneTooMany_25 : decode cX8_isOneTooMany 25 = .ok (.ifCond .eq 13, 3) := by decide +kernel
theorem dX8_isOneTooMany_28 : decode cX8_isOneTooMany 28 = .ok (.iload_n 1, 1) := by decide +kernel
theorem dX8_isOneTooMany_29 : decode cX8_isOneTooMany 29 = .ok (.iconst 1, 1) := by decide +kernel
theorem dX8_isOneTooMany_30 : decode cX8_isOneTooMany 30 = .ok (.if_icmp .eq 8, 3) := by decide +kernel
theorem dX8_isOneTooMany_33 : decode cX8_isOneTooMany 33 = .ok (.iload_n 1, 1) := by decide +kernel
theorem dX8_isOneTooMany_34 : decode cX8_isOneTooMany 34 = .ok (.iconst 2, 1) := by decide +kernel
theorem dX8_isOneTooMany_35 : decode cX8_isOneTooMany 35 = .ok (.if_icmp .ne 7, 3) := by decide +kernel
theorem dX8_isOneTooMany_38 : decode cX8_isOneTooMany 38 = .ok (.iconst 1, 1) := by decide +kernel
theorem dX8_isOneTooMany_39 : decode cX8_isOneTooMany 39 = .ok (.goto 4, 3) := by decide +kernel
theorem dX8_isOneTooMany_42 : decode cX8_isOneTooMany 42 = .ok (.iconst 0, 1) := by decide +kernel
theorem dX8_isOneTooMany_43 : decode cX8_isOneTooMany 43 = .ok (.istore_n 2, 1) := by decide +kernel
theorem dX8_isOneTooMany_44 : decode cX8_isOneTooMany 44 = .ok (.iload_n 2, 1) := by decide +kernel
theorem dX8_isOneTooMany_45 : decode cX8_isOneTooMany 45 = .ok (.ifCond .eq 19, 3) := by decide +kernel
theorem dX8_isOneTooMany_48 : decode cX8_isOneTooMany 48 = .ok (.aload_n 0, 1) := by decide +kernel
theorem dX8_isOneTooMany_49 : decode cX8_isOneTooMany 49 = .ok (.getfield 18, 3) := by decide +kernel
theorem dX8_isOneTooMany_52 : decode cX8_isOneTooMany 52 = .ok (.getfield 61, 3) := by decide +kernel
theorem dX8_isOneTooMany_55 : decode cX8_isOneTooMany 55 = .ok (.bipush 10, 2) := by decide +kernel
theorem dX8_isOneTooMany_57 : decode cX8_isOneTooMany 57 = .ok (.if_icmp .lt 7, 3) := by decide +kernel
theorem dX8_isOneTooMany_60 : decode cX8_isOneTooMany 60 = .ok (.iconst 1, 1) := by decide +kernel
theorem dX8_isOneTooMany_61 : decode cX8_isOneTooMany 61 = .ok (.goto 4, 3) := by decide +kernel
theorem dX8_isOneTooMany_64 : decode cX8_isOneTooMany 64 = .ok (.iconst 0, 1) := by decide +kernel
theorem dX8_isOneTooMany_65 : decode cX8_isOneTooMany 65 = .ok (.ireturn, 1) := by decide +kernel
theorem dX8_readKeyword_0 : decode cX8_readKeyword 0 = .ok (.aload_n 0, 1) := by decide +kernel
theorem dX8_readKeyword_1 : decode cX8_readKeyword 1 = .ok (.getfield 29, 3) := by decide +kernel
theorem dX8_readKeyword_4 : decode cX8_readKeyword 4 = .ok (.istore_n 1, 1) := by decide +kernel
theorem dX8_readKeyword_5 : decode cX8_readKeyword 5 = .ok (.iconst 0, 1) := by decide +kernel
theorem dX8_readKeyword_6 : decode cX8_readKeyword 6 = .ok (.istore_n 2, 1) := by decide +kernel
theorem dX8_readKeyword_7 : decode cX8_readKeyword 7 = .ok (.iload_n 2, 1) := by decide +kernel
theorem dX8_readKeyword_8 : decode cX8_readKeyword 8 = .ok (.sipush 500, 3) := by decide +kernel
theorem dX8_readKeyword_11 : decode cX8_readKeyword 11 = .ok (.if_icmp .ge 37, 3) := by decide +kernel
theorem dX8_readKeyword_14 : decode cX8_readKeyword 14 = .ok (.aload_n 0, 1) := by decide +kernel
theorem dX8_readKeyword_15 : decode cX8_readKeyword 15 = .ok (.invokevirtual 54, 3) := by decide +kernel
theorem dX8_readKeyword_18 : decode cX8_readKeyword 18 = .ok (.bipush 97, 2) := by decide +kernel
theorem dX8_readKeyword_20 : decode cX8_readKeyword 20 = .ok (.if_icmp .lt 28, 3) := by decide +kernel
theorem dX8_readKeyword_23 : decode cX8_readKeyword 23 = .ok (.aload_n 0, 1) := by decide +kernel
theorem dX8_readKeyword_24 : decode cX8_readKeyword 24 = .ok (.invokevirtual 54, 3) := by decide +kernel
theorem dX8_readKeyword_27 : decode cX8_readKeyword 27 = .ok (.bipush 122, 2) := by decide +kernel
theorem dX8_readKeyword_29 : decode cX8_readKeyword 29 = .ok (.if_icmp .gt 19, 3) := by decide +kernel
theorem dX8_readKeyword_32 : decode cX8_readKeyword 32 = .ok (.aload_n 0, 1) := by decide +kernel
theorem dX8_readKeyword_33 : decode cX8_readKeyword 33 = .ok (.dup, 1) := by decide +kernel
theorem dX8_readKeyword_34 : decode cX8_readKeyword 34 = .ok (.getfield 29, 3) := by decide +kernel
theorem dX8_readKeyword_37 : decode cX8_readKeyword 37 = .ok (.iconst 1, 1) := by decide +kernel
theorem dX8_readKeyword_38 : decode cX8_readKeyword 38 = .ok (.iadd, 1) := by decide +kernel
theorem dX8_readKeyword_39 : decode cX8_readKeyword 39 = .ok (.putfield 29, 3) := by decide +kernel
theorem dX8_readKeyword_42 : decode cX8_readKeyword 42 = .ok (.iinc 2 1, 3) := by decide +kernel
theorem dX8_readKeyword_45 : decode cX8_readKeyword 45 = .ok (.goto (-38), 3) := by decide +kernel
theorem dX8_readKeyword_48 : decode cX8_readKeyword 48 = .ok (.aload_n 0, 1) := by decide +kernel
theorem dX8_readKeyword_49 : decode cX8_readKeyword 49 = .ok (.ldc 97, 2) := by decide +kernel
theorem dX8_readKeyword_51 : decode cX8_readKeyword 51 = .ok (.iload_n 1, 1) := by decide +kernel
theorem dX8_readKeyword_52 : decode cX8_readKeyword 52 = .ok (.invokevirtual 99, 3) := by decide +kernel
theorem dX8_readKeyword_55 : decode cX8_readKeyword 55 = .ok (.ifCond .eq 5, 3) := by decide +kernel
theorem dX8_readKeyword_58 : decode cX8_readKeyword 58 = .ok (.iconst 0, 1) := by decide +kernel
theorem dX8_readKeyword_59 : decode cX8_readKeyword 59 = .ok (.ireturn, 1) := by decide +kernel
theorem dX8_readKeyword_60 : decode cX8_readKeyword 60 = .ok (.aload_n 0, 1) := by decide +kernel
theorem dX8_readKeyword_61 : decode cX8_readKeyword 61 = .ok (.ldc 103, 2) := by decide +kernel
theorem dX8_readKeyword_63 : decode cX8_readKeyword 63 = .ok (.iload_n 1, 1) := by decide +kernel
theorem dX8_readKeyword_64 : decode cX8_readKeyword 64 = .ok (.invokevirtual 99, 3) := by decide +kernel
theorem dX8_readKeyword_67 : decode cX8_readKeyword 67 = .ok (.ifCond .eq 5, 3) := by decide +kernel
theorem dX8_readKeyword_70 : decode cX8_readKeyword 70 = .ok (.iconst 1, 1) := by decide +kernel
theorem dX8_readKeyword_71 : decode cX8_readKeyword 71 = .ok (.ireturn, 1) := by decide +kernel
theorem dX8_readKeyword_72 : decode cX8_readKeyword 72 = .ok (.aload_n 0, 1) := by decide +kernel
theorem dX8_readKeyword_73 : decode cX8_readKeyword 73 = .ok (.ldc 105, 2) := by decide +kernel
theorem dX8_readKeyword_75 : decode cX8_readKeyword 75 = .ok (.iload_n 1, 1) := by decide +kernel
theorem dX8_readKeyword_76 : decode cX8_readKeyword 76 = .ok (.invokevirtual 99, 3) := by decide +kernel
theorem dX8_readKeyword_79 : decode cX8_readKeyword 79 = .ok (.ifCond .eq 5, 3) := by decide +kernel
theorem dX8_readKeyword_82 : decode cX8_readKeyword 82 = .ok (.iconst 2, 1) := by decide +kernel
theorem dX8_readKeyword_83 : decode cX8_readKeyword 83 = .ok (.ireturn, 1) := by decide +kernel
theorem dX8_readKeyword_84 : decode cX8_readKeyword 84 = .ok (.aload_n 0, 1) := by decide +kernel
theorem dX8_readKeyword_85 : decode cX8_readKeyword 85 = .ok (.ldc 107, 2) := by decide +kernel
theorem dX8_readKeyword_87 : decode cX8_readKeyword 87 = .ok (.iload_n 1, 1) := by decide +kernel
theorem dX8_readKeyword_88 : decode cX8_readKeyword 88 = .ok (.invokevirtual 99, 3) := by decide +kernel
theorem dX8_readKeyword_91 : decode cX8_readKeyword 91 = .ok (.ifCond .eq 5, 3) := by decide +kernel
theorem dX8_readKeyword_94 : decode cX8_readKeyword 94 = .ok (.iconst 3, 1) := by decide +kernel
theorem dX8_readKeyword_95 : decode cX8_readKeyword 95 = .ok (.ireturn, 1) := by decide +kernel
theorem dX8_readKeyword_96 : decode cX8_readKeyword 96 = .ok (.aload_n 0, 1) := by decide +kernel
theorem dX8_readKeyword_97 : decode cX8_readKeyword 97 = .ok (.ldc 109, 2) := by decide +kernel
theorem dX8_readKeyword_99 : decode cX8_readKeyword 99 = .ok (.iload_n 1, 1) := by decide +kernel
theorem dX8_readKeyword_100 : decode cX8_readKeyword 100 = .ok (.invokevirtual 99, 3) := by decide +kernel
theorem dX8_readKeyword_103 : decode cX8_readKeyword 103 = .ok (.ifCond .eq 5, 3) := by decide +kernel
theorem dX8_readKeyword_106 : decode cX8_readKeyword 106 = .ok (.iconst 4, 1) := by decide +kernel
theorem dX8_readKeyword_107 : decode cX8_readKeyword 107 = .ok (.ireturn, 1) := by decide +kernel
theorem dX8_readKeyword_108 : decode cX8_readKeyword 108 = .ok (.aload_n 0, 1) := by decide +kernel
theorem dX8_readKeyword_109 : decode cX8_readKeyword 109 = .ok (.ldc 111, 2) := by decide +kernel
theorem dX8_readKeyword_111 : decode cX8_readKeyword 111 = .ok (.iload_n 1, 1) := by decide +kernel
theorem dX8_readKeyword_112 : decode cX8_readKeyword 112 = .ok (.invokevirtual 99, 3) := by decide +kernel
theorem dX8_readKeyword_115 : decode cX8_readKeyword 115 = .ok (.ifCond .eq 5, 3) := by decide +kernel
theorem dX8_readKeyword_118 : decode cX8_readKeyword 118 = .ok (.iconst 5, 1) := by decide +kernel
theorem dX8_readKeyword_119 : decode cX8_readKeyword 119 = .ok (.ireturn, 1) := by decide +kernel
theorem dX8_readKeyword_120 : decode cX8_readKeyword 120 = .ok (.aload_n 0, 1) := by decide +kernel
theorem dX8_readKeyword_121 : decode cX8_readKeyword 121 = .ok (.ldc 113, 2) := by decide +kernel
theorem dX8_readKeyword_123 : decode cX8_readKeyword 123 = .ok (.iload_n 1, 1) := by decide +kernel
theorem dX8_readKeyword_124 : decode cX8_readKeyword 124 = .ok (.invokevirtual 99, 3) := by decide +kernel
theorem dX8_readKeyword_127 : decode cX8_readKeyword 127 = .ok (.ifCond .eq 6, 3) := by decide +kernel
theorem dX8_readKeyword_130 : decode cX8_readKeyword 130 = .ok (.bipush 6, 2) := by decide +kernel
theorem dX8_readKeyword_132 : decode cX8_readKeyword 132 = .ok (.ireturn, 1) := by decide +kernel
theorem dX8_readKeyword_133 : decode cX8_readKeyword 133 = .ok (.aload_n 0, 1) := by decide +kernel
theorem dX8_readKeyword_134 : decode cX8_readKeyword 134 = .ok (.ldc 115, 2) := by decide +kernel
theorem dX8_readKeyword_136 : decode cX8_readKeyword 136 = .ok (.iload_n 1, 1) := by decide +kernel
theorem dX8_readKeyword_137 : decode cX8_readKeyword 137 = .ok (.invokevirtual 99, 3) := by decide +kernel
theorem dX8_readKeyword_140 : decode cX8_readKeyword 140 = .ok (.ifCond .eq 8, 3) := by decide +kernel
theorem dX8_readKeyword_143 : decode cX8_readKeyword 143 = .ok (.bipush 7, 2) := by decide +kernel
theorem dX8_readKeyword_145 : decode cX8_readKeyword 145 = .ok (.goto 4, 3) := by decide +kernel
theorem dX8_readKeyword_148 : decode cX8_readKeyword 148 = .ok (.iconst (-1), 1) := by decide +kernel
theorem dX8_readKeyword_149 : decode cX8_readKeyword 149 = .ok (.ireturn, 1) := by decide +kernel
theorem dX8_stands_0 : decode cX8_stands 0 = .ok (.iload_n 2, 1) := by decide +kernel
theorem dX8_stands_1 : decode cX8_stands 1 = .ok (.ifCond .lt 16, 3) := by decide +kernel
theorem dX8_stands_4 : decode cX8_stands 4 = .ok (.aload_n 0, 1) := by decide +kernel
theorem dX8_stands_5 : decode cX8_stands 5 = .ok (.getfield 29, 3) := by decide +kernel
theorem dX8_stands_8 : decode cX8_stands 8 = .ok (.iload_n 2, 1) := by decide +kernel
theorem dX8_stands_9 : decode cX8_stands 9 = .ok (.isub, 1) := by decide +kernel
theorem dX8_stands_10 : decode cX8_stands 10 = .ok (.aload_n 1, 1) := by decide +kernel
theorem dX8_stands_11 : decode cX8_stands 11 = .ok (.invokevirtual 117, 3) := by decide +kernel
theorem dX8_stands_14 : decode cX8_stands 14 = .ok (.if_icmp .eq 5, 3) := by decide +kernel
theorem dX8_stands_17 : decode cX8_stands 17 = .ok (.iconst 0, 1) := by decide +kernel
theorem dX8_stands_18 : decode cX8_stands 18 = .ok (.ireturn, 1) := by decide +kernel
theorem dX8_stands_19 : decode cX8_stands 19 = .ok (.iconst 0, 1) := by decide +kernel
theorem dX8_stands_20 : decode cX8_stands 20 = .ok (.istore_n 3, 1) := by decide +kernel
theorem dX8_stands_21 : decode cX8_stands 21 = .ok (.iload_n 3, 1) := by decide +kernel
theorem dX8_stands_22 : decode cX8_stands 22 = .ok (.aload_n 1, 1) := by decide +kernel
theorem dX8_stands_23 : decode cX8_stands 23 = .ok (.invokevirtual 117, 3) := by decide +kernel
theorem dX8_stands_26 : decode cX8_stands 26 = .ok (.if_icmp .ge 37, 3) := by decide +kernel
theorem dX8_stands_29 : decode cX8_stands 29 = .ok (.iload_n 2, 1) := by decide +kernel
theorem dX8_stands_30 : decode cX8_stands 30 = .ok (.iload_n 3, 1) := by decide +kernel
theorem dX8_stands_31 : decode cX8_stands 31 = .ok (.iadd, 1) := by decide +kernel
theorem dX8_stands_32 : decode cX8_stands 32 = .ok (.aload_n 0, 1) := by decide +kernel
theorem dX8_stands_33 : decode cX8_stands 33 = .ok (.getfield 26, 3) := by decide +kernel
theorem dX8_stands_36 : decode cX8_stands 36 = .ok (.if_icmp .ge 27, 3) := by decide +kernel
theorem dX8_stands_39 : decode cX8_stands 39 = .ok (.aload_n 0, 1) := by decide +kernel
theorem dX8_stands_40 : decode cX8_stands 40 = .ok (.getfield 9, 3) := by decide +kernel
theorem dX8_stands_43 : decode cX8_stands 43 = .ok (.iload_n 2, 1) := by decide +kernel
theorem dX8_stands_44 : decode cX8_stands 44 = .ok (.iload_n 3, 1) := by decide +kernel
theorem dX8_stands_45 : decode cX8_stands 45 = .ok (.iadd, 1) := by decide +kernel
theorem dX8_stands_46 : decode cX8_stands 46 = .ok (.iaload, 1) := by decide +kernel
theorem dX8_stands_47 : decode cX8_stands 47 = .ok (.aload_n 1, 1) := by decide +kernel
theorem dX8_stands_48 : decode cX8_stands 48 = .ok (.iload_n 3, 1) := by decide +kernel
theorem dX8_stands_49 : decode cX8_stands 49 = .ok (.invokevirtual 121, 3) := by decide +kernel
theorem dX8_stands_52 : decode cX8_stands 52 = .ok (.if_icmp .eq 5, 3) := by decide +kernel
theorem dX8_stands_55 : decode cX8_stands 55 = .ok (.iconst 0, 1) := by decide +kernel
theorem dX8_stands_56 : decode cX8_stands 56 = .ok (.ireturn, 1) := by decide +kernel
theorem dX8_stands_57 : decode cX8_stands 57 = .ok (.iinc 3 1, 3) := by decide +kernel
theorem dX8_stands_60 : decode cX8_stands 60 = .ok (.goto (-39), 3) := by decide +kernel
theorem dX8_stands_63 : decode cX8_stands 63 = .ok (.iconst 1, 1) := by decide +kernel
theorem dX8_stands_64 : decode cX8_stands 64 = .ok (.ireturn, 1) := by decide +kernel
theorem dX8_readDrawing_0 : decode cX8_readDrawing 0 = .ok (.aload_n 0, 1) := by decide +kernel
theorem dX8_readDrawing_1 : decode cX8_readDrawing 1 = .ok (.iconst 0, 1) := by decide +kernel
theorem dX8_readDrawing_2 : decode cX8_readDrawing 2 = .ok (.bipush 7, 2) := by decide +kernel
theorem dX8_readDrawing_4 : decode cX8_readDrawing 4 = .ok (.invokevirtual 125, 3) := by decide +kernel
theorem dX8_readDrawing_7 : decode cX8_readDrawing 7 = .ok (.istore_n 2, 1) := by decide +kernel
theorem dX8_readDrawing_8 : decode cX8_readDrawing 8 = .ok (.aload_n 0, 1) := by decide +kernel
theorem dX8_readDrawing_9 : decode cX8_readDrawing 9 = .ok (.iconst 0, 1) := by decide +kernel
theorem dX8_readDrawing_10 : decode cX8_readDrawing 10 = .ok (.bipush 7, 2) := by decide +kernel
theorem dX8_readDrawing_12 : decode cX8_readDrawing 12 = .ok (.invokevirtual 125, 3) := by decide +kernel
theorem dX8_readDrawing_15 : decode cX8_readDrawing 15 = .ok (.istore_n 3, 1) := by decide +kernel
theorem dX8_readDrawing_16 : decode cX8_readDrawing 16 = .ok (.aload_n 0, 1) := by decide +kernel
theorem dX8_readDrawing_17 : decode cX8_readDrawing 17 = .ok (.iconst 1, 1) := by decide +kernel
theorem dX8_readDrawing_18 : decode cX8_readDrawing 18 = .ok (.bipush 8, 2) := by decide +kernel
theorem dX8_readDrawing_20 : decode cX8_readDrawing 20 = .ok (.iload_n 2, 1) := by decide +kernel
theorem dX8_readDrawing_21 : decode cX8_readDrawing 21 = .ok (.isub, 1) := by decide +kernel
theorem dX8_readDrawing_22 : decode cX8_readDrawing 22 = .ok (.invokevirtual 125, 3) := by decide +kernel
theorem dX8_readDrawing_25 : decode cX8_readDrawing 25 = .ok (.istore 4, 2) := by decide +kernel
theorem dX8_readDrawing_27 : decode cX8_readDrawing 27 = .ok (.aload_n 0, 1) := by decide +kernel
theorem dX8_readDrawing_28 : decode cX8_readDrawing 28 = .ok (.iconst 1, 1) := by decide +kernel
theorem dX8_readDrawing_29 : decode cX8_readDrawing 29 = .ok (.bipush 8, 2) := by decide +kernel
theorem dX8_readDrawing_31 : decode cX8_readDrawing 31 = .ok (.iload_n 3, 1) := by decide +kernel
theorem dX8_readDrawing_32 : decode cX8_readDrawing 32 = .ok (.isub, 1) := by decide +kernel
theorem dX8_readDrawing_33 : decode cX8_readDrawing 33 = .ok (.invokevirtual 125, 3) := by decide +kernel
theorem dX8_readDrawing_36 : decode cX8_readDrawing 36 = .ok (.istore 5, 2) := by decide +kernel
theorem dX8_readDrawing_38 : decode cX8_readDrawing 38 = .ok (.aload_n 0, 1) := by decide +kernel
theorem dX8_readDrawing_39 : decode cX8_readDrawing 39 = .ok (.getfield 32, 3) := by decide +kernel
theorem dX8_readDrawing_42 : decode cX8_readDrawing 42 = .ok (.ifCond .eq 4, 3) := by decide +kernel
theorem dX8_readDrawing_45 : decode cX8_readDrawing 45 = .ok (.return_, 1) := by decide +kernel
theorem dX8_readDrawing_46 : decode cX8_readDrawing 46 = .ok (.aload_n 0, 1) := by decide +kernel
theorem dX8_readDrawing_47 : decode cX8_readDrawing 47 = .ok (.getfield 18, 3) := by decide +kernel
theorem dX8_readDrawing_50 : decode cX8_readDrawing 50 = .ok (.invokevirtual 128, 3) := by decide +kernel
theorem dX8_readDrawing_53 : decode cX8_readDrawing 53 = .ok (.lstore 6, 2) := by decide +kernel
theorem dX8_readDrawing_55 : decode cX8_readDrawing 55 = .ok (.iload_n 1, 1) := by decide +kernel
theorem dX8_readDrawing_56 : decode cX8_readDrawing 56 = .ok (.iconst 3, 1) := by decide +kernel
theorem dX8_readDrawing_57 : decode cX8_readDrawing 57 = .ok (.if_icmp .ne 25, 3) := by decide +kernel
theorem dX8_readDrawing_60 : decode cX8_readDrawing 60 = .ok (.aload_n 0, 1) := by decide +kernel
theorem dX8_readDrawing_61 : decode cX8_readDrawing 61 = .ok (.getfield 18, 3) := by decide +kernel
theorem dX8_readDrawing_64 : decode cX8_readDrawing 64 = .ok (.lload 6, 2) := by decide +kernel
theorem dX8_readDrawing_66 : decode cX8_readDrawing 66 = .ok (.iload_n 2, 1) := by decide +kernel
theorem dX8_readDrawing_67 : decode cX8_readDrawing 67 = .ok (.iload_n 3, 1) := by decide +kernel
theorem dX8_readDrawing_68 : decode cX8_readDrawing 68 = .ok (.iload 4, 2) := by decide +kernel
theorem dX8_readDrawing_70 : decode cX8_readDrawing 70 = .ok (.iload 5, 2) := by decide +kernel
theorem dX8_readDrawing_72 : decode cX8_readDrawing 72 = .ok (.invokestatic 132, 3) := by decide +kernel
theorem dX8_readDrawing_75 : decode cX8_readDrawing 75 = .ok (.lor, 1) := by decide +kernel
theorem dX8_readDrawing_76 : decode cX8_readDrawing 76 = .ok (.invokevirtual 138, 3) := by decide +kernel
theorem dX8_readDrawing_79 : decode cX8_readDrawing 79 = .ok (.goto 53, 3) := by decide +kernel
theorem dX8_readDrawing_82 : decode cX8_readDrawing 82 = .ok (.iload_n 1, 1) := by decide +kernel
theorem dX8_readDrawing_83 : decode cX8_readDrawing 83 = .ok (.iconst 4, 1) := by decide +kernel
theorem dX8_readDrawing_84 : decode cX8_readDrawing 84 = .ok (.if_icmp .ne 25, 3) := by decide +kernel
theorem dX8_readDrawing_87 : decode cX8_readDrawing 87 = .ok (.aload_n 0, 1) := by decide +kernel
theorem dX8_readDrawing_88 : decode cX8_readDrawing 88 = .ok (.getfield 18, 3) := by decide +kernel
theorem dX8_readDrawing_91 : decode cX8_readDrawing 91 = .ok (.lload 6, 2) := by decide +kernel
theorem dX8_readDrawing_93 : decode cX8_readDrawing 93 = .ok (.iload_n 2, 1) := by decide +kernel
theorem dX8_readDrawing_94 : decode cX8_readDrawing 94 = .ok (.iload_n 3, 1) := by decide +kernel
theorem dX8_readDrawing_95 : decode cX8_readDrawing 95 = .ok (.iload 4, 2) := by decide +kernel
theorem dX8_readDrawing_97 : decode cX8_readDrawing 97 = .ok (.iload 5, 2) := by decide +kernel
theorem dX8_readDrawing_99 : decode cX8_readDrawing 99 = .ok (.invokestatic 141, 3) := by decide +kernel
theorem dX8_readDrawing_102 : decode cX8_readDrawing 102 = .ok (.lor, 1) := by decide +kernel
theorem dX8_readDrawing_103 : decode cX8_readDrawing 103 = .ok (.invokevirtual 138, 3) := by decide +kernel
theorem dX8_readDrawing_106 : decode cX8_readDrawing 106 = .ok (.goto 26, 3) := by decide +kernel
theorem dX8_readDrawing_109 : decode cX8_readDrawing 109 = .ok (.aload_n 0, 1) := by decide +kernel
theorem dX8_readDrawing_110 : decode cX8_readDrawing 110 = .ok (.getfield 18, 3) := by decide +kernel
theorem dX8_readDrawing_113 : decode cX8_readDrawing 113 = .ok (.lload 6, 2) := by decide +kernel
theorem dX8_readDrawing_115 : decode cX8_readDrawing 115 = .ok (.iload_n 2, 1) := by decide +kernel
theorem dX8_readDrawing_116 : decode cX8_readDrawing 116 = .ok (.iload_n 3, 1) := by decide +kernel
theorem dX8_readDrawing_117 : decode cX8_readDrawing 117 = .ok (.iload 4, 2) := by decide +kernel
theorem dX8_readDrawing_119 : decode cX8_readDrawing 119 = .ok (.iload 5, 2) := by decide +kernel
theorem dX8_readDrawing_121 : decode cX8_readDrawing 121 = .ok (.invokestatic 132, 3) := by decide +kernel
theorem dX8_readDrawing_124 : decode cX8_readDrawing 124 = .ok (.ldc2_w 144, 3) := by decide +kernel
theorem dX8_readDrawing_127 : decode cX8_readDrawing 127 = .ok (.lxor, 1) := by decide +kernel
theorem dX8_readDrawing_128 : decode cX8_readDrawing 128 = .ok (.land, 1) := by decide +kernel
theorem dX8_readDrawing_129 : decode cX8_readDrawing 129 = .ok (.invokevirtual 138, 3) := by decide +kernel
theorem dX8_readDrawing_132 : decode cX8_readDrawing 132 = .ok (.return_, 1) := by decide +kernel
theorem dX8_readCopy_0 : decode cX8_readCopy 0 = .ok (.aload_n 0, 1) := by decide +kernel
theorem dX8_readCopy_1 : decode cX8_readCopy 1 = .ok (.iconst 0, 1) := by decide +kernel
theorem dX8_readCopy_2 : decode cX8_readCopy 2 = .ok (.aload_n 0, 1) := by decide +kernel
theorem dX8_readCopy_3 : decode cX8_readCopy 3 = .ok (.getfield 18, 3) := by decide +kernel
theorem dX8_readCopy_6 : decode cX8_readCopy 6 = .ok (.getfield 61, 3) := by decide +kernel
theorem dX8_readCopy_9 : decode cX8_readCopy 9 = .ok (.iconst 1, 1) := by decide +kernel
theorem dX8_readCopy_10 : decode cX8_readCopy 10 = .ok (.isub, 1) := by decide +kernel
theorem dX8_readCopy_11 : decode cX8_readCopy 11 = .ok (.invokevirtual 125, 3) := by decide +kernel
theorem dX8_readCopy_14 : decode cX8_readCopy 14 = .ok (.istore_n 2, 1) := by decide +kernel
theorem dX8_readCopy_15 : decode cX8_readCopy 15 = .ok (.aload_n 0, 1) := by decide +kernel
theorem dX8_readCopy_16 : decode cX8_readCopy 16 = .ok (.getfield 32, 3) := by decide +kernel
theorem dX8_readCopy_19 : decode cX8_readCopy 19 = .ok (.ifCond .ne 35, 3) := by decide +kernel
theorem dX8_readCopy_22 : decode cX8_readCopy 22 = .ok (.aload_n 0, 1) := by decide +kernel
theorem dX8_readCopy_23 : decode cX8_readCopy 23 = .ok (.getfield 18, 3) := by decide +kernel
theorem dX8_readCopy_26 : decode cX8_readCopy 26 = .ok (.iload_n 2, 1) := by decide +kernel
theorem dX8_readCopy_27 : decode cX8_readCopy 27 = .ok (.invokevirtual 146, 3) := by decide +kernel
theorem dX8_readCopy_30 : decode cX8_readCopy 30 = .ok (.lstore_n 3, 1) := by decide +kernel
theorem dX8_readCopy_31 : decode cX8_readCopy 31 = .ok (.aload_n 0, 1) := by decide +kernel
theorem dX8_readCopy_32 : decode cX8_readCopy 32 = .ok (.getfield 18, 3) := by decide +kernel
theorem dX8_readCopy_35 : decode cX8_readCopy 35 = .ok (.iload_n 1, 1) := by decide +kernel
theorem dX8_readCopy_36 : decode cX8_readCopy 36 = .ok (.iconst 1, 1) := by decide +kernel
theorem dX8_readCopy_37 : decode cX8_readCopy 37 = .ok (.if_icmp .ne 10, 3) := by decide +kernel
theorem dX8_readCopy_40 : decode cX8_readCopy 40 = .ok (.lload_n 3, 1) := by decide +kernel
theorem dX8_readCopy_41 : decode cX8_readCopy 41 = .ok (.invokestatic 150, 3) := by decide +kernel
theorem dX8_readCopy_44 : decode cX8_readCopy 44 = .ok (.goto 7, 3) := by decide +kernel
theorem dX8_readCopy_47 : decode cX8_readCopy 47 = .ok (.lload_n 3, 1) := by decide +kernel
theorem dX8_readCopy_48 : decode cX8_readCopy 48 = .ok (.invokestatic 154, 3) := by decide +kernel
theorem dX8_readCopy_51 : decode cX8_readCopy 51 = .ok (.invokevirtual 78, 3) := by decide +kernel
theorem dX8_readCopy_54 : decode cX8_readCopy 54 = .ok (.return_, 1) := by decide +kernel
theorem dX8_readSpread_0 : decode cX8_readSpread 0 = .ok (.aload_n 0, 1) := by decide +kernel
theorem dX8_readSpread_1 : decode cX8_readSpread 1 = .ok (.iconst 1, 1) := by decide +kernel
theorem dX8_readSpread_2 : decode cX8_readSpread 2 = .ok (.bipush 9, 2) := by decide +kernel
theorem dX8_readSpread_4 : decode cX8_readSpread 4 = .ok (.invokevirtual 125, 3) := by decide +kernel
theorem dX8_readSpread_7 : decode cX8_readSpread 7 = .ok (.istore_n 1, 1) := by decide +kernel
theorem dX8_readSpread_8 : decode cX8_readSpread 8 = .ok (.aload_n 0, 1) := by decide +kernel
theorem dX8_readSpread_9 : decode cX8_readSpread 9 = .ok (.iconst 0, 1) := by decide +kernel
theorem dX8_readSpread_10 : decode cX8_readSpread 10 = .ok (.bipush 16, 2) := by decide +kernel
theorem dX8_readSpread_12 : decode cX8_readSpread 12 = .ok (.invokevirtual 125, 3) := by decide +kernel
theorem dX8_readSpread_15 : decode cX8_readSpread 15 = .ok (.istore_n 2, 1) := by decide +kernel
theorem dX8_readSpread_16 : decode cX8_readSpread 16 = .ok (.aload_n 0, 1) := by decide +kernel
theorem dX8_readSpread_17 : decode cX8_readSpread 17 = .ok (.getfield 32, 3) := by decide +kernel
theorem dX8_readSpread_20 : decode cX8_readSpread 20 = .ok (.ifCond .ne 30, 3) := by decide +kernel
theorem dX8_readSpread_23 : decode cX8_readSpread 23 = .ok (.iload_n 1, 1) := by decide +kernel
theorem dX8_readSpread_24 : decode cX8_readSpread 24 = .ok (.iconst 1, 1) := by decide +kernel
theorem dX8_readSpread_25 : decode cX8_readSpread 25 = .ok (.if_icmp .lt 25, 3) := by decide +kernel
theorem dX8_readSpread_28 : decode cX8_readSpread 28 = .ok (.iload_n 1, 1) := by decide +kernel
theorem dX8_readSpread_29 : decode cX8_readSpread 29 = .ok (.aload_n 0, 1) := by decide +kernel
theorem dX8_readSpread_30 : decode cX8_readSpread 30 = .ok (.getfield 18, 3) := by decide +kernel
theorem dX8_readSpread_33 : decode cX8_readSpread 33 = .ok (.getfield 157, 3) := by decide +kernel
theorem dX8_readSpread_36 : decode cX8_readSpread 36 = .ok (.arraylength, 1) := by decide +kernel
theorem dX8_readSpread_37 : decode cX8_readSpread 37 = .ok (.if_icmp .ge 13, 3) := by decide +kernel
theorem dX8_readSpread_40 : decode cX8_readSpread 40 = .ok (.aload_n 0, 1) := by decide +kernel
theorem dX8_readSpread_41 : decode cX8_readSpread 41 = .ok (.getfield 18, 3) := by decide +kernel
theorem dX8_readSpread_44 : decode cX8_readSpread 44 = .ok (.getfield 157, 3) := by decide +kernel
theorem dX8_readSpread_47 : decode cX8_readSpread 47 = .ok (.iload_n 1, 1) := by decide +kernel
theorem dX8_readSpread_48 : decode cX8_readSpread 48 = .ok (.iload_n 2, 1) := by decide +kernel
theorem dX8_readSpread_49 : decode cX8_readSpread 49 = .ok (.iastore, 1) := by decide +kernel
theorem dX8_readSpread_50 : decode cX8_readSpread 50 = .ok (.return_, 1) := by decide +kernel
theorem dX8_readLettersOfWord_0 : decode cX8_readLettersOfWord 0 = .ok (.aload_n 0, 1) := by decide +kernel
theorem dX8_readLettersOfWord_1 : decode cX8_readLettersOfWord 1 = .ok (.invokevirtual 47, 3) := by decide +kernel
theorem dX8_readLettersOfWord_4 : decode cX8_readLettersOfWord 4 = .ok (.aload_n 0, 1) := by decide +kernel
theorem dX8_readLettersOfWord_5 : decode cX8_readLettersOfWord 5 = .ok (.getfield 29, 3) := by decide +kernel
theorem dX8_readLettersOfWord_8 : decode cX8_readLettersOfWord 8 = .ok (.istore_n 1, 1) := by decide +kernel
theorem dX8_readLettersOfWord_9 : decode cX8_readLettersOfWord 9 = .ok (.iconst 0, 1) := by decide +kernel
theorem dX8_readLettersOfWord_10 : decode cX8_readLettersOfWord 10 = .ok (.istore_n 2, 1) := by decide +kernel
theorem dX8_readLettersOfWord_11 : decode cX8_readLettersOfWord 11 = .ok (.aload_n 0, 1) := by decide +kernel
theorem dX8_readLettersOfWord_12 : decode cX8_readLettersOfWord 12 = .ok (.getfield 18, 3) := by decide +kernel
theorem dX8_readLettersOfWord_15 : decode cX8_readLettersOfWord 15 = .ok (.getfield 94, 3) := by decide +kernel
theorem dX8_readLettersOfWord_18 : decode cX8_readLettersOfWord 18 = .ok (.bipush 6, 2) := by decide +kernel
theorem dX8_readLettersOfWord_20 : decode cX8_readLettersOfWord 20 = .ok (.if_icmp .ge 7, 3) := by decide +kernel
theorem dX8_readLettersOfWord_23 : decode cX8_readLettersOfWord 23 = .ok (.iconst 1, 1) := by decide +kernel
theorem dX8_readLettersOfWord_24 : decode cX8_readLettersOfWord 24 = .ok (.goto 4, 3) := by decide +kernel
theorem dX8_readLettersOfWord_27 : decode cX8_readLettersOfWord 27 = .ok (.iconst 0, 1) := by decide +kernel
theorem dX8_readLettersOfWord_28 : decode cX8_readLettersOfWord 28 = .ok (.istore_n 3, 1) := by decide +kernel
theorem dX8_readLettersOfWord_29 : decode cX8_readLettersOfWord 29 = .ok (.iconst 0, 1) := by decide +kernel
theorem dX8_readLettersOfWord_30 : decode cX8_readLettersOfWord 30 = .ok (.istore 4, 2) := by decide +kernel
theorem dX8_readLettersOfWord_32 : decode cX8_readLettersOfWord 32 = .ok (.iload 4, 2) := by decide +kernel
theorem dX8_readLettersOfWord_34 : decode cX8_readLettersOfWord 34 = .ok (.sipush 500, 3) := by decide +kernel
theorem dX8_readLettersOfWord_37 : decode cX8_readLettersOfWord 37 = .ok (.if_icmp .ge 92, 3) := by decide +kernel
theorem dX8_readLettersOfWord_40 : decode cX8_readLettersOfWord 40 = .ok (.aload_n 0, 1) := by decide +kernel
theorem dX8_readLettersOfWord_41 : decode cX8_readLettersOfWord 41 = .ok (.invokevirtual 159, 3) := by decide +kernel
theorem dX8_readLettersOfWord_44 : decode cX8_readLettersOfWord 44 = .ok (.ifCond .eq 85, 3) := by decide +kernel
theorem dX8_readLettersOfWord_47 : decode cX8_readLettersOfWord 47 = .ok (.aload_n 0, 1) := by decide +kernel
theorem dX8_readLettersOfWord_48 : decode cX8_readLettersOfWord 48 = .ok (.invokevirtual 54, 3) := by decide +kernel
theorem dX8_readLettersOfWord_51 : decode cX8_readLettersOfWord 51 = .ok (.bipush 48, 2) := by decide +kernel
theorem dX8_readLettersOfWord_53 : decode cX8_readLettersOfWord 53 = .ok (.isub, 1) := by decide +kernel
theorem dX8_readLettersOfWord_54 : decode cX8_readLettersOfWord 54 = .ok (.istore 5, 2) := by decide +kernel
theorem dX8_readLettersOfWord_56 : decode cX8_readLettersOfWord 56 = .ok (.iload_n 3, 1) := by decide +kernel
theorem dX8_readLettersOfWord_57 : decode cX8_readLettersOfWord 57 = .ok (.ifCond .eq 25, 3) := by decide +kernel
theorem dX8_readLettersOfWord_60 : decode cX8_readLettersOfWord 60 = .ok (.iload_n 2, 1) := by decide +kernel
theorem dX8_readLettersOfWord_61 : decode cX8_readLettersOfWord 61 = .ok (.bipush 8, 2) := by decide +kernel
theorem dX8_readLettersOfWord_63 : decode cX8_readLettersOfWord 63 = .ok (.if_icmp .ge 19, 3) := by decide +kernel
theorem dX8_readLettersOfWord_66 : decode cX8_readLettersOfWord 66 = .ok (.iload 5, 2) := by decide +kernel
theorem dX8_readLettersOfWord_68 : decode cX8_readLettersOfWord 68 = .ok (.aload_n 0, 1) := by decide +kernel
theorem dX8_readLettersOfWord_69 : decode cX8_readLettersOfWord 69 = .ok (.getfield 18, 3) := by decide +kernel
theorem dX8_readLettersOfWord_72 : decode cX8_readLettersOfWord 72 = .ok (.getfield 61, 3) := by decide +kernel
theorem dX8_readLettersOfWord_75 : decode cX8_readLettersOfWord 75 = .ok (.if_icmp .ge 7, 3) := by decide +kernel
theorem dX8_readLettersOfWord_78 : decode cX8_readLettersOfWord 78 = .ok (.iconst 1, 1) := by decide +kernel
theorem dX8_readLettersOfWord_79 : decode cX8_readLettersOfWord 79 = .ok (.goto 4, 3) := by decide +kernel
theorem dX8_readLettersOfWord_82 : decode cX8_readLettersOfWord 82 = .ok (.iconst 0, 1) := by decide +kernel
theorem dX8_readLettersOfWord_83 : decode cX8_readLettersOfWord 83 = .ok (.istore_n 3, 1) := by decide +kernel
theorem dX8_readLettersOfWord_84 : decode cX8_readLettersOfWord 84 = .ok (.iload_n 3, 1) := by decide +kernel
theorem dX8_readLettersOfWord_85 : decode cX8_readLettersOfWord 85 = .ok (.ifCond .eq 28, 3) := by decide +kernel
theorem dX8_readLettersOfWord_88 : decode cX8_readLettersOfWord 88 = .ok (.aload_n 0, 1) := by decide +kernel
theorem dX8_readLettersOfWord_89 : decode cX8_readLettersOfWord 89 = .ok (.getfield 18, 3) := by decide +kernel
theorem dX8_readLettersOfWord_92 : decode cX8_readLettersOfWord 92 = .ok (.getfield 163, 3) := by decide +kernel
theorem dX8_readLettersOfWord_95 : decode cX8_readLettersOfWord 95 = .ok (.bipush 8, 2) := by decide +kernel
theorem dX8_readLettersOfWord_97 : decode cX8_readLettersOfWord 97 = .ok (.aload_n 0, 1) := by decide +kernel
theorem dX8_readLettersOfWord_98 : decode cX8_readLettersOfWord 98 = .ok (.getfield 18, 3) := by decide +kernel
theorem dX8_readLettersOfWord_101 : decode cX8_readLettersOfWord 101 = .ok (.getfield 94, 3) := by decide +kernel
theorem dX8_readLettersOfWord_104 : decode cX8_readLettersOfWord 104 = .ok (.imul, 1) := by decide +kernel
theorem dX8_readLettersOfWord_105 : decode cX8_readLettersOfWord 105 = .ok (.iload_n 2, 1) := by decide +kernel
theorem dX8_readLettersOfWord_106 : decode cX8_readLettersOfWord 106 = .ok (.iadd, 1) := by decide +kernel
theorem dX8_readLettersOfWord_107 : decode cX8_readLettersOfWord 107 = .ok (.iload 5, 2) := by decide +kernel
theorem dX8_readLettersOfWord_109 : decode cX8_readLettersOfWord 109 = .ok (.iastore, 1) := by decide +kernel
theorem dX8_readLettersOfWord_110 : decode cX8_readLettersOfWord 110 = .ok (.iinc 2 1, 3) := by decide +kernel
theorem dX8_readLettersOfWord_113 : decode cX8_readLettersOfWord 113 = .ok (.aload_n 0, 1) := by decide +kernel
theorem dX8_readLettersOfWord_114 : decode cX8_readLettersOfWord 114 = .ok (.dup, 1) := by decide +kernel
theorem dX8_readLettersOfWord_115 : decode cX8_readLettersOfWord 115 = .ok (.getfield 29, 3) := by decide +kernel
theorem dX8_readLettersOfWord_118 : decode cX8_readLettersOfWord 118 = .ok (.iconst 1, 1) := by decide +kernel
theorem dX8_readLettersOfWord_119 : decode cX8_readLettersOfWord 119 = .ok (.iadd, 1) := by decide +kernel
theorem dX8_readLettersOfWord_120 : decode cX8_readLettersOfWord 120 = .ok (.putfield 29, 3) := by decide +kernel
theorem dX8_readLettersOfWord_123 : decode cX8_readLettersOfWord 123 = .ok (.iinc 4 1, 3) := by decide +kernel
theorem dX8_readLettersOfWord_126 : decode cX8_readLettersOfWord 126 = .ok (.goto (-94), 3) := by decide +kernel
theorem dX8_readLettersOfWord_129 : decode cX8_readLettersOfWord 129 = .ok (.aload_n 0, 1) := by decide +kernel
theorem dX8_readLettersOfWord_130 : decode cX8_readLettersOfWord 130 = .ok (.getfield 29, 3) := by decide +kernel
theorem dX8_readLettersOfWord_133 : decode cX8_readLettersOfWord 133 = .ok (.iload_n 1, 1) := by decide +kernel
theorem dX8_readLettersOfWord_134 : decode cX8_readLettersOfWord 134 = .ok (.if_icmp .ne 12, 3) := by decide +kernel
theorem dX8_readLettersOfWord_137 : decode cX8_readLettersOfWord 137 = .ok (.aload_n 0, 1) := by decide +kernel
theorem dX8_readLettersOfWord_138 : decode cX8_readLettersOfWord 138 = .ok (.iconst 1, 1) := by decide +kernel
theorem dX8_readLettersOfWord_139 : decode cX8_readLettersOfWord 139 = .ok (.iload_n 1, 1) := by decide +kernel
theorem dX8_readLettersOfWord_140 : decode cX8_readLettersOfWord 140 = .ok (.invokevirtual 64, 3) := by decide +kernel
theorem dX8_readLettersOfWord_143 : decode cX8_readLettersOfWord 143 = .ok (.goto 45, 3) := by decide +kernel
theorem dX8_readLettersOfWord_146 : decode cX8_readLettersOfWord 146 = .ok (.iload_n 3, 1) := by decide +kernel
theorem dX8_readLettersOfWord_147 : decode cX8_readLettersOfWord 147 = .ok (.ifCond .ne 12, 3) := by decide +kernel
theorem dX8_readLettersOfWord_150 : decode cX8_readLettersOfWord 150 = .ok (.aload_n 0, 1) := by decide +kernel
theorem dX8_readLettersOfWord_151 : decode cX8_readLettersOfWord 151 = .ok (.iconst 2, 1) := by decide +kernel
theorem dX8_readLettersOfWord_152 : decode cX8_readLettersOfWord 152 = .ok (.iload_n 1, 1) := by decide +kernel
theorem dX8_readLettersOfWord_153 : decode cX8_readLettersOfWord 153 = .ok (.invokevirtual 64, 3) := by decide +kernel
theorem dX8_readLettersOfWord_156 : decode cX8_readLettersOfWord 156 = .ok (.goto 32, 3) := by decide +kernel
theorem dX8_readLettersOfWord_159 : decode cX8_readLettersOfWord 159 = .ok (.aload_n 0, 1) := by decide +kernel
theorem dX8_readLettersOfWord_160 : decode cX8_readLettersOfWord 160 = .ok (.getfield 18, 3) := by decide +kernel
theorem dX8_readLettersOfWord_163 : decode cX8_readLettersOfWord 163 = .ok (.getfield 166, 3) := by decide +kernel
theorem dX8_readLettersOfWord_166 : decode cX8_readLettersOfWord 166 = .ok (.aload_n 0, 1) := by decide +kernel
theorem dX8_readLettersOfWord_167 : decode cX8_readLettersOfWord 167 = .ok (.getfield 18, 3) := by decide +kernel
theorem dX8_readLettersOfWord_170 : decode cX8_readLettersOfWord 170 = .ok (.getfield 94, 3) := by decide +kernel
theorem dX8_readLettersOfWord_173 : decode cX8_readLettersOfWord 173 = .ok (.iload_n 2, 1) := by decide +kernel
theorem dX8_readLettersOfWord_174 : decode cX8_readLettersOfWord 174 = .ok (.iastore, 1) := by decide +kernel
theorem dX8_readLettersOfWord_175 : decode cX8_readLettersOfWord 175 = .ok (.aload_n 0, 1) := by decide +kernel
theorem dX8_readLettersOfWord_176 : decode cX8_readLettersOfWord 176 = .ok (.getfield 18, 3) := by decide +kernel
theorem dX8_readLettersOfWord_179 : decode cX8_readLettersOfWord 179 = .ok (.dup, 1) := by decide +kernel
theorem dX8_readLettersOfWord_180 : decode cX8_readLettersOfWord 180 = .ok (.getfield 94, 3) := by decide +kernel
theorem dX8_readLettersOfWord_183 : decode cX8_readLettersOfWord 183 = .ok (.iconst 1, 1) := by decide +kernel
theorem dX8_readLettersOfWord_184 : decode cX8_readLettersOfWord 184 = .ok (.iadd, 1) := by decide +kernel
theorem dX8_readLettersOfWord_185 : decode cX8_readLettersOfWord 185 = .ok (.putfield 94, 3) := by decide +kernel
theorem dX8_readLettersOfWord_188 : decode cX8_readLettersOfWord 188 = .ok (.return_, 1) := by decide +kernel
theorem dX8_readNumber_0 : decode cX8_readNumber 0 = .ok (.aload_n 0, 1) := by decide +kernel
theorem dX8_readNumber_1 : decode cX8_readNumber 1 = .ok (.getfield 32, 3) := by decide +kernel
theorem dX8_readNumber_4 : decode cX8_readNumber 4 = .ok (.ifCond .eq 5, 3) := by decide +kernel
theorem dX8_readNumber_7 : decode cX8_readNumber 7 = .ok (.iload_n 1, 1) := by decide +kernel
theorem dX8_readNumber_8 : decode cX8_readNumber 8 = .ok (.ireturn, 1) := by decide +kernel
theorem dX8_readNumber_9 : decode cX8_readNumber 9 = .ok (.aload_n 0, 1) := by decide +kernel
theorem dX8_readNumber_10 : decode cX8_readNumber 10 = .ok (.invokevirtual 47, 3) := by decide +kernel
theorem dX8_readNumber_13 : decode cX8_readNumber 13 = .ok (.aload_n 0, 1) := by decide +kernel
theorem dX8_readNumber_14 : decode cX8_readNumber 14 = .ok (.getfield 29, 3) := by decide +kernel
theorem dX8_readNumber_17 : decode cX8_readNumber 17 = .ok (.istore_n 3, 1) := by decide +kernel
theorem dX8_readNumber_18 : decode cX8_readNumber 18 = .ok (.iconst 0, 1) := by decide +kernel
theorem dX8_readNumber_19 : decode cX8_readNumber 19 = .ok (.istore 4, 2) := by decide +kernel
theorem dX8_readNumber_21 : decode cX8_readNumber 21 = .ok (.iconst 0, 1) := by decide +kernel
theorem dX8_readNumber_22 : decode cX8_readNumber 22 = .ok (.istore 5, 2) := by decide +kernel
theorem dX8_readNumber_24 : decode cX8_readNumber 24 = .ok (.iload 5, 2) := by decide +kernel
theorem dX8_readNumber_26 : decode cX8_readNumber 26 = .ok (.sipush 500, 3) := by decide +kernel
theorem dX8_readNumber_29 : decode cX8_readNumber 29 = .ok (.if_icmp .ge 47, 3) := by decide +kernel
theorem dX8_readNumber_32 : decode cX8_readNumber 32 = .ok (.aload_n 0, 1) := by decide +kernel
theorem dX8_readNumber_33 : decode cX8_readNumber 33 = .ok (.invokevirtual 159, 3) := by decide +kernel
theorem dX8_readNumber_36 : decode cX8_readNumber 36 = .ok (.ifCond .eq 40, 3) := by decide +kernel
theorem dX8_readNumber_39 : decode cX8_readNumber 39 = .ok (.bipush 10, 2) := by decide +kernel
theorem dX8_readNumber_41 : decode cX8_readNumber 41 = .ok (.iload 4, 2) := by decide +kernel
theorem dX8_readNumber_43 : decode cX8_readNumber 43 = .ok (.imul, 1) := by decide +kernel
theorem dX8_readNumber_44 : decode cX8_readNumber 44 = .ok (.aload_n 0, 1) := by decide +kernel
theorem dX8_readNumber_45 : decode cX8_readNumber 45 = .ok (.invokevirtual 54, 3) := by decide +kernel
theorem dX8_readNumber_48 : decode cX8_readNumber 48 = .ok (.iadd, 1) := by decide +kernel
theorem dX8_readNumber_49 : decode cX8_readNumber 49 = .ok (.bipush 48, 2) := by decide +kernel
theorem dX8_readNumber_51 : decode cX8_readNumber 51 = .ok (.isub, 1) := by decide +kernel
theorem dX8_readNumber_52 : decode cX8_readNumber 52 = .ok (.sipush 1000, 3) := by decide +kernel
theorem dX8_readNumber_55 : decode cX8_readNumber 55 = .ok (.invokestatic 38, 3) := by decide +kernel
theorem dX8_readNumber_58 : decode cX8_readNumber 58 = .ok (.istore 4, 2) := by decide +kernel
theorem dX8_readNumber_60 : decode cX8_readNumber 60 = .ok (.aload_n 0, 1) := by decide +kernel
theorem dX8_readNumber_61 : decode cX8_readNumber 61 = .ok (.dup, 1) := by decide +kernel
theorem dX8_readNumber_62 : decode cX8_readNumber 62 = .ok (.getfield 29, 3) := by decide +kernel
theorem dX8_readNumber_65 : decode cX8_readNumber 65 = .ok (.iconst 1, 1) := by decide +kernel
theorem dX8_readNumber_66 : decode cX8_readNumber 66 = .ok (.iadd, 1) := by decide +kernel
theorem dX8_readNumber_67 : decode cX8_readNumber 67 = .ok (.putfield 29, 3) := by decide +kernel
theorem dX8_readNumber_70 : decode cX8_readNumber 70 = .ok (.iinc 5 1, 3) := by decide +kernel
theorem dX8_readNumber_73 : decode cX8_readNumber 73 = .ok (.goto (-49), 3) := by decide +kernel
theorem dX8_readNumber_76 : decode cX8_readNumber 76 = .ok (.aload_n 0, 1) := by decide +kernel
theorem dX8_readNumber_77 : decode cX8_readNumber 77 = .ok (.getfield 29, 3) := by decide +kernel
theorem dX8_readNumber_80 : decode cX8_readNumber 80 = .ok (.iload_n 3, 1) := by decide +kernel
theorem dX8_readNumber_81 : decode cX8_readNumber 81 = .ok (.if_icmp .ne 12, 3) := by decide +kernel
theorem dX8_readNumber_84 : decode cX8_readNumber 84 = .ok (.aload_n 0, 1) := by decide +kernel
theorem dX8_readNumber_85 : decode cX8_readNumber 85 = .ok (.iconst 1, 1) := by decide +kernel
theorem dX8_readNumber_86 : decode cX8_readNumber 86 = .ok (.iload_n 3, 1) := by decide +kernel
theorem dX8_readNumber_87 : decode cX8_readNumber 87 = .ok (.invokevirtual 64, 3) := by decide +kernel
theorem dX8_readNumber_90 : decode cX8_readNumber 90 = .ok (.goto 21, 3) := by decide +kernel
theorem dX8_readNumber_93 : decode cX8_readNumber 93 = .ok (.iload 4, 2) := by decide +kernel
theorem dX8_readNumber_95 : decode cX8_readNumber 95 = .ok (.iload_n 1, 1) := by decide +kernel
theorem dX8_readNumber_96 : decode cX8_readNumber 96 = .ok (.if_icmp .lt 9, 3) := by decide +kernel
theorem dX8_readNumber_99 : decode cX8_readNumber 99 = .ok (.iload 4, 2) := by decide +kernel
theorem dX8_readNumber_101 : decode cX8_readNumber 101 = .ok (.iload_n 2, 1) := by decide +kernel
theorem dX8_readNumber_102 : decode cX8_readNumber 102 = .ok (.if_icmp .le 9, 3) := by decide +kernel
theorem dX8_readNumber_105 : decode cX8_readNumber 105 = .ok (.aload_n 0, 1) := by decide +kernel
theorem dX8_readNumber_106 : decode cX8_readNumber 106 = .ok (.iconst 2, 1) := by decide +kernel
theorem dX8_readNumber_107 : decode cX8_readNumber 107 = .ok (.iload_n 3, 1) := by decide +kernel
theorem dX8_readNumber_108 : decode cX8_readNumber 108 = .ok (.invokevirtual 64, 3) := by decide +kernel
theorem dX8_readNumber_111 : decode cX8_readNumber 111 = .ok (.iload 4, 2) := by decide +kernel
theorem dX8_readNumber_113 : decode cX8_readNumber 113 = .ok (.ireturn, 1) := by decide +kernel
theorem dX8_readSemicolon_0 : decode cX8_readSemicolon 0 = .ok (.aload_n 0, 1) := by decide +kernel
theorem dX8_readSemicolon_1 : decode cX8_readSemicolon 1 = .ok (.getfield 32, 3) := by decide +kernel
theorem dX8_readSemicolon_4 : decode cX8_readSemicolon 4 = .ok (.ifCond .eq 4, 3) := by decide +kernel
theorem dX8_readSemicolon_7 : decode cX8_readSemicolon 7 = .ok (.return_, 1) := by decide +kernel
theorem dX8_readSemicolon_8 : decode cX8_readSemicolon 8 = .ok (.aload_n 0, 1) := by decide +kernel
theorem dX8_readSemicolon_9 : decode cX8_readSemicolon 9 = .ok (.invokevirtual 47, 3) := by decide +kernel
theorem dX8_readSemicolon_12 : decode cX8_readSemicolon 12 = .ok (.aload_n 0, 1) := by decide +kernel
theorem dX8_readSemicolon_13 : decode cX8_readSemicolon 13 = .ok (.invokevirtual 54, 3) := by decide +kernel
theorem dX8_readSemicolon_16 : decode cX8_readSemicolon 16 = .ok (.bipush 59, 2) := by decide +kernel
theorem dX8_readSemicolon_18 : decode cX8_readSemicolon 18 = .ok (.if_icmp .ne 16, 3) := by decide +kernel
theorem dX8_readSemicolon_21 : decode cX8_readSemicolon 21 = .ok (.aload_n 0, 1) := by decide +kernel
theorem dX8_readSemicolon_22 : decode cX8_readSemicolon 22 = .ok (.dup, 1) := by decide +kernel
theorem dX8_readSemicolon_23 : decode cX8_readSemicolon 23 = .ok (.getfield 29, 3) := by decide +kernel
theorem dX8_readSemicolon_26 : decode cX8_readSemicolon 26 = .ok (.iconst 1, 1) := by decide +kernel
theorem dX8_readSemicolon_27 : decode cX8_readSemicolon 27 = .ok (.iadd, 1) := by decide +kernel
theorem dX8_readSemicolon_28 : decode cX8_readSemicolon 28 = .ok (.putfield 29, 3) := by decide +kernel
theorem dX8_readSemicolon_31 : decode cX8_readSemicolon 31 = .ok (.goto 12, 3) := by decide +kernel
theorem dX8_readSemicolon_34 : decode cX8_readSemicolon 34 = .ok (.aload_n 0, 1) := by decide +kernel
theorem dX8_readSemicolon_35 : decode cX8_readSemicolon 35 = .ok (.iconst 1, 1) := by decide +kernel
theorem dX8_readSemicolon_36 : decode cX8_readSemicolon 36 = .ok (.aload_n 0, 1) := by decide +kernel
theorem dX8_readSemicolon_37 : decode cX8_readSemicolon 37 = .ok (.getfield 29, 3) := by decide +kernel
theorem dX8_readSemicolon_40 : decode cX8_readSemicolon 40 = .ok (.invokevirtual 64, 3) := by decide +kernel
theorem dX8_readSemicolon_43 : decode cX8_readSemicolon 43 = .ok (.return_, 1) := by decide +kernel

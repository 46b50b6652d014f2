theorem dX10_blows_10 : decode cX10_blows 10 = .ok (.getfield 50, 3) := by decide +kernel
theorem dX10_blows_13 : decode cX10_blows 13 = .ok (.iload_n 1, 1) := by decide +kernel
theorem dX10_blows_14 : decode cX10_blows 14 = .ok (.laload, 1) := by decide +kernel
theorem dX10_blows_15 : decode cX10_blows 15 = .ok (.ldc2_w 195, 3) := by decide +kernel
theorem dX10_blows_18 : decode cX10_blows 18 = .ok (.lxor, 1) := by decide +kernel
theorem dX10_blows_19 : decode cX10_blows 19 = .ok (.land, 1) := by decide +kernel
theorem dX10_blows_20 : decode cX10_blows 20 = .ok (.aload_n 0, 1) := by decide +kernel
theorem dX10_blows_21 : decode cX10_blows 21 = .ok (.getfield 207, 3) := by decide +kernel
theorem dX10_blows_24 : decode cX10_blows 24 = .ok (.ldc2_w 195, 3) := by decide +kernel
theorem dX10_blows_27 : decode cX10_blows 27 = .ok (.lxor, 1) := by decide +kernel
theorem dX10_blows_28 : decode cX10_blows 28 = .ok (.land, 1) := by decide +kernel
theorem dX10_blows_29 : decode cX10_blows 29 = .ok (.lconst 0, 1) := by decide +kernel
theorem dX10_blows_30 : decode cX10_blows 30 = .ok (.lcmp, 1) := by decide +kernel
theorem dX10_blows_31 : decode cX10_blows 31 = .ok (.ifCond .eq 7, 3) := by decide +kernel
theorem dX10_blows_34 : decode cX10_blows 34 = .ok (.iconst 1, 1) := by decide +kernel
theorem dX10_blows_35 : decode cX10_blows 35 = .ok (.goto 4, 3) := by decide +kernel
theorem dX10_blows_38 : decode cX10_blows 38 = .ok (.iconst 0, 1) := by decide +kernel
theorem dX10_blows_39 : decode cX10_blows 39 = .ok (.istore_n 2, 1) := by decide +kernel
theorem dX10_blows_40 : decode cX10_blows 40 = .ok (.aload_n 0, 1) := by decide +kernel
theorem dX10_blows_41 : decode cX10_blows 41 = .ok (.dup, 1) := by decide +kernel
theorem dX10_blows_42 : decode cX10_blows 42 = .ok (.getfield 207, 3) := by decide +kernel
theorem dX10_blows_45 : decode cX10_blows 45 = .ok (.aload_n 0, 1) := by decide +kernel
theorem dX10_blows_46 : decode cX10_blows 46 = .ok (.getfield 50, 3) := by decide +kernel
theorem dX10_blows_49 : decode cX10_blows 49 = .ok (.iload_n 1, 1) := by decide +kernel
theorem dX10_blows_50 : decode cX10_blows 50 = .ok (.laload, 1) := by decide +kernel
theorem dX10_blows_51 : decode cX10_blows 51 = .ok (.ldc2_w 195, 3) := by decide +kernel
theorem dX10_blows_54 : decode cX10_blows 54 = .ok (.lxor, 1) := by decide +kernel
theorem dX10_blows_55 : decode cX10_blows 55 = .ok (.land, 1) := by decide +kernel
theorem dX10_blows_56 : decode cX10_blows 56 = .ok (.putfield 207, 3) := by decide +kernel
theorem dX10_blows_59 : decode cX10_blows 59 = .ok (.iload_n 2, 1) := by decide +kernel
theorem dX10_blows_60 : decode cX10_blows 60 = .ok (.ifCond .eq 25, 3) := by decide +kernel
theorem dX10_blows_63 : decode cX10_blows 63 = .ok (.aload_n 0, 1) := by decide +kernel
theorem dX10_blows_64 : decode cX10_blows 64 = .ok (.dup, 1) := by decide +kernel
theorem dX10_blows_65 : decode cX10_blows 65 = .ok (.getfield 207, 3) := by decide +kernel
theorem dX10_blows_68 : decode cX10_blows 68 = .ok (.aload_n 0, 1) := by decide +kernel
theorem dX10_blows_69 : decode cX10_blows 69 = .ok (.getfield 50, 3) := by decide +kernel
theorem dX10_blows_72 : decode cX10_blows 72 = .ok (.iload_n 1, 1) := by decide +kernel
theorem dX10_blows_73 : decode cX10_blows 73 = .ok (.laload, 1) := by decide +kernel
theorem dX10_blows_74 : decode cX10_blows 74 = .ok (.invokestatic 237, 3) := by decide +kernel
theorem dX10_blows_77 : decode cX10_blows 77 = .ok (.ldc2_w 195, 3) := by decide +kernel
theorem dX10_blows_80 : decode cX10_blows 80 = .ok (.lxor, 1) := by decide +kernel
theorem dX10_blows_81 : decode cX10_blows 81 = .ok (.land, 1) := by decide +kernel
theorem dX10_blows_82 : decode cX10_blows 82 = .ok (.putfield 207, 3) := by decide +kernel
theorem dX10_blows_85 : decode cX10_blows 85 = .ok (.iload_n 2, 1) := by decide +kernel
theorem dX10_blows_86 : decode cX10_blows 86 = .ok (.ireturn, 1) := by decide +kernel
theorem dX10_files_0 : decode cX10_files 0 = .ok (.iconst 0, 1) := by decide +kernel
theorem dX10_files_1 : decode cX10_files 1 = .ok (.istore 4, 2) := by decide +kernel
theorem dX10_files_3 : decode cX10_files 3 = .ok (.iload 4, 2) := by decide +kernel
theorem dX10_files_5 : decode cX10_files 5 = .ok (.iload_n 3, 1) := by decide +kernel
theorem dX10_files_6 : decode cX10_files 6 = .ok (.if_icmp .ge 83, 3) := by decide +kernel
theorem dX10_files_9 : decode cX10_files 9 = .ok (.iload_n 1, 1) := by decide +kernel
theorem dX10_files_10 : decode cX10_files 10 = .ok (.ifCond .ne 8, 3) := by decide +kernel
theorem dX10_files_13 : decode cX10_files 13 = .ok (.iload 4, 2) := by decide +kernel
theorem dX10_files_15 : decode cX10_files 15 = .ok (.goto 17, 3) := by decide +kernel
theorem dX10_files_18 : decode cX10_files 18 = .ok (.iload_n 1, 1) := by decide +kernel
theorem dX10_files_19 : decode cX10_files 19 = .ok (.iconst 1, 1) := by decide +kernel
theorem dX10_files_20 : decode cX10_files 20 = .ok (.if_icmp .ne 11, 3) := by decide +kernel
theorem dX10_files_23 : decode cX10_files 23 = .ok (.bipush 7, 2) := by decide +kernel
theorem dX10_files_25 : decode cX10_files 25 = .ok (.iload 4, 2) := by decide +kernel
theorem dX10_files_27 : decode cX10_files 27 = .ok (.isub, 1) := by decide +kernel
theorem dX10_files_28 : decode cX10_files 28 = .ok (.goto 4, 3) := by decide +kernel
theorem dX10_files_31 : decode cX10_files 31 = .ok (.iload_n 2, 1) := by decide +kernel
theorem dX10_files_32 : decode cX10_files 32 = .ok (.istore 5, 2) := by decide +kernel
theorem dX10_files_34 : decode cX10_files 34 = .ok (.iload_n 1, 1) := by decide +kernel
theorem dX10_files_35 : decode cX10_files 35 = .ok (.iconst 2, 1) := by decide +kernel
theorem dX10_files_36 : decode cX10_files 36 = .ok (.if_icmp .ne 8, 3) := by decide +kernel
theorem dX10_files_39 : decode cX10_files 39 = .ok (.iload 4, 2) := by decide +kernel
theorem dX10_files_41 : decode cX10_files 41 = .ok (.goto 17, 3) := by decide +kernel
theorem dX10_files_44 : decode cX10_files 44 = .ok (.iload_n 1, 1) := by decide +kernel
theorem dX10_files_45 : decode cX10_files 45 = .ok (.iconst 3, 1) := by decide +kernel
theorem dX10_files_46 : decode cX10_files 46 = .ok (.if_icmp .ne 11, 3) := by decide +kernel
theorem dX10_files_49 : decode cX10_files 49 = .ok (.bipush 7, 2) := by decide +kernel
theorem dX10_files_51 : decode cX10_files 51 = .ok (.iload 4, 2) := by decide +kernel
theorem dX10_files_53 : decode cX10_files 53 = .ok (.isub, 1) := by decide +kernel
theorem dX10_files_54 : decode cX10_files 54 = .ok (.goto 4, 3) := by decide +kernel
theorem dX10_files_57 : decode cX10_files 57 = .ok (.iload_n 2, 1) := by decide +kernel
theorem dX10_files_58 : decode cX10_files 58 = .ok (.istore 6, 2) := by decide +kernel
theorem dX10_files_60 : decode cX10_files 60 = .ok (.aload_n 0, 1) := by decide +kernel
theorem dX10_files_61 : decode cX10_files 61 = .ok (.dup, 1) := by decide +kernel
theorem dX10_files_62 : decode cX10_files 62 = .ok (.getfield 207, 3) := by decide +kernel
theorem dX10_files_65 : decode cX10_files 65 = .ok (.lconst 1, 1) := by decide +kernel
theorem dX10_files_66 : decode cX10_files 66 = .ok (.bipush 8, 2) := by decide +kernel
theorem dX10_files_68 : decode cX10_files 68 = .ok (.iload 6, 2) := by decide +kernel
theorem dX10_files_70 : decode cX10_files 70 = .ok (.imul, 1) := by decide +kernel
theorem dX10_files_71 : decode cX10_files 71 = .ok (.iload 5, 2) := by decide +kernel
theorem dX10_files_73 : decode cX10_files 73 = .ok (.iadd, 1) := by decide +kernel
theorem dX10_files_74 : decode cX10_files 74 = .ok (.lshl, 1) := by decide +kernel
theorem dX10_files_75 : decode cX10_files 75 = .ok (.ldc2_w 195, 3) := by decide +kernel
theorem dX10_files_78 : decode cX10_files 78 = .ok (.lxor, 1) := by decide +kernel
theorem dX10_files_79 : decode cX10_files 79 = .ok (.land, 1) := by decide +kernel
theorem dX10_files_80 : decode cX10_files 80 = .ok (.putfield 207, 3) := by decide +kernel
theorem dX10_files_83 : decode cX10_files 83 = .ok (.iinc 4 1, 3) := by decide +kernel
theorem dX10_files_86 : decode cX10_files 86 = .ok (.goto (-83), 3) := by decide +kernel
theorem dX10_files_89 : decode cX10_files 89 = .ok (.return_, 1) := by decide +kernel
theorem dX10_blow_0 : decode cX10_blow 0 = .ok (.aload_n 0, 1) := by decide +kernel
theorem dX10_blow_1 : decode cX10_blow 1 = .ok (.iconst 0, 1) := by decide +kernel
theorem dX10_blow_2 : decode cX10_blow 2 = .ok (.putfield 112, 3) := by decide +kernel
theorem dX10_blow_5 : decode cX10_blow 5 = .ok (.aload_n 0, 1) := by decide +kernel
theorem dX10_blow_6 : decode cX10_blow 6 = .ok (.aload_n 0, 1) := by decide +kernel
theorem dX10_blow_7 : decode cX10_blow 7 = .ok (.iload_n 1, 1) := by decide +kernel
theorem dX10_blow_8 : decode cX10_blow 8 = .ok (.invokevirtual 253, 3) := by decide +kernel
theorem dX10_blow_11 : decode cX10_blow 11 = .ok (.ifCond .ne 7, 3) := by decide +kernel
theorem dX10_blow_14 : decode cX10_blow 14 = .ok (.iconst 1, 1) := by decide +kernel
theorem dX10_blow_15 : decode cX10_blow 15 = .ok (.goto 4, 3) := by decide +kernel
theorem dX10_blow_18 : decode cX10_blow 18 = .ok (.iconst 0, 1) := by decide +kernel
theorem dX10_blow_19 : decode cX10_blow 19 = .ok (.iconst 1, 1) := by decide +kernel
theorem dX10_blow_20 : decode cX10_blow 20 = .ok (.invokevirtual 197, 3) := by decide +kernel
theorem dX10_blow_23 : decode cX10_blow 23 = .ok (.ifCond .eq 5, 3) := by decide +kernel
theorem dX10_blow_26 : decode cX10_blow 26 = .ok (.iconst 0, 1) := by decide +kernel
theorem dX10_blow_27 : decode cX10_blow 27 = .ok (.ireturn, 1) := by decide +kernel
theorem dX10_blow_28 : decode cX10_blow 28 = .ok (.aload_n 0, 1) := by decide +kernel
theorem dX10_blow_29 : decode cX10_blow 29 = .ok (.getfield 56, 3) := by decide +kernel
theorem dX10_blow_32 : decode cX10_blow 32 = .ok (.iconst (-1), 1) := by decide +kernel
theorem dX10_blow_33 : decode cX10_blow 33 = .ok (.if_icmp .ne 5, 3) := by decide +kernel
theorem dX10_blow_36 : decode cX10_blow 36 = .ok (.iconst (-1), 1) := by decide +kernel
theorem dX10_blow_37 : decode cX10_blow 37 = .ok (.ireturn, 1) := by decide +kernel
theorem dX10_blow_38 : decode cX10_blow 38 = .ok (.aload_n 0, 1) := by decide +kernel
theorem dX10_blow_39 : decode cX10_blow 39 = .ok (.getfield 53, 3) := by decide +kernel
theorem dX10_blow_42 : decode cX10_blow 42 = .ok (.iload_n 1, 1) := by decide +kernel
theorem dX10_blow_43 : decode cX10_blow 43 = .ok (.iaload, 1) := by decide +kernel
theorem dX10_blow_44 : decode cX10_blow 44 = .ok (.aload_n 0, 1) := by decide +kernel
theorem dX10_blow_45 : decode cX10_blow 45 = .ok (.getfield 56, 3) := by decide +kernel
theorem dX10_blow_48 : decode cX10_blow 48 = .ok (.if_icmp .eq 6, 3) := by decide +kernel
theorem dX10_blow_51 : decode cX10_blow 51 = .ok (.bipush (-2), 2) := by decide +kernel
theorem dX10_blow_53 : decode cX10_blow 53 = .ok (.ireturn, 1) := by decide +kernel
theorem dX10_blow_54 : decode cX10_blow 54 = .ok (.aload_n 0, 1) := by decide +kernel
theorem dX10_blow_55 : decode cX10_blow 55 = .ok (.getfield 207, 3) := by decide +kernel
theorem dX10_blow_58 : decode cX10_blow 58 = .ok (.invokestatic 243, 3) := by decide +kernel
theorem dX10_blow_61 : decode cX10_blow 61 = .ok (.istore_n 2, 1) := by decide +kernel
theorem dX10_blow_62 : decode cX10_blow 62 = .ok (.aload_n 0, 1) := by decide +kernel
theorem dX10_blow_63 : decode cX10_blow 63 = .ok (.iload_n 1, 1) := by decide +kernel
theorem dX10_blow_64 : decode cX10_blow 64 = .ok (.invokevirtual 296, 3) := by decide +kernel
theorem dX10_blow_67 : decode cX10_blow 67 = .ok (.ifCond .eq 8, 3) := by decide +kernel
theorem dX10_blow_70 : decode cX10_blow 70 = .ok (.aload_n 0, 1) := by decide +kernel
theorem dX10_blow_71 : decode cX10_blow 71 = .ok (.iconst 1, 1) := by decide +kernel
theorem dX10_blow_72 : decode cX10_blow 72 = .ok (.putfield 211, 3) := by decide +kernel
theorem dX10_blow_75 : decode cX10_blow 75 = .ok (.iload_n 2, 1) := by decide +kernel
theorem dX10_blow_76 : decode cX10_blow 76 = .ok (.aload_n 0, 1) := by decide +kernel
theorem dX10_blow_77 : decode cX10_blow 77 = .ok (.getfield 207, 3) := by decide +kernel
theorem dX10_blow_80 : decode cX10_blow 80 = .ok (.invokestatic 243, 3) := by decide +kernel
theorem dX10_blow_83 : decode cX10_blow 83 = .ok (.isub, 1) := by decide +kernel
theorem dX10_blow_84 : decode cX10_blow 84 = .ok (.ireturn, 1) := by decide +kernel
theorem dX10_isFile_0 : decode cX10_isFile 0 = .ok (.iload_n 0, 1) := by decide +kernel
theorem dX10_isFile_1 : decode cX10_isFile 1 = .ok (.iconst 0, 1) := by decide +kernel
theorem dX10_isFile_2 : decode cX10_isFile 2 = .ok (.iconst 3, 1) := by decide +kernel
theorem dX10_isFile_3 : decode cX10_isFile 3 = .ok (.invokestatic 146, 3) := by decide +kernel
theorem dX10_isFile_6 : decode cX10_isFile 6 = .ok (.ifCond .eq 27, 3) := by decide +kernel
theorem dX10_isFile_9 : decode cX10_isFile 9 = .ok (.iload_n 1, 1) := by decide +kernel
theorem dX10_isFile_10 : decode cX10_isFile 10 = .ok (.iconst 0, 1) := by decide +kernel
theorem dX10_isFile_11 : decode cX10_isFile 11 = .ok (.bipush 7, 2) := by decide +kernel
theorem dX10_isFile_13 : decode cX10_isFile 13 = .ok (.invokestatic 146, 3) := by decide +kernel
theorem dX10_isFile_16 : decode cX10_isFile 16 = .ok (.ifCond .eq 17, 3) := by decide +kernel
theorem dX10_isFile_19 : decode cX10_isFile 19 = .ok (.iload_n 2, 1) := by decide +kernel
theorem dX10_isFile_20 : decode cX10_isFile 20 = .ok (.iconst 1, 1) := by decide +kernel
theorem dX10_isFile_21 : decode cX10_isFile 21 = .ok (.bipush 8, 2) := by decide +kernel
theorem dX10_isFile_23 : decode cX10_isFile 23 = .ok (.invokestatic 146, 3) := by decide +kernel
theorem dX10_isFile_26 : decode cX10_isFile 26 = .ok (.ifCond .eq 7, 3) := by decide +kernel
theorem dX10_isFile_29 : decode cX10_isFile 29 = .ok (.iconst 1, 1) := by decide +kernel
theorem dX10_isFile_30 : decode cX10_isFile 30 = .ok (.goto 4, 3) := by decide +kernel
theorem dX10_isFile_33 : decode cX10_isFile 33 = .ok (.iconst 0, 1) := by decide +kernel
theorem dX10_isFile_34 : decode cX10_isFile 34 = .ok (.ireturn, 1) := by decide +kernel
theorem dX10_file_0 : decode cX10_file 0 = .ok (.aload_n 0, 1) := by decide +kernel
theorem dX10_file_1 : decode cX10_file 1 = .ok (.iconst 0, 1) := by decide +kernel
theorem dX10_file_2 : decode cX10_file 2 = .ok (.putfield 112, 3) := by decide +kernel
theorem dX10_file_5 : decode cX10_file 5 = .ok (.aload_n 0, 1) := by decide +kernel
theorem dX10_file_6 : decode cX10_file 6 = .ok (.iload_n 1, 1) := by decide +kernel
theorem dX10_file_7 : decode cX10_file 7 = .ok (.iload_n 2, 1) := by decide +kernel
theorem dX10_file_8 : decode cX10_file 8 = .ok (.iload_n 3, 1) := by decide +kernel
theorem dX10_file_9 : decode cX10_file 9 = .ok (.invokestatic 299, 3) := by decide +kernel
theorem dX10_file_12 : decode cX10_file 12 = .ok (.ifCond .ne 7, 3) := by decide +kernel
theorem dX10_file_15 : decode cX10_file 15 = .ok (.iconst 1, 1) := by decide +kernel
theorem dX10_file_16 : decode cX10_file 16 = .ok (.goto 4, 3) := by decide +kernel
theorem dX10_file_19 : decode cX10_file 19 = .ok (.iconst 0, 1) := by decide +kernel
theorem dX10_file_20 : decode cX10_file 20 = .ok (.iconst 1, 1) := by decide +kernel
theorem dX10_file_21 : decode cX10_file 21 = .ok (.invokevirtual 197, 3) := by decide +kernel
theorem dX10_file_24 : decode cX10_file 24 = .ok (.ifCond .eq 5, 3) := by decide +kernel
theorem dX10_file_27 : decode cX10_file 27 = .ok (.iconst 0, 1) := by decide +kernel
theorem dX10_file_28 : decode cX10_file 28 = .ok (.ireturn, 1) := by decide +kernel
theorem dX10_file_29 : decode cX10_file 29 = .ok (.aload_n 0, 1) := by decide +kernel
theorem dX10_file_30 : decode cX10_file 30 = .ok (.getfield 56, 3) := by decide +kernel
theorem dX10_file_33 : decode cX10_file 33 = .ok (.iconst (-1), 1) := by decide +kernel
theorem dX10_file_34 : decode cX10_file 34 = .ok (.if_icmp .ne 5, 3) := by decide +kernel
theorem dX10_file_37 : decode cX10_file 37 = .ok (.iconst (-1), 1) := by decide +kernel
theorem dX10_file_38 : decode cX10_file 38 = .ok (.ireturn, 1) := by decide +kernel
theorem dX10_file_39 : decode cX10_file 39 = .ok (.aload_n 0, 1) := by decide +kernel
theorem dX10_file_40 : decode cX10_file 40 = .ok (.getfield 207, 3) := by decide +kernel
theorem dX10_file_43 : decode cX10_file 43 = .ok (.invokestatic 243, 3) := by decide +kernel
theorem dX10_file_46 : decode cX10_file 46 = .ok (.istore 4, 2) := by decide +kernel
theorem dX10_file_48 : decode cX10_file 48 = .ok (.aload_n 0, 1) := by decide +kernel
theorem dX10_file_49 : decode cX10_file 49 = .ok (.iload_n 1, 1) := by decide +kernel
theorem dX10_file_50 : decode cX10_file 50 = .ok (.iload_n 2, 1) := by decide +kernel
theorem dX10_file_51 : decode cX10_file 51 = .ok (.iload_n 3, 1) := by decide +kernel
theorem dX10_file_52 : decode cX10_file 52 = .ok (.invokevirtual 302, 3) := by decide +kernel
theorem dX10_file_55 : decode cX10_file 55 = .ok (.iload 4, 2) := by decide +kernel
theorem dX10_file_57 : decode cX10_file 57 = .ok (.aload_n 0, 1) := by decide +kernel
theorem dX10_file_58 : decode cX10_file 58 = .ok (.getfield 207, 3) := by decide +kernel
theorem dX10_file_61 : decode cX10_file 61 = .ok (.invokestatic 243, 3) := by decide +kernel
theorem dX10_file_64 : decode cX10_file 64 = .ok (.isub, 1) := by decide +kernel
theorem dX10_file_65 : decode cX10_file 65 = .ok (.ireturn, 1) := by decide +kernel
theorem dX10_steel_0 : decode cX10_steel 0 = .ok (.aload_n 0, 1) := by decide +kernel
theorem dX10_steel_1 : decode cX10_steel 1 = .ok (.iconst 0, 1) := by decide +kernel
theorem dX10_steel_2 : decode cX10_steel 2 = .ok (.putfield 112, 3) := by decide +kernel
theorem dX10_steel_5 : decode cX10_steel 5 = .ok (.aload_n 0, 1) := by decide +kernel
theorem dX10_steel_6 : decode cX10_steel 6 = .ok (.getfield 56, 3) := by decide +kernel
theorem dX10_steel_9 : decode cX10_steel 9 = .ok (.iconst (-1), 1) := by decide +kernel
theorem dX10_steel_10 : decode cX10_steel 10 = .ok (.if_icmp .ne 7, 3) := by decide +kernel
theorem dX10_steel_13 : decode cX10_steel 13 = .ok (.lconst 0, 1) := by decide +kernel
theorem dX10_steel_14 : decode cX10_steel 14 = .ok (.goto 7, 3) := by decide +kernel
theorem dX10_steel_17 : decode cX10_steel 17 = .ok (.aload_n 0, 1) := by decide +kernel
theorem dX10_steel_18 : decode cX10_steel 18 = .ok (.getfield 207, 3) := by decide +kernel
theorem dX10_steel_21 : decode cX10_steel 21 = .ok (.lreturn, 1) := by decide +kernel
theorem dX10_isGood_0 : decode cX10_isGood 0 = .ok (.aload_n 0, 1) := by decide +kernel
theorem dX10_isGood_1 : decode cX10_isGood 1 = .ok (.getfield 27, 3) := by decide +kernel
theorem dX10_isGood_4 : decode cX10_isGood 4 = .ok (.iload_n 1, 1) := by decide +kernel
theorem dX10_isGood_5 : decode cX10_isGood 5 = .ok (.laload, 1) := by decide +kernel
theorem dX10_isGood_6 : decode cX10_isGood 6 = .ok (.aload_n 0, 1) := by decide +kernel
theorem dX10_isGood_7 : decode cX10_isGood 7 = .ok (.getfield 207, 3) := by decide +kernel
theorem dX10_isGood_10 : decode cX10_isGood 10 = .ok (.ldc2_w 195, 3) := by decide +kernel
theorem dX10_isGood_13 : decode cX10_isGood 13 = .ok (.lxor, 1) := by decide +kernel
theorem dX10_isGood_14 : decode cX10_isGood 14 = .ok (.land, 1) := by decide +kernel
theorem dX10_isGood_15 : decode cX10_isGood 15 = .ok (.lconst 0, 1) := by decide +kernel
theorem dX10_isGood_16 : decode cX10_isGood 16 = .ok (.lcmp, 1) := by decide +kernel
theorem dX10_isGood_17 : decode cX10_isGood 17 = .ok (.ifCond .ne 7, 3) := by decide +kernel
theorem dX10_isGood_20 : decode cX10_isGood 20 = .ok (.iconst 1, 1) := by decide +kernel
theorem dX10_isGood_21 : decode cX10_isGood 21 = .ok (.goto 4, 3) := by decide +kernel
theorem dX10_isGood_24 : decode cX10_isGood 24 = .ok (.iconst 0, 1) := by decide +kernel
theorem dX10_isGood_25 : decode cX10_isGood 25 = .ok (.ireturn, 1) := by decide +kernel
theorem dX10_punch_0 : decode cX10_punch 0 = .ok (.aload_n 0, 1) := by decide +kernel
theorem dX10_punch_1 : decode cX10_punch 1 = .ok (.iconst 0, 1) := by decide +kernel
theorem dX10_punch_2 : decode cX10_punch 2 = .ok (.putfield 112, 3) := by decide +kernel
theorem dX10_punch_5 : decode cX10_punch 5 = .ok (.aload_n 0, 1) := by decide +kernel
theorem dX10_punch_6 : decode cX10_punch 6 = .ok (.iload_n 1, 1) := by decide +kernel
theorem dX10_punch_7 : decode cX10_punch 7 = .ok (.iconst 0, 1) := by decide +kernel
theorem dX10_punch_8 : decode cX10_punch 8 = .ok (.iconst 2, 1) := by decide +kernel
theorem dX10_punch_9 : decode cX10_punch 9 = .ok (.invokestatic 146, 3) := by decide +kernel
theorem dX10_punch_12 : decode cX10_punch 12 = .ok (.ifCond .ne 7, 3) := by decide +kernel
theorem dX10_punch_15 : decode cX10_punch 15 = .ok (.iconst 1, 1) := by decide +kernel
theorem dX10_punch_16 : decode cX10_punch 16 = .ok (.goto 4, 3) := by decide +kernel
theorem dX10_punch_19 : decode cX10_punch 19 = .ok (.iconst 0, 1) := by decide +kernel
theorem dX10_punch_20 : decode cX10_punch 20 = .ok (.iconst 1, 1) := by decide +kernel
theorem dX10_punch_21 : decode cX10_punch 21 = .ok (.invokevirtual 197, 3) := by decide +kernel
theorem dX10_punch_24 : decode cX10_punch 24 = .ok (.ifCond .eq 5, 3) := by decide +kernel
theorem dX10_punch_27 : decode cX10_punch 27 = .ok (.iconst 0, 1) := by decide +kernel
theorem dX10_punch_28 : decode cX10_punch 28 = .ok (.ireturn, 1) := by decide +kernel
theorem dX10_punch_29 : decode cX10_punch 29 = .ok (.aload_n 0, 1) := by decide +kernel
theorem dX10_punch_30 : decode cX10_punch 30 = .ok (.getfield 56, 3) := by decide +kernel
theorem dX10_punch_33 : decode cX10_punch 33 = .ok (.iconst (-1), 1) := by decide +kernel
theorem dX10_punch_34 : decode cX10_punch 34 = .ok (.if_icmp .ne 5, 3) := by decide +kernel
theorem dX10_punch_37 : decode cX10_punch 37 = .ok (.iconst (-1), 1) := by decide +kernel
theorem dX10_punch_38 : decode cX10_punch 38 = .ok (.ireturn, 1) := by decide +kernel
theorem dX10_punch_39 : decode cX10_punch 39 = .ok (.iload_n 1, 1) := by decide +kernel
theorem dX10_punch_40 : decode cX10_punch 40 = .ok (.iconst 2, 1) := by decide +kernel
theorem dX10_punch_41 : decode cX10_punch 41 = .ok (.if_icmp .ne 8, 3) := by decide +kernel
theorem dX10_punch_44 : decode cX10_punch 44 = .ok (.aload_n 0, 1) := by decide +kernel
theorem dX10_punch_45 : decode cX10_punch 45 = .ok (.getfield 211, 3) := by decide +kernel
theorem dX10_punch_48 : decode cX10_punch 48 = .ok (.ireturn, 1) := by decide +kernel
theorem dX10_punch_49 : decode cX10_punch 49 = .ok (.iload_n 1, 1) := by decide +kernel
theorem dX10_punch_50 : decode cX10_punch 50 = .ok (.ifCond .ne 17, 3) := by decide +kernel
theorem dX10_punch_53 : decode cX10_punch 53 = .ok (.aload_n 0, 1) := by decide +kernel
theorem dX10_punch_54 : decode cX10_punch 54 = .ok (.aload_n 0, 1) := by decide +kernel
theorem dX10_punch_55 : decode cX10_punch 55 = .ok (.getfield 56, 3) := by decide +kernel
theorem dX10_punch_58 : decode cX10_punch 58 = .ok (.invokevirtual 306, 3) := by decide +kernel
theorem dX10_punch_61 : decode cX10_punch 61 = .ok (.ifCond .eq 27, 3) := by decide +kernel
theorem dX10_punch_64 : decode cX10_punch 64 = .ok (.goto 20, 3) := by decide +kernel
theorem dX10_punch_67 : decode cX10_punch 67 = .ok (.aload_n 0, 1) := by decide +kernel
theorem dX10_punch_68 : decode cX10_punch 68 = .ok (.getfield 207, 3) := by decide +kernel
theorem dX10_punch_71 : decode cX10_punch 71 = .ok (.aload_n 0, 1) := by decide +kernel
theorem dX10_punch_72 : decode cX10_punch 72 = .ok (.getfield 27, 3) := by decide +kernel
theorem dX10_punch_75 : decode cX10_punch 75 = .ok (.aload_n 0, 1) := by decide +kernel
theorem dX10_punch_76 : decode cX10_punch 76 = .ok (.getfield 56, 3) := by decide +kernel
theorem dX10_punch_79 : decode cX10_punch 79 = .ok (.laload, 1) := by decide +kernel
theorem dX10_punch_80 : decode cX10_punch 80 = .ok (.lcmp, 1) := by decide +kernel
theorem dX10_punch_81 : decode cX10_punch 81 = .ok (.ifCond .ne 7, 3) := by decide +kernel
theorem dX10_punch_84 : decode cX10_punch 84 = .ok (.iconst 1, 1) := by decide +kernel
theorem dX10_punch_85 : decode cX10_punch 85 = .ok (.goto 4, 3) := by decide +kernel
theorem dX10_punch_88 : decode cX10_punch 88 = .ok (.iconst 0, 1) := by decide +kernel
theorem dX10_punch_89 : decode cX10_punch 89 = .ok (.ireturn, 1) := by decide +kernel
theorem dX10_adds_0 : decode cX10_adds 0 = .ok (.aload_n 0, 1) := by decide +kernel
theorem dX10_adds_1 : decode cX10_adds 1 = .ok (.getfield 214, 3) := by decide +kernel
theorem dX10_adds_4 : decode cX10_adds 4 = .ok (.bipush 40, 2) := by decide +kernel
theorem dX10_adds_6 : decode cX10_adds 6 = .ok (.if_icmp .ne 5, 3) := by decide +kernel
theorem dX10_adds_9 : decode cX10_adds 9 = .ok (.iconst (-1), 1) := by decide +kernel
theorem dX10_adds_10 : decode cX10_adds 10 = .ok (.ireturn, 1) := by decide +kernel
theorem dX10_adds_11 : decode cX10_adds 11 = .ok (.aload_n 0, 1) := by decide +kernel
theorem dX10_adds_12 : decode cX10_adds 12 = .ok (.getfield 59, 3) := by decide +kernel
theorem dX10_adds_15 : decode cX10_adds 15 = .ok (.aload_n 0, 1) := by decide +kernel
theorem dX10_adds_16 : decode cX10_adds 16 = .ok (.getfield 214, 3) := by decide +kernel
theorem dX10_adds_19 : decode cX10_adds 19 = .ok (.iload_n 1, 1) := by decide +kernel
theorem dX10_adds_20 : decode cX10_adds 20 = .ok (.iastore, 1) := by decide +kernel
theorem dX10_adds_21 : decode cX10_adds 21 = .ok (.aload_n 0, 1) := by decide +kernel
theorem dX10_adds_22 : decode cX10_adds 22 = .ok (.dup, 1) := by decide +kernel
theorem dX10_adds_23 : decode cX10_adds 23 = .ok (.getfield 214, 3) := by decide +kernel
theorem dX10_adds_26 : decode cX10_adds 26 = .ok (.iconst 1, 1) := by decide +kernel
theorem dX10_adds_27 : decode cX10_adds 27 = .ok (.iadd, 1) := by decide +kernel
theorem dX10_adds_28 : decode cX10_adds 28 = .ok (.putfield 214, 3) := by decide +kernel
theorem dX10_adds_31 : decode cX10_adds 31 = .ok (.aload_n 0, 1) := by decide +kernel
theorem dX10_adds_32 : decode cX10_adds 32 = .ok (.getfield 214, 3) := by decide +kernel
theorem dX10_adds_35 : decode cX10_adds 35 = .ok (.ireturn, 1) := by decide +kernel
theorem dX10_addBlow_0 : decode cX10_addBlow 0 = .ok (.aload_n 0, 1) := by decide +kernel
theorem dX10_addBlow_1 : decode cX10_addBlow 1 = .ok (.iconst 0, 1) := by decide +kernel
theorem dX10_addBlow_2 : decode cX10_addBlow 2 = .ok (.putfield 112, 3) := by decide +kernel
theorem dX10_addBlow_5 : decode cX10_addBlow 5 = .ok (.aload_n 0, 1) := by decide +kernel
theorem dX10_addBlow_6 : decode cX10_addBlow 6 = .ok (.aload_n 0, 1) := by decide +kernel
theorem dX10_addBlow_7 : decode cX10_addBlow 7 = .ok (.iload_n 1, 1) := by decide +kernel
theorem dX10_addBlow_8 : decode cX10_addBlow 8 = .ok (.invokevirtual 253, 3) := by decide +kernel
theorem dX10_addBlow_11 : decode cX10_addBlow 11 = .ok (.ifCond .ne 7, 3) := by decide +kernel
theorem dX10_addBlow_14 : decode cX10_addBlow 14 = .ok (.iconst 1, 1) := by decide +kernel
theorem dX10_addBlow_15 : decode cX10_addBlow 15 = .ok (.goto 4, 3) := by decide +kernel
theorem dX10_addBlow_18 : decode cX10_addBlow 18 = .ok (.iconst 0, 1) := by decide +kernel
theorem dX10_addBlow_19 : decode cX10_addBlow 19 = .ok (.iconst 1, 1) := by decide +kernel
theorem dX10_addBlow_20 : decode cX10_addBlow 20 = .ok (.invokevirtual 197, 3) := by decide +kernel
theorem dX10_addBlow_23 : decode cX10_addBlow 23 = .ok (.ifCond .eq 5, 3) := by decide +kernel
theorem dX10_addBlow_26 : decode cX10_addBlow 26 = .ok (.iconst 0, 1) := by decide +kernel
theorem dX10_addBlow_27 : decode cX10_addBlow 27 = .ok (.ireturn, 1) := by decide +kernel
theorem dX10_addBlow_28 : decode cX10_addBlow 28 = .ok (.aload_n 0, 1) := by decide +kernel
theorem dX10_addBlow_29 : decode cX10_addBlow 29 = .ok (.iload_n 1, 1) := by decide +kernel
theorem dX10_addBlow_30 : decode cX10_addBlow 30 = .ok (.invokevirtual 309, 3) := by decide +kernel
theorem dX10_addBlow_33 : decode cX10_addBlow 33 = .ok (.ireturn, 1) := by decide +kernel
theorem dX10_addFile_0 : decode cX10_addFile 0 = .ok (.aload_n 0, 1) := by decide +kernel
theorem dX10_addFile_1 : decode cX10_addFile 1 = .ok (.iconst 0, 1) := by decide +kernel
theorem dX10_addFile_2 : decode cX10_addFile 2 = .ok (.putfield 112, 3) := by decide +kernel
theorem dX10_addFile_5 : decode cX10_addFile 5 = .ok (.aload_n 0, 1) := by decide +kernel
theorem dX10_addFile_6 : decode cX10_addFile 6 = .ok (.iload_n 1, 1) := by decide +kernel
theorem dX10_addFile_7 : decode cX10_addFile 7 = .ok (.iload_n 2, 1) := by decide +kernel
theorem dX10_addFile_8 : decode cX10_addFile 8 = .ok (.iload_n 3, 1) := by decide +kernel
theorem dX10_addFile_9 : decode cX10_addFile 9 = .ok (.invokestatic 299, 3) := by decide +kernel
theorem dX10_addFile_12 : decode cX10_addFile 12 = .ok (.ifCond .ne 7, 3) := by decide +kernel
theorem dX10_addFile_15 : decode cX10_addFile 15 = .ok (.iconst 1, 1) := by decide +kernel
theorem dX10_addFile_16 : decode cX10_addFile 16 = .ok (.goto 4, 3) := by decide +kernel
theorem dX10_addFile_19 : decode cX10_addFile 19 = .ok (.iconst 0, 1) := by decide +kernel
theorem dX10_addFile_20 : decode cX10_addFile 20 = .ok (.iconst 1, 1) := by decide +kernel
theorem dX10_addFile_21 : decode cX10_addFile 21 = .ok (.invokevirtual 197, 3) := by decide +kernel
theorem dX10_addFile_24 : decode cX10_addFile 24 = .ok (.ifCond .eq 5, 3) := by decide +kernel
theorem dX10_addFile_27 : decode cX10_addFile 27 = .ok (.iconst 0, 1) := by decide +kernel
theorem dX10_addFile_28 : decode cX10_addFile 28 = .ok (.ireturn, 1) := by decide +kernel
theorem dX10_addFile_29 : decode cX10_addFile 29 = .ok (.aload_n 0, 1) := by decide +kernel
theorem dX10_addFile_30 : decode cX10_addFile 30 = .ok (.bipush 100, 2) := by decide +kernel
theorem dX10_addFile_32 : decode cX10_addFile 32 = .ok (.bipush 64, 2) := by decide +kernel
theorem dX10_addFile_34 : decode cX10_addFile 34 = .ok (.iload_n 1, 1) := by decide +kernel
theorem dX10_addFile_35 : decode cX10_addFile 35 = .ok (.imul, 1) := by decide +kernel
theorem dX10_addFile_36 : decode cX10_addFile 36 = .ok (.iadd, 1) := by decide +kernel
theorem dX10_addFile_37 : decode cX10_addFile 37 = .ok (.bipush 8, 2) := by decide +kernel
theorem dX10_addFile_39 : decode cX10_addFile 39 = .ok (.iload_n 2, 1) := by decide +kernel
theorem dX10_addFile_40 : decode cX10_addFile 40 = .ok (.imul, 1) := by decide +kernel
theorem dX10_addFile_41 : decode cX10_addFile 41 = .ok (.iadd, 1) := by decide +kernel
theorem dX10_addFile_42 : decode cX10_addFile 42 = .ok (.iload_n 3, 1) := by decide +kernel
theorem dX10_addFile_43 : decode cX10_addFile 43 = .ok (.iadd, 1) := by decide +kernel
theorem dX10_addFile_44 : decode cX10_addFile 44 = .ok (.iconst 1, 1) := by decide +kernel
theorem dX10_addFile_45 : decode cX10_addFile 45 = .ok (.isub, 1) := by decide +kernel
theorem dX10_addFile_46 : decode cX10_addFile 46 = .ok (.invokevirtual 309, 3) := by decide +kernel
theorem dX10_addFile_49 : decode cX10_addFile 49 = .ok (.ireturn, 1) := by decide +kernel
theorem dX10_clear_0 : decode cX10_clear 0 = .ok (.aload_n 0, 1) := by decide +kernel
theorem dX10_clear_1 : decode cX10_clear 1 = .ok (.iconst 0, 1) := by decide +kernel
theorem dX10_clear_2 : decode cX10_clear 2 = .ok (.putfield 112, 3) := by decide +kernel
theorem dX10_clear_5 : decode cX10_clear 5 = .ok (.aload_n 0, 1) := by decide +kernel
theorem dX10_clear_6 : decode cX10_clear 6 = .ok (.getfield 214, 3) := by decide +kernel
theorem dX10_clear_9 : decode cX10_clear 9 = .ok (.istore_n 1, 1) := by decide +kernel
theorem dX10_clear_10 : decode cX10_clear 10 = .ok (.aload_n 0, 1) := by decide +kernel
theorem dX10_clear_11 : decode cX10_clear 11 = .ok (.iconst 0, 1) := by decide +kernel
theorem dX10_clear_12 : decode cX10_clear 12 = .ok (.putfield 214, 3) := by decide +kernel
theorem dX10_clear_15 : decode cX10_clear 15 = .ok (.iload_n 1, 1) := by decide +kernel
theorem dX10_clear_16 : decode cX10_clear 16 = .ok (.ireturn, 1) := by decide +kernel
theorem dX10_judge_0 : decode cX10_judge 0 = .ok (.aload_n 0, 1) := by decide +kernel
theorem dX10_judge_1 : decode cX10_judge 1 = .ok (.iconst 0, 1) := by decide +kernel
theorem dX10_judge_2 : decode cX10_judge 2 = .ok (.putfield 112, 3) := by decide +kernel
theorem dX10_judge_5 : decode cX10_judge 5 = .ok (.aload_n 0, 1) := by decide +kernel
theorem dX10_judge_6 : decode cX10_judge 6 = .ok (.aload_n 0, 1) := by decide +kernel
theorem dX10_judge_7 : decode cX10_judge 7 = .ok (.iload_n 1, 1) := by decide +kernel
theorem dX10_judge_8 : decode cX10_judge 8 = .ok (.invokevirtual 240, 3) := by decide +kernel
theorem dX10_judge_11 : decode cX10_judge 11 = .ok (.ifCond .ne 7, 3) := by decide +kernel
theorem dX10_judge_14 : decode cX10_judge 14 = .ok (.iconst 1, 1) := by decide +kernel
theorem dX10_judge_15 : decode cX10_judge 15 = .ok (.goto 4, 3) := by decide +kernel
theorem dX10_judge_18 : decode cX10_judge 18 = .ok (.iconst 0, 1) := by decide +kernel
theorem dX10_judge_19 : decode cX10_judge 19 = .ok (.iconst 1, 1) := by decide +kernel
theorem dX10_judge_20 : decode cX10_judge 20 = .ok (.invokevirtual 197, 3) := by decide +kernel
theorem dX10_judge_23 : decode cX10_judge 23 = .ok (.ifCond .ne 25, 3) := by decide +kernel
theorem dX10_judge_26 : decode cX10_judge 26 = .ok (.aload_n 0, 1) := by decide +kernel
theorem dX10_judge_27 : decode cX10_judge 27 = .ok (.iload_n 2, 1) := by decide +kernel
theorem dX10_judge_28 : decode cX10_judge 28 = .ok (.iconst 0, 1) := by decide +kernel
theorem dX10_judge_29 : decode cX10_judge 29 = .ok (.iconst 1, 1) := by decide +kernel
theorem dX10_judge_30 : decode cX10_judge 30 = .ok (.invokestatic 146, 3) := by decide +kernel
theorem dX10_judge_33 : decode cX10_judge 33 = .ok (.ifCond .ne 7, 3) := by decide +kernel
theorem dX10_judge_36 : decode cX10_judge 36 = .ok (.iconst 1, 1) := by decide +kernel
theorem dX10_judge_37 : decode cX10_judge 37 = .ok (.goto 4, 3) := by decide +kernel
theorem dX10_judge_40 : decode cX10_judge 40 = .ok (.iconst 0, 1) := by decide +kernel
theorem dX10_judge_41 : decode cX10_judge 41 = .ok (.iconst 2, 1) := by decide +kernel
theorem dX10_judge_42 : decode cX10_judge 42 = .ok (.invokevirtual 197, 3) := by decide +kernel
theorem dX10_judge_45 : decode cX10_judge 45 = .ok (.ifCond .eq 5, 3) := by decide +kernel
theorem dX10_judge_48 : decode cX10_judge 48 = .ok (.iconst 0, 1) := by decide +kernel
theorem dX10_judge_49 : decode cX10_judge 49 = .ok (.ireturn, 1) := by decide +kernel
theorem dX10_judge_50 : decode cX10_judge 50 = .ok (.aload_n 0, 1) := by decide +kernel
theorem dX10_judge_51 : decode cX10_judge 51 = .ok (.getfield 207, 3) := by decide +kernel
theorem dX10_judge_54 : decode cX10_judge 54 = .ok (.lstore_n 3, 1) := by decide +kernel
theorem dX10_judge_55 : decode cX10_judge 55 = .ok (.aload_n 0, 1) := by decide +kernel
theorem dX10_judge_56 : decode cX10_judge 56 = .ok (.ldc2_w 195, 3) := by decide +kernel
theorem dX10_judge_59 : decode cX10_judge 59 = .ok (.putfield 207, 3) := by decide +kernel
theorem dX10_judge_62 : decode cX10_judge 62 = .ok (.iconst (-1), 1) := by decide +kernel
theorem dX10_judge_63 : decode cX10_judge 63 = .ok (.istore 5, 2) := by decide +kernel
theorem dX10_judge_65 : decode cX10_judge 65 = .ok (.iconst 0, 1) := by decide +kernel
theorem dX10_judge_66 : decode cX10_judge 66 = .ok (.istore 6, 2) := by decide +kernel
theorem dX10_judge_68 : decode cX10_judge 68 = .ok (.iload 6, 2) := by decide +kernel
theorem dX10_judge_70 : decode cX10_judge 70 = .ok (.aload_n 0, 1) := by decide +kernel
theorem dX10_judge_71 : decode cX10_judge 71 = .ok (.getfield 214, 3) := by decide +kernel
theorem dX10_judge_74 : decode cX10_judge 74 = .ok (.if_icmp .ge 102, 3) := by decide +kernel
theorem dX10_judge_77 : decode cX10_judge 77 = .ok (.aload_n 0, 1) := by decide +kernel
theorem dX10_judge_78 : decode cX10_judge 78 = .ok (.getfield 59, 3) := by decide +kernel
theorem dX10_judge_81 : decode cX10_judge 81 = .ok (.iload 6, 2) := by decide +kernel
theorem dX10_judge_83 : decode cX10_judge 83 = .ok (.iaload, 1) := by decide +kernel
theorem dX10_judge_84 : decode cX10_judge 84 = .ok (.istore 7, 2) := by decide +kernel
theorem dX10_judge_86 : decode cX10_judge 86 = .ok (.iload 7, 2) := by decide +kernel
theorem dX10_judge_88 : decode cX10_judge 88 = .ok (.bipush 100, 2) := by decide +kernel
theorem dX10_judge_90 : decode cX10_judge 90 = .ok (.if_icmp .lt 39, 3) := by decide +kernel
theorem dX10_judge_93 : decode cX10_judge 93 = .ok (.aload_n 0, 1) := by decide +kernel
theorem dX10_judge_94 : decode cX10_judge 94 = .ok (.iload 7, 2) := by decide +kernel
theorem dX10_judge_96 : decode cX10_judge 96 = .ok (.bipush 100, 2) := by decide +kernel
theorem dX10_judge_98 : decode cX10_judge 98 = .ok (.isub, 1) := by decide +kernel
theorem dX10_judge_99 : decode cX10_judge 99 = .ok (.bipush 64, 2) := by decide +kernel
theorem dX10_judge_101 : decode cX10_judge 101 = .ok (.idiv, 1) := by decide +kernel
theorem dX10_judge_102 : decode cX10_judge 102 = .ok (.iload 7, 2) := by decide +kernel
theorem dX10_judge_104 : decode cX10_judge 104 = .ok (.bipush 100, 2) := by decide +kernel
theorem dX10_judge_106 : decode cX10_judge 106 = .ok (.isub, 1) := by decide +kernel
theorem dX10_judge_107 : decode cX10_judge 107 = .ok (.bipush 8, 2) := by decide +kernel
theorem dX10_judge_109 : decode cX10_judge 109 = .ok (.idiv, 1) := by decide +kernel
theorem dX10_judge_110 : decode cX10_judge 110 = .ok (.bipush 8, 2) := by decide +kernel
theorem dX10_judge_112 : decode cX10_judge 112 = .ok (.irem, 1) := by decide +kernel
theorem dX10_judge_113 : decode cX10_judge 113 = .ok (.iload 7, 2) := by decide +kernel
theorem dX10_judge_115 : decode cX10_judge 115 = .ok (.bipush 100, 2) := by decide +kernel
theorem dX10_judge_117 : decode cX10_judge 117 = .ok (.isub, 1) := by decide +kernel
theorem dX10_judge_118 : decode cX10_judge 118 = .ok (.bipush 8, 2) := by decide +kernel
theorem dX10_judge_120 : decode cX10_judge 120 = .ok (.irem, 1) := by decide +kernel
theorem dX10_judge_121 : decode cX10_judge 121 = .ok (.iconst 1, 1) := by decide +kernel
theorem dX10_judge_122 : decode cX10_judge 122 = .ok (.iadd, 1) := by decide +kernel
theorem dX10_judge_123 : decode cX10_judge 123 = .ok (.invokevirtual 302, 3) := by decide +kernel
theorem dX10_judge_126 : decode cX10_judge 126 = .ok (.goto 21, 3) := by decide +kernel
theorem dX10_judge_129 : decode cX10_judge 129 = .ok (.aload_n 0, 1) := by decide +kernel
theorem dX10_judge_130 : decode cX10_judge 130 = .ok (.getfield 53, 3) := by decide +kernel
theorem dX10_judge_133 : decode cX10_judge 133 = .ok (.iload 7, 2) := by decide +kernel
theorem dX10_judge_135 : decode cX10_judge 135 = .ok (.iaload, 1) := by decide +kernel
theorem dX10_judge_136 : decode cX10_judge 136 = .ok (.iload_n 1, 1) := by decide +kernel
theorem dX10_judge_137 : decode cX10_judge 137 = .ok (.if_icmp .ne 10, 3) := by decide +kernel
theorem dX10_judge_140 : decode cX10_judge 140 = .ok (.aload_n 0, 1) := by decide +kernel
theorem dX10_judge_141 : decode cX10_judge 141 = .ok (.iload 7, 2) := by decide +kernel
theorem dX10_judge_143 : decode cX10_judge 143 = .ok (.invokevirtual 296, 3) := by decide +kernel
theorem dX10_judge_146 : decode cX10_judge 146 = .ok (.pop, 1) := by decide +kernel
theorem dX10_judge_147 : decode cX10_judge 147 = .ok (.iload 5, 2) := by decide +kernel
theorem dX10_judge_149 : decode cX10_judge 149 = .ok (.iconst (-1), 1) := by decide +kernel
theorem dX10_judge_150 : decode cX10_judge 150 = .ok (.if_icmp .ne 16, 3) := by decide +kernel
theorem dX10_judge_153 : decode cX10_judge 153 = .ok (.aload_n 0, 1) := by decide +kernel
theorem dX10_judge_154 : decode cX10_judge 154 = .ok (.iload_n 1, 1) := by decide +kernel
theorem dX10_judge_155 : decode cX10_judge 155 = .ok (.invokevirtual 306, 3) := by decide +kernel
theorem dX10_judge_158 : decode cX10_judge 158 = .ok (.ifCond .ne 8, 3) := by decide +kernel
theorem dX10_judge_161 : decode cX10_judge 161 = .ok (.iload 6, 2) := by decide +kernel
theorem dX10_judge_163 : decode cX10_judge 163 = .ok (.goto 5, 3) := by decide +kernel
theorem dX10_judge_166 : decode cX10_judge 166 = .ok (.iload 5, 2) := by decide +kernel
theorem dX10_judge_168 : decode cX10_judge 168 = .ok (.istore 5, 2) := by decide +kernel
theorem dX10_judge_170 : decode cX10_judge 170 = .ok (.iinc 6 1, 3) := by decide +kernel
theorem dX10_judge_173 : decode cX10_judge 173 = .ok (.goto (-105), 3) := by decide +kernel
theorem dX10_judge_176 : decode cX10_judge 176 = .ok (.aload_n 0, 1) := by decide +kernel
theorem dX10_judge_177 : decode cX10_judge 177 = .ok (.getfield 207, 3) := by decide +kernel
theorem dX10_judge_180 : decode cX10_judge 180 = .ok (.aload_n 0, 1) := by decide +kernel
theorem dX10_judge_181 : decode cX10_judge 181 = .ok (.getfield 27, 3) := by decide +kernel
theorem dX10_judge_184 : decode cX10_judge 184 = .ok (.iload_n 1, 1) := by decide +kernel
theorem dX10_judge_185 : decode cX10_judge 185 = .ok (.laload, 1) := by decide +kernel
theorem dX10_judge_186 : decode cX10_judge 186 = .ok (.lcmp, 1) := by decide +kernel
theorem dX10_judge_187 : decode cX10_judge 187 = .ok (.ifCond .ne 7, 3) := by decide +kernel
theorem dX10_judge_190 : decode cX10_judge 190 = .ok (.iconst 1, 1) := by decide +kernel
theorem dX10_judge_191 : decode cX10_judge 191 = .ok (.goto 4, 3) := by decide +kernel
theorem dX10_judge_194 : decode cX10_judge 194 = .ok (.iconst 0, 1) := by decide +kernel
theorem dX10_judge_195 : decode cX10_judge 195 = .ok (.istore 6, 2) := by decide +kernel
theorem dX10_judge_197 : decode cX10_judge 197 = .ok (.aload_n 0, 1) := by decide +kernel
theorem dX10_judge_198 : decode cX10_judge 198 = .ok (.lload_n 3, 1) := by decide +kernel
theorem dX10_judge_199 : decode cX10_judge 199 = .ok (.putfield 207, 3) := by decide +kernel
theorem dX10_judge_202 : decode cX10_judge 202 = .ok (.iload_n 2, 1) := by decide +kernel
theorem dX10_judge_203 : decode cX10_judge 203 = .ok (.ifCond .ne 8, 3) := by decide +kernel
theorem dX10_judge_206 : decode cX10_judge 206 = .ok (.iload 5, 2) := by decide +kernel
theorem dX10_judge_208 : decode cX10_judge 208 = .ok (.goto 13, 3) := by decide +kernel
theorem dX10_judge_211 : decode cX10_judge 211 = .ok (.iload 6, 2) := by decide +kernel
theorem dX10_judge_213 : decode cX10_judge 213 = .ok (.ifCond .eq 7, 3) := by decide +kernel
theorem dX10_judge_216 : decode cX10_judge 216 = .ok (.iconst 1, 1) := by decide +kernel
theorem dX10_judge_217 : decode cX10_judge 217 = .ok (.goto 4, 3) := by decide +kernel
theorem dX10_judge_220 : decode cX10_judge 220 = .ok (.iconst 0, 1) := by decide +kernel
theorem dX10_judge_221 : decode cX10_judge 221 = .ok (.ireturn, 1) := by decide +kernel
theorem dX10_puts_0 : decode cX10_puts 0 = .ok (.aload_n 0, 1) := by decide +kernel
theorem dX10_puts_1 : decode cX10_puts 1 = .ok (.getfield 86, 3) := by decide +kernel
theorem dX10_puts_4 : decode cX10_puts 4 = .ok (.aload_n 0, 1) := by decide +kernel
theorem dX10_puts_5 : decode cX10_puts 5 = .ok (.getfield 312, 3) := by decide +kernel
theorem dX10_puts_8 : decode cX10_puts 8 = .ok (.iload_n 2, 1) := by decide +kernel
theorem dX10_puts_9 : decode cX10_puts 9 = .ok (.iastore, 1) := by decide +kernel
theorem dX10_puts_10 : decode cX10_puts 10 = .ok (.aload_n 0, 1) := by decide +kernel
theorem dX10_puts_11 : decode cX10_puts 11 = .ok (.getfield 89, 3) := by decide +kernel
theorem dX10_puts_14 : decode cX10_puts 14 = .ok (.aload_n 0, 1) := by decide +kernel
theorem dX10_puts_15 : decode cX10_puts 15 = .ok (.getfield 312, 3) := by decide +kernel
theorem dX10_puts_18 : decode cX10_puts 18 = .ok (.iload_n 3, 1) := by decide +kernel
theorem dX10_puts_19 : decode cX10_puts 19 = .ok (.iastore, 1) := by decide +kernel
theorem dX10_puts_20 : decode cX10_puts 20 = .ok (.aload_n 0, 1) := by decide +kernel
theorem dX10_puts_21 : decode cX10_puts 21 = .ok (.getfield 92, 3) := by decide +kernel
theorem dX10_puts_24 : decode cX10_puts 24 = .ok (.aload_n 0, 1) := by decide +kernel
theorem dX10_puts_25 : decode cX10_puts 25 = .ok (.getfield 312, 3) := by decide +kernel
theorem dX10_puts_28 : decode cX10_puts 28 = .ok (.iload_n 1, 1) := by decide +kernel
theorem dX10_puts_29 : decode cX10_puts 29 = .ok (.iastore, 1) := by decide +kernel
theorem dX10_puts_30 : decode cX10_puts 30 = .ok (.aload_n 0, 1) := by decide +kernel
theorem dX10_puts_31 : decode cX10_puts 31 = .ok (.dup, 1) := by decide +kernel
theorem dX10_puts_32 : decode cX10_puts 32 = .ok (.getfield 312, 3) := by decide +kernel
theorem dX10_puts_35 : decode cX10_puts 35 = .ok (.iconst 1, 1) := by decide +kernel
theorem dX10_puts_36 : decode cX10_puts 36 = .ok (.iadd, 1) := by decide +kernel
theorem dX10_puts_37 : decode cX10_puts 37 = .ok (.putfield 312, 3) := by decide +kernel
theorem dX10_puts_40 : decode cX10_puts 40 = .ok (.return_, 1) := by decide +kernel
theorem dX10_findOrder_0 : decode cX10_findOrder 0 = .ok (.aload_n 0, 1) := by decide +kernel
theorem dX10_findOrder_1 : decode cX10_findOrder 1 = .ok (.iconst 0, 1) := by decide +kernel
theorem dX10_findOrder_2 : decode cX10_findOrder 2 = .ok (.putfield 312, 3) := by decide +kernel
theorem dX10_findOrder_5 : decode cX10_findOrder 5 = .ok (.iconst 0, 1) := by decide +kernel
theorem dX10_findOrder_6 : decode cX10_findOrder 6 = .ok (.istore 4, 2) := by decide +kernel
theorem dX10_findOrder_8 : decode cX10_findOrder 8 = .ok (.iload 4, 2) := by decide +kernel
theorem dX10_findOrder_10 : decode cX10_findOrder 10 = .ok (.aload_n 0, 1) := by decide +kernel
theorem dX10_findOrder_11 : decode cX10_findOrder 11 = .ok (.getfield 231, 3) := by decide +kernel
theorem dX10_findOrder_14 : decode cX10_findOrder 14 = .ok (.if_icmp .ge 65, 3) := by decide +kernel
theorem dX10_findOrder_17 : decode cX10_findOrder 17 = .ok (.aload_n 0, 1) := by decide +kernel
theorem dX10_findOrder_18 : decode cX10_findOrder 18 = .ok (.getfield 53, 3) := by decide +kernel
theorem dX10_findOrder_21 : decode cX10_findOrder 21 = .ok (.iload 4, 2) := by decide +kernel
theorem dX10_findOrder_23 : decode cX10_findOrder 23 = .ok (.iaload, 1) := by decide +kernel
theorem dX10_findOrder_24 : decode cX10_findOrder 24 = .ok (.iload_n 1, 1) := by decide +kernel
theorem dX10_findOrder_25 : decode cX10_findOrder 25 = .ok (.if_icmp .eq 6, 3) := by decide +kernel
theorem dX10_findOrder_28 : decode cX10_findOrder 28 = .ok (.goto 45, 3) := by decide +kernel
theorem dX10_findOrder_31 : decode cX10_findOrder 31 = .ok (.aload_n 0, 1) := by decide +kernel
theorem dX10_findOrder_32 : decode cX10_findOrder 32 = .ok (.getfield 50, 3) := by decide +kernel
theorem dX10_findOrder_35 : decode cX10_findOrder 35 = .ok (.iload 4, 2) := by decide +kernel
theorem dX10_findOrder_37 : decode cX10_findOrder 37 = .ok (.laload, 1) := by decide +kernel
theorem dX10_findOrder_38 : decode cX10_findOrder 38 = .ok (.invokestatic 243, 3) := by decide +kernel
theorem dX10_findOrder_41 : decode cX10_findOrder 41 = .ok (.istore 5, 2) := by decide +kernel
theorem dX10_findOrder_43 : decode cX10_findOrder 43 = .ok (.iload_n 2, 1) := by decide +kernel
theorem dX10_findOrder_44 : decode cX10_findOrder 44 = .ok (.iload 5, 2) := by decide +kernel
theorem dX10_findOrder_46 : decode cX10_findOrder 46 = .ok (.iconst 4, 1) := by decide +kernel
theorem dX10_findOrder_47 : decode cX10_findOrder 47 = .ok (.idiv, 1) := by decide +kernel
theorem dX10_findOrder_48 : decode cX10_findOrder 48 = .ok (.iadd, 1) := by decide +kernel
theorem dX10_findOrder_49 : decode cX10_findOrder 49 = .ok (.istore 6, 2) := by decide +kernel
theorem dX10_findOrder_51 : decode cX10_findOrder 51 = .ok (.aload_n 0, 1) := by decide +kernel
theorem dX10_findOrder_52 : decode cX10_findOrder 52 = .ok (.iload 4, 2) := by decide +kernel
theorem dX10_findOrder_54 : decode cX10_findOrder 54 = .ok (.iload 5, 2) := by decide +kernel
theorem dX10_findOrder_56 : decode cX10_findOrder 56 = .ok (.iload 6, 2) := by decide +kernel
theorem dX10_findOrder_58 : decode cX10_findOrder 58 = .ok (.bipush 15, 2) := by decide +kernel
theorem dX10_findOrder_60 : decode cX10_findOrder 60 = .ok (.if_icmp .le 8, 3) := by decide +kernel
theorem dX10_findOrder_63 : decode cX10_findOrder 63 = .ok (.bipush 15, 2) := by decide +kernel
theorem dX10_findOrder_65 : decode cX10_findOrder 65 = .ok (.goto 5, 3) := by decide +kernel
theorem dX10_findOrder_68 : decode cX10_findOrder 68 = .ok (.iload 6, 2) := by decide +kernel
theorem dX10_findOrder_70 : decode cX10_findOrder 70 = .ok (.invokevirtual 315, 3) := by decide +kernel
theorem dX10_findOrder_73 : decode cX10_findOrder 73 = .ok (.iinc 4 1, 3) := by decide +kernel
theorem dX10_findOrder_76 : decode cX10_findOrder 76 = .ok (.goto (-68), 3) := by decide +kernel
theorem dX10_findOrder_79 : decode cX10_findOrder 79 = .ok (.aload_n 0, 1) := by decide +kernel
theorem dX10_findOrder_80 : decode cX10_findOrder 80 = .ok (.iconst 0, 1) := by decide +kernel
theorem dX10_findOrder_81 : decode cX10_findOrder 81 = .ok (.invokevirtual 318, 3) := by decide +kernel
theorem dX10_findOrder_84 : decode cX10_findOrder 84 = .ok (.aload_n 0, 1) := by decide +kernel
theorem dX10_findOrder_85 : decode cX10_findOrder 85 = .ok (.getfield 312, 3) := by decide +kernel
theorem dX10_findOrder_88 : decode cX10_findOrder 88 = .ok (.istore 4, 2) := by decide +kernel
theorem dX10_findOrder_90 : decode cX10_findOrder 90 = .ok (.aload_n 0, 1) := by decide +kernel
theorem dX10_findOrder_91 : decode cX10_findOrder 91 = .ok (.aload_n 0, 1) := by decide +kernel
theorem dX10_findOrder_92 : decode cX10_findOrder 92 = .ok (.getfield 27, 3) := by decide +kernel
theorem dX10_findOrder_95 : decode cX10_findOrder 95 = .ok (.iload_n 1, 1) := by decide +kernel
theorem dX10_findOrder_96 : decode cX10_findOrder 96 = .ok (.laload, 1) := by decide +kernel
theorem dX10_findOrder_97 : decode cX10_findOrder 97 = .ok (.invokevirtual 287, 3) := by decide +kernel
theorem dX10_findOrder_100 : decode cX10_findOrder 100 = .ok (.aload_n 0, 1) := by decide +kernel
theorem dX10_findOrder_101 : decode cX10_findOrder 101 = .ok (.aload_n 0, 1) := by decide +kernel
theorem dX10_findOrder_102 : decode cX10_findOrder 102 = .ok (.getfield 27, 3) := by decide +kernel
theorem dX10_findOrder_105 : decode cX10_findOrder 105 = .ok (.iload_n 1, 1) := by decide +kernel
theorem dX10_findOrder_106 : decode cX10_findOrder 106 = .ok (.laload, 1) := by decide +kernel
theorem dX10_findOrder_107 : decode cX10_findOrder 107 = .ok (.invokestatic 227, 3) := by decide +kernel
theorem dX10_findOrder_110 : decode cX10_findOrder 110 = .ok (.invokevirtual 291, 3) := by decide +kernel
theorem dX10_findOrder_113 : decode cX10_findOrder 113 = .ok (.istore 5, 2) := by decide +kernel
theorem dX10_findOrder_115 : decode cX10_findOrder 115 = .ok (.iconst 0, 1) := by decide +kernel
theorem dX10_findOrder_116 : decode cX10_findOrder 116 = .ok (.istore 6, 2) := by decide +kernel
theorem dX10_findOrder_118 : decode cX10_findOrder 118 = .ok (.iload 6, 2) := by decide +kernel
theorem dX10_findOrder_120 : decode cX10_findOrder 120 = .ok (.bipush 32, 2) := by decide +kernel
theorem dX10_findOrder_122 : decode cX10_findOrder 122 = .ok (.if_icmp .ge 40, 3) := by decide +kernel
theorem dX10_findOrder_125 : decode cX10_findOrder 125 = .ok (.iload 5, 2) := by decide +kernel
theorem dX10_findOrder_127 : decode cX10_findOrder 127 = .ok (.iload 6, 2) := by decide +kernel
theorem dX10_findOrder_129 : decode cX10_findOrder 129 = .ok (.ishr, 1) := by decide +kernel
theorem dX10_findOrder_130 : decode cX10_findOrder 130 = .ok (.iconst 1, 1) := by decide +kernel
theorem dX10_findOrder_131 : decode cX10_findOrder 131 = .ok (.iand, 1) := by decide +kernel
theorem dX10_findOrder_132 : decode cX10_findOrder 132 = .ok (.iconst 1, 1) := by decide +kernel
theorem dX10_findOrder_133 : decode cX10_findOrder 133 = .ok (.if_icmp .ne 23, 3) := by decide +kernel
theorem dX10_findOrder_136 : decode cX10_findOrder 136 = .ok (.aload_n 0, 1) := by decide +kernel
theorem dX10_findOrder_137 : decode cX10_findOrder 137 = .ok (.bipush 100, 2) := by decide +kernel
theorem dX10_findOrder_139 : decode cX10_findOrder 139 = .ok (.iload 6, 2) := by decide +kernel
theorem dX10_findOrder_141 : decode cX10_findOrder 141 = .ok (.iadd, 1) := by decide +kernel
theorem dX10_findOrder_142 : decode cX10_findOrder 142 = .ok (.aload_n 0, 1) := by decide +kernel
theorem dX10_findOrder_143 : decode cX10_findOrder 143 = .ok (.getfield 70, 3) := by decide +kernel
theorem dX10_findOrder_146 : decode cX10_findOrder 146 = .ok (.iload 6, 2) := by decide +kernel
theorem dX10_findOrder_148 : decode cX10_findOrder 148 = .ok (.laload, 1) := by decide +kernel
theorem dX10_findOrder_149 : decode cX10_findOrder 149 = .ok (.invokestatic 243, 3) := by decide +kernel
theorem dX10_findOrder_152 : decode cX10_findOrder 152 = .ok (.iload_n 3, 1) := by decide +kernel
theorem dX10_findOrder_153 : decode cX10_findOrder 153 = .ok (.invokevirtual 315, 3) := by decide +kernel
theorem dX10_findOrder_156 : decode cX10_findOrder 156 = .ok (.iinc 6 1, 3) := by decide +kernel
theorem dX10_findOrder_159 : decode cX10_findOrder 159 = .ok (.goto (-41), 3) := by decide +kernel
theorem dX10_findOrder_162 : decode cX10_findOrder 162 = .ok (.aload_n 0, 1) := by decide +kernel
theorem dX10_findOrder_163 : decode cX10_findOrder 163 = .ok (.iload 4, 2) := by decide +kernel
theorem dX10_findOrder_165 : decode cX10_findOrder 165 = .ok (.invokevirtual 318, 3) := by decide +kernel
theorem dX10_findOrder_168 : decode cX10_findOrder 168 = .ok (.aload_n 0, 1) := by decide +kernel
theorem dX10_findOrder_169 : decode cX10_findOrder 169 = .ok (.getfield 312, 3) := by decide +kernel
theorem dX10_findOrder_172 : decode cX10_findOrder 172 = .ok (.bipush 11, 2) := by decide +kernel
theorem dX10_findOrder_174 : decode cX10_findOrder 174 = .ok (.if_icmp .gt 7, 3) := by decide +kernel
theorem dX10_findOrder_177 : decode cX10_findOrder 177 = .ok (.iconst 1, 1) := by decide +kernel
theorem dX10_findOrder_178 : decode cX10_findOrder 178 = .ok (.goto 4, 3) := by decide +kernel
theorem dX10_findOrder_181 : decode cX10_findOrder 181 = .ok (.iconst 0, 1) := by decide +kernel
theorem dX10_findOrder_182 : decode cX10_findOrder 182 = .ok (.ireturn, 1) := by decide +kernel
theorem dX10_isLater_0 : decode cX10_isLater 0 = .ok (.aload_n 0, 1) := by decide +kernel
theorem dX10_isLater_1 : decode cX10_isLater 1 = .ok (.getfield 89, 3) := by decide +kernel
theorem dX10_isLater_4 : decode cX10_isLater 4 = .ok (.iload_n 1, 1) := by decide +kernel
theorem dX10_isLater_5 : decode cX10_isLater 5 = .ok (.iaload, 1) := by decide +kernel
theorem dX10_isLater_6 : decode cX10_isLater 6 = .ok (.ifCond .eq 12, 3) := by decide +kernel
theorem dX10_isLater_9 : decode cX10_isLater 9 = .ok (.aload_n 0, 1) := by decide +kernel
theorem dX10_isLater_10 : decode cX10_isLater 10 = .ok (.getfield 89, 3) := by decide +kernel
theorem dX10_isLater_13 : decode cX10_isLater 13 = .ok (.iload_n 2, 1) := by decide +kernel
theorem dX10_isLater_14 : decode cX10_isLater 14 = .ok (.iaload, 1) := by decide +kernel
theorem dX10_isLater_15 : decode cX10_isLater 15 = .ok (.ifCond .ne 27, 3) := by decide +kernel
theorem dX10_isLater_18 : decode cX10_isLater 18 = .ok (.aload_n 0, 1) := by decide +kernel
theorem dX10_isLater_19 : decode cX10_isLater 19 = .ok (.getfield 89, 3) := by decide +kernel
theorem dX10_isLater_22 : decode cX10_isLater 22 = .ok (.iload_n 1, 1) := by decide +kernel
theorem dX10_isLater_23 : decode cX10_isLater 23 = .ok (.iaload, 1) := by decide +kernel
theorem dX10_isLater_24 : decode cX10_isLater 24 = .ok (.ifCond .ne 16, 3) := by decide +kernel
theorem dX10_isLater_27 : decode cX10_isLater 27 = .ok (.aload_n 0, 1) := by decide +kernel
theorem dX10_isLater_28 : decode cX10_isLater 28 = .ok (.getfield 89, 3) := by decide +kernel
theorem dX10_isLater_31 : decode cX10_isLater 31 = .ok (.iload_n 2, 1) := by decide +kernel
theorem dX10_isLater_32 : decode cX10_isLater 32 = .ok (.iaload, 1) := by decide +kernel
theorem dX10_isLater_33 : decode cX10_isLater 33 = .ok (.ifCond .le 7, 3) := by decide +kernel
theorem dX10_isLater_36 : decode cX10_isLater 36 = .ok (.iconst 1, 1) := by decide +kernel
theorem dX10_isLater_37 : decode cX10_isLater 37 = .ok (.goto 4, 3) := by decide +kernel
theorem dX10_isLater_40 : decode cX10_isLater 40 = .ok (.iconst 0, 1) := by decide +kernel
theorem dX10_isLater_41 : decode cX10_isLater 41 = .ok (.ireturn, 1) := by decide +kernel
theorem dX10_isLater_42 : decode cX10_isLater 42 = .ok (.aload_n 0, 1) := by decide +kernel
theorem dX10_isLater_43 : decode cX10_isLater 43 = .ok (.getfield 86, 3) := by decide +kernel
theorem dX10_isLater_46 : decode cX10_isLater 46 = .ok (.iload_n 1, 1) := by decide +kernel
theorem dX10_isLater_47 : decode cX10_isLater 47 = .ok (.iaload, 1) := by decide +kernel
theorem dX10_isLater_48 : decode cX10_isLater 48 = .ok (.aload_n 0, 1) := by decide +kernel
theorem dX10_isLater_49 : decode cX10_isLater 49 = .ok (.getfield 89, 3) := by decide +kernel
theorem dX10_isLater_52 : decode cX10_isLater 52 = .ok (.iload_n 2, 1) := by decide +kernel
theorem dX10_isLater_53 : decode cX10_isLater 53 = .ok (.iaload, 1) := by decide +kernel
theorem dX10_isLater_54 : decode cX10_isLater 54 = .ok (.imul, 1) := by decide +kernel
theorem dX10_isLater_55 : decode cX10_isLater 55 = .ok (.aload_n 0, 1) := by decide +kernel
theorem dX10_isLater_56 : decode cX10_isLater 56 = .ok (.getfield 86, 3) := by decide +kernel
theorem dX10_isLater_59 : decode cX10_isLater 59 = .ok (.iload_n 2, 1) := by decide +kernel
theorem dX10_isLater_60 : decode cX10_isLater 60 = .ok (.iaload, 1) := by decide +kernel
theorem dX10_isLater_61 : decode cX10_isLater 61 = .ok (.aload_n 0, 1) := by decide +kernel
theorem dX10_isLater_62 : decode cX10_isLater 62 = .ok (.getfield 89, 3) := by decide +kernel
theorem dX10_isLater_65 : decode cX10_isLater 65 = .ok (.iload_n 1, 1) := by decide +kernel
theorem dX10_isLater_66 : decode cX10_isLater 66 = .ok (.iaload, 1) := by decide +kernel
theorem dX10_isLater_67 : decode cX10_isLater 67 = .ok (.imul, 1) := by decide +kernel
theorem dX10_isLater_68 : decode cX10_isLater 68 = .ok (.if_icmp .le 7, 3) := by decide +kernel
theorem dX10_isLater_71 : decode cX10_isLater 71 = .ok (.iconst 1, 1) := by decide +kernel
theorem dX10_isLater_72 : decode cX10_isLater 72 = .ok (.goto 4, 3) := by decide +kernel
theorem dX10_isLater_75 : decode cX10_isLater 75 = .ok (.iconst 0, 1) := by decide +kernel
theorem dX10_isLater_76 : decode cX10_isLater 76 = .ok (.ireturn, 1) := by decide +kernel
theorem dX10_swaps_0 : decode cX10_swaps 0 = .ok (.aload_n 1, 1) := by decide +kernel
theorem dX10_swaps_1 : decode cX10_swaps 1 = .ok (.iload_n 2, 1) := by decide +kernel
theorem dX10_swaps_2 : decode cX10_swaps 2 = .ok (.iaload, 1) := by decide +kernel
theorem dX10_swaps_3 : decode cX10_swaps 3 = .ok (.istore_n 3, 1) := by decide +kernel
theorem dX10_swaps_4 : decode cX10_swaps 4 = .ok (.aload_n 1, 1) := by decide +kernel
theorem dX10_swaps_5 : decode cX10_swaps 5 = .ok (.iload_n 2, 1) := by decide +kernel
theorem dX10_swaps_6 : decode cX10_swaps 6 = .ok (.aload_n 1, 1) := by decide +kernel
theorem dX10_swaps_7 : decode cX10_swaps 7 = .ok (.iload_n 2, 1) := by decide +kernel
theorem dX10_swaps_8 : decode cX10_swaps 8 = .ok (.iconst 1, 1) := by decide +kernel
theorem dX10_swaps_9 : decode cX10_swaps 9 = .ok (.iadd, 1) := by decide +kernel
theorem dX10_swaps_10 : decode cX10_swaps 10 = .ok (.iaload, 1) := by decide +kernel
theorem dX10_swaps_11 : decode cX10_swaps 11 = .ok (.iastore, 1) := by decide +kernel
theorem dX10_swaps_12 : decode cX10_swaps 12 = .ok (.aload_n 1, 1) := by decide +kernel
theorem dX10_swaps_13 : decode cX10_swaps 13 = .ok (.iload_n 2, 1) := by decide +kernel
theorem dX10_swaps_14 : decode cX10_swaps 14 = .ok (.iconst 1, 1) := by decide +kernel
theorem dX10_swaps_15 : decode cX10_swaps 15 = .ok (.iadd, 1) := by decide +kernel
theorem dX10_swaps_16 : decode cX10_swaps 16 = .ok (.iload_n 3, 1) := by decide +kernel
theorem dX10_swaps_17 : decode cX10_swaps 17 = .ok (.iastore, 1) := by decide +kernel
theorem dX10_swaps_18 : decode cX10_swaps 18 = .ok (.return_, 1) := by decide +kernel
theorem dX10_sorts_0 : decode cX10_sorts 0 = .ok (.iload_n 1, 1) := by decide +kernel
theorem dX10_sorts_1 : decode cX10_sorts 1 = .ok (.istore_n 2, 1) := by decide +kernel
theorem dX10_sorts_2 : decode cX10_sorts 2 = .ok (.iload_n 2, 1) := by decide +kernel
theorem dX10_sorts_3 : decode cX10_sorts 3 = .ok (.aload_n 0, 1) := by decide +kernel
theorem dX10_sorts_4 : decode cX10_sorts 4 = .ok (.getfield 312, 3) := by decide +kernel
theorem dX10_sorts_7 : decode cX10_sorts 7 = .ok (.if_icmp .ge 68, 3) := by decide +kernel
theorem dX10_sorts_10 : decode cX10_sorts 10 = .ok (.iload_n 1, 1) := by decide +kernel
theorem dX10_sorts_11 : decode cX10_sorts 11 = .ok (.istore_n 3, 1) := by decide +kernel
theorem dX10_sorts_12 : decode cX10_sorts 12 = .ok (.iload_n 3, 1) := by decide +kernel
theorem dX10_sorts_13 : decode cX10_sorts 13 = .ok (.iconst 1, 1) := by decide +kernel
theorem dX10_sorts_14 : decode cX10_sorts 14 = .ok (.iadd, 1) := by decide +kernel
theorem dX10_sorts_15 : decode cX10_sorts 15 = .ok (.aload_n 0, 1) := by decide +kernel
theorem dX10_sorts_16 : decode cX10_sorts 16 = .ok (.getfield 312, 3) := by decide +kernel
theorem dX10_sorts_19 : decode cX10_sorts 19 = .ok (.if_icmp .ge 50, 3) := by decide +kernel
theorem dX10_sorts_22 : decode cX10_sorts 22 = .ok (.aload_n 0, 1) := by decide +kernel
theorem dX10_sorts_23 : decode cX10_sorts 23 = .ok (.iload_n 3, 1) := by decide +kernel
theorem dX10_sorts_24 : decode cX10_sorts 24 = .ok (.iload_n 3, 1) := by decide +kernel
theorem dX10_sorts_25 : decode cX10_sorts 25 = .ok (.iconst 1, 1) := by decide +kernel
theorem dX10_sorts_26 : decode cX10_sorts 26 = .ok (.iadd, 1) := by decide +kernel
theorem dX10_sorts_27 : decode cX10_sorts 27 = .ok (.invokevirtual 321, 3) := by decide +kernel
theorem dX10_sorts_30 : decode cX10_sorts 30 = .ok (.ifCond .ne 6, 3) := by decide +kernel
theorem dX10_sorts_33 : decode cX10_sorts 33 = .ok (.goto 30, 3) := by decide +kernel
theorem dX10_sorts_36 : decode cX10_sorts 36 = .ok (.aload_n 0, 1) := by decide +kernel
theorem dX10_sorts_37 : decode cX10_sorts 37 = .ok (.aload_n 0, 1) := by decide +kernel
theorem dX10_sorts_38 : decode cX10_sorts 38 = .ok (.getfield 86, 3) := by decide +kernel
theorem dX10_sorts_41 : decode cX10_sorts 41 = .ok (.iload_n 3, 1) := by decide +kernel
theorem dX10_sorts_42 : decode cX10_sorts 42 = .ok (.invokevirtual 324, 3) := by decide +kernel
theorem dX10_sorts_45 : decode cX10_sorts 45 = .ok (.aload_n 0, 1) := by decide +kernel
theorem dX10_sorts_46 : decode cX10_sorts 46 = .ok (.aload_n 0, 1) := by decide +kernel
theorem dX10_sorts_47 : decode cX10_sorts 47 = .ok (.getfield 89, 3) := by decide +kernel
theorem dX10_sorts_50 : decode cX10_sorts 50 = .ok (.iload_n 3, 1) := by decide +kernel
theorem dX10_sorts_51 : decode cX10_sorts 51 = .ok (.invokevirtual 324, 3) := by decide +kernel
theorem dX10_sorts_54 : decode cX10_sorts 54 = .ok (.aload_n 0, 1) := by decide +kernel
theorem dX10_sorts_55 : decode cX10_sorts 55 = .ok (.aload_n 0, 1) := by decide +kernel
theorem dX10_sorts_56 : decode cX10_sorts 56 = .ok (.getfield 92, 3) := by decide +kernel
theorem dX10_sorts_59 : decode cX10_sorts 59 = .ok (.iload_n 3, 1) := by decide +kernel
theorem dX10_sorts_60 : decode cX10_sorts 60 = .ok (.invokevirtual 324, 3) := by decide +kernel
theorem dX10_sorts_63 : decode cX10_sorts 63 = .ok (.iinc 3 1, 3) := by decide +kernel
theorem dX10_sorts_66 : decode cX10_sorts 66 = .ok (.goto (-54), 3) := by decide +kernel
theorem dX10_sorts_69 : decode cX10_sorts 69 = .ok (.iinc 2 1, 3) := by decide +kernel
theorem dX10_sorts_72 : decode cX10_sorts 72 = .ok (.goto (-70), 3) := by decide +kernel
theorem dX10_sorts_75 : decode cX10_sorts 75 = .ok (.return_, 1) := by decide +kernel
theorem dX10_isChance_0 : decode cX10_isChance 0 = .ok (.iload_n 0, 1) := by decide +kernel
theorem dX10_isChance_1 : decode cX10_isChance 1 = .ok (.iconst 0, 1) := by decide +kernel
theorem dX10_isChance_2 : decode cX10_isChance 2 = .ok (.bipush 15, 2) := by decide +kernel
theorem dX10_isChance_4 : decode cX10_isChance 4 = .ok (.invokestatic 146, 3) := by decide +kernel
theorem dX10_isChance_7 : decode cX10_isChance 7 = .ok (.ifCond .eq 17, 3) := by decide +kernel
theorem dX10_isChance_10 : decode cX10_isChance 10 = .ok (.iload_n 1, 1) := by decide +kernel
theorem dX10_isChance_11 : decode cX10_isChance 11 = .ok (.iconst 0, 1) := by decide +kernel
theorem dX10_isChance_12 : decode cX10_isChance 12 = .ok (.bipush 15, 2) := by decide +kernel
theorem dX10_isChance_14 : decode cX10_isChance 14 = .ok (.invokestatic 146, 3) := by decide +kernel
theorem dX10_isChance_17 : decode cX10_isChance 17 = .ok (.ifCond .eq 7, 3) := by decide +kernel
theorem dX10_isChance_20 : decode cX10_isChance 20 = .ok (.iconst 1, 1) := by decide +kernel
theorem dX10_isChance_21 : decode cX10_isChance 21 = .ok (.goto 4, 3) := by decide +kernel
theorem dX10_isChance_24 : decode cX10_isChance 24 = .ok (.iconst 0, 1) := by decide +kernel
theorem dX10_isChance_25 : decode cX10_isChance 25 = .ok (.ireturn, 1) := by decide +kernel
theorem dX10_hours_0 : decode cX10_hours 0 = .ok (.aload_n 0, 1) := by decide +kernel
theorem dX10_hours_1 : decode cX10_hours 1 = .ok (.iconst 0, 1) := by decide +kernel
theorem dX10_hours_2 : decode cX10_hours 2 = .ok (.putfield 112, 3) := by decide +kernel
theorem dX10_hours_5 : decode cX10_hours 5 = .ok (.aload_n 0, 1) := by decide +kernel
theorem dX10_hours_6 : decode cX10_hours 6 = .ok (.aload_n 0, 1) := by decide +kernel
theorem dX10_hours_7 : decode cX10_hours 7 = .ok (.iload_n 1, 1) := by decide +kernel
theorem dX10_hours_8 : decode cX10_hours 8 = .ok (.invokevirtual 240, 3) := by decide +kernel
theorem dX10_hours_11 : decode cX10_hours 11 = .ok (.ifCond .ne 7, 3) := by decide +kernel
theorem dX10_hours_14 : decode cX10_hours 14 = .ok (.iconst 1, 1) := by decide +kernel
theorem dX10_hours_15 : decode cX10_hours 15 = .ok (.goto 4, 3) := by decide +kernel
theorem dX10_hours_18 : decode cX10_hours 18 = .ok (.iconst 0, 1) := by decide +kernel
theorem dX10_hours_19 : decode cX10_hours 19 = .ok (.iconst 1, 1) := by decide +kernel
theorem dX10_hours_20 : decode cX10_hours 20 = .ok (.invokevirtual 197, 3) := by decide +kernel
theorem dX10_hours_23 : decode cX10_hours 23 = .ok (.ifCond .ne 24, 3) := by decide +kernel
theorem dX10_hours_26 : decode cX10_hours 26 = .ok (.aload_n 0, 1) := by decide +kernel
theorem dX10_hours_27 : decode cX10_hours 27 = .ok (.iload_n 2, 1) := by decide +kernel
theorem dX10_hours_28 : decode cX10_hours 28 = .ok (.iload_n 3, 1) := by decide +kernel
theorem dX10_hours_29 : decode cX10_hours 29 = .ok (.invokestatic 328, 3) := by decide +kernel
theorem dX10_hours_32 : decode cX10_hours 32 = .ok (.ifCond .ne 7, 3) := by decide +kernel
theorem dX10_hours_35 : decode cX10_hours 35 = .ok (.iconst 1, 1) := by decide +kernel
theorem dX10_hours_36 : decode cX10_hours 36 = .ok (.goto 4, 3) := by decide +kernel
theorem dX10_hours_39 : decode cX10_hours 39 = .ok (.iconst 0, 1) := by decide +kernel
theorem dX10_hours_40 : decode cX10_hours 40 = .ok (.iconst 2, 1) := by decide +kernel
theorem dX10_hours_41 : decode cX10_hours 41 = .ok (.invokevirtual 197, 3) := by decide +kernel
theorem dX10_hours_44 : decode cX10_hours 44 = .ok (.ifCond .eq 5, 3) := by decide +kernel
theorem dX10_hours_47 : decode cX10_hours 47 = .ok (.lconst 0, 1) := by decide +kernel
theorem dX10_hours_48 : decode cX10_hours 48 = .ok (.lreturn, 1) := by decide +kernel
theorem dX10_hours_49 : decode cX10_hours 49 = .ok (.aload_n 0, 1) := by decide +kernel
theorem dX10_hours_50 : decode cX10_hours 50 = .ok (.iload_n 1, 1) := by decide +kernel
theorem dX10_hours_51 : decode cX10_hours 51 = .ok (.iload_n 2, 1) := by decide +kernel
theorem dX10_hours_52 : decode cX10_hours 52 = .ok (.iload_n 3, 1) := by decide +kernel
theorem dX10_hours_53 : decode cX10_hours 53 = .ok (.invokevirtual 331, 3) := by decide +kernel
theorem dX10_hours_56 : decode cX10_hours 56 = .ok (.ifCond .ne 7, 3) := by decide +kernel
theorem dX10_hours_59 : decode cX10_hours 59 = .ok (.ldc2_w 195, 3) := by decide +kernel
theorem dX10_hours_62 : decode cX10_hours 62 = .ok (.lreturn, 1) := by decide +kernel
theorem dX10_hours_63 : decode cX10_hours 63 = .ok (.lconst 0, 1) := by decide +kernel
theorem dX10_hours_64 : decode cX10_hours 64 = .ok (.lstore 4, 2) := by decide +kernel
theorem dX10_hours_66 : decode cX10_hours 66 = .ok (.lconst 1, 1) := by decide +kernel
theorem dX10_hours_67 : decode cX10_hours 67 = .ok (.lstore 6, 2) := by decide +kernel
theorem dX10_hours_69 : decode cX10_hours 69 = .ok (.lconst 1, 1) := by decide +kernel
theorem dX10_hours_70 : decode cX10_hours 70 = .ok (.lstore 8, 2) := by decide +kernel
theorem dX10_hours_72 : decode cX10_hours 72 = .ok (.iconst 0, 1) := by decide +kernel
theorem dX10_hours_73 : decode cX10_hours 73 = .ok (.istore 10, 2) := by decide +kernel
theorem dX10_hours_75 : decode cX10_hours 75 = .ok (.iload 10, 2) := by decide +kernel
theorem dX10_hours_77 : decode cX10_hours 77 = .ok (.aload_n 0, 1) := by decide +kernel
theorem dX10_hours_78 : decode cX10_hours 78 = .ok (.getfield 312, 3) := by decide +kernel
theorem dX10_hours_81 : decode cX10_hours 81 = .ok (.if_icmp .ge 17, 3) := by decide +kernel
theorem dX10_hours_84 : decode cX10_hours 84 = .ok (.lload 8, 2) := by decide +kernel
theorem dX10_hours_86 : decode cX10_hours 86 = .ok (.ldc2_w 334, 3) := by decide +kernel
theorem dX10_hours_89 : decode cX10_hours 89 = .ok (.lmul, 1) := by decide +kernel
theorem dX10_hours_90 : decode cX10_hours 90 = .ok (.lstore 8, 2) := by decide +kernel
theorem dX10_hours_92 : decode cX10_hours 92 = .ok (.iinc 10 1, 3) := by decide +kernel
theorem dX10_hours_95 : decode cX10_hours 95 = .ok (.goto (-20), 3) := by decide +kernel
theorem dX10_hours_98 : decode cX10_hours 98 = .ok (.iconst 0, 1) := by decide +kernel
theorem dX10_hours_99 : decode cX10_hours 99 = .ok (.istore 10, 2) := by decide +kernel
theorem dX10_hours_101 : decode cX10_hours 101 = .ok (.iload 10, 2) := by decide +kernel
theorem dX10_hours_103 : decode cX10_hours 103 = .ok (.aload_n 0, 1) := by decide +kernel
theorem dX10_hours_104 : decode cX10_hours 104 = .ok (.getfield 312, 3) := by decide +kernel
theorem dX10_hours_107 : decode cX10_hours 107 = .ok (.if_icmp .ge 52, 3) := by decide +kernel
theorem dX10_hours_110 : decode cX10_hours 110 = .ok (.lload 4, 2) := by decide +kernel
theorem dX10_hours_112 : decode cX10_hours 112 = .ok (.aload_n 0, 1) := by decide +kernel
theorem dX10_hours_113 : decode cX10_hours 113 = .ok (.getfield 86, 3) := by decide +kernel
theorem dX10_hours_116 : decode cX10_hours 116 = .ok (.iload 10, 2) := by decide +kernel
theorem dX10_hours_118 : decode cX10_hours 118 = .ok (.iaload, 1) := by decide +kernel
theorem dX10_hours_119 : decode cX10_hours 119 = .ok (.i2l, 1) := by decide +kernel
theorem dX10_hours_120 : decode cX10_hours 120 = .ok (.lload 6, 2) := by decide +kernel
theorem dX10_hours_122 : decode cX10_hours 122 = .ok (.lmul, 1) := by decide +kernel
theorem dX10_hours_123 : decode cX10_hours 123 = .ok (.lload 8, 2) := by decide +kernel
theorem dX10_hours_125 : decode cX10_hours 125 = .ok (.lmul, 1) := by decide +kernel
theorem dX10_hours_126 : decode cX10_hours 126 = .ok (.ladd, 1) := by decide +kernel
theorem dX10_hours_127 : decode cX10_hours 127 = .ok (.lstore 4, 2) := by decide +kernel
theorem dX10_hours_129 : decode cX10_hours 129 = .ok (.lload 6, 2) := by decide +kernel
theorem dX10_hours_131 : decode cX10_hours 131 = .ok (.bipush 16, 2) := by decide +kernel
theorem dX10_hours_133 : decode cX10_hours 133 = .ok (.aload_n 0, 1) := by decide +kernel
theorem dX10_hours_134 : decode cX10_hours 134 = .ok (.getfield 89, 3) := by decide +kernel
theorem dX10_hours_137 : decode cX10_hours 137 = .ok (.iload 10, 2) := by decide +kernel
theorem dX10_hours_139 : decode cX10_hours 139 = .ok (.iaload, 1) := by decide +kernel
theorem dX10_hours_140 : decode cX10_hours 140 = .ok (.isub, 1) := by decide +kernel
theorem dX10_hours_141 : decode cX10_hours 141 = .ok (.i2l, 1) := by decide +kernel
theorem dX10_hours_142 : decode cX10_hours 142 = .ok (.lmul, 1) := by decide +kernel
theorem dX10_hours_143 : decode cX10_hours 143 = .ok (.lstore 6, 2) := by decide +kernel
theorem dX10_hours_145 : decode cX10_hours 145 = .ok (.lload 8, 2) := by decide +kernel
theorem dX10_hours_147 : decode cX10_hours 147 = .ok (.ldc2_w 334, 3) := by decide +kernel
theorem dX10_hours_150 : decode cX10_hours 150 = .ok (.ldiv, 1) := by decide +kernel
theorem dX10_hours_151 : decode cX10_hours 151 = .ok (.lstore 8, 2) := by decide +kernel
theorem dX10_hours_153 : decode cX10_hours 153 = .ok (.iinc 10 1, 3) := by decide +kernel
theorem dX10_hours_156 : decode cX10_hours 156 = .ok (.goto (-55), 3) := by decide +kernel
theorem dX10_hours_159 : decode cX10_hours 159 = .ok (.ldc2_w 336, 3) := by decide +kernel
theorem dX10_hours_162 : decode cX10_hours 162 = .ok (.lload 4, 2) := by decide +kernel
theorem dX10_hours_164 : decode cX10_hours 164 = .ok (.lmul, 1) := by decide +kernel
theorem dX10_hours_165 : decode cX10_hours 165 = .ok (.lload 6, 2) := by decide +kernel
theorem dX10_hours_167 : decode cX10_hours 167 = .ok (.ldiv, 1) := by decide +kernel
theorem dX10_hours_168 : decode cX10_hours 168 = .ok (.lreturn, 1) := by decide +kernel
theorem dX10_order_0 : decode cX10_order 0 = .ok (.aload_n 0, 1) := by decide +kernel
theorem dX10_order_1 : decode cX10_order 1 = .ok (.iconst 0, 1) := by decide +kernel
theorem dX10_order_2 : decode cX10_order 2 = .ok (.putfield 112, 3) := by decide +kernel
theorem dX10_order_5 : decode cX10_order 5 = .ok (.aload_n 0, 1) := by decide +kernel
theorem dX10_order_6 : decode cX10_order 6 = .ok (.aload_n 0, 1) := by decide +kernel
theorem dX10_order_7 : decode cX10_order 7 = .ok (.iload_n 1, 1) := by decide +kernel
theorem dX10_order_8 : decode cX10_order 8 = .ok (.invokevirtual 240, 3) := by decide +kernel
theorem dX10_order_11 : decode cX10_order 11 = .ok (.ifCond .ne 7, 3) := by decide +kernel
theorem dX10_order_14 : decode cX10_order 14 = .ok (.iconst 1, 1) := by decide +kernel
theorem dX10_order_15 : decode cX10_order 15 = .ok (.goto 4, 3) := by decide +kernel
theorem dX10_order_18 : decode cX10_order 18 = .ok (.iconst 0, 1) := by decide +kernel
theorem dX10_order_19 : decode cX10_order 19 = .ok (.iconst 1, 1) := by decide +kernel
theorem dX10_order_20 : decode cX10_order 20 = .ok (.invokevirtual 197, 3) := by decide +kernel
theorem dX10_order_23 : decode cX10_order 23 = .ok (.ifCond .ne 24, 3) := by decide +kernel
theorem dX10_order_26 : decode cX10_order 26 = .ok (.aload_n 0, 1) := by decide +kernel
theorem dX10_order_27 : decode cX10_order 27 = .ok (.iload_n 2, 1) := by decide +kernel
theorem dX10_order_28 : decode cX10_order 28 = .ok (.iload_n 3, 1) := by decide +kernel
theorem dX10_order_29 : decode cX10_order 29 = .ok (.invokestatic 328, 3) := by decide +kernel
theorem dX10_order_32 : decode cX10_order 32 = .ok (.ifCond .ne 7, 3) := by decide +kernel
theorem dX10_order_35 : decode cX10_order 35 = .ok (.iconst 1, 1) := by decide +kernel
theorem dX10_order_36 : decode cX10_order 36 = .ok (.goto 4, 3) := by decide +kernel
theorem dX10_order_39 : decode cX10_order 39 = .ok (.iconst 0, 1) := by decide +kernel
theorem dX10_order_40 : decode cX10_order 40 = .ok (.iconst 2, 1) := by decide +kernel
theorem dX10_order_41 : decode cX10_order 41 = .ok (.invokevirtual 197, 3) := by decide +kernel
theorem dX10_order_44 : decode cX10_order 44 = .ok (.ifCond .eq 5, 3) := by decide +kernel
theorem dX10_order_47 : decode cX10_order 47 = .ok (.iconst 0, 1) := by decide +kernel
theorem dX10_order_48 : decode cX10_order 48 = .ok (.ireturn, 1) := by decide +kernel
theorem dX10_order_49 : decode cX10_order 49 = .ok (.aload_n 0, 1) := by decide +kernel
theorem dX10_order_50 : decode cX10_order 50 = .ok (.iload_n 1, 1) := by decide +kernel
theorem dX10_order_51 : decode cX10_order 51 = .ok (.iload_n 2, 1) := by decide +kernel
theorem dX10_order_52 : decode cX10_order 52 = .ok (.iload_n 3, 1) := by decide +kernel
theorem dX10_order_53 : decode cX10_order 53 = .ok (.invokevirtual 331, 3) := by decide +kernel
theorem dX10_order_56 : decode cX10_order 56 = .ok (.ifCond .eq 28, 3) := by decide +kernel
theorem dX10_order_59 : decode cX10_order 59 = .ok (.iload 4, 2) := by decide +kernel
theorem dX10_order_61 : decode cX10_order 61 = .ok (.iconst 0, 1) := by decide +kernel
theorem dX10_order_62 : decode cX10_order 62 = .ok (.aload_n 0, 1) := by decide +kernel
theorem dX10_order_63 : decode cX10_order 63 = .ok (.getfield 312, 3) := by decide +kernel
theorem dX10_order_66 : decode cX10_order 66 = .ok (.iconst 1, 1) := by decide +kernel
theorem dX10_order_67 : decode cX10_order 67 = .ok (.isub, 1) := by decide +kernel
theorem dX10_order_68 : decode cX10_order 68 = .ok (.invokestatic 146, 3) := by decide +kernel
theorem dX10_order_71 : decode cX10_order 71 = .ok (.ifCond .eq 13, 3) := by decide +kernel
theorem dX10_order_74 : decode cX10_order 74 = .ok (.aload_n 0, 1) := by decide +kernel
theorem dX10_order_75 : decode cX10_order 75 = .ok (.getfield 92, 3) := by decide +kernel
theorem dX10_order_78 : decode cX10_order 78 = .ok (.iload 4, 2) := by decide +kernel
theorem dX10_order_80 : decode cX10_order 80 = .ok (.iaload, 1) := by decide +kernel
theorem dX10_order_81 : decode cX10_order 81 = .ok (.goto 4, 3) := by decide +kernel
theorem dX10_order_84 : decode cX10_order 84 = .ok (.iconst (-1), 1) := by decide +kernel
theorem dX10_order_85 : decode cX10_order 85 = .ok (.ireturn, 1) := by decide +kernel
theorem dX10_bars_0 : decode cX10_bars 0 = .ok (.aload_n 0, 1) := by decide +kernel
theorem dX10_bars_1 : decode cX10_bars 1 = .ok (.iconst 0, 1) := by decide +kernel
theorem dX10_bars_2 : decode cX10_bars 2 = .ok (.putfield 112, 3) := by decide +kernel
theorem dX10_bars_5 : decode cX10_bars 5 = .ok (.aload_n 0, 1) := by decide +kernel
theorem dX10_bars_6 : decode cX10_bars 6 = .ok (.aload_n 0, 1) := by decide +kernel
theorem dX10_bars_7 : decode cX10_bars 7 = .ok (.iload_n 1, 1) := by decide +kernel
theorem dX10_bars_8 : decode cX10_bars 8 = .ok (.invokevirtual 240, 3) := by decide +kernel
theorem dX10_bars_11 : decode cX10_bars 11 = .ok (.ifCond .ne 7, 3) := by decide +kernel
theorem dX10_bars_14 : decode cX10_bars 14 = .ok (.iconst 1, 1) := by decide +kernel
theorem dX10_bars_15 : decode cX10_bars 15 = .ok (.goto 4, 3) := by decide +kernel
theorem dX10_bars_18 : decode cX10_bars 18 = .ok (.iconst 0, 1) := by decide +kernel
theorem dX10_bars_19 : decode cX10_bars 19 = .ok (.iconst 1, 1) := by decide +kernel
theorem dX10_bars_20 : decode cX10_bars 20 = .ok (.invokevirtual 197, 3) := by decide +kernel
theorem dX10_bars_23 : decode cX10_bars 23 = .ok (.ifCond .ne 24, 3) := by decide +kernel
theorem dX10_bars_26 : decode cX10_bars 26 = .ok (.aload_n 0, 1) := by decide +kernel
theorem dX10_bars_27 : decode cX10_bars 27 = .ok (.iload_n 2, 1) := by decide +kernel
theorem dX10_bars_28 : decode cX10_bars 28 = .ok (.iload_n 3, 1) := by decide +kernel
theorem dX10_bars_29 : decode cX10_bars 29 = .ok (.invokestatic 328, 3) := by decide +kernel
theorem dX10_bars_32 : decode cX10_bars 32 = .ok (.ifCond .ne 7, 3) := by decide +kernel
theorem dX10_bars_35 : decode cX10_bars 35 = .ok (.iconst 1, 1) := by decide +kernel
theorem dX10_bars_36 : decode cX10_bars 36 = .ok (.goto 4, 3) := by decide +kernel
theorem dX10_bars_39 : decode cX10_bars 39 = .ok (.iconst 0, 1) := by decide +kernel
theorem dX10_bars_40 : decode cX10_bars 40 = .ok (.iconst 2, 1) := by decide +kernel
theorem dX10_bars_41 : decode cX10_bars 41 = .ok (.invokevirtual 197, 3) := by decide +kernel
theorem dX10_bars_44 : decode cX10_bars 44 = .ok (.ifCond .eq 5, 3) := by decide +kernel
theorem dX10_bars_47 : decode cX10_bars 47 = .ok (.lconst 0, 1) := by decide +kernel
theorem dX10_bars_48 : decode cX10_bars 48 = .ok (.lreturn, 1) := by decide +kernel
theorem dX10_bars_49 : decode cX10_bars 49 = .ok (.aload_n 0, 1) := by decide +kernel
theorem dX10_bars_50 : decode cX10_bars 50 = .ok (.iload_n 1, 1) := by decide +kernel
theorem dX10_bars_51 : decode cX10_bars 51 = .ok (.iload_n 2, 1) := by decide +kernel
theorem dX10_bars_52 : decode cX10_bars 52 = .ok (.iload_n 3, 1) := by decide +kernel
theorem dX10_bars_53 : decode cX10_bars 53 = .ok (.invokevirtual 331, 3) := by decide +kernel
theorem dX10_bars_56 : decode cX10_bars 56 = .ok (.ifCond .ne 7, 3) := by decide +kernel
theorem dX10_bars_59 : decode cX10_bars 59 = .ok (.ldc2_w 195, 3) := by decide +kernel
theorem dX10_bars_62 : decode cX10_bars 62 = .ok (.lreturn, 1) := by decide +kernel
theorem dX10_bars_63 : decode cX10_bars 63 = .ok (.ldc2_w 336, 3) := by decide +kernel
theorem dX10_bars_66 : decode cX10_bars 66 = .ok (.lstore 4, 2) := by decide +kernel
theorem dX10_bars_68 : decode cX10_bars 68 = .ok (.lconst 1, 1) := by decide +kernel
theorem dX10_bars_69 : decode cX10_bars 69 = .ok (.lstore 6, 2) := by decide +kernel
theorem dX10_bars_71 : decode cX10_bars 71 = .ok (.iconst 0, 1) := by decide +kernel
theorem dX10_bars_72 : decode cX10_bars 72 = .ok (.istore 8, 2) := by decide +kernel
theorem dX10_bars_74 : decode cX10_bars 74 = .ok (.iload 8, 2) := by decide +kernel
theorem dX10_bars_76 : decode cX10_bars 76 = .ok (.aload_n 0, 1) := by decide +kernel
theorem dX10_bars_77 : decode cX10_bars 77 = .ok (.getfield 312, 3) := by decide +kernel
theorem dX10_bars_80 : decode cX10_bars 80 = .ok (.if_icmp .ge 33, 3) := by decide +kernel
theorem dX10_bars_83 : decode cX10_bars 83 = .ok (.lload 4, 2) := by decide +kernel
theorem dX10_bars_85 : decode cX10_bars 85 = .ok (.ldc2_w 334, 3) := by decide +kernel
theorem dX10_bars_88 : decode cX10_bars 88 = .ok (.lmul, 1) := by decide +kernel
theorem dX10_bars_89 : decode cX10_bars 89 = .ok (.lstore 4, 2) := by decide +kernel
theorem dX10_bars_91 : decode cX10_bars 91 = .ok (.lload 6, 2) := by decide +kernel
theorem dX10_bars_93 : decode cX10_bars 93 = .ok (.bipush 16, 2) := by decide +kernel
theorem dX10_bars_95 : decode cX10_bars 95 = .ok (.aload_n 0, 1) := by decide +kernel
theorem dX10_bars_96 : decode cX10_bars 96 = .ok (.getfield 89, 3) := by decide +kernel
theorem dX10_bars_99 : decode cX10_bars 99 = .ok (.iload 8, 2) := by decide +kernel
theorem dX10_bars_101 : decode cX10_bars 101 = .ok (.iaload, 1) := by decide +kernel
theorem dX10_bars_102 : decode cX10_bars 102 = .ok (.isub, 1) := by decide +kernel
theorem dX10_bars_103 : decode cX10_bars 103 = .ok (.i2l, 1) := by decide +kernel
theorem dX10_bars_104 : decode cX10_bars 104 = .ok (.lmul, 1) := by decide +kernel
theorem dX10_bars_105 : decode cX10_bars 105 = .ok (.lstore 6, 2) := by decide +kernel
theorem dX10_bars_107 : decode cX10_bars 107 = .ok (.iinc 8 1, 3) := by decide +kernel
theorem dX10_bars_110 : decode cX10_bars 110 = .ok (.goto (-36), 3) := by decide +kernel
theorem dX10_bars_113 : decode cX10_bars 113 = .ok (.lload 4, 2) := by decide +kernel
theorem dX10_bars_115 : decode cX10_bars 115 = .ok (.lload 6, 2) := by decide +kernel
theorem dX10_bars_117 : decode cX10_bars 117 = .ok (.ldiv, 1) := by decide +kernel
theorem dX10_bars_118 : decode cX10_bars 118 = .ok (.lreturn, 1) := by decide +kernel
theorem dX10_blackOf_0 : decode cX10_blackOf 0 = .ok (.bipush 16, 2) := by decide +kernel
theorem dX10_blackOf_2 : decode cX10_blackOf 2 = .ok (.aload_n 0, 1) := by decide +kernel
theorem dX10_blackOf_3 : decode cX10_blackOf 3 = .ok (.getfield 27, 3) := by decide +kernel
theorem dX10_blackOf_6 : decode cX10_blackOf 6 = .ok (.iload_n 1, 1) := by decide +kernel
theorem dX10_blackOf_7 : decode cX10_blackOf 7 = .ok (.laload, 1) := by decide +kernel
theorem dX10_blackOf_8 : decode cX10_blackOf 8 = .ok (.invokestatic 243, 3) := by decide +kernel
theorem dX10_blackOf_11 : decode cX10_blackOf 11 = .ok (.imul, 1) := by decide +kernel
theorem dX10_blackOf_12 : decode cX10_blackOf 12 = .ok (.iload_n 2, 1) := by decide +kernel
theorem dX10_blackOf_13 : decode cX10_blackOf 13 = .ok (.aload_n 0, 1) := by decide +kernel
theorem dX10_blackOf_14 : decode cX10_blackOf 14 = .ok (.iload_n 1, 1) := by decide +kernel
theorem dX10_blackOf_15 : decode cX10_blackOf 15 = .ok (.invokevirtual 247, 3) := by decide +kernel
theorem dX10_blackOf_18 : decode cX10_blackOf 18 = .ok (.imul, 1) := by decide +kernel
theorem dX10_blackOf_19 : decode cX10_blackOf 19 = .ok (.iadd, 1) := by decide +kernel
theorem dX10_blackOf_20 : decode cX10_blackOf 20 = .ok (.ireturn, 1) := by decide +kernel
theorem dX10_black_0 : decode cX10_black 0 = .ok (.aload_n 0, 1) := by decide +kernel
theorem dX10_black_1 : decode cX10_black 1 = .ok (.iconst 0, 1) := by decide +kernel
theorem dX10_black_2 : decode cX10_black 2 = .ok (.putfield 112, 3) := by decide +kernel
theorem dX10_black_5 : decode cX10_black 5 = .ok (.aload_n 0, 1) := by decide +kernel
theorem dX10_black_6 : decode cX10_black 6 = .ok (.aload_n 0, 1) := by decide +kernel
theorem dX10_black_7 : decode cX10_black 7 = .ok (.iload_n 1, 1) := by decide +kernel
theorem dX10_black_8 : decode cX10_black 8 = .ok (.invokevirtual 240, 3) := by decide +kernel
theorem dX10_black_11 : decode cX10_black 11 = .ok (.ifCond .ne 7, 3) := by decide +kernel
theorem dX10_black_14 : decode cX10_black 14 = .ok (.iconst 1, 1) := by decide +kernel
theorem dX10_black_15 : decode cX10_black 15 = .ok (.goto 4, 3) := by decide +kernel
theorem dX10_black_18 : decode cX10_black 18 = .ok (.iconst 0, 1) := by decide +kernel
theorem dX10_black_19 : decode cX10_black 19 = .ok (.iconst 1, 1) := by decide +kernel
theorem dX10_black_20 : decode cX10_black 20 = .ok (.invokevirtual 197, 3) := by decide +kernel
theorem dX10_black_23 : decode cX10_black 23 = .ok (.ifCond .ne 26, 3) := by decide +kernel
theorem dX10_black_26 : decode cX10_black 26 = .ok (.aload_n 0, 1) := by decide +kernel
theorem dX10_black_27 : decode cX10_black 27 = .ok (.iload_n 2, 1) := by decide +kernel
theorem dX10_black_28 : decode cX10_black 28 = .ok (.iconst 1, 1) := by decide +kernel
theorem dX10_black_29 : decode cX10_black 29 = .ok (.bipush 9, 2) := by decide +kernel
theorem dX10_black_31 : decode cX10_black 31 = .ok (.invokestatic 146, 3) := by decide +kernel
theorem dX10_black_34 : decode cX10_black 34 = .ok (.ifCond .ne 7, 3) := by decide +kernel
theorem dX10_black_37 : decode cX10_black 37 = .ok (.iconst 1, 1) := by decide +kernel
theorem dX10_black_38 : decode cX10_black 38 = .ok (.goto 4, 3) := by decide +kernel
theorem dX10_black_41 : decode cX10_black 41 = .ok (.iconst 0, 1) := by decide +kernel
theorem dX10_black_42 : decode cX10_black 42 = .ok (.iconst 2, 1) := by decide +kernel
theorem dX10_black_43 : decode cX10_black 43 = .ok (.invokevirtual 197, 3) := by decide +kernel
theorem dX10_black_46 : decode cX10_black 46 = .ok (.ifCond .eq 5, 3) := by decide +kernel
theorem dX10_black_49 : decode cX10_black 49 = .ok (.iconst 0, 1) := by decide +kernel
theorem dX10_black_50 : decode cX10_black 50 = .ok (.ireturn, 1) := by decide +kernel
theorem dX10_black_51 : decode cX10_black 51 = .ok (.aload_n 0, 1) := by decide +kernel
theorem dX10_black_52 : decode cX10_black 52 = .ok (.iload_n 1, 1) := by decide +kernel
theorem dX10_black_53 : decode cX10_black 53 = .ok (.aload_n 0, 1) := by decide +kernel
theorem dX10_black_54 : decode cX10_black 54 = .ok (.getfield 47, 3) := by decide +kernel
theorem dX10_black_57 : decode cX10_black 57 = .ok (.iload_n 2, 1) := by decide +kernel
theorem dX10_black_58 : decode cX10_black 58 = .ok (.iaload, 1) := by decide +kernel
theorem dX10_black_59 : decode cX10_black 59 = .ok (.invokevirtual 338, 3) := by decide +kernel
theorem dX10_black_62 : decode cX10_black 62 = .ok (.ireturn, 1) := by decide +kernel
theorem dX10_roomOf_0 : decode cX10_roomOf 0 = .ok (.iload_n 0, 1) := by decide +kernel
theorem dX10_roomOf_1 : decode cX10_roomOf 1 = .ok (.istore_n 2, 1) := by decide +kernel
theorem dX10_roomOf_2 : decode cX10_roomOf 2 = .ok (.iconst 0, 1) := by decide +kernel
theorem dX10_roomOf_3 : decode cX10_roomOf 3 = .ok (.istore_n 3, 1) := by decide +kernel
theorem dX10_roomOf_4 : decode cX10_roomOf 4 = .ok (.iload_n 3, 1) := by decide +kernel
theorem dX10_roomOf_5 : decode cX10_roomOf 5 = .ok (.iload_n 1, 1) := by decide +kernel
theorem dX10_roomOf_6 : decode cX10_roomOf 6 = .ok (.if_icmp .ge 13, 3) := by decide +kernel
theorem dX10_roomOf_9 : decode cX10_roomOf 9 = .ok (.iload_n 2, 1) := by decide +kernel
theorem dX10_roomOf_10 : decode cX10_roomOf 10 = .ok (.iconst 5, 1) := by decide +kernel
theorem dX10_roomOf_11 : decode cX10_roomOf 11 = .ok (.idiv, 1) := by decide +kernel
theorem dX10_roomOf_12 : decode cX10_roomOf 12 = .ok (.istore_n 2, 1) := by decide +kernel
theorem dX10_roomOf_13 : decode cX10_roomOf 13 = .ok (.iinc 3 1, 3) := by decide +kernel
theorem dX10_roomOf_16 : decode cX10_roomOf 16 = .ok (.goto (-12), 3) := by decide +kernel
theorem dX10_roomOf_19 : decode cX10_roomOf 19 = .ok (.iload_n 2, 1) := by decide +kernel
theorem dX10_roomOf_20 : decode cX10_roomOf 20 = .ok (.iconst 5, 1) := by decide +kernel
theorem dX10_roomOf_21 : decode cX10_roomOf 21 = .ok (.irem, 1) := by decide +kernel
theorem dX10_roomOf_22 : decode cX10_roomOf 22 = .ok (.ireturn, 1) := by decide +kernel
theorem dX10_layBlacks_0 : decode cX10_layBlacks 0 = .ok (.iconst 0, 1) := by decide +kernel
theorem dX10_layBlacks_1 : decode cX10_layBlacks 1 = .ok (.istore_n 2, 1) := by decide +kernel
theorem dX10_layBlacks_2 : decode cX10_layBlacks 2 = .ok (.iload_n 2, 1) := by decide +kernel
theorem dX10_layBlacks_3 : decode cX10_layBlacks 3 = .ok (.aload_n 0, 1) := by decide +kernel
theorem dX10_layBlacks_4 : decode cX10_layBlacks 4 = .ok (.getfield 20, 3) := by decide +kernel
theorem dX10_layBlacks_7 : decode cX10_layBlacks 7 = .ok (.iconst 0, 1) := by decide +kernel
theorem dX10_layBlacks_8 : decode cX10_layBlacks 8 = .ok (.iaload, 1) := by decide +kernel
theorem dX10_layBlacks_9 : decode cX10_layBlacks 9 = .ok (.if_icmp .ge 32, 3) := by decide +kernel
theorem dX10_layBlacks_12 : decode cX10_layBlacks 12 = .ok (.aload_n 0, 1) := by decide +kernel
theorem dX10_layBlacks_13 : decode cX10_layBlacks 13 = .ok (.getfield 101, 3) := by decide +kernel
theorem dX10_layBlacks_16 : decode cX10_layBlacks 16 = .ok (.iload_n 2, 1) := by decide +kernel
theorem dX10_layBlacks_17 : decode cX10_layBlacks 17 = .ok (.aload_n 0, 1) := by decide +kernel
theorem dX10_layBlacks_18 : decode cX10_layBlacks 18 = .ok (.iload_n 2, 1) := by decide +kernel
theorem dX10_layBlacks_19 : decode cX10_layBlacks 19 = .ok (.iload_n 1, 1) := by decide +kernel
theorem dX10_layBlacks_20 : decode cX10_layBlacks 20 = .ok (.invokevirtual 338, 3) := by decide +kernel
theorem dX10_layBlacks_23 : decode cX10_layBlacks 23 = .ok (.iastore, 1) := by decide +kernel
theorem dX10_layBlacks_24 : decode cX10_layBlacks 24 = .ok (.aload_n 0, 1) := by decide +kernel
theorem dX10_layBlacks_25 : decode cX10_layBlacks 25 = .ok (.getfield 104, 3) := by decide +kernel
theorem dX10_layBlacks_28 : decode cX10_layBlacks 28 = .ok (.iload_n 2, 1) := by decide +kernel
theorem dX10_layBlacks_29 : decode cX10_layBlacks 29 = .ok (.aload_n 0, 1) := by decide +kernel
theorem dX10_layBlacks_30 : decode cX10_layBlacks 30 = .ok (.iload_n 2, 1) := by decide +kernel
theorem dX10_layBlacks_31 : decode cX10_layBlacks 31 = .ok (.invokevirtual 250, 3) := by decide +kernel
theorem dX10_layBlacks_34 : decode cX10_layBlacks 34 = .ok (.iastore, 1) := by decide +kernel
theorem dX10_layBlacks_35 : decode cX10_layBlacks 35 = .ok (.iinc 2 1, 3) := by decide +kernel
theorem dX10_layBlacks_38 : decode cX10_layBlacks 38 = .ok (.goto (-36), 3) := by decide +kernel
theorem dX10_layBlacks_41 : decode cX10_layBlacks 41 = .ok (.return_, 1) := by decide +kernel
theorem dX10_colourOf_0 : decode cX10_colourOf 0 = .ok (.iconst 0, 1) := by decide +kernel
theorem dX10_colourOf_1 : decode cX10_colourOf 1 = .ok (.istore_n 3, 1) := by decide +kernel
theorem dX10_colourOf_2 : decode cX10_colourOf 2 = .ok (.iconst 0, 1) := by decide +kernel
theorem dX10_colourOf_3 : decode cX10_colourOf 3 = .ok (.istore 4, 2) := by decide +kernel
theorem dX10_colourOf_5 : decode cX10_colourOf 5 = .ok (.iconst 0, 1) := by decide +kernel
theorem dX10_colourOf_6 : decode cX10_colourOf 6 = .ok (.istore 5, 2) := by decide +kernel
theorem dX10_colourOf_8 : decode cX10_colourOf 8 = .ok (.iload 5, 2) := by decide +kernel
theorem dX10_colourOf_10 : decode cX10_colourOf 10 = .ok (.aload_n 0, 1) := by decide +kernel
theorem dX10_colourOf_11 : decode cX10_colourOf 11 = .ok (.getfield 41, 3) := by decide +kernel
theorem dX10_colourOf_14 : decode cX10_colourOf 14 = .ok (.iload_n 1, 1) := by decide +kernel
theorem dX10_colourOf_15 : decode cX10_colourOf 15 = .ok (.iaload, 1) := by decide +kernel
theorem dX10_colourOf_16 : decode cX10_colourOf 16 = .ok (.if_icmp .ge 59, 3) := by decide +kernel
theorem dX10_colourOf_19 : decode cX10_colourOf 19 = .ok (.iload_n 3, 1) := by decide +kernel
theorem dX10_colourOf_20 : decode cX10_colourOf 20 = .ok (.aload_n 0, 1) := by decide +kernel
theorem dX10_colourOf_21 : decode cX10_colourOf 21 = .ok (.getfield 101, 3) := by decide +kernel
theorem dX10_colourOf_24 : decode cX10_colourOf 24 = .ok (.aload_n 0, 1) := by decide +kernel
theorem dX10_colourOf_25 : decode cX10_colourOf 25 = .ok (.getfield 35, 3) := by decide +kernel
theorem dX10_colourOf_28 : decode cX10_colourOf 28 = .ok (.iload_n 1, 1) := by decide +kernel
theorem dX10_colourOf_29 : decode cX10_colourOf 29 = .ok (.aaload, 1) := by decide +kernel
theorem dX10_colourOf_30 : decode cX10_colourOf 30 = .ok (.iload 5, 2) := by decide +kernel
theorem dX10_colourOf_32 : decode cX10_colourOf 32 = .ok (.iaload, 1) := by decide +kernel
theorem dX10_colourOf_33 : decode cX10_colourOf 33 = .ok (.iaload, 1) := by decide +kernel
theorem dX10_colourOf_34 : decode cX10_colourOf 34 = .ok (.iadd, 1) := by decide +kernel
theorem dX10_colourOf_35 : decode cX10_colourOf 35 = .ok (.istore_n 3, 1) := by decide +kernel
theorem dX10_colourOf_36 : decode cX10_colourOf 36 = .ok (.iload 4, 2) := by decide +kernel
theorem dX10_colourOf_38 : decode cX10_colourOf 38 = .ok (.aload_n 0, 1) := by decide +kernel
theorem dX10_colourOf_39 : decode cX10_colourOf 39 = .ok (.getfield 104, 3) := by decide +kernel
theorem dX10_colourOf_42 : decode cX10_colourOf 42 = .ok (.aload_n 0, 1) := by decide +kernel
theorem dX10_colourOf_43 : decode cX10_colourOf 43 = .ok (.getfield 35, 3) := by decide +kernel
theorem dX10_colourOf_46 : decode cX10_colourOf 46 = .ok (.iload_n 1, 1) := by decide +kernel
theorem dX10_colourOf_47 : decode cX10_colourOf 47 = .ok (.aaload, 1) := by decide +kernel
theorem dX10_colourOf_48 : decode cX10_colourOf 48 = .ok (.iload 5, 2) := by decide +kernel
theorem dX10_colourOf_50 : decode cX10_colourOf 50 = .ok (.iaload, 1) := by decide +kernel
theorem dX10_colourOf_51 : decode cX10_colourOf 51 = .ok (.iaload, 1) := by decide +kernel
theorem dX10_colourOf_52 : decode cX10_colourOf 52 = .ok (.iload_n 2, 1) := by decide +kernel
theorem dX10_colourOf_53 : decode cX10_colourOf 53 = .ok (.aload_n 0, 1) := by decide +kernel
theorem dX10_colourOf_54 : decode cX10_colourOf 54 = .ok (.getfield 35, 3) := by decide +kernel
theorem dX10_colourOf_57 : decode cX10_colourOf 57 = .ok (.iload_n 1, 1) := by decide +kernel
theorem dX10_colourOf_58 : decode cX10_colourOf 58 = .ok (.aaload, 1) := by decide +kernel
theorem dX10_colourOf_59 : decode cX10_colourOf 59 = .ok (.iload 5, 2) := by decide +kernel
theorem dX10_colourOf_61 : decode cX10_colourOf 61 = .ok (.iaload, 1) := by decide +kernel
theorem dX10_colourOf_62 : decode cX10_colourOf 62 = .ok (.invokestatic 341, 3) := by decide +kernel
theorem dX10_colourOf_65 : decode cX10_colourOf 65 = .ok (.iadd, 1) := by decide +kernel
theorem dX10_colourOf_66 : decode cX10_colourOf 66 = .ok (.iadd, 1) := by decide +kernel
theorem dX10_colourOf_67 : decode cX10_colourOf 67 = .ok (.istore 4, 2) := by decide +kernel
theorem dX10_colourOf_69 : decode cX10_colourOf 69 = .ok (.iinc 5 1, 3) := by decide +kernel
theorem dX10_colourOf_72 : decode cX10_colourOf 72 = .ok (.goto (-64), 3) := by decide +kernel
theorem dX10_colourOf_75 : decode cX10_colourOf 75 = .ok (.iload 4, 2) := by decide +kernel
theorem dX10_colourOf_77 : decode cX10_colourOf 77 = .ok (.ifCond .ne 7, 3) := by decide +kernel
theorem dX10_colourOf_80 : decode cX10_colourOf 80 = .ok (.iconst 0, 1) := by decide +kernel
theorem dX10_colourOf_81 : decode cX10_colourOf 81 = .ok (.goto 14, 3) := by decide +kernel
theorem dX10_colourOf_84 : decode cX10_colourOf 84 = .ok (.sipush 1000, 3) := by decide +kernel
theorem dX10_colourOf_87 : decode cX10_colourOf 87 = .ok (.iload_n 3, 1) := by decide +kernel
theorem dX10_colourOf_88 : decode cX10_colourOf 88 = .ok (.imul, 1) := by decide +kernel
theorem dX10_colourOf_89 : decode cX10_colourOf 89 = .ok (.bipush 16, 2) := by decide +kernel
theorem dX10_colourOf_91 : decode cX10_colourOf 91 = .ok (.iload 4, 2) := by decide +kernel
theorem dX10_colourOf_93 : decode cX10_colourOf 93 = .ok (.imul, 1) := by decide +kernel
theorem dX10_colourOf_94 : decode cX10_colourOf 94 = .ok (.idiv, 1) := by decide +kernel
theorem dX10_colourOf_95 : decode cX10_colourOf 95 = .ok (.ireturn, 1) := by decide +kernel
theorem dX10_isRoom_0 : decode cX10_isRoom 0 = .ok (.iload_n 0, 1) := by decide +kernel
theorem dX10_isRoom_1 : decode cX10_isRoom 1 = .ok (.iconst 1, 1) := by decide +kernel
theorem dX10_isRoom_2 : decode cX10_isRoom 2 = .ok (.bipush 9, 2) := by decide +kernel
theorem dX10_isRoom_4 : decode cX10_isRoom 4 = .ok (.invokestatic 146, 3) := by decide +kernel
theorem dX10_isRoom_7 : decode cX10_isRoom 7 = .ok (.ifCond .eq 18, 3) := by decide +kernel
theorem dX10_isRoom_10 : decode cX10_isRoom 10 = .ok (.iload_n 1, 1) := by decide +kernel
theorem dX10_isRoom_11 : decode cX10_isRoom 11 = .ok (.iconst 0, 1) := by decide +kernel
theorem dX10_isRoom_12 : decode cX10_isRoom 12 = .ok (.ldc_w 344, 3) := by decide +kernel
theorem dX10_isRoom_15 : decode cX10_isRoom 15 = .ok (.invokestatic 146, 3) := by decide +kernel
theorem dX10_isRoom_18 : decode cX10_isRoom 18 = .ok (.ifCond .eq 7, 3) := by decide +kernel
theorem dX10_isRoom_21 : decode cX10_isRoom 21 = .ok (.iconst 1, 1) := by decide +kernel
theorem dX10_isRoom_22 : decode cX10_isRoom 22 = .ok (.goto 4, 3) := by decide +kernel
theorem dX10_isRoom_25 : decode cX10_isRoom 25 = .ok (.iconst 0, 1) := by decide +kernel
theorem dX10_isRoom_26 : decode cX10_isRoom 26 = .ok (.ireturn, 1) := by decide +kernel
theorem dX10_colour_0 : decode cX10_colour 0 = .ok (.aload_n 0, 1) := by decide +kernel
theorem dX10_colour_1 : decode cX10_colour 1 = .ok (.iconst 0, 1) := by decide +kernel
theorem dX10_colour_2 : decode cX10_colour 2 = .ok (.putfield 112, 3) := by decide +kernel
theorem dX10_colour_5 : decode cX10_colour 5 = .ok (.aload_n 0, 1) := by decide +kernel
theorem dX10_colour_6 : decode cX10_colour 6 = .ok (.iload_n 1, 1) := by decide +kernel
theorem dX10_colour_7 : decode cX10_colour 7 = .ok (.iconst 0, 1) := by decide +kernel
theorem dX10_colour_8 : decode cX10_colour 8 = .ok (.aload_n 0, 1) := by decide +kernel
theorem dX10_colour_9 : decode cX10_colour 9 = .ok (.getfield 20, 3) := by decide +kernel
theorem dX10_colour_12 : decode cX10_colour 12 = .ok (.iconst 1, 1) := by decide +kernel
theorem dX10_colour_13 : decode cX10_colour 13 = .ok (.iaload, 1) := by decide +kernel
theorem dX10_colour_14 : decode cX10_colour 14 = .ok (.iconst 1, 1) := by decide +kernel
theorem dX10_colour_15 : decode cX10_colour 15 = .ok (.isub, 1) := by decide +kernel
theorem dX10_colour_16 : decode cX10_colour 16 = .ok (.invokestatic 146, 3) := by decide +kernel
theorem dX10_colour_19 : decode cX10_colour 19 = .ok (.ifCond .ne 7, 3) := by decide +kernel
theorem dX10_colour_22 : decode cX10_colour 22 = .ok (.iconst 1, 1) := by decide +kernel
theorem dX10_colour_23 : decode cX10_colour 23 = .ok (.goto 4, 3) := by decide +kernel
theorem dX10_colour_26 : decode cX10_colour 26 = .ok (.iconst 0, 1) := by decide +kernel
theorem dX10_colour_27 : decode cX10_colour 27 = .ok (.iconst 1, 1) := by decide +kernel
theorem dX10_colour_28 : decode cX10_colour 28 = .ok (.invokevirtual 197, 3) := by decide +kernel
theorem dX10_colour_31 : decode cX10_colour 31 = .ok (.ifCond .ne 24, 3) := by decide +kernel
theorem dX10_colour_34 : decode cX10_colour 34 = .ok (.aload_n 0, 1) := by decide +kernel
theorem dX10_colour_35 : decode cX10_colour 35 = .ok (.iload_n 2, 1) := by decide +kernel
theorem dX10_colour_36 : decode cX10_colour 36 = .ok (.iload_n 3, 1) := by decide +kernel
theorem dX10_colour_37 : decode cX10_colour 37 = .ok (.invokestatic 345, 3) := by decide +kernel
theorem dX10_colour_40 : decode cX10_colour 40 = .ok (.ifCond .ne 7, 3) := by decide +kernel
theorem dX10_colour_43 : decode cX10_colour 43 = .ok (.iconst 1, 1) := by decide +kernel
theorem dX10_colour_44 : decode cX10_colour 44 = .ok (.goto 4, 3) := by decide +kernel
theorem dX10_colour_47 : decode cX10_colour 47 = .ok (.iconst 0, 1) := by decide +kernel
theorem dX10_colour_48 : decode cX10_colour 48 = .ok (.iconst 2, 1) := by decide +kernel
theorem dX10_colour_49 : decode cX10_colour 49 = .ok (.invokevirtual 197, 3) := by decide +kernel
theorem dX10_colour_52 : decode cX10_colour 52 = .ok (.ifCond .eq 5, 3) := by decide +kernel
theorem dX10_colour_55 : decode cX10_colour 55 = .ok (.iconst 0, 1) := by decide +kernel
theorem dX10_colour_56 : decode cX10_colour 56 = .ok (.ireturn, 1) := by decide +kernel
theorem dX10_colour_57 : decode cX10_colour 57 = .ok (.aload_n 0, 1) := by decide +kernel
theorem dX10_colour_58 : decode cX10_colour 58 = .ok (.aload_n 0, 1) := by decide +kernel
theorem dX10_colour_59 : decode cX10_colour 59 = .ok (.getfield 47, 3) := by decide +kernel
theorem dX10_colour_62 : decode cX10_colour 62 = .ok (.iload_n 2, 1) := by decide +kernel
theorem dX10_colour_63 : decode cX10_colour 63 = .ok (.iaload, 1) := by decide +kernel
theorem dX10_colour_64 : decode cX10_colour 64 = .ok (.invokevirtual 348, 3) := by decide +kernel
theorem dX10_colour_67 : decode cX10_colour 67 = .ok (.aload_n 0, 1) := by decide +kernel
theorem dX10_colour_68 : decode cX10_colour 68 = .ok (.iload_n 1, 1) := by decide +kernel
theorem dX10_colour_69 : decode cX10_colour 69 = .ok (.iload_n 3, 1) := by decide +kernel
theorem dX10_colour_70 : decode cX10_colour 70 = .ok (.invokevirtual 351, 3) := by decide +kernel
theorem dX10_colour_73 : decode cX10_colour 73 = .ok (.ireturn, 1) := by decide +kernel
theorem dX10_unevenBy_0 : decode cX10_unevenBy 0 = .ok (.iconst 0, 1) := by decide +kernel
theorem dX10_unevenBy_1 : decode cX10_unevenBy 1 = .ok (.istore_n 2, 1) := by decide +kernel
theorem dX10_unevenBy_2 : decode cX10_unevenBy 2 = .ok (.iconst 0, 1) := by decide +kernel
theorem dX10_unevenBy_3 : decode cX10_unevenBy 3 = .ok (.istore_n 3, 1) := by decide +kernel
theorem dX10_unevenBy_4 : decode cX10_unevenBy 4 = .ok (.iconst 0, 1) := by decide +kernel
theorem dX10_unevenBy_5 : decode cX10_unevenBy 5 = .ok (.istore 4, 2) := by decide +kernel
theorem dX10_unevenBy_7 : decode cX10_unevenBy 7 = .ok (.iload 4, 2) := by decide +kernel
theorem dX10_unevenBy_9 : decode cX10_unevenBy 9 = .ok (.aload_n 0, 1) := by decide +kernel
theorem dX10_unevenBy_10 : decode cX10_unevenBy 10 = .ok (.getfield 20, 3) := by decide +kernel
theorem dX10_unevenBy_13 : decode cX10_unevenBy 13 = .ok (.iconst 1, 1) := by decide +kernel
theorem dX10_unevenBy_14 : decode cX10_unevenBy 14 = .ok (.iaload, 1) := by decide +kernel
theorem dX10_unevenBy_15 : decode cX10_unevenBy 15 = .ok (.if_icmp .ge 54, 3) := by decide +kernel
theorem dX10_unevenBy_18 : decode cX10_unevenBy 18 = .ok (.aload_n 0, 1) := by decide +kernel
theorem dX10_unevenBy_19 : decode cX10_unevenBy 19 = .ok (.iload 4, 2) := by decide +kernel
theorem dX10_unevenBy_21 : decode cX10_unevenBy 21 = .ok (.iload_n 1, 1) := by decide +kernel
theorem dX10_unevenBy_22 : decode cX10_unevenBy 22 = .ok (.invokevirtual 351, 3) := by decide +kernel
theorem dX10_unevenBy_25 : decode cX10_unevenBy 25 = .ok (.istore 5, 2) := by decide +kernel
theorem dX10_unevenBy_27 : decode cX10_unevenBy 27 = .ok (.iload 4, 2) := by decide +kernel
theorem dX10_unevenBy_29 : decode cX10_unevenBy 29 = .ok (.ifCond .eq 9, 3) := by decide +kernel
theorem dX10_unevenBy_32 : decode cX10_unevenBy 32 = .ok (.iload 5, 2) := by decide +kernel
theorem dX10_unevenBy_34 : decode cX10_unevenBy 34 = .ok (.iload_n 2, 1) := by decide +kernel
theorem dX10_unevenBy_35 : decode cX10_unevenBy 35 = .ok (.if_icmp .le 8, 3) := by decide +kernel
theorem dX10_unevenBy_38 : decode cX10_unevenBy 38 = .ok (.iload 5, 2) := by decide +kernel
theorem dX10_unevenBy_40 : decode cX10_unevenBy 40 = .ok (.goto 4, 3) := by decide +kernel
theorem dX10_unevenBy_43 : decode cX10_unevenBy 43 = .ok (.iload_n 2, 1) := by decide +kernel
theorem dX10_unevenBy_44 : decode cX10_unevenBy 44 = .ok (.istore_n 2, 1) := by decide +kernel
theorem dX10_unevenBy_45 : decode cX10_unevenBy 45 = .ok (.iload 4, 2) := by decide +kernel
theorem dX10_unevenBy_47 : decode cX10_unevenBy 47 = .ok (.ifCond .eq 9, 3) := by decide +kernel
theorem dX10_unevenBy_50 : decode cX10_unevenBy 50 = .ok (.iload 5, 2) := by decide +kernel
theorem dX10_unevenBy_52 : decode cX10_unevenBy 52 = .ok (.iload_n 3, 1) := by decide +kernel
theorem dX10_unevenBy_53 : decode cX10_unevenBy 53 = .ok (.if_icmp .ge 8, 3) := by decide +kernel
theorem dX10_unevenBy_56 : decode cX10_unevenBy 56 = .ok (.iload 5, 2) := by decide +kernel
theorem dX10_unevenBy_58 : decode cX10_unevenBy 58 = .ok (.goto 4, 3) := by decide +kernel
theorem dX10_unevenBy_61 : decode cX10_unevenBy 61 = .ok (.iload_n 3, 1) := by decide +kernel
theorem dX10_unevenBy_62 : decode cX10_unevenBy 62 = .ok (.istore_n 3, 1) := by decide +kernel
theorem dX10_unevenBy_63 : decode cX10_unevenBy 63 = .ok (.iinc 4 1, 3) := by decide +kernel
theorem dX10_unevenBy_66 : decode cX10_unevenBy 66 = .ok (.goto (-59), 3) := by decide +kernel
theorem dX10_unevenBy_69 : decode cX10_unevenBy 69 = .ok (.iload_n 2, 1) := by decide +kernel
theorem dX10_unevenBy_70 : decode cX10_unevenBy 70 = .ok (.iload_n 3, 1) := by decide +kernel
theorem dX10_unevenBy_71 : decode cX10_unevenBy 71 = .ok (.isub, 1) := by decide +kernel
theorem dX10_unevenBy_72 : decode cX10_unevenBy 72 = .ok (.ireturn, 1) := by decide +kernel
theorem dX10_uneven_0 : decode cX10_uneven 0 = .ok (.aload_n 0, 1) := by decide +kernel
theorem dX10_uneven_1 : decode cX10_uneven 1 = .ok (.iconst 0, 1) := by decide +kernel
theorem dX10_uneven_2 : decode cX10_uneven 2 = .ok (.putfield 112, 3) := by decide +kernel
theorem dX10_uneven_5 : decode cX10_uneven 5 = .ok (.aload_n 0, 1) := by decide +kernel
theorem dX10_uneven_6 : decode cX10_uneven 6 = .ok (.iload_n 1, 1) := by decide +kernel
theorem dX10_uneven_7 : decode cX10_uneven 7 = .ok (.iload_n 2, 1) := by decide +kernel
theorem dX10_uneven_8 : decode cX10_uneven 8 = .ok (.invokestatic 345, 3) := by decide +kernel
theorem dX10_uneven_11 : decode cX10_uneven 11 = .ok (.ifCond .ne 7, 3) := by decide +kernel
theorem dX10_uneven_14 : decode cX10_uneven 14 = .ok (.iconst 1, 1) := by decide +kernel
theorem dX10_uneven_15 : decode cX10_uneven 15 = .ok (.goto 4, 3) := by decide +kernel
theorem dX10_uneven_18 : decode cX10_uneven 18 = .ok (.iconst 0, 1) := by decide +kernel
theorem dX10_uneven_19 : decode cX10_uneven 19 = .ok (.iconst 1, 1) := by decide +kernel
theorem dX10_uneven_20 : decode cX10_uneven 20 = .ok (.invokevirtual 197, 3) := by decide +kernel
theorem dX10_uneven_23 : decode cX10_uneven 23 = .ok (.ifCond .eq 5, 3) := by decide +kernel
theorem dX10_uneven_26 : decode cX10_uneven 26 = .ok (.iconst 0, 1) := by decide +kernel
theorem dX10_uneven_27 : decode cX10_uneven 27 = .ok (.ireturn, 1) := by decide +kernel
theorem dX10_uneven_28 : decode cX10_uneven 28 = .ok (.aload_n 0, 1) := by decide +kernel
theorem dX10_uneven_29 : decode cX10_uneven 29 = .ok (.aload_n 0, 1) := by decide +kernel
theorem dX10_uneven_30 : decode cX10_uneven 30 = .ok (.getfield 47, 3) := by decide +kernel
theorem dX10_uneven_33 : decode cX10_uneven 33 = .ok (.iload_n 1, 1) := by decide +kernel
theorem dX10_uneven_34 : decode cX10_uneven 34 = .ok (.iaload, 1) := by decide +kernel
theorem dX10_uneven_35 : decode cX10_uneven 35 = .ok (.invokevirtual 348, 3) := by decide +kernel
theorem dX10_uneven_38 : decode cX10_uneven 38 = .ok (.aload_n 0, 1) := by decide +kernel
theorem dX10_uneven_39 : decode cX10_uneven 39 = .ok (.iload_n 2, 1) := by decide +kernel
theorem dX10_uneven_40 : decode cX10_uneven 40 = .ok (.invokevirtual 354, 3) := by decide +kernel
theorem dX10_uneven_43 : decode cX10_uneven 43 = .ok (.ireturn, 1) := by decide +kernel
theorem dX10_even_0 : decode cX10_even 0 = .ok (.aload_n 0, 1) := by decide +kernel
theorem dX10_even_1 : decode cX10_even 1 = .ok (.iconst 0, 1) := by decide +kernel
theorem dX10_even_2 : decode cX10_even 2 = .ok (.putfield 112, 3) := by decide +kernel
theorem dX10_even_5 : decode cX10_even 5 = .ok (.aload_n 0, 1) := by decide +kernel
theorem dX10_even_6 : decode cX10_even 6 = .ok (.iload_n 1, 1) := by decide +kernel
theorem dX10_even_7 : decode cX10_even 7 = .ok (.iconst 1, 1) := by decide +kernel
theorem dX10_even_8 : decode cX10_even 8 = .ok (.bipush 9, 2) := by decide +kernel
theorem dX10_even_10 : decode cX10_even 10 = .ok (.invokestatic 146, 3) := by decide +kernel
theorem dX10_even_13 : decode cX10_even 13 = .ok (.ifCond .ne 7, 3) := by decide +kernel
theorem dX10_even_16 : decode cX10_even 16 = .ok (.iconst 1, 1) := by decide +kernel
theorem dX10_even_17 : decode cX10_even 17 = .ok (.goto 4, 3) := by decide +kernel
theorem dX10_even_20 : decode cX10_even 20 = .ok (.iconst 0, 1) := by decide +kernel
theorem dX10_even_21 : decode cX10_even 21 = .ok (.iconst 1, 1) := by decide +kernel
theorem dX10_even_22 : decode cX10_even 22 = .ok (.invokevirtual 197, 3) := by decide +kernel
theorem dX10_even_25 : decode cX10_even 25 = .ok (.ifCond .eq 5, 3) := by decide +kernel
theorem dX10_even_28 : decode cX10_even 28 = .ok (.iconst 0, 1) := by decide +kernel
theorem dX10_even_29 : decode cX10_even 29 = .ok (.ireturn, 1) := by decide +kernel
theorem dX10_even_30 : decode cX10_even 30 = .ok (.iconst 0, 1) := by decide +kernel
theorem dX10_even_31 : decode cX10_even 31 = .ok (.istore_n 2, 1) := by decide +kernel
theorem dX10_even_32 : decode cX10_even 32 = .ok (.iconst 1, 1) := by decide +kernel
theorem dX10_even_33 : decode cX10_even 33 = .ok (.istore_n 3, 1) := by decide +kernel
theorem dX10_even_34 : decode cX10_even 34 = .ok (.iconst 0, 1) := by decide +kernel
theorem dX10_even_35 : decode cX10_even 35 = .ok (.istore 4, 2) := by decide +kernel
theorem dX10_even_37 : decode cX10_even 37 = .ok (.iconst (-1), 1) := by decide +kernel
theorem dX10_even_38 : decode cX10_even 38 = .ok (.istore 5, 2) := by decide +kernel
theorem dX10_even_40 : decode cX10_even 40 = .ok (.iconst 0, 1) := by decide +kernel
theorem dX10_even_41 : decode cX10_even 41 = .ok (.istore 6, 2) := by decide +kernel
theorem dX10_even_43 : decode cX10_even 43 = .ok (.iload 6, 2) := by decide +kernel
theorem dX10_even_45 : decode cX10_even 45 = .ok (.aload_n 0, 1) := by decide +kernel
theorem dX10_even_46 : decode cX10_even 46 = .ok (.getfield 20, 3) := by decide +kernel
theorem dX10_even_49 : decode cX10_even 49 = .ok (.iconst 1, 1) := by decide +kernel
theorem dX10_even_50 : decode cX10_even 50 = .ok (.iaload, 1) := by decide +kernel
theorem dX10_even_51 : decode cX10_even 51 = .ok (.if_icmp .ge 45, 3) := by decide +kernel
theorem dX10_even_54 : decode cX10_even 54 = .ok (.iconst 0, 1) := by decide +kernel
theorem dX10_even_55 : decode cX10_even 55 = .ok (.istore 7, 2) := by decide +kernel
theorem dX10_even_57 : decode cX10_even 57 = .ok (.iload 7, 2) := by decide +kernel
theorem dX10_even_59 : decode cX10_even 59 = .ok (.aload_n 0, 1) := by decide +kernel
theorem dX10_even_60 : decode cX10_even 60 = .ok (.getfield 41, 3) := by decide +kernel
theorem dX10_even_63 : decode cX10_even 63 = .ok (.iload 6, 2) := by decide +kernel
theorem dX10_even_65 : decode cX10_even 65 = .ok (.iaload, 1) := by decide +kernel
theorem dX10_even_66 : decode cX10_even 66 = .ok (.if_icmp .ge 24, 3) := by decide +kernel
theorem dX10_even_69 : decode cX10_even 69 = .ok (.iload_n 2, 1) := by decide +kernel
theorem dX10_even_70 : decode cX10_even 70 = .ok (.iconst 1, 1) := by decide +kernel
theorem dX10_even_71 : decode cX10_even 71 = .ok (.aload_n 0, 1) := by decide +kernel
theorem dX10_even_72 : decode cX10_even 72 = .ok (.getfield 35, 3) := by decide +kernel
theorem dX10_even_75 : decode cX10_even 75 = .ok (.iload 6, 2) := by decide +kernel
theorem dX10_even_77 : decode cX10_even 77 = .ok (.aaload, 1) := by decide +kernel
theorem dX10_even_78 : decode cX10_even 78 = .ok (.iload 7, 2) := by decide +kernel
theorem dX10_even_80 : decode cX10_even 80 = .ok (.iaload, 1) := by decide +kernel
theorem dX10_even_81 : decode cX10_even 81 = .ok (.ishl, 1) := by decide +kernel
theorem dX10_even_82 : decode cX10_even 82 = .ok (.ior, 1) := by decide +kernel
theorem dX10_even_83 : decode cX10_even 83 = .ok (.istore_n 2, 1) := by decide +kernel
theorem dX10_even_84 : decode cX10_even 84 = .ok (.iinc 7 1, 3) := by decide +kernel
theorem dX10_even_87 : decode cX10_even 87 = .ok (.goto (-30), 3) := by decide +kernel
theorem dX10_even_90 : decode cX10_even 90 = .ok (.iinc 6 1, 3) := by decide +kernel
theorem dX10_even_93 : decode cX10_even 93 = .ok (.goto (-50), 3) := by decide +kernel
theorem dX10_even_96 : decode cX10_even 96 = .ok (.iload_n 2, 1) := by decide +kernel
theorem dX10_even_97 : decode cX10_even 97 = .ok (.i2l, 1) := by decide +kernel
theorem dX10_even_98 : decode cX10_even 98 = .ok (.invokestatic 243, 3) := by decide +kernel
theorem dX10_even_101 : decode cX10_even 101 = .ok (.bipush 6, 2) := by decide +kernel
theorem dX10_even_103 : decode cX10_even 103 = .ok (.if_icmp .le 5, 3) := by decide +kernel
theorem dX10_even_106 : decode cX10_even 106 = .ok (.iconst (-1), 1) := by decide +kernel
theorem dX10_even_107 : decode cX10_even 107 = .ok (.ireturn, 1) := by decide +kernel
theorem dX10_even_108 : decode cX10_even 108 = .ok (.iconst 0, 1) := by decide +kernel
theorem dX10_even_109 : decode cX10_even 109 = .ok (.istore 6, 2) := by decide +kernel
theorem dX10_even_111 : decode cX10_even 111 = .ok (.iload 6, 2) := by decide +kernel
theorem dX10_even_113 : decode cX10_even 113 = .ok (.iload_n 2, 1) := by decide +kernel
theorem dX10_even_114 : decode cX10_even 114 = .ok (.i2l, 1) := by decide +kernel
theorem dX10_even_115 : decode cX10_even 115 = .ok (.invokestatic 243, 3) := by decide +kernel
theorem dX10_even_118 : decode cX10_even 118 = .ok (.if_icmp .ge 13, 3) := by decide +kernel
theorem dX10_even_121 : decode cX10_even 121 = .ok (.iload_n 3, 1) := by decide +kernel
theorem dX10_even_122 : decode cX10_even 122 = .ok (.iconst 5, 1) := by decide +kernel
theorem dX10_even_123 : decode cX10_even 123 = .ok (.imul, 1) := by decide +kernel
theorem dX10_even_124 : decode cX10_even 124 = .ok (.istore_n 3, 1) := by decide +kernel
theorem dX10_even_125 : decode cX10_even 125 = .ok (.iinc 6 1, 3) := by decide +kernel
theorem dX10_even_128 : decode cX10_even 128 = .ok (.goto (-17), 3) := by decide +kernel
theorem dX10_even_131 : decode cX10_even 131 = .ok (.aload_n 0, 1) := by decide +kernel
theorem dX10_even_132 : decode cX10_even 132 = .ok (.aload_n 0, 1) := by decide +kernel
theorem dX10_even_133 : decode cX10_even 133 = .ok (.getfield 47, 3) := by decide +kernel
theorem dX10_even_136 : decode cX10_even 136 = .ok (.iload_n 1, 1) := by decide +kernel
theorem dX10_even_137 : decode cX10_even 137 = .ok (.iaload, 1) := by decide +kernel
theorem dX10_even_138 : decode cX10_even 138 = .ok (.invokevirtual 348, 3) := by decide +kernel
theorem dX10_even_141 : decode cX10_even 141 = .ok (.iconst 0, 1) := by decide +kernel
theorem dX10_even_142 : decode cX10_even 142 = .ok (.istore 6, 2) := by decide +kernel
theorem dX10_even_144 : decode cX10_even 144 = .ok (.iload 6, 2) := by decide +kernel
theorem dX10_even_146 : decode cX10_even 146 = .ok (.iload_n 3, 1) := by decide +kernel
theorem dX10_even_147 : decode cX10_even 147 = .ok (.if_icmp .ge 101, 3) := by decide +kernel
theorem dX10_even_150 : decode cX10_even 150 = .ok (.iconst 0, 1) := by decide +kernel
theorem dX10_even_151 : decode cX10_even 151 = .ok (.istore 7, 2) := by decide +kernel
theorem dX10_even_153 : decode cX10_even 153 = .ok (.iconst 1, 1) := by decide +kernel
theorem dX10_even_154 : decode cX10_even 154 = .ok (.istore 8, 2) := by decide +kernel
theorem dX10_even_156 : decode cX10_even 156 = .ok (.iload 6, 2) := by decide +kernel
theorem dX10_even_158 : decode cX10_even 158 = .ok (.istore 9, 2) := by decide +kernel
theorem dX10_even_160 : decode cX10_even 160 = .ok (.iconst 0, 1) := by decide +kernel
theorem dX10_even_161 : decode cX10_even 161 = .ok (.istore 10, 2) := by decide +kernel
theorem dX10_even_163 : decode cX10_even 163 = .ok (.iload 10, 2) := by decide +kernel
theorem dX10_even_165 : decode cX10_even 165 = .ok (.bipush 10, 2) := by decide +kernel
theorem dX10_even_167 : decode cX10_even 167 = .ok (.if_icmp .ge 43, 3) := by decide +kernel
theorem dX10_even_170 : decode cX10_even 170 = .ok (.iload_n 2, 1) := by decide +kernel
theorem dX10_even_171 : decode cX10_even 171 = .ok (.iload 10, 2) := by decide +kernel
theorem dX10_even_173 : decode cX10_even 173 = .ok (.ishr, 1) := by decide +kernel
theorem dX10_even_174 : decode cX10_even 174 = .ok (.iconst 1, 1) := by decide +kernel
theorem dX10_even_175 : decode cX10_even 175 = .ok (.iand, 1) := by decide +kernel
theorem dX10_even_176 : decode cX10_even 176 = .ok (.iconst 1, 1) := by decide +kernel
theorem dX10_even_177 : decode cX10_even 177 = .ok (.if_icmp .ne 21, 3) := by decide +kernel
theorem dX10_even_180 : decode cX10_even 180 = .ok (.iload 7, 2) := by decide +kernel
theorem dX10_even_182 : decode cX10_even 182 = .ok (.iload 8, 2) := by decide +kernel
theorem dX10_even_184 : decode cX10_even 184 = .ok (.iload 9, 2) := by decide +kernel
theorem dX10_even_186 : decode cX10_even 186 = .ok (.iconst 5, 1) := by decide +kernel
theorem dX10_even_187 : decode cX10_even 187 = .ok (.irem, 1) := by decide +kernel
theorem dX10_even_188 : decode cX10_even 188 = .ok (.imul, 1) := by decide +kernel
theorem dX10_even_189 : decode cX10_even 189 = .ok (.iadd, 1) := by decide +kernel
theorem dX10_even_190 : decode cX10_even 190 = .ok (.istore 7, 2) := by decide +kernel
theorem dX10_even_192 : decode cX10_even 192 = .ok (.iload 9, 2) := by decide +kernel
theorem dX10_even_194 : decode cX10_even 194 = .ok (.iconst 5, 1) := by decide +kernel
theorem dX10_even_195 : decode cX10_even 195 = .ok (.idiv, 1) := by decide +kernel
theorem dX10_even_196 : decode cX10_even 196 = .ok (.istore 9, 2) := by decide +kernel
theorem dX10_even_198 : decode cX10_even 198 = .ok (.iload 8, 2) := by decide +kernel
theorem dX10_even_200 : decode cX10_even 200 = .ok (.iconst 5, 1) := by decide +kernel
theorem dX10_even_201 : decode cX10_even 201 = .ok (.imul, 1) := by decide +kernel
theorem dX10_even_202 : decode cX10_even 202 = .ok (.istore 8, 2) := by decide +kernel
theorem dX10_even_204 : decode cX10_even 204 = .ok (.iinc 10 1, 3) := by decide +kernel
theorem dX10_even_207 : decode cX10_even 207 = .ok (.goto (-44), 3) := by decide +kernel
theorem dX10_even_210 : decode cX10_even 210 = .ok (.aload_n 0, 1) := by decide +kernel
theorem dX10_even_211 : decode cX10_even 211 = .ok (.iload 7, 2) := by decide +kernel
theorem dX10_even_213 : decode cX10_even 213 = .ok (.invokevirtual 354, 3) := by decide +kernel
theorem dX10_even_216 : decode cX10_even 216 = .ok (.istore 10, 2) := by decide +kernel
theorem dX10_even_218 : decode cX10_even 218 = .ok (.iload 5, 2) := by decide +kernel
theorem dX10_even_220 : decode cX10_even 220 = .ok (.iconst (-1), 1) := by decide +kernel
theorem dX10_even_221 : decode cX10_even 221 = .ok (.if_icmp .eq 13, 3) := by decide +kernel
theorem dX10_even_224 : decode cX10_even 224 = .ok (.iload 10, 2) := by decide +kernel
theorem dX10_even_226 : decode cX10_even 226 = .ok (.iload 5, 2) := by decide +kernel
theorem dX10_even_228 : decode cX10_even 228 = .ok (.if_icmp .lt 6, 3) := by decide +kernel
theorem dX10_even_231 : decode cX10_even 231 = .ok (.goto 11, 3) := by decide +kernel
theorem dX10_even_234 : decode cX10_even 234 = .ok (.iload 7, 2) := by decide +kernel
theorem dX10_even_236 : decode cX10_even 236 = .ok (.istore 4, 2) := by decide +kernel
theorem dX10_even_238 : decode cX10_even 238 = .ok (.iload 10, 2) := by decide +kernel
theorem dX10_even_240 : decode cX10_even 240 = .ok (.istore 5, 2) := by decide +kernel
theorem dX10_even_242 : decode cX10_even 242 = .ok (.iinc 6 1, 3) := by decide +kernel
theorem dX10_even_245 : decode cX10_even 245 = .ok (.goto (-101), 3) := by decide +kernel
theorem dX10_even_248 : decode cX10_even 248 = .ok (.iload 4, 2) := by decide +kernel
theorem dX10_even_250 : decode cX10_even 250 = .ok (.ireturn, 1) := by decide +kernel
theorem dX10_press_0 : decode cX10_press 0 = .ok (.aload_n 0, 1) := by decide +kernel
theorem dX10_press_1 : decode cX10_press 1 = .ok (.iconst 0, 1) := by decide +kernel
theorem dX10_press_2 : decode cX10_press 2 = .ok (.putfield 112, 3) := by decide +kernel
theorem dX10_press_5 : decode cX10_press 5 = .ok (.aload_n 0, 1) := by decide +kernel
theorem dX10_press_6 : decode cX10_press 6 = .ok (.iload_n 1, 1) := by decide +kernel
theorem dX10_press_7 : decode cX10_press 7 = .ok (.iconst 0, 1) := by decide +kernel
theorem dX10_press_8 : decode cX10_press 8 = .ok (.ldc_w 357, 3) := by decide +kernel
theorem dX10_press_11 : decode cX10_press 11 = .ok (.invokestatic 146, 3) := by decide +kernel
theorem dX10_press_14 : decode cX10_press 14 = .ok (.ifCond .ne 7, 3) := by decide +kernel
theorem dX10_press_17 : decode cX10_press 17 = .ok (.iconst 1, 1) := by decide +kernel
theorem dX10_press_18 : decode cX10_press 18 = .ok (.goto 4, 3) := by decide +kernel
theorem dX10_press_21 : decode cX10_press 21 = .ok (.iconst 0, 1) := by decide +kernel
theorem dX10_press_22 : decode cX10_press 22 = .ok (.iconst 1, 1) := by decide +kernel
theorem dX10_press_23 : decode cX10_press 23 = .ok (.invokevirtual 197, 3) := by decide +kernel
theorem dX10_press_26 : decode cX10_press 26 = .ok (.ifCond .eq 5, 3) := by decide +kernel
theorem dX10_press_29 : decode cX10_press 29 = .ok (.iconst 0, 1) := by decide +kernel
theorem dX10_press_30 : decode cX10_press 30 = .ok (.ireturn, 1) := by decide +kernel
theorem dX10_press_31 : decode cX10_press 31 = .ok (.iconst (-1), 1) := by decide +kernel
theorem dX10_press_32 : decode cX10_press 32 = .ok (.istore_n 2, 1) := by decide +kernel
theorem dX10_press_33 : decode cX10_press 33 = .ok (.iconst 0, 1) := by decide +kernel
theorem dX10_press_34 : decode cX10_press 34 = .ok (.istore_n 3, 1) := by decide +kernel
theorem dX10_press_35 : decode cX10_press 35 = .ok (.iconst 0, 1) := by decide +kernel
theorem dX10_press_36 : decode cX10_press 36 = .ok (.istore 4, 2) := by decide +kernel
theorem dX10_press_38 : decode cX10_press 38 = .ok (.iload 4, 2) := by decide +kernel
theorem dX10_press_40 : decode cX10_press 40 = .ok (.bipush 17, 2) := by decide +kernel
theorem dX10_press_42 : decode cX10_press 42 = .ok (.if_icmp .ge 95, 3) := by decide +kernel
theorem dX10_press_45 : decode cX10_press 45 = .ok (.aload_n 0, 1) := by decide +kernel
theorem dX10_press_46 : decode cX10_press 46 = .ok (.getfield 20, 3) := by decide +kernel
theorem dX10_press_49 : decode cX10_press 49 = .ok (.iconst 1, 1) := by decide +kernel
theorem dX10_press_50 : decode cX10_press 50 = .ok (.iaload, 1) := by decide +kernel
theorem dX10_press_51 : decode cX10_press 51 = .ok (.ifCond .le 86, 3) := by decide +kernel
theorem dX10_press_54 : decode cX10_press 54 = .ok (.aload_n 0, 1) := by decide +kernel
theorem dX10_press_55 : decode cX10_press 55 = .ok (.iload 4, 2) := by decide +kernel
theorem dX10_press_57 : decode cX10_press 57 = .ok (.invokevirtual 348, 3) := by decide +kernel
theorem dX10_press_60 : decode cX10_press 60 = .ok (.iconst 0, 1) := by decide +kernel
theorem dX10_press_61 : decode cX10_press 61 = .ok (.istore 5, 2) := by decide +kernel
theorem dX10_press_63 : decode cX10_press 63 = .ok (.iconst 0, 1) := by decide +kernel
theorem dX10_press_64 : decode cX10_press 64 = .ok (.istore 6, 2) := by decide +kernel
theorem dX10_press_66 : decode cX10_press 66 = .ok (.iload 6, 2) := by decide +kernel
theorem dX10_press_68 : decode cX10_press 68 = .ok (.aload_n 0, 1) := by decide +kernel
theorem dX10_press_69 : decode cX10_press 69 = .ok (.getfield 20, 3) := by decide +kernel
theorem dX10_press_72 : decode cX10_press 72 = .ok (.iconst 1, 1) := by decide +kernel
theorem dX10_press_73 : decode cX10_press 73 = .ok (.iaload, 1) := by decide +kernel
theorem dX10_press_74 : decode cX10_press 74 = .ok (.if_icmp .ge 21, 3) := by decide +kernel
theorem dX10_press_77 : decode cX10_press 77 = .ok (.iload 5, 2) := by decide +kernel
theorem dX10_press_79 : decode cX10_press 79 = .ok (.aload_n 0, 1) := by decide +kernel
theorem dX10_press_80 : decode cX10_press 80 = .ok (.iload 6, 2) := by decide +kernel
theorem dX10_press_82 : decode cX10_press 82 = .ok (.iconst 0, 1) := by decide +kernel
theorem dX10_press_83 : decode cX10_press 83 = .ok (.invokevirtual 351, 3) := by decide +kernel
theorem dX10_press_86 : decode cX10_press 86 = .ok (.iadd, 1) := by decide +kernel
theorem dX10_press_87 : decode cX10_press 87 = .ok (.istore 5, 2) := by decide +kernel
theorem dX10_press_89 : decode cX10_press 89 = .ok (.iinc 6 1, 3) := by decide +kernel
theorem dX10_press_92 : decode cX10_press 92 = .ok (.goto (-26), 3) := by decide +kernel
theorem dX10_press_95 : decode cX10_press 95 = .ok (.iload 5, 2) := by decide +kernel
theorem dX10_press_97 : decode cX10_press 97 = .ok (.aload_n 0, 1) := by decide +kernel
theorem dX10_press_98 : decode cX10_press 98 = .ok (.getfield 20, 3) := by decide +kernel
theorem dX10_press_101 : decode cX10_press 101 = .ok (.iconst 1, 1) := by decide +kernel
theorem dX10_press_102 : decode cX10_press 102 = .ok (.iaload, 1) := by decide +kernel
theorem dX10_press_103 : decode cX10_press 103 = .ok (.idiv, 1) := by decide +kernel
theorem dX10_press_104 : decode cX10_press 104 = .ok (.iload_n 1, 1) := by decide +kernel
theorem dX10_press_105 : decode cX10_press 105 = .ok (.isub, 1) := by decide +kernel
theorem dX10_press_106 : decode cX10_press 106 = .ok (.invokestatic 358, 3) := by decide +kernel
theorem dX10_press_109 : decode cX10_press 109 = .ok (.istore 6, 2) := by decide +kernel
theorem dX10_press_111 : decode cX10_press 111 = .ok (.iload_n 2, 1) := by decide +kernel
theorem dX10_press_112 : decode cX10_press 112 = .ok (.iconst (-1), 1) := by decide +kernel
theorem dX10_press_113 : decode cX10_press 113 = .ok (.if_icmp .eq 12, 3) := by decide +kernel
theorem dX10_press_116 : decode cX10_press 116 = .ok (.iload 6, 2) := by decide +kernel
theorem dX10_press_118 : decode cX10_press 118 = .ok (.iload_n 3, 1) := by decide +kernel
theorem dX10_press_119 : decode cX10_press 119 = .ok (.if_icmp .lt 6, 3) := by decide +kernel
theorem dX10_press_122 : decode cX10_press 122 = .ok (.goto 9, 3) := by decide +kernel
theorem dX10_press_125 : decode cX10_press 125 = .ok (.iload 4, 2) := by decide +kernel
theorem dX10_press_127 : decode cX10_press 127 = .ok (.istore_n 2, 1) := by decide +kernel
theorem dX10_press_128 : decode cX10_press 128 = .ok (.iload 6, 2) := by decide +kernel
theorem dX10_press_130 : decode cX10_press 130 = .ok (.istore_n 3, 1) := by decide +kernel
theorem dX10_press_131 : decode cX10_press 131 = .ok (.iinc 4 1, 3) := by decide +kernel
theorem dX10_press_134 : decode cX10_press 134 = .ok (.goto (-96), 3) := by decide +kernel
theorem dX10_press_137 : decode cX10_press 137 = .ok (.iload_n 2, 1) := by decide +kernel
theorem dX10_press_138 : decode cX10_press 138 = .ok (.ireturn, 1) := by decide +kernel
theorem dX10_print_0 : decode cX10_print 0 = .ok (.aload_n 0, 1) := by decide +kernel
theorem dX10_print_1 : decode cX10_print 1 = .ok (.iconst 0, 1) := by decide +kernel
theorem dX10_print_2 : decode cX10_print 2 = .ok (.putfield 112, 3) := by decide +kernel
theorem dX10_print_5 : decode cX10_print 5 = .ok (.aload_n 0, 1) := by decide +kernel
theorem dX10_print_6 : decode cX10_print 6 = .ok (.lload_n 1, 1) := by decide +kernel
theorem dX10_print_7 : decode cX10_print 7 = .ok (.lconst 0, 1) := by decide +kernel
theorem dX10_print_8 : decode cX10_print 8 = .ok (.lcmp, 1) := by decide +kernel
theorem dX10_print_9 : decode cX10_print 9 = .ok (.ifCond .ne 7, 3) := by decide +kernel
theorem dX10_print_12 : decode cX10_print 12 = .ok (.iconst 1, 1) := by decide +kernel
theorem dX10_print_13 : decode cX10_print 13 = .ok (.goto 4, 3) := by decide +kernel
theorem dX10_print_16 : decode cX10_print 16 = .ok (.iconst 0, 1) := by decide +kernel
theorem dX10_print_17 : decode cX10_print 17 = .ok (.iconst 1, 1) := by decide +kernel
theorem dX10_print_18 : decode cX10_print 18 = .ok (.invokevirtual 197, 3) := by decide +kernel
theorem dX10_print_21 : decode cX10_print 21 = .ok (.ifCond .eq 5, 3) := by decide +kernel
theorem dX10_print_24 : decode cX10_print 24 = .ok (.iconst 0, 1) := by decide +kernel
theorem dX10_print_25 : decode cX10_print 25 = .ok (.ireturn, 1) := by decide +kernel
theorem dX10_print_26 : decode cX10_print 26 = .ok (.aload_n 0, 1) := by decide +kernel
theorem dX10_print_27 : decode cX10_print 27 = .ok (.getfield 217, 3) := by decide +kernel
theorem dX10_print_30 : decode cX10_print 30 = .ok (.bipush 8, 2) := by decide +kernel
theorem dX10_print_32 : decode cX10_print 32 = .ok (.if_icmp .ne 5, 3) := by decide +kernel
theorem dX10_print_35 : decode cX10_print 35 = .ok (.iconst (-1), 1) := by decide +kernel
theorem dX10_print_36 : decode cX10_print 36 = .ok (.ireturn, 1) := by decide +kernel
theorem dX10_print_37 : decode cX10_print 37 = .ok (.aload_n 0, 1) := by decide +kernel
theorem dX10_print_38 : decode cX10_print 38 = .ok (.getfield 62, 3) := by decide +kernel
theorem dX10_print_41 : decode cX10_print 41 = .ok (.aload_n 0, 1) := by decide +kernel
theorem dX10_print_42 : decode cX10_print 42 = .ok (.getfield 217, 3) := by decide +kernel
theorem dX10_print_45 : decode cX10_print 45 = .ok (.lload_n 1, 1) := by decide +kernel
theorem dX10_print_46 : decode cX10_print 46 = .ok (.lastore, 1) := by decide +kernel
theorem dX10_print_47 : decode cX10_print 47 = .ok (.aload_n 0, 1) := by decide +kernel
theorem dX10_print_48 : decode cX10_print 48 = .ok (.dup, 1) := by decide +kernel
theorem dX10_print_49 : decode cX10_print 49 = .ok (.getfield 217, 3) := by decide +kernel
theorem dX10_print_52 : decode cX10_print 52 = .ok (.iconst 1, 1) := by decide +kernel
theorem dX10_print_53 : decode cX10_print 53 = .ok (.iadd, 1) := by decide +kernel
theorem dX10_print_54 : decode cX10_print 54 = .ok (.putfield 217, 3) := by decide +kernel
theorem dX10_print_57 : decode cX10_print 57 = .ok (.aload_n 0, 1) := by decide +kernel
theorem dX10_print_58 : decode cX10_print 58 = .ok (.getfield 217, 3) := by decide +kernel
theorem dX10_print_61 : decode cX10_print 61 = .ok (.ireturn, 1) := by decide +kernel
theorem dX10_areKin_0 : decode cX10_areKin 0 = .ok (.aload_n 0, 1) := by decide +kernel
theorem dX10_areKin_1 : decode cX10_areKin 1 = .ok (.getfield 62, 3) := by decide +kernel
theorem dX10_areKin_4 : decode cX10_areKin 4 = .ok (.iload_n 1, 1) := by decide +kernel
theorem dX10_areKin_5 : decode cX10_areKin 5 = .ok (.laload, 1) := by decide +kernel
theorem dX10_areKin_6 : decode cX10_areKin 6 = .ok (.aload_n 0, 1) := by decide +kernel
theorem dX10_areKin_7 : decode cX10_areKin 7 = .ok (.getfield 62, 3) := by decide +kernel
theorem dX10_areKin_10 : decode cX10_areKin 10 = .ok (.iload_n 2, 1) := by decide +kernel
theorem dX10_areKin_11 : decode cX10_areKin 11 = .ok (.laload, 1) := by decide +kernel
theorem dX10_areKin_12 : decode cX10_areKin 12 = .ok (.iload 4, 2) := by decide +kernel
theorem dX10_areKin_14 : decode cX10_areKin 14 = .ok (.invokestatic 265, 3) := by decide +kernel
theorem dX10_areKin_17 : decode cX10_areKin 17 = .ok (.iload_n 3, 1) := by decide +kernel
theorem dX10_areKin_18 : decode cX10_areKin 18 = .ok (.if_icmp .le 24, 3) := by decide +kernel
theorem dX10_areKin_21 : decode cX10_areKin 21 = .ok (.aload_n 0, 1) := by decide +kernel
theorem dX10_areKin_22 : decode cX10_areKin 22 = .ok (.getfield 62, 3) := by decide +kernel
theorem dX10_areKin_25 : decode cX10_areKin 25 = .ok (.iload_n 2, 1) := by decide +kernel
theorem dX10_areKin_26 : decode cX10_areKin 26 = .ok (.laload, 1) := by decide +kernel
theorem dX10_areKin_27 : decode cX10_areKin 27 = .ok (.aload_n 0, 1) := by decide +kernel
theorem dX10_areKin_28 : decode cX10_areKin 28 = .ok (.getfield 62, 3) := by decide +kernel
theorem dX10_areKin_31 : decode cX10_areKin 31 = .ok (.iload_n 1, 1) := by decide +kernel
theorem dX10_areKin_32 : decode cX10_areKin 32 = .ok (.laload, 1) := by decide +kernel
theorem dX10_areKin_33 : decode cX10_areKin 33 = .ok (.iload 4, 2) := by decide +kernel
theorem dX10_areKin_35 : decode cX10_areKin 35 = .ok (.invokestatic 265, 3) := by decide +kernel
theorem dX10_areKin_38 : decode cX10_areKin 38 = .ok (.iload_n 3, 1) := by decide +kernel
theorem dX10_areKin_39 : decode cX10_areKin 39 = .ok (.if_icmp .gt 7, 3) := by decide +kernel
theorem dX10_areKin_42 : decode cX10_areKin 42 = .ok (.iconst 1, 1) := by decide +kernel
theorem dX10_areKin_43 : decode cX10_areKin 43 = .ok (.goto 4, 3) := by decide +kernel
theorem dX10_areKin_46 : decode cX10_areKin 46 = .ok (.iconst 0, 1) := by decide +kernel
theorem dX10_areKin_47 : decode cX10_areKin 47 = .ok (.ireturn, 1) := by decide +kernel
theorem dX10_kin_0 : decode cX10_kin 0 = .ok (.aload_n 0, 1) := by decide +kernel
theorem dX10_kin_1 : decode cX10_kin 1 = .ok (.iconst 0, 1) := by decide +kernel
theorem dX10_kin_2 : decode cX10_kin 2 = .ok (.putfield 112, 3) := by decide +kernel
theorem dX10_kin_5 : decode cX10_kin 5 = .ok (.aload_n 0, 1) := by decide +kernel
theorem dX10_kin_6 : decode cX10_kin 6 = .ok (.iload_n 1, 1) := by decide +kernel
theorem dX10_kin_7 : decode cX10_kin 7 = .ok (.iconst 0, 1) := by decide +kernel
theorem dX10_kin_8 : decode cX10_kin 8 = .ok (.aload_n 0, 1) := by decide +kernel
theorem dX10_kin_9 : decode cX10_kin 9 = .ok (.getfield 217, 3) := by decide +kernel
theorem dX10_kin_12 : decode cX10_kin 12 = .ok (.iconst 1, 1) := by decide +kernel
theorem dX10_kin_13 : decode cX10_kin 13 = .ok (.isub, 1) := by decide +kernel
theorem dX10_kin_14 : decode cX10_kin 14 = .ok (.invokestatic 146, 3) := by decide +kernel
theorem dX10_kin_17 : decode cX10_kin 17 = .ok (.ifCond .eq 17, 3) := by decide +kernel
theorem dX10_kin_20 : decode cX10_kin 20 = .ok (.iload_n 2, 1) := by decide +kernel
theorem dX10_kin_21 : decode cX10_kin 21 = .ok (.iconst 0, 1) := by decide +kernel
theorem dX10_kin_22 : decode cX10_kin 22 = .ok (.aload_n 0, 1) := by decide +kernel
theorem dX10_kin_23 : decode cX10_kin 23 = .ok (.getfield 217, 3) := by decide +kernel
theorem dX10_kin_26 : decode cX10_kin 26 = .ok (.iconst 1, 1) := by decide +kernel
theorem dX10_kin_27 : decode cX10_kin 27 = .ok (.isub, 1) := by decide +kernel
theorem dX10_kin_28 : decode cX10_kin 28 = .ok (.invokestatic 146, 3) := by decide +kernel
theorem dX10_kin_31 : decode cX10_kin 31 = .ok (.ifCond .ne 7, 3) := by decide +kernel
theorem dX10_kin_34 : decode cX10_kin 34 = .ok (.iconst 1, 1) := by decide +kernel
theorem dX10_kin_35 : decode cX10_kin 35 = .ok (.goto 4, 3) := by decide +kernel
theorem dX10_kin_38 : decode cX10_kin 38 = .ok (.iconst 0, 1) := by decide +kernel
theorem dX10_kin_39 : decode cX10_kin 39 = .ok (.iconst 1, 1) := by decide +kernel
theorem dX10_kin_40 : decode cX10_kin 40 = .ok (.invokevirtual 197, 3) := by decide +kernel
theorem dX10_kin_43 : decode cX10_kin 43 = .ok (.ifCond .ne 26, 3) := by decide +kernel
theorem dX10_kin_46 : decode cX10_kin 46 = .ok (.aload_n 0, 1) := by decide +kernel
theorem dX10_kin_47 : decode cX10_kin 47 = .ok (.iload_n 3, 1) := by decide +kernel
theorem dX10_kin_48 : decode cX10_kin 48 = .ok (.iconst 0, 1) := by decide +kernel
theorem dX10_kin_49 : decode cX10_kin 49 = .ok (.bipush 64, 2) := by decide +kernel
theorem dX10_kin_51 : decode cX10_kin 51 = .ok (.invokestatic 146, 3) := by decide +kernel
theorem dX10_kin_54 : decode cX10_kin 54 = .ok (.ifCond .ne 7, 3) := by decide +kernel
theorem dX10_kin_57 : decode cX10_kin 57 = .ok (.iconst 1, 1) := by decide +kernel
theorem dX10_kin_58 : decode cX10_kin 58 = .ok (.goto 4, 3) := by decide +kernel
theorem dX10_kin_61 : decode cX10_kin 61 = .ok (.iconst 0, 1) := by decide +kernel
theorem dX10_kin_62 : decode cX10_kin 62 = .ok (.iconst 2, 1) := by decide +kernel
theorem dX10_kin_63 : decode cX10_kin 63 = .ok (.invokevirtual 197, 3) := by decide +kernel
theorem dX10_kin_66 : decode cX10_kin 66 = .ok (.ifCond .eq 5, 3) := by decide +kernel
theorem dX10_kin_69 : decode cX10_kin 69 = .ok (.iconst 0, 1) := by decide +kernel
theorem dX10_kin_70 : decode cX10_kin 70 = .ok (.ireturn, 1) := by decide +kernel
theorem dX10_kin_71 : decode cX10_kin 71 = .ok (.aload_n 0, 1) := by decide +kernel
theorem dX10_kin_72 : decode cX10_kin 72 = .ok (.iload_n 1, 1) := by decide +kernel
theorem dX10_kin_73 : decode cX10_kin 73 = .ok (.iload_n 2, 1) := by decide +kernel
theorem dX10_kin_74 : decode cX10_kin 74 = .ok (.iload_n 3, 1) := by decide +kernel
theorem dX10_kin_75 : decode cX10_kin 75 = .ok (.iload 4, 2) := by decide +kernel
theorem dX10_kin_77 : decode cX10_kin 77 = .ok (.invokevirtual 361, 3) := by decide +kernel
theorem dX10_kin_80 : decode cX10_kin 80 = .ok (.ireturn, 1) := by decide +kernel
theorem dX10_parts_0 : decode cX10_parts 0 = .ok (.iload_n 1, 1) := by decide +kernel
theorem dX10_parts_1 : decode cX10_parts 1 = .ok (.aload_n 0, 1) := by decide +kernel
theorem dX10_parts_2 : decode cX10_parts 2 = .ok (.getfield 217, 3) := by decide +kernel
theorem dX10_parts_5 : decode cX10_parts 5 = .ok (.if_icmp .ne 112, 3) := by decide +kernel
theorem dX10_parts_8 : decode cX10_parts 8 = .ok (.aload_n 0, 1) := by decide +kernel
theorem dX10_parts_9 : decode cX10_parts 9 = .ok (.dup, 1) := by decide +kernel
theorem dX10_parts_10 : decode cX10_parts 10 = .ok (.getfield 365, 3) := by decide +kernel
theorem dX10_parts_13 : decode cX10_parts 13 = .ok (.iconst 1, 1) := by decide +kernel
theorem dX10_parts_14 : decode cX10_parts 14 = .ok (.iadd, 1) := by decide +kernel
theorem dX10_parts_15 : decode cX10_parts 15 = .ok (.putfield 365, 3) := by decide +kernel
theorem dX10_parts_18 : decode cX10_parts 18 = .ok (.aload_n 0, 1) := by decide +kernel
theorem dX10_parts_19 : decode cX10_parts 19 = .ok (.aload_n 0, 1) := by decide +kernel
theorem dX10_parts_20 : decode cX10_parts 20 = .ok (.getfield 368, 3) := by decide +kernel
theorem dX10_parts_23 : decode cX10_parts 23 = .ok (.iconst (-1), 1) := by decide +kernel
theorem dX10_parts_24 : decode cX10_parts 24 = .ok (.if_icmp .eq 11, 3) := by decide +kernel
theorem dX10_parts_27 : decode cX10_parts 27 = .ok (.iload_n 2, 1) := by decide +kernel
theorem dX10_parts_28 : decode cX10_parts 28 = .ok (.aload_n 0, 1) := by decide +kernel
theorem dX10_parts_29 : decode cX10_parts 29 = .ok (.getfield 368, 3) := by decide +kernel
theorem dX10_parts_32 : decode cX10_parts 32 = .ok (.if_icmp .ge 7, 3) := by decide +kernel
theorem dX10_parts_35 : decode cX10_parts 35 = .ok (.iload_n 2, 1) := by decide +kernel
theorem dX10_parts_36 : decode cX10_parts 36 = .ok (.goto 7, 3) := by decide +kernel
theorem dX10_parts_39 : decode cX10_parts 39 = .ok (.aload_n 0, 1) := by decide +kernel
theorem dX10_parts_40 : decode cX10_parts 40 = .ok (.getfield 368, 3) := by decide +kernel
theorem dX10_parts_43 : decode cX10_parts 43 = .ok (.putfield 368, 3) := by decide +kernel
theorem dX10_parts_46 : decode cX10_parts 46 = .ok (.iconst 0, 1) := by decide +kernel
theorem dX10_parts_47 : decode cX10_parts 47 = .ok (.istore_n 3, 1) := by decide +kernel
theorem dX10_parts_48 : decode cX10_parts 48 = .ok (.iload_n 3, 1) := by decide +kernel
theorem dX10_parts_49 : decode cX10_parts 49 = .ok (.aload_n 0, 1) := by decide +kernel
theorem dX10_parts_50 : decode cX10_parts 50 = .ok (.getfield 217, 3) := by decide +kernel
theorem dX10_parts_53 : decode cX10_parts 53 = .ok (.if_icmp .ge 63, 3) := by decide +kernel
theorem dX10_parts_56 : decode cX10_parts 56 = .ok (.iconst 0, 1) := by decide +kernel
theorem dX10_parts_57 : decode cX10_parts 57 = .ok (.istore 4, 2) := by decide +kernel
theorem dX10_parts_59 : decode cX10_parts 59 = .ok (.iload 4, 2) := by decide +kernel
theorem dX10_parts_61 : decode cX10_parts 61 = .ok (.aload_n 0, 1) := by decide +kernel
theorem dX10_parts_62 : decode cX10_parts 62 = .ok (.getfield 217, 3) := by decide +kernel
theorem dX10_parts_65 : decode cX10_parts 65 = .ok (.if_icmp .ge 45, 3) := by decide +kernel
theorem dX10_parts_68 : decode cX10_parts 68 = .ok (.iload_n 3, 1) := by decide +kernel
theorem dX10_parts_69 : decode cX10_parts 69 = .ok (.iload 4, 2) := by decide +kernel
theorem dX10_parts_71 : decode cX10_parts 71 = .ok (.if_icmp .eq 33, 3) := by decide +kernel
theorem dX10_parts_74 : decode cX10_parts 74 = .ok (.aload_n 0, 1) := by decide +kernel
theorem dX10_parts_75 : decode cX10_parts 75 = .ok (.getfield 95, 3) := by decide +kernel
theorem dX10_parts_78 : decode cX10_parts 78 = .ok (.iload_n 3, 1) := by decide +kernel
theorem dX10_parts_79 : decode cX10_parts 79 = .ok (.iaload, 1) := by decide +kernel
theorem dX10_parts_80 : decode cX10_parts 80 = .ok (.aload_n 0, 1) := by decide +kernel
theorem dX10_parts_81 : decode cX10_parts 81 = .ok (.getfield 95, 3) := by decide +kernel
theorem dX10_parts_84 : decode cX10_parts 84 = .ok (.iload 4, 2) := by decide +kernel
theorem dX10_parts_86 : decode cX10_parts 86 = .ok (.iaload, 1) := by decide +kernel
theorem dX10_parts_87 : decode cX10_parts 87 = .ok (.if_icmp .ne 17, 3) := by decide +kernel
theorem dX10_parts_90 : decode cX10_parts 90 = .ok (.aload_n 0, 1) := by decide +kernel
theorem dX10_parts_91 : decode cX10_parts 91 = .ok (.dup, 1) := by decide +kernel
theorem dX10_parts_92 : decode cX10_parts 92 = .ok (.getfield 371, 3) := by decide +kernel
theorem dX10_parts_95 : decode cX10_parts 95 = .ok (.iconst 1, 1) := by decide +kernel
theorem dX10_parts_96 : decode cX10_parts 96 = .ok (.iload_n 3, 1) := by decide +kernel
theorem dX10_parts_97 : decode cX10_parts 97 = .ok (.ishl, 1) := by decide +kernel
theorem dX10_parts_98 : decode cX10_parts 98 = .ok (.iconst (-1), 1) := by decide +kernel
theorem dX10_parts_99 : decode cX10_parts 99 = .ok (.ixor, 1) := by decide +kernel
theorem dX10_parts_100 : decode cX10_parts 100 = .ok (.iand, 1) := by decide +kernel
theorem dX10_parts_101 : decode cX10_parts 101 = .ok (.putfield 371, 3) := by decide +kernel
theorem dX10_parts_104 : decode cX10_parts 104 = .ok (.iinc 4 1, 3) := by decide +kernel
theorem dX10_parts_107 : decode cX10_parts 107 = .ok (.goto (-48), 3) := by decide +kernel
theorem dX10_parts_110 : decode cX10_parts 110 = .ok (.iinc 3 1, 3) := by decide +kernel
theorem dX10_parts_113 : decode cX10_parts 113 = .ok (.goto (-65), 3) := by decide +kernel
theorem dX10_parts_116 : decode cX10_parts 116 = .ok (.return_, 1) := by decide +kernel
theorem dX10_parts_117 : decode cX10_parts 117 = .ok (.iconst 0, 1) := by decide +kernel
theorem dX10_parts_118 : decode cX10_parts 118 = .ok (.istore_n 3, 1) := by decide +kernel
theorem dX10_parts_119 : decode cX10_parts 119 = .ok (.iload_n 3, 1) := by decide +kernel
theorem dX10_parts_120 : decode cX10_parts 120 = .ok (.iload_n 2, 1) := by decide +kernel
theorem dX10_parts_121 : decode cX10_parts 121 = .ok (.if_icmp .gt 96, 3) := by decide +kernel
theorem dX10_parts_124 : decode cX10_parts 124 = .ok (.iconst 1, 1) := by decide +kernel
theorem dX10_parts_125 : decode cX10_parts 125 = .ok (.istore 4, 2) := by decide +kernel
theorem dX10_parts_127 : decode cX10_parts 127 = .ok (.iconst 0, 1) := by decide +kernel
theorem dX10_parts_128 : decode cX10_parts 128 = .ok (.istore 5, 2) := by decide +kernel
theorem dX10_parts_130 : decode cX10_parts 130 = .ok (.iload 5, 2) := by decide +kernel
theorem dX10_parts_132 : decode cX10_parts 132 = .ok (.iload_n 1, 1) := by decide +kernel
theorem dX10_parts_133 : decode cX10_parts 133 = .ok (.if_icmp .ge 44, 3) := by decide +kernel
theorem dX10_parts_136 : decode cX10_parts 136 = .ok (.iload 4, 2) := by decide +kernel
theorem dX10_parts_138 : decode cX10_parts 138 = .ok (.ifCond .eq 39, 3) := by decide +kernel
theorem dX10_parts_141 : decode cX10_parts 141 = .ok (.aload_n 0, 1) := by decide +kernel
theorem dX10_parts_142 : decode cX10_parts 142 = .ok (.getfield 95, 3) := by decide +kernel
theorem dX10_parts_145 : decode cX10_parts 145 = .ok (.iload 5, 2) := by decide +kernel
theorem dX10_parts_147 : decode cX10_parts 147 = .ok (.iaload, 1) := by decide +kernel
theorem dX10_parts_148 : decode cX10_parts 148 = .ok (.iload_n 3, 1) := by decide +kernel
theorem dX10_parts_149 : decode cX10_parts 149 = .ok (.if_icmp .ne 15, 3) := by decide +kernel
theorem dX10_parts_152 : decode cX10_parts 152 = .ok (.aload_n 0, 1) := by decide +kernel
theorem dX10_parts_153 : decode cX10_parts 153 = .ok (.getfield 109, 3) := by decide +kernel
theorem dX10_parts_156 : decode cX10_parts 156 = .ok (.iload_n 1, 1) := by decide +kernel
theorem dX10_parts_157 : decode cX10_parts 157 = .ok (.aaload, 1) := by decide +kernel
theorem dX10_parts_158 : decode cX10_parts 158 = .ok (.iload 5, 2) := by decide +kernel
theorem dX10_parts_160 : decode cX10_parts 160 = .ok (.baload, 1) := by decide +kernel
theorem dX10_parts_161 : decode cX10_parts 161 = .ok (.ifCond .eq 7, 3) := by decide +kernel
theorem dX10_parts_164 : decode cX10_parts 164 = .ok (.iconst 1, 1) := by decide +kernel
theorem dX10_parts_165 : decode cX10_parts 165 = .ok (.goto 4, 3) := by decide +kernel
theorem dX10_parts_168 : decode cX10_parts 168 = .ok (.iconst 0, 1) := by decide +kernel
theorem dX10_parts_169 : decode cX10_parts 169 = .ok (.istore 4, 2) := by decide +kernel
theorem dX10_parts_171 : decode cX10_parts 171 = .ok (.iinc 5 1, 3) := by decide +kernel
theorem dX10_parts_174 : decode cX10_parts 174 = .ok (.goto (-44), 3) := by decide +kernel
theorem dX10_parts_177 : decode cX10_parts 177 = .ok (.iload 4, 2) := by decide +kernel
theorem dX10_parts_179 : decode cX10_parts 179 = .ok (.ifCond .ne 6, 3) := by decide +kernel
theorem dX10_parts_182 : decode cX10_parts 182 = .ok (.goto 29, 3) := by decide +kernel
theorem dX10_parts_185 : decode cX10_parts 185 = .ok (.aload_n 0, 1) := by decide +kernel
theorem dX10_parts_186 : decode cX10_parts 186 = .ok (.getfield 95, 3) := by decide +kernel
theorem dX10_parts_189 : decode cX10_parts 189 = .ok (.iload_n 1, 1) := by decide +kernel
theorem dX10_parts_190 : decode cX10_parts 190 = .ok (.iload_n 3, 1) := by decide +kernel
theorem dX10_parts_191 : decode cX10_parts 191 = .ok (.iastore, 1) := by decide +kernel
theorem dX10_parts_192 : decode cX10_parts 192 = .ok (.aload_n 0, 1) := by decide +kernel
theorem dX10_parts_193 : decode cX10_parts 193 = .ok (.iload_n 1, 1) := by decide +kernel
theorem dX10_parts_194 : decode cX10_parts 194 = .ok (.iconst 1, 1) := by decide +kernel
theorem dX10_parts_195 : decode cX10_parts 195 = .ok (.iadd, 1) := by decide +kernel
theorem dX10_parts_196 : decode cX10_parts 196 = .ok (.iload_n 3, 1) := by decide +kernel
theorem dX10_parts_197 : decode cX10_parts 197 = .ok (.iload_n 2, 1) := by decide +kernel
theorem dX10_parts_198 : decode cX10_parts 198 = .ok (.if_icmp .ne 9, 3) := by decide +kernel
theorem dX10_parts_201 : decode cX10_parts 201 = .ok (.iload_n 2, 1) := by decide +kernel
theorem dX10_parts_202 : decode cX10_parts 202 = .ok (.iconst 1, 1) := by decide +kernel
theorem dX10_parts_203 : decode cX10_parts 203 = .ok (.iadd, 1) := by decide +kernel
theorem dX10_parts_204 : decode cX10_parts 204 = .ok (.goto 4, 3) := by decide +kernel
theorem dX10_parts_207 : decode cX10_parts 207 = .ok (.iload_n 2, 1) := by decide +kernel
theorem dX10_parts_208 : decode cX10_parts 208 = .ok (.invokevirtual 374, 3) := by decide +kernel
theorem dX10_parts_211 : decode cX10_parts 211 = .ok (.iinc 3 1, 3) := by decide +kernel
theorem dX10_parts_214 : decode cX10_parts 214 = .ok (.goto (-95), 3) := by decide +kernel
theorem dX10_parts_217 : decode cX10_parts 217 = .ok (.return_, 1) := by decide +kernel
theorem dX10_partings_0 : decode cX10_partings 0 = .ok (.aload_n 0, 1) := by decide +kernel
theorem dX10_partings_1 : decode cX10_partings 1 = .ok (.iconst 0, 1) := by decide +kernel
theorem dX10_partings_2 : decode cX10_partings 2 = .ok (.putfield 112, 3) := by decide +kernel
theorem dX10_partings_5 : decode cX10_partings 5 = .ok (.aload_n 0, 1) := by decide +kernel
theorem dX10_partings_6 : decode cX10_partings 6 = .ok (.iload_n 1, 1) := by decide +kernel
theorem dX10_partings_7 : decode cX10_partings 7 = .ok (.iconst 0, 1) := by decide +kernel
theorem dX10_partings_8 : decode cX10_partings 8 = .ok (.bipush 64, 2) := by decide +kernel
theorem dX10_partings_10 : decode cX10_partings 10 = .ok (.invokestatic 146, 3) := by decide +kernel
theorem dX10_partings_13 : decode cX10_partings 13 = .ok (.ifCond .eq 12, 3) := by decide +kernel
theorem dX10_partings_16 : decode cX10_partings 16 = .ok (.iload_n 3, 1) := by decide +kernel
theorem dX10_partings_17 : decode cX10_partings 17 = .ok (.iconst 0, 1) := by decide +kernel
theorem dX10_partings_18 : decode cX10_partings 18 = .ok (.iconst 2, 1) := by decide +kernel
theorem dX10_partings_19 : decode cX10_partings 19 = .ok (.invokestatic 146, 3) := by decide +kernel
theorem dX10_partings_22 : decode cX10_partings 22 = .ok (.ifCond .ne 7, 3) := by decide +kernel
theorem dX10_partings_25 : decode cX10_partings 25 = .ok (.iconst 1, 1) := by decide +kernel
theorem dX10_partings_26 : decode cX10_partings 26 = .ok (.goto 4, 3) := by decide +kernel
theorem dX10_partings_29 : decode cX10_partings 29 = .ok (.iconst 0, 1) := by decide +kernel
theorem dX10_partings_30 : decode cX10_partings 30 = .ok (.iconst 1, 1) := by decide +kernel
theorem dX10_partings_31 : decode cX10_partings 31 = .ok (.invokevirtual 197, 3) := by decide +kernel
theorem dX10_partings_34 : decode cX10_partings 34 = .ok (.ifCond .eq 5, 3) := by decide +kernel
theorem dX10_partings_37 : decode cX10_partings 37 = .ok (.iconst 0, 1) := by decide +kernel
theorem dX10_partings_38 : decode cX10_partings 38 = .ok (.ireturn, 1) := by decide +kernel
theorem dX10_partings_39 : decode cX10_partings 39 = .ok (.iconst 0, 1) := by decide +kernel
theorem dX10_partings_40 : decode cX10_partings 40 = .ok (.istore 4, 2) := by decide +kernel
theorem dX10_partings_42 : decode cX10_partings 42 = .ok (.iload 4, 2) := by decide +kernel
theorem dX10_partings_44 : decode cX10_partings 44 = .ok (.aload_n 0, 1) := by decide +kernel
theorem dX10_partings_45 : decode cX10_partings 45 = .ok (.getfield 217, 3) := by decide +kernel
theorem dX10_partings_48 : decode cX10_partings 48 = .ok (.if_icmp .ge 47, 3) := by decide +kernel
theorem dX10_partings_51 : decode cX10_partings 51 = .ok (.iconst 0, 1) := by decide +kernel
theorem dX10_partings_52 : decode cX10_partings 52 = .ok (.istore 5, 2) := by decide +kernel
theorem dX10_partings_54 : decode cX10_partings 54 = .ok (.iload 5, 2) := by decide +kernel
theorem dX10_partings_56 : decode cX10_partings 56 = .ok (.aload_n 0, 1) := by decide +kernel
theorem dX10_partings_57 : decode cX10_partings 57 = .ok (.getfield 217, 3) := by decide +kernel
theorem dX10_partings_60 : decode cX10_partings 60 = .ok (.if_icmp .ge 29, 3) := by decide +kernel
theorem dX10_partings_63 : decode cX10_partings 63 = .ok (.aload_n 0, 1) := by decide +kernel
theorem dX10_partings_64 : decode cX10_partings 64 = .ok (.getfield 109, 3) := by decide +kernel
theorem dX10_partings_67 : decode cX10_partings 67 = .ok (.iload 4, 2) := by decide +kernel
theorem dX10_partings_69 : decode cX10_partings 69 = .ok (.aaload, 1) := by decide +kernel
theorem dX10_partings_70 : decode cX10_partings 70 = .ok (.iload 5, 2) := by decide +kernel
theorem dX10_partings_72 : decode cX10_partings 72 = .ok (.aload_n 0, 1) := by decide +kernel
theorem dX10_partings_73 : decode cX10_partings 73 = .ok (.iload 4, 2) := by decide +kernel
theorem dX10_partings_75 : decode cX10_partings 75 = .ok (.iload 5, 2) := by decide +kernel
theorem dX10_partings_77 : decode cX10_partings 77 = .ok (.iload_n 1, 1) := by decide +kernel
theorem dX10_partings_78 : decode cX10_partings 78 = .ok (.iload_n 2, 1) := by decide +kernel
theorem dX10_partings_79 : decode cX10_partings 79 = .ok (.invokevirtual 361, 3) := by decide +kernel
theorem dX10_partings_82 : decode cX10_partings 82 = .ok (.bastore, 1) := by decide +kernel
theorem dX10_partings_83 : decode cX10_partings 83 = .ok (.iinc 5 1, 3) := by decide +kernel
theorem dX10_partings_86 : decode cX10_partings 86 = .ok (.goto (-32), 3) := by decide +kernel
theorem dX10_partings_89 : decode cX10_partings 89 = .ok (.iinc 4 1, 3) := by decide +kernel
theorem dX10_partings_92 : decode cX10_partings 92 = .ok (.goto (-50), 3) := by decide +kernel
theorem dX10_partings_95 : decode cX10_partings 95 = .ok (.aload_n 0, 1) := by decide +kernel
theorem dX10_partings_96 : decode cX10_partings 96 = .ok (.iconst 0, 1) := by decide +kernel
theorem dX10_partings_97 : decode cX10_partings 97 = .ok (.putfield 365, 3) := by decide +kernel
theorem dX10_partings_100 : decode cX10_partings 100 = .ok (.aload_n 0, 1) := by decide +kernel
theorem dX10_partings_101 : decode cX10_partings 101 = .ok (.iconst (-1), 1) := by decide +kernel
theorem dX10_partings_102 : decode cX10_partings 102 = .ok (.putfield 368, 3) := by decide +kernel
theorem dX10_partings_105 : decode cX10_partings 105 = .ok (.aload_n 0, 1) := by decide +kernel
theorem dX10_partings_106 : decode cX10_partings 106 = .ok (.iconst 1, 1) := by decide +kernel
theorem dX10_partings_107 : decode cX10_partings 107 = .ok (.aload_n 0, 1) := by decide +kernel
theorem dX10_partings_108 : decode cX10_partings 108 = .ok (.getfield 217, 3) := by decide +kernel
theorem dX10_partings_111 : decode cX10_partings 111 = .ok (.ishl, 1) := by decide +kernel
theorem dX10_partings_112 : decode cX10_partings 112 = .ok (.iconst 1, 1) := by decide +kernel
theorem dX10_partings_113 : decode cX10_partings 113 = .ok (.isub, 1) := by decide +kernel
theorem dX10_partings_114 : decode cX10_partings 114 = .ok (.putfield 371, 3) := by decide +kernel
theorem dX10_partings_117 : decode cX10_partings 117 = .ok (.aload_n 0, 1) := by decide +kernel
theorem dX10_partings_118 : decode cX10_partings 118 = .ok (.iconst 0, 1) := by decide +kernel
theorem dX10_partings_119 : decode cX10_partings 119 = .ok (.iconst 0, 1) := by decide +kernel
theorem dX10_partings_120 : decode cX10_partings 120 = .ok (.invokevirtual 374, 3) := by decide +kernel
theorem dX10_partings_123 : decode cX10_partings 123 = .ok (.iload_n 3, 1) := by decide +kernel
theorem dX10_partings_124 : decode cX10_partings 124 = .ok (.ifCond .ne 10, 3) := by decide +kernel
theorem dX10_partings_127 : decode cX10_partings 127 = .ok (.aload_n 0, 1) := by decide +kernel
theorem dX10_partings_128 : decode cX10_partings 128 = .ok (.getfield 365, 3) := by decide +kernel
theorem dX10_partings_131 : decode cX10_partings 131 = .ok (.goto 19, 3) := by decide +kernel
theorem dX10_partings_134 : decode cX10_partings 134 = .ok (.iload_n 3, 1) := by decide +kernel
theorem dX10_partings_135 : decode cX10_partings 135 = .ok (.iconst 1, 1) := by decide +kernel
theorem dX10_partings_136 : decode cX10_partings 136 = .ok (.if_icmp .ne 10, 3) := by decide +kernel
theorem dX10_partings_139 : decode cX10_partings 139 = .ok (.aload_n 0, 1) := by decide +kernel
theorem dX10_partings_140 : decode cX10_partings 140 = .ok (.getfield 368, 3) := by decide +kernel
theorem dX10_partings_143 : decode cX10_partings 143 = .ok (.goto 7, 3) := by decide +kernel
theorem dX10_partings_146 : decode cX10_partings 146 = .ok (.aload_n 0, 1) := by decide +kernel
theorem dX10_partings_147 : decode cX10_partings 147 = .ok (.getfield 371, 3) := by decide +kernel
theorem dX10_partings_150 : decode cX10_partings 150 = .ok (.ireturn, 1) := by decide +kernel
theorem dX10_canBe_0 : decode cX10_canBe 0 = .ok (.aload_n 0, 1) := by decide +kernel
theorem dX10_canBe_1 : decode cX10_canBe 1 = .ok (.getfield 56, 3) := by decide +kernel
theorem dX10_canBe_4 : decode cX10_canBe 4 = .ok (.iconst (-1), 1) := by decide +kernel
theorem dX10_canBe_5 : decode cX10_canBe 5 = .ok (.if_icmp .eq 14, 3) := by decide +kernel
theorem dX10_canBe_8 : decode cX10_canBe 8 = .ok (.aload_n 0, 1) := by decide +kernel
theorem dX10_canBe_9 : decode cX10_canBe 9 = .ok (.aload_n 0, 1) := by decide +kernel
theorem dX10_canBe_10 : decode cX10_canBe 10 = .ok (.getfield 56, 3) := by decide +kernel
theorem dX10_canBe_13 : decode cX10_canBe 13 = .ok (.invokevirtual 306, 3) := by decide +kernel
theorem dX10_canBe_16 : decode cX10_canBe 16 = .ok (.ifCond .ne 5, 3) := by decide +kernel
theorem dX10_canBe_19 : decode cX10_canBe 19 = .ok (.iconst 0, 1) := by decide +kernel
theorem dX10_canBe_20 : decode cX10_canBe 20 = .ok (.ireturn, 1) := by decide +kernel
theorem dX10_canBe_21 : decode cX10_canBe 21 = .ok (.iconst 0, 1) := by decide +kernel
theorem dX10_canBe_22 : decode cX10_canBe 22 = .ok (.istore_n 1, 1) := by decide +kernel
theorem dX10_canBe_23 : decode cX10_canBe 23 = .ok (.iload_n 1, 1) := by decide +kernel
theorem dX10_canBe_24 : decode cX10_canBe 24 = .ok (.aload_n 0, 1) := by decide +kernel
theorem dX10_canBe_25 : decode cX10_canBe 25 = .ok (.getfield 231, 3) := by decide +kernel
theorem dX10_canBe_28 : decode cX10_canBe 28 = .ok (.if_icmp .ge 74, 3) := by decide +kernel
theorem dX10_canBe_31 : decode cX10_canBe 31 = .ok (.aload_n 0, 1) := by decide +kernel
theorem dX10_canBe_32 : decode cX10_canBe 32 = .ok (.getfield 53, 3) := by decide +kernel
theorem dX10_canBe_35 : decode cX10_canBe 35 = .ok (.iload_n 1, 1) := by decide +kernel
theorem dX10_canBe_36 : decode cX10_canBe 36 = .ok (.iaload, 1) := by decide +kernel
theorem dX10_canBe_37 : decode cX10_canBe 37 = .ok (.aload_n 0, 1) := by decide +kernel
theorem dX10_canBe_38 : decode cX10_canBe 38 = .ok (.getfield 56, 3) := by decide +kernel
theorem dX10_canBe_41 : decode cX10_canBe 41 = .ok (.if_icmp .ne 55, 3) := by decide +kernel
theorem dX10_canBe_44 : decode cX10_canBe 44 = .ok (.aload_n 0, 1) := by decide +kernel
theorem dX10_canBe_45 : decode cX10_canBe 45 = .ok (.getfield 50, 3) := by decide +kernel
theorem dX10_canBe_48 : decode cX10_canBe 48 = .ok (.iload_n 1, 1) := by decide +kernel
theorem dX10_canBe_49 : decode cX10_canBe 49 = .ok (.laload, 1) := by decide +kernel
theorem dX10_canBe_50 : decode cX10_canBe 50 = .ok (.aload_n 0, 1) := by decide +kernel
theorem dX10_canBe_51 : decode cX10_canBe 51 = .ok (.getfield 207, 3) := by decide +kernel
theorem dX10_canBe_54 : decode cX10_canBe 54 = .ok (.land, 1) := by decide +kernel
theorem dX10_canBe_55 : decode cX10_canBe 55 = .ok (.lconst 0, 1) := by decide +kernel
theorem dX10_canBe_56 : decode cX10_canBe 56 = .ok (.lcmp, 1) := by decide +kernel
theorem dX10_canBe_57 : decode cX10_canBe 57 = .ok (.ifCond .eq 39, 3) := by decide +kernel
theorem dX10_canBe_60 : decode cX10_canBe 60 = .ok (.aload_n 0, 1) := by decide +kernel
theorem dX10_canBe_61 : decode cX10_canBe 61 = .ok (.getfield 50, 3) := by decide +kernel
theorem dX10_canBe_64 : decode cX10_canBe 64 = .ok (.iload_n 1, 1) := by decide +kernel
theorem dX10_canBe_65 : decode cX10_canBe 65 = .ok (.laload, 1) := by decide +kernel
theorem dX10_canBe_66 : decode cX10_canBe 66 = .ok (.invokestatic 237, 3) := by decide +kernel
theorem dX10_canBe_69 : decode cX10_canBe 69 = .ok (.aload_n 0, 1) := by decide +kernel
theorem dX10_canBe_70 : decode cX10_canBe 70 = .ok (.getfield 50, 3) := by decide +kernel
theorem dX10_canBe_73 : decode cX10_canBe 73 = .ok (.iload_n 1, 1) := by decide +kernel
theorem dX10_canBe_74 : decode cX10_canBe 74 = .ok (.laload, 1) := by decide +kernel
theorem dX10_canBe_75 : decode cX10_canBe 75 = .ok (.ldc2_w 195, 3) := by decide +kernel
theorem dX10_canBe_78 : decode cX10_canBe 78 = .ok (.lxor, 1) := by decide +kernel
theorem dX10_canBe_79 : decode cX10_canBe 79 = .ok (.land, 1) := by decide +kernel
theorem dX10_canBe_80 : decode cX10_canBe 80 = .ok (.aload_n 0, 1) := by decide +kernel
theorem dX10_canBe_81 : decode cX10_canBe 81 = .ok (.getfield 207, 3) := by decide +kernel
theorem dX10_canBe_84 : decode cX10_canBe 84 = .ok (.ldc2_w 195, 3) := by decide +kernel
theorem dX10_canBe_87 : decode cX10_canBe 87 = .ok (.lxor, 1) := by decide +kernel
theorem dX10_canBe_88 : decode cX10_canBe 88 = .ok (.land, 1) := by decide +kernel
theorem dX10_canBe_89 : decode cX10_canBe 89 = .ok (.lconst 0, 1) := by decide +kernel
theorem dX10_canBe_90 : decode cX10_canBe 90 = .ok (.lcmp, 1) := by decide +kernel
theorem dX10_canBe_91 : decode cX10_canBe 91 = .ok (.ifCond .eq 5, 3) := by decide +kernel
theorem dX10_canBe_94 : decode cX10_canBe 94 = .ok (.iconst 0, 1) := by decide +kernel
theorem dX10_canBe_95 : decode cX10_canBe 95 = .ok (.ireturn, 1) := by decide +kernel
theorem dX10_canBe_96 : decode cX10_canBe 96 = .ok (.iinc 1 1, 3) := by decide +kernel
theorem dX10_canBe_99 : decode cX10_canBe 99 = .ok (.goto (-76), 3) := by decide +kernel
theorem dX10_canBe_102 : decode cX10_canBe 102 = .ok (.iconst 1, 1) := by decide +kernel
theorem dX10_canBe_103 : decode cX10_canBe 103 = .ok (.ireturn, 1) := by decide +kernel
theorem dX10_can_0 : decode cX10_can 0 = .ok (.aload_n 0, 1) := by decide +kernel
theorem dX10_can_1 : decode cX10_can 1 = .ok (.iconst 0, 1) := by decide +kernel
theorem dX10_can_2 : decode cX10_can 2 = .ok (.putfield 112, 3) := by decide +kernel
theorem dX10_can_5 : decode cX10_can 5 = .ok (.aload_n 0, 1) := by decide +kernel
theorem dX10_can_6 : decode cX10_can 6 = .ok (.invokevirtual 377, 3) := by decide +kernel
theorem dX10_can_9 : decode cX10_can 9 = .ok (.ireturn, 1) := by decide +kernel
theorem dX10_left_0 : decode cX10_left 0 = .ok (.aload_n 0, 1) := by decide +kernel
theorem dX10_left_1 : decode cX10_left 1 = .ok (.iconst 0, 1) := by decide +kernel
theorem dX10_left_2 : decode cX10_left 2 = .ok (.putfield 112, 3) := by decide +kernel
theorem dX10_left_5 : decode cX10_left 5 = .ok (.aload_n 0, 1) := by decide +kernel
theorem dX10_left_6 : decode cX10_left 6 = .ok (.invokevirtual 377, 3) := by decide +kernel
theorem dX10_left_9 : decode cX10_left 9 = .ok (.ifCond .ne 5, 3) := by decide +kernel
theorem dX10_left_12 : decode cX10_left 12 = .ok (.iconst (-1), 1) := by decide +kernel
theorem dX10_left_13 : decode cX10_left 13 = .ok (.ireturn, 1) := by decide +kernel
theorem dX10_left_14 : decode cX10_left 14 = .ok (.iconst 0, 1) := by decide +kernel
theorem dX10_left_15 : decode cX10_left 15 = .ok (.istore_n 1, 1) := by decide +kernel
theorem dX10_left_16 : decode cX10_left 16 = .ok (.iconst 0, 1) := by decide +kernel
theorem dX10_left_17 : decode cX10_left 17 = .ok (.istore_n 2, 1) := by decide +kernel
theorem dX10_left_18 : decode cX10_left 18 = .ok (.iload_n 2, 1) := by decide +kernel
theorem dX10_left_19 : decode cX10_left 19 = .ok (.aload_n 0, 1) := by decide +kernel
theorem dX10_left_20 : decode cX10_left 20 = .ok (.getfield 231, 3) := by decide +kernel
theorem dX10_left_23 : decode cX10_left 23 = .ok (.if_icmp .ge 46, 3) := by decide +kernel
theorem dX10_left_26 : decode cX10_left 26 = .ok (.iload_n 1, 1) := by decide +kernel
theorem dX10_left_27 : decode cX10_left 27 = .ok (.aload_n 0, 1) := by decide +kernel
theorem dX10_left_28 : decode cX10_left 28 = .ok (.getfield 53, 3) := by decide +kernel
theorem dX10_left_31 : decode cX10_left 31 = .ok (.iload_n 2, 1) := by decide +kernel
theorem dX10_left_32 : decode cX10_left 32 = .ok (.iaload, 1) := by decide +kernel
theorem dX10_left_33 : decode cX10_left 33 = .ok (.aload_n 0, 1) := by decide +kernel
theorem dX10_left_34 : decode cX10_left 34 = .ok (.getfield 56, 3) := by decide +kernel
theorem dX10_left_37 : decode cX10_left 37 = .ok (.if_icmp .ne 23, 3) := by decide +kernel
theorem dX10_left_40 : decode cX10_left 40 = .ok (.aload_n 0, 1) := by decide +kernel
theorem dX10_left_41 : decode cX10_left 41 = .ok (.getfield 50, 3) := by decide +kernel
theorem dX10_left_44 : decode cX10_left 44 = .ok (.iload_n 2, 1) := by decide +kernel
theorem dX10_left_45 : decode cX10_left 45 = .ok (.laload, 1) := by decide +kernel
theorem dX10_left_46 : decode cX10_left 46 = .ok (.aload_n 0, 1) := by decide +kernel
theorem dX10_left_47 : decode cX10_left 47 = .ok (.getfield 207, 3) := by decide +kernel
theorem dX10_left_50 : decode cX10_left 50 = .ok (.land, 1) := by decide +kernel
theorem dX10_left_51 : decode cX10_left 51 = .ok (.lconst 0, 1) := by decide +kernel
theorem dX10_left_52 : decode cX10_left 52 = .ok (.lcmp, 1) := by decide +kernel
theorem dX10_left_53 : decode cX10_left 53 = .ok (.ifCond .eq 7, 3) := by decide +kernel
theorem dX10_left_56 : decode cX10_left 56 = .ok (.iconst 1, 1) := by decide +kernel
theorem dX10_left_57 : decode cX10_left 57 = .ok (.goto 4, 3) := by decide +kernel
theorem dX10_left_60 : decode cX10_left 60 = .ok (.iconst 0, 1) := by decide +kernel
theorem dX10_left_61 : decode cX10_left 61 = .ok (.iadd, 1) := by decide +kernel
theorem dX10_left_62 : decode cX10_left 62 = .ok (.istore_n 1, 1) := by decide +kernel
theorem dX10_left_63 : decode cX10_left 63 = .ok (.iinc 2 1, 3) := by decide +kernel
theorem dX10_left_66 : decode cX10_left 66 = .ok (.goto (-48), 3) := by decide +kernel
theorem dX10_left_69 : decode cX10_left 69 = .ok (.aload_n 0, 1) := by decide +kernel
theorem dX10_left_70 : decode cX10_left 70 = .ok (.aload_n 0, 1) := by decide +kernel
theorem dX10_left_71 : decode cX10_left 71 = .ok (.getfield 27, 3) := by decide +kernel
theorem dX10_left_74 : decode cX10_left 74 = .ok (.aload_n 0, 1) := by decide +kernel
theorem dX10_left_75 : decode cX10_left 75 = .ok (.getfield 56, 3) := by decide +kernel
theorem dX10_left_78 : decode cX10_left 78 = .ok (.laload, 1) := by decide +kernel
theorem dX10_left_79 : decode cX10_left 79 = .ok (.invokevirtual 287, 3) := by decide +kernel
theorem dX10_left_82 : decode cX10_left 82 = .ok (.iload_n 1, 1) := by decide +kernel
theorem dX10_left_83 : decode cX10_left 83 = .ok (.aload_n 0, 1) := by decide +kernel
theorem dX10_left_84 : decode cX10_left 84 = .ok (.aload_n 0, 1) := by decide +kernel
theorem dX10_left_85 : decode cX10_left 85 = .ok (.getfield 27, 3) := by decide +kernel
theorem dX10_left_88 : decode cX10_left 88 = .ok (.aload_n 0, 1) := by decide +kernel
theorem dX10_left_89 : decode cX10_left 89 = .ok (.getfield 56, 3) := by decide +kernel
theorem dX10_left_92 : decode cX10_left 92 = .ok (.laload, 1) := by decide +kernel
theorem dX10_left_93 : decode cX10_left 93 = .ok (.invokestatic 227, 3) := by decide +kernel
theorem dX10_left_96 : decode cX10_left 96 = .ok (.aload_n 0, 1) := by decide +kernel
theorem dX10_left_97 : decode cX10_left 97 = .ok (.getfield 207, 3) := by decide +kernel
theorem dX10_left_100 : decode cX10_left 100 = .ok (.land, 1) := by decide +kernel
theorem dX10_left_101 : decode cX10_left 101 = .ok (.iconst 0, 1) := by decide +kernel
theorem dX10_left_102 : decode cX10_left 102 = .ok (.iconst 0, 1) := by decide +kernel
theorem dX10_left_103 : decode cX10_left 103 = .ok (.invokevirtual 283, 3) := by decide +kernel
theorem dX10_left_106 : decode cX10_left 106 = .ok (.iadd, 1) := by decide +kernel
theorem dX10_left_107 : decode cX10_left 107 = .ok (.ireturn, 1) := by decide +kernel
theorem dX10_nearest_0 : decode cX10_nearest 0 = .ok (.aload_n 0, 1) := by decide +kernel
theorem dX10_nearest_1 : decode cX10_nearest 1 = .ok (.iconst 0, 1) := by decide +kernel
theorem dX10_nearest_2 : decode cX10_nearest 2 = .ok (.putfield 112, 3) := by decide +kernel
theorem dX10_nearest_5 : decode cX10_nearest 5 = .ok (.aload_n 0, 1) := by decide +kernel
theorem dX10_nearest_6 : decode cX10_nearest 6 = .ok (.lload_n 1, 1) := by decide +kernel
theorem dX10_nearest_7 : decode cX10_nearest 7 = .ok (.lconst 0, 1) := by decide +kernel
theorem dX10_nearest_8 : decode cX10_nearest 8 = .ok (.lcmp, 1) := by decide +kernel
theorem dX10_nearest_9 : decode cX10_nearest 9 = .ok (.ifCond .eq 13, 3) := by decide +kernel
theorem dX10_nearest_12 : decode cX10_nearest 12 = .ok (.iload 4, 2) := by decide +kernel
theorem dX10_nearest_14 : decode cX10_nearest 14 = .ok (.iconst 0, 1) := by decide +kernel
theorem dX10_nearest_15 : decode cX10_nearest 15 = .ok (.iconst 1, 1) := by decide +kernel
theorem dX10_nearest_16 : decode cX10_nearest 16 = .ok (.invokestatic 146, 3) := by decide +kernel
theorem dX10_nearest_19 : decode cX10_nearest 19 = .ok (.ifCond .ne 7, 3) := by decide +kernel
theorem dX10_nearest_22 : decode cX10_nearest 22 = .ok (.iconst 1, 1) := by decide +kernel
theorem dX10_nearest_23 : decode cX10_nearest 23 = .ok (.goto 4, 3) := by decide +kernel
theorem dX10_nearest_26 : decode cX10_nearest 26 = .ok (.iconst 0, 1) := by decide +kernel
theorem dX10_nearest_27 : decode cX10_nearest 27 = .ok (.iconst 1, 1) := by decide +kernel
theorem dX10_nearest_28 : decode cX10_nearest 28 = .ok (.invokevirtual 197, 3) := by decide +kernel
theorem dX10_nearest_31 : decode cX10_nearest 31 = .ok (.ifCond .eq 5, 3) := by decide +kernel
theorem dX10_nearest_34 : decode cX10_nearest 34 = .ok (.iconst 0, 1) := by decide +kernel
theorem dX10_nearest_35 : decode cX10_nearest 35 = .ok (.ireturn, 1) := by decide +kernel
theorem dX10_nearest_36 : decode cX10_nearest 36 = .ok (.iconst (-1), 1) := by decide +kernel
theorem dX10_nearest_37 : decode cX10_nearest 37 = .ok (.istore 5, 2) := by decide +kernel
theorem dX10_nearest_39 : decode cX10_nearest 39 = .ok (.iconst (-1), 1) := by decide +kernel
theorem dX10_nearest_40 : decode cX10_nearest 40 = .ok (.istore 6, 2) := by decide +kernel
theorem dX10_nearest_42 : decode cX10_nearest 42 = .ok (.iconst 0, 1) := by decide +kernel
theorem dX10_nearest_43 : decode cX10_nearest 43 = .ok (.istore 7, 2) := by decide +kernel
theorem dX10_nearest_45 : decode cX10_nearest 45 = .ok (.iload 7, 2) := by decide +kernel
theorem dX10_nearest_47 : decode cX10_nearest 47 = .ok (.aload_n 0, 1) := by decide +kernel
theorem dX10_nearest_48 : decode cX10_nearest 48 = .ok (.getfield 231, 3) := by decide +kernel
theorem dX10_nearest_51 : decode cX10_nearest 51 = .ok (.if_icmp .ge 47, 3) := by decide +kernel
theorem dX10_nearest_54 : decode cX10_nearest 54 = .ok (.aload_n 0, 1) := by decide +kernel
theorem dX10_nearest_55 : decode cX10_nearest 55 = .ok (.getfield 50, 3) := by decide +kernel
theorem dX10_nearest_58 : decode cX10_nearest 58 = .ok (.iload 7, 2) := by decide +kernel
theorem dX10_nearest_60 : decode cX10_nearest 60 = .ok (.laload, 1) := by decide +kernel
theorem dX10_nearest_61 : decode cX10_nearest 61 = .ok (.lload_n 1, 1) := by decide +kernel
theorem dX10_nearest_62 : decode cX10_nearest 62 = .ok (.iload_n 3, 1) := by decide +kernel
theorem dX10_nearest_63 : decode cX10_nearest 63 = .ok (.invokestatic 265, 3) := by decide +kernel
theorem dX10_nearest_66 : decode cX10_nearest 66 = .ok (.istore 8, 2) := by decide +kernel
theorem dX10_nearest_68 : decode cX10_nearest 68 = .ok (.iload 5, 2) := by decide +kernel
theorem dX10_nearest_70 : decode cX10_nearest 70 = .ok (.iconst (-1), 1) := by decide +kernel
theorem dX10_nearest_71 : decode cX10_nearest 71 = .ok (.if_icmp .eq 13, 3) := by decide +kernel
theorem dX10_nearest_74 : decode cX10_nearest 74 = .ok (.iload 8, 2) := by decide +kernel
theorem dX10_nearest_76 : decode cX10_nearest 76 = .ok (.iload 6, 2) := by decide +kernel
theorem dX10_nearest_78 : decode cX10_nearest 78 = .ok (.if_icmp .lt 6, 3) := by decide +kernel
theorem dX10_nearest_81 : decode cX10_nearest 81 = .ok (.goto 11, 3) := by decide +kernel
theorem dX10_nearest_84 : decode cX10_nearest 84 = .ok (.iload 7, 2) := by decide +kernel
theorem dX10_nearest_86 : decode cX10_nearest 86 = .ok (.istore 5, 2) := by decide +kernel
theorem dX10_nearest_88 : decode cX10_nearest 88 = .ok (.iload 8, 2) := by decide +kernel
theorem dX10_nearest_90 : decode cX10_nearest 90 = .ok (.istore 6, 2) := by decide +kernel
theorem dX10_nearest_92 : decode cX10_nearest 92 = .ok (.iinc 7 1, 3) := by decide +kernel
theorem dX10_nearest_95 : decode cX10_nearest 95 = .ok (.goto (-50), 3) := by decide +kernel
theorem dX10_nearest_98 : decode cX10_nearest 98 = .ok (.iload 4, 2) := by decide +kernel
theorem dX10_nearest_100 : decode cX10_nearest 100 = .ok (.ifCond .ne 8, 3) := by decide +kernel
theorem dX10_nearest_103 : decode cX10_nearest 103 = .ok (.iload 5, 2) := by decide +kernel
theorem dX10_nearest_105 : decode cX10_nearest 105 = .ok (.goto 5, 3) := by decide +kernel
theorem dX10_nearest_108 : decode cX10_nearest 108 = .ok (.iload 6, 2) := by decide +kernel
theorem dX10_nearest_110 : decode cX10_nearest 110 = .ok (.ireturn, 1) := by decide +kernel
theorem dX10_originals_0 : decode cX10_originals 0 = .ok (.aload_n 0, 1) := by decide +kernel
theorem dX10_originals_1 : decode cX10_originals 1 = .ok (.iconst 0, 1) := by decide +kernel
theorem dX10_originals_2 : decode cX10_originals 2 = .ok (.putfield 112, 3) := by decide +kernel
theorem dX10_originals_5 : decode cX10_originals 5 = .ok (.aload_n 0, 1) := by decide +kernel
theorem dX10_originals_6 : decode cX10_originals 6 = .ok (.iload_n 2, 1) := by decide +kernel
theorem dX10_originals_7 : decode cX10_originals 7 = .ok (.iconst 0, 1) := by decide +kernel
theorem dX10_originals_8 : decode cX10_originals 8 = .ok (.iconst 1, 1) := by decide +kernel
theorem dX10_originals_9 : decode cX10_originals 9 = .ok (.invokestatic 146, 3) := by decide +kernel
theorem dX10_originals_12 : decode cX10_originals 12 = .ok (.ifCond .ne 7, 3) := by decide +kernel
theorem dX10_originals_15 : decode cX10_originals 15 = .ok (.iconst 1, 1) := by decide +kernel
theorem dX10_originals_16 : decode cX10_originals 16 = .ok (.goto 4, 3) := by decide +kernel
theorem dX10_originals_19 : decode cX10_originals 19 = .ok (.iconst 0, 1) := by decide +kernel
theorem dX10_originals_20 : decode cX10_originals 20 = .ok (.iconst 1, 1) := by decide +kernel
theorem dX10_originals_21 : decode cX10_originals 21 = .ok (.invokevirtual 197, 3) := by decide +kernel
theorem dX10_originals_24 : decode cX10_originals 24 = .ok (.ifCond .eq 5, 3) := by decide +kernel
theorem dX10_originals_27 : decode cX10_originals 27 = .ok (.iconst 0, 1) := by decide +kernel
theorem dX10_originals_28 : decode cX10_originals 28 = .ok (.ireturn, 1) := by decide +kernel
theorem dX10_originals_29 : decode cX10_originals 29 = .ok (.iconst 0, 1) := by decide +kernel
theorem dX10_originals_30 : decode cX10_originals 30 = .ok (.istore_n 3, 1) := by decide +kernel
theorem dX10_originals_31 : decode cX10_originals 31 = .ok (.iconst 0, 1) := by decide +kernel
theorem dX10_originals_32 : decode cX10_originals 32 = .ok (.istore 4, 2) := by decide +kernel
theorem dX10_originals_34 : decode cX10_originals 34 = .ok (.iload 4, 2) := by decide +kernel
theorem dX10_originals_36 : decode cX10_originals 36 = .ok (.aload_n 0, 1) := by decide +kernel
theorem dX10_originals_37 : decode cX10_originals 37 = .ok (.getfield 20, 3) := by decide +kernel
theorem dX10_originals_40 : decode cX10_originals 40 = .ok (.iconst 0, 1) := by decide +kernel
theorem dX10_originals_41 : decode cX10_originals 41 = .ok (.iaload, 1) := by decide +kernel
theorem dX10_originals_42 : decode cX10_originals 42 = .ok (.if_icmp .ge 105, 3) := by decide +kernel
theorem dX10_originals_45 : decode cX10_originals 45 = .ok (.aload_n 0, 1) := by decide +kernel
theorem dX10_originals_46 : decode cX10_originals 46 = .ok (.getfield 27, 3) := by decide +kernel
theorem dX10_originals_49 : decode cX10_originals 49 = .ok (.iload 4, 2) := by decide +kernel
theorem dX10_originals_51 : decode cX10_originals 51 = .ok (.laload, 1) := by decide +kernel
theorem dX10_originals_52 : decode cX10_originals 52 = .ok (.lconst 0, 1) := by decide +kernel
theorem dX10_originals_53 : decode cX10_originals 53 = .ok (.lcmp, 1) := by decide +kernel
theorem dX10_originals_54 : decode cX10_originals 54 = .ok (.ifCond .eq 7, 3) := by decide +kernel
theorem dX10_originals_57 : decode cX10_originals 57 = .ok (.iconst 1, 1) := by decide +kernel
theorem dX10_originals_58 : decode cX10_originals 58 = .ok (.goto 4, 3) := by decide +kernel
theorem dX10_originals_61 : decode cX10_originals 61 = .ok (.iconst 0, 1) := by decide +kernel
theorem dX10_originals_62 : decode cX10_originals 62 = .ok (.istore 5, 2) := by decide +kernel
theorem dX10_originals_64 : decode cX10_originals 64 = .ok (.iconst 0, 1) := by decide +kernel
theorem dX10_originals_65 : decode cX10_originals 65 = .ok (.istore 6, 2) := by decide +kernel
theorem dX10_originals_67 : decode cX10_originals 67 = .ok (.iload 6, 2) := by decide +kernel
theorem dX10_originals_69 : decode cX10_originals 69 = .ok (.iload 4, 2) := by decide +kernel
theorem dX10_originals_71 : decode cX10_originals 71 = .ok (.if_icmp .ge 54, 3) := by decide +kernel
theorem dX10_originals_74 : decode cX10_originals 74 = .ok (.iload 5, 2) := by decide +kernel
theorem dX10_originals_76 : decode cX10_originals 76 = .ok (.ifCond .eq 49, 3) := by decide +kernel
theorem dX10_originals_79 : decode cX10_originals 79 = .ok (.aload_n 0, 1) := by decide +kernel
theorem dX10_originals_80 : decode cX10_originals 80 = .ok (.getfield 27, 3) := by decide +kernel
theorem dX10_originals_83 : decode cX10_originals 83 = .ok (.iload 6, 2) := by decide +kernel
theorem dX10_originals_85 : decode cX10_originals 85 = .ok (.laload, 1) := by decide +kernel
theorem dX10_originals_86 : decode cX10_originals 86 = .ok (.lconst 0, 1) := by decide +kernel
theorem dX10_originals_87 : decode cX10_originals 87 = .ok (.lcmp, 1) := by decide +kernel
theorem dX10_originals_88 : decode cX10_originals 88 = .ok (.ifCond .eq 24, 3) := by decide +kernel
theorem dX10_originals_91 : decode cX10_originals 91 = .ok (.aload_n 0, 1) := by decide +kernel
theorem dX10_originals_92 : decode cX10_originals 92 = .ok (.getfield 27, 3) := by decide +kernel
theorem dX10_originals_95 : decode cX10_originals 95 = .ok (.iload 6, 2) := by decide +kernel
theorem dX10_originals_97 : decode cX10_originals 97 = .ok (.laload, 1) := by decide +kernel
theorem dX10_originals_98 : decode cX10_originals 98 = .ok (.aload_n 0, 1) := by decide +kernel
theorem dX10_originals_99 : decode cX10_originals 99 = .ok (.getfield 27, 3) := by decide +kernel
theorem dX10_originals_102 : decode cX10_originals 102 = .ok (.iload 4, 2) := by decide +kernel
theorem dX10_originals_104 : decode cX10_originals 104 = .ok (.laload, 1) := by decide +kernel
theorem dX10_originals_105 : decode cX10_originals 105 = .ok (.iload_n 1, 1) := by decide +kernel
theorem dX10_originals_106 : decode cX10_originals 106 = .ok (.invokestatic 265, 3) := by decide +kernel
theorem dX10_originals_109 : decode cX10_originals 109 = .ok (.ifCond .le 7, 3) := by decide +kernel
theorem dX10_originals_112 : decode cX10_originals 112 = .ok (.iconst 1, 1) := by decide +kernel
theorem dX10_originals_113 : decode cX10_originals 113 = .ok (.goto 4, 3) := by decide +kernel
theorem dX10_originals_116 : decode cX10_originals 116 = .ok (.iconst 0, 1) := by decide +kernel
theorem dX10_originals_117 : decode cX10_originals 117 = .ok (.istore 5, 2) := by decide +kernel
theorem dX10_originals_119 : decode cX10_originals 119 = .ok (.iinc 6 1, 3) := by decide +kernel
theorem dX10_originals_122 : decode cX10_originals 122 = .ok (.goto (-55), 3) := by decide +kernel
theorem dX10_originals_125 : decode cX10_originals 125 = .ok (.iload_n 3, 1) := by decide +kernel
theorem dX10_originals_126 : decode cX10_originals 126 = .ok (.iload 5, 2) := by decide +kernel
theorem dX10_originals_128 : decode cX10_originals 128 = .ok (.ifCond .eq 10, 3) := by decide +kernel
theorem dX10_originals_131 : decode cX10_originals 131 = .ok (.iconst 1, 1) := by decide +kernel
theorem dX10_originals_132 : decode cX10_originals 132 = .ok (.iload 4, 2) := by decide +kernel
theorem dX10_originals_134 : decode cX10_originals 134 = .ok (.ishl, 1) := by decide +kernel
theorem dX10_originals_135 : decode cX10_originals 135 = .ok (.goto 4, 3) := by decide +kernel
theorem dX10_originals_138 : decode cX10_originals 138 = .ok (.iconst 0, 1) := by decide +kernel
theorem dX10_originals_139 : decode cX10_originals 139 = .ok (.ior, 1) := by decide +kernel
theorem dX10_originals_140 : decode cX10_originals 140 = .ok (.istore_n 3, 1) := by decide +kernel
theorem dX10_originals_141 : decode cX10_originals 141 = .ok (.iinc 4 1, 3) := by decide +kernel
theorem dX10_originals_144 : decode cX10_originals 144 = .ok (.goto (-110), 3) := by decide +kernel
theorem dX10_originals_147 : decode cX10_originals 147 = .ok (.iload_n 2, 1) := by decide +kernel
theorem dX10_originals_148 : decode cX10_originals 148 = .ok (.ifCond .ne 11, 3) := by decide +kernel
theorem dX10_originals_151 : decode cX10_originals 151 = .ok (.iload_n 3, 1) := by decide +kernel
theorem dX10_originals_152 : decode cX10_originals 152 = .ok (.i2l, 1) := by decide +kernel
theorem dX10_originals_153 : decode cX10_originals 153 = .ok (.invokestatic 243, 3) := by decide +kernel
theorem dX10_originals_156 : decode cX10_originals 156 = .ok (.goto 4, 3) := by decide +kernel
theorem dX10_originals_159 : decode cX10_originals 159 = .ok (.iload_n 3, 1) := by decide +kernel
theorem dX10_originals_160 : decode cX10_originals 160 = .ok (.ireturn, 1) := by decide +kernel
theorem dX10_fount_0 : decode cX10_fount 0 = .ok (.aload_n 0, 1) := by decide +kernel
theorem dX10_fount_1 : decode cX10_fount 1 = .ok (.iconst 0, 1) := by decide +kernel
theorem dX10_fount_2 : decode cX10_fount 2 = .ok (.putfield 112, 3) := by decide +kernel
theorem dX10_fount_5 : decode cX10_fount 5 = .ok (.aload_n 0, 1) := by decide +kernel
theorem dX10_fount_6 : decode cX10_fount 6 = .ok (.iload_n 1, 1) := by decide +kernel
theorem dX10_fount_7 : decode cX10_fount 7 = .ok (.iconst 1, 1) := by decide +kernel
theorem dX10_fount_8 : decode cX10_fount 8 = .ok (.sipush 511, 3) := by decide +kernel
theorem dX10_fount_11 : decode cX10_fount 11 = .ok (.invokestatic 146, 3) := by decide +kernel
theorem dX10_fount_14 : decode cX10_fount 14 = .ok (.ifCond .eq 13, 3) := by decide +kernel
theorem dX10_fount_17 : decode cX10_fount 17 = .ok (.iload_n 2, 1) := by decide +kernel
theorem dX10_fount_18 : decode cX10_fount 18 = .ok (.iconst 0, 1) := by decide +kernel
theorem dX10_fount_19 : decode cX10_fount 19 = .ok (.bipush 99, 2) := by decide +kernel
theorem dX10_fount_21 : decode cX10_fount 21 = .ok (.invokestatic 146, 3) := by decide +kernel
theorem dX10_fount_24 : decode cX10_fount 24 = .ok (.ifCond .ne 7, 3) := by decide +kernel
theorem dX10_fount_27 : decode cX10_fount 27 = .ok (.iconst 1, 1) := by decide +kernel
theorem dX10_fount_28 : decode cX10_fount 28 = .ok (.goto 4, 3) := by decide +kernel
theorem dX10_fount_31 : decode cX10_fount 31 = .ok (.iconst 0, 1) := by decide +kernel
theorem dX10_fount_32 : decode cX10_fount 32 = .ok (.iconst 1, 1) := by decide +kernel
theorem dX10_fount_33 : decode cX10_fount 33 = .ok (.invokevirtual 197, 3) := by decide +kernel
theorem dX10_fount_36 : decode cX10_fount 36 = .ok (.ifCond .eq 5, 3) := by decide +kernel
theorem dX10_fount_39 : decode cX10_fount 39 = .ok (.iconst 0, 1) := by decide +kernel
theorem dX10_fount_40 : decode cX10_fount 40 = .ok (.ireturn, 1) := by decide +kernel
theorem dX10_fount_41 : decode cX10_fount 41 = .ok (.iconst 0, 1) := by decide +kernel
theorem dX10_fount_42 : decode cX10_fount 42 = .ok (.istore 4, 2) := by decide +kernel
theorem dX10_fount_44 : decode cX10_fount 44 = .ok (.iconst 0, 1) := by decide +kernel
theorem dX10_fount_45 : decode cX10_fount 45 = .ok (.istore 5, 2) := by decide +kernel
theorem dX10_fount_47 : decode cX10_fount 47 = .ok (.iconst 1, 1) := by decide +kernel
theorem dX10_fount_48 : decode cX10_fount 48 = .ok (.istore 6, 2) := by decide +kernel
theorem dX10_fount_50 : decode cX10_fount 50 = .ok (.iload 6, 2) := by decide +kernel
theorem dX10_fount_52 : decode cX10_fount 52 = .ok (.bipush 10, 2) := by decide +kernel
theorem dX10_fount_54 : decode cX10_fount 54 = .ok (.if_icmp .ge 56, 3) := by decide +kernel
theorem dX10_fount_57 : decode cX10_fount 57 = .ok (.iload_n 1, 1) := by decide +kernel
theorem dX10_fount_58 : decode cX10_fount 58 = .ok (.iload 6, 2) := by decide +kernel
theorem dX10_fount_60 : decode cX10_fount 60 = .ok (.iconst 1, 1) := by decide +kernel
theorem dX10_fount_61 : decode cX10_fount 61 = .ok (.isub, 1) := by decide +kernel
theorem dX10_fount_62 : decode cX10_fount 62 = .ok (.ishr, 1) := by decide +kernel
theorem dX10_fount_63 : decode cX10_fount 63 = .ok (.iconst 1, 1) := by decide +kernel
theorem dX10_fount_64 : decode cX10_fount 64 = .ok (.iand, 1) := by decide +kernel
theorem dX10_fount_65 : decode cX10_fount 65 = .ok (.ifCond .eq 39, 3) := by decide +kernel
theorem dX10_fount_68 : decode cX10_fount 68 = .ok (.iload 4, 2) := by decide +kernel
theorem dX10_fount_70 : decode cX10_fount 70 = .ok (.ifCond .le 27, 3) := by decide +kernel
theorem dX10_fount_73 : decode cX10_fount 73 = .ok (.bipush 16, 2) := by decide +kernel
theorem dX10_fount_75 : decode cX10_fount 75 = .ok (.iload 6, 2) := by decide +kernel
theorem dX10_fount_77 : decode cX10_fount 77 = .ok (.imul, 1) := by decide +kernel
theorem dX10_fount_78 : decode cX10_fount 78 = .ok (.iload 6, 2) := by decide +kernel
theorem dX10_fount_80 : decode cX10_fount 80 = .ok (.imul, 1) := by decide +kernel
theorem dX10_fount_81 : decode cX10_fount 81 = .ok (.bipush 16, 2) := by decide +kernel
theorem dX10_fount_83 : decode cX10_fount 83 = .ok (.iload_n 2, 1) := by decide +kernel
theorem dX10_fount_84 : decode cX10_fount 84 = .ok (.iadd, 1) := by decide +kernel
theorem dX10_fount_85 : decode cX10_fount 85 = .ok (.iload 5, 2) := by decide +kernel
theorem dX10_fount_87 : decode cX10_fount 87 = .ok (.imul, 1) := by decide +kernel
theorem dX10_fount_88 : decode cX10_fount 88 = .ok (.iload 5, 2) := by decide +kernel
theorem dX10_fount_90 : decode cX10_fount 90 = .ok (.imul, 1) := by decide +kernel
theorem dX10_fount_91 : decode cX10_fount 91 = .ok (.if_icmp .gt 6, 3) := by decide +kernel
theorem dX10_fount_94 : decode cX10_fount 94 = .ok (.goto 10, 3) := by decide +kernel
theorem dX10_fount_97 : decode cX10_fount 97 = .ok (.iload 6, 2) := by decide +kernel
theorem dX10_fount_99 : decode cX10_fount 99 = .ok (.istore 5, 2) := by decide +kernel
theorem dX10_fount_101 : decode cX10_fount 101 = .ok (.iinc 4 1, 3) := by decide +kernel
theorem dX10_fount_104 : decode cX10_fount 104 = .ok (.iinc 6 1, 3) := by decide +kernel
theorem dX10_fount_107 : decode cX10_fount 107 = .ok (.goto (-57), 3) := by decide +kernel
theorem dX10_fount_110 : decode cX10_fount 110 = .ok (.iload 4, 2) := by decide +kernel
theorem dX10_fount_112 : decode cX10_fount 112 = .ok (.aload_n 0, 1) := by decide +kernel
theorem dX10_fount_113 : decode cX10_fount 113 = .ok (.iconst 0, 1) := by decide +kernel
theorem dX10_fount_114 : decode cX10_fount 114 = .ok (.iload_n 3, 1) := by decide +kernel
theorem dX10_fount_115 : decode cX10_fount 115 = .ok (.invokevirtual 269, 3) := by decide +kernel
theorem dX10_fount_118 : decode cX10_fount 118 = .ok (.i2l, 1) := by decide +kernel
theorem dX10_fount_119 : decode cX10_fount 119 = .ok (.invokestatic 243, 3) := by decide +kernel
theorem dX10_fount_122 : decode cX10_fount 122 = .ok (.imul, 1) := by decide +kernel
theorem dX10_fount_123 : decode cX10_fount 123 = .ok (.ireturn, 1) := by decide +kernel
theorem dX10_moves_0 : decode cX10_moves 0 = .ok (.iload 4, 2) := by decide +kernel
theorem dX10_moves_2 : decode cX10_moves 2 = .ok (.ifCond .ne 10, 3) := by decide +kernel
theorem dX10_moves_5 : decode cX10_moves 5 = .ok (.aload_n 1, 1) := by decide +kernel
theorem dX10_moves_6 : decode cX10_moves 6 = .ok (.aload_n 0, 1) := by decide +kernel
theorem dX10_moves_7 : decode cX10_moves 7 = .ok (.getfield 381, 3) := by decide +kernel
theorem dX10_moves_10 : decode cX10_moves 10 = .ok (.lload_n 2, 1) := by decide +kernel
theorem dX10_moves_11 : decode cX10_moves 11 = .ok (.lastore, 1) := by decide +kernel
theorem dX10_moves_12 : decode cX10_moves 12 = .ok (.aload_n 0, 1) := by decide +kernel
theorem dX10_moves_13 : decode cX10_moves 13 = .ok (.dup, 1) := by decide +kernel
theorem dX10_moves_14 : decode cX10_moves 14 = .ok (.getfield 381, 3) := by decide +kernel
theorem dX10_moves_17 : decode cX10_moves 17 = .ok (.iconst 1, 1) := by decide +kernel
theorem dX10_moves_18 : decode cX10_moves 18 = .ok (.iadd, 1) := by decide +kernel
theorem dX10_moves_19 : decode cX10_moves 19 = .ok (.putfield 381, 3) := by decide +kernel
theorem dX10_moves_22 : decode cX10_moves 22 = .ok (.aload_n 1, 1) := by decide +kernel
theorem dX10_moves_23 : decode cX10_moves 23 = .ok (.aload_n 0, 1) := by decide +kernel
theorem dX10_moves_24 : decode cX10_moves 24 = .ok (.getfield 381, 3) := by decide +kernel
theorem dX10_moves_27 : decode cX10_moves 27 = .ok (.iconst 1, 1) := by decide +kernel
theorem dX10_moves_28 : decode cX10_moves 28 = .ok (.isub, 1) := by decide +kernel
theorem dX10_moves_29 : decode cX10_moves 29 = .ok (.laload, 1) := by decide +kernel
theorem dX10_moves_30 : decode cX10_moves 30 = .ok (.lreturn, 1) := by decide +kernel
theorem dX10_movesAll_0 : decode cX10_movesAll 0 = .ok (.aload_n 0, 1) := by decide +kernel
theorem dX10_movesAll_1 : decode cX10_movesAll 1 = .ok (.iconst 0, 1) := by decide +kernel
theorem dX10_movesAll_2 : decode cX10_movesAll 2 = .ok (.putfield 381, 3) := by decide +kernel
theorem dX10_movesAll_5 : decode cX10_movesAll 5 = .ok (.aload_n 0, 1) := by decide +kernel
theorem dX10_movesAll_6 : decode cX10_movesAll 6 = .ok (.aload_n 0, 1) := by decide +kernel
theorem dX10_movesAll_7 : decode cX10_movesAll 7 = .ok (.aload_n 1, 1) := by decide +kernel
theorem dX10_movesAll_8 : decode cX10_movesAll 8 = .ok (.aload_n 0, 1) := by decide +kernel
theorem dX10_movesAll_9 : decode cX10_movesAll 9 = .ok (.getfield 207, 3) := by decide +kernel
theorem dX10_movesAll_12 : decode cX10_movesAll 12 = .ok (.iload_n 2, 1) := by decide +kernel
theorem dX10_movesAll_13 : decode cX10_movesAll 13 = .ok (.invokevirtual 384, 3) := by decide +kernel
theorem dX10_movesAll_16 : decode cX10_movesAll 16 = .ok (.putfield 207, 3) := by decide +kernel
theorem dX10_movesAll_19 : decode cX10_movesAll 19 = .ok (.aload_n 0, 1) := by decide +kernel
theorem dX10_movesAll_20 : decode cX10_movesAll 20 = .ok (.aload_n 0, 1) := by decide +kernel
theorem dX10_movesAll_21 : decode cX10_movesAll 21 = .ok (.aload_n 1, 1) := by decide +kernel
theorem dX10_movesAll_22 : decode cX10_movesAll 22 = .ok (.aload_n 0, 1) := by decide +kernel
theorem dX10_movesAll_23 : decode cX10_movesAll 23 = .ok (.getfield 56, 3) := by decide +kernel
theorem dX10_movesAll_26 : decode cX10_movesAll 26 = .ok (.i2l, 1) := by decide +kernel
theorem dX10_movesAll_27 : decode cX10_movesAll 27 = .ok (.iload_n 2, 1) := by decide +kernel
theorem dX10_movesAll_28 : decode cX10_movesAll 28 = .ok (.invokevirtual 384, 3) := by decide +kernel
theorem dX10_movesAll_31 : decode cX10_movesAll 31 = .ok (.l2i, 1) := by decide +kernel
theorem dX10_movesAll_32 : decode cX10_movesAll 32 = .ok (.putfield 56, 3) := by decide +kernel
theorem dX10_movesAll_35 : decode cX10_movesAll 35 = .ok (.aload_n 0, 1) := by decide +kernel
theorem dX10_movesAll_36 : decode cX10_movesAll 36 = .ok (.aload_n 0, 1) := by decide +kernel
theorem dX10_movesAll_37 : decode cX10_movesAll 37 = .ok (.aload_n 1, 1) := by decide +kernel
theorem dX10_movesAll_38 : decode cX10_movesAll 38 = .ok (.aload_n 0, 1) := by decide +kernel
theorem dX10_movesAll_39 : decode cX10_movesAll 39 = .ok (.getfield 211, 3) := by decide +kernel
theorem dX10_movesAll_42 : decode cX10_movesAll 42 = .ok (.i2l, 1) := by decide +kernel
theorem dX10_movesAll_43 : decode cX10_movesAll 43 = .ok (.iload_n 2, 1) := by decide +kernel
theorem dX10_movesAll_44 : decode cX10_movesAll 44 = .ok (.invokevirtual 384, 3) := by decide +kernel
theorem dX10_movesAll_47 : decode cX10_movesAll 47 = .ok (.l2i, 1) := by decide +kernel
theorem dX10_movesAll_48 : decode cX10_movesAll 48 = .ok (.putfield 211, 3) := by decide +kernel
theorem dX10_movesAll_51 : decode cX10_movesAll 51 = .ok (.aload_n 0, 1) := by decide +kernel
theorem dX10_movesAll_52 : decode cX10_movesAll 52 = .ok (.aload_n 0, 1) := by decide +kernel
theorem dX10_movesAll_53 : decode cX10_movesAll 53 = .ok (.aload_n 1, 1) := by decide +kernel
theorem dX10_movesAll_54 : decode cX10_movesAll 54 = .ok (.aload_n 0, 1) := by decide +kernel
theorem dX10_movesAll_55 : decode cX10_movesAll 55 = .ok (.getfield 214, 3) := by decide +kernel
theorem dX10_movesAll_58 : decode cX10_movesAll 58 = .ok (.i2l, 1) := by decide +kernel
theorem dX10_movesAll_59 : decode cX10_movesAll 59 = .ok (.iload_n 2, 1) := by decide +kernel
theorem dX10_movesAll_60 : decode cX10_movesAll 60 = .ok (.invokevirtual 384, 3) := by decide +kernel
theorem dX10_movesAll_63 : decode cX10_movesAll 63 = .ok (.l2i, 1) := by decide +kernel
theorem dX10_movesAll_64 : decode cX10_movesAll 64 = .ok (.putfield 214, 3) := by decide +kernel
theorem dX10_movesAll_67 : decode cX10_movesAll 67 = .ok (.aload_n 0, 1) := by decide +kernel
theorem dX10_movesAll_68 : decode cX10_movesAll 68 = .ok (.aload_n 0, 1) := by decide +kernel
theorem dX10_movesAll_69 : decode cX10_movesAll 69 = .ok (.aload_n 1, 1) := by decide +kernel
theorem dX10_movesAll_70 : decode cX10_movesAll 70 = .ok (.aload_n 0, 1) := by decide +kernel
theorem dX10_movesAll_71 : decode cX10_movesAll 71 = .ok (.getfield 217, 3) := by decide +kernel
theorem dX10_movesAll_74 : decode cX10_movesAll 74 = .ok (.i2l, 1) := by decide +kernel
theorem dX10_movesAll_75 : decode cX10_movesAll 75 = .ok (.iload_n 2, 1) := by decide +kernel
theorem dX10_movesAll_76 : decode cX10_movesAll 76 = .ok (.invokevirtual 384, 3) := by decide +kernel
theorem dX10_movesAll_79 : decode cX10_movesAll 79 = .ok (.l2i, 1) := by decide +kernel
theorem dX10_movesAll_80 : decode cX10_movesAll 80 = .ok (.putfield 217, 3) := by decide +kernel
theorem dX10_movesAll_83 : decode cX10_movesAll 83 = .ok (.iconst 0, 1) := by decide +kernel
theorem dX10_movesAll_84 : decode cX10_movesAll 84 = .ok (.istore_n 3, 1) := by decide +kernel
theorem dX10_movesAll_85 : decode cX10_movesAll 85 = .ok (.iload_n 3, 1) := by decide +kernel
theorem dX10_movesAll_86 : decode cX10_movesAll 86 = .ok (.bipush 40, 2) := by decide +kernel
theorem dX10_movesAll_88 : decode cX10_movesAll 88 = .ok (.if_icmp .ge 29, 3) := by decide +kernel
theorem dX10_movesAll_91 : decode cX10_movesAll 91 = .ok (.aload_n 0, 1) := by decide +kernel
theorem dX10_movesAll_92 : decode cX10_movesAll 92 = .ok (.getfield 59, 3) := by decide +kernel
theorem dX10_movesAll_95 : decode cX10_movesAll 95 = .ok (.iload_n 3, 1) := by decide +kernel
theorem dX10_movesAll_96 : decode cX10_movesAll 96 = .ok (.aload_n 0, 1) := by decide +kernel
theorem dX10_movesAll_97 : decode cX10_movesAll 97 = .ok (.aload_n 1, 1) := by decide +kernel
theorem dX10_movesAll_98 : decode cX10_movesAll 98 = .ok (.aload_n 0, 1) := by decide +kernel
theorem dX10_movesAll_99 : decode cX10_movesAll 99 = .ok (.getfield 59, 3) := by decide +kernel
theorem dX10_movesAll_102 : decode cX10_movesAll 102 = .ok (.iload_n 3, 1) := by decide +kernel
theorem dX10_movesAll_103 : decode cX10_movesAll 103 = .ok (.iaload, 1) := by decide +kernel
theorem dX10_movesAll_104 : decode cX10_movesAll 104 = .ok (.i2l, 1) := by decide +kernel
theorem dX10_movesAll_105 : decode cX10_movesAll 105 = .ok (.iload_n 2, 1) := by decide +kernel
theorem dX10_movesAll_106 : decode cX10_movesAll 106 = .ok (.invokevirtual 384, 3) := by decide +kernel
theorem dX10_movesAll_109 : decode cX10_movesAll 109 = .ok (.l2i, 1) := by decide +kernel
theorem dX10_movesAll_110 : decode cX10_movesAll 110 = .ok (.iastore, 1) := by decide +kernel
theorem dX10_movesAll_111 : decode cX10_movesAll 111 = .ok (.iinc 3 1, 3) := by decide +kernel
theorem dX10_movesAll_114 : decode cX10_movesAll 114 = .ok (.goto (-29), 3) := by decide +kernel
theorem dX10_movesAll_117 : decode cX10_movesAll 117 = .ok (.iconst 0, 1) := by decide +kernel
theorem dX10_movesAll_118 : decode cX10_movesAll 118 = .ok (.istore_n 3, 1) := by decide +kernel
theorem dX10_movesAll_119 : decode cX10_movesAll 119 = .ok (.iload_n 3, 1) := by decide +kernel
theorem dX10_movesAll_120 : decode cX10_movesAll 120 = .ok (.bipush 8, 2) := by decide +kernel
theorem dX10_movesAll_122 : decode cX10_movesAll 122 = .ok (.if_icmp .ge 27, 3) := by decide +kernel
theorem dX10_movesAll_125 : decode cX10_movesAll 125 = .ok (.aload_n 0, 1) := by decide +kernel
theorem dX10_movesAll_126 : decode cX10_movesAll 126 = .ok (.getfield 62, 3) := by decide +kernel
theorem dX10_movesAll_129 : decode cX10_movesAll 129 = .ok (.iload_n 3, 1) := by decide +kernel
theorem dX10_movesAll_130 : decode cX10_movesAll 130 = .ok (.aload_n 0, 1) := by decide +kernel
theorem dX10_movesAll_131 : decode cX10_movesAll 131 = .ok (.aload_n 1, 1) := by decide +kernel
theorem dX10_movesAll_132 : decode cX10_movesAll 132 = .ok (.aload_n 0, 1) := by decide +kernel
theorem dX10_movesAll_133 : decode cX10_movesAll 133 = .ok (.getfield 62, 3) := by decide +kernel
theorem dX10_movesAll_136 : decode cX10_movesAll 136 = .ok (.iload_n 3, 1) := by decide +kernel
theorem dX10_movesAll_137 : decode cX10_movesAll 137 = .ok (.laload, 1) := by decide +kernel
theorem dX10_movesAll_138 : decode cX10_movesAll 138 = .ok (.iload_n 2, 1) := by decide +kernel
theorem dX10_movesAll_139 : decode cX10_movesAll 139 = .ok (.invokevirtual 384, 3) := by decide +kernel
theorem dX10_movesAll_142 : decode cX10_movesAll 142 = .ok (.lastore, 1) := by decide +kernel
theorem dX10_movesAll_143 : decode cX10_movesAll 143 = .ok (.iinc 3 1, 3) := by decide +kernel
theorem dX10_movesAll_146 : decode cX10_movesAll 146 = .ok (.goto (-27), 3) := by decide +kernel
theorem dX10_movesAll_149 : decode cX10_movesAll 149 = .ok (.return_, 1) := by decide +kernel
theorem dX10_image_0 : decode cX10_image 0 = .ok (.aload_n 0, 1) := by decide +kernel
theorem dX10_image_1 : decode cX10_image 1 = .ok (.iconst 0, 1) := by decide +kernel
theorem dX10_image_2 : decode cX10_image 2 = .ok (.putfield 112, 3) := by decide +kernel
theorem dX10_image_5 : decode cX10_image 5 = .ok (.aload_n 0, 1) := by decide +kernel
theorem dX10_image_6 : decode cX10_image 6 = .ok (.getfield 220, 3) := by decide +kernel
theorem dX10_image_9 : decode cX10_image 9 = .ok (.iconst 3, 1) := by decide +kernel
theorem dX10_image_10 : decode cX10_image 10 = .ok (.if_icmp .ne 5, 3) := by decide +kernel
theorem dX10_image_13 : decode cX10_image 13 = .ok (.iconst (-1), 1) := by decide +kernel
theorem dX10_image_14 : decode cX10_image 14 = .ok (.ireturn, 1) := by decide +kernel
theorem dX10_image_15 : decode cX10_image 15 = .ok (.aload_n 0, 1) := by decide +kernel
theorem dX10_image_16 : decode cX10_image 16 = .ok (.aload_n 0, 1) := by decide +kernel
theorem dX10_image_17 : decode cX10_image 17 = .ok (.getfield 67, 3) := by decide +kernel
theorem dX10_image_20 : decode cX10_image 20 = .ok (.aload_n 0, 1) := by decide +kernel
theorem dX10_image_21 : decode cX10_image 21 = .ok (.getfield 220, 3) := by decide +kernel
theorem dX10_image_24 : decode cX10_image 24 = .ok (.aaload, 1) := by decide +kernel
theorem dX10_image_25 : decode cX10_image 25 = .ok (.iconst 0, 1) := by decide +kernel
theorem dX10_image_26 : decode cX10_image 26 = .ok (.invokevirtual 388, 3) := by decide +kernel
theorem dX10_image_29 : decode cX10_image 29 = .ok (.aload_n 0, 1) := by decide +kernel
theorem dX10_image_30 : decode cX10_image 30 = .ok (.dup, 1) := by decide +kernel
theorem dX10_image_31 : decode cX10_image 31 = .ok (.getfield 220, 3) := by decide +kernel
theorem dX10_image_34 : decode cX10_image 34 = .ok (.iconst 1, 1) := by decide +kernel
theorem dX10_image_35 : decode cX10_image 35 = .ok (.iadd, 1) := by decide +kernel
theorem dX10_image_36 : decode cX10_image 36 = .ok (.putfield 220, 3) := by decide +kernel
theorem dX10_image_39 : decode cX10_image 39 = .ok (.aload_n 0, 1) := by decide +kernel
theorem dX10_image_40 : decode cX10_image 40 = .ok (.getfield 220, 3) := by decide +kernel
theorem dX10_image_43 : decode cX10_image 43 = .ok (.ireturn, 1) := by decide +kernel
theorem dX10_restore_0 : decode cX10_restore 0 = .ok (.aload_n 0, 1) := by decide +kernel
theorem dX10_restore_1 : decode cX10_restore 1 = .ok (.iconst 0, 1) := by decide +kernel
theorem dX10_restore_2 : decode cX10_restore 2 = .ok (.putfield 112, 3) := by decide +kernel
theorem dX10_restore_5 : decode cX10_restore 5 = .ok (.aload_n 0, 1) := by decide +kernel
theorem dX10_restore_6 : decode cX10_restore 6 = .ok (.getfield 220, 3) := by decide +kernel
theorem dX10_restore_9 : decode cX10_restore 9 = .ok (.ifCond .ne 5, 3) := by decide +kernel
theorem dX10_restore_12 : decode cX10_restore 12 = .ok (.iconst (-1), 1) := by decide +kernel
theorem dX10_restore_13 : decode cX10_restore 13 = .ok (.ireturn, 1) := by decide +kernel
theorem dX10_restore_14 : decode cX10_restore 14 = .ok (.aload_n 0, 1) := by decide +kernel
theorem dX10_restore_15 : decode cX10_restore 15 = .ok (.dup, 1) := by decide +kernel
theorem dX10_restore_16 : decode cX10_restore 16 = .ok (.getfield 220, 3) := by decide +kernel
theorem dX10_restore_19 : decode cX10_restore 19 = .ok (.iconst 1, 1) := by decide +kernel
theorem dX10_restore_20 : decode cX10_restore 20 = .ok (.isub, 1) := by decide +kernel
theorem dX10_restore_21 : decode cX10_restore 21 = .ok (.putfield 220, 3) := by decide +kernel
theorem dX10_restore_24 : decode cX10_restore 24 = .ok (.aload_n 0, 1) := by decide +kernel
theorem dX10_restore_25 : decode cX10_restore 25 = .ok (.aload_n 0, 1) := by decide +kernel
theorem dX10_restore_26 : decode cX10_restore 26 = .ok (.getfield 67, 3) := by decide +kernel
theorem dX10_restore_29 : decode cX10_restore 29 = .ok (.aload_n 0, 1) := by decide +kernel
theorem dX10_restore_30 : decode cX10_restore 30 = .ok (.getfield 220, 3) := by decide +kernel
theorem dX10_restore_33 : decode cX10_restore 33 = .ok (.aaload, 1) := by decide +kernel
theorem dX10_restore_34 : decode cX10_restore 34 = .ok (.iconst 1, 1) := by decide +kernel
theorem dX10_restore_35 : decode cX10_restore 35 = .ok (.invokevirtual 388, 3) := by decide +kernel
theorem dX10_restore_38 : decode cX10_restore 38 = .ok (.aload_n 0, 1) := by decide +kernel
theorem dX10_restore_39 : decode cX10_restore 39 = .ok (.getfield 220, 3) := by decide +kernel
theorem dX10_restore_42 : decode cX10_restore 42 = .ok (.ireturn, 1) := by decide +kernel
theorem dX10_count_0 : decode cX10_count 0 = .ok (.aload_n 0, 1) := by decide +kernel
theorem dX10_count_1 : decode cX10_count 1 = .ok (.iconst 0, 1) := by decide +kernel
theorem dX10_count_2 : decode cX10_count 2 = .ok (.putfield 112, 3) := by decide +kernel
theorem dX10_count_5 : decode cX10_count 5 = .ok (.iload_n 1, 1) := by decide +kernel
theorem dX10_count_6 : decode cX10_count 6 = .ok (.tableswitch 50 0 3 #[30, 35, 40, 45], 30) := by decide +kernel
theorem dX10_count_36 : decode cX10_count 36 = .ok (.aload_n 0, 1) := by decide +kernel
theorem dX10_count_37 : decode cX10_count 37 = .ok (.getfield 214, 3) := by decide +kernel
theorem dX10_count_40 : decode cX10_count 40 = .ok (.ireturn, 1) := by decide +kernel
theorem dX10_count_41 : decode cX10_count 41 = .ok (.aload_n 0, 1) := by decide +kernel
theorem dX10_count_42 : decode cX10_count 42 = .ok (.getfield 217, 3) := by decide +kernel
theorem dX10_count_45 : decode cX10_count 45 = .ok (.ireturn, 1) := by decide +kernel
theorem dX10_count_46 : decode cX10_count 46 = .ok (.aload_n 0, 1) := by decide +kernel
theorem dX10_count_47 : decode cX10_count 47 = .ok (.getfield 220, 3) := by decide +kernel
theorem dX10_count_50 : decode cX10_count 50 = .ok (.ireturn, 1) := by decide +kernel
theorem dX10_count_51 : decode cX10_count 51 = .ok (.aload_n 0, 1) := by decide +kernel
theorem dX10_count_52 : decode cX10_count 52 = .ok (.getfield 115, 3) := by decide +kernel
theorem dX10_count_55 : decode cX10_count 55 = .ok (.ireturn, 1) := by decide +kernel
theorem dX10_count_56 : decode cX10_count 56 = .ok (.iconst (-1), 1) := by decide +kernel
theorem dX10_count_57 : decode cX10_count 57 = .ok (.ireturn, 1) := by decide +kernel

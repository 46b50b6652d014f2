theorem dX0_init_0 : decode cX0_init 0 = .ok (.aload_n 0, 1) := by decide +kernel
theorem dX0_init_1 : decode cX0_init 1 = .ok (.invokespecial 3, 3) := by decide +kernel
theorem dX0_init_4 : decode cX0_init 4 = .ok (.aload_n 0, 1) := by decide +kernel
theorem dX0_init_5 : decode cX0_init 5 = .ok (.bipush 40, 2) := by decide +kernel
theorem dX0_init_7 : decode cX0_init 7 = .ok (.newarray .int, 2) := by decide +kernel
theorem dX0_init_9 : decode cX0_init 9 = .ok (.putfield 9, 3) := by decide +kernel
theorem dX0_init_12 : decode cX0_init 12 = .ok (.aload_n 0, 1) := by decide +kernel
theorem dX0_init_13 : decode cX0_init 13 = .ok (.bipush 40, 2) := by decide +kernel
theorem dX0_init_15 : decode cX0_init 15 = .ok (.newarray .long, 2) := by decide +kernel
theorem dX0_init_17 : decode cX0_init 17 = .ok (.putfield 15, 3) := by decide +kernel
theorem dX0_init_20 : decode cX0_init 20 = .ok (.aload_n 0, 1) := by decide +kernel
theorem dX0_init_21 : decode cX0_init 21 = .ok (.bipush 8, 2) := by decide +kernel
theorem dX0_init_23 : decode cX0_init 23 = .ok (.newarray .long, 2) := by decide +kernel
theorem dX0_init_25 : decode cX0_init 25 = .ok (.putfield 19, 3) := by decide +kernel
theorem dX0_init_28 : decode cX0_init 28 = .ok (.return_, 1) := by decide +kernel
theorem dX0_wipe_0 : decode cX0_wipe 0 = .ok (.aload_n 0, 1) := by decide +kernel
theorem dX0_wipe_1 : decode cX0_wipe 1 = .ok (.iconst (-1), 1) := by decide +kernel
theorem dX0_wipe_2 : decode cX0_wipe 2 = .ok (.putfield 22, 3) := by decide +kernel
theorem dX0_wipe_5 : decode cX0_wipe 5 = .ok (.aload_n 0, 1) := by decide +kernel
theorem dX0_wipe_6 : decode cX0_wipe 6 = .ok (.lconst 0, 1) := by decide +kernel
theorem dX0_wipe_7 : decode cX0_wipe 7 = .ok (.putfield 26, 3) := by decide +kernel
theorem dX0_wipe_10 : decode cX0_wipe 10 = .ok (.aload_n 0, 1) := by decide +kernel
theorem dX0_wipe_11 : decode cX0_wipe 11 = .ok (.iconst 0, 1) := by decide +kernel
theorem dX0_wipe_12 : decode cX0_wipe 12 = .ok (.putfield 30, 3) := by decide +kernel
theorem dX0_wipe_15 : decode cX0_wipe 15 = .ok (.aload_n 0, 1) := by decide +kernel
theorem dX0_wipe_16 : decode cX0_wipe 16 = .ok (.iconst 0, 1) := by decide +kernel
theorem dX0_wipe_17 : decode cX0_wipe 17 = .ok (.putfield 34, 3) := by decide +kernel
theorem dX0_wipe_20 : decode cX0_wipe 20 = .ok (.aload_n 0, 1) := by decide +kernel
theorem dX0_wipe_21 : decode cX0_wipe 21 = .ok (.iconst 0, 1) := by decide +kernel
theorem dX0_wipe_22 : decode cX0_wipe 22 = .ok (.putfield 37, 3) := by decide +kernel
theorem dX0_wipe_25 : decode cX0_wipe 25 = .ok (.return_, 1) := by decide +kernel
theorem dX0_copyOf_0 : decode cX0_copyOf 0 = .ok (.aload_n 0, 1) := by decide +kernel
theorem dX0_copyOf_1 : decode cX0_copyOf 1 = .ok (.aload_n 1, 1) := by decide +kernel
theorem dX0_copyOf_2 : decode cX0_copyOf 2 = .ok (.getfield 22, 3) := by decide +kernel
theorem dX0_copyOf_5 : decode cX0_copyOf 5 = .ok (.putfield 22, 3) := by decide +kernel
theorem dX0_copyOf_8 : decode cX0_copyOf 8 = .ok (.aload_n 0, 1) := by decide +kernel
theorem dX0_copyOf_9 : decode cX0_copyOf 9 = .ok (.aload_n 1, 1) := by decide +kernel
theorem dX0_copyOf_10 : decode cX0_copyOf 10 = .ok (.getfield 26, 3) := by decide +kernel
theorem dX0_copyOf_13 : decode cX0_copyOf 13 = .ok (.putfield 26, 3) := by decide +kernel
theorem dX0_copyOf_16 : decode cX0_copyOf 16 = .ok (.aload_n 0, 1) := by decide +kernel
theorem dX0_copyOf_17 : decode cX0_copyOf 17 = .ok (.aload_n 1, 1) := by decide +kernel
theorem dX0_copyOf_18 : decode cX0_copyOf 18 = .ok (.getfield 30, 3) := by decide +kernel
theorem dX0_copyOf_21 : decode cX0_copyOf 21 = .ok (.putfield 30, 3) := by decide +kernel
theorem dX0_copyOf_24 : decode cX0_copyOf 24 = .ok (.aload_n 0, 1) := by decide +kernel
theorem dX0_copyOf_25 : decode cX0_copyOf 25 = .ok (.aload_n 1, 1) := by decide +kernel
theorem dX0_copyOf_26 : decode cX0_copyOf 26 = .ok (.getfield 34, 3) := by decide +kernel
theorem dX0_copyOf_29 : decode cX0_copyOf 29 = .ok (.putfield 34, 3) := by decide +kernel
theorem dX0_copyOf_32 : decode cX0_copyOf 32 = .ok (.aload_n 0, 1) := by decide +kernel
theorem dX0_copyOf_33 : decode cX0_copyOf 33 = .ok (.aload_n 1, 1) := by decide +kernel
theorem dX0_copyOf_34 : decode cX0_copyOf 34 = .ok (.getfield 37, 3) := by decide +kernel
theorem dX0_copyOf_37 : decode cX0_copyOf 37 = .ok (.putfield 37, 3) := by decide +kernel
theorem dX0_copyOf_40 : decode cX0_copyOf 40 = .ok (.aload_n 1, 1) := by decide +kernel
theorem dX0_copyOf_41 : decode cX0_copyOf 41 = .ok (.getfield 9, 3) := by decide +kernel
theorem dX0_copyOf_44 : decode cX0_copyOf 44 = .ok (.iconst 0, 1) := by decide +kernel
theorem dX0_copyOf_45 : decode cX0_copyOf 45 = .ok (.aload_n 0, 1) := by decide +kernel
theorem dX0_copyOf_46 : decode cX0_copyOf 46 = .ok (.getfield 9, 3) := by decide +kernel
theorem dX0_copyOf_49 : decode cX0_copyOf 49 = .ok (.iconst 0, 1) := by decide +kernel
theorem dX0_copyOf_50 : decode cX0_copyOf 50 = .ok (.bipush 40, 2) := by decide +kernel
theorem dX0_copyOf_52 : decode cX0_copyOf 52 = .ok (.invokestatic 40, 3) := by decide +kernel
theorem dX0_copyOf_55 : decode cX0_copyOf 55 = .ok (.aload_n 1, 1) := by decide +kernel
theorem dX0_copyOf_56 : decode cX0_copyOf 56 = .ok (.getfield 15, 3) := by decide +kernel
theorem dX0_copyOf_59 : decode cX0_copyOf 59 = .ok (.iconst 0, 1) := by decide +kernel
theorem dX0_copyOf_60 : decode cX0_copyOf 60 = .ok (.aload_n 0, 1) := by decide +kernel
theorem dX0_copyOf_61 : decode cX0_copyOf 61 = .ok (.getfield 15, 3) := by decide +kernel
theorem dX0_copyOf_64 : decode cX0_copyOf 64 = .ok (.iconst 0, 1) := by decide +kernel
theorem dX0_copyOf_65 : decode cX0_copyOf 65 = .ok (.bipush 40, 2) := by decide +kernel
theorem dX0_copyOf_67 : decode cX0_copyOf 67 = .ok (.invokestatic 40, 3) := by decide +kernel
theorem dX0_copyOf_70 : decode cX0_copyOf 70 = .ok (.aload_n 1, 1) := by decide +kernel
theorem dX0_copyOf_71 : decode cX0_copyOf 71 = .ok (.getfield 19, 3) := by decide +kernel
theorem dX0_copyOf_74 : decode cX0_copyOf 74 = .ok (.iconst 0, 1) := by decide +kernel
theorem dX0_copyOf_75 : decode cX0_copyOf 75 = .ok (.aload_n 0, 1) := by decide +kernel
theorem dX0_copyOf_76 : decode cX0_copyOf 76 = .ok (.getfield 19, 3) := by decide +kernel
theorem dX0_copyOf_79 : decode cX0_copyOf 79 = .ok (.iconst 0, 1) := by decide +kernel
theorem dX0_copyOf_80 : decode cX0_copyOf 80 = .ok (.bipush 8, 2) := by decide +kernel
theorem dX0_copyOf_82 : decode cX0_copyOf 82 = .ok (.invokestatic 40, 3) := by decide +kernel
theorem dX0_copyOf_85 : decode cX0_copyOf 85 = .ok (.return_, 1) := by decide +kernel
theorem dX0_takePunch_0 : decode cX0_takePunch 0 = .ok (.aload_n 0, 1) := by decide +kernel
theorem dX0_takePunch_1 : decode cX0_takePunch 1 = .ok (.iload_n 1, 1) := by decide +kernel
theorem dX0_takePunch_2 : decode cX0_takePunch 2 = .ok (.putfield 22, 3) := by decide +kernel
theorem dX0_takePunch_5 : decode cX0_takePunch 5 = .ok (.aload_n 0, 1) := by decide +kernel
theorem dX0_takePunch_6 : decode cX0_takePunch 6 = .ok (.lconst 0, 1) := by decide +kernel
theorem dX0_takePunch_7 : decode cX0_takePunch 7 = .ok (.putfield 26, 3) := by decide +kernel
theorem dX0_takePunch_10 : decode cX0_takePunch 10 = .ok (.aload_n 0, 1) := by decide +kernel
theorem dX0_takePunch_11 : decode cX0_takePunch 11 = .ok (.iconst 0, 1) := by decide +kernel
theorem dX0_takePunch_12 : decode cX0_takePunch 12 = .ok (.putfield 30, 3) := by decide +kernel
theorem dX0_takePunch_15 : decode cX0_takePunch 15 = .ok (.return_, 1) := by decide +kernel
theorem dX0_take_0 : decode cX0_take 0 = .ok (.lload_n 1, 1) := by decide +kernel
theorem dX0_take_1 : decode cX0_take 1 = .ok (.aload_n 0, 1) := by decide +kernel
theorem dX0_take_2 : decode cX0_take 2 = .ok (.getfield 26, 3) := by decide +kernel
theorem dX0_take_5 : decode cX0_take 5 = .ok (.ldc2_w 46, 3) := by decide +kernel
theorem dX0_take_8 : decode cX0_take 8 = .ok (.lxor, 1) := by decide +kernel
theorem dX0_take_9 : decode cX0_take 9 = .ok (.land, 1) := by decide +kernel
theorem dX0_take_10 : decode cX0_take 10 = .ok (.invokestatic 48, 3) := by decide +kernel
theorem dX0_take_13 : decode cX0_take 13 = .ok (.istore_n 3, 1) := by decide +kernel
theorem dX0_take_14 : decode cX0_take 14 = .ok (.aload_n 0, 1) := by decide +kernel
theorem dX0_take_15 : decode cX0_take 15 = .ok (.dup, 1) := by decide +kernel
theorem dX0_take_16 : decode cX0_take 16 = .ok (.getfield 26, 3) := by decide +kernel
theorem dX0_take_19 : decode cX0_take 19 = .ok (.lload_n 1, 1) := by decide +kernel
theorem dX0_take_20 : decode cX0_take 20 = .ok (.lor, 1) := by decide +kernel
theorem dX0_take_21 : decode cX0_take 21 = .ok (.putfield 26, 3) := by decide +kernel
theorem dX0_take_24 : decode cX0_take 24 = .ok (.iload_n 3, 1) := by decide +kernel
theorem dX0_take_25 : decode cX0_take 25 = .ok (.ireturn, 1) := by decide +kernel
theorem dX0_strike_0 : decode cX0_strike 0 = .ok (.aload_n 0, 1) := by decide +kernel
theorem dX0_strike_1 : decode cX0_strike 1 = .ok (.aload_n 0, 1) := by decide +kernel
theorem dX0_strike_2 : decode cX0_strike 2 = .ok (.getfield 30, 3) := by decide +kernel
theorem dX0_strike_5 : decode cX0_strike 5 = .ok (.ifCond .ne 14, 3) := by decide +kernel
theorem dX0_strike_8 : decode cX0_strike 8 = .ok (.aload_n 0, 1) := by decide +kernel
theorem dX0_strike_9 : decode cX0_strike 9 = .ok (.getfield 26, 3) := by decide +kernel
theorem dX0_strike_12 : decode cX0_strike 12 = .ok (.lload_n 1, 1) := by decide +kernel
theorem dX0_strike_13 : decode cX0_strike 13 = .ok (.invokestatic 54, 3) := by decide +kernel
theorem dX0_strike_16 : decode cX0_strike 16 = .ok (.ifCond .eq 7, 3) := by decide +kernel
theorem dX0_strike_19 : decode cX0_strike 19 = .ok (.iconst 1, 1) := by decide +kernel
theorem dX0_strike_20 : decode cX0_strike 20 = .ok (.goto 4, 3) := by decide +kernel
theorem dX0_strike_23 : decode cX0_strike 23 = .ok (.iconst 0, 1) := by decide +kernel
theorem dX0_strike_24 : decode cX0_strike 24 = .ok (.putfield 30, 3) := by decide +kernel
theorem dX0_strike_27 : decode cX0_strike 27 = .ok (.aload_n 0, 1) := by decide +kernel
theorem dX0_strike_28 : decode cX0_strike 28 = .ok (.aload_n 0, 1) := by decide +kernel
theorem dX0_strike_29 : decode cX0_strike 29 = .ok (.getfield 26, 3) := by decide +kernel
theorem dX0_strike_32 : decode cX0_strike 32 = .ok (.lload_n 1, 1) := by decide +kernel
theorem dX0_strike_33 : decode cX0_strike 33 = .ok (.invokestatic 58, 3) := by decide +kernel
theorem dX0_strike_36 : decode cX0_strike 36 = .ok (.invokevirtual 62, 3) := by decide +kernel
theorem dX0_strike_39 : decode cX0_strike 39 = .ok (.ireturn, 1) := by decide +kernel
theorem dX0_bursts_0 : decode cX0_bursts 0 = .ok (.lload_n 2, 1) := by decide +kernel
theorem dX0_bursts_1 : decode cX0_bursts 1 = .ok (.invokestatic 65, 3) := by decide +kernel
theorem dX0_bursts_4 : decode cX0_bursts 4 = .ok (.lload_n 0, 1) := by decide +kernel
theorem dX0_bursts_5 : decode cX0_bursts 5 = .ok (.land, 1) := by decide +kernel
theorem dX0_bursts_6 : decode cX0_bursts 6 = .ok (.lconst 0, 1) := by decide +kernel
theorem dX0_bursts_7 : decode cX0_bursts 7 = .ok (.lcmp, 1) := by decide +kernel
theorem dX0_bursts_8 : decode cX0_bursts 8 = .ok (.ifCond .eq 7, 3) := by decide +kernel
theorem dX0_bursts_11 : decode cX0_bursts 11 = .ok (.iconst 1, 1) := by decide +kernel
theorem dX0_bursts_12 : decode cX0_bursts 12 = .ok (.goto 4, 3) := by decide +kernel
theorem dX0_bursts_15 : decode cX0_bursts 15 = .ok (.iconst 0, 1) := by decide +kernel
theorem dX0_bursts_16 : decode cX0_bursts 16 = .ok (.ireturn, 1) := by decide +kernel
theorem dX0_struckBy_0 : decode cX0_struckBy 0 = .ok (.lload_n 0, 1) := by decide +kernel
theorem dX0_struckBy_1 : decode cX0_struckBy 1 = .ok (.lload_n 2, 1) := by decide +kernel
theorem dX0_struckBy_2 : decode cX0_struckBy 2 = .ok (.invokestatic 54, 3) := by decide +kernel
theorem dX0_struckBy_5 : decode cX0_struckBy 5 = .ok (.ifCond .eq 12, 3) := by decide +kernel
theorem dX0_struckBy_8 : decode cX0_struckBy 8 = .ok (.lload_n 2, 1) := by decide +kernel
theorem dX0_struckBy_9 : decode cX0_struckBy 9 = .ok (.lload_n 2, 1) := by decide +kernel
theorem dX0_struckBy_10 : decode cX0_struckBy 10 = .ok (.invokestatic 65, 3) := by decide +kernel
theorem dX0_struckBy_13 : decode cX0_struckBy 13 = .ok (.lor, 1) := by decide +kernel
theorem dX0_struckBy_14 : decode cX0_struckBy 14 = .ok (.goto 4, 3) := by decide +kernel
theorem dX0_struckBy_17 : decode cX0_struckBy 17 = .ok (.lload_n 2, 1) := by decide +kernel
theorem dX0_struckBy_18 : decode cX0_struckBy 18 = .ok (.lreturn, 1) := by decide +kernel
theorem dX0_addAct_0 : decode cX0_addAct 0 = .ok (.aload_n 0, 1) := by decide +kernel
theorem dX0_addAct_1 : decode cX0_addAct 1 = .ok (.getfield 34, 3) := by decide +kernel
theorem dX0_addAct_4 : decode cX0_addAct 4 = .ok (.ifCond .lt 12, 3) := by decide +kernel
theorem dX0_addAct_7 : decode cX0_addAct 7 = .ok (.aload_n 0, 1) := by decide +kernel
theorem dX0_addAct_8 : decode cX0_addAct 8 = .ok (.getfield 34, 3) := by decide +kernel
theorem dX0_addAct_11 : decode cX0_addAct 11 = .ok (.bipush 40, 2) := by decide +kernel
theorem dX0_addAct_13 : decode cX0_addAct 13 = .ok (.if_icmp .lt 5, 3) := by decide +kernel
theorem dX0_addAct_16 : decode cX0_addAct 16 = .ok (.iconst (-1), 1) := by decide +kernel
theorem dX0_addAct_17 : decode cX0_addAct 17 = .ok (.ireturn, 1) := by decide +kernel
theorem dX0_addAct_18 : decode cX0_addAct 18 = .ok (.aload_n 0, 1) := by decide +kernel
theorem dX0_addAct_19 : decode cX0_addAct 19 = .ok (.getfield 9, 3) := by decide +kernel
theorem dX0_addAct_22 : decode cX0_addAct 22 = .ok (.aload_n 0, 1) := by decide +kernel
theorem dX0_addAct_23 : decode cX0_addAct 23 = .ok (.getfield 34, 3) := by decide +kernel
theorem dX0_addAct_26 : decode cX0_addAct 26 = .ok (.iload_n 1, 1) := by decide +kernel
theorem dX0_addAct_27 : decode cX0_addAct 27 = .ok (.iastore, 1) := by decide +kernel
theorem dX0_addAct_28 : decode cX0_addAct 28 = .ok (.aload_n 0, 1) := by decide +kernel
theorem dX0_addAct_29 : decode cX0_addAct 29 = .ok (.getfield 15, 3) := by decide +kernel
theorem dX0_addAct_32 : decode cX0_addAct 32 = .ok (.aload_n 0, 1) := by decide +kernel
theorem dX0_addAct_33 : decode cX0_addAct 33 = .ok (.getfield 34, 3) := by decide +kernel
theorem dX0_addAct_36 : decode cX0_addAct 36 = .ok (.lload_n 2, 1) := by decide +kernel
theorem dX0_addAct_37 : decode cX0_addAct 37 = .ok (.lastore, 1) := by decide +kernel
theorem dX0_addAct_38 : decode cX0_addAct 38 = .ok (.aload_n 0, 1) := by decide +kernel
theorem dX0_addAct_39 : decode cX0_addAct 39 = .ok (.dup, 1) := by decide +kernel
theorem dX0_addAct_40 : decode cX0_addAct 40 = .ok (.getfield 34, 3) := by decide +kernel
theorem dX0_addAct_43 : decode cX0_addAct 43 = .ok (.iconst 1, 1) := by decide +kernel
theorem dX0_addAct_44 : decode cX0_addAct 44 = .ok (.iadd, 1) := by decide +kernel
theorem dX0_addAct_45 : decode cX0_addAct 45 = .ok (.putfield 34, 3) := by decide +kernel
theorem dX0_addAct_48 : decode cX0_addAct 48 = .ok (.aload_n 0, 1) := by decide +kernel
theorem dX0_addAct_49 : decode cX0_addAct 49 = .ok (.getfield 34, 3) := by decide +kernel
theorem dX0_addAct_52 : decode cX0_addAct 52 = .ok (.ireturn, 1) := by decide +kernel
theorem dX0_goneBehindAct_0 : decode cX0_goneBehindAct 0 = .ok (.aload_n 0, 1) := by decide +kernel
theorem dX0_goneBehindAct_1 : decode cX0_goneBehindAct 1 = .ok (.getfield 9, 3) := by decide +kernel
theorem dX0_goneBehindAct_4 : decode cX0_goneBehindAct 4 = .ok (.iload_n 3, 1) := by decide +kernel
theorem dX0_goneBehindAct_5 : decode cX0_goneBehindAct 5 = .ok (.iaload, 1) := by decide +kernel
theorem dX0_goneBehindAct_6 : decode cX0_goneBehindAct 6 = .ok (.istore 6, 2) := by decide +kernel
theorem dX0_goneBehindAct_8 : decode cX0_goneBehindAct 8 = .ok (.iload 6, 2) := by decide +kernel
theorem dX0_goneBehindAct_10 : decode cX0_goneBehindAct 10 = .ok (.ifCond .lt 12, 3) := by decide +kernel
theorem dX0_goneBehindAct_13 : decode cX0_goneBehindAct 13 = .ok (.iload 6, 2) := by decide +kernel
theorem dX0_goneBehindAct_15 : decode cX0_goneBehindAct 15 = .ok (.aload_n 1, 1) := by decide +kernel
theorem dX0_goneBehindAct_16 : decode cX0_goneBehindAct 16 = .ok (.getfield 71, 3) := by decide +kernel
theorem dX0_goneBehindAct_19 : decode cX0_goneBehindAct 19 = .ok (.if_icmp .lt 13, 3) := by decide +kernel
theorem dX0_goneBehindAct_22 : decode cX0_goneBehindAct 22 = .ok (.lload 4, 2) := by decide +kernel
theorem dX0_goneBehindAct_24 : decode cX0_goneBehindAct 24 = .ok (.aload_n 0, 1) := by decide +kernel
theorem dX0_goneBehindAct_25 : decode cX0_goneBehindAct 25 = .ok (.getfield 15, 3) := by decide +kernel
theorem dX0_goneBehindAct_28 : decode cX0_goneBehindAct 28 = .ok (.iload_n 3, 1) := by decide +kernel
theorem dX0_goneBehindAct_29 : decode cX0_goneBehindAct 29 = .ok (.laload, 1) := by decide +kernel
theorem dX0_goneBehindAct_30 : decode cX0_goneBehindAct 30 = .ok (.lor, 1) := by decide +kernel
theorem dX0_goneBehindAct_31 : decode cX0_goneBehindAct 31 = .ok (.lreturn, 1) := by decide +kernel
theorem dX0_goneBehindAct_32 : decode cX0_goneBehindAct 32 = .ok (.aload_n 1, 1) := by decide +kernel
theorem dX0_goneBehindAct_33 : decode cX0_goneBehindAct 33 = .ok (.getfield 76, 3) := by decide +kernel
theorem dX0_goneBehindAct_36 : decode cX0_goneBehindAct 36 = .ok (.iload 6, 2) := by decide +kernel
theorem dX0_goneBehindAct_38 : decode cX0_goneBehindAct 38 = .ok (.iaload, 1) := by decide +kernel
theorem dX0_goneBehindAct_39 : decode cX0_goneBehindAct 39 = .ok (.iload_n 2, 1) := by decide +kernel
theorem dX0_goneBehindAct_40 : decode cX0_goneBehindAct 40 = .ok (.if_icmp .ne 7, 3) := by decide +kernel
theorem dX0_goneBehindAct_43 : decode cX0_goneBehindAct 43 = .ok (.iconst 1, 1) := by decide +kernel
theorem dX0_goneBehindAct_44 : decode cX0_goneBehindAct 44 = .ok (.goto 4, 3) := by decide +kernel
theorem dX0_goneBehindAct_47 : decode cX0_goneBehindAct 47 = .ok (.iconst 0, 1) := by decide +kernel
theorem dX0_goneBehindAct_48 : decode cX0_goneBehindAct 48 = .ok (.istore 7, 2) := by decide +kernel
theorem dX0_goneBehindAct_50 : decode cX0_goneBehindAct 50 = .ok (.iload 7, 2) := by decide +kernel
theorem dX0_goneBehindAct_52 : decode cX0_goneBehindAct 52 = .ok (.ifCond .eq 21, 3) := by decide +kernel
theorem dX0_goneBehindAct_55 : decode cX0_goneBehindAct 55 = .ok (.lload 4, 2) := by decide +kernel
theorem dX0_goneBehindAct_57 : decode cX0_goneBehindAct 57 = .ok (.lload 4, 2) := by decide +kernel
theorem dX0_goneBehindAct_59 : decode cX0_goneBehindAct 59 = .ok (.aload_n 1, 1) := by decide +kernel
theorem dX0_goneBehindAct_60 : decode cX0_goneBehindAct 60 = .ok (.getfield 79, 3) := by decide +kernel
theorem dX0_goneBehindAct_63 : decode cX0_goneBehindAct 63 = .ok (.iload 6, 2) := by decide +kernel
theorem dX0_goneBehindAct_65 : decode cX0_goneBehindAct 65 = .ok (.laload, 1) := by decide +kernel
theorem dX0_goneBehindAct_66 : decode cX0_goneBehindAct 66 = .ok (.invokestatic 58, 3) := by decide +kernel
theorem dX0_goneBehindAct_69 : decode cX0_goneBehindAct 69 = .ok (.lor, 1) := by decide +kernel
theorem dX0_goneBehindAct_70 : decode cX0_goneBehindAct 70 = .ok (.goto 5, 3) := by decide +kernel
theorem dX0_goneBehindAct_73 : decode cX0_goneBehindAct 73 = .ok (.lload 4, 2) := by decide +kernel
theorem dX0_goneBehindAct_75 : decode cX0_goneBehindAct 75 = .ok (.lreturn, 1) := by decide +kernel
theorem dX0_goneBehind_0 : decode cX0_goneBehind 0 = .ok (.lconst 0, 1) := by decide +kernel
theorem dX0_goneBehind_1 : decode cX0_goneBehind 1 = .ok (.lstore 4, 2) := by decide +kernel
theorem dX0_goneBehind_3 : decode cX0_goneBehind 3 = .ok (.iconst 0, 1) := by decide +kernel
theorem dX0_goneBehind_4 : decode cX0_goneBehind 4 = .ok (.istore 6, 2) := by decide +kernel
theorem dX0_goneBehind_6 : decode cX0_goneBehind 6 = .ok (.iload 6, 2) := by decide +kernel
theorem dX0_goneBehind_8 : decode cX0_goneBehind 8 = .ok (.iload_n 3, 1) := by decide +kernel
theorem dX0_goneBehind_9 : decode cX0_goneBehind 9 = .ok (.if_icmp .ge 28, 3) := by decide +kernel
theorem dX0_goneBehind_12 : decode cX0_goneBehind 12 = .ok (.iload 6, 2) := by decide +kernel
theorem dX0_goneBehind_14 : decode cX0_goneBehind 14 = .ok (.bipush 40, 2) := by decide +kernel
theorem dX0_goneBehind_16 : decode cX0_goneBehind 16 = .ok (.if_icmp .ge 21, 3) := by decide +kernel
theorem dX0_goneBehind_19 : decode cX0_goneBehind 19 = .ok (.aload_n 0, 1) := by decide +kernel
theorem dX0_goneBehind_20 : decode cX0_goneBehind 20 = .ok (.aload_n 1, 1) := by decide +kernel
theorem dX0_goneBehind_21 : decode cX0_goneBehind 21 = .ok (.iload_n 2, 1) := by decide +kernel
theorem dX0_goneBehind_22 : decode cX0_goneBehind 22 = .ok (.iload 6, 2) := by decide +kernel
theorem dX0_goneBehind_24 : decode cX0_goneBehind 24 = .ok (.lload 4, 2) := by decide +kernel
theorem dX0_goneBehind_26 : decode cX0_goneBehind 26 = .ok (.invokevirtual 82, 3) := by decide +kernel
theorem dX0_goneBehind_29 : decode cX0_goneBehind 29 = .ok (.lstore 4, 2) := by decide +kernel
theorem dX0_goneBehind_31 : decode cX0_goneBehind 31 = .ok (.iinc 6 1, 3) := by decide +kernel
theorem dX0_goneBehind_34 : decode cX0_goneBehind 34 = .ok (.goto (-28), 3) := by decide +kernel
theorem dX0_goneBehind_37 : decode cX0_goneBehind 37 = .ok (.lload 4, 2) := by decide +kernel
theorem dX0_goneBehind_39 : decode cX0_goneBehind 39 = .ok (.lreturn, 1) := by decide +kernel
theorem dX0_firstSpoiling_0 : decode cX0_firstSpoiling 0 = .ok (.lconst 0, 1) := by decide +kernel
theorem dX0_firstSpoiling_1 : decode cX0_firstSpoiling 1 = .ok (.lstore_n 3, 1) := by decide +kernel
theorem dX0_firstSpoiling_2 : decode cX0_firstSpoiling 2 = .ok (.iconst 0, 1) := by decide +kernel
theorem dX0_firstSpoiling_3 : decode cX0_firstSpoiling 3 = .ok (.istore 5, 2) := by decide +kernel
theorem dX0_firstSpoiling_5 : decode cX0_firstSpoiling 5 = .ok (.iload 5, 2) := by decide +kernel
theorem dX0_firstSpoiling_7 : decode cX0_firstSpoiling 7 = .ok (.aload_n 0, 1) := by decide +kernel
theorem dX0_firstSpoiling_8 : decode cX0_firstSpoiling 8 = .ok (.getfield 34, 3) := by decide +kernel
theorem dX0_firstSpoiling_11 : decode cX0_firstSpoiling 11 = .ok (.if_icmp .ge 41, 3) := by decide +kernel
theorem dX0_firstSpoiling_14 : decode cX0_firstSpoiling 14 = .ok (.iload 5, 2) := by decide +kernel
theorem dX0_firstSpoiling_16 : decode cX0_firstSpoiling 16 = .ok (.bipush 40, 2) := by decide +kernel
theorem dX0_firstSpoiling_18 : decode cX0_firstSpoiling 18 = .ok (.if_icmp .ge 34, 3) := by decide +kernel
theorem dX0_firstSpoiling_21 : decode cX0_firstSpoiling 21 = .ok (.aload_n 0, 1) := by decide +kernel
theorem dX0_firstSpoiling_22 : decode cX0_firstSpoiling 22 = .ok (.aload_n 1, 1) := by decide +kernel
theorem dX0_firstSpoiling_23 : decode cX0_firstSpoiling 23 = .ok (.iload_n 2, 1) := by decide +kernel
theorem dX0_firstSpoiling_24 : decode cX0_firstSpoiling 24 = .ok (.iload 5, 2) := by decide +kernel
theorem dX0_firstSpoiling_26 : decode cX0_firstSpoiling 26 = .ok (.lload_n 3, 1) := by decide +kernel
theorem dX0_firstSpoiling_27 : decode cX0_firstSpoiling 27 = .ok (.invokevirtual 82, 3) := by decide +kernel
theorem dX0_firstSpoiling_30 : decode cX0_firstSpoiling 30 = .ok (.lstore_n 3, 1) := by decide +kernel
theorem dX0_firstSpoiling_31 : decode cX0_firstSpoiling 31 = .ok (.lload_n 3, 1) := by decide +kernel
theorem dX0_firstSpoiling_32 : decode cX0_firstSpoiling 32 = .ok (.aload_n 1, 1) := by decide +kernel
theorem dX0_firstSpoiling_33 : decode cX0_firstSpoiling 33 = .ok (.iload_n 2, 1) := by decide +kernel
theorem dX0_firstSpoiling_34 : decode cX0_firstSpoiling 34 = .ok (.invokevirtual 86, 3) := by decide +kernel
theorem dX0_firstSpoiling_37 : decode cX0_firstSpoiling 37 = .ok (.land, 1) := by decide +kernel
theorem dX0_firstSpoiling_38 : decode cX0_firstSpoiling 38 = .ok (.lconst 0, 1) := by decide +kernel
theorem dX0_firstSpoiling_39 : decode cX0_firstSpoiling 39 = .ok (.lcmp, 1) := by decide +kernel
theorem dX0_firstSpoiling_40 : decode cX0_firstSpoiling 40 = .ok (.ifCond .eq 6, 3) := by decide +kernel
theorem dX0_firstSpoiling_43 : decode cX0_firstSpoiling 43 = .ok (.iload 5, 2) := by decide +kernel
theorem dX0_firstSpoiling_45 : decode cX0_firstSpoiling 45 = .ok (.ireturn, 1) := by decide +kernel
theorem dX0_firstSpoiling_46 : decode cX0_firstSpoiling 46 = .ok (.iinc 5 1, 3) := by decide +kernel
theorem dX0_firstSpoiling_49 : decode cX0_firstSpoiling 49 = .ok (.goto (-44), 3) := by decide +kernel
theorem dX0_firstSpoiling_52 : decode cX0_firstSpoiling 52 = .ok (.iconst (-1), 1) := by decide +kernel
theorem dX0_firstSpoiling_53 : decode cX0_firstSpoiling 53 = .ok (.ireturn, 1) := by decide +kernel
theorem dX0_addPrint_0 : decode cX0_addPrint 0 = .ok (.aload_n 0, 1) := by decide +kernel
theorem dX0_addPrint_1 : decode cX0_addPrint 1 = .ok (.getfield 37, 3) := by decide +kernel
theorem dX0_addPrint_4 : decode cX0_addPrint 4 = .ok (.ifCond .lt 12, 3) := by decide +kernel
theorem dX0_addPrint_7 : decode cX0_addPrint 7 = .ok (.aload_n 0, 1) := by decide +kernel
theorem dX0_addPrint_8 : decode cX0_addPrint 8 = .ok (.getfield 37, 3) := by decide +kernel
theorem dX0_addPrint_11 : decode cX0_addPrint 11 = .ok (.bipush 8, 2) := by decide +kernel
theorem dX0_addPrint_13 : decode cX0_addPrint 13 = .ok (.if_icmp .lt 5, 3) := by decide +kernel
theorem dX0_addPrint_16 : decode cX0_addPrint 16 = .ok (.iconst (-1), 1) := by decide +kernel
theorem dX0_addPrint_17 : decode cX0_addPrint 17 = .ok (.ireturn, 1) := by decide +kernel
theorem dX0_addPrint_18 : decode cX0_addPrint 18 = .ok (.aload_n 0, 1) := by decide +kernel
theorem dX0_addPrint_19 : decode cX0_addPrint 19 = .ok (.getfield 19, 3) := by decide +kernel
theorem dX0_addPrint_22 : decode cX0_addPrint 22 = .ok (.aload_n 0, 1) := by decide +kernel
theorem dX0_addPrint_23 : decode cX0_addPrint 23 = .ok (.getfield 37, 3) := by decide +kernel
theorem dX0_addPrint_26 : decode cX0_addPrint 26 = .ok (.lload_n 1, 1) := by decide +kernel
theorem dX0_addPrint_27 : decode cX0_addPrint 27 = .ok (.lastore, 1) := by decide +kernel
theorem dX0_addPrint_28 : decode cX0_addPrint 28 = .ok (.aload_n 0, 1) := by decide +kernel
theorem dX0_addPrint_29 : decode cX0_addPrint 29 = .ok (.dup, 1) := by decide +kernel
theorem dX0_addPrint_30 : decode cX0_addPrint 30 = .ok (.getfield 37, 3) := by decide +kernel
theorem dX0_addPrint_33 : decode cX0_addPrint 33 = .ok (.iconst 1, 1) := by decide +kernel
theorem dX0_addPrint_34 : decode cX0_addPrint 34 = .ok (.iadd, 1) := by decide +kernel
theorem dX0_addPrint_35 : decode cX0_addPrint 35 = .ok (.putfield 37, 3) := by decide +kernel
theorem dX0_addPrint_38 : decode cX0_addPrint 38 = .ok (.aload_n 0, 1) := by decide +kernel
theorem dX0_addPrint_39 : decode cX0_addPrint 39 = .ok (.getfield 37, 3) := by decide +kernel
theorem dX0_addPrint_42 : decode cX0_addPrint 42 = .ok (.ireturn, 1) := by decide +kernel
theorem dX0_isLeft_0 : decode cX0_isLeft 0 = .ok (.aload_n 1, 1) := by decide +kernel
theorem dX0_isLeft_1 : decode cX0_isLeft 1 = .ok (.getfield 76, 3) := by decide +kernel
theorem dX0_isLeft_4 : decode cX0_isLeft 4 = .ok (.iload_n 2, 1) := by decide +kernel
theorem dX0_isLeft_5 : decode cX0_isLeft 5 = .ok (.iaload, 1) := by decide +kernel
theorem dX0_isLeft_6 : decode cX0_isLeft 6 = .ok (.aload_n 0, 1) := by decide +kernel
theorem dX0_isLeft_7 : decode cX0_isLeft 7 = .ok (.getfield 22, 3) := by decide +kernel
theorem dX0_isLeft_10 : decode cX0_isLeft 10 = .ok (.if_icmp .ne 27, 3) := by decide +kernel
theorem dX0_isLeft_13 : decode cX0_isLeft 13 = .ok (.aload_n 1, 1) := by decide +kernel
theorem dX0_isLeft_14 : decode cX0_isLeft 14 = .ok (.getfield 79, 3) := by decide +kernel
theorem dX0_isLeft_17 : decode cX0_isLeft 17 = .ok (.iload_n 2, 1) := by decide +kernel
theorem dX0_isLeft_18 : decode cX0_isLeft 18 = .ok (.laload, 1) := by decide +kernel
theorem dX0_isLeft_19 : decode cX0_isLeft 19 = .ok (.aload_n 0, 1) := by decide +kernel
theorem dX0_isLeft_20 : decode cX0_isLeft 20 = .ok (.getfield 26, 3) := by decide +kernel
theorem dX0_isLeft_23 : decode cX0_isLeft 23 = .ok (.ldc2_w 46, 3) := by decide +kernel
theorem dX0_isLeft_26 : decode cX0_isLeft 26 = .ok (.lxor, 1) := by decide +kernel
theorem dX0_isLeft_27 : decode cX0_isLeft 27 = .ok (.land, 1) := by decide +kernel
theorem dX0_isLeft_28 : decode cX0_isLeft 28 = .ok (.lconst 0, 1) := by decide +kernel
theorem dX0_isLeft_29 : decode cX0_isLeft 29 = .ok (.lcmp, 1) := by decide +kernel
theorem dX0_isLeft_30 : decode cX0_isLeft 30 = .ok (.ifCond .eq 7, 3) := by decide +kernel
theorem dX0_isLeft_33 : decode cX0_isLeft 33 = .ok (.iconst 1, 1) := by decide +kernel
theorem dX0_isLeft_34 : decode cX0_isLeft 34 = .ok (.goto 4, 3) := by decide +kernel
theorem dX0_isLeft_37 : decode cX0_isLeft 37 = .ok (.iconst 0, 1) := by decide +kernel
theorem dX0_isLeft_38 : decode cX0_isLeft 38 = .ok (.ireturn, 1) := by decide +kernel
theorem dX0_canBeDone_0 : decode cX0_canBeDone 0 = .ok (.aload_n 0, 1) := by decide +kernel
theorem dX0_canBeDone_1 : decode cX0_canBeDone 1 = .ok (.getfield 26, 3) := by decide +kernel
theorem dX0_canBeDone_4 : decode cX0_canBeDone 4 = .ok (.aload_n 1, 1) := by decide +kernel
theorem dX0_canBeDone_5 : decode cX0_canBeDone 5 = .ok (.aload_n 0, 1) := by decide +kernel
theorem dX0_canBeDone_6 : decode cX0_canBeDone 6 = .ok (.getfield 22, 3) := by decide +kernel
theorem dX0_canBeDone_9 : decode cX0_canBeDone 9 = .ok (.invokevirtual 86, 3) := by decide +kernel
theorem dX0_canBeDone_12 : decode cX0_canBeDone 12 = .ok (.land, 1) := by decide +kernel
theorem dX0_canBeDone_13 : decode cX0_canBeDone 13 = .ok (.lconst 0, 1) := by decide +kernel
theorem dX0_canBeDone_14 : decode cX0_canBeDone 14 = .ok (.lcmp, 1) := by decide +kernel
theorem dX0_canBeDone_15 : decode cX0_canBeDone 15 = .ok (.ifCond .eq 5, 3) := by decide +kernel
theorem dX0_canBeDone_18 : decode cX0_canBeDone 18 = .ok (.iconst 0, 1) := by decide +kernel
theorem dX0_canBeDone_19 : decode cX0_canBeDone 19 = .ok (.ireturn, 1) := by decide +kernel
theorem dX0_canBeDone_20 : decode cX0_canBeDone 20 = .ok (.iconst 0, 1) := by decide +kernel
theorem dX0_canBeDone_21 : decode cX0_canBeDone 21 = .ok (.istore_n 2, 1) := by decide +kernel
theorem dX0_canBeDone_22 : decode cX0_canBeDone 22 = .ok (.iload_n 2, 1) := by decide +kernel
theorem dX0_canBeDone_23 : decode cX0_canBeDone 23 = .ok (.aload_n 1, 1) := by decide +kernel
theorem dX0_canBeDone_24 : decode cX0_canBeDone 24 = .ok (.getfield 71, 3) := by decide +kernel
theorem dX0_canBeDone_27 : decode cX0_canBeDone 27 = .ok (.if_icmp .ge 36, 3) := by decide +kernel
theorem dX0_canBeDone_30 : decode cX0_canBeDone 30 = .ok (.aload_n 0, 1) := by decide +kernel
theorem dX0_canBeDone_31 : decode cX0_canBeDone 31 = .ok (.aload_n 1, 1) := by decide +kernel
theorem dX0_canBeDone_32 : decode cX0_canBeDone 32 = .ok (.iload_n 2, 1) := by decide +kernel
theorem dX0_canBeDone_33 : decode cX0_canBeDone 33 = .ok (.invokevirtual 90, 3) := by decide +kernel
theorem dX0_canBeDone_36 : decode cX0_canBeDone 36 = .ok (.ifCond .eq 21, 3) := by decide +kernel
theorem dX0_canBeDone_39 : decode cX0_canBeDone 39 = .ok (.aload_n 0, 1) := by decide +kernel
theorem dX0_canBeDone_40 : decode cX0_canBeDone 40 = .ok (.getfield 26, 3) := by decide +kernel
theorem dX0_canBeDone_43 : decode cX0_canBeDone 43 = .ok (.aload_n 1, 1) := by decide +kernel
theorem dX0_canBeDone_44 : decode cX0_canBeDone 44 = .ok (.getfield 79, 3) := by decide +kernel
theorem dX0_canBeDone_47 : decode cX0_canBeDone 47 = .ok (.iload_n 2, 1) := by decide +kernel
theorem dX0_canBeDone_48 : decode cX0_canBeDone 48 = .ok (.laload, 1) := by decide +kernel
theorem dX0_canBeDone_49 : decode cX0_canBeDone 49 = .ok (.invokestatic 54, 3) := by decide +kernel
theorem dX0_canBeDone_52 : decode cX0_canBeDone 52 = .ok (.ifCond .eq 5, 3) := by decide +kernel
theorem dX0_canBeDone_55 : decode cX0_canBeDone 55 = .ok (.iconst 0, 1) := by decide +kernel
theorem dX0_canBeDone_56 : decode cX0_canBeDone 56 = .ok (.ireturn, 1) := by decide +kernel
theorem dX0_canBeDone_57 : decode cX0_canBeDone 57 = .ok (.iinc 2 1, 3) := by decide +kernel
theorem dX0_canBeDone_60 : decode cX0_canBeDone 60 = .ok (.goto (-38), 3) := by decide +kernel
theorem dX0_canBeDone_63 : decode cX0_canBeDone 63 = .ok (.iconst 1, 1) := by decide +kernel
theorem dX0_canBeDone_64 : decode cX0_canBeDone 64 = .ok (.ireturn, 1) := by decide +kernel
theorem dX0_hollowsLeft_0 : decode cX0_hollowsLeft 0 = .ok (.iconst 0, 1) := by decide +kernel
theorem dX0_hollowsLeft_1 : decode cX0_hollowsLeft 1 = .ok (.istore_n 2, 1) := by decide +kernel
theorem dX0_hollowsLeft_2 : decode cX0_hollowsLeft 2 = .ok (.iconst 0, 1) := by decide +kernel
theorem dX0_hollowsLeft_3 : decode cX0_hollowsLeft 3 = .ok (.istore_n 3, 1) := by decide +kernel
theorem dX0_hollowsLeft_4 : decode cX0_hollowsLeft 4 = .ok (.iload_n 3, 1) := by decide +kernel
theorem dX0_hollowsLeft_5 : decode cX0_hollowsLeft 5 = .ok (.aload_n 1, 1) := by decide +kernel
theorem dX0_hollowsLeft_6 : decode cX0_hollowsLeft 6 = .ok (.getfield 71, 3) := by decide +kernel
theorem dX0_hollowsLeft_9 : decode cX0_hollowsLeft 9 = .ok (.if_icmp .ge 21, 3) := by decide +kernel
theorem dX0_hollowsLeft_12 : decode cX0_hollowsLeft 12 = .ok (.aload_n 0, 1) := by decide +kernel
theorem dX0_hollowsLeft_13 : decode cX0_hollowsLeft 13 = .ok (.aload_n 1, 1) := by decide +kernel
theorem dX0_hollowsLeft_14 : decode cX0_hollowsLeft 14 = .ok (.iload_n 3, 1) := by decide +kernel
theorem dX0_hollowsLeft_15 : decode cX0_hollowsLeft 15 = .ok (.invokevirtual 90, 3) := by decide +kernel
theorem dX0_hollowsLeft_18 : decode cX0_hollowsLeft 18 = .ok (.ifCond .eq 6, 3) := by decide +kernel
theorem dX0_hollowsLeft_21 : decode cX0_hollowsLeft 21 = .ok (.iinc 2 1, 3) := by decide +kernel
theorem dX0_hollowsLeft_24 : decode cX0_hollowsLeft 24 = .ok (.iinc 3 1, 3) := by decide +kernel
theorem dX0_hollowsLeft_27 : decode cX0_hollowsLeft 27 = .ok (.goto (-23), 3) := by decide +kernel
theorem dX0_hollowsLeft_30 : decode cX0_hollowsLeft 30 = .ok (.iload_n 2, 1) := by decide +kernel
theorem dX0_hollowsLeft_31 : decode cX0_hollowsLeft 31 = .ok (.ireturn, 1) := by decide +kernel
theorem dX1_init_0 : decode cX1_init 0 = .ok (.aload_n 0, 1) := by decide +kernel
theorem dX1_init_1 : decode cX1_init 1 = .ok (.invokespecial 3, 3) := by decide +kernel
theorem dX1_init_4 : decode cX1_init 4 = .ok (.aload_n 0, 1) := by decide +kernel
theorem dX1_init_5 : decode cX1_init 5 = .ok (.sipush 128, 3) := by decide +kernel
theorem dX1_init_8 : decode cX1_init 8 = .ok (.newarray .long, 2) := by decide +kernel
theorem dX1_init_10 : decode cX1_init 10 = .ok (.putfield 9, 3) := by decide +kernel
theorem dX1_init_13 : decode cX1_init 13 = .ok (.aload_n 0, 1) := by decide +kernel
theorem dX1_init_14 : decode cX1_init 14 = .ok (.bipush 8, 2) := by decide +kernel
theorem dX1_init_16 : decode cX1_init 16 = .ok (.newarray .long, 2) := by decide +kernel
theorem dX1_init_18 : decode cX1_init 18 = .ok (.putfield 15, 3) := by decide +kernel
theorem dX1_init_21 : decode cX1_init 21 = .ok (.aload_n 0, 1) := by decide +kernel
theorem dX1_init_22 : decode cX1_init 22 = .ok (.bipush 16, 2) := by decide +kernel
theorem dX1_init_24 : decode cX1_init 24 = .ok (.newarray .int, 2) := by decide +kernel
theorem dX1_init_26 : decode cX1_init 26 = .ok (.putfield 18, 3) := by decide +kernel
theorem dX1_init_29 : decode cX1_init 29 = .ok (.aload_n 0, 1) := by decide +kernel
theorem dX1_init_30 : decode cX1_init 30 = .ok (.bipush 16, 2) := by decide +kernel
theorem dX1_init_32 : decode cX1_init 32 = .ok (.newarray .int, 2) := by decide +kernel
theorem dX1_init_34 : decode cX1_init 34 = .ok (.putfield 22, 3) := by decide +kernel
theorem dX1_init_37 : decode cX1_init 37 = .ok (.aload_n 0, 1) := by decide +kernel
theorem dX1_init_38 : decode cX1_init 38 = .ok (.sipush 130, 3) := by decide +kernel
theorem dX1_init_41 : decode cX1_init 41 = .ok (.newarray .int, 2) := by decide +kernel
theorem dX1_init_43 : decode cX1_init 43 = .ok (.putfield 25, 3) := by decide +kernel
theorem dX1_init_46 : decode cX1_init 46 = .ok (.return_, 1) := by decide +kernel
theorem dX1_lay_0 : decode cX1_lay 0 = .ok (.aload_n 0, 1) := by decide +kernel
theorem dX1_lay_1 : decode cX1_lay 1 = .ok (.aload_n 1, 1) := by decide +kernel
theorem dX1_lay_2 : decode cX1_lay 2 = .ok (.getfield 28, 3) := by decide +kernel
theorem dX1_lay_5 : decode cX1_lay 5 = .ok (.bipush 16, 2) := by decide +kernel
theorem dX1_lay_7 : decode cX1_lay 7 = .ok (.invokestatic 34, 3) := by decide +kernel
theorem dX1_lay_10 : decode cX1_lay 10 = .ok (.putfield 40, 3) := by decide +kernel
theorem dX1_lay_13 : decode cX1_lay 13 = .ok (.iconst 0, 1) := by decide +kernel
theorem dX1_lay_14 : decode cX1_lay 14 = .ok (.istore_n 2, 1) := by decide +kernel
theorem dX1_lay_15 : decode cX1_lay 15 = .ok (.iload_n 2, 1) := by decide +kernel
theorem dX1_lay_16 : decode cX1_lay 16 = .ok (.aload_n 0, 1) := by decide +kernel
theorem dX1_lay_17 : decode cX1_lay 17 = .ok (.getfield 40, 3) := by decide +kernel
theorem dX1_lay_20 : decode cX1_lay 20 = .ok (.if_icmp .ge 23, 3) := by decide +kernel
theorem dX1_lay_23 : decode cX1_lay 23 = .ok (.aload_n 1, 1) := by decide +kernel
theorem dX1_lay_24 : decode cX1_lay 24 = .ok (.getfield 41, 3) := by decide +kernel
theorem dX1_lay_27 : decode cX1_lay 27 = .ok (.iload_n 2, 1) := by decide +kernel
theorem dX1_lay_28 : decode cX1_lay 28 = .ok (.laload, 1) := by decide +kernel
theorem dX1_lay_29 : decode cX1_lay 29 = .ok (.aload_n 0, 1) := by decide +kernel
theorem dX1_lay_30 : decode cX1_lay 30 = .ok (.getfield 9, 3) := by decide +kernel
theorem dX1_lay_33 : decode cX1_lay 33 = .ok (.iload_n 2, 1) := by decide +kernel
theorem dX1_lay_34 : decode cX1_lay 34 = .ok (.invokestatic 44, 3) := by decide +kernel
theorem dX1_lay_37 : decode cX1_lay 37 = .ok (.iinc 2 1, 3) := by decide +kernel
theorem dX1_lay_40 : decode cX1_lay 40 = .ok (.goto (-25), 3) := by decide +kernel
theorem dX1_lay_43 : decode cX1_lay 43 = .ok (.aload_n 0, 1) := by decide +kernel
theorem dX1_lay_44 : decode cX1_lay 44 = .ok (.getfield 25, 3) := by decide +kernel
theorem dX1_lay_47 : decode cX1_lay 47 = .ok (.bipush (-2), 2) := by decide +kernel
theorem dX1_lay_49 : decode cX1_lay 49 = .ok (.invokestatic 50, 3) := by decide +kernel
theorem dX1_lay_52 : decode cX1_lay 52 = .ok (.return_, 1) := by decide +kernel
theorem dX1_apartOf_0 : decode cX1_apartOf 0 = .ok (.iload_n 2, 1) := by decide +kernel
theorem dX1_apartOf_1 : decode cX1_apartOf 1 = .ok (.ifCond .lt 11, 3) := by decide +kernel
theorem dX1_apartOf_4 : decode cX1_apartOf 4 = .ok (.iload_n 2, 1) := by decide +kernel
theorem dX1_apartOf_5 : decode cX1_apartOf 5 = .ok (.aload_n 0, 1) := by decide +kernel
theorem dX1_apartOf_6 : decode cX1_apartOf 6 = .ok (.getfield 40, 3) := by decide +kernel
theorem dX1_apartOf_9 : decode cX1_apartOf 9 = .ok (.if_icmp .lt 6, 3) := by decide +kernel
theorem dX1_apartOf_12 : decode cX1_apartOf 12 = .ok (.bipush 64, 2) := by decide +kernel
theorem dX1_apartOf_14 : decode cX1_apartOf 14 = .ok (.ireturn, 1) := by decide +kernel
theorem dX1_apartOf_15 : decode cX1_apartOf 15 = .ok (.aload_n 0, 1) := by decide +kernel
theorem dX1_apartOf_16 : decode cX1_apartOf 16 = .ok (.getfield 9, 3) := by decide +kernel
theorem dX1_apartOf_19 : decode cX1_apartOf 19 = .ok (.iload_n 1, 1) := by decide +kernel
theorem dX1_apartOf_20 : decode cX1_apartOf 20 = .ok (.aload_n 0, 1) := by decide +kernel
theorem dX1_apartOf_21 : decode cX1_apartOf 21 = .ok (.getfield 9, 3) := by decide +kernel
theorem dX1_apartOf_24 : decode cX1_apartOf 24 = .ok (.bipush 8, 2) := by decide +kernel
theorem dX1_apartOf_26 : decode cX1_apartOf 26 = .ok (.iload_n 2, 1) := by decide +kernel
theorem dX1_apartOf_27 : decode cX1_apartOf 27 = .ok (.imul, 1) := by decide +kernel
theorem dX1_apartOf_28 : decode cX1_apartOf 28 = .ok (.laload, 1) := by decide +kernel
theorem dX1_apartOf_29 : decode cX1_apartOf 29 = .ok (.iload_n 3, 1) := by decide +kernel
theorem dX1_apartOf_30 : decode cX1_apartOf 30 = .ok (.invokestatic 56, 3) := by decide +kernel
theorem dX1_apartOf_33 : decode cX1_apartOf 33 = .ok (.ireturn, 1) := by decide +kernel
theorem dX1_apartFrom_0 : decode cX1_apartFrom 0 = .ok (.aload_n 0, 1) := by decide +kernel
theorem dX1_apartFrom_1 : decode cX1_apartFrom 1 = .ok (.getfield 9, 3) := by decide +kernel
theorem dX1_apartFrom_4 : decode cX1_apartFrom 4 = .ok (.iload_n 1, 1) := by decide +kernel
theorem dX1_apartFrom_5 : decode cX1_apartFrom 5 = .ok (.lload_n 2, 1) := by decide +kernel
theorem dX1_apartFrom_6 : decode cX1_apartFrom 6 = .ok (.invokestatic 60, 3) := by decide +kernel
theorem dX1_apartFrom_9 : decode cX1_apartFrom 9 = .ok (.iload 4, 2) := by decide +kernel
theorem dX1_apartFrom_11 : decode cX1_apartFrom 11 = .ok (.invokestatic 56, 3) := by decide +kernel
theorem dX1_apartFrom_14 : decode cX1_apartFrom 14 = .ok (.ireturn, 1) := by decide +kernel
theorem dX1_nearestTo_0 : decode cX1_nearestTo 0 = .ok (.iconst (-1), 1) := by decide +kernel
theorem dX1_nearestTo_1 : decode cX1_nearestTo 1 = .ok (.istore 4, 2) := by decide +kernel
theorem dX1_nearestTo_3 : decode cX1_nearestTo 3 = .ok (.bipush 65, 2) := by decide +kernel
theorem dX1_nearestTo_5 : decode cX1_nearestTo 5 = .ok (.istore 5, 2) := by decide +kernel
theorem dX1_nearestTo_7 : decode cX1_nearestTo 7 = .ok (.iconst 0, 1) := by decide +kernel
theorem dX1_nearestTo_8 : decode cX1_nearestTo 8 = .ok (.istore 6, 2) := by decide +kernel
theorem dX1_nearestTo_10 : decode cX1_nearestTo 10 = .ok (.iload 6, 2) := by decide +kernel
theorem dX1_nearestTo_12 : decode cX1_nearestTo 12 = .ok (.aload_n 0, 1) := by decide +kernel
theorem dX1_nearestTo_13 : decode cX1_nearestTo 13 = .ok (.getfield 40, 3) := by decide +kernel
theorem dX1_nearestTo_16 : decode cX1_nearestTo 16 = .ok (.if_icmp .ge 34, 3) := by decide +kernel
theorem dX1_nearestTo_19 : decode cX1_nearestTo 19 = .ok (.aload_n 0, 1) := by decide +kernel
theorem dX1_nearestTo_20 : decode cX1_nearestTo 20 = .ok (.iload 6, 2) := by decide +kernel
theorem dX1_nearestTo_22 : decode cX1_nearestTo 22 = .ok (.lload_n 1, 1) := by decide +kernel
theorem dX1_nearestTo_23 : decode cX1_nearestTo 23 = .ok (.iload_n 3, 1) := by decide +kernel
theorem dX1_nearestTo_24 : decode cX1_nearestTo 24 = .ok (.invokevirtual 64, 3) := by decide +kernel
theorem dX1_nearestTo_27 : decode cX1_nearestTo 27 = .ok (.istore 7, 2) := by decide +kernel
theorem dX1_nearestTo_29 : decode cX1_nearestTo 29 = .ok (.iload 7, 2) := by decide +kernel
theorem dX1_nearestTo_31 : decode cX1_nearestTo 31 = .ok (.iload 5, 2) := by decide +kernel
theorem dX1_nearestTo_33 : decode cX1_nearestTo 33 = .ok (.if_icmp .ge 11, 3) := by decide +kernel
theorem dX1_nearestTo_36 : decode cX1_nearestTo 36 = .ok (.iload 7, 2) := by decide +kernel
theorem dX1_nearestTo_38 : decode cX1_nearestTo 38 = .ok (.istore 5, 2) := by decide +kernel
theorem dX1_nearestTo_40 : decode cX1_nearestTo 40 = .ok (.iload 6, 2) := by decide +kernel
theorem dX1_nearestTo_42 : decode cX1_nearestTo 42 = .ok (.istore 4, 2) := by decide +kernel
theorem dX1_nearestTo_44 : decode cX1_nearestTo 44 = .ok (.iinc 6 1, 3) := by decide +kernel
theorem dX1_nearestTo_47 : decode cX1_nearestTo 47 = .ok (.goto (-37), 3) := by decide +kernel
theorem dX1_nearestTo_50 : decode cX1_nearestTo 50 = .ok (.iload 4, 2) := by decide +kernel
theorem dX1_nearestTo_52 : decode cX1_nearestTo 52 = .ok (.ireturn, 1) := by decide +kernel
theorem dX1_leastSet_0 : decode cX1_leastSet 0 = .ok (.iconst 2, 1) := by decide +kernel
theorem dX1_leastSet_1 : decode cX1_leastSet 1 = .ok (.iload_n 1, 1) := by decide +kernel
theorem dX1_leastSet_2 : decode cX1_leastSet 2 = .ok (.imul, 1) := by decide +kernel
theorem dX1_leastSet_3 : decode cX1_leastSet 3 = .ok (.iload_n 2, 1) := by decide +kernel
theorem dX1_leastSet_4 : decode cX1_leastSet 4 = .ok (.ifCond .eq 7, 3) := by decide +kernel
theorem dX1_leastSet_7 : decode cX1_leastSet 7 = .ok (.iconst 1, 1) := by decide +kernel
theorem dX1_leastSet_8 : decode cX1_leastSet 8 = .ok (.goto 4, 3) := by decide +kernel
theorem dX1_leastSet_11 : decode cX1_leastSet 11 = .ok (.iconst 0, 1) := by decide +kernel
theorem dX1_leastSet_12 : decode cX1_leastSet 12 = .ok (.iadd, 1) := by decide +kernel
theorem dX1_leastSet_13 : decode cX1_leastSet 13 = .ok (.istore_n 3, 1) := by decide +kernel
theorem dX1_leastSet_14 : decode cX1_leastSet 14 = .ok (.iload_n 3, 1) := by decide +kernel
theorem dX1_leastSet_15 : decode cX1_leastSet 15 = .ok (.ifCond .lt 12, 3) := by decide +kernel
theorem dX1_leastSet_18 : decode cX1_leastSet 18 = .ok (.iload_n 3, 1) := by decide +kernel
theorem dX1_leastSet_19 : decode cX1_leastSet 19 = .ok (.aload_n 0, 1) := by decide +kernel
theorem dX1_leastSet_20 : decode cX1_leastSet 20 = .ok (.getfield 25, 3) := by decide +kernel
theorem dX1_leastSet_23 : decode cX1_leastSet 23 = .ok (.arraylength, 1) := by decide +kernel
theorem dX1_leastSet_24 : decode cX1_leastSet 24 = .ok (.if_icmp .lt 5, 3) := by decide +kernel
theorem dX1_leastSet_27 : decode cX1_leastSet 27 = .ok (.iconst 0, 1) := by decide +kernel
theorem dX1_leastSet_28 : decode cX1_leastSet 28 = .ok (.ireturn, 1) := by decide +kernel
theorem dX1_leastSet_29 : decode cX1_leastSet 29 = .ok (.aload_n 0, 1) := by decide +kernel
theorem dX1_leastSet_30 : decode cX1_leastSet 30 = .ok (.getfield 25, 3) := by decide +kernel
theorem dX1_leastSet_33 : decode cX1_leastSet 33 = .ok (.iload_n 3, 1) := by decide +kernel
theorem dX1_leastSet_34 : decode cX1_leastSet 34 = .ok (.iaload, 1) := by decide +kernel
theorem dX1_leastSet_35 : decode cX1_leastSet 35 = .ok (.bipush (-2), 2) := by decide +kernel
theorem dX1_leastSet_37 : decode cX1_leastSet 37 = .ok (.if_icmp .ne 19, 3) := by decide +kernel
theorem dX1_leastSet_40 : decode cX1_leastSet 40 = .ok (.aload_n 0, 1) := by decide +kernel
theorem dX1_leastSet_41 : decode cX1_leastSet 41 = .ok (.iload_n 1, 1) := by decide +kernel
theorem dX1_leastSet_42 : decode cX1_leastSet 42 = .ok (.iload_n 2, 1) := by decide +kernel
theorem dX1_leastSet_43 : decode cX1_leastSet 43 = .ok (.invokevirtual 68, 3) := by decide +kernel
theorem dX1_leastSet_46 : decode cX1_leastSet 46 = .ok (.aload_n 0, 1) := by decide +kernel
theorem dX1_leastSet_47 : decode cX1_leastSet 47 = .ok (.getfield 25, 3) := by decide +kernel
theorem dX1_leastSet_50 : decode cX1_leastSet 50 = .ok (.iload_n 3, 1) := by decide +kernel
theorem dX1_leastSet_51 : decode cX1_leastSet 51 = .ok (.aload_n 0, 1) := by decide +kernel
theorem dX1_leastSet_52 : decode cX1_leastSet 52 = .ok (.invokevirtual 72, 3) := by decide +kernel
theorem dX1_leastSet_55 : decode cX1_leastSet 55 = .ok (.iastore, 1) := by decide +kernel
theorem dX1_leastSet_56 : decode cX1_leastSet 56 = .ok (.aload_n 0, 1) := by decide +kernel
theorem dX1_leastSet_57 : decode cX1_leastSet 57 = .ok (.getfield 25, 3) := by decide +kernel
theorem dX1_leastSet_60 : decode cX1_leastSet 60 = .ok (.iload_n 3, 1) := by decide +kernel
theorem dX1_leastSet_61 : decode cX1_leastSet 61 = .ok (.iaload, 1) := by decide +kernel
theorem dX1_leastSet_62 : decode cX1_leastSet 62 = .ok (.ireturn, 1) := by decide +kernel
theorem dX1_layServing_0 : decode cX1_layServing 0 = .ok (.iconst 0, 1) := by decide +kernel
theorem dX1_layServing_1 : decode cX1_layServing 1 = .ok (.istore_n 3, 1) := by decide +kernel
theorem dX1_layServing_2 : decode cX1_layServing 2 = .ok (.iconst 0, 1) := by decide +kernel
theorem dX1_layServing_3 : decode cX1_layServing 3 = .ok (.istore 4, 2) := by decide +kernel
theorem dX1_layServing_5 : decode cX1_layServing 5 = .ok (.iload 4, 2) := by decide +kernel
theorem dX1_layServing_7 : decode cX1_layServing 7 = .ok (.aload_n 0, 1) := by decide +kernel
theorem dX1_layServing_8 : decode cX1_layServing 8 = .ok (.getfield 40, 3) := by decide +kernel
theorem dX1_layServing_11 : decode cX1_layServing 11 = .ok (.if_icmp .ge 80, 3) := by decide +kernel
theorem dX1_layServing_14 : decode cX1_layServing 14 = .ok (.aload_n 0, 1) := by decide +kernel
theorem dX1_layServing_15 : decode cX1_layServing 15 = .ok (.getfield 18, 3) := by decide +kernel
theorem dX1_layServing_18 : decode cX1_layServing 18 = .ok (.iload 4, 2) := by decide +kernel
theorem dX1_layServing_20 : decode cX1_layServing 20 = .ok (.iconst 0, 1) := by decide +kernel
theorem dX1_layServing_21 : decode cX1_layServing 21 = .ok (.iastore, 1) := by decide +kernel
theorem dX1_layServing_22 : decode cX1_layServing 22 = .ok (.iconst 0, 1) := by decide +kernel
theorem dX1_layServing_23 : decode cX1_layServing 23 = .ok (.istore 5, 2) := by decide +kernel
theorem dX1_layServing_25 : decode cX1_layServing 25 = .ok (.iload 5, 2) := by decide +kernel
theorem dX1_layServing_27 : decode cX1_layServing 27 = .ok (.aload_n 0, 1) := by decide +kernel
theorem dX1_layServing_28 : decode cX1_layServing 28 = .ok (.getfield 40, 3) := by decide +kernel
theorem dX1_layServing_31 : decode cX1_layServing 31 = .ok (.if_icmp .ge 36, 3) := by decide +kernel
theorem dX1_layServing_34 : decode cX1_layServing 34 = .ok (.aload_n 0, 1) := by decide +kernel
theorem dX1_layServing_35 : decode cX1_layServing 35 = .ok (.iload 4, 2) := by decide +kernel
theorem dX1_layServing_37 : decode cX1_layServing 37 = .ok (.iload 5, 2) := by decide +kernel
theorem dX1_layServing_39 : decode cX1_layServing 39 = .ok (.iload_n 2, 1) := by decide +kernel
theorem dX1_layServing_40 : decode cX1_layServing 40 = .ok (.invokevirtual 76, 3) := by decide +kernel
theorem dX1_layServing_43 : decode cX1_layServing 43 = .ok (.iload_n 1, 1) := by decide +kernel
theorem dX1_layServing_44 : decode cX1_layServing 44 = .ok (.if_icmp .gt 17, 3) := by decide +kernel
theorem dX1_layServing_47 : decode cX1_layServing 47 = .ok (.aload_n 0, 1) := by decide +kernel
theorem dX1_layServing_48 : decode cX1_layServing 48 = .ok (.getfield 18, 3) := by decide +kernel
theorem dX1_layServing_51 : decode cX1_layServing 51 = .ok (.iload 4, 2) := by decide +kernel
theorem dX1_layServing_53 : decode cX1_layServing 53 = .ok (.dup2, 1) := by decide +kernel
theorem dX1_layServing_54 : decode cX1_layServing 54 = .ok (.iaload, 1) := by decide +kernel
theorem dX1_layServing_55 : decode cX1_layServing 55 = .ok (.iconst 1, 1) := by decide +kernel
theorem dX1_layServing_56 : decode cX1_layServing 56 = .ok (.iload 5, 2) := by decide +kernel
theorem dX1_layServing_58 : decode cX1_layServing 58 = .ok (.ishl, 1) := by decide +kernel
theorem dX1_layServing_59 : decode cX1_layServing 59 = .ok (.ior, 1) := by decide +kernel
theorem dX1_layServing_60 : decode cX1_layServing 60 = .ok (.iastore, 1) := by decide +kernel
theorem dX1_layServing_61 : decode cX1_layServing 61 = .ok (.iinc 5 1, 3) := by decide +kernel
theorem dX1_layServing_64 : decode cX1_layServing 64 = .ok (.goto (-39), 3) := by decide +kernel
theorem dX1_layServing_67 : decode cX1_layServing 67 = .ok (.iload_n 3, 1) := by decide +kernel
theorem dX1_layServing_68 : decode cX1_layServing 68 = .ok (.aload_n 0, 1) := by decide +kernel
theorem dX1_layServing_69 : decode cX1_layServing 69 = .ok (.getfield 18, 3) := by decide +kernel
theorem dX1_layServing_72 : decode cX1_layServing 72 = .ok (.iload 4, 2) := by decide +kernel
theorem dX1_layServing_74 : decode cX1_layServing 74 = .ok (.iaload, 1) := by decide +kernel
theorem dX1_layServing_75 : decode cX1_layServing 75 = .ok (.ior, 1) := by decide +kernel
theorem dX1_layServing_76 : decode cX1_layServing 76 = .ok (.istore_n 3, 1) := by decide +kernel
theorem dX1_layServing_77 : decode cX1_layServing 77 = .ok (.aload_n 0, 1) := by decide +kernel
theorem dX1_layServing_78 : decode cX1_layServing 78 = .ok (.getfield 22, 3) := by decide +kernel
theorem dX1_layServing_81 : decode cX1_layServing 81 = .ok (.iload 4, 2) := by decide +kernel
theorem dX1_layServing_83 : decode cX1_layServing 83 = .ok (.iload_n 3, 1) := by decide +kernel
theorem dX1_layServing_84 : decode cX1_layServing 84 = .ok (.iastore, 1) := by decide +kernel
theorem dX1_layServing_85 : decode cX1_layServing 85 = .ok (.iinc 4 1, 3) := by decide +kernel
theorem dX1_layServing_88 : decode cX1_layServing 88 = .ok (.goto (-83), 3) := by decide +kernel
theorem dX1_layServing_91 : decode cX1_layServing 91 = .ok (.return_, 1) := by decide +kernel
theorem dX1_findLeastSet_0 : decode cX1_findLeastSet 0 = .ok (.iconst 1, 1) := by decide +kernel
theorem dX1_findLeastSet_1 : decode cX1_findLeastSet 1 = .ok (.aload_n 0, 1) := by decide +kernel
theorem dX1_findLeastSet_2 : decode cX1_findLeastSet 2 = .ok (.getfield 40, 3) := by decide +kernel
theorem dX1_findLeastSet_5 : decode cX1_findLeastSet 5 = .ok (.ishl, 1) := by decide +kernel
theorem dX1_findLeastSet_6 : decode cX1_findLeastSet 6 = .ok (.iconst 1, 1) := by decide +kernel
theorem dX1_findLeastSet_7 : decode cX1_findLeastSet 7 = .ok (.isub, 1) := by decide +kernel
theorem dX1_findLeastSet_8 : decode cX1_findLeastSet 8 = .ok (.istore_n 1, 1) := by decide +kernel
theorem dX1_findLeastSet_9 : decode cX1_findLeastSet 9 = .ok (.iconst 0, 1) := by decide +kernel
theorem dX1_findLeastSet_10 : decode cX1_findLeastSet 10 = .ok (.istore_n 2, 1) := by decide +kernel
theorem dX1_findLeastSet_11 : decode cX1_findLeastSet 11 = .ok (.iload_n 2, 1) := by decide +kernel
theorem dX1_findLeastSet_12 : decode cX1_findLeastSet 12 = .ok (.aload_n 0, 1) := by decide +kernel
theorem dX1_findLeastSet_13 : decode cX1_findLeastSet 13 = .ok (.getfield 40, 3) := by decide +kernel
theorem dX1_findLeastSet_16 : decode cX1_findLeastSet 16 = .ok (.if_icmp .gt 36, 3) := by decide +kernel
theorem dX1_findLeastSet_19 : decode cX1_findLeastSet 19 = .ok (.aload_n 0, 1) := by decide +kernel
theorem dX1_findLeastSet_20 : decode cX1_findLeastSet 20 = .ok (.getfield 18, 3) := by decide +kernel
theorem dX1_findLeastSet_23 : decode cX1_findLeastSet 23 = .ok (.aload_n 0, 1) := by decide +kernel
theorem dX1_findLeastSet_24 : decode cX1_findLeastSet 24 = .ok (.getfield 22, 3) := by decide +kernel
theorem dX1_findLeastSet_27 : decode cX1_findLeastSet 27 = .ok (.aload_n 0, 1) := by decide +kernel
theorem dX1_findLeastSet_28 : decode cX1_findLeastSet 28 = .ok (.getfield 40, 3) := by decide +kernel
theorem dX1_findLeastSet_31 : decode cX1_findLeastSet 31 = .ok (.iconst 1, 1) := by decide +kernel
theorem dX1_findLeastSet_32 : decode cX1_findLeastSet 32 = .ok (.isub, 1) := by decide +kernel
theorem dX1_findLeastSet_33 : decode cX1_findLeastSet 33 = .ok (.iload_n 1, 1) := by decide +kernel
theorem dX1_findLeastSet_34 : decode cX1_findLeastSet 34 = .ok (.iload_n 2, 1) := by decide +kernel
theorem dX1_findLeastSet_35 : decode cX1_findLeastSet 35 = .ok (.invokestatic 80, 3) := by decide +kernel
theorem dX1_findLeastSet_38 : decode cX1_findLeastSet 38 = .ok (.istore_n 3, 1) := by decide +kernel
theorem dX1_findLeastSet_39 : decode cX1_findLeastSet 39 = .ok (.iload_n 3, 1) := by decide +kernel
theorem dX1_findLeastSet_40 : decode cX1_findLeastSet 40 = .ok (.iconst (-1), 1) := by decide +kernel
theorem dX1_findLeastSet_41 : decode cX1_findLeastSet 41 = .ok (.if_icmp .eq 5, 3) := by decide +kernel
theorem dX1_findLeastSet_44 : decode cX1_findLeastSet 44 = .ok (.iload_n 3, 1) := by decide +kernel
theorem dX1_findLeastSet_45 : decode cX1_findLeastSet 45 = .ok (.ireturn, 1) := by decide +kernel
theorem dX1_findLeastSet_46 : decode cX1_findLeastSet 46 = .ok (.iinc 2 1, 3) := by decide +kernel
theorem dX1_findLeastSet_49 : decode cX1_findLeastSet 49 = .ok (.goto (-38), 3) := by decide +kernel
theorem dX1_findLeastSet_52 : decode cX1_findLeastSet 52 = .ok (.iload_n 1, 1) := by decide +kernel
theorem dX1_findLeastSet_53 : decode cX1_findLeastSet 53 = .ok (.ireturn, 1) := by decide +kernel
theorem dX1_chosen_0 : decode cX1_chosen 0 = .ok (.iload_n 3, 1) := by decide +kernel
theorem dX1_chosen_1 : decode cX1_chosen 1 = .ok (.ifCond .ne 5, 3) := by decide +kernel
theorem dX1_chosen_4 : decode cX1_chosen 4 = .ok (.iconst 0, 1) := by decide +kernel
theorem dX1_chosen_5 : decode cX1_chosen 5 = .ok (.ireturn, 1) := by decide +kernel
theorem dX1_chosen_6 : decode cX1_chosen 6 = .ok (.iload_n 2, 1) := by decide +kernel
theorem dX1_chosen_7 : decode cX1_chosen 7 = .ok (.ifCond .lt 24, 3) := by decide +kernel
theorem dX1_chosen_10 : decode cX1_chosen 10 = .ok (.iload_n 2, 1) := by decide +kernel
theorem dX1_chosen_11 : decode cX1_chosen 11 = .ok (.bipush 16, 2) := by decide +kernel
theorem dX1_chosen_13 : decode cX1_chosen 13 = .ok (.if_icmp .ge 18, 3) := by decide +kernel
theorem dX1_chosen_16 : decode cX1_chosen 16 = .ok (.iload 4, 2) := by decide +kernel
theorem dX1_chosen_18 : decode cX1_chosen 18 = .ok (.ifCond .le 13, 3) := by decide +kernel
theorem dX1_chosen_21 : decode cX1_chosen 21 = .ok (.iload_n 3, 1) := by decide +kernel
theorem dX1_chosen_22 : decode cX1_chosen 22 = .ok (.aload_n 1, 1) := by decide +kernel
theorem dX1_chosen_23 : decode cX1_chosen 23 = .ok (.iload_n 2, 1) := by decide +kernel
theorem dX1_chosen_24 : decode cX1_chosen 24 = .ok (.iaload, 1) := by decide +kernel
theorem dX1_chosen_25 : decode cX1_chosen 25 = .ok (.iconst (-1), 1) := by decide +kernel
theorem dX1_chosen_26 : decode cX1_chosen 26 = .ok (.ixor, 1) := by decide +kernel
theorem dX1_chosen_27 : decode cX1_chosen 27 = .ok (.iand, 1) := by decide +kernel
theorem dX1_chosen_28 : decode cX1_chosen 28 = .ok (.ifCond .eq 5, 3) := by decide +kernel
theorem dX1_chosen_31 : decode cX1_chosen 31 = .ok (.iconst (-1), 1) := by decide +kernel
theorem dX1_chosen_32 : decode cX1_chosen 32 = .ok (.ireturn, 1) := by decide +kernel
theorem dX1_chosen_33 : decode cX1_chosen 33 = .ok (.aload_n 0, 1) := by decide +kernel
theorem dX1_chosen_34 : decode cX1_chosen 34 = .ok (.aload_n 1, 1) := by decide +kernel
theorem dX1_chosen_35 : decode cX1_chosen 35 = .ok (.iload_n 2, 1) := by decide +kernel
theorem dX1_chosen_36 : decode cX1_chosen 36 = .ok (.iconst 1, 1) := by decide +kernel
theorem dX1_chosen_37 : decode cX1_chosen 37 = .ok (.isub, 1) := by decide +kernel
theorem dX1_chosen_38 : decode cX1_chosen 38 = .ok (.iload_n 3, 1) := by decide +kernel
theorem dX1_chosen_39 : decode cX1_chosen 39 = .ok (.iload 4, 2) := by decide +kernel
theorem dX1_chosen_41 : decode cX1_chosen 41 = .ok (.invokestatic 80, 3) := by decide +kernel
theorem dX1_chosen_44 : decode cX1_chosen 44 = .ok (.istore 5, 2) := by decide +kernel
theorem dX1_chosen_46 : decode cX1_chosen 46 = .ok (.iload 5, 2) := by decide +kernel
theorem dX1_chosen_48 : decode cX1_chosen 48 = .ok (.iconst (-1), 1) := by decide +kernel
theorem dX1_chosen_49 : decode cX1_chosen 49 = .ok (.if_icmp .eq 6, 3) := by decide +kernel
theorem dX1_chosen_52 : decode cX1_chosen 52 = .ok (.iload 5, 2) := by decide +kernel
theorem dX1_chosen_54 : decode cX1_chosen 54 = .ok (.ireturn, 1) := by decide +kernel
theorem dX1_chosen_55 : decode cX1_chosen 55 = .ok (.aload_n 0, 1) := by decide +kernel
theorem dX1_chosen_56 : decode cX1_chosen 56 = .ok (.aload_n 1, 1) := by decide +kernel
theorem dX1_chosen_57 : decode cX1_chosen 57 = .ok (.iload_n 2, 1) := by decide +kernel
theorem dX1_chosen_58 : decode cX1_chosen 58 = .ok (.iconst 1, 1) := by decide +kernel
theorem dX1_chosen_59 : decode cX1_chosen 59 = .ok (.isub, 1) := by decide +kernel
theorem dX1_chosen_60 : decode cX1_chosen 60 = .ok (.iload_n 3, 1) := by decide +kernel
theorem dX1_chosen_61 : decode cX1_chosen 61 = .ok (.aload_n 0, 1) := by decide +kernel
theorem dX1_chosen_62 : decode cX1_chosen 62 = .ok (.iload_n 2, 1) := by decide +kernel
theorem dX1_chosen_63 : decode cX1_chosen 63 = .ok (.iaload, 1) := by decide +kernel
theorem dX1_chosen_64 : decode cX1_chosen 64 = .ok (.iconst (-1), 1) := by decide +kernel
theorem dX1_chosen_65 : decode cX1_chosen 65 = .ok (.ixor, 1) := by decide +kernel
theorem dX1_chosen_66 : decode cX1_chosen 66 = .ok (.iand, 1) := by decide +kernel
theorem dX1_chosen_67 : decode cX1_chosen 67 = .ok (.iload 4, 2) := by decide +kernel
theorem dX1_chosen_69 : decode cX1_chosen 69 = .ok (.iconst 1, 1) := by decide +kernel
theorem dX1_chosen_70 : decode cX1_chosen 70 = .ok (.isub, 1) := by decide +kernel
theorem dX1_chosen_71 : decode cX1_chosen 71 = .ok (.invokestatic 80, 3) := by decide +kernel
theorem dX1_chosen_74 : decode cX1_chosen 74 = .ok (.istore 6, 2) := by decide +kernel
theorem dX1_chosen_76 : decode cX1_chosen 76 = .ok (.iload 6, 2) := by decide +kernel
theorem dX1_chosen_78 : decode cX1_chosen 78 = .ok (.iconst (-1), 1) := by decide +kernel
theorem dX1_chosen_79 : decode cX1_chosen 79 = .ok (.if_icmp .ne 7, 3) := by decide +kernel
theorem dX1_chosen_82 : decode cX1_chosen 82 = .ok (.iconst (-1), 1) := by decide +kernel
theorem dX1_chosen_83 : decode cX1_chosen 83 = .ok (.goto 9, 3) := by decide +kernel
theorem dX1_chosen_86 : decode cX1_chosen 86 = .ok (.iload 6, 2) := by decide +kernel
theorem dX1_chosen_88 : decode cX1_chosen 88 = .ok (.iconst 1, 1) := by decide +kernel
theorem dX1_chosen_89 : decode cX1_chosen 89 = .ok (.iload_n 2, 1) := by decide +kernel
theorem dX1_chosen_90 : decode cX1_chosen 90 = .ok (.ishl, 1) := by decide +kernel
theorem dX1_chosen_91 : decode cX1_chosen 91 = .ok (.ior, 1) := by decide +kernel
theorem dX1_chosen_92 : decode cX1_chosen 92 = .ok (.ireturn, 1) := by decide +kernel
theorem dX1_serverOf_0 : decode cX1_serverOf 0 = .ok (.aload_n 0, 1) := by decide +kernel
theorem dX1_serverOf_1 : decode cX1_serverOf 1 = .ok (.iload_n 2, 1) := by decide +kernel
theorem dX1_serverOf_2 : decode cX1_serverOf 2 = .ok (.iload_n 3, 1) := by decide +kernel
theorem dX1_serverOf_3 : decode cX1_serverOf 3 = .ok (.invokevirtual 84, 3) := by decide +kernel
theorem dX1_serverOf_6 : decode cX1_serverOf 6 = .ok (.istore 4, 2) := by decide +kernel
theorem dX1_serverOf_8 : decode cX1_serverOf 8 = .ok (.iconst 0, 1) := by decide +kernel
theorem dX1_serverOf_9 : decode cX1_serverOf 9 = .ok (.istore 5, 2) := by decide +kernel
theorem dX1_serverOf_11 : decode cX1_serverOf 11 = .ok (.iload 5, 2) := by decide +kernel
theorem dX1_serverOf_13 : decode cX1_serverOf 13 = .ok (.aload_n 0, 1) := by decide +kernel
theorem dX1_serverOf_14 : decode cX1_serverOf 14 = .ok (.getfield 40, 3) := by decide +kernel
theorem dX1_serverOf_17 : decode cX1_serverOf 17 = .ok (.if_icmp .ge 34, 3) := by decide +kernel
theorem dX1_serverOf_20 : decode cX1_serverOf 20 = .ok (.iload 4, 2) := by decide +kernel
theorem dX1_serverOf_22 : decode cX1_serverOf 22 = .ok (.iconst 1, 1) := by decide +kernel
theorem dX1_serverOf_23 : decode cX1_serverOf 23 = .ok (.iload 5, 2) := by decide +kernel
theorem dX1_serverOf_25 : decode cX1_serverOf 25 = .ok (.ishl, 1) := by decide +kernel
theorem dX1_serverOf_26 : decode cX1_serverOf 26 = .ok (.iand, 1) := by decide +kernel
theorem dX1_serverOf_27 : decode cX1_serverOf 27 = .ok (.ifCond .eq 18, 3) := by decide +kernel
theorem dX1_serverOf_30 : decode cX1_serverOf 30 = .ok (.aload_n 0, 1) := by decide +kernel
theorem dX1_serverOf_31 : decode cX1_serverOf 31 = .ok (.iload 5, 2) := by decide +kernel
theorem dX1_serverOf_33 : decode cX1_serverOf 33 = .ok (.iload_n 1, 1) := by decide +kernel
theorem dX1_serverOf_34 : decode cX1_serverOf 34 = .ok (.iload_n 3, 1) := by decide +kernel
theorem dX1_serverOf_35 : decode cX1_serverOf 35 = .ok (.invokevirtual 76, 3) := by decide +kernel
theorem dX1_serverOf_38 : decode cX1_serverOf 38 = .ok (.iload_n 2, 1) := by decide +kernel
theorem dX1_serverOf_39 : decode cX1_serverOf 39 = .ok (.if_icmp .gt 6, 3) := by decide +kernel
theorem dX1_serverOf_42 : decode cX1_serverOf 42 = .ok (.iload 5, 2) := by decide +kernel
theorem dX1_serverOf_44 : decode cX1_serverOf 44 = .ok (.ireturn, 1) := by decide +kernel
theorem dX1_serverOf_45 : decode cX1_serverOf 45 = .ok (.iinc 5 1, 3) := by decide +kernel
theorem dX1_serverOf_48 : decode cX1_serverOf 48 = .ok (.goto (-37), 3) := by decide +kernel
theorem dX1_serverOf_51 : decode cX1_serverOf 51 = .ok (.iconst (-1), 1) := by decide +kernel
theorem dX1_serverOf_52 : decode cX1_serverOf 52 = .ok (.ireturn, 1) := by decide +kernel
theorem dX1_originalLetters_0 : decode cX1_originalLetters 0 = .ok (.iconst 0, 1) := by decide +kernel
theorem dX1_originalLetters_1 : decode cX1_originalLetters 1 = .ok (.istore_n 3, 1) := by decide +kernel
theorem dX1_originalLetters_2 : decode cX1_originalLetters 2 = .ok (.iconst 0, 1) := by decide +kernel
theorem dX1_originalLetters_3 : decode cX1_originalLetters 3 = .ok (.istore 4, 2) := by decide +kernel
theorem dX1_originalLetters_5 : decode cX1_originalLetters 5 = .ok (.iload 4, 2) := by decide +kernel
theorem dX1_originalLetters_7 : decode cX1_originalLetters 7 = .ok (.aload_n 1, 1) := by decide +kernel
theorem dX1_originalLetters_8 : decode cX1_originalLetters 8 = .ok (.getfield 88, 3) := by decide +kernel
theorem dX1_originalLetters_11 : decode cX1_originalLetters 11 = .ok (.if_icmp .ge 38, 3) := by decide +kernel
theorem dX1_originalLetters_14 : decode cX1_originalLetters 14 = .ok (.aload_n 1, 1) := by decide +kernel
theorem dX1_originalLetters_15 : decode cX1_originalLetters 15 = .ok (.iload 4, 2) := by decide +kernel
theorem dX1_originalLetters_17 : decode cX1_originalLetters 17 = .ok (.invokevirtual 91, 3) := by decide +kernel
theorem dX1_originalLetters_20 : decode cX1_originalLetters 20 = .ok (.lconst 0, 1) := by decide +kernel
theorem dX1_originalLetters_21 : decode cX1_originalLetters 21 = .ok (.lcmp, 1) := by decide +kernel
theorem dX1_originalLetters_22 : decode cX1_originalLetters 22 = .ok (.ifCond .eq 21, 3) := by decide +kernel
theorem dX1_originalLetters_25 : decode cX1_originalLetters 25 = .ok (.aload_n 0, 1) := by decide +kernel
theorem dX1_originalLetters_26 : decode cX1_originalLetters 26 = .ok (.aload_n 1, 1) := by decide +kernel
theorem dX1_originalLetters_27 : decode cX1_originalLetters 27 = .ok (.iload 4, 2) := by decide +kernel
theorem dX1_originalLetters_29 : decode cX1_originalLetters 29 = .ok (.iload_n 2, 1) := by decide +kernel
theorem dX1_originalLetters_30 : decode cX1_originalLetters 30 = .ok (.invokevirtual 95, 3) := by decide +kernel
theorem dX1_originalLetters_33 : decode cX1_originalLetters 33 = .ok (.ifCond .ne 10, 3) := by decide +kernel
theorem dX1_originalLetters_36 : decode cX1_originalLetters 36 = .ok (.iload_n 3, 1) := by decide +kernel
theorem dX1_originalLetters_37 : decode cX1_originalLetters 37 = .ok (.iconst 1, 1) := by decide +kernel
theorem dX1_originalLetters_38 : decode cX1_originalLetters 38 = .ok (.iload 4, 2) := by decide +kernel
theorem dX1_originalLetters_40 : decode cX1_originalLetters 40 = .ok (.ishl, 1) := by decide +kernel
theorem dX1_originalLetters_41 : decode cX1_originalLetters 41 = .ok (.ior, 1) := by decide +kernel
theorem dX1_originalLetters_42 : decode cX1_originalLetters 42 = .ok (.istore_n 3, 1) := by decide +kernel
theorem dX1_originalLetters_43 : decode cX1_originalLetters 43 = .ok (.iinc 4 1, 3) := by decide +kernel
theorem dX1_originalLetters_46 : decode cX1_originalLetters 46 = .ok (.goto (-41), 3) := by decide +kernel
theorem dX1_originalLetters_49 : decode cX1_originalLetters 49 = .ok (.iload_n 3, 1) := by decide +kernel
theorem dX1_originalLetters_50 : decode cX1_originalLetters 50 = .ok (.ireturn, 1) := by decide +kernel
theorem dX1_hasLesserTwin_0 : decode cX1_hasLesserTwin 0 = .ok (.aload_n 1, 1) := by decide +kernel
theorem dX1_hasLesserTwin_1 : decode cX1_hasLesserTwin 1 = .ok (.iload_n 2, 1) := by decide +kernel
theorem dX1_hasLesserTwin_2 : decode cX1_hasLesserTwin 2 = .ok (.invokevirtual 91, 3) := by decide +kernel
theorem dX1_hasLesserTwin_5 : decode cX1_hasLesserTwin 5 = .ok (.aload_n 0, 1) := by decide +kernel
theorem dX1_hasLesserTwin_6 : decode cX1_hasLesserTwin 6 = .ok (.getfield 15, 3) := by decide +kernel
theorem dX1_hasLesserTwin_9 : decode cX1_hasLesserTwin 9 = .ok (.iconst 0, 1) := by decide +kernel
theorem dX1_hasLesserTwin_10 : decode cX1_hasLesserTwin 10 = .ok (.invokestatic 44, 3) := by decide +kernel
theorem dX1_hasLesserTwin_13 : decode cX1_hasLesserTwin 13 = .ok (.iconst 0, 1) := by decide +kernel
theorem dX1_hasLesserTwin_14 : decode cX1_hasLesserTwin 14 = .ok (.istore 4, 2) := by decide +kernel
theorem dX1_hasLesserTwin_16 : decode cX1_hasLesserTwin 16 = .ok (.iload 4, 2) := by decide +kernel
theorem dX1_hasLesserTwin_18 : decode cX1_hasLesserTwin 18 = .ok (.iload_n 2, 1) := by decide +kernel
theorem dX1_hasLesserTwin_19 : decode cX1_hasLesserTwin 19 = .ok (.if_icmp .ge 43, 3) := by decide +kernel
theorem dX1_hasLesserTwin_22 : decode cX1_hasLesserTwin 22 = .ok (.aload_n 1, 1) := by decide +kernel
theorem dX1_hasLesserTwin_23 : decode cX1_hasLesserTwin 23 = .ok (.iload 4, 2) := by decide +kernel
theorem dX1_hasLesserTwin_25 : decode cX1_hasLesserTwin 25 = .ok (.invokevirtual 91, 3) := by decide +kernel
theorem dX1_hasLesserTwin_28 : decode cX1_hasLesserTwin 28 = .ok (.invokestatic 60, 3) := by decide +kernel
theorem dX1_hasLesserTwin_31 : decode cX1_hasLesserTwin 31 = .ok (.lstore 5, 2) := by decide +kernel
theorem dX1_hasLesserTwin_33 : decode cX1_hasLesserTwin 33 = .ok (.lload 5, 2) := by decide +kernel
theorem dX1_hasLesserTwin_35 : decode cX1_hasLesserTwin 35 = .ok (.lconst 0, 1) := by decide +kernel
theorem dX1_hasLesserTwin_36 : decode cX1_hasLesserTwin 36 = .ok (.lcmp, 1) := by decide +kernel
theorem dX1_hasLesserTwin_37 : decode cX1_hasLesserTwin 37 = .ok (.ifCond .eq 19, 3) := by decide +kernel
theorem dX1_hasLesserTwin_40 : decode cX1_hasLesserTwin 40 = .ok (.aload_n 0, 1) := by decide +kernel
theorem dX1_hasLesserTwin_41 : decode cX1_hasLesserTwin 41 = .ok (.getfield 15, 3) := by decide +kernel
theorem dX1_hasLesserTwin_44 : decode cX1_hasLesserTwin 44 = .ok (.iconst 0, 1) := by decide +kernel
theorem dX1_hasLesserTwin_45 : decode cX1_hasLesserTwin 45 = .ok (.lload 5, 2) := by decide +kernel
theorem dX1_hasLesserTwin_47 : decode cX1_hasLesserTwin 47 = .ok (.iload_n 3, 1) := by decide +kernel
theorem dX1_hasLesserTwin_48 : decode cX1_hasLesserTwin 48 = .ok (.invokestatic 56, 3) := by decide +kernel
theorem dX1_hasLesserTwin_51 : decode cX1_hasLesserTwin 51 = .ok (.ifCond .ne 5, 3) := by decide +kernel
theorem dX1_hasLesserTwin_54 : decode cX1_hasLesserTwin 54 = .ok (.iconst 1, 1) := by decide +kernel
theorem dX1_hasLesserTwin_55 : decode cX1_hasLesserTwin 55 = .ok (.ireturn, 1) := by decide +kernel
theorem dX1_hasLesserTwin_56 : decode cX1_hasLesserTwin 56 = .ok (.iinc 4 1, 3) := by decide +kernel
theorem dX1_hasLesserTwin_59 : decode cX1_hasLesserTwin 59 = .ok (.goto (-43), 3) := by decide +kernel
theorem dX1_hasLesserTwin_62 : decode cX1_hasLesserTwin 62 = .ok (.iconst 0, 1) := by decide +kernel
theorem dX1_hasLesserTwin_63 : decode cX1_hasLesserTwin 63 = .ok (.ireturn, 1) := by decide +kernel
theorem dX2_init_0 : decode cX2_init 0 = .ok (.aload_n 0, 1) := by decide +kernel
theorem dX2_init_1 : decode cX2_init 1 = .ok (.invokespecial 3, 3) := by decide +kernel
theorem dX2_init_4 : decode cX2_init 4 = .ok (.aload_n 0, 1) := by decide +kernel
theorem dX2_init_5 : decode cX2_init 5 = .ok (.bipush 11, 2) := by decide +kernel
theorem dX2_init_7 : decode cX2_init 7 = .ok (.newarray .int, 2) := by decide +kernel
theorem dX2_init_9 : decode cX2_init 9 = .ok (.putfield 11, 3) := by decide +kernel
theorem dX2_init_12 : decode cX2_init 12 = .ok (.aload_n 0, 1) := by decide +kernel
theorem dX2_init_13 : decode cX2_init 13 = .ok (.bipush 11, 2) := by decide +kernel
theorem dX2_init_15 : decode cX2_init 15 = .ok (.newarray .int, 2) := by decide +kernel
theorem dX2_init_17 : decode cX2_init 17 = .ok (.putfield 15, 3) := by decide +kernel
theorem dX2_init_20 : decode cX2_init 20 = .ok (.aload_n 0, 1) := by decide +kernel
theorem dX2_init_21 : decode cX2_init 21 = .ok (.bipush 11, 2) := by decide +kernel
theorem dX2_init_23 : decode cX2_init 23 = .ok (.newarray .int, 2) := by decide +kernel
theorem dX2_init_25 : decode cX2_init 25 = .ok (.putfield 18, 3) := by decide +kernel
theorem dX2_init_28 : decode cX2_init 28 = .ok (.return_, 1) := by decide +kernel
theorem dX2_lay_0 : decode cX2_lay 0 = .ok (.aload_n 0, 1) := by decide +kernel
theorem dX2_lay_1 : decode cX2_lay 1 = .ok (.iconst 0, 1) := by decide +kernel
theorem dX2_lay_2 : decode cX2_lay 2 = .ok (.putfield 21, 3) := by decide +kernel
theorem dX2_lay_5 : decode cX2_lay 5 = .ok (.aload_n 0, 1) := by decide +kernel
theorem dX2_lay_6 : decode cX2_lay 6 = .ok (.iconst 0, 1) := by decide +kernel
theorem dX2_lay_7 : decode cX2_lay 7 = .ok (.putfield 25, 3) := by decide +kernel
theorem dX2_lay_10 : decode cX2_lay 10 = .ok (.iconst 0, 1) := by decide +kernel
theorem dX2_lay_11 : decode cX2_lay 11 = .ok (.istore 4, 2) := by decide +kernel
theorem dX2_lay_13 : decode cX2_lay 13 = .ok (.iload 4, 2) := by decide +kernel
theorem dX2_lay_15 : decode cX2_lay 15 = .ok (.aload_n 1, 1) := by decide +kernel
theorem dX2_lay_16 : decode cX2_lay 16 = .ok (.getfield 29, 3) := by decide +kernel
theorem dX2_lay_19 : decode cX2_lay 19 = .ok (.if_icmp .ge 52, 3) := by decide +kernel
theorem dX2_lay_22 : decode cX2_lay 22 = .ok (.aload_n 1, 1) := by decide +kernel
theorem dX2_lay_23 : decode cX2_lay 23 = .ok (.getfield 34, 3) := by decide +kernel
theorem dX2_lay_26 : decode cX2_lay 26 = .ok (.iload 4, 2) := by decide +kernel
theorem dX2_lay_28 : decode cX2_lay 28 = .ok (.iaload, 1) := by decide +kernel
theorem dX2_lay_29 : decode cX2_lay 29 = .ok (.iload_n 2, 1) := by decide +kernel
theorem dX2_lay_30 : decode cX2_lay 30 = .ok (.if_icmp .ne 35, 3) := by decide +kernel
theorem dX2_lay_33 : decode cX2_lay 33 = .ok (.aload_n 1, 1) := by decide +kernel
theorem dX2_lay_34 : decode cX2_lay 34 = .ok (.getfield 37, 3) := by decide +kernel
theorem dX2_lay_37 : decode cX2_lay 37 = .ok (.iload 4, 2) := by decide +kernel
theorem dX2_lay_39 : decode cX2_lay 39 = .ok (.laload, 1) := by decide +kernel
theorem dX2_lay_40 : decode cX2_lay 40 = .ok (.invokestatic 41, 3) := by decide +kernel
theorem dX2_lay_43 : decode cX2_lay 43 = .ok (.istore 5, 2) := by decide +kernel
theorem dX2_lay_45 : decode cX2_lay 45 = .ok (.aload_n 0, 1) := by decide +kernel
theorem dX2_lay_46 : decode cX2_lay 46 = .ok (.iload 4, 2) := by decide +kernel
theorem dX2_lay_48 : decode cX2_lay 48 = .ok (.iload 5, 2) := by decide +kernel
theorem dX2_lay_50 : decode cX2_lay 50 = .ok (.bipush 15, 2) := by decide +kernel
theorem dX2_lay_52 : decode cX2_lay 52 = .ok (.iload_n 3, 1) := by decide +kernel
theorem dX2_lay_53 : decode cX2_lay 53 = .ok (.iload 5, 2) := by decide +kernel
theorem dX2_lay_55 : decode cX2_lay 55 = .ok (.iconst 4, 1) := by decide +kernel
theorem dX2_lay_56 : decode cX2_lay 56 = .ok (.idiv, 1) := by decide +kernel
theorem dX2_lay_57 : decode cX2_lay 57 = .ok (.iadd, 1) := by decide +kernel
theorem dX2_lay_58 : decode cX2_lay 58 = .ok (.invokestatic 47, 3) := by decide +kernel
theorem dX2_lay_61 : decode cX2_lay 61 = .ok (.iconst 0, 1) := by decide +kernel
theorem dX2_lay_62 : decode cX2_lay 62 = .ok (.invokevirtual 53, 3) := by decide +kernel
theorem dX2_lay_65 : decode cX2_lay 65 = .ok (.iinc 4 1, 3) := by decide +kernel
theorem dX2_lay_68 : decode cX2_lay 68 = .ok (.goto (-55), 3) := by decide +kernel
theorem dX2_lay_71 : decode cX2_lay 71 = .ok (.aload_n 0, 1) := by decide +kernel
theorem dX2_lay_72 : decode cX2_lay 72 = .ok (.aload_n 0, 1) := by decide +kernel
theorem dX2_lay_73 : decode cX2_lay 73 = .ok (.getfield 21, 3) := by decide +kernel
theorem dX2_lay_76 : decode cX2_lay 76 = .ok (.putfield 57, 3) := by decide +kernel
theorem dX2_lay_79 : decode cX2_lay 79 = .ok (.return_, 1) := by decide +kernel
theorem dX2_layBites_0 : decode cX2_layBites 0 = .ok (.iconst 0, 1) := by decide +kernel
theorem dX2_layBites_1 : decode cX2_layBites 1 = .ok (.istore 5, 2) := by decide +kernel
theorem dX2_layBites_3 : decode cX2_layBites 3 = .ok (.iload 5, 2) := by decide +kernel
theorem dX2_layBites_5 : decode cX2_layBites 5 = .ok (.bipush 32, 2) := by decide +kernel
theorem dX2_layBites_7 : decode cX2_layBites 7 = .ok (.if_icmp .ge 44, 3) := by decide +kernel
theorem dX2_layBites_10 : decode cX2_layBites 10 = .ok (.lload_n 2, 1) := by decide +kernel
theorem dX2_layBites_11 : decode cX2_layBites 11 = .ok (.lconst 1, 1) := by decide +kernel
theorem dX2_layBites_12 : decode cX2_layBites 12 = .ok (.iload 5, 2) := by decide +kernel
theorem dX2_layBites_14 : decode cX2_layBites 14 = .ok (.lshl, 1) := by decide +kernel
theorem dX2_layBites_15 : decode cX2_layBites 15 = .ok (.land, 1) := by decide +kernel
theorem dX2_layBites_16 : decode cX2_layBites 16 = .ok (.lconst 0, 1) := by decide +kernel
theorem dX2_layBites_17 : decode cX2_layBites 17 = .ok (.lcmp, 1) := by decide +kernel
theorem dX2_layBites_18 : decode cX2_layBites 18 = .ok (.ifCond .eq 27, 3) := by decide +kernel
theorem dX2_layBites_21 : decode cX2_layBites 21 = .ok (.aload_n 0, 1) := by decide +kernel
theorem dX2_layBites_22 : decode cX2_layBites 22 = .ok (.bipush 100, 2) := by decide +kernel
theorem dX2_layBites_24 : decode cX2_layBites 24 = .ok (.iload 5, 2) := by decide +kernel
theorem dX2_layBites_26 : decode cX2_layBites 26 = .ok (.iadd, 1) := by decide +kernel
theorem dX2_layBites_27 : decode cX2_layBites 27 = .ok (.aload_n 1, 1) := by decide +kernel
theorem dX2_layBites_28 : decode cX2_layBites 28 = .ok (.iload 5, 2) := by decide +kernel
theorem dX2_layBites_30 : decode cX2_layBites 30 = .ok (.invokevirtual 60, 3) := by decide +kernel
theorem dX2_layBites_33 : decode cX2_layBites 33 = .ok (.invokestatic 41, 3) := by decide +kernel
theorem dX2_layBites_36 : decode cX2_layBites 36 = .ok (.iload 4, 2) := by decide +kernel
theorem dX2_layBites_38 : decode cX2_layBites 38 = .ok (.aload_n 0, 1) := by decide +kernel
theorem dX2_layBites_39 : decode cX2_layBites 39 = .ok (.getfield 57, 3) := by decide +kernel
theorem dX2_layBites_42 : decode cX2_layBites 42 = .ok (.invokevirtual 53, 3) := by decide +kernel
theorem dX2_layBites_45 : decode cX2_layBites 45 = .ok (.iinc 5 1, 3) := by decide +kernel
theorem dX2_layBites_48 : decode cX2_layBites 48 = .ok (.goto (-45), 3) := by decide +kernel
theorem dX2_layBites_51 : decode cX2_layBites 51 = .ok (.return_, 1) := by decide +kernel
theorem dX2_add_0 : decode cX2_add 0 = .ok (.aload_n 0, 1) := by decide +kernel
theorem dX2_add_1 : decode cX2_add 1 = .ok (.getfield 21, 3) := by decide +kernel
theorem dX2_add_4 : decode cX2_add 4 = .ok (.bipush 11, 2) := by decide +kernel
theorem dX2_add_6 : decode cX2_add 6 = .ok (.if_icmp .lt 9, 3) := by decide +kernel
theorem dX2_add_9 : decode cX2_add 9 = .ok (.aload_n 0, 1) := by decide +kernel
theorem dX2_add_10 : decode cX2_add 10 = .ok (.iconst 1, 1) := by decide +kernel
theorem dX2_add_11 : decode cX2_add 11 = .ok (.putfield 25, 3) := by decide +kernel
theorem dX2_add_14 : decode cX2_add 14 = .ok (.return_, 1) := by decide +kernel
theorem dX2_add_15 : decode cX2_add 15 = .ok (.aload_n 0, 1) := by decide +kernel
theorem dX2_add_16 : decode cX2_add 16 = .ok (.getfield 21, 3) := by decide +kernel
theorem dX2_add_19 : decode cX2_add 19 = .ok (.istore 5, 2) := by decide +kernel
theorem dX2_add_21 : decode cX2_add 21 = .ok (.iload 5, 2) := by decide +kernel
theorem dX2_add_23 : decode cX2_add 23 = .ok (.iload 4, 2) := by decide +kernel
theorem dX2_add_25 : decode cX2_add 25 = .ok (.if_icmp .le 87, 3) := by decide +kernel
theorem dX2_add_28 : decode cX2_add 28 = .ok (.iload 5, 2) := by decide +kernel
theorem dX2_add_30 : decode cX2_add 30 = .ok (.ifCond .le 82, 3) := by decide +kernel
theorem dX2_add_33 : decode cX2_add 33 = .ok (.iload_n 2, 1) := by decide +kernel
theorem dX2_add_34 : decode cX2_add 34 = .ok (.aload_n 0, 1) := by decide +kernel
theorem dX2_add_35 : decode cX2_add 35 = .ok (.getfield 18, 3) := by decide +kernel
theorem dX2_add_38 : decode cX2_add 38 = .ok (.iload 5, 2) := by decide +kernel
theorem dX2_add_40 : decode cX2_add 40 = .ok (.iconst 1, 1) := by decide +kernel
theorem dX2_add_41 : decode cX2_add 41 = .ok (.isub, 1) := by decide +kernel
theorem dX2_add_42 : decode cX2_add 42 = .ok (.iaload, 1) := by decide +kernel
theorem dX2_add_43 : decode cX2_add 43 = .ok (.imul, 1) := by decide +kernel
theorem dX2_add_44 : decode cX2_add 44 = .ok (.aload_n 0, 1) := by decide +kernel
theorem dX2_add_45 : decode cX2_add 45 = .ok (.getfield 15, 3) := by decide +kernel
theorem dX2_add_48 : decode cX2_add 48 = .ok (.iload 5, 2) := by decide +kernel
theorem dX2_add_50 : decode cX2_add 50 = .ok (.iconst 1, 1) := by decide +kernel
theorem dX2_add_51 : decode cX2_add 51 = .ok (.isub, 1) := by decide +kernel
theorem dX2_add_52 : decode cX2_add 52 = .ok (.iaload, 1) := by decide +kernel
theorem dX2_add_53 : decode cX2_add 53 = .ok (.iload_n 3, 1) := by decide +kernel
theorem dX2_add_54 : decode cX2_add 54 = .ok (.imul, 1) := by decide +kernel
theorem dX2_add_55 : decode cX2_add 55 = .ok (.if_icmp .ge 57, 3) := by decide +kernel
theorem dX2_add_58 : decode cX2_add 58 = .ok (.aload_n 0, 1) := by decide +kernel
theorem dX2_add_59 : decode cX2_add 59 = .ok (.getfield 11, 3) := by decide +kernel
theorem dX2_add_62 : decode cX2_add 62 = .ok (.iload 5, 2) := by decide +kernel
theorem dX2_add_64 : decode cX2_add 64 = .ok (.aload_n 0, 1) := by decide +kernel
theorem dX2_add_65 : decode cX2_add 65 = .ok (.getfield 11, 3) := by decide +kernel
theorem dX2_add_68 : decode cX2_add 68 = .ok (.iload 5, 2) := by decide +kernel
theorem dX2_add_70 : decode cX2_add 70 = .ok (.iconst 1, 1) := by decide +kernel
theorem dX2_add_71 : decode cX2_add 71 = .ok (.isub, 1) := by decide +kernel
theorem dX2_add_72 : decode cX2_add 72 = .ok (.iaload, 1) := by decide +kernel
theorem dX2_add_73 : decode cX2_add 73 = .ok (.iastore, 1) := by decide +kernel
theorem dX2_add_74 : decode cX2_add 74 = .ok (.aload_n 0, 1) := by decide +kernel
theorem dX2_add_75 : decode cX2_add 75 = .ok (.getfield 15, 3) := by decide +kernel
theorem dX2_add_78 : decode cX2_add 78 = .ok (.iload 5, 2) := by decide +kernel
theorem dX2_add_80 : decode cX2_add 80 = .ok (.aload_n 0, 1) := by decide +kernel
theorem dX2_add_81 : decode cX2_add 81 = .ok (.getfield 15, 3) := by decide +kernel
theorem dX2_add_84 : decode cX2_add 84 = .ok (.iload 5, 2) := by decide +kernel
theorem dX2_add_86 : decode cX2_add 86 = .ok (.iconst 1, 1) := by decide +kernel
theorem dX2_add_87 : decode cX2_add 87 = .ok (.isub, 1) := by decide +kernel
theorem dX2_add_88 : decode cX2_add 88 = .ok (.iaload, 1) := by decide +kernel
theorem dX2_add_89 : decode cX2_add 89 = .ok (.iastore, 1) := by decide +kernel
theorem dX2_add_90 : decode cX2_add 90 = .ok (.aload_n 0, 1) := by decide +kernel
theorem dX2_add_91 : decode cX2_add 91 = .ok (.getfield 18, 3) := by decide +kernel
theorem dX2_add_94 : decode cX2_add 94 = .ok (.iload 5, 2) := by decide +kernel
theorem dX2_add_96 : decode cX2_add 96 = .ok (.aload_n 0, 1) := by decide +kernel
theorem dX2_add_97 : decode cX2_add 97 = .ok (.getfield 18, 3) := by decide +kernel
theorem dX2_add_100 : decode cX2_add 100 = .ok (.iload 5, 2) := by decide +kernel
theorem dX2_add_102 : decode cX2_add 102 = .ok (.iconst 1, 1) := by decide +kernel
theorem dX2_add_103 : decode cX2_add 103 = .ok (.isub, 1) := by decide +kernel
theorem dX2_add_104 : decode cX2_add 104 = .ok (.iaload, 1) := by decide +kernel
theorem dX2_add_105 : decode cX2_add 105 = .ok (.iastore, 1) := by decide +kernel
theorem dX2_add_106 : decode cX2_add 106 = .ok (.iinc 5 (-1), 3) := by decide +kernel
theorem dX2_add_109 : decode cX2_add 109 = .ok (.goto (-88), 3) := by decide +kernel
theorem dX2_add_112 : decode cX2_add 112 = .ok (.aload_n 0, 1) := by decide +kernel
theorem dX2_add_113 : decode cX2_add 113 = .ok (.getfield 11, 3) := by decide +kernel
theorem dX2_add_116 : decode cX2_add 116 = .ok (.iload 5, 2) := by decide +kernel
theorem dX2_add_118 : decode cX2_add 118 = .ok (.iload_n 1, 1) := by decide +kernel
theorem dX2_add_119 : decode cX2_add 119 = .ok (.iastore, 1) := by decide +kernel
theorem dX2_add_120 : decode cX2_add 120 = .ok (.aload_n 0, 1) := by decide +kernel
theorem dX2_add_121 : decode cX2_add 121 = .ok (.getfield 15, 3) := by decide +kernel
theorem dX2_add_124 : decode cX2_add 124 = .ok (.iload 5, 2) := by decide +kernel
theorem dX2_add_126 : decode cX2_add 126 = .ok (.iload_n 2, 1) := by decide +kernel
theorem dX2_add_127 : decode cX2_add 127 = .ok (.iastore, 1) := by decide +kernel
theorem dX2_add_128 : decode cX2_add 128 = .ok (.aload_n 0, 1) := by decide +kernel
theorem dX2_add_129 : decode cX2_add 129 = .ok (.getfield 18, 3) := by decide +kernel
theorem dX2_add_132 : decode cX2_add 132 = .ok (.iload 5, 2) := by decide +kernel
theorem dX2_add_134 : decode cX2_add 134 = .ok (.iload_n 3, 1) := by decide +kernel
theorem dX2_add_135 : decode cX2_add 135 = .ok (.iastore, 1) := by decide +kernel
theorem dX2_add_136 : decode cX2_add 136 = .ok (.aload_n 0, 1) := by decide +kernel
theorem dX2_add_137 : decode cX2_add 137 = .ok (.dup, 1) := by decide +kernel
theorem dX2_add_138 : decode cX2_add 138 = .ok (.getfield 21, 3) := by decide +kernel
theorem dX2_add_141 : decode cX2_add 141 = .ok (.iconst 1, 1) := by decide +kernel
theorem dX2_add_142 : decode cX2_add 142 = .ok (.iadd, 1) := by decide +kernel
theorem dX2_add_143 : decode cX2_add 143 = .ok (.putfield 21, 3) := by decide +kernel
theorem dX2_add_146 : decode cX2_add 146 = .ok (.return_, 1) := by decide +kernel
theorem dX2_actAt_0 : decode cX2_actAt 0 = .ok (.aload_n 0, 1) := by decide +kernel
theorem dX2_actAt_1 : decode cX2_actAt 1 = .ok (.getfield 25, 3) := by decide +kernel
theorem dX2_actAt_4 : decode cX2_actAt 4 = .ok (.ifCond .ne 15, 3) := by decide +kernel
theorem dX2_actAt_7 : decode cX2_actAt 7 = .ok (.iload_n 1, 1) := by decide +kernel
theorem dX2_actAt_8 : decode cX2_actAt 8 = .ok (.ifCond .lt 11, 3) := by decide +kernel
theorem dX2_actAt_11 : decode cX2_actAt 11 = .ok (.iload_n 1, 1) := by decide +kernel
theorem dX2_actAt_12 : decode cX2_actAt 12 = .ok (.aload_n 0, 1) := by decide +kernel
theorem dX2_actAt_13 : decode cX2_actAt 13 = .ok (.getfield 21, 3) := by decide +kernel
theorem dX2_actAt_16 : decode cX2_actAt 16 = .ok (.if_icmp .lt 7, 3) := by decide +kernel
theorem dX2_actAt_19 : decode cX2_actAt 19 = .ok (.iconst (-1), 1) := by decide +kernel
theorem dX2_actAt_20 : decode cX2_actAt 20 = .ok (.goto 9, 3) := by decide +kernel
theorem dX2_actAt_23 : decode cX2_actAt 23 = .ok (.aload_n 0, 1) := by decide +kernel
theorem dX2_actAt_24 : decode cX2_actAt 24 = .ok (.getfield 11, 3) := by decide +kernel
theorem dX2_actAt_27 : decode cX2_actAt 27 = .ok (.iload_n 1, 1) := by decide +kernel
theorem dX2_actAt_28 : decode cX2_actAt 28 = .ok (.iaload, 1) := by decide +kernel
theorem dX2_actAt_29 : decode cX2_actAt 29 = .ok (.ireturn, 1) := by decide +kernel
theorem dX2_whole_0 : decode cX2_whole 0 = .ok (.lconst 1, 1) := by decide +kernel
theorem dX2_whole_1 : decode cX2_whole 1 = .ok (.iconst 4, 1) := by decide +kernel
theorem dX2_whole_2 : decode cX2_whole 2 = .ok (.aload_n 0, 1) := by decide +kernel
theorem dX2_whole_3 : decode cX2_whole 3 = .ok (.getfield 21, 3) := by decide +kernel
theorem dX2_whole_6 : decode cX2_whole 6 = .ok (.imul, 1) := by decide +kernel
theorem dX2_whole_7 : decode cX2_whole 7 = .ok (.lshl, 1) := by decide +kernel
theorem dX2_whole_8 : decode cX2_whole 8 = .ok (.lreturn, 1) := by decide +kernel
theorem dX2_allWell_0 : decode cX2_allWell 0 = .ok (.lconst 1, 1) := by decide +kernel
theorem dX2_allWell_1 : decode cX2_allWell 1 = .ok (.lstore_n 1, 1) := by decide +kernel
theorem dX2_allWell_2 : decode cX2_allWell 2 = .ok (.iconst 0, 1) := by decide +kernel
theorem dX2_allWell_3 : decode cX2_allWell 3 = .ok (.istore_n 3, 1) := by decide +kernel
theorem dX2_allWell_4 : decode cX2_allWell 4 = .ok (.iload_n 3, 1) := by decide +kernel
theorem dX2_allWell_5 : decode cX2_allWell 5 = .ok (.aload_n 0, 1) := by decide +kernel
theorem dX2_allWell_6 : decode cX2_allWell 6 = .ok (.getfield 21, 3) := by decide +kernel
theorem dX2_allWell_9 : decode cX2_allWell 9 = .ok (.if_icmp .ge 22, 3) := by decide +kernel
theorem dX2_allWell_12 : decode cX2_allWell 12 = .ok (.lload_n 1, 1) := by decide +kernel
theorem dX2_allWell_13 : decode cX2_allWell 13 = .ok (.bipush 16, 2) := by decide +kernel
theorem dX2_allWell_15 : decode cX2_allWell 15 = .ok (.aload_n 0, 1) := by decide +kernel
theorem dX2_allWell_16 : decode cX2_allWell 16 = .ok (.getfield 18, 3) := by decide +kernel
theorem dX2_allWell_19 : decode cX2_allWell 19 = .ok (.iload_n 3, 1) := by decide +kernel
theorem dX2_allWell_20 : decode cX2_allWell 20 = .ok (.iaload, 1) := by decide +kernel
theorem dX2_allWell_21 : decode cX2_allWell 21 = .ok (.isub, 1) := by decide +kernel
theorem dX2_allWell_22 : decode cX2_allWell 22 = .ok (.i2l, 1) := by decide +kernel
theorem dX2_allWell_23 : decode cX2_allWell 23 = .ok (.lmul, 1) := by decide +kernel
theorem dX2_allWell_24 : decode cX2_allWell 24 = .ok (.lstore_n 1, 1) := by decide +kernel
theorem dX2_allWell_25 : decode cX2_allWell 25 = .ok (.iinc 3 1, 3) := by decide +kernel
theorem dX2_allWell_28 : decode cX2_allWell 28 = .ok (.goto (-24), 3) := by decide +kernel
theorem dX2_allWell_31 : decode cX2_allWell 31 = .ok (.lconst 1, 1) := by decide +kernel
theorem dX2_allWell_32 : decode cX2_allWell 32 = .ok (.lload_n 1, 1) := by decide +kernel
theorem dX2_allWell_33 : decode cX2_allWell 33 = .ok (.invokestatic 66, 3) := by decide +kernel
theorem dX2_allWell_36 : decode cX2_allWell 36 = .ok (.lreturn, 1) := by decide +kernel
theorem dX2_mean_0 : decode cX2_mean 0 = .ok (.aload_n 0, 1) := by decide +kernel
theorem dX2_mean_1 : decode cX2_mean 1 = .ok (.getfield 25, 3) := by decide +kernel
theorem dX2_mean_4 : decode cX2_mean 4 = .ok (.ifCond .eq 7, 3) := by decide +kernel
theorem dX2_mean_7 : decode cX2_mean 7 = .ok (.ldc2_w 70, 3) := by decide +kernel
theorem dX2_mean_10 : decode cX2_mean 10 = .ok (.lreturn, 1) := by decide +kernel
theorem dX2_mean_11 : decode cX2_mean 11 = .ok (.aload_n 0, 1) := by decide +kernel
theorem dX2_mean_12 : decode cX2_mean 12 = .ok (.invokevirtual 72, 3) := by decide +kernel
theorem dX2_mean_15 : decode cX2_mean 15 = .ok (.lstore_n 1, 1) := by decide +kernel
theorem dX2_mean_16 : decode cX2_mean 16 = .ok (.lconst 0, 1) := by decide +kernel
theorem dX2_mean_17 : decode cX2_mean 17 = .ok (.lstore_n 3, 1) := by decide +kernel
theorem dX2_mean_18 : decode cX2_mean 18 = .ok (.iconst 0, 1) := by decide +kernel
theorem dX2_mean_19 : decode cX2_mean 19 = .ok (.istore 5, 2) := by decide +kernel
theorem dX2_mean_21 : decode cX2_mean 21 = .ok (.iload 5, 2) := by decide +kernel
theorem dX2_mean_23 : decode cX2_mean 23 = .ok (.aload_n 0, 1) := by decide +kernel
theorem dX2_mean_24 : decode cX2_mean 24 = .ok (.getfield 21, 3) := by decide +kernel
theorem dX2_mean_27 : decode cX2_mean 27 = .ok (.if_icmp .ge 40, 3) := by decide +kernel
theorem dX2_mean_30 : decode cX2_mean 30 = .ok (.lload_n 3, 1) := by decide +kernel
theorem dX2_mean_31 : decode cX2_mean 31 = .ok (.aload_n 0, 1) := by decide +kernel
theorem dX2_mean_32 : decode cX2_mean 32 = .ok (.getfield 15, 3) := by decide +kernel
theorem dX2_mean_35 : decode cX2_mean 35 = .ok (.iload 5, 2) := by decide +kernel
theorem dX2_mean_37 : decode cX2_mean 37 = .ok (.iaload, 1) := by decide +kernel
theorem dX2_mean_38 : decode cX2_mean 38 = .ok (.i2l, 1) := by decide +kernel
theorem dX2_mean_39 : decode cX2_mean 39 = .ok (.lload_n 1, 1) := by decide +kernel
theorem dX2_mean_40 : decode cX2_mean 40 = .ok (.lmul, 1) := by decide +kernel
theorem dX2_mean_41 : decode cX2_mean 41 = .ok (.ladd, 1) := by decide +kernel
theorem dX2_mean_42 : decode cX2_mean 42 = .ok (.lstore_n 3, 1) := by decide +kernel
theorem dX2_mean_43 : decode cX2_mean 43 = .ok (.lload_n 1, 1) := by decide +kernel
theorem dX2_mean_44 : decode cX2_mean 44 = .ok (.ldc2_w 76, 3) := by decide +kernel
theorem dX2_mean_47 : decode cX2_mean 47 = .ok (.ldiv, 1) := by decide +kernel
theorem dX2_mean_48 : decode cX2_mean 48 = .ok (.bipush 16, 2) := by decide +kernel
theorem dX2_mean_50 : decode cX2_mean 50 = .ok (.aload_n 0, 1) := by decide +kernel
theorem dX2_mean_51 : decode cX2_mean 51 = .ok (.getfield 18, 3) := by decide +kernel
theorem dX2_mean_54 : decode cX2_mean 54 = .ok (.iload 5, 2) := by decide +kernel
theorem dX2_mean_56 : decode cX2_mean 56 = .ok (.iaload, 1) := by decide +kernel
theorem dX2_mean_57 : decode cX2_mean 57 = .ok (.isub, 1) := by decide +kernel
theorem dX2_mean_58 : decode cX2_mean 58 = .ok (.i2l, 1) := by decide +kernel
theorem dX2_mean_59 : decode cX2_mean 59 = .ok (.lmul, 1) := by decide +kernel
theorem dX2_mean_60 : decode cX2_mean 60 = .ok (.lstore_n 1, 1) := by decide +kernel
theorem dX2_mean_61 : decode cX2_mean 61 = .ok (.iinc 5 1, 3) := by decide +kernel
theorem dX2_mean_64 : decode cX2_mean 64 = .ok (.goto (-43), 3) := by decide +kernel
theorem dX2_mean_67 : decode cX2_mean 67 = .ok (.ldc2_w 78, 3) := by decide +kernel
theorem dX2_mean_70 : decode cX2_mean 70 = .ok (.lload_n 3, 1) := by decide +kernel
theorem dX2_mean_71 : decode cX2_mean 71 = .ok (.lmul, 1) := by decide +kernel
theorem dX2_mean_72 : decode cX2_mean 72 = .ok (.aload_n 0, 1) := by decide +kernel
theorem dX2_mean_73 : decode cX2_mean 73 = .ok (.invokevirtual 80, 3) := by decide +kernel
theorem dX2_mean_76 : decode cX2_mean 76 = .ok (.ldiv, 1) := by decide +kernel
theorem dX2_mean_77 : decode cX2_mean 77 = .ok (.lreturn, 1) := by decide +kernel
theorem dX2_begun_0 : decode cX2_begun 0 = .ok (.aload_n 0, 1) := by decide +kernel
theorem dX2_begun_1 : decode cX2_begun 1 = .ok (.getfield 25, 3) := by decide +kernel
theorem dX2_begun_4 : decode cX2_begun 4 = .ok (.ifCond .eq 9, 3) := by decide +kernel
theorem dX2_begun_7 : decode cX2_begun 7 = .ok (.ldc2_w 70, 3) := by decide +kernel
theorem dX2_begun_10 : decode cX2_begun 10 = .ok (.goto 16, 3) := by decide +kernel
theorem dX2_begun_13 : decode cX2_begun 13 = .ok (.ldc2_w 78, 3) := by decide +kernel
theorem dX2_begun_16 : decode cX2_begun 16 = .ok (.aload_n 0, 1) := by decide +kernel
theorem dX2_begun_17 : decode cX2_begun 17 = .ok (.invokevirtual 72, 3) := by decide +kernel
theorem dX2_begun_20 : decode cX2_begun 20 = .ok (.lmul, 1) := by decide +kernel
theorem dX2_begun_21 : decode cX2_begun 21 = .ok (.aload_n 0, 1) := by decide +kernel
theorem dX2_begun_22 : decode cX2_begun 22 = .ok (.invokevirtual 80, 3) := by decide +kernel
theorem dX2_begun_25 : decode cX2_begun 25 = .ok (.ldiv, 1) := by decide +kernel
theorem dX2_begun_26 : decode cX2_begun 26 = .ok (.lreturn, 1) := by decide +kernel
theorem dX3_init_0 : decode cX3_init 0 = .ok (.aload_n 0, 1) := by decide +kernel
theorem dX3_init_1 : decode cX3_init 1 = .ok (.invokespecial 3, 3) := by decide +kernel
theorem dX3_init_4 : decode cX3_init 4 = .ok (.aload_n 0, 1) := by decide +kernel
theorem dX3_init_5 : decode cX3_init 5 = .ok (.bipush 32, 2) := by decide +kernel
theorem dX3_init_7 : decode cX3_init 7 = .ok (.newarray .long, 2) := by decide +kernel
theorem dX3_init_9 : decode cX3_init 9 = .ok (.putfield 9, 3) := by decide +kernel
theorem dX3_init_12 : decode cX3_init 12 = .ok (.aload_n 0, 1) := by decide +kernel
theorem dX3_init_13 : decode cX3_init 13 = .ok (.bipush 16, 2) := by decide +kernel
theorem dX3_init_15 : decode cX3_init 15 = .ok (.newarray .int, 2) := by decide +kernel
theorem dX3_init_17 : decode cX3_init 17 = .ok (.putfield 15, 3) := by decide +kernel
theorem dX3_init_20 : decode cX3_init 20 = .ok (.aload_n 0, 1) := by decide +kernel
theorem dX3_init_21 : decode cX3_init 21 = .ok (.bipush 16, 2) := by decide +kernel
theorem dX3_init_23 : decode cX3_init 23 = .ok (.newarray .int, 2) := by decide +kernel
theorem dX3_init_25 : decode cX3_init 25 = .ok (.putfield 19, 3) := by decide +kernel
theorem dX3_init_28 : decode cX3_init 28 = .ok (.aload_n 0, 1) := by decide +kernel
theorem dX3_init_29 : decode cX3_init 29 = .ok (.bipush 16, 2) := by decide +kernel
theorem dX3_init_31 : decode cX3_init 31 = .ok (.newarray .int, 2) := by decide +kernel
theorem dX3_init_33 : decode cX3_init 33 = .ok (.putfield 22, 3) := by decide +kernel
theorem dX3_init_36 : decode cX3_init 36 = .ok (.return_, 1) := by decide +kernel
theorem dX3_lay_0 : decode cX3_lay 0 = .ok (.iconst 0, 1) := by decide +kernel
theorem dX3_lay_1 : decode cX3_lay 1 = .ok (.istore_n 3, 1) := by decide +kernel
theorem dX3_lay_2 : decode cX3_lay 2 = .ok (.iload_n 3, 1) := by decide +kernel
theorem dX3_lay_3 : decode cX3_lay 3 = .ok (.iconst 4, 1) := by decide +kernel
theorem dX3_lay_4 : decode cX3_lay 4 = .ok (.if_icmp .ge 106, 3) := by decide +kernel
theorem dX3_lay_7 : decode cX3_lay 7 = .ok (.lload_n 1, 1) := by decide +kernel
theorem dX3_lay_8 : decode cX3_lay 8 = .ok (.iload_n 3, 1) := by decide +kernel
theorem dX3_lay_9 : decode cX3_lay 9 = .ok (.invokestatic 25, 3) := by decide +kernel
theorem dX3_lay_12 : decode cX3_lay 12 = .ok (.lstore 4, 2) := by decide +kernel
theorem dX3_lay_14 : decode cX3_lay 14 = .ok (.iconst 0, 1) := by decide +kernel
theorem dX3_lay_15 : decode cX3_lay 15 = .ok (.istore 6, 2) := by decide +kernel
theorem dX3_lay_17 : decode cX3_lay 17 = .ok (.iload 6, 2) := by decide +kernel
theorem dX3_lay_19 : decode cX3_lay 19 = .ok (.bipush 8, 2) := by decide +kernel
theorem dX3_lay_21 : decode cX3_lay 21 = .ok (.if_icmp .ge 83, 3) := by decide +kernel
theorem dX3_lay_24 : decode cX3_lay 24 = .ok (.iload_n 3, 1) := by decide +kernel
theorem dX3_lay_25 : decode cX3_lay 25 = .ok (.iconst 2, 1) := by decide +kernel
theorem dX3_lay_26 : decode cX3_lay 26 = .ok (.if_icmp .ge 15, 3) := by decide +kernel
theorem dX3_lay_29 : decode cX3_lay 29 = .ok (.ldc2_w 31, 3) := by decide +kernel
theorem dX3_lay_32 : decode cX3_lay 32 = .ok (.bipush 8, 2) := by decide +kernel
theorem dX3_lay_34 : decode cX3_lay 34 = .ok (.iload 6, 2) := by decide +kernel
theorem dX3_lay_36 : decode cX3_lay 36 = .ok (.imul, 1) := by decide +kernel
theorem dX3_lay_37 : decode cX3_lay 37 = .ok (.lshl, 1) := by decide +kernel
theorem dX3_lay_38 : decode cX3_lay 38 = .ok (.goto 9, 3) := by decide +kernel
theorem dX3_lay_41 : decode cX3_lay 41 = .ok (.ldc2_w 33, 3) := by decide +kernel
theorem dX3_lay_44 : decode cX3_lay 44 = .ok (.iload 6, 2) := by decide +kernel
theorem dX3_lay_46 : decode cX3_lay 46 = .ok (.lshl, 1) := by decide +kernel
theorem dX3_lay_47 : decode cX3_lay 47 = .ok (.lstore 7, 2) := by decide +kernel
theorem dX3_lay_49 : decode cX3_lay 49 = .ok (.iload_n 3, 1) := by decide +kernel
theorem dX3_lay_50 : decode cX3_lay 50 = .ok (.iconst 1, 1) := by decide +kernel
theorem dX3_lay_51 : decode cX3_lay 51 = .ok (.iand, 1) := by decide +kernel
theorem dX3_lay_52 : decode cX3_lay 52 = .ok (.iconst 1, 1) := by decide +kernel
theorem dX3_lay_53 : decode cX3_lay 53 = .ok (.if_icmp .ne 16, 3) := by decide +kernel
theorem dX3_lay_56 : decode cX3_lay 56 = .ok (.lload 7, 2) := by decide +kernel
theorem dX3_lay_58 : decode cX3_lay 58 = .ok (.lload_n 1, 1) := by decide +kernel
theorem dX3_lay_59 : decode cX3_lay 59 = .ok (.land, 1) := by decide +kernel
theorem dX3_lay_60 : decode cX3_lay 60 = .ok (.lconst 0, 1) := by decide +kernel
theorem dX3_lay_61 : decode cX3_lay 61 = .ok (.lcmp, 1) := by decide +kernel
theorem dX3_lay_62 : decode cX3_lay 62 = .ok (.ifCond .ne 7, 3) := by decide +kernel
theorem dX3_lay_65 : decode cX3_lay 65 = .ok (.iconst 1, 1) := by decide +kernel
theorem dX3_lay_66 : decode cX3_lay 66 = .ok (.goto 4, 3) := by decide +kernel
theorem dX3_lay_69 : decode cX3_lay 69 = .ok (.iconst 0, 1) := by decide +kernel
theorem dX3_lay_70 : decode cX3_lay 70 = .ok (.istore 9, 2) := by decide +kernel
theorem dX3_lay_72 : decode cX3_lay 72 = .ok (.aload_n 0, 1) := by decide +kernel
theorem dX3_lay_73 : decode cX3_lay 73 = .ok (.getfield 9, 3) := by decide +kernel
theorem dX3_lay_76 : decode cX3_lay 76 = .ok (.bipush 8, 2) := by decide +kernel
theorem dX3_lay_78 : decode cX3_lay 78 = .ok (.iload_n 3, 1) := by decide +kernel
theorem dX3_lay_79 : decode cX3_lay 79 = .ok (.imul, 1) := by decide +kernel
theorem dX3_lay_80 : decode cX3_lay 80 = .ok (.iload 6, 2) := by decide +kernel
theorem dX3_lay_82 : decode cX3_lay 82 = .ok (.iadd, 1) := by decide +kernel
theorem dX3_lay_83 : decode cX3_lay 83 = .ok (.iload 9, 2) := by decide +kernel
theorem dX3_lay_85 : decode cX3_lay 85 = .ok (.ifCond .eq 7, 3) := by decide +kernel
theorem dX3_lay_88 : decode cX3_lay 88 = .ok (.lconst 0, 1) := by decide +kernel
theorem dX3_lay_89 : decode cX3_lay 89 = .ok (.goto 8, 3) := by decide +kernel
theorem dX3_lay_92 : decode cX3_lay 92 = .ok (.lload 4, 2) := by decide +kernel
theorem dX3_lay_94 : decode cX3_lay 94 = .ok (.lload 7, 2) := by decide +kernel
theorem dX3_lay_96 : decode cX3_lay 96 = .ok (.land, 1) := by decide +kernel
theorem dX3_lay_97 : decode cX3_lay 97 = .ok (.lastore, 1) := by decide +kernel
theorem dX3_lay_98 : decode cX3_lay 98 = .ok (.iinc 6 1, 3) := by decide +kernel
theorem dX3_lay_101 : decode cX3_lay 101 = .ok (.goto (-84), 3) := by decide +kernel
theorem dX3_lay_104 : decode cX3_lay 104 = .ok (.iinc 3 1, 3) := by decide +kernel
theorem dX3_lay_107 : decode cX3_lay 107 = .ok (.goto (-105), 3) := by decide +kernel
theorem dX3_lay_110 : decode cX3_lay 110 = .ok (.return_, 1) := by decide +kernel
theorem dX3_takenBy_0 : decode cX3_takenBy 0 = .ok (.iload_n 1, 1) := by decide +kernel
theorem dX3_takenBy_1 : decode cX3_takenBy 1 = .ok (.ifCond .lt 18, 3) := by decide +kernel
theorem dX3_takenBy_4 : decode cX3_takenBy 4 = .ok (.iload_n 1, 1) := by decide +kernel
theorem dX3_takenBy_5 : decode cX3_takenBy 5 = .ok (.bipush 32, 2) := by decide +kernel
theorem dX3_takenBy_7 : decode cX3_takenBy 7 = .ok (.if_icmp .ge 12, 3) := by decide +kernel
theorem dX3_takenBy_10 : decode cX3_takenBy 10 = .ok (.aload_n 0, 1) := by decide +kernel
theorem dX3_takenBy_11 : decode cX3_takenBy 11 = .ok (.getfield 9, 3) := by decide +kernel
theorem dX3_takenBy_14 : decode cX3_takenBy 14 = .ok (.iload_n 1, 1) := by decide +kernel
theorem dX3_takenBy_15 : decode cX3_takenBy 15 = .ok (.laload, 1) := by decide +kernel
theorem dX3_takenBy_16 : decode cX3_takenBy 16 = .ok (.goto 4, 3) := by decide +kernel
theorem dX3_takenBy_19 : decode cX3_takenBy 19 = .ok (.lconst 0, 1) := by decide +kernel
theorem dX3_takenBy_20 : decode cX3_takenBy 20 = .ok (.lreturn, 1) := by decide +kernel
theorem dX3_fewest_0 : decode cX3_fewest 0 = .ok (.aload_n 0, 1) := by decide +kernel
theorem dX3_fewest_1 : decode cX3_fewest 1 = .ok (.lload_n 1, 1) := by decide +kernel
theorem dX3_fewest_2 : decode cX3_fewest 2 = .ok (.lconst 0, 1) := by decide +kernel
theorem dX3_fewest_3 : decode cX3_fewest 3 = .ok (.invokevirtual 35, 3) := by decide +kernel
theorem dX3_fewest_6 : decode cX3_fewest 6 = .ok (.ireturn, 1) := by decide +kernel
theorem dX3_leastSet_0 : decode cX3_leastSet 0 = .ok (.aload_n 0, 1) := by decide +kernel
theorem dX3_leastSet_1 : decode cX3_leastSet 1 = .ok (.lload_n 1, 1) := by decide +kernel
theorem dX3_leastSet_2 : decode cX3_leastSet 2 = .ok (.invokevirtual 39, 3) := by decide +kernel
theorem dX3_leastSet_5 : decode cX3_leastSet 5 = .ok (.istore_n 3, 1) := by decide +kernel
theorem dX3_leastSet_6 : decode cX3_leastSet 6 = .ok (.lconst 0, 1) := by decide +kernel
theorem dX3_leastSet_7 : decode cX3_leastSet 7 = .ok (.lstore 4, 2) := by decide +kernel
theorem dX3_leastSet_9 : decode cX3_leastSet 9 = .ok (.lconst 0, 1) := by decide +kernel
theorem dX3_leastSet_10 : decode cX3_leastSet 10 = .ok (.lstore 6, 2) := by decide +kernel
theorem dX3_leastSet_12 : decode cX3_leastSet 12 = .ok (.bipush 31, 2) := by decide +kernel
theorem dX3_leastSet_14 : decode cX3_leastSet 14 = .ok (.istore 8, 2) := by decide +kernel
theorem dX3_leastSet_16 : decode cX3_leastSet 16 = .ok (.iload 8, 2) := by decide +kernel
theorem dX3_leastSet_18 : decode cX3_leastSet 18 = .ok (.ifCond .lt 72, 3) := by decide +kernel
theorem dX3_leastSet_21 : decode cX3_leastSet 21 = .ok (.aload_n 0, 1) := by decide +kernel
theorem dX3_leastSet_22 : decode cX3_leastSet 22 = .ok (.getfield 9, 3) := by decide +kernel
theorem dX3_leastSet_25 : decode cX3_leastSet 25 = .ok (.iload 8, 2) := by decide +kernel
theorem dX3_leastSet_27 : decode cX3_leastSet 27 = .ok (.laload, 1) := by decide +kernel
theorem dX3_leastSet_28 : decode cX3_leastSet 28 = .ok (.lload_n 1, 1) := by decide +kernel
theorem dX3_leastSet_29 : decode cX3_leastSet 29 = .ok (.land, 1) := by decide +kernel
theorem dX3_leastSet_30 : decode cX3_leastSet 30 = .ok (.lconst 0, 1) := by decide +kernel
theorem dX3_leastSet_31 : decode cX3_leastSet 31 = .ok (.lcmp, 1) := by decide +kernel
theorem dX3_leastSet_32 : decode cX3_leastSet 32 = .ok (.ifCond .ne 7, 3) := by decide +kernel
theorem dX3_leastSet_35 : decode cX3_leastSet 35 = .ok (.iconst 1, 1) := by decide +kernel
theorem dX3_leastSet_36 : decode cX3_leastSet 36 = .ok (.goto 4, 3) := by decide +kernel
theorem dX3_leastSet_39 : decode cX3_leastSet 39 = .ok (.iconst 0, 1) := by decide +kernel
theorem dX3_leastSet_40 : decode cX3_leastSet 40 = .ok (.istore 9, 2) := by decide +kernel
theorem dX3_leastSet_42 : decode cX3_leastSet 42 = .ok (.iload 9, 2) := by decide +kernel
theorem dX3_leastSet_44 : decode cX3_leastSet 44 = .ok (.ifCond .ne 19, 3) := by decide +kernel
theorem dX3_leastSet_47 : decode cX3_leastSet 47 = .ok (.aload_n 0, 1) := by decide +kernel
theorem dX3_leastSet_48 : decode cX3_leastSet 48 = .ok (.lload_n 1, 1) := by decide +kernel
theorem dX3_leastSet_49 : decode cX3_leastSet 49 = .ok (.lload 4, 2) := by decide +kernel
theorem dX3_leastSet_51 : decode cX3_leastSet 51 = .ok (.lconst 1, 1) := by decide +kernel
theorem dX3_leastSet_52 : decode cX3_leastSet 52 = .ok (.iload 8, 2) := by decide +kernel
theorem dX3_leastSet_54 : decode cX3_leastSet 54 = .ok (.lshl, 1) := by decide +kernel
theorem dX3_leastSet_55 : decode cX3_leastSet 55 = .ok (.lor, 1) := by decide +kernel
theorem dX3_leastSet_56 : decode cX3_leastSet 56 = .ok (.invokevirtual 35, 3) := by decide +kernel
theorem dX3_leastSet_59 : decode cX3_leastSet 59 = .ok (.iload_n 3, 1) := by decide +kernel
theorem dX3_leastSet_60 : decode cX3_leastSet 60 = .ok (.if_icmp .ne 15, 3) := by decide +kernel
theorem dX3_leastSet_63 : decode cX3_leastSet 63 = .ok (.lload 4, 2) := by decide +kernel
theorem dX3_leastSet_65 : decode cX3_leastSet 65 = .ok (.lconst 1, 1) := by decide +kernel
theorem dX3_leastSet_66 : decode cX3_leastSet 66 = .ok (.iload 8, 2) := by decide +kernel
theorem dX3_leastSet_68 : decode cX3_leastSet 68 = .ok (.lshl, 1) := by decide +kernel
theorem dX3_leastSet_69 : decode cX3_leastSet 69 = .ok (.lor, 1) := by decide +kernel
theorem dX3_leastSet_70 : decode cX3_leastSet 70 = .ok (.lstore 4, 2) := by decide +kernel
theorem dX3_leastSet_72 : decode cX3_leastSet 72 = .ok (.goto 12, 3) := by decide +kernel
theorem dX3_leastSet_75 : decode cX3_leastSet 75 = .ok (.lload 6, 2) := by decide +kernel
theorem dX3_leastSet_77 : decode cX3_leastSet 77 = .ok (.lconst 1, 1) := by decide +kernel
theorem dX3_leastSet_78 : decode cX3_leastSet 78 = .ok (.iload 8, 2) := by decide +kernel
theorem dX3_leastSet_80 : decode cX3_leastSet 80 = .ok (.lshl, 1) := by decide +kernel
theorem dX3_leastSet_81 : decode cX3_leastSet 81 = .ok (.lor, 1) := by decide +kernel
theorem dX3_leastSet_82 : decode cX3_leastSet 82 = .ok (.lstore 6, 2) := by decide +kernel
theorem dX3_leastSet_84 : decode cX3_leastSet 84 = .ok (.iinc 8 (-1), 3) := by decide +kernel
theorem dX3_leastSet_87 : decode cX3_leastSet 87 = .ok (.goto (-71), 3) := by decide +kernel
theorem dX3_leastSet_90 : decode cX3_leastSet 90 = .ok (.lload 6, 2) := by decide +kernel
theorem dX3_leastSet_92 : decode cX3_leastSet 92 = .ok (.lreturn, 1) := by decide +kernel
theorem dX3_fewestWithout_0 : decode cX3_fewestWithout 0 = .ok (.aload_n 0, 1) := by decide +kernel
theorem dX3_fewestWithout_1 : decode cX3_fewestWithout 1 = .ok (.iconst 0, 1) := by decide +kernel
theorem dX3_fewestWithout_2 : decode cX3_fewestWithout 2 = .ok (.lload_n 3, 1) := by decide +kernel
theorem dX3_fewestWithout_3 : decode cX3_fewestWithout 3 = .ok (.invokevirtual 43, 3) := by decide +kernel
theorem dX3_fewestWithout_6 : decode cX3_fewestWithout 6 = .ok (.lstore 5, 2) := by decide +kernel
theorem dX3_fewestWithout_8 : decode cX3_fewestWithout 8 = .ok (.aload_n 0, 1) := by decide +kernel
theorem dX3_fewestWithout_9 : decode cX3_fewestWithout 9 = .ok (.bipush 16, 2) := by decide +kernel
theorem dX3_fewestWithout_11 : decode cX3_fewestWithout 11 = .ok (.lload_n 3, 1) := by decide +kernel
theorem dX3_fewestWithout_12 : decode cX3_fewestWithout 12 = .ok (.invokevirtual 43, 3) := by decide +kernel
theorem dX3_fewestWithout_15 : decode cX3_fewestWithout 15 = .ok (.lstore 7, 2) := by decide +kernel
theorem dX3_fewestWithout_17 : decode cX3_fewestWithout 17 = .ok (.lload_n 1, 1) := by decide +kernel
theorem dX3_fewestWithout_18 : decode cX3_fewestWithout 18 = .ok (.lload 5, 2) := by decide +kernel
theorem dX3_fewestWithout_20 : decode cX3_fewestWithout 20 = .ok (.ldc2_w 47, 3) := by decide +kernel
theorem dX3_fewestWithout_23 : decode cX3_fewestWithout 23 = .ok (.lxor, 1) := by decide +kernel
theorem dX3_fewestWithout_24 : decode cX3_fewestWithout 24 = .ok (.land, 1) := by decide +kernel
theorem dX3_fewestWithout_25 : decode cX3_fewestWithout 25 = .ok (.lload 7, 2) := by decide +kernel
theorem dX3_fewestWithout_27 : decode cX3_fewestWithout 27 = .ok (.ldc2_w 47, 3) := by decide +kernel
theorem dX3_fewestWithout_30 : decode cX3_fewestWithout 30 = .ok (.lxor, 1) := by decide +kernel
theorem dX3_fewestWithout_31 : decode cX3_fewestWithout 31 = .ok (.land, 1) := by decide +kernel
theorem dX3_fewestWithout_32 : decode cX3_fewestWithout 32 = .ok (.lconst 0, 1) := by decide +kernel
theorem dX3_fewestWithout_33 : decode cX3_fewestWithout 33 = .ok (.lcmp, 1) := by decide +kernel
theorem dX3_fewestWithout_34 : decode cX3_fewestWithout 34 = .ok (.ifCond .eq 7, 3) := by decide +kernel
theorem dX3_fewestWithout_37 : decode cX3_fewestWithout 37 = .ok (.sipush 1000, 3) := by decide +kernel
theorem dX3_fewestWithout_40 : decode cX3_fewestWithout 40 = .ok (.ireturn, 1) := by decide +kernel
theorem dX3_fewestWithout_41 : decode cX3_fewestWithout 41 = .ok (.lload_n 1, 1) := by decide +kernel
theorem dX3_fewestWithout_42 : decode cX3_fewestWithout 42 = .ok (.lload 5, 2) := by decide +kernel
theorem dX3_fewestWithout_44 : decode cX3_fewestWithout 44 = .ok (.lload 7, 2) := by decide +kernel
theorem dX3_fewestWithout_46 : decode cX3_fewestWithout 46 = .ok (.lxor, 1) := by decide +kernel
theorem dX3_fewestWithout_47 : decode cX3_fewestWithout 47 = .ok (.land, 1) := by decide +kernel
theorem dX3_fewestWithout_48 : decode cX3_fewestWithout 48 = .ok (.lstore 9, 2) := by decide +kernel
theorem dX3_fewestWithout_50 : decode cX3_fewestWithout 50 = .ok (.lload_n 1, 1) := by decide +kernel
theorem dX3_fewestWithout_51 : decode cX3_fewestWithout 51 = .ok (.lstore 11, 2) := by decide +kernel
theorem dX3_fewestWithout_53 : decode cX3_fewestWithout 53 = .ok (.iconst 0, 1) := by decide +kernel
theorem dX3_fewestWithout_54 : decode cX3_fewestWithout 54 = .ok (.istore 13, 2) := by decide +kernel
theorem dX3_fewestWithout_56 : decode cX3_fewestWithout 56 = .ok (.iconst 0, 1) := by decide +kernel
theorem dX3_fewestWithout_57 : decode cX3_fewestWithout 57 = .ok (.istore 14, 2) := by decide +kernel
theorem dX3_fewestWithout_59 : decode cX3_fewestWithout 59 = .ok (.iload 14, 2) := by decide +kernel
theorem dX3_fewestWithout_61 : decode cX3_fewestWithout 61 = .ok (.bipush 32, 2) := by decide +kernel
theorem dX3_fewestWithout_63 : decode cX3_fewestWithout 63 = .ok (.if_icmp .ge 54, 3) := by decide +kernel
theorem dX3_fewestWithout_66 : decode cX3_fewestWithout 66 = .ok (.lload_n 3, 1) := by decide +kernel
theorem dX3_fewestWithout_67 : decode cX3_fewestWithout 67 = .ok (.lconst 1, 1) := by decide +kernel
theorem dX3_fewestWithout_68 : decode cX3_fewestWithout 68 = .ok (.iload 14, 2) := by decide +kernel
theorem dX3_fewestWithout_70 : decode cX3_fewestWithout 70 = .ok (.lshl, 1) := by decide +kernel
theorem dX3_fewestWithout_71 : decode cX3_fewestWithout 71 = .ok (.land, 1) := by decide +kernel
theorem dX3_fewestWithout_72 : decode cX3_fewestWithout 72 = .ok (.lconst 0, 1) := by decide +kernel
theorem dX3_fewestWithout_73 : decode cX3_fewestWithout 73 = .ok (.lcmp, 1) := by decide +kernel
theorem dX3_fewestWithout_74 : decode cX3_fewestWithout 74 = .ok (.ifCond .ne 37, 3) := by decide +kernel
theorem dX3_fewestWithout_77 : decode cX3_fewestWithout 77 = .ok (.aload_n 0, 1) := by decide +kernel
theorem dX3_fewestWithout_78 : decode cX3_fewestWithout 78 = .ok (.getfield 9, 3) := by decide +kernel
theorem dX3_fewestWithout_81 : decode cX3_fewestWithout 81 = .ok (.iload 14, 2) := by decide +kernel
theorem dX3_fewestWithout_83 : decode cX3_fewestWithout 83 = .ok (.laload, 1) := by decide +kernel
theorem dX3_fewestWithout_84 : decode cX3_fewestWithout 84 = .ok (.lload 9, 2) := by decide +kernel
theorem dX3_fewestWithout_86 : decode cX3_fewestWithout 86 = .ok (.land, 1) := by decide +kernel
theorem dX3_fewestWithout_87 : decode cX3_fewestWithout 87 = .ok (.lconst 0, 1) := by decide +kernel
theorem dX3_fewestWithout_88 : decode cX3_fewestWithout 88 = .ok (.lcmp, 1) := by decide +kernel
theorem dX3_fewestWithout_89 : decode cX3_fewestWithout 89 = .ok (.ifCond .eq 22, 3) := by decide +kernel
theorem dX3_fewestWithout_92 : decode cX3_fewestWithout 92 = .ok (.iinc 13 1, 3) := by decide +kernel
theorem dX3_fewestWithout_95 : decode cX3_fewestWithout 95 = .ok (.lload 11, 2) := by decide +kernel
theorem dX3_fewestWithout_97 : decode cX3_fewestWithout 97 = .ok (.aload_n 0, 1) := by decide +kernel
theorem dX3_fewestWithout_98 : decode cX3_fewestWithout 98 = .ok (.getfield 9, 3) := by decide +kernel
theorem dX3_fewestWithout_101 : decode cX3_fewestWithout 101 = .ok (.iload 14, 2) := by decide +kernel
theorem dX3_fewestWithout_103 : decode cX3_fewestWithout 103 = .ok (.laload, 1) := by decide +kernel
theorem dX3_fewestWithout_104 : decode cX3_fewestWithout 104 = .ok (.ldc2_w 47, 3) := by decide +kernel
theorem dX3_fewestWithout_107 : decode cX3_fewestWithout 107 = .ok (.lxor, 1) := by decide +kernel
theorem dX3_fewestWithout_108 : decode cX3_fewestWithout 108 = .ok (.land, 1) := by decide +kernel
theorem dX3_fewestWithout_109 : decode cX3_fewestWithout 109 = .ok (.lstore 11, 2) := by decide +kernel
theorem dX3_fewestWithout_111 : decode cX3_fewestWithout 111 = .ok (.iinc 14 1, 3) := by decide +kernel
theorem dX3_fewestWithout_114 : decode cX3_fewestWithout 114 = .ok (.goto (-55), 3) := by decide +kernel
theorem dX3_fewestWithout_117 : decode cX3_fewestWithout 117 = .ok (.aload_n 0, 1) := by decide +kernel
theorem dX3_fewestWithout_118 : decode cX3_fewestWithout 118 = .ok (.lload 11, 2) := by decide +kernel
theorem dX3_fewestWithout_120 : decode cX3_fewestWithout 120 = .ok (.invokevirtual 49, 3) := by decide +kernel
theorem dX3_fewestWithout_123 : decode cX3_fewestWithout 123 = .ok (.iload 13, 2) := by decide +kernel
theorem dX3_fewestWithout_125 : decode cX3_fewestWithout 125 = .ok (.aload_n 0, 1) := by decide +kernel
theorem dX3_fewestWithout_126 : decode cX3_fewestWithout 126 = .ok (.invokevirtual 53, 3) := by decide +kernel
theorem dX3_fewestWithout_129 : decode cX3_fewestWithout 129 = .ok (.iadd, 1) := by decide +kernel
theorem dX3_fewestWithout_130 : decode cX3_fewestWithout 130 = .ok (.ireturn, 1) := by decide +kernel
theorem dX3_takenByAny_0 : decode cX3_takenByAny 0 = .ok (.lconst 0, 1) := by decide +kernel
theorem dX3_takenByAny_1 : decode cX3_takenByAny 1 = .ok (.lstore 4, 2) := by decide +kernel
theorem dX3_takenByAny_3 : decode cX3_takenByAny 3 = .ok (.iload_n 1, 1) := by decide +kernel
theorem dX3_takenByAny_4 : decode cX3_takenByAny 4 = .ok (.istore 6, 2) := by decide +kernel
theorem dX3_takenByAny_6 : decode cX3_takenByAny 6 = .ok (.iload 6, 2) := by decide +kernel
theorem dX3_takenByAny_8 : decode cX3_takenByAny 8 = .ok (.ifCond .lt 48, 3) := by decide +kernel
theorem dX3_takenByAny_11 : decode cX3_takenByAny 11 = .ok (.iload 6, 2) := by decide +kernel
theorem dX3_takenByAny_13 : decode cX3_takenByAny 13 = .ok (.iload_n 1, 1) := by decide +kernel
theorem dX3_takenByAny_14 : decode cX3_takenByAny 14 = .ok (.bipush 16, 2) := by decide +kernel
theorem dX3_takenByAny_16 : decode cX3_takenByAny 16 = .ok (.iadd, 1) := by decide +kernel
theorem dX3_takenByAny_17 : decode cX3_takenByAny 17 = .ok (.if_icmp .ge 39, 3) := by decide +kernel
theorem dX3_takenByAny_20 : decode cX3_takenByAny 20 = .ok (.iload 6, 2) := by decide +kernel
theorem dX3_takenByAny_22 : decode cX3_takenByAny 22 = .ok (.bipush 32, 2) := by decide +kernel
theorem dX3_takenByAny_24 : decode cX3_takenByAny 24 = .ok (.if_icmp .ge 32, 3) := by decide +kernel
theorem dX3_takenByAny_27 : decode cX3_takenByAny 27 = .ok (.lload_n 2, 1) := by decide +kernel
theorem dX3_takenByAny_28 : decode cX3_takenByAny 28 = .ok (.lconst 1, 1) := by decide +kernel
theorem dX3_takenByAny_29 : decode cX3_takenByAny 29 = .ok (.iload 6, 2) := by decide +kernel
theorem dX3_takenByAny_31 : decode cX3_takenByAny 31 = .ok (.lshl, 1) := by decide +kernel
theorem dX3_takenByAny_32 : decode cX3_takenByAny 32 = .ok (.land, 1) := by decide +kernel
theorem dX3_takenByAny_33 : decode cX3_takenByAny 33 = .ok (.lconst 0, 1) := by decide +kernel
theorem dX3_takenByAny_34 : decode cX3_takenByAny 34 = .ok (.lcmp, 1) := by decide +kernel
theorem dX3_takenByAny_35 : decode cX3_takenByAny 35 = .ok (.ifCond .ne 15, 3) := by decide +kernel
theorem dX3_takenByAny_38 : decode cX3_takenByAny 38 = .ok (.lload 4, 2) := by decide +kernel
theorem dX3_takenByAny_40 : decode cX3_takenByAny 40 = .ok (.aload_n 0, 1) := by decide +kernel
theorem dX3_takenByAny_41 : decode cX3_takenByAny 41 = .ok (.getfield 9, 3) := by decide +kernel
theorem dX3_takenByAny_44 : decode cX3_takenByAny 44 = .ok (.iload 6, 2) := by decide +kernel
theorem dX3_takenByAny_46 : decode cX3_takenByAny 46 = .ok (.laload, 1) := by decide +kernel
theorem dX3_takenByAny_47 : decode cX3_takenByAny 47 = .ok (.lor, 1) := by decide +kernel
theorem dX3_takenByAny_48 : decode cX3_takenByAny 48 = .ok (.lstore 4, 2) := by decide +kernel
theorem dX3_takenByAny_50 : decode cX3_takenByAny 50 = .ok (.iinc 6 1, 3) := by decide +kernel
theorem dX3_takenByAny_53 : decode cX3_takenByAny 53 = .ok (.goto (-47), 3) := by decide +kernel
theorem dX3_takenByAny_56 : decode cX3_takenByAny 56 = .ok (.lload 4, 2) := by decide +kernel
theorem dX3_takenByAny_58 : decode cX3_takenByAny 58 = .ok (.lreturn, 1) := by decide +kernel
theorem dX3_layCrossings_0 : decode cX3_layCrossings 0 = .ok (.iconst 0, 1) := by decide +kernel
theorem dX3_layCrossings_1 : decode cX3_layCrossings 1 = .ok (.istore_n 3, 1) := by decide +kernel
theorem dX3_layCrossings_2 : decode cX3_layCrossings 2 = .ok (.iload_n 3, 1) := by decide +kernel
theorem dX3_layCrossings_3 : decode cX3_layCrossings 3 = .ok (.bipush 16, 2) := by decide +kernel
theorem dX3_layCrossings_5 : decode cX3_layCrossings 5 = .ok (.if_icmp .ge 80, 3) := by decide +kernel
theorem dX3_layCrossings_8 : decode cX3_layCrossings 8 = .ok (.aload_n 0, 1) := by decide +kernel
theorem dX3_layCrossings_9 : decode cX3_layCrossings 9 = .ok (.getfield 15, 3) := by decide +kernel
theorem dX3_layCrossings_12 : decode cX3_layCrossings 12 = .ok (.iload_n 3, 1) := by decide +kernel
theorem dX3_layCrossings_13 : decode cX3_layCrossings 13 = .ok (.iconst 0, 1) := by decide +kernel
theorem dX3_layCrossings_14 : decode cX3_layCrossings 14 = .ok (.iastore, 1) := by decide +kernel
theorem dX3_layCrossings_15 : decode cX3_layCrossings 15 = .ok (.aload_n 0, 1) := by decide +kernel
theorem dX3_layCrossings_16 : decode cX3_layCrossings 16 = .ok (.getfield 9, 3) := by decide +kernel
theorem dX3_layCrossings_19 : decode cX3_layCrossings 19 = .ok (.iload_n 3, 1) := by decide +kernel
theorem dX3_layCrossings_20 : decode cX3_layCrossings 20 = .ok (.laload, 1) := by decide +kernel
theorem dX3_layCrossings_21 : decode cX3_layCrossings 21 = .ok (.lload_n 1, 1) := by decide +kernel
theorem dX3_layCrossings_22 : decode cX3_layCrossings 22 = .ok (.land, 1) := by decide +kernel
theorem dX3_layCrossings_23 : decode cX3_layCrossings 23 = .ok (.lstore 4, 2) := by decide +kernel
theorem dX3_layCrossings_25 : decode cX3_layCrossings 25 = .ok (.iconst 0, 1) := by decide +kernel
theorem dX3_layCrossings_26 : decode cX3_layCrossings 26 = .ok (.istore 6, 2) := by decide +kernel
theorem dX3_layCrossings_28 : decode cX3_layCrossings 28 = .ok (.iload 6, 2) := by decide +kernel
theorem dX3_layCrossings_30 : decode cX3_layCrossings 30 = .ok (.bipush 16, 2) := by decide +kernel
theorem dX3_layCrossings_32 : decode cX3_layCrossings 32 = .ok (.if_icmp .ge 47, 3) := by decide +kernel
theorem dX3_layCrossings_35 : decode cX3_layCrossings 35 = .ok (.lload 4, 2) := by decide +kernel
theorem dX3_layCrossings_37 : decode cX3_layCrossings 37 = .ok (.lconst 0, 1) := by decide +kernel
theorem dX3_layCrossings_38 : decode cX3_layCrossings 38 = .ok (.lcmp, 1) := by decide +kernel
theorem dX3_layCrossings_39 : decode cX3_layCrossings 39 = .ok (.ifCond .eq 40, 3) := by decide +kernel
theorem dX3_layCrossings_42 : decode cX3_layCrossings 42 = .ok (.lload 4, 2) := by decide +kernel
theorem dX3_layCrossings_44 : decode cX3_layCrossings 44 = .ok (.aload_n 0, 1) := by decide +kernel
theorem dX3_layCrossings_45 : decode cX3_layCrossings 45 = .ok (.getfield 9, 3) := by decide +kernel
theorem dX3_layCrossings_48 : decode cX3_layCrossings 48 = .ok (.bipush 16, 2) := by decide +kernel
theorem dX3_layCrossings_50 : decode cX3_layCrossings 50 = .ok (.iload 6, 2) := by decide +kernel
theorem dX3_layCrossings_52 : decode cX3_layCrossings 52 = .ok (.iadd, 1) := by decide +kernel
theorem dX3_layCrossings_53 : decode cX3_layCrossings 53 = .ok (.laload, 1) := by decide +kernel
theorem dX3_layCrossings_54 : decode cX3_layCrossings 54 = .ok (.land, 1) := by decide +kernel
theorem dX3_layCrossings_55 : decode cX3_layCrossings 55 = .ok (.lconst 0, 1) := by decide +kernel
theorem dX3_layCrossings_56 : decode cX3_layCrossings 56 = .ok (.lcmp, 1) := by decide +kernel
theorem dX3_layCrossings_57 : decode cX3_layCrossings 57 = .ok (.ifCond .eq 16, 3) := by decide +kernel
theorem dX3_layCrossings_60 : decode cX3_layCrossings 60 = .ok (.aload_n 0, 1) := by decide +kernel
theorem dX3_layCrossings_61 : decode cX3_layCrossings 61 = .ok (.getfield 15, 3) := by decide +kernel
theorem dX3_layCrossings_64 : decode cX3_layCrossings 64 = .ok (.iload_n 3, 1) := by decide +kernel
theorem dX3_layCrossings_65 : decode cX3_layCrossings 65 = .ok (.dup2, 1) := by decide +kernel
theorem dX3_layCrossings_66 : decode cX3_layCrossings 66 = .ok (.iaload, 1) := by decide +kernel
theorem dX3_layCrossings_67 : decode cX3_layCrossings 67 = .ok (.iconst 1, 1) := by decide +kernel
theorem dX3_layCrossings_68 : decode cX3_layCrossings 68 = .ok (.iload 6, 2) := by decide +kernel
theorem dX3_layCrossings_70 : decode cX3_layCrossings 70 = .ok (.ishl, 1) := by decide +kernel
theorem dX3_layCrossings_71 : decode cX3_layCrossings 71 = .ok (.ior, 1) := by decide +kernel
theorem dX3_layCrossings_72 : decode cX3_layCrossings 72 = .ok (.iastore, 1) := by decide +kernel
theorem dX3_layCrossings_73 : decode cX3_layCrossings 73 = .ok (.iinc 6 1, 3) := by decide +kernel
theorem dX3_layCrossings_76 : decode cX3_layCrossings 76 = .ok (.goto (-48), 3) := by decide +kernel
theorem dX3_layCrossings_79 : decode cX3_layCrossings 79 = .ok (.iinc 3 1, 3) := by decide +kernel
theorem dX3_layCrossings_82 : decode cX3_layCrossings 82 = .ok (.goto (-80), 3) := by decide +kernel
theorem dX3_layCrossings_85 : decode cX3_layCrossings 85 = .ok (.return_, 1) := by decide +kernel
theorem dX3_mostPairs_0 : decode cX3_mostPairs 0 = .ok (.aload_n 0, 1) := by decide +kernel
theorem dX3_mostPairs_1 : decode cX3_mostPairs 1 = .ok (.getfield 19, 3) := by decide +kernel
theorem dX3_mostPairs_4 : decode cX3_mostPairs 4 = .ok (.iconst (-1), 1) := by decide +kernel
theorem dX3_mostPairs_5 : decode cX3_mostPairs 5 = .ok (.invokestatic 57, 3) := by decide +kernel
theorem dX3_mostPairs_8 : decode cX3_mostPairs 8 = .ok (.iconst 0, 1) := by decide +kernel
theorem dX3_mostPairs_9 : decode cX3_mostPairs 9 = .ok (.istore_n 1, 1) := by decide +kernel
theorem dX3_mostPairs_10 : decode cX3_mostPairs 10 = .ok (.iconst 0, 1) := by decide +kernel
theorem dX3_mostPairs_11 : decode cX3_mostPairs 11 = .ok (.istore_n 2, 1) := by decide +kernel
theorem dX3_mostPairs_12 : decode cX3_mostPairs 12 = .ok (.iload_n 2, 1) := by decide +kernel
theorem dX3_mostPairs_13 : decode cX3_mostPairs 13 = .ok (.bipush 16, 2) := by decide +kernel
theorem dX3_mostPairs_15 : decode cX3_mostPairs 15 = .ok (.if_icmp .ge 49, 3) := by decide +kernel
theorem dX3_mostPairs_18 : decode cX3_mostPairs 18 = .ok (.aload_n 0, 1) := by decide +kernel
theorem dX3_mostPairs_19 : decode cX3_mostPairs 19 = .ok (.getfield 22, 3) := by decide +kernel
theorem dX3_mostPairs_22 : decode cX3_mostPairs 22 = .ok (.iconst 0, 1) := by decide +kernel
theorem dX3_mostPairs_23 : decode cX3_mostPairs 23 = .ok (.invokestatic 57, 3) := by decide +kernel
theorem dX3_mostPairs_26 : decode cX3_mostPairs 26 = .ok (.aload_n 0, 1) := by decide +kernel
theorem dX3_mostPairs_27 : decode cX3_mostPairs 27 = .ok (.getfield 15, 3) := by decide +kernel
theorem dX3_mostPairs_30 : decode cX3_mostPairs 30 = .ok (.iload_n 2, 1) := by decide +kernel
theorem dX3_mostPairs_31 : decode cX3_mostPairs 31 = .ok (.iaload, 1) := by decide +kernel
theorem dX3_mostPairs_32 : decode cX3_mostPairs 32 = .ok (.ifCond .eq 26, 3) := by decide +kernel
theorem dX3_mostPairs_35 : decode cX3_mostPairs 35 = .ok (.aload_n 0, 1) := by decide +kernel
theorem dX3_mostPairs_36 : decode cX3_mostPairs 36 = .ok (.getfield 15, 3) := by decide +kernel
theorem dX3_mostPairs_39 : decode cX3_mostPairs 39 = .ok (.aload_n 0, 1) := by decide +kernel
theorem dX3_mostPairs_40 : decode cX3_mostPairs 40 = .ok (.getfield 19, 3) := by decide +kernel
theorem dX3_mostPairs_43 : decode cX3_mostPairs 43 = .ok (.aload_n 0, 1) := by decide +kernel
theorem dX3_mostPairs_44 : decode cX3_mostPairs 44 = .ok (.getfield 22, 3) := by decide +kernel
theorem dX3_mostPairs_47 : decode cX3_mostPairs 47 = .ok (.iload_n 2, 1) := by decide +kernel
theorem dX3_mostPairs_48 : decode cX3_mostPairs 48 = .ok (.iconst 0, 1) := by decide +kernel
theorem dX3_mostPairs_49 : decode cX3_mostPairs 49 = .ok (.invokestatic 63, 3) := by decide +kernel
theorem dX3_mostPairs_52 : decode cX3_mostPairs 52 = .ok (.ifCond .eq 6, 3) := by decide +kernel
theorem dX3_mostPairs_55 : decode cX3_mostPairs 55 = .ok (.iinc 1 1, 3) := by decide +kernel
theorem dX3_mostPairs_58 : decode cX3_mostPairs 58 = .ok (.iinc 2 1, 3) := by decide +kernel
theorem dX3_mostPairs_61 : decode cX3_mostPairs 61 = .ok (.goto (-49), 3) := by decide +kernel
theorem dX3_mostPairs_64 : decode cX3_mostPairs 64 = .ok (.iload_n 1, 1) := by decide +kernel
theorem dX3_mostPairs_65 : decode cX3_mostPairs 65 = .ok (.ireturn, 1) := by decide +kernel
theorem dX3_findsMate_0 : decode cX3_findsMate 0 = .ok (.iload 4, 2) := by decide +kernel
theorem dX3_findsMate_2 : decode cX3_findsMate 2 = .ok (.bipush 16, 2) := by decide +kernel
theorem dX3_findsMate_4 : decode cX3_findsMate 4 = .ok (.if_icmp .gt 13, 3) := by decide +kernel
theorem dX3_findsMate_7 : decode cX3_findsMate 7 = .ok (.iload_n 3, 1) := by decide +kernel
theorem dX3_findsMate_8 : decode cX3_findsMate 8 = .ok (.ifCond .lt 9, 3) := by decide +kernel
theorem dX3_findsMate_11 : decode cX3_findsMate 11 = .ok (.iload_n 3, 1) := by decide +kernel
theorem dX3_findsMate_12 : decode cX3_findsMate 12 = .ok (.bipush 16, 2) := by decide +kernel
theorem dX3_findsMate_14 : decode cX3_findsMate 14 = .ok (.if_icmp .lt 5, 3) := by decide +kernel
theorem dX3_findsMate_17 : decode cX3_findsMate 17 = .ok (.iconst 0, 1) := by decide +kernel
theorem dX3_findsMate_18 : decode cX3_findsMate 18 = .ok (.ireturn, 1) := by decide +kernel
theorem dX3_findsMate_19 : decode cX3_findsMate 19 = .ok (.iconst 0, 1) := by decide +kernel
theorem dX3_findsMate_20 : decode cX3_findsMate 20 = .ok (.istore 5, 2) := by decide +kernel
theorem dX3_findsMate_22 : decode cX3_findsMate 22 = .ok (.iload 5, 2) := by decide +kernel
theorem dX3_findsMate_24 : decode cX3_findsMate 24 = .ok (.bipush 16, 2) := by decide +kernel
theorem dX3_findsMate_26 : decode cX3_findsMate 26 = .ok (.if_icmp .ge 67, 3) := by decide +kernel
theorem dX3_findsMate_29 : decode cX3_findsMate 29 = .ok (.aload_n 0, 1) := by decide +kernel
theorem dX3_findsMate_30 : decode cX3_findsMate 30 = .ok (.iload_n 3, 1) := by decide +kernel
theorem dX3_findsMate_31 : decode cX3_findsMate 31 = .ok (.iaload, 1) := by decide +kernel
theorem dX3_findsMate_32 : decode cX3_findsMate 32 = .ok (.iconst 1, 1) := by decide +kernel
theorem dX3_findsMate_33 : decode cX3_findsMate 33 = .ok (.iload 5, 2) := by decide +kernel
theorem dX3_findsMate_35 : decode cX3_findsMate 35 = .ok (.ishl, 1) := by decide +kernel
theorem dX3_findsMate_36 : decode cX3_findsMate 36 = .ok (.iand, 1) := by decide +kernel
theorem dX3_findsMate_37 : decode cX3_findsMate 37 = .ok (.ifCond .eq 50, 3) := by decide +kernel
theorem dX3_findsMate_40 : decode cX3_findsMate 40 = .ok (.aload_n 2, 1) := by decide +kernel
theorem dX3_findsMate_41 : decode cX3_findsMate 41 = .ok (.iload 5, 2) := by decide +kernel
theorem dX3_findsMate_43 : decode cX3_findsMate 43 = .ok (.iaload, 1) := by decide +kernel
theorem dX3_findsMate_44 : decode cX3_findsMate 44 = .ok (.ifCond .eq 6, 3) := by decide +kernel
theorem dX3_findsMate_47 : decode cX3_findsMate 47 = .ok (.goto 40, 3) := by decide +kernel
theorem dX3_findsMate_50 : decode cX3_findsMate 50 = .ok (.aload_n 2, 1) := by decide +kernel
theorem dX3_findsMate_51 : decode cX3_findsMate 51 = .ok (.iload 5, 2) := by decide +kernel
theorem dX3_findsMate_53 : decode cX3_findsMate 53 = .ok (.iconst 1, 1) := by decide +kernel
theorem dX3_findsMate_54 : decode cX3_findsMate 54 = .ok (.iastore, 1) := by decide +kernel
theorem dX3_findsMate_55 : decode cX3_findsMate 55 = .ok (.aload_n 1, 1) := by decide +kernel
theorem dX3_findsMate_56 : decode cX3_findsMate 56 = .ok (.iload 5, 2) := by decide +kernel
theorem dX3_findsMate_58 : decode cX3_findsMate 58 = .ok (.iaload, 1) := by decide +kernel
theorem dX3_findsMate_59 : decode cX3_findsMate 59 = .ok (.iconst (-1), 1) := by decide +kernel
theorem dX3_findsMate_60 : decode cX3_findsMate 60 = .ok (.if_icmp .eq 20, 3) := by decide +kernel
theorem dX3_findsMate_63 : decode cX3_findsMate 63 = .ok (.aload_n 0, 1) := by decide +kernel
theorem dX3_findsMate_64 : decode cX3_findsMate 64 = .ok (.aload_n 1, 1) := by decide +kernel
theorem dX3_findsMate_65 : decode cX3_findsMate 65 = .ok (.aload_n 2, 1) := by decide +kernel
theorem dX3_findsMate_66 : decode cX3_findsMate 66 = .ok (.aload_n 1, 1) := by decide +kernel
theorem dX3_findsMate_67 : decode cX3_findsMate 67 = .ok (.iload 5, 2) := by decide +kernel
theorem dX3_findsMate_69 : decode cX3_findsMate 69 = .ok (.iaload, 1) := by decide +kernel
theorem dX3_findsMate_70 : decode cX3_findsMate 70 = .ok (.iload 4, 2) := by decide +kernel
theorem dX3_findsMate_72 : decode cX3_findsMate 72 = .ok (.iconst 1, 1) := by decide +kernel
theorem dX3_findsMate_73 : decode cX3_findsMate 73 = .ok (.iadd, 1) := by decide +kernel
theorem dX3_findsMate_74 : decode cX3_findsMate 74 = .ok (.invokestatic 63, 3) := by decide +kernel
theorem dX3_findsMate_77 : decode cX3_findsMate 77 = .ok (.ifCond .eq 10, 3) := by decide +kernel
theorem dX3_findsMate_80 : decode cX3_findsMate 80 = .ok (.aload_n 1, 1) := by decide +kernel
theorem dX3_findsMate_81 : decode cX3_findsMate 81 = .ok (.iload 5, 2) := by decide +kernel
theorem dX3_findsMate_83 : decode cX3_findsMate 83 = .ok (.iload_n 3, 1) := by decide +kernel
theorem dX3_findsMate_84 : decode cX3_findsMate 84 = .ok (.iastore, 1) := by decide +kernel
theorem dX3_findsMate_85 : decode cX3_findsMate 85 = .ok (.iconst 1, 1) := by decide +kernel
theorem dX3_findsMate_86 : decode cX3_findsMate 86 = .ok (.ireturn, 1) := by decide +kernel
theorem dX3_findsMate_87 : decode cX3_findsMate 87 = .ok (.iinc 5 1, 3) := by decide +kernel
theorem dX3_findsMate_90 : decode cX3_findsMate 90 = .ok (.goto (-68), 3) := by decide +kernel
theorem dX3_findsMate_93 : decode cX3_findsMate 93 = .ok (.iconst 0, 1) := by decide +kernel
theorem dX3_findsMate_94 : decode cX3_findsMate 94 = .ok (.ireturn, 1) := by decide +kernel
theorem dX4_block_0 : decode cX4_block 0 = .ok (.iload_n 2, 1) := by decide +kernel
theorem dX4_block_1 : decode cX4_block 1 = .ok (.ifCond .gt 7, 3) := by decide +kernel
theorem dX4_block_4 : decode cX4_block 4 = .ok (.lconst 0, 1) := by decide +kernel
theorem dX4_block_5 : decode cX4_block 5 = .ok (.goto 10, 3) := by decide +kernel
theorem dX4_block_8 : decode cX4_block 8 = .ok (.lconst 1, 1) := by decide +kernel
theorem dX4_block_9 : decode cX4_block 9 = .ok (.iload_n 2, 1) := by decide +kernel
theorem dX4_block_10 : decode cX4_block 10 = .ok (.lshl, 1) := by decide +kernel
theorem dX4_block_11 : decode cX4_block 11 = .ok (.lconst 1, 1) := by decide +kernel
theorem dX4_block_12 : decode cX4_block 12 = .ok (.lsub, 1) := by decide +kernel
theorem dX4_block_13 : decode cX4_block 13 = .ok (.iload_n 0, 1) := by decide +kernel
theorem dX4_block_14 : decode cX4_block 14 = .ok (.lshl, 1) := by decide +kernel
theorem dX4_block_15 : decode cX4_block 15 = .ok (.lstore 4, 2) := by decide +kernel
theorem dX4_block_17 : decode cX4_block 17 = .ok (.lconst 0, 1) := by decide +kernel
theorem dX4_block_18 : decode cX4_block 18 = .ok (.lstore 6, 2) := by decide +kernel
theorem dX4_block_20 : decode cX4_block 20 = .ok (.iconst 0, 1) := by decide +kernel
theorem dX4_block_21 : decode cX4_block 21 = .ok (.istore 8, 2) := by decide +kernel
theorem dX4_block_23 : decode cX4_block 23 = .ok (.iload 8, 2) := by decide +kernel
theorem dX4_block_25 : decode cX4_block 25 = .ok (.iload_n 3, 1) := by decide +kernel
theorem dX4_block_26 : decode cX4_block 26 = .ok (.if_icmp .ge 24, 3) := by decide +kernel
theorem dX4_block_29 : decode cX4_block 29 = .ok (.lload 6, 2) := by decide +kernel
theorem dX4_block_31 : decode cX4_block 31 = .ok (.lload 4, 2) := by decide +kernel
theorem dX4_block_33 : decode cX4_block 33 = .ok (.bipush 8, 2) := by decide +kernel
theorem dX4_block_35 : decode cX4_block 35 = .ok (.iload_n 1, 1) := by decide +kernel
theorem dX4_block_36 : decode cX4_block 36 = .ok (.iload 8, 2) := by decide +kernel
theorem dX4_block_38 : decode cX4_block 38 = .ok (.iadd, 1) := by decide +kernel
theorem dX4_block_39 : decode cX4_block 39 = .ok (.imul, 1) := by decide +kernel
theorem dX4_block_40 : decode cX4_block 40 = .ok (.lshl, 1) := by decide +kernel
theorem dX4_block_41 : decode cX4_block 41 = .ok (.lor, 1) := by decide +kernel
theorem dX4_block_42 : decode cX4_block 42 = .ok (.lstore 6, 2) := by decide +kernel
theorem dX4_block_44 : decode cX4_block 44 = .ok (.iinc 8 1, 3) := by decide +kernel
theorem dX4_block_47 : decode cX4_block 47 = .ok (.goto (-24), 3) := by decide +kernel
theorem dX4_block_50 : decode cX4_block 50 = .ok (.lload 6, 2) := by decide +kernel
theorem dX4_block_52 : decode cX4_block 52 = .ok (.lreturn, 1) := by decide +kernel
theorem dX4_rim_0 : decode cX4_rim 0 = .ok (.iload_n 0, 1) := by decide +kernel
theorem dX4_rim_1 : decode cX4_rim 1 = .ok (.iload_n 1, 1) := by decide +kernel
theorem dX4_rim_2 : decode cX4_rim 2 = .ok (.iload_n 2, 1) := by decide +kernel
theorem dX4_rim_3 : decode cX4_rim 3 = .ok (.iload_n 3, 1) := by decide +kernel
theorem dX4_rim_4 : decode cX4_rim 4 = .ok (.invokestatic 9, 3) := by decide +kernel
theorem dX4_rim_7 : decode cX4_rim 7 = .ok (.iload_n 0, 1) := by decide +kernel
theorem dX4_rim_8 : decode cX4_rim 8 = .ok (.iconst 1, 1) := by decide +kernel
theorem dX4_rim_9 : decode cX4_rim 9 = .ok (.iadd, 1) := by decide +kernel
theorem dX4_rim_10 : decode cX4_rim 10 = .ok (.iload_n 1, 1) := by decide +kernel
theorem dX4_rim_11 : decode cX4_rim 11 = .ok (.iconst 1, 1) := by decide +kernel
theorem dX4_rim_12 : decode cX4_rim 12 = .ok (.iadd, 1) := by decide +kernel
theorem dX4_rim_13 : decode cX4_rim 13 = .ok (.iload_n 2, 1) := by decide +kernel
theorem dX4_rim_14 : decode cX4_rim 14 = .ok (.iconst 2, 1) := by decide +kernel
theorem dX4_rim_15 : decode cX4_rim 15 = .ok (.isub, 1) := by decide +kernel
theorem dX4_rim_16 : decode cX4_rim 16 = .ok (.iload_n 3, 1) := by decide +kernel
theorem dX4_rim_17 : decode cX4_rim 17 = .ok (.iconst 2, 1) := by decide +kernel
theorem dX4_rim_18 : decode cX4_rim 18 = .ok (.isub, 1) := by decide +kernel
theorem dX4_rim_19 : decode cX4_rim 19 = .ok (.invokestatic 9, 3) := by decide +kernel
theorem dX4_rim_22 : decode cX4_rim 22 = .ok (.ldc2_w 15, 3) := by decide +kernel
theorem dX4_rim_25 : decode cX4_rim 25 = .ok (.lxor, 1) := by decide +kernel
theorem dX4_rim_26 : decode cX4_rim 26 = .ok (.land, 1) := by decide +kernel
theorem dX4_rim_27 : decode cX4_rim 27 = .ok (.lreturn, 1) := by decide +kernel
theorem dX4_filed_0 : decode cX4_filed 0 = .ok (.iload_n 0, 1) := by decide +kernel
theorem dX4_filed_1 : decode cX4_filed 1 = .ok (.tableswitch 54 0 2 #[27, 35, 46], 27) := by decide +kernel
theorem dX4_filed_28 : decode cX4_filed 28 = .ok (.iconst 0, 1) := by decide +kernel
theorem dX4_filed_29 : decode cX4_filed 29 = .ok (.iload_n 1, 1) := by decide +kernel
theorem dX4_filed_30 : decode cX4_filed 30 = .ok (.iload_n 2, 1) := by decide +kernel
theorem dX4_filed_31 : decode cX4_filed 31 = .ok (.iconst 1, 1) := by decide +kernel
theorem dX4_filed_32 : decode cX4_filed 32 = .ok (.invokestatic 9, 3) := by decide +kernel
theorem dX4_filed_35 : decode cX4_filed 35 = .ok (.lreturn, 1) := by decide +kernel
theorem dX4_filed_36 : decode cX4_filed 36 = .ok (.bipush 8, 2) := by decide +kernel
theorem dX4_filed_38 : decode cX4_filed 38 = .ok (.iload_n 2, 1) := by decide +kernel
theorem dX4_filed_39 : decode cX4_filed 39 = .ok (.isub, 1) := by decide +kernel
theorem dX4_filed_40 : decode cX4_filed 40 = .ok (.iload_n 1, 1) := by decide +kernel
theorem dX4_filed_41 : decode cX4_filed 41 = .ok (.iload_n 2, 1) := by decide +kernel
theorem dX4_filed_42 : decode cX4_filed 42 = .ok (.iconst 1, 1) := by decide +kernel
theorem dX4_filed_43 : decode cX4_filed 43 = .ok (.invokestatic 9, 3) := by decide +kernel
theorem dX4_filed_46 : decode cX4_filed 46 = .ok (.lreturn, 1) := by decide +kernel
theorem dX4_filed_47 : decode cX4_filed 47 = .ok (.iload_n 1, 1) := by decide +kernel
theorem dX4_filed_48 : decode cX4_filed 48 = .ok (.iconst 0, 1) := by decide +kernel
theorem dX4_filed_49 : decode cX4_filed 49 = .ok (.iconst 1, 1) := by decide +kernel
theorem dX4_filed_50 : decode cX4_filed 50 = .ok (.iload_n 2, 1) := by decide +kernel
theorem dX4_filed_51 : decode cX4_filed 51 = .ok (.invokestatic 9, 3) := by decide +kernel
theorem dX4_filed_54 : decode cX4_filed 54 = .ok (.lreturn, 1) := by decide +kernel
theorem dX4_filed_55 : decode cX4_filed 55 = .ok (.iload_n 1, 1) := by decide +kernel
theorem dX4_filed_56 : decode cX4_filed 56 = .ok (.bipush 8, 2) := by decide +kernel
theorem dX4_filed_58 : decode cX4_filed 58 = .ok (.iload_n 2, 1) := by decide +kernel
theorem dX4_filed_59 : decode cX4_filed 59 = .ok (.isub, 1) := by decide +kernel
theorem dX4_filed_60 : decode cX4_filed 60 = .ok (.iconst 1, 1) := by decide +kernel
theorem dX4_filed_61 : decode cX4_filed 61 = .ok (.iload_n 2, 1) := by decide +kernel
theorem dX4_filed_62 : decode cX4_filed 62 = .ok (.invokestatic 9, 3) := by decide +kernel
theorem dX4_filed_65 : decode cX4_filed 65 = .ok (.lreturn, 1) := by decide +kernel
theorem dX4_moved_0 : decode cX4_moved 0 = .ok (.iload_n 2, 1) := by decide +kernel
theorem dX4_moved_1 : decode cX4_moved 1 = .ok (.tableswitch 48 0 2 #[27, 35, 43], 27) := by decide +kernel
theorem dX4_moved_28 : decode cX4_moved 28 = .ok (.lload_n 0, 1) := by decide +kernel
theorem dX4_moved_29 : decode cX4_moved 29 = .ok (.ldc2_w 17, 3) := by decide +kernel
theorem dX4_moved_32 : decode cX4_moved 32 = .ok (.land, 1) := by decide +kernel
theorem dX4_moved_33 : decode cX4_moved 33 = .ok (.iconst 1, 1) := by decide +kernel
theorem dX4_moved_34 : decode cX4_moved 34 = .ok (.lshl, 1) := by decide +kernel
theorem dX4_moved_35 : decode cX4_moved 35 = .ok (.lreturn, 1) := by decide +kernel
theorem dX4_moved_36 : decode cX4_moved 36 = .ok (.lload_n 0, 1) := by decide +kernel
theorem dX4_moved_37 : decode cX4_moved 37 = .ok (.ldc2_w 19, 3) := by decide +kernel
theorem dX4_moved_40 : decode cX4_moved 40 = .ok (.land, 1) := by decide +kernel
theorem dX4_moved_41 : decode cX4_moved 41 = .ok (.iconst 1, 1) := by decide +kernel
theorem dX4_moved_42 : decode cX4_moved 42 = .ok (.lushr, 1) := by decide +kernel
theorem dX4_moved_43 : decode cX4_moved 43 = .ok (.lreturn, 1) := by decide +kernel
theorem dX4_moved_44 : decode cX4_moved 44 = .ok (.lload_n 0, 1) := by decide +kernel
theorem dX4_moved_45 : decode cX4_moved 45 = .ok (.bipush 8, 2) := by decide +kernel
theorem dX4_moved_47 : decode cX4_moved 47 = .ok (.lshl, 1) := by decide +kernel
theorem dX4_moved_48 : decode cX4_moved 48 = .ok (.lreturn, 1) := by decide +kernel
theorem dX4_moved_49 : decode cX4_moved 49 = .ok (.lload_n 0, 1) := by decide +kernel
theorem dX4_moved_50 : decode cX4_moved 50 = .ok (.bipush 8, 2) := by decide +kernel
theorem dX4_moved_52 : decode cX4_moved 52 = .ok (.lushr, 1) := by decide +kernel
theorem dX4_moved_53 : decode cX4_moved 53 = .ok (.lreturn, 1) := by decide +kernel
theorem dX4_rimOf_0 : decode cX4_rimOf 0 = .ok (.iload_n 0, 1) := by decide +kernel
theorem dX4_rimOf_1 : decode cX4_rimOf 1 = .ok (.tableswitch 39 0 2 #[27, 31, 35], 27) := by decide +kernel
theorem dX4_rimOf_28 : decode cX4_rimOf 28 = .ok (.ldc2_w 21, 3) := by decide +kernel
theorem dX4_rimOf_31 : decode cX4_rimOf 31 = .ok (.lreturn, 1) := by decide +kernel
theorem dX4_rimOf_32 : decode cX4_rimOf 32 = .ok (.ldc2_w 23, 3) := by decide +kernel
theorem dX4_rimOf_35 : decode cX4_rimOf 35 = .ok (.lreturn, 1) := by decide +kernel
theorem dX4_rimOf_36 : decode cX4_rimOf 36 = .ok (.ldc2_w 25, 3) := by decide +kernel
theorem dX4_rimOf_39 : decode cX4_rimOf 39 = .ok (.lreturn, 1) := by decide +kernel
theorem dX4_rimOf_40 : decode cX4_rimOf 40 = .ok (.ldc2_w 27, 3) := by decide +kernel
theorem dX4_rimOf_43 : decode cX4_rimOf 43 = .ok (.lreturn, 1) := by decide +kernel
theorem dX4_beside_0 : decode cX4_beside 0 = .ok (.lconst 0, 1) := by decide +kernel
theorem dX4_beside_1 : decode cX4_beside 1 = .ok (.lstore_n 2, 1) := by decide +kernel
theorem dX4_beside_2 : decode cX4_beside 2 = .ok (.iconst 0, 1) := by decide +kernel
theorem dX4_beside_3 : decode cX4_beside 3 = .ok (.istore 4, 2) := by decide +kernel
theorem dX4_beside_5 : decode cX4_beside 5 = .ok (.iload 4, 2) := by decide +kernel
theorem dX4_beside_7 : decode cX4_beside 7 = .ok (.iconst 4, 1) := by decide +kernel
theorem dX4_beside_8 : decode cX4_beside 8 = .ok (.if_icmp .ge 18, 3) := by decide +kernel
theorem dX4_beside_11 : decode cX4_beside 11 = .ok (.lload_n 2, 1) := by decide +kernel
theorem dX4_beside_12 : decode cX4_beside 12 = .ok (.lload_n 0, 1) := by decide +kernel
theorem dX4_beside_13 : decode cX4_beside 13 = .ok (.iload 4, 2) := by decide +kernel
theorem dX4_beside_15 : decode cX4_beside 15 = .ok (.invokestatic 29, 3) := by decide +kernel
theorem dX4_beside_18 : decode cX4_beside 18 = .ok (.lor, 1) := by decide +kernel
theorem dX4_beside_19 : decode cX4_beside 19 = .ok (.lstore_n 2, 1) := by decide +kernel
theorem dX4_beside_20 : decode cX4_beside 20 = .ok (.iinc 4 1, 3) := by decide +kernel
theorem dX4_beside_23 : decode cX4_beside 23 = .ok (.goto (-18), 3) := by decide +kernel
theorem dX4_beside_26 : decode cX4_beside 26 = .ok (.lload_n 2, 1) := by decide +kernel
theorem dX4_beside_27 : decode cX4_beside 27 = .ok (.lload_n 0, 1) := by decide +kernel
theorem dX4_beside_28 : decode cX4_beside 28 = .ok (.ldc2_w 15, 3) := by decide +kernel
theorem dX4_beside_31 : decode cX4_beside 31 = .ok (.lxor, 1) := by decide +kernel
theorem dX4_beside_32 : decode cX4_beside 32 = .ok (.land, 1) := by decide +kernel
theorem dX4_beside_33 : decode cX4_beside 33 = .ok (.lreturn, 1) := by decide +kernel
theorem dX4_reachedFrom_0 : decode cX4_reachedFrom 0 = .ok (.iload_n 2, 1) := by decide +kernel
theorem dX4_reachedFrom_1 : decode cX4_reachedFrom 1 = .ok (.invokestatic 33, 3) := by decide +kernel
theorem dX4_reachedFrom_4 : decode cX4_reachedFrom 4 = .ok (.lload_n 0, 1) := by decide +kernel
theorem dX4_reachedFrom_5 : decode cX4_reachedFrom 5 = .ok (.ldc2_w 15, 3) := by decide +kernel
theorem dX4_reachedFrom_8 : decode cX4_reachedFrom 8 = .ok (.lxor, 1) := by decide +kernel
theorem dX4_reachedFrom_9 : decode cX4_reachedFrom 9 = .ok (.land, 1) := by decide +kernel
theorem dX4_reachedFrom_10 : decode cX4_reachedFrom 10 = .ok (.lstore_n 3, 1) := by decide +kernel
theorem dX4_reachedFrom_11 : decode cX4_reachedFrom 11 = .ok (.iconst 0, 1) := by decide +kernel
theorem dX4_reachedFrom_12 : decode cX4_reachedFrom 12 = .ok (.istore 5, 2) := by decide +kernel
theorem dX4_reachedFrom_14 : decode cX4_reachedFrom 14 = .ok (.iload 5, 2) := by decide +kernel
theorem dX4_reachedFrom_16 : decode cX4_reachedFrom 16 = .ok (.bipush 7, 2) := by decide +kernel
theorem dX4_reachedFrom_18 : decode cX4_reachedFrom 18 = .ok (.if_icmp .ge 23, 3) := by decide +kernel
theorem dX4_reachedFrom_21 : decode cX4_reachedFrom 21 = .ok (.lload_n 3, 1) := by decide +kernel
theorem dX4_reachedFrom_22 : decode cX4_reachedFrom 22 = .ok (.lload_n 3, 1) := by decide +kernel
theorem dX4_reachedFrom_23 : decode cX4_reachedFrom 23 = .ok (.iload_n 2, 1) := by decide +kernel
theorem dX4_reachedFrom_24 : decode cX4_reachedFrom 24 = .ok (.invokestatic 29, 3) := by decide +kernel
theorem dX4_reachedFrom_27 : decode cX4_reachedFrom 27 = .ok (.lload_n 0, 1) := by decide +kernel
theorem dX4_reachedFrom_28 : decode cX4_reachedFrom 28 = .ok (.ldc2_w 15, 3) := by decide +kernel
theorem dX4_reachedFrom_31 : decode cX4_reachedFrom 31 = .ok (.lxor, 1) := by decide +kernel
theorem dX4_reachedFrom_32 : decode cX4_reachedFrom 32 = .ok (.land, 1) := by decide +kernel
theorem dX4_reachedFrom_33 : decode cX4_reachedFrom 33 = .ok (.lor, 1) := by decide +kernel
theorem dX4_reachedFrom_34 : decode cX4_reachedFrom 34 = .ok (.lstore_n 3, 1) := by decide +kernel
theorem dX4_reachedFrom_35 : decode cX4_reachedFrom 35 = .ok (.iinc 5 1, 3) := by decide +kernel
theorem dX4_reachedFrom_38 : decode cX4_reachedFrom 38 = .ok (.goto (-24), 3) := by decide +kernel
theorem dX4_reachedFrom_41 : decode cX4_reachedFrom 41 = .ok (.lload_n 3, 1) := by decide +kernel
theorem dX4_reachedFrom_42 : decode cX4_reachedFrom 42 = .ok (.lreturn, 1) := by decide +kernel
theorem dX4_reached_0 : decode cX4_reached 0 = .ok (.lconst 0, 1) := by decide +kernel
theorem dX4_reached_1 : decode cX4_reached 1 = .ok (.lstore_n 2, 1) := by decide +kernel
theorem dX4_reached_2 : decode cX4_reached 2 = .ok (.iconst 0, 1) := by decide +kernel
theorem dX4_reached_3 : decode cX4_reached 3 = .ok (.istore 4, 2) := by decide +kernel
theorem dX4_reached_5 : decode cX4_reached 5 = .ok (.iload 4, 2) := by decide +kernel
theorem dX4_reached_7 : decode cX4_reached 7 = .ok (.iconst 4, 1) := by decide +kernel
theorem dX4_reached_8 : decode cX4_reached 8 = .ok (.if_icmp .ge 18, 3) := by decide +kernel
theorem dX4_reached_11 : decode cX4_reached 11 = .ok (.lload_n 2, 1) := by decide +kernel
theorem dX4_reached_12 : decode cX4_reached 12 = .ok (.lload_n 0, 1) := by decide +kernel
theorem dX4_reached_13 : decode cX4_reached 13 = .ok (.iload 4, 2) := by decide +kernel
theorem dX4_reached_15 : decode cX4_reached 15 = .ok (.invokestatic 37, 3) := by decide +kernel
theorem dX4_reached_18 : decode cX4_reached 18 = .ok (.lor, 1) := by decide +kernel
theorem dX4_reached_19 : decode cX4_reached 19 = .ok (.lstore_n 2, 1) := by decide +kernel
theorem dX4_reached_20 : decode cX4_reached 20 = .ok (.iinc 4 1, 3) := by decide +kernel
theorem dX4_reached_23 : decode cX4_reached 23 = .ok (.goto (-18), 3) := by decide +kernel
theorem dX4_reached_26 : decode cX4_reached 26 = .ok (.lload_n 2, 1) := by decide +kernel
theorem dX4_reached_27 : decode cX4_reached 27 = .ok (.lreturn, 1) := by decide +kernel
theorem dX4_hidden_0 : decode cX4_hidden 0 = .ok (.lload_n 0, 1) := by decide +kernel
theorem dX4_hidden_1 : decode cX4_hidden 1 = .ok (.ldc2_w 15, 3) := by decide +kernel
theorem dX4_hidden_4 : decode cX4_hidden 4 = .ok (.lxor, 1) := by decide +kernel
theorem dX4_hidden_5 : decode cX4_hidden 5 = .ok (.lload_n 0, 1) := by decide +kernel
theorem dX4_hidden_6 : decode cX4_hidden 6 = .ok (.invokestatic 40, 3) := by decide +kernel
theorem dX4_hidden_9 : decode cX4_hidden 9 = .ok (.ldc2_w 15, 3) := by decide +kernel
theorem dX4_hidden_12 : decode cX4_hidden 12 = .ok (.lxor, 1) := by decide +kernel
theorem dX4_hidden_13 : decode cX4_hidden 13 = .ok (.land, 1) := by decide +kernel
theorem dX4_hidden_14 : decode cX4_hidden 14 = .ok (.lreturn, 1) := by decide +kernel
theorem dX4_broad_0 : decode cX4_broad 0 = .ok (.bipush 8, 2) := by decide +kernel
theorem dX4_broad_2 : decode cX4_broad 2 = .ok (.istore_n 2, 1) := by decide +kernel
theorem dX4_broad_3 : decode cX4_broad 3 = .ok (.iconst (-1), 1) := by decide +kernel
theorem dX4_broad_4 : decode cX4_broad 4 = .ok (.istore_n 3, 1) := by decide +kernel
theorem dX4_broad_5 : decode cX4_broad 5 = .ok (.iconst 0, 1) := by decide +kernel
theorem dX4_broad_6 : decode cX4_broad 6 = .ok (.istore 4, 2) := by decide +kernel
theorem dX4_broad_8 : decode cX4_broad 8 = .ok (.iload 4, 2) := by decide +kernel
theorem dX4_broad_10 : decode cX4_broad 10 = .ok (.bipush 8, 2) := by decide +kernel
theorem dX4_broad_12 : decode cX4_broad 12 = .ok (.if_icmp .ge 32, 3) := by decide +kernel
theorem dX4_broad_15 : decode cX4_broad 15 = .ok (.lload_n 0, 1) := by decide +kernel
theorem dX4_broad_16 : decode cX4_broad 16 = .ok (.ldc2_w 21, 3) := by decide +kernel
theorem dX4_broad_19 : decode cX4_broad 19 = .ok (.iload 4, 2) := by decide +kernel
theorem dX4_broad_21 : decode cX4_broad 21 = .ok (.lshl, 1) := by decide +kernel
theorem dX4_broad_22 : decode cX4_broad 22 = .ok (.land, 1) := by decide +kernel
theorem dX4_broad_23 : decode cX4_broad 23 = .ok (.lconst 0, 1) := by decide +kernel
theorem dX4_broad_24 : decode cX4_broad 24 = .ok (.lcmp, 1) := by decide +kernel
theorem dX4_broad_25 : decode cX4_broad 25 = .ok (.ifCond .eq 13, 3) := by decide +kernel
theorem dX4_broad_28 : decode cX4_broad 28 = .ok (.iload_n 2, 1) := by decide +kernel
theorem dX4_broad_29 : decode cX4_broad 29 = .ok (.iload 4, 2) := by decide +kernel
theorem dX4_broad_31 : decode cX4_broad 31 = .ok (.invokestatic 44, 3) := by decide +kernel
theorem dX4_broad_34 : decode cX4_broad 34 = .ok (.istore_n 2, 1) := by decide +kernel
theorem dX4_broad_35 : decode cX4_broad 35 = .ok (.iload 4, 2) := by decide +kernel
theorem dX4_broad_37 : decode cX4_broad 37 = .ok (.istore_n 3, 1) := by decide +kernel
theorem dX4_broad_38 : decode cX4_broad 38 = .ok (.iinc 4 1, 3) := by decide +kernel
theorem dX4_broad_41 : decode cX4_broad 41 = .ok (.goto (-33), 3) := by decide +kernel
theorem dX4_broad_44 : decode cX4_broad 44 = .ok (.iload_n 3, 1) := by decide +kernel
theorem dX4_broad_45 : decode cX4_broad 45 = .ok (.ifCond .ge 7, 3) := by decide +kernel
theorem dX4_broad_48 : decode cX4_broad 48 = .ok (.iconst 0, 1) := by decide +kernel
theorem dX4_broad_49 : decode cX4_broad 49 = .ok (.goto 8, 3) := by decide +kernel
theorem dX4_broad_52 : decode cX4_broad 52 = .ok (.iload_n 3, 1) := by decide +kernel
theorem dX4_broad_53 : decode cX4_broad 53 = .ok (.iload_n 2, 1) := by decide +kernel
theorem dX4_broad_54 : decode cX4_broad 54 = .ok (.isub, 1) := by decide +kernel
theorem dX4_broad_55 : decode cX4_broad 55 = .ok (.iconst 1, 1) := by decide +kernel
theorem dX4_broad_56 : decode cX4_broad 56 = .ok (.iadd, 1) := by decide +kernel
theorem dX4_broad_57 : decode cX4_broad 57 = .ok (.ireturn, 1) := by decide +kernel
theorem dX4_toCorner_0 : decode cX4_toCorner 0 = .ok (.lload_n 0, 1) := by decide +kernel
theorem dX4_toCorner_1 : decode cX4_toCorner 1 = .ok (.lstore_n 2, 1) := by decide +kernel
theorem dX4_toCorner_2 : decode cX4_toCorner 2 = .ok (.iconst 0, 1) := by decide +kernel
theorem dX4_toCorner_3 : decode cX4_toCorner 3 = .ok (.istore 4, 2) := by decide +kernel
theorem dX4_toCorner_5 : decode cX4_toCorner 5 = .ok (.iload 4, 2) := by decide +kernel
theorem dX4_toCorner_7 : decode cX4_toCorner 7 = .ok (.bipush 7, 2) := by decide +kernel
theorem dX4_toCorner_9 : decode cX4_toCorner 9 = .ok (.if_icmp .ge 24, 3) := by decide +kernel
theorem dX4_toCorner_12 : decode cX4_toCorner 12 = .ok (.lload_n 2, 1) := by decide +kernel
theorem dX4_toCorner_13 : decode cX4_toCorner 13 = .ok (.ldc2_w 25, 3) := by decide +kernel
theorem dX4_toCorner_16 : decode cX4_toCorner 16 = .ok (.land, 1) := by decide +kernel
theorem dX4_toCorner_17 : decode cX4_toCorner 17 = .ok (.lconst 0, 1) := by decide +kernel
theorem dX4_toCorner_18 : decode cX4_toCorner 18 = .ok (.lcmp, 1) := by decide +kernel
theorem dX4_toCorner_19 : decode cX4_toCorner 19 = .ok (.ifCond .ne 14, 3) := by decide +kernel
theorem dX4_toCorner_22 : decode cX4_toCorner 22 = .ok (.lload_n 2, 1) := by decide +kernel
theorem dX4_toCorner_23 : decode cX4_toCorner 23 = .ok (.bipush 8, 2) := by decide +kernel
theorem dX4_toCorner_25 : decode cX4_toCorner 25 = .ok (.lushr, 1) := by decide +kernel
theorem dX4_toCorner_26 : decode cX4_toCorner 26 = .ok (.lstore_n 2, 1) := by decide +kernel
theorem dX4_toCorner_27 : decode cX4_toCorner 27 = .ok (.iinc 4 1, 3) := by decide +kernel
theorem dX4_toCorner_30 : decode cX4_toCorner 30 = .ok (.goto (-25), 3) := by decide +kernel
theorem dX4_toCorner_33 : decode cX4_toCorner 33 = .ok (.iconst 0, 1) := by decide +kernel
theorem dX4_toCorner_34 : decode cX4_toCorner 34 = .ok (.istore 4, 2) := by decide +kernel
theorem dX4_toCorner_36 : decode cX4_toCorner 36 = .ok (.iload 4, 2) := by decide +kernel
theorem dX4_toCorner_38 : decode cX4_toCorner 38 = .ok (.bipush 7, 2) := by decide +kernel
theorem dX4_toCorner_40 : decode cX4_toCorner 40 = .ok (.if_icmp .ge 23, 3) := by decide +kernel
theorem dX4_toCorner_43 : decode cX4_toCorner 43 = .ok (.lload_n 2, 1) := by decide +kernel
theorem dX4_toCorner_44 : decode cX4_toCorner 44 = .ok (.ldc2_w 21, 3) := by decide +kernel
theorem dX4_toCorner_47 : decode cX4_toCorner 47 = .ok (.land, 1) := by decide +kernel
theorem dX4_toCorner_48 : decode cX4_toCorner 48 = .ok (.lconst 0, 1) := by decide +kernel
theorem dX4_toCorner_49 : decode cX4_toCorner 49 = .ok (.lcmp, 1) := by decide +kernel
theorem dX4_toCorner_50 : decode cX4_toCorner 50 = .ok (.ifCond .ne 13, 3) := by decide +kernel
theorem dX4_toCorner_53 : decode cX4_toCorner 53 = .ok (.lload_n 2, 1) := by decide +kernel
theorem dX4_toCorner_54 : decode cX4_toCorner 54 = .ok (.iconst 1, 1) := by decide +kernel
theorem dX4_toCorner_55 : decode cX4_toCorner 55 = .ok (.lushr, 1) := by decide +kernel
theorem dX4_toCorner_56 : decode cX4_toCorner 56 = .ok (.lstore_n 2, 1) := by decide +kernel
theorem dX4_toCorner_57 : decode cX4_toCorner 57 = .ok (.iinc 4 1, 3) := by decide +kernel
theorem dX4_toCorner_60 : decode cX4_toCorner 60 = .ok (.goto (-24), 3) := by decide +kernel
theorem dX4_toCorner_63 : decode cX4_toCorner 63 = .ok (.lload_n 2, 1) := by decide +kernel
theorem dX4_toCorner_64 : decode cX4_toCorner 64 = .ok (.lreturn, 1) := by decide +kernel
theorem dX4_mirrored_0 : decode cX4_mirrored 0 = .ok (.lload_n 0, 1) := by decide +kernel
theorem dX4_mirrored_1 : decode cX4_mirrored 1 = .ok (.ldc2_w 50, 3) := by decide +kernel
theorem dX4_mirrored_4 : decode cX4_mirrored 4 = .ok (.land, 1) := by decide +kernel
theorem dX4_mirrored_5 : decode cX4_mirrored 5 = .ok (.iconst 4, 1) := by decide +kernel
theorem dX4_mirrored_6 : decode cX4_mirrored 6 = .ok (.lshl, 1) := by decide +kernel
theorem dX4_mirrored_7 : decode cX4_mirrored 7 = .ok (.lload_n 0, 1) := by decide +kernel
theorem dX4_mirrored_8 : decode cX4_mirrored 8 = .ok (.iconst 4, 1) := by decide +kernel
theorem dX4_mirrored_9 : decode cX4_mirrored 9 = .ok (.lushr, 1) := by decide +kernel
theorem dX4_mirrored_10 : decode cX4_mirrored 10 = .ok (.ldc2_w 50, 3) := by decide +kernel
theorem dX4_mirrored_13 : decode cX4_mirrored 13 = .ok (.land, 1) := by decide +kernel
theorem dX4_mirrored_14 : decode cX4_mirrored 14 = .ok (.lor, 1) := by decide +kernel
theorem dX4_mirrored_15 : decode cX4_mirrored 15 = .ok (.lstore_n 2, 1) := by decide +kernel
theorem dX4_mirrored_16 : decode cX4_mirrored 16 = .ok (.lload_n 2, 1) := by decide +kernel
theorem dX4_mirrored_17 : decode cX4_mirrored 17 = .ok (.ldc2_w 52, 3) := by decide +kernel
theorem dX4_mirrored_20 : decode cX4_mirrored 20 = .ok (.land, 1) := by decide +kernel
theorem dX4_mirrored_21 : decode cX4_mirrored 21 = .ok (.iconst 2, 1) := by decide +kernel
theorem dX4_mirrored_22 : decode cX4_mirrored 22 = .ok (.lshl, 1) := by decide +kernel
theorem dX4_mirrored_23 : decode cX4_mirrored 23 = .ok (.lload_n 2, 1) := by decide +kernel
theorem dX4_mirrored_24 : decode cX4_mirrored 24 = .ok (.iconst 2, 1) := by decide +kernel
theorem dX4_mirrored_25 : decode cX4_mirrored 25 = .ok (.lushr, 1) := by decide +kernel
theorem dX4_mirrored_26 : decode cX4_mirrored 26 = .ok (.ldc2_w 52, 3) := by decide +kernel
theorem dX4_mirrored_29 : decode cX4_mirrored 29 = .ok (.land, 1) := by decide +kernel
theorem dX4_mirrored_30 : decode cX4_mirrored 30 = .ok (.lor, 1) := by decide +kernel
theorem dX4_mirrored_31 : decode cX4_mirrored 31 = .ok (.lstore_n 2, 1) := by decide +kernel
theorem dX4_mirrored_32 : decode cX4_mirrored 32 = .ok (.lload_n 2, 1) := by decide +kernel
theorem dX4_mirrored_33 : decode cX4_mirrored 33 = .ok (.ldc2_w 54, 3) := by decide +kernel
theorem dX4_mirrored_36 : decode cX4_mirrored 36 = .ok (.land, 1) := by decide +kernel
theorem dX4_mirrored_37 : decode cX4_mirrored 37 = .ok (.iconst 1, 1) := by decide +kernel
theorem dX4_mirrored_38 : decode cX4_mirrored 38 = .ok (.lshl, 1) := by decide +kernel
theorem dX4_mirrored_39 : decode cX4_mirrored 39 = .ok (.lload_n 2, 1) := by decide +kernel
theorem dX4_mirrored_40 : decode cX4_mirrored 40 = .ok (.iconst 1, 1) := by decide +kernel
theorem dX4_mirrored_41 : decode cX4_mirrored 41 = .ok (.lushr, 1) := by decide +kernel
theorem dX4_mirrored_42 : decode cX4_mirrored 42 = .ok (.ldc2_w 54, 3) := by decide +kernel
theorem dX4_mirrored_45 : decode cX4_mirrored 45 = .ok (.land, 1) := by decide +kernel
theorem dX4_mirrored_46 : decode cX4_mirrored 46 = .ok (.lor, 1) := by decide +kernel
theorem dX4_mirrored_47 : decode cX4_mirrored 47 = .ok (.lreturn, 1) := by decide +kernel
theorem dX4_crossed_0 : decode cX4_crossed 0 = .ok (.lload_n 0, 1) := by decide +kernel
theorem dX4_crossed_1 : decode cX4_crossed 1 = .ok (.lload_n 0, 1) := by decide +kernel
theorem dX4_crossed_2 : decode cX4_crossed 2 = .ok (.bipush 28, 2) := by decide +kernel
theorem dX4_crossed_4 : decode cX4_crossed 4 = .ok (.lshl, 1) := by decide +kernel
theorem dX4_crossed_5 : decode cX4_crossed 5 = .ok (.lxor, 1) := by decide +kernel
theorem dX4_crossed_6 : decode cX4_crossed 6 = .ok (.ldc2_w 56, 3) := by decide +kernel
theorem dX4_crossed_9 : decode cX4_crossed 9 = .ok (.land, 1) := by decide +kernel
theorem dX4_crossed_10 : decode cX4_crossed 10 = .ok (.lstore_n 2, 1) := by decide +kernel
theorem dX4_crossed_11 : decode cX4_crossed 11 = .ok (.lload_n 0, 1) := by decide +kernel
theorem dX4_crossed_12 : decode cX4_crossed 12 = .ok (.lload_n 2, 1) := by decide +kernel
theorem dX4_crossed_13 : decode cX4_crossed 13 = .ok (.lxor, 1) := by decide +kernel
theorem dX4_crossed_14 : decode cX4_crossed 14 = .ok (.lload_n 2, 1) := by decide +kernel
theorem dX4_crossed_15 : decode cX4_crossed 15 = .ok (.bipush 28, 2) := by decide +kernel
theorem dX4_crossed_17 : decode cX4_crossed 17 = .ok (.lushr, 1) := by decide +kernel
theorem dX4_crossed_18 : decode cX4_crossed 18 = .ok (.lxor, 1) := by decide +kernel
theorem dX4_crossed_19 : decode cX4_crossed 19 = .ok (.lstore 4, 2) := by decide +kernel
theorem dX4_crossed_21 : decode cX4_crossed 21 = .ok (.lload 4, 2) := by decide +kernel
theorem dX4_crossed_23 : decode cX4_crossed 23 = .ok (.lload 4, 2) := by decide +kernel
theorem dX4_crossed_25 : decode cX4_crossed 25 = .ok (.bipush 14, 2) := by decide +kernel
theorem dX4_crossed_27 : decode cX4_crossed 27 = .ok (.lshl, 1) := by decide +kernel
theorem dX4_crossed_28 : decode cX4_crossed 28 = .ok (.lxor, 1) := by decide +kernel
theorem dX4_crossed_29 : decode cX4_crossed 29 = .ok (.ldc2_w 58, 3) := by decide +kernel
theorem dX4_crossed_32 : decode cX4_crossed 32 = .ok (.land, 1) := by decide +kernel
theorem dX4_crossed_33 : decode cX4_crossed 33 = .ok (.lstore_n 2, 1) := by decide +kernel
theorem dX4_crossed_34 : decode cX4_crossed 34 = .ok (.lload 4, 2) := by decide +kernel
theorem dX4_crossed_36 : decode cX4_crossed 36 = .ok (.lload_n 2, 1) := by decide +kernel
theorem dX4_crossed_37 : decode cX4_crossed 37 = .ok (.lxor, 1) := by decide +kernel
theorem dX4_crossed_38 : decode cX4_crossed 38 = .ok (.lload_n 2, 1) := by decide +kernel
theorem dX4_crossed_39 : decode cX4_crossed 39 = .ok (.bipush 14, 2) := by decide +kernel
theorem dX4_crossed_41 : decode cX4_crossed 41 = .ok (.lushr, 1) := by decide +kernel
theorem dX4_crossed_42 : decode cX4_crossed 42 = .ok (.lxor, 1) := by decide +kernel
theorem dX4_crossed_43 : decode cX4_crossed 43 = .ok (.lstore 4, 2) := by decide +kernel
theorem dX4_crossed_45 : decode cX4_crossed 45 = .ok (.lload 4, 2) := by decide +kernel
theorem dX4_crossed_47 : decode cX4_crossed 47 = .ok (.lload 4, 2) := by decide +kernel
theorem dX4_crossed_49 : decode cX4_crossed 49 = .ok (.bipush 7, 2) := by decide +kernel
theorem dX4_crossed_51 : decode cX4_crossed 51 = .ok (.lshl, 1) := by decide +kernel
theorem dX4_crossed_52 : decode cX4_crossed 52 = .ok (.lxor, 1) := by decide +kernel
theorem dX4_crossed_53 : decode cX4_crossed 53 = .ok (.ldc2_w 60, 3) := by decide +kernel
theorem dX4_crossed_56 : decode cX4_crossed 56 = .ok (.land, 1) := by decide +kernel
theorem dX4_crossed_57 : decode cX4_crossed 57 = .ok (.lstore_n 2, 1) := by decide +kernel
theorem dX4_crossed_58 : decode cX4_crossed 58 = .ok (.lload 4, 2) := by decide +kernel
theorem dX4_crossed_60 : decode cX4_crossed 60 = .ok (.lload_n 2, 1) := by decide +kernel
theorem dX4_crossed_61 : decode cX4_crossed 61 = .ok (.lxor, 1) := by decide +kernel
theorem dX4_crossed_62 : decode cX4_crossed 62 = .ok (.lload_n 2, 1) := by decide +kernel
theorem dX4_crossed_63 : decode cX4_crossed 63 = .ok (.bipush 7, 2) := by decide +kernel
theorem dX4_crossed_65 : decode cX4_crossed 65 = .ok (.lushr, 1) := by decide +kernel
theorem dX4_crossed_66 : decode cX4_crossed 66 = .ok (.lxor, 1) := by decide +kernel
theorem dX4_crossed_67 : decode cX4_crossed 67 = .ok (.lreturn, 1) := by decide +kernel
theorem dX4_quarterTurned_0 : decode cX4_quarterTurned 0 = .ok (.lload_n 0, 1) := by decide +kernel
theorem dX4_quarterTurned_1 : decode cX4_quarterTurned 1 = .ok (.invokestatic 62, 3) := by decide +kernel
theorem dX4_quarterTurned_4 : decode cX4_quarterTurned 4 = .ok (.invokestatic 65, 3) := by decide +kernel
theorem dX4_quarterTurned_7 : decode cX4_quarterTurned 7 = .ok (.lreturn, 1) := by decide +kernel
theorem dX4_halfTurned_0 : decode cX4_halfTurned 0 = .ok (.lload_n 0, 1) := by decide +kernel
theorem dX4_halfTurned_1 : decode cX4_halfTurned 1 = .ok (.invokestatic 68, 3) := by decide +kernel
theorem dX4_halfTurned_4 : decode cX4_halfTurned 4 = .ok (.invokestatic 68, 3) := by decide +kernel
theorem dX4_halfTurned_7 : decode cX4_halfTurned 7 = .ok (.lreturn, 1) := by decide +kernel
theorem dX4_turnsInto_0 : decode cX4_turnsInto 0 = .ok (.iload_n 3, 1) := by decide +kernel
theorem dX4_turnsInto_1 : decode cX4_turnsInto 1 = .ok (.ifCond .lt 15, 3) := by decide +kernel
theorem dX4_turnsInto_4 : decode cX4_turnsInto 4 = .ok (.bipush 8, 2) := by decide +kernel
theorem dX4_turnsInto_6 : decode cX4_turnsInto 6 = .ok (.iload_n 3, 1) := by decide +kernel
theorem dX4_turnsInto_7 : decode cX4_turnsInto 7 = .ok (.imul, 1) := by decide +kernel
theorem dX4_turnsInto_8 : decode cX4_turnsInto 8 = .ok (.bipush 8, 2) := by decide +kernel
theorem dX4_turnsInto_10 : decode cX4_turnsInto 10 = .ok (.iadd, 1) := by decide +kernel
theorem dX4_turnsInto_11 : decode cX4_turnsInto 11 = .ok (.aload_n 2, 1) := by decide +kernel
theorem dX4_turnsInto_12 : decode cX4_turnsInto 12 = .ok (.arraylength, 1) := by decide +kernel
theorem dX4_turnsInto_13 : decode cX4_turnsInto 13 = .ok (.if_icmp .le 4, 3) := by decide +kernel
theorem dX4_turnsInto_16 : decode cX4_turnsInto 16 = .ok (.return_, 1) := by decide +kernel
theorem dX4_turnsInto_17 : decode cX4_turnsInto 17 = .ok (.lload_n 0, 1) := by decide +kernel
theorem dX4_turnsInto_18 : decode cX4_turnsInto 18 = .ok (.lstore 4, 2) := by decide +kernel
theorem dX4_turnsInto_20 : decode cX4_turnsInto 20 = .ok (.lload_n 0, 1) := by decide +kernel
theorem dX4_turnsInto_21 : decode cX4_turnsInto 21 = .ok (.invokestatic 65, 3) := by decide +kernel
theorem dX4_turnsInto_24 : decode cX4_turnsInto 24 = .ok (.lstore 6, 2) := by decide +kernel
theorem dX4_turnsInto_26 : decode cX4_turnsInto 26 = .ok (.iconst 0, 1) := by decide +kernel
theorem dX4_turnsInto_27 : decode cX4_turnsInto 27 = .ok (.istore 8, 2) := by decide +kernel
theorem dX4_turnsInto_29 : decode cX4_turnsInto 29 = .ok (.iload 8, 2) := by decide +kernel
theorem dX4_turnsInto_31 : decode cX4_turnsInto 31 = .ok (.iconst 4, 1) := by decide +kernel
theorem dX4_turnsInto_32 : decode cX4_turnsInto 32 = .ok (.if_icmp .ge 53, 3) := by decide +kernel
theorem dX4_turnsInto_35 : decode cX4_turnsInto 35 = .ok (.aload_n 2, 1) := by decide +kernel
theorem dX4_turnsInto_36 : decode cX4_turnsInto 36 = .ok (.bipush 8, 2) := by decide +kernel
theorem dX4_turnsInto_38 : decode cX4_turnsInto 38 = .ok (.iload_n 3, 1) := by decide +kernel
theorem dX4_turnsInto_39 : decode cX4_turnsInto 39 = .ok (.imul, 1) := by decide +kernel
theorem dX4_turnsInto_40 : decode cX4_turnsInto 40 = .ok (.iload 8, 2) := by decide +kernel
theorem dX4_turnsInto_42 : decode cX4_turnsInto 42 = .ok (.iadd, 1) := by decide +kernel
theorem dX4_turnsInto_43 : decode cX4_turnsInto 43 = .ok (.lload 4, 2) := by decide +kernel
theorem dX4_turnsInto_45 : decode cX4_turnsInto 45 = .ok (.invokestatic 71, 3) := by decide +kernel
theorem dX4_turnsInto_48 : decode cX4_turnsInto 48 = .ok (.lastore, 1) := by decide +kernel
theorem dX4_turnsInto_49 : decode cX4_turnsInto 49 = .ok (.aload_n 2, 1) := by decide +kernel
theorem dX4_turnsInto_50 : decode cX4_turnsInto 50 = .ok (.bipush 8, 2) := by decide +kernel
theorem dX4_turnsInto_52 : decode cX4_turnsInto 52 = .ok (.iload_n 3, 1) := by decide +kernel
theorem dX4_turnsInto_53 : decode cX4_turnsInto 53 = .ok (.imul, 1) := by decide +kernel
theorem dX4_turnsInto_54 : decode cX4_turnsInto 54 = .ok (.iconst 4, 1) := by decide +kernel
theorem dX4_turnsInto_55 : decode cX4_turnsInto 55 = .ok (.iadd, 1) := by decide +kernel
theorem dX4_turnsInto_56 : decode cX4_turnsInto 56 = .ok (.iload 8, 2) := by decide +kernel
theorem dX4_turnsInto_58 : decode cX4_turnsInto 58 = .ok (.iadd, 1) := by decide +kernel
theorem dX4_turnsInto_59 : decode cX4_turnsInto 59 = .ok (.lload 6, 2) := by decide +kernel
theorem dX4_turnsInto_61 : decode cX4_turnsInto 61 = .ok (.invokestatic 71, 3) := by decide +kernel
theorem dX4_turnsInto_64 : decode cX4_turnsInto 64 = .ok (.lastore, 1) := by decide +kernel
theorem dX4_turnsInto_65 : decode cX4_turnsInto 65 = .ok (.lload 4, 2) := by decide +kernel
theorem dX4_turnsInto_67 : decode cX4_turnsInto 67 = .ok (.invokestatic 68, 3) := by decide +kernel
theorem dX4_turnsInto_70 : decode cX4_turnsInto 70 = .ok (.lstore 4, 2) := by decide +kernel
theorem dX4_turnsInto_72 : decode cX4_turnsInto 72 = .ok (.lload 6, 2) := by decide +kernel
theorem dX4_turnsInto_74 : decode cX4_turnsInto 74 = .ok (.invokestatic 68, 3) := by decide +kernel
theorem dX4_turnsInto_77 : decode cX4_turnsInto 77 = .ok (.lstore 6, 2) := by decide +kernel
theorem dX4_turnsInto_79 : decode cX4_turnsInto 79 = .ok (.iinc 8 1, 3) := by decide +kernel
theorem dX4_turnsInto_82 : decode cX4_turnsInto 82 = .ok (.goto (-53), 3) := by decide +kernel
theorem dX4_turnsInto_85 : decode cX4_turnsInto 85 = .ok (.return_, 1) := by decide +kernel
theorem dX4_apartBy_0 : decode cX4_apartBy 0 = .ok (.bipush 64, 2) := by decide +kernel
theorem dX4_apartBy_2 : decode cX4_apartBy 2 = .ok (.istore 5, 2) := by decide +kernel
theorem dX4_apartBy_4 : decode cX4_apartBy 4 = .ok (.iload 4, 2) := by decide +kernel
theorem dX4_apartBy_6 : decode cX4_apartBy 6 = .ok (.ifCond .eq 8, 3) := by decide +kernel
theorem dX4_apartBy_9 : decode cX4_apartBy 9 = .ok (.bipush 8, 2) := by decide +kernel
theorem dX4_apartBy_11 : decode cX4_apartBy 11 = .ok (.goto 4, 3) := by decide +kernel
theorem dX4_apartBy_14 : decode cX4_apartBy 14 = .ok (.iconst 4, 1) := by decide +kernel
theorem dX4_apartBy_15 : decode cX4_apartBy 15 = .ok (.istore 6, 2) := by decide +kernel
theorem dX4_apartBy_17 : decode cX4_apartBy 17 = .ok (.iconst 0, 1) := by decide +kernel
theorem dX4_apartBy_18 : decode cX4_apartBy 18 = .ok (.istore 7, 2) := by decide +kernel
theorem dX4_apartBy_20 : decode cX4_apartBy 20 = .ok (.iload 7, 2) := by decide +kernel
theorem dX4_apartBy_22 : decode cX4_apartBy 22 = .ok (.iload 6, 2) := by decide +kernel
theorem dX4_apartBy_24 : decode cX4_apartBy 24 = .ok (.if_icmp .ge 46, 3) := by decide +kernel
theorem dX4_apartBy_27 : decode cX4_apartBy 27 = .ok (.bipush 8, 2) := by decide +kernel
theorem dX4_apartBy_29 : decode cX4_apartBy 29 = .ok (.iload_n 1, 1) := by decide +kernel
theorem dX4_apartBy_30 : decode cX4_apartBy 30 = .ok (.imul, 1) := by decide +kernel
theorem dX4_apartBy_31 : decode cX4_apartBy 31 = .ok (.iload 7, 2) := by decide +kernel
theorem dX4_apartBy_33 : decode cX4_apartBy 33 = .ok (.iadd, 1) := by decide +kernel
theorem dX4_apartBy_34 : decode cX4_apartBy 34 = .ok (.istore 8, 2) := by decide +kernel
theorem dX4_apartBy_36 : decode cX4_apartBy 36 = .ok (.iload 8, 2) := by decide +kernel
theorem dX4_apartBy_38 : decode cX4_apartBy 38 = .ok (.ifCond .lt 26, 3) := by decide +kernel
theorem dX4_apartBy_41 : decode cX4_apartBy 41 = .ok (.iload 8, 2) := by decide +kernel
theorem dX4_apartBy_43 : decode cX4_apartBy 43 = .ok (.aload_n 0, 1) := by decide +kernel
theorem dX4_apartBy_44 : decode cX4_apartBy 44 = .ok (.arraylength, 1) := by decide +kernel
theorem dX4_apartBy_45 : decode cX4_apartBy 45 = .ok (.if_icmp .ge 19, 3) := by decide +kernel
theorem dX4_apartBy_48 : decode cX4_apartBy 48 = .ok (.iload 5, 2) := by decide +kernel
theorem dX4_apartBy_50 : decode cX4_apartBy 50 = .ok (.aload_n 0, 1) := by decide +kernel
theorem dX4_apartBy_51 : decode cX4_apartBy 51 = .ok (.iload 8, 2) := by decide +kernel
theorem dX4_apartBy_53 : decode cX4_apartBy 53 = .ok (.laload, 1) := by decide +kernel
theorem dX4_apartBy_54 : decode cX4_apartBy 54 = .ok (.lload_n 2, 1) := by decide +kernel
theorem dX4_apartBy_55 : decode cX4_apartBy 55 = .ok (.lxor, 1) := by decide +kernel
theorem dX4_apartBy_56 : decode cX4_apartBy 56 = .ok (.invokestatic 74, 3) := by decide +kernel
theorem dX4_apartBy_59 : decode cX4_apartBy 59 = .ok (.invokestatic 44, 3) := by decide +kernel
theorem dX4_apartBy_62 : decode cX4_apartBy 62 = .ok (.istore 5, 2) := by decide +kernel
theorem dX4_apartBy_64 : decode cX4_apartBy 64 = .ok (.iinc 7 1, 3) := by decide +kernel
theorem dX4_apartBy_67 : decode cX4_apartBy 67 = .ok (.goto (-47), 3) := by decide +kernel
theorem dX4_apartBy_70 : decode cX4_apartBy 70 = .ok (.iload 5, 2) := by decide +kernel
theorem dX4_apartBy_72 : decode cX4_apartBy 72 = .ok (.ireturn, 1) := by decide +kernel
theorem dX5_init_0 : decode cX5_init 0 = .ok (.aload_n 0, 1) := by decide +kernel
theorem dX5_init_1 : decode cX5_init 1 = .ok (.invokespecial 3, 3) := by decide +kernel
theorem dX5_init_4 : decode cX5_init 4 = .ok (.aload_n 0, 1) := by decide +kernel
theorem dX5_init_5 : decode cX5_init 5 = .ok (.bipush 64, 2) := by decide +kernel
theorem dX5_init_7 : decode cX5_init 7 = .ok (.newarray .long, 2) := by decide +kernel
theorem dX5_init_9 : decode cX5_init 9 = .ok (.putfield 9, 3) := by decide +kernel
theorem dX5_init_12 : decode cX5_init 12 = .ok (.aload_n 0, 1) := by decide +kernel
theorem dX5_init_13 : decode cX5_init 13 = .ok (.bipush 8, 2) := by decide +kernel
theorem dX5_init_15 : decode cX5_init 15 = .ok (.newarray .int, 2) := by decide +kernel
theorem dX5_init_17 : decode cX5_init 17 = .ok (.putfield 15, 3) := by decide +kernel
theorem dX5_init_20 : decode cX5_init 20 = .ok (.aload_n 0, 1) := by decide +kernel
theorem dX5_init_21 : decode cX5_init 21 = .ok (.sipush 256, 3) := by decide +kernel
theorem dX5_init_24 : decode cX5_init 24 = .ok (.newarray .boolean, 2) := by decide +kernel
theorem dX5_init_26 : decode cX5_init 26 = .ok (.putfield 19, 3) := by decide +kernel
theorem dX5_init_29 : decode cX5_init 29 = .ok (.aload_n 0, 1) := by decide +kernel
theorem dX5_init_30 : decode cX5_init 30 = .ok (.sipush 256, 3) := by decide +kernel
theorem dX5_init_33 : decode cX5_init 33 = .ok (.newarray .int, 2) := by decide +kernel
theorem dX5_init_35 : decode cX5_init 35 = .ok (.putfield 23, 3) := by decide +kernel
theorem dX5_init_38 : decode cX5_init 38 = .ok (.aload_n 0, 1) := by decide +kernel
theorem dX5_init_39 : decode cX5_init 39 = .ok (.sipush 256, 3) := by decide +kernel
theorem dX5_init_42 : decode cX5_init 42 = .ok (.newarray .int, 2) := by decide +kernel
theorem dX5_init_44 : decode cX5_init 44 = .ok (.putfield 26, 3) := by decide +kernel
theorem dX5_init_47 : decode cX5_init 47 = .ok (.return_, 1) := by decide +kernel
theorem dX5_lay_0 : decode cX5_lay 0 = .ok (.aload_n 0, 1) := by decide +kernel
theorem dX5_lay_1 : decode cX5_lay 1 = .ok (.aload_n 1, 1) := by decide +kernel
theorem dX5_lay_2 : decode cX5_lay 2 = .ok (.getfield 29, 3) := by decide +kernel
theorem dX5_lay_5 : decode cX5_lay 5 = .ok (.bipush 8, 2) := by decide +kernel
theorem dX5_lay_7 : decode cX5_lay 7 = .ok (.invokestatic 35, 3) := by decide +kernel
theorem dX5_lay_10 : decode cX5_lay 10 = .ok (.putfield 41, 3) := by decide +kernel
theorem dX5_lay_13 : decode cX5_lay 13 = .ok (.iconst 0, 1) := by decide +kernel
theorem dX5_lay_14 : decode cX5_lay 14 = .ok (.istore 4, 2) := by decide +kernel
theorem dX5_lay_16 : decode cX5_lay 16 = .ok (.iload 4, 2) := by decide +kernel
theorem dX5_lay_18 : decode cX5_lay 18 = .ok (.aload_n 0, 1) := by decide +kernel
theorem dX5_lay_19 : decode cX5_lay 19 = .ok (.getfield 41, 3) := by decide +kernel
theorem dX5_lay_22 : decode cX5_lay 22 = .ok (.if_icmp .ge 25, 3) := by decide +kernel
theorem dX5_lay_25 : decode cX5_lay 25 = .ok (.aload_n 1, 1) := by decide +kernel
theorem dX5_lay_26 : decode cX5_lay 26 = .ok (.getfield 44, 3) := by decide +kernel
theorem dX5_lay_29 : decode cX5_lay 29 = .ok (.iload 4, 2) := by decide +kernel
theorem dX5_lay_31 : decode cX5_lay 31 = .ok (.laload, 1) := by decide +kernel
theorem dX5_lay_32 : decode cX5_lay 32 = .ok (.aload_n 0, 1) := by decide +kernel
theorem dX5_lay_33 : decode cX5_lay 33 = .ok (.getfield 9, 3) := by decide +kernel
theorem dX5_lay_36 : decode cX5_lay 36 = .ok (.iload 4, 2) := by decide +kernel
theorem dX5_lay_38 : decode cX5_lay 38 = .ok (.invokestatic 46, 3) := by decide +kernel
theorem dX5_lay_41 : decode cX5_lay 41 = .ok (.iinc 4 1, 3) := by decide +kernel
theorem dX5_lay_44 : decode cX5_lay 44 = .ok (.goto (-28), 3) := by decide +kernel
theorem dX5_lay_47 : decode cX5_lay 47 = .ok (.iconst 0, 1) := by decide +kernel
theorem dX5_lay_48 : decode cX5_lay 48 = .ok (.istore 4, 2) := by decide +kernel
theorem dX5_lay_50 : decode cX5_lay 50 = .ok (.iload 4, 2) := by decide +kernel
theorem dX5_lay_52 : decode cX5_lay 52 = .ok (.aload_n 0, 1) := by decide +kernel
theorem dX5_lay_53 : decode cX5_lay 53 = .ok (.getfield 41, 3) := by decide +kernel
theorem dX5_lay_56 : decode cX5_lay 56 = .ok (.if_icmp .ge 75, 3) := by decide +kernel
theorem dX5_lay_59 : decode cX5_lay 59 = .ok (.aload_n 0, 1) := by decide +kernel
theorem dX5_lay_60 : decode cX5_lay 60 = .ok (.getfield 15, 3) := by decide +kernel
theorem dX5_lay_63 : decode cX5_lay 63 = .ok (.iload 4, 2) := by decide +kernel
theorem dX5_lay_65 : decode cX5_lay 65 = .ok (.iconst 0, 1) := by decide +kernel
theorem dX5_lay_66 : decode cX5_lay 66 = .ok (.iastore, 1) := by decide +kernel
theorem dX5_lay_67 : decode cX5_lay 67 = .ok (.iconst 0, 1) := by decide +kernel
theorem dX5_lay_68 : decode cX5_lay 68 = .ok (.istore 5, 2) := by decide +kernel
theorem dX5_lay_70 : decode cX5_lay 70 = .ok (.iload 5, 2) := by decide +kernel
theorem dX5_lay_72 : decode cX5_lay 72 = .ok (.aload_n 0, 1) := by decide +kernel
theorem dX5_lay_73 : decode cX5_lay 73 = .ok (.getfield 41, 3) := by decide +kernel
theorem dX5_lay_76 : decode cX5_lay 76 = .ok (.if_icmp .ge 49, 3) := by decide +kernel
theorem dX5_lay_79 : decode cX5_lay 79 = .ok (.aload_n 0, 1) := by decide +kernel
theorem dX5_lay_80 : decode cX5_lay 80 = .ok (.iload 4, 2) := by decide +kernel
theorem dX5_lay_82 : decode cX5_lay 82 = .ok (.iload 5, 2) := by decide +kernel
theorem dX5_lay_84 : decode cX5_lay 84 = .ok (.iload_n 2, 1) := by decide +kernel
theorem dX5_lay_85 : decode cX5_lay 85 = .ok (.iload_n 3, 1) := by decide +kernel
theorem dX5_lay_86 : decode cX5_lay 86 = .ok (.invokevirtual 52, 3) := by decide +kernel
theorem dX5_lay_89 : decode cX5_lay 89 = .ok (.ifCond .ne 16, 3) := by decide +kernel
theorem dX5_lay_92 : decode cX5_lay 92 = .ok (.aload_n 0, 1) := by decide +kernel
theorem dX5_lay_93 : decode cX5_lay 93 = .ok (.iload 5, 2) := by decide +kernel
theorem dX5_lay_95 : decode cX5_lay 95 = .ok (.iload 4, 2) := by decide +kernel
theorem dX5_lay_97 : decode cX5_lay 97 = .ok (.iload_n 2, 1) := by decide +kernel
theorem dX5_lay_98 : decode cX5_lay 98 = .ok (.iload_n 3, 1) := by decide +kernel
theorem dX5_lay_99 : decode cX5_lay 99 = .ok (.invokevirtual 52, 3) := by decide +kernel
theorem dX5_lay_102 : decode cX5_lay 102 = .ok (.ifCond .eq 17, 3) := by decide +kernel
theorem dX5_lay_105 : decode cX5_lay 105 = .ok (.aload_n 0, 1) := by decide +kernel
theorem dX5_lay_106 : decode cX5_lay 106 = .ok (.getfield 15, 3) := by decide +kernel
theorem dX5_lay_109 : decode cX5_lay 109 = .ok (.iload 4, 2) := by decide +kernel
theorem dX5_lay_111 : decode cX5_lay 111 = .ok (.dup2, 1) := by decide +kernel
theorem dX5_lay_112 : decode cX5_lay 112 = .ok (.iaload, 1) := by decide +kernel
theorem dX5_lay_113 : decode cX5_lay 113 = .ok (.iconst 1, 1) := by decide +kernel
theorem dX5_lay_114 : decode cX5_lay 114 = .ok (.iload 5, 2) := by decide +kernel
theorem dX5_lay_116 : decode cX5_lay 116 = .ok (.ishl, 1) := by decide +kernel
theorem dX5_lay_117 : decode cX5_lay 117 = .ok (.ior, 1) := by decide +kernel
theorem dX5_lay_118 : decode cX5_lay 118 = .ok (.iastore, 1) := by decide +kernel
theorem dX5_lay_119 : decode cX5_lay 119 = .ok (.iinc 5 1, 3) := by decide +kernel
theorem dX5_lay_122 : decode cX5_lay 122 = .ok (.goto (-52), 3) := by decide +kernel
theorem dX5_lay_125 : decode cX5_lay 125 = .ok (.iinc 4 1, 3) := by decide +kernel
theorem dX5_lay_128 : decode cX5_lay 128 = .ok (.goto (-78), 3) := by decide +kernel
theorem dX5_lay_131 : decode cX5_lay 131 = .ok (.return_, 1) := by decide +kernel
theorem dX5_isNear_0 : decode cX5_isNear 0 = .ok (.aload_n 0, 1) := by decide +kernel
theorem dX5_isNear_1 : decode cX5_isNear 1 = .ok (.getfield 9, 3) := by decide +kernel
theorem dX5_isNear_4 : decode cX5_isNear 4 = .ok (.iload_n 1, 1) := by decide +kernel
theorem dX5_isNear_5 : decode cX5_isNear 5 = .ok (.aload_n 0, 1) := by decide +kernel
theorem dX5_isNear_6 : decode cX5_isNear 6 = .ok (.getfield 9, 3) := by decide +kernel
theorem dX5_isNear_9 : decode cX5_isNear 9 = .ok (.bipush 8, 2) := by decide +kernel
theorem dX5_isNear_11 : decode cX5_isNear 11 = .ok (.iload_n 2, 1) := by decide +kernel
theorem dX5_isNear_12 : decode cX5_isNear 12 = .ok (.imul, 1) := by decide +kernel
theorem dX5_isNear_13 : decode cX5_isNear 13 = .ok (.laload, 1) := by decide +kernel
theorem dX5_isNear_14 : decode cX5_isNear 14 = .ok (.iload 4, 2) := by decide +kernel
theorem dX5_isNear_16 : decode cX5_isNear 16 = .ok (.invokestatic 56, 3) := by decide +kernel
theorem dX5_isNear_19 : decode cX5_isNear 19 = .ok (.iload_n 3, 1) := by decide +kernel
theorem dX5_isNear_20 : decode cX5_isNear 20 = .ok (.if_icmp .gt 7, 3) := by decide +kernel
theorem dX5_isNear_23 : decode cX5_isNear 23 = .ok (.iconst 1, 1) := by decide +kernel
theorem dX5_isNear_24 : decode cX5_isNear 24 = .ok (.goto 4, 3) := by decide +kernel
theorem dX5_isNear_27 : decode cX5_isNear 27 = .ok (.iconst 0, 1) := by decide +kernel
theorem dX5_isNear_28 : decode cX5_isNear 28 = .ok (.ireturn, 1) := by decide +kernel
theorem dX5_areKin_0 : decode cX5_areKin 0 = .ok (.iload_n 1, 1) := by decide +kernel
theorem dX5_areKin_1 : decode cX5_areKin 1 = .ok (.ifCond .lt 28, 3) := by decide +kernel
theorem dX5_areKin_4 : decode cX5_areKin 4 = .ok (.iload_n 1, 1) := by decide +kernel
theorem dX5_areKin_5 : decode cX5_areKin 5 = .ok (.aload_n 0, 1) := by decide +kernel
theorem dX5_areKin_6 : decode cX5_areKin 6 = .ok (.getfield 41, 3) := by decide +kernel
theorem dX5_areKin_9 : decode cX5_areKin 9 = .ok (.if_icmp .ge 20, 3) := by decide +kernel
theorem dX5_areKin_12 : decode cX5_areKin 12 = .ok (.aload_n 0, 1) := by decide +kernel
theorem dX5_areKin_13 : decode cX5_areKin 13 = .ok (.getfield 15, 3) := by decide +kernel
theorem dX5_areKin_16 : decode cX5_areKin 16 = .ok (.iload_n 1, 1) := by decide +kernel
theorem dX5_areKin_17 : decode cX5_areKin 17 = .ok (.iaload, 1) := by decide +kernel
theorem dX5_areKin_18 : decode cX5_areKin 18 = .ok (.iconst 1, 1) := by decide +kernel
theorem dX5_areKin_19 : decode cX5_areKin 19 = .ok (.iload_n 2, 1) := by decide +kernel
theorem dX5_areKin_20 : decode cX5_areKin 20 = .ok (.ishl, 1) := by decide +kernel
theorem dX5_areKin_21 : decode cX5_areKin 21 = .ok (.iand, 1) := by decide +kernel
theorem dX5_areKin_22 : decode cX5_areKin 22 = .ok (.ifCond .eq 7, 3) := by decide +kernel
theorem dX5_areKin_25 : decode cX5_areKin 25 = .ok (.iconst 1, 1) := by decide +kernel
theorem dX5_areKin_26 : decode cX5_areKin 26 = .ok (.goto 4, 3) := by decide +kernel
theorem dX5_areKin_29 : decode cX5_areKin 29 = .ok (.iconst 0, 1) := by decide +kernel
theorem dX5_areKin_30 : decode cX5_areKin 30 = .ok (.ireturn, 1) := by decide +kernel
theorem dX5_alwaysAlone_0 : decode cX5_alwaysAlone 0 = .ok (.iconst 0, 1) := by decide +kernel
theorem dX5_alwaysAlone_1 : decode cX5_alwaysAlone 1 = .ok (.istore_n 1, 1) := by decide +kernel
theorem dX5_alwaysAlone_2 : decode cX5_alwaysAlone 2 = .ok (.iconst 0, 1) := by decide +kernel
theorem dX5_alwaysAlone_3 : decode cX5_alwaysAlone 3 = .ok (.istore_n 2, 1) := by decide +kernel
theorem dX5_alwaysAlone_4 : decode cX5_alwaysAlone 4 = .ok (.iload_n 2, 1) := by decide +kernel
theorem dX5_alwaysAlone_5 : decode cX5_alwaysAlone 5 = .ok (.aload_n 0, 1) := by decide +kernel
theorem dX5_alwaysAlone_6 : decode cX5_alwaysAlone 6 = .ok (.getfield 41, 3) := by decide +kernel
theorem dX5_alwaysAlone_9 : decode cX5_alwaysAlone 9 = .ok (.if_icmp .ge 27, 3) := by decide +kernel
theorem dX5_alwaysAlone_12 : decode cX5_alwaysAlone 12 = .ok (.aload_n 0, 1) := by decide +kernel
theorem dX5_alwaysAlone_13 : decode cX5_alwaysAlone 13 = .ok (.getfield 15, 3) := by decide +kernel
theorem dX5_alwaysAlone_16 : decode cX5_alwaysAlone 16 = .ok (.iload_n 2, 1) := by decide +kernel
theorem dX5_alwaysAlone_17 : decode cX5_alwaysAlone 17 = .ok (.iaload, 1) := by decide +kernel
theorem dX5_alwaysAlone_18 : decode cX5_alwaysAlone 18 = .ok (.iconst 1, 1) := by decide +kernel
theorem dX5_alwaysAlone_19 : decode cX5_alwaysAlone 19 = .ok (.iload_n 2, 1) := by decide +kernel
theorem dX5_alwaysAlone_20 : decode cX5_alwaysAlone 20 = .ok (.ishl, 1) := by decide +kernel
theorem dX5_alwaysAlone_21 : decode cX5_alwaysAlone 21 = .ok (.if_icmp .ne 9, 3) := by decide +kernel
theorem dX5_alwaysAlone_24 : decode cX5_alwaysAlone 24 = .ok (.iload_n 1, 1) := by decide +kernel
theorem dX5_alwaysAlone_25 : decode cX5_alwaysAlone 25 = .ok (.iconst 1, 1) := by decide +kernel
theorem dX5_alwaysAlone_26 : decode cX5_alwaysAlone 26 = .ok (.iload_n 2, 1) := by decide +kernel
theorem dX5_alwaysAlone_27 : decode cX5_alwaysAlone 27 = .ok (.ishl, 1) := by decide +kernel
theorem dX5_alwaysAlone_28 : decode cX5_alwaysAlone 28 = .ok (.ior, 1) := by decide +kernel
theorem dX5_alwaysAlone_29 : decode cX5_alwaysAlone 29 = .ok (.istore_n 1, 1) := by decide +kernel
theorem dX5_alwaysAlone_30 : decode cX5_alwaysAlone 30 = .ok (.iinc 2 1, 3) := by decide +kernel
theorem dX5_alwaysAlone_33 : decode cX5_alwaysAlone 33 = .ok (.goto (-29), 3) := by decide +kernel
theorem dX5_alwaysAlone_36 : decode cX5_alwaysAlone 36 = .ok (.iload_n 1, 1) := by decide +kernel
theorem dX5_alwaysAlone_37 : decode cX5_alwaysAlone 37 = .ok (.ireturn, 1) := by decide +kernel
theorem dX5_ways_0 : decode cX5_ways 0 = .ok (.aload_n 0, 1) := by decide +kernel
theorem dX5_ways_1 : decode cX5_ways 1 = .ok (.invokevirtual 60, 3) := by decide +kernel
theorem dX5_ways_4 : decode cX5_ways 4 = .ok (.aload_n 0, 1) := by decide +kernel
theorem dX5_ways_5 : decode cX5_ways 5 = .ok (.getfield 23, 3) := by decide +kernel
theorem dX5_ways_8 : decode cX5_ways 8 = .ok (.aload_n 0, 1) := by decide +kernel
theorem dX5_ways_9 : decode cX5_ways 9 = .ok (.invokevirtual 63, 3) := by decide +kernel
theorem dX5_ways_12 : decode cX5_ways 12 = .ok (.iaload, 1) := by decide +kernel
theorem dX5_ways_13 : decode cX5_ways 13 = .ok (.ireturn, 1) := by decide +kernel
theorem dX5_fewest_0 : decode cX5_fewest 0 = .ok (.aload_n 0, 1) := by decide +kernel
theorem dX5_fewest_1 : decode cX5_fewest 1 = .ok (.invokevirtual 60, 3) := by decide +kernel
theorem dX5_fewest_4 : decode cX5_fewest 4 = .ok (.aload_n 0, 1) := by decide +kernel
theorem dX5_fewest_5 : decode cX5_fewest 5 = .ok (.getfield 26, 3) := by decide +kernel
theorem dX5_fewest_8 : decode cX5_fewest 8 = .ok (.aload_n 0, 1) := by decide +kernel
theorem dX5_fewest_9 : decode cX5_fewest 9 = .ok (.invokevirtual 63, 3) := by decide +kernel
theorem dX5_fewest_12 : decode cX5_fewest 12 = .ok (.iaload, 1) := by decide +kernel
theorem dX5_fewest_13 : decode cX5_fewest 13 = .ok (.ireturn, 1) := by decide +kernel
theorem dX5_allPrints_0 : decode cX5_allPrints 0 = .ok (.iconst 1, 1) := by decide +kernel
theorem dX5_allPrints_1 : decode cX5_allPrints 1 = .ok (.aload_n 0, 1) := by decide +kernel
theorem dX5_allPrints_2 : decode cX5_allPrints 2 = .ok (.getfield 41, 3) := by decide +kernel
theorem dX5_allPrints_5 : decode cX5_allPrints 5 = .ok (.ishl, 1) := by decide +kernel
theorem dX5_allPrints_6 : decode cX5_allPrints 6 = .ok (.iconst 1, 1) := by decide +kernel
theorem dX5_allPrints_7 : decode cX5_allPrints 7 = .ok (.isub, 1) := by decide +kernel
theorem dX5_allPrints_8 : decode cX5_allPrints 8 = .ok (.ireturn, 1) := by decide +kernel
theorem dX5_countSets_0 : decode cX5_countSets 0 = .ok (.aload_n 0, 1) := by decide +kernel
theorem dX5_countSets_1 : decode cX5_countSets 1 = .ok (.getfield 19, 3) := by decide +kernel
theorem dX5_countSets_4 : decode cX5_countSets 4 = .ok (.iconst 0, 1) := by decide +kernel
theorem dX5_countSets_5 : decode cX5_countSets 5 = .ok (.iconst 1, 1) := by decide +kernel
theorem dX5_countSets_6 : decode cX5_countSets 6 = .ok (.bastore, 1) := by decide +kernel
theorem dX5_countSets_7 : decode cX5_countSets 7 = .ok (.aload_n 0, 1) := by decide +kernel
theorem dX5_countSets_8 : decode cX5_countSets 8 = .ok (.getfield 23, 3) := by decide +kernel
theorem dX5_countSets_11 : decode cX5_countSets 11 = .ok (.iconst 0, 1) := by decide +kernel
theorem dX5_countSets_12 : decode cX5_countSets 12 = .ok (.iconst 1, 1) := by decide +kernel
theorem dX5_countSets_13 : decode cX5_countSets 13 = .ok (.iastore, 1) := by decide +kernel
theorem dX5_countSets_14 : decode cX5_countSets 14 = .ok (.aload_n 0, 1) := by decide +kernel
theorem dX5_countSets_15 : decode cX5_countSets 15 = .ok (.getfield 26, 3) := by decide +kernel
theorem dX5_countSets_18 : decode cX5_countSets 18 = .ok (.iconst 0, 1) := by decide +kernel
theorem dX5_countSets_19 : decode cX5_countSets 19 = .ok (.iconst 0, 1) := by decide +kernel
theorem dX5_countSets_20 : decode cX5_countSets 20 = .ok (.iastore, 1) := by decide +kernel
theorem dX5_countSets_21 : decode cX5_countSets 21 = .ok (.iconst 1, 1) := by decide +kernel
theorem dX5_countSets_22 : decode cX5_countSets 22 = .ok (.istore_n 1, 1) := by decide +kernel
theorem dX5_countSets_23 : decode cX5_countSets 23 = .ok (.iload_n 1, 1) := by decide +kernel
theorem dX5_countSets_24 : decode cX5_countSets 24 = .ok (.aload_n 0, 1) := by decide +kernel
theorem dX5_countSets_25 : decode cX5_countSets 25 = .ok (.invokevirtual 63, 3) := by decide +kernel
theorem dX5_countSets_28 : decode cX5_countSets 28 = .ok (.if_icmp .gt 77, 3) := by decide +kernel
theorem dX5_countSets_31 : decode cX5_countSets 31 = .ok (.iload_n 1, 1) := by decide +kernel
theorem dX5_countSets_32 : decode cX5_countSets 32 = .ok (.sipush 256, 3) := by decide +kernel
theorem dX5_countSets_35 : decode cX5_countSets 35 = .ok (.if_icmp .ge 70, 3) := by decide +kernel
theorem dX5_countSets_38 : decode cX5_countSets 38 = .ok (.iload_n 1, 1) := by decide +kernel
theorem dX5_countSets_39 : decode cX5_countSets 39 = .ok (.iload_n 1, 1) := by decide +kernel
theorem dX5_countSets_40 : decode cX5_countSets 40 = .ok (.ineg, 1) := by decide +kernel
theorem dX5_countSets_41 : decode cX5_countSets 41 = .ok (.iand, 1) := by decide +kernel
theorem dX5_countSets_42 : decode cX5_countSets 42 = .ok (.iconst 1, 1) := by decide +kernel
theorem dX5_countSets_43 : decode cX5_countSets 43 = .ok (.isub, 1) := by decide +kernel
theorem dX5_countSets_44 : decode cX5_countSets 44 = .ok (.invokestatic 67, 3) := by decide +kernel
theorem dX5_countSets_47 : decode cX5_countSets 47 = .ok (.istore_n 2, 1) := by decide +kernel
theorem dX5_countSets_48 : decode cX5_countSets 48 = .ok (.iload_n 1, 1) := by decide +kernel
theorem dX5_countSets_49 : decode cX5_countSets 49 = .ok (.iload_n 1, 1) := by decide +kernel
theorem dX5_countSets_50 : decode cX5_countSets 50 = .ok (.iconst 1, 1) := by decide +kernel
theorem dX5_countSets_51 : decode cX5_countSets 51 = .ok (.isub, 1) := by decide +kernel
theorem dX5_countSets_52 : decode cX5_countSets 52 = .ok (.iand, 1) := by decide +kernel
theorem dX5_countSets_53 : decode cX5_countSets 53 = .ok (.istore_n 3, 1) := by decide +kernel
theorem dX5_countSets_54 : decode cX5_countSets 54 = .ok (.aload_n 0, 1) := by decide +kernel
theorem dX5_countSets_55 : decode cX5_countSets 55 = .ok (.getfield 19, 3) := by decide +kernel
theorem dX5_countSets_58 : decode cX5_countSets 58 = .ok (.iload_n 1, 1) := by decide +kernel
theorem dX5_countSets_59 : decode cX5_countSets 59 = .ok (.iload_n 2, 1) := by decide +kernel
theorem dX5_countSets_60 : decode cX5_countSets 60 = .ok (.bipush 8, 2) := by decide +kernel
theorem dX5_countSets_62 : decode cX5_countSets 62 = .ok (.if_icmp .ge 29, 3) := by decide +kernel
theorem dX5_countSets_65 : decode cX5_countSets 65 = .ok (.aload_n 0, 1) := by decide +kernel
theorem dX5_countSets_66 : decode cX5_countSets 66 = .ok (.getfield 19, 3) := by decide +kernel
theorem dX5_countSets_69 : decode cX5_countSets 69 = .ok (.iload_n 3, 1) := by decide +kernel
theorem dX5_countSets_70 : decode cX5_countSets 70 = .ok (.baload, 1) := by decide +kernel
theorem dX5_countSets_71 : decode cX5_countSets 71 = .ok (.ifCond .eq 20, 3) := by decide +kernel
theorem dX5_countSets_74 : decode cX5_countSets 74 = .ok (.iload_n 3, 1) := by decide +kernel
theorem dX5_countSets_75 : decode cX5_countSets 75 = .ok (.aload_n 0, 1) := by decide +kernel
theorem dX5_countSets_76 : decode cX5_countSets 76 = .ok (.getfield 15, 3) := by decide +kernel
theorem dX5_countSets_79 : decode cX5_countSets 79 = .ok (.iload_n 2, 1) := by decide +kernel
theorem dX5_countSets_80 : decode cX5_countSets 80 = .ok (.iaload, 1) := by decide +kernel
theorem dX5_countSets_81 : decode cX5_countSets 81 = .ok (.iconst (-1), 1) := by decide +kernel
theorem dX5_countSets_82 : decode cX5_countSets 82 = .ok (.ixor, 1) := by decide +kernel
theorem dX5_countSets_83 : decode cX5_countSets 83 = .ok (.iand, 1) := by decide +kernel
theorem dX5_countSets_84 : decode cX5_countSets 84 = .ok (.ifCond .ne 7, 3) := by decide +kernel
theorem dX5_countSets_87 : decode cX5_countSets 87 = .ok (.iconst 1, 1) := by decide +kernel
theorem dX5_countSets_88 : decode cX5_countSets 88 = .ok (.goto 4, 3) := by decide +kernel
theorem dX5_countSets_91 : decode cX5_countSets 91 = .ok (.iconst 0, 1) := by decide +kernel
theorem dX5_countSets_92 : decode cX5_countSets 92 = .ok (.bastore, 1) := by decide +kernel
theorem dX5_countSets_93 : decode cX5_countSets 93 = .ok (.aload_n 0, 1) := by decide +kernel
theorem dX5_countSets_94 : decode cX5_countSets 94 = .ok (.iload_n 1, 1) := by decide +kernel
theorem dX5_countSets_95 : decode cX5_countSets 95 = .ok (.iload_n 3, 1) := by decide +kernel
theorem dX5_countSets_96 : decode cX5_countSets 96 = .ok (.invokevirtual 73, 3) := by decide +kernel
theorem dX5_countSets_99 : decode cX5_countSets 99 = .ok (.iinc 1 1, 3) := by decide +kernel
theorem dX5_countSets_102 : decode cX5_countSets 102 = .ok (.goto (-79), 3) := by decide +kernel
theorem dX5_countSets_105 : decode cX5_countSets 105 = .ok (.return_, 1) := by decide +kernel
theorem dX5_countSet_0 : decode cX5_countSet 0 = .ok (.iconst 0, 1) := by decide +kernel
theorem dX5_countSet_1 : decode cX5_countSet 1 = .ok (.istore_n 3, 1) := by decide +kernel
theorem dX5_countSet_2 : decode cX5_countSet 2 = .ok (.bipush 8, 2) := by decide +kernel
theorem dX5_countSet_4 : decode cX5_countSet 4 = .ok (.istore 4, 2) := by decide +kernel
theorem dX5_countSet_6 : decode cX5_countSet 6 = .ok (.iload_n 2, 1) := by decide +kernel
theorem dX5_countSet_7 : decode cX5_countSet 7 = .ok (.istore 5, 2) := by decide +kernel
theorem dX5_countSet_9 : decode cX5_countSet 9 = .ok (.iconst 0, 1) := by decide +kernel
theorem dX5_countSet_10 : decode cX5_countSet 10 = .ok (.istore 6, 2) := by decide +kernel
theorem dX5_countSet_12 : decode cX5_countSet 12 = .ok (.iload 6, 2) := by decide +kernel
theorem dX5_countSet_14 : decode cX5_countSet 14 = .ok (.iload_n 2, 1) := by decide +kernel
theorem dX5_countSet_15 : decode cX5_countSet 15 = .ok (.if_icmp .gt 73, 3) := by decide +kernel
theorem dX5_countSet_18 : decode cX5_countSet 18 = .ok (.iload_n 2, 1) := by decide +kernel
theorem dX5_countSet_19 : decode cX5_countSet 19 = .ok (.iload 5, 2) := by decide +kernel
theorem dX5_countSet_21 : decode cX5_countSet 21 = .ok (.iconst (-1), 1) := by decide +kernel
theorem dX5_countSet_22 : decode cX5_countSet 22 = .ok (.ixor, 1) := by decide +kernel
theorem dX5_countSet_23 : decode cX5_countSet 23 = .ok (.iand, 1) := by decide +kernel
theorem dX5_countSet_24 : decode cX5_countSet 24 = .ok (.istore 7, 2) := by decide +kernel
theorem dX5_countSet_26 : decode cX5_countSet 26 = .ok (.aload_n 0, 1) := by decide +kernel
theorem dX5_countSet_27 : decode cX5_countSet 27 = .ok (.getfield 19, 3) := by decide +kernel
theorem dX5_countSet_30 : decode cX5_countSet 30 = .ok (.iload_n 1, 1) := by decide +kernel
theorem dX5_countSet_31 : decode cX5_countSet 31 = .ok (.iload 7, 2) := by decide +kernel
theorem dX5_countSet_33 : decode cX5_countSet 33 = .ok (.iconst (-1), 1) := by decide +kernel
theorem dX5_countSet_34 : decode cX5_countSet 34 = .ok (.ixor, 1) := by decide +kernel
theorem dX5_countSet_35 : decode cX5_countSet 35 = .ok (.iand, 1) := by decide +kernel
theorem dX5_countSet_36 : decode cX5_countSet 36 = .ok (.baload, 1) := by decide +kernel
theorem dX5_countSet_37 : decode cX5_countSet 37 = .ok (.ifCond .eq 29, 3) := by decide +kernel
theorem dX5_countSet_40 : decode cX5_countSet 40 = .ok (.iload_n 3, 1) := by decide +kernel
theorem dX5_countSet_41 : decode cX5_countSet 41 = .ok (.aload_n 0, 1) := by decide +kernel
theorem dX5_countSet_42 : decode cX5_countSet 42 = .ok (.getfield 23, 3) := by decide +kernel
theorem dX5_countSet_45 : decode cX5_countSet 45 = .ok (.iload 7, 2) := by decide +kernel
theorem dX5_countSet_47 : decode cX5_countSet 47 = .ok (.iaload, 1) := by decide +kernel
theorem dX5_countSet_48 : decode cX5_countSet 48 = .ok (.iadd, 1) := by decide +kernel
theorem dX5_countSet_49 : decode cX5_countSet 49 = .ok (.istore_n 3, 1) := by decide +kernel
theorem dX5_countSet_50 : decode cX5_countSet 50 = .ok (.iload 4, 2) := by decide +kernel
theorem dX5_countSet_52 : decode cX5_countSet 52 = .ok (.iconst 1, 1) := by decide +kernel
theorem dX5_countSet_53 : decode cX5_countSet 53 = .ok (.aload_n 0, 1) := by decide +kernel
theorem dX5_countSet_54 : decode cX5_countSet 54 = .ok (.getfield 26, 3) := by decide +kernel
theorem dX5_countSet_57 : decode cX5_countSet 57 = .ok (.iload 7, 2) := by decide +kernel
theorem dX5_countSet_59 : decode cX5_countSet 59 = .ok (.iaload, 1) := by decide +kernel
theorem dX5_countSet_60 : decode cX5_countSet 60 = .ok (.iadd, 1) := by decide +kernel
theorem dX5_countSet_61 : decode cX5_countSet 61 = .ok (.invokestatic 35, 3) := by decide +kernel
theorem dX5_countSet_64 : decode cX5_countSet 64 = .ok (.istore 4, 2) := by decide +kernel
theorem dX5_countSet_66 : decode cX5_countSet 66 = .ok (.iload 5, 2) := by decide +kernel
theorem dX5_countSet_68 : decode cX5_countSet 68 = .ok (.ifCond .ne 6, 3) := by decide +kernel
theorem dX5_countSet_71 : decode cX5_countSet 71 = .ok (.goto 17, 3) := by decide +kernel
theorem dX5_countSet_74 : decode cX5_countSet 74 = .ok (.iload 5, 2) := by decide +kernel
theorem dX5_countSet_76 : decode cX5_countSet 76 = .ok (.iconst 1, 1) := by decide +kernel
theorem dX5_countSet_77 : decode cX5_countSet 77 = .ok (.isub, 1) := by decide +kernel
theorem dX5_countSet_78 : decode cX5_countSet 78 = .ok (.iload_n 2, 1) := by decide +kernel
theorem dX5_countSet_79 : decode cX5_countSet 79 = .ok (.iand, 1) := by decide +kernel
theorem dX5_countSet_80 : decode cX5_countSet 80 = .ok (.istore 5, 2) := by decide +kernel
theorem dX5_countSet_82 : decode cX5_countSet 82 = .ok (.iinc 6 1, 3) := by decide +kernel
theorem dX5_countSet_85 : decode cX5_countSet 85 = .ok (.goto (-73), 3) := by decide +kernel
theorem dX5_countSet_88 : decode cX5_countSet 88 = .ok (.aload_n 0, 1) := by decide +kernel
theorem dX5_countSet_89 : decode cX5_countSet 89 = .ok (.getfield 23, 3) := by decide +kernel
theorem dX5_countSet_92 : decode cX5_countSet 92 = .ok (.iload_n 1, 1) := by decide +kernel
theorem dX5_countSet_93 : decode cX5_countSet 93 = .ok (.iload_n 3, 1) := by decide +kernel
theorem dX5_countSet_94 : decode cX5_countSet 94 = .ok (.iastore, 1) := by decide +kernel
theorem dX5_countSet_95 : decode cX5_countSet 95 = .ok (.aload_n 0, 1) := by decide +kernel
theorem dX5_countSet_96 : decode cX5_countSet 96 = .ok (.getfield 26, 3) := by decide +kernel
theorem dX5_countSet_99 : decode cX5_countSet 99 = .ok (.iload_n 1, 1) := by decide +kernel
theorem dX5_countSet_100 : decode cX5_countSet 100 = .ok (.iload 4, 2) := by decide +kernel
theorem dX5_countSet_102 : decode cX5_countSet 102 = .ok (.iastore, 1) := by decide +kernel
theorem dX5_countSet_103 : decode cX5_countSet 103 = .ok (.return_, 1) := by decide +kernel

theorem dX0_init_0 : decode cX0_init 0 = .ok (.aload_n 0, 1) := by decide +kernel
theorem dX0_init_1 : decode cX0_init 1 = .ok (.invokespecial 3, 3) := by decide +kernel
theorem dX0_init_4 : decode cX0_init 4 = .ok (.aload_n 0, 1) := by decide +kernel
theorem dX0_init_5 : decode cX0_init 5 = .ok (.bipush 10, 2) := by decide +kernel
theorem dX0_init_7 : decode cX0_init 7 = .ok (.putfield 9, 3) := by decide +kernel
theorem dX0_init_10 : decode cX0_init 10 = .ok (.aload_n 0, 1) := by decide +kernel
theorem dX0_init_11 : decode cX0_init 11 = .ok (.iload_n 1, 1) := by decide +kernel
theorem dX0_init_12 : decode cX0_init 12 = .ok (.putfield 15, 3) := by decide +kernel
theorem dX0_init_15 : decode cX0_init 15 = .ok (.return_, 1) := by decide +kernel
theorem dX0_copyFrom_0 : decode cX0_copyFrom 0 = .ok (.aload_n 0, 1) := by decide +kernel
theorem dX0_copyFrom_1 : decode cX0_copyFrom 1 = .ok (.aload_n 1, 1) := by decide +kernel
theorem dX0_copyFrom_2 : decode cX0_copyFrom 2 = .ok (.getfield 18, 3) := by decide +kernel
theorem dX0_copyFrom_5 : decode cX0_copyFrom 5 = .ok (.putfield 18, 3) := by decide +kernel
theorem dX0_copyFrom_8 : decode cX0_copyFrom 8 = .ok (.aload_n 0, 1) := by decide +kernel
theorem dX0_copyFrom_9 : decode cX0_copyFrom 9 = .ok (.aload_n 1, 1) := by decide +kernel
theorem dX0_copyFrom_10 : decode cX0_copyFrom 10 = .ok (.getfield 21, 3) := by decide +kernel
theorem dX0_copyFrom_13 : decode cX0_copyFrom 13 = .ok (.putfield 21, 3) := by decide +kernel
theorem dX0_copyFrom_16 : decode cX0_copyFrom 16 = .ok (.aload_n 0, 1) := by decide +kernel
theorem dX0_copyFrom_17 : decode cX0_copyFrom 17 = .ok (.aload_n 1, 1) := by decide +kernel
theorem dX0_copyFrom_18 : decode cX0_copyFrom 18 = .ok (.getfield 24, 3) := by decide +kernel
theorem dX0_copyFrom_21 : decode cX0_copyFrom 21 = .ok (.putfield 24, 3) := by decide +kernel
theorem dX0_copyFrom_24 : decode cX0_copyFrom 24 = .ok (.aload_n 0, 1) := by decide +kernel
theorem dX0_copyFrom_25 : decode cX0_copyFrom 25 = .ok (.aload_n 1, 1) := by decide +kernel
theorem dX0_copyFrom_26 : decode cX0_copyFrom 26 = .ok (.getfield 9, 3) := by decide +kernel
theorem dX0_copyFrom_29 : decode cX0_copyFrom 29 = .ok (.putfield 9, 3) := by decide +kernel
theorem dX0_copyFrom_32 : decode cX0_copyFrom 32 = .ok (.aload_n 0, 1) := by decide +kernel
theorem dX0_copyFrom_33 : decode cX0_copyFrom 33 = .ok (.aload_n 1, 1) := by decide +kernel
theorem dX0_copyFrom_34 : decode cX0_copyFrom 34 = .ok (.getfield 27, 3) := by decide +kernel
theorem dX0_copyFrom_37 : decode cX0_copyFrom 37 = .ok (.putfield 27, 3) := by decide +kernel
theorem dX0_copyFrom_40 : decode cX0_copyFrom 40 = .ok (.aload_n 0, 1) := by decide +kernel
theorem dX0_copyFrom_41 : decode cX0_copyFrom 41 = .ok (.aload_n 1, 1) := by decide +kernel
theorem dX0_copyFrom_42 : decode cX0_copyFrom 42 = .ok (.getfield 30, 3) := by decide +kernel
theorem dX0_copyFrom_45 : decode cX0_copyFrom 45 = .ok (.putfield 30, 3) := by decide +kernel
theorem dX0_copyFrom_48 : decode cX0_copyFrom 48 = .ok (.aload_n 0, 1) := by decide +kernel
theorem dX0_copyFrom_49 : decode cX0_copyFrom 49 = .ok (.aload_n 1, 1) := by decide +kernel
theorem dX0_copyFrom_50 : decode cX0_copyFrom 50 = .ok (.getfield 33, 3) := by decide +kernel
theorem dX0_copyFrom_53 : decode cX0_copyFrom 53 = .ok (.putfield 33, 3) := by decide +kernel
theorem dX0_copyFrom_56 : decode cX0_copyFrom 56 = .ok (.aload_n 0, 1) := by decide +kernel
theorem dX0_copyFrom_57 : decode cX0_copyFrom 57 = .ok (.aload_n 1, 1) := by decide +kernel
theorem dX0_copyFrom_58 : decode cX0_copyFrom 58 = .ok (.getfield 36, 3) := by decide +kernel
theorem dX0_copyFrom_61 : decode cX0_copyFrom 61 = .ok (.putfield 36, 3) := by decide +kernel
theorem dX0_copyFrom_64 : decode cX0_copyFrom 64 = .ok (.aload_n 0, 1) := by decide +kernel
theorem dX0_copyFrom_65 : decode cX0_copyFrom 65 = .ok (.aload_n 1, 1) := by decide +kernel
theorem dX0_copyFrom_66 : decode cX0_copyFrom 66 = .ok (.getfield 39, 3) := by decide +kernel
theorem dX0_copyFrom_69 : decode cX0_copyFrom 69 = .ok (.putfield 39, 3) := by decide +kernel
theorem dX0_copyFrom_72 : decode cX0_copyFrom 72 = .ok (.aload_n 0, 1) := by decide +kernel
theorem dX0_copyFrom_73 : decode cX0_copyFrom 73 = .ok (.aload_n 1, 1) := by decide +kernel
theorem dX0_copyFrom_74 : decode cX0_copyFrom 74 = .ok (.getfield 42, 3) := by decide +kernel
theorem dX0_copyFrom_77 : decode cX0_copyFrom 77 = .ok (.putfield 42, 3) := by decide +kernel
theorem dX0_copyFrom_80 : decode cX0_copyFrom 80 = .ok (.aload_n 0, 1) := by decide +kernel
theorem dX0_copyFrom_81 : decode cX0_copyFrom 81 = .ok (.aload_n 1, 1) := by decide +kernel
theorem dX0_copyFrom_82 : decode cX0_copyFrom 82 = .ok (.getfield 45, 3) := by decide +kernel
theorem dX0_copyFrom_85 : decode cX0_copyFrom 85 = .ok (.putfield 45, 3) := by decide +kernel
theorem dX0_copyFrom_88 : decode cX0_copyFrom 88 = .ok (.return_, 1) := by decide +kernel
theorem dX0_isThere_0 : decode cX0_isThere 0 = .ok (.aload_n 0, 1) := by decide +kernel
theorem dX0_isThere_1 : decode cX0_isThere 1 = .ok (.getfield 30, 3) := by decide +kernel
theorem dX0_isThere_4 : decode cX0_isThere 4 = .ok (.ifCond .ne 7, 3) := by decide +kernel
theorem dX0_isThere_7 : decode cX0_isThere 7 = .ok (.iconst 1, 1) := by decide +kernel
theorem dX0_isThere_8 : decode cX0_isThere 8 = .ok (.goto 4, 3) := by decide +kernel
theorem dX0_isThere_11 : decode cX0_isThere 11 = .ok (.iconst 0, 1) := by decide +kernel
theorem dX0_isThere_12 : decode cX0_isThere 12 = .ok (.ireturn, 1) := by decide +kernel
theorem dX0_dailyNeed_0 : decode cX0_dailyNeed 0 = .ok (.iconst 2, 1) := by decide +kernel
theorem dX0_dailyNeed_1 : decode cX0_dailyNeed 1 = .ok (.aload_n 0, 1) := by decide +kernel
theorem dX0_dailyNeed_2 : decode cX0_dailyNeed 2 = .ok (.getfield 18, 3) := by decide +kernel
theorem dX0_dailyNeed_5 : decode cX0_dailyNeed 5 = .ok (.iadd, 1) := by decide +kernel
theorem dX0_dailyNeed_6 : decode cX0_dailyNeed 6 = .ok (.ireturn, 1) := by decide +kernel
theorem dX0_forgetsThisKey_0 : decode cX0_forgetsThisKey 0 = .ok (.aload_n 0, 1) := by decide +kernel
theorem dX0_forgetsThisKey_1 : decode cX0_forgetsThisKey 1 = .ok (.getfield 24, 3) := by decide +kernel
theorem dX0_forgetsThisKey_4 : decode cX0_forgetsThisKey 4 = .ok (.ifCond .le 19, 3) := by decide +kernel
theorem dX0_forgetsThisKey_7 : decode cX0_forgetsThisKey 7 = .ok (.aload_n 0, 1) := by decide +kernel
theorem dX0_forgetsThisKey_8 : decode cX0_forgetsThisKey 8 = .ok (.getfield 42, 3) := by decide +kernel
theorem dX0_forgetsThisKey_11 : decode cX0_forgetsThisKey 11 = .ok (.aload_n 0, 1) := by decide +kernel
theorem dX0_forgetsThisKey_12 : decode cX0_forgetsThisKey 12 = .ok (.getfield 24, 3) := by decide +kernel
theorem dX0_forgetsThisKey_15 : decode cX0_forgetsThisKey 15 = .ok (.irem, 1) := by decide +kernel
theorem dX0_forgetsThisKey_16 : decode cX0_forgetsThisKey 16 = .ok (.ifCond .ne 7, 3) := by decide +kernel
theorem dX0_forgetsThisKey_19 : decode cX0_forgetsThisKey 19 = .ok (.iconst 1, 1) := by decide +kernel
theorem dX0_forgetsThisKey_20 : decode cX0_forgetsThisKey 20 = .ok (.goto 4, 3) := by decide +kernel
theorem dX0_forgetsThisKey_23 : decode cX0_forgetsThisKey 23 = .ok (.iconst 0, 1) := by decide +kernel
theorem dX0_forgetsThisKey_24 : decode cX0_forgetsThisKey 24 = .ok (.ireturn, 1) := by decide +kernel
theorem dX1_init_0 : decode cX1_init 0 = .ok (.aload_n 0, 1) := by decide +kernel
theorem dX1_init_1 : decode cX1_init 1 = .ok (.invokespecial 3, 3) := by decide +kernel
theorem dX1_init_4 : decode cX1_init 4 = .ok (.aload_n 0, 1) := by decide +kernel
theorem dX1_init_5 : decode cX1_init 5 = .ok (.iconst (-1), 1) := by decide +kernel
theorem dX1_init_6 : decode cX1_init 6 = .ok (.putfield 9, 3) := by decide +kernel
theorem dX1_init_9 : decode cX1_init 9 = .ok (.aload_n 0, 1) := by decide +kernel
theorem dX1_init_10 : decode cX1_init 10 = .ok (.bipush 10, 2) := by decide +kernel
theorem dX1_init_12 : decode cX1_init 12 = .ok (.newarray .int, 2) := by decide +kernel
theorem dX1_init_14 : decode cX1_init 14 = .ok (.putfield 15, 3) := by decide +kernel
theorem dX1_init_17 : decode cX1_init 17 = .ok (.return_, 1) := by decide +kernel
theorem dX1_copyFrom_0 : decode cX1_copyFrom 0 = .ok (.aload_n 0, 1) := by decide +kernel
theorem dX1_copyFrom_1 : decode cX1_copyFrom 1 = .ok (.aload_n 1, 1) := by decide +kernel
theorem dX1_copyFrom_2 : decode cX1_copyFrom 2 = .ok (.getfield 19, 3) := by decide +kernel
theorem dX1_copyFrom_5 : decode cX1_copyFrom 5 = .ok (.putfield 19, 3) := by decide +kernel
theorem dX1_copyFrom_8 : decode cX1_copyFrom 8 = .ok (.aload_n 0, 1) := by decide +kernel
theorem dX1_copyFrom_9 : decode cX1_copyFrom 9 = .ok (.aload_n 1, 1) := by decide +kernel
theorem dX1_copyFrom_10 : decode cX1_copyFrom 10 = .ok (.getfield 22, 3) := by decide +kernel
theorem dX1_copyFrom_13 : decode cX1_copyFrom 13 = .ok (.putfield 22, 3) := by decide +kernel
theorem dX1_copyFrom_16 : decode cX1_copyFrom 16 = .ok (.aload_n 0, 1) := by decide +kernel
theorem dX1_copyFrom_17 : decode cX1_copyFrom 17 = .ok (.aload_n 1, 1) := by decide +kernel
theorem dX1_copyFrom_18 : decode cX1_copyFrom 18 = .ok (.getfield 25, 3) := by decide +kernel
theorem dX1_copyFrom_21 : decode cX1_copyFrom 21 = .ok (.putfield 25, 3) := by decide +kernel
theorem dX1_copyFrom_24 : decode cX1_copyFrom 24 = .ok (.aload_n 0, 1) := by decide +kernel
theorem dX1_copyFrom_25 : decode cX1_copyFrom 25 = .ok (.aload_n 1, 1) := by decide +kernel
theorem dX1_copyFrom_26 : decode cX1_copyFrom 26 = .ok (.getfield 28, 3) := by decide +kernel
theorem dX1_copyFrom_29 : decode cX1_copyFrom 29 = .ok (.putfield 28, 3) := by decide +kernel
theorem dX1_copyFrom_32 : decode cX1_copyFrom 32 = .ok (.aload_n 0, 1) := by decide +kernel
theorem dX1_copyFrom_33 : decode cX1_copyFrom 33 = .ok (.aload_n 1, 1) := by decide +kernel
theorem dX1_copyFrom_34 : decode cX1_copyFrom 34 = .ok (.getfield 32, 3) := by decide +kernel
theorem dX1_copyFrom_37 : decode cX1_copyFrom 37 = .ok (.putfield 32, 3) := by decide +kernel
theorem dX1_copyFrom_40 : decode cX1_copyFrom 40 = .ok (.aload_n 0, 1) := by decide +kernel
theorem dX1_copyFrom_41 : decode cX1_copyFrom 41 = .ok (.aload_n 1, 1) := by decide +kernel
theorem dX1_copyFrom_42 : decode cX1_copyFrom 42 = .ok (.getfield 9, 3) := by decide +kernel
theorem dX1_copyFrom_45 : decode cX1_copyFrom 45 = .ok (.putfield 9, 3) := by decide +kernel
theorem dX1_copyFrom_48 : decode cX1_copyFrom 48 = .ok (.aload_n 1, 1) := by decide +kernel
theorem dX1_copyFrom_49 : decode cX1_copyFrom 49 = .ok (.getfield 15, 3) := by decide +kernel
theorem dX1_copyFrom_52 : decode cX1_copyFrom 52 = .ok (.iconst 0, 1) := by decide +kernel
theorem dX1_copyFrom_53 : decode cX1_copyFrom 53 = .ok (.aload_n 0, 1) := by decide +kernel
theorem dX1_copyFrom_54 : decode cX1_copyFrom 54 = .ok (.getfield 15, 3) := by decide +kernel
theorem dX1_copyFrom_57 : decode cX1_copyFrom 57 = .ok (.iconst 0, 1) := by decide +kernel
theorem dX1_copyFrom_58 : decode cX1_copyFrom 58 = .ok (.bipush 10, 2) := by decide +kernel
theorem dX1_copyFrom_60 : decode cX1_copyFrom 60 = .ok (.invokestatic 35, 3) := by decide +kernel
theorem dX1_copyFrom_63 : decode cX1_copyFrom 63 = .ok (.aload_n 0, 1) := by decide +kernel
theorem dX1_copyFrom_64 : decode cX1_copyFrom 64 = .ok (.aload_n 1, 1) := by decide +kernel
theorem dX1_copyFrom_65 : decode cX1_copyFrom 65 = .ok (.getfield 41, 3) := by decide +kernel
theorem dX1_copyFrom_68 : decode cX1_copyFrom 68 = .ok (.putfield 41, 3) := by decide +kernel
theorem dX1_copyFrom_71 : decode cX1_copyFrom 71 = .ok (.aload_n 0, 1) := by decide +kernel
theorem dX1_copyFrom_72 : decode cX1_copyFrom 72 = .ok (.aload_n 1, 1) := by decide +kernel
theorem dX1_copyFrom_73 : decode cX1_copyFrom 73 = .ok (.getfield 44, 3) := by decide +kernel
theorem dX1_copyFrom_76 : decode cX1_copyFrom 76 = .ok (.putfield 44, 3) := by decide +kernel
theorem dX1_copyFrom_79 : decode cX1_copyFrom 79 = .ok (.aload_n 0, 1) := by decide +kernel
theorem dX1_copyFrom_80 : decode cX1_copyFrom 80 = .ok (.aload_n 1, 1) := by decide +kernel
theorem dX1_copyFrom_81 : decode cX1_copyFrom 81 = .ok (.getfield 47, 3) := by decide +kernel
theorem dX1_copyFrom_84 : decode cX1_copyFrom 84 = .ok (.putfield 47, 3) := by decide +kernel
theorem dX1_copyFrom_87 : decode cX1_copyFrom 87 = .ok (.aload_n 0, 1) := by decide +kernel
theorem dX1_copyFrom_88 : decode cX1_copyFrom 88 = .ok (.aload_n 1, 1) := by decide +kernel
theorem dX1_copyFrom_89 : decode cX1_copyFrom 89 = .ok (.getfield 50, 3) := by decide +kernel
theorem dX1_copyFrom_92 : decode cX1_copyFrom 92 = .ok (.putfield 50, 3) := by decide +kernel
theorem dX1_copyFrom_95 : decode cX1_copyFrom 95 = .ok (.aload_n 0, 1) := by decide +kernel
theorem dX1_copyFrom_96 : decode cX1_copyFrom 96 = .ok (.aload_n 1, 1) := by decide +kernel
theorem dX1_copyFrom_97 : decode cX1_copyFrom 97 = .ok (.getfield 53, 3) := by decide +kernel
theorem dX1_copyFrom_100 : decode cX1_copyFrom 100 = .ok (.putfield 53, 3) := by decide +kernel
theorem dX1_copyFrom_103 : decode cX1_copyFrom 103 = .ok (.return_, 1) := by decide +kernel
theorem dX1_placeOf_0 : decode cX1_placeOf 0 = .ok (.iconst 0, 1) := by decide +kernel
theorem dX1_placeOf_1 : decode cX1_placeOf 1 = .ok (.istore_n 2, 1) := by decide +kernel
theorem dX1_placeOf_2 : decode cX1_placeOf 2 = .ok (.iload_n 2, 1) := by decide +kernel
theorem dX1_placeOf_3 : decode cX1_placeOf 3 = .ok (.aload_n 0, 1) := by decide +kernel
theorem dX1_placeOf_4 : decode cX1_placeOf 4 = .ok (.getfield 41, 3) := by decide +kernel
theorem dX1_placeOf_7 : decode cX1_placeOf 7 = .ok (.if_icmp .ge 21, 3) := by decide +kernel
theorem dX1_placeOf_10 : decode cX1_placeOf 10 = .ok (.aload_n 0, 1) := by decide +kernel
theorem dX1_placeOf_11 : decode cX1_placeOf 11 = .ok (.getfield 15, 3) := by decide +kernel
theorem dX1_placeOf_14 : decode cX1_placeOf 14 = .ok (.iload_n 2, 1) := by decide +kernel
theorem dX1_placeOf_15 : decode cX1_placeOf 15 = .ok (.iaload, 1) := by decide +kernel
theorem dX1_placeOf_16 : decode cX1_placeOf 16 = .ok (.iload_n 1, 1) := by decide +kernel
theorem dX1_placeOf_17 : decode cX1_placeOf 17 = .ok (.if_icmp .ne 5, 3) := by decide +kernel
theorem dX1_placeOf_20 : decode cX1_placeOf 20 = .ok (.iload_n 2, 1) := by decide +kernel
theorem dX1_placeOf_21 : decode cX1_placeOf 21 = .ok (.ireturn, 1) := by decide +kernel
theorem dX1_placeOf_22 : decode cX1_placeOf 22 = .ok (.iinc 2 1, 3) := by decide +kernel
theorem dX1_placeOf_25 : decode cX1_placeOf 25 = .ok (.goto (-23), 3) := by decide +kernel
theorem dX1_placeOf_28 : decode cX1_placeOf 28 = .ok (.iconst (-1), 1) := by decide +kernel
theorem dX1_placeOf_29 : decode cX1_placeOf 29 = .ok (.ireturn, 1) := by decide +kernel
theorem dX1_houseAt_0 : decode cX1_houseAt 0 = .ok (.iload_n 1, 1) := by decide +kernel
theorem dX1_houseAt_1 : decode cX1_houseAt 1 = .ok (.ifCond .lt 20, 3) := by decide +kernel
theorem dX1_houseAt_4 : decode cX1_houseAt 4 = .ok (.iload_n 1, 1) := by decide +kernel
theorem dX1_houseAt_5 : decode cX1_houseAt 5 = .ok (.aload_n 0, 1) := by decide +kernel
theorem dX1_houseAt_6 : decode cX1_houseAt 6 = .ok (.getfield 41, 3) := by decide +kernel
theorem dX1_houseAt_9 : decode cX1_houseAt 9 = .ok (.if_icmp .ge 12, 3) := by decide +kernel
theorem dX1_houseAt_12 : decode cX1_houseAt 12 = .ok (.aload_n 0, 1) := by decide +kernel
theorem dX1_houseAt_13 : decode cX1_houseAt 13 = .ok (.getfield 15, 3) := by decide +kernel
theorem dX1_houseAt_16 : decode cX1_houseAt 16 = .ok (.iload_n 1, 1) := by decide +kernel
theorem dX1_houseAt_17 : decode cX1_houseAt 17 = .ok (.iaload, 1) := by decide +kernel
theorem dX1_houseAt_18 : decode cX1_houseAt 18 = .ok (.goto 4, 3) := by decide +kernel
theorem dX1_houseAt_21 : decode cX1_houseAt 21 = .ok (.iconst (-1), 1) := by decide +kernel
theorem dX1_houseAt_22 : decode cX1_houseAt 22 = .ok (.ireturn, 1) := by decide +kernel
theorem dX1_append_0 : decode cX1_append 0 = .ok (.aload_n 0, 1) := by decide +kernel
theorem dX1_append_1 : decode cX1_append 1 = .ok (.getfield 41, 3) := by decide +kernel
theorem dX1_append_4 : decode cX1_append 4 = .ok (.bipush 10, 2) := by decide +kernel
theorem dX1_append_6 : decode cX1_append 6 = .ok (.if_icmp .ge 23, 3) := by decide +kernel
theorem dX1_append_9 : decode cX1_append 9 = .ok (.aload_n 0, 1) := by decide +kernel
theorem dX1_append_10 : decode cX1_append 10 = .ok (.getfield 15, 3) := by decide +kernel
theorem dX1_append_13 : decode cX1_append 13 = .ok (.aload_n 0, 1) := by decide +kernel
theorem dX1_append_14 : decode cX1_append 14 = .ok (.getfield 41, 3) := by decide +kernel
theorem dX1_append_17 : decode cX1_append 17 = .ok (.iload_n 1, 1) := by decide +kernel
theorem dX1_append_18 : decode cX1_append 18 = .ok (.iastore, 1) := by decide +kernel
theorem dX1_append_19 : decode cX1_append 19 = .ok (.aload_n 0, 1) := by decide +kernel
theorem dX1_append_20 : decode cX1_append 20 = .ok (.dup, 1) := by decide +kernel
theorem dX1_append_21 : decode cX1_append 21 = .ok (.getfield 41, 3) := by decide +kernel
theorem dX1_append_24 : decode cX1_append 24 = .ok (.iconst 1, 1) := by decide +kernel
theorem dX1_append_25 : decode cX1_append 25 = .ok (.iadd, 1) := by decide +kernel
theorem dX1_append_26 : decode cX1_append 26 = .ok (.putfield 41, 3) := by decide +kernel
theorem dX1_append_29 : decode cX1_append 29 = .ok (.return_, 1) := by decide +kernel
theorem dX1_strikeOff_0 : decode cX1_strikeOff 0 = .ok (.iload_n 1, 1) := by decide +kernel
theorem dX1_strikeOff_1 : decode cX1_strikeOff 1 = .ok (.ifCond .lt 11, 3) := by decide +kernel
theorem dX1_strikeOff_4 : decode cX1_strikeOff 4 = .ok (.iload_n 1, 1) := by decide +kernel
theorem dX1_strikeOff_5 : decode cX1_strikeOff 5 = .ok (.aload_n 0, 1) := by decide +kernel
theorem dX1_strikeOff_6 : decode cX1_strikeOff 6 = .ok (.getfield 41, 3) := by decide +kernel
theorem dX1_strikeOff_9 : decode cX1_strikeOff 9 = .ok (.if_icmp .lt 4, 3) := by decide +kernel
theorem dX1_strikeOff_12 : decode cX1_strikeOff 12 = .ok (.return_, 1) := by decide +kernel
theorem dX1_strikeOff_13 : decode cX1_strikeOff 13 = .ok (.iload_n 1, 1) := by decide +kernel
theorem dX1_strikeOff_14 : decode cX1_strikeOff 14 = .ok (.iconst 1, 1) := by decide +kernel
theorem dX1_strikeOff_15 : decode cX1_strikeOff 15 = .ok (.iadd, 1) := by decide +kernel
theorem dX1_strikeOff_16 : decode cX1_strikeOff 16 = .ok (.istore_n 2, 1) := by decide +kernel
theorem dX1_strikeOff_17 : decode cX1_strikeOff 17 = .ok (.iload_n 2, 1) := by decide +kernel
theorem dX1_strikeOff_18 : decode cX1_strikeOff 18 = .ok (.aload_n 0, 1) := by decide +kernel
theorem dX1_strikeOff_19 : decode cX1_strikeOff 19 = .ok (.getfield 41, 3) := by decide +kernel
theorem dX1_strikeOff_22 : decode cX1_strikeOff 22 = .ok (.if_icmp .ge 23, 3) := by decide +kernel
theorem dX1_strikeOff_25 : decode cX1_strikeOff 25 = .ok (.aload_n 0, 1) := by decide +kernel
theorem dX1_strikeOff_26 : decode cX1_strikeOff 26 = .ok (.getfield 15, 3) := by decide +kernel
theorem dX1_strikeOff_29 : decode cX1_strikeOff 29 = .ok (.iload_n 2, 1) := by decide +kernel
theorem dX1_strikeOff_30 : decode cX1_strikeOff 30 = .ok (.iconst 1, 1) := by decide +kernel
theorem dX1_strikeOff_31 : decode cX1_strikeOff 31 = .ok (.isub, 1) := by decide +kernel
theorem dX1_strikeOff_32 : decode cX1_strikeOff 32 = .ok (.aload_n 0, 1) := by decide +kernel
theorem dX1_strikeOff_33 : decode cX1_strikeOff 33 = .ok (.getfield 15, 3) := by decide +kernel
theorem dX1_strikeOff_36 : decode cX1_strikeOff 36 = .ok (.iload_n 2, 1) := by decide +kernel
theorem dX1_strikeOff_37 : decode cX1_strikeOff 37 = .ok (.iaload, 1) := by decide +kernel
theorem dX1_strikeOff_38 : decode cX1_strikeOff 38 = .ok (.iastore, 1) := by decide +kernel
theorem dX1_strikeOff_39 : decode cX1_strikeOff 39 = .ok (.iinc 2 1, 3) := by decide +kernel
theorem dX1_strikeOff_42 : decode cX1_strikeOff 42 = .ok (.goto (-25), 3) := by decide +kernel
theorem dX1_strikeOff_45 : decode cX1_strikeOff 45 = .ok (.aload_n 0, 1) := by decide +kernel
theorem dX1_strikeOff_46 : decode cX1_strikeOff 46 = .ok (.dup, 1) := by decide +kernel
theorem dX1_strikeOff_47 : decode cX1_strikeOff 47 = .ok (.getfield 41, 3) := by decide +kernel
theorem dX1_strikeOff_50 : decode cX1_strikeOff 50 = .ok (.iconst 1, 1) := by decide +kernel
theorem dX1_strikeOff_51 : decode cX1_strikeOff 51 = .ok (.isub, 1) := by decide +kernel
theorem dX1_strikeOff_52 : decode cX1_strikeOff 52 = .ok (.putfield 41, 3) := by decide +kernel
theorem dX1_strikeOff_55 : decode cX1_strikeOff 55 = .ok (.aload_n 0, 1) := by decide +kernel
theorem dX1_strikeOff_56 : decode cX1_strikeOff 56 = .ok (.getfield 44, 3) := by decide +kernel
theorem dX1_strikeOff_59 : decode cX1_strikeOff 59 = .ok (.iload_n 1, 1) := by decide +kernel
theorem dX1_strikeOff_60 : decode cX1_strikeOff 60 = .ok (.if_icmp .le 13, 3) := by decide +kernel
theorem dX1_strikeOff_63 : decode cX1_strikeOff 63 = .ok (.aload_n 0, 1) := by decide +kernel
theorem dX1_strikeOff_64 : decode cX1_strikeOff 64 = .ok (.dup, 1) := by decide +kernel
theorem dX1_strikeOff_65 : decode cX1_strikeOff 65 = .ok (.getfield 44, 3) := by decide +kernel
theorem dX1_strikeOff_68 : decode cX1_strikeOff 68 = .ok (.iconst 1, 1) := by decide +kernel
theorem dX1_strikeOff_69 : decode cX1_strikeOff 69 = .ok (.isub, 1) := by decide +kernel
theorem dX1_strikeOff_70 : decode cX1_strikeOff 70 = .ok (.putfield 44, 3) := by decide +kernel
theorem dX1_strikeOff_73 : decode cX1_strikeOff 73 = .ok (.aload_n 0, 1) := by decide +kernel
theorem dX1_strikeOff_74 : decode cX1_strikeOff 74 = .ok (.getfield 44, 3) := by decide +kernel
theorem dX1_strikeOff_77 : decode cX1_strikeOff 77 = .ok (.aload_n 0, 1) := by decide +kernel
theorem dX1_strikeOff_78 : decode cX1_strikeOff 78 = .ok (.getfield 41, 3) := by decide +kernel
theorem dX1_strikeOff_81 : decode cX1_strikeOff 81 = .ok (.if_icmp .lt 8, 3) := by decide +kernel
theorem dX1_strikeOff_84 : decode cX1_strikeOff 84 = .ok (.aload_n 0, 1) := by decide +kernel
theorem dX1_strikeOff_85 : decode cX1_strikeOff 85 = .ok (.iconst 0, 1) := by decide +kernel
theorem dX1_strikeOff_86 : decode cX1_strikeOff 86 = .ok (.putfield 44, 3) := by decide +kernel
theorem dX1_strikeOff_89 : decode cX1_strikeOff 89 = .ok (.return_, 1) := by decide +kernel
theorem dX1_placeBehind_0 : decode cX1_placeBehind 0 = .ok (.iload_n 1, 1) := by decide +kernel
theorem dX1_placeBehind_1 : decode cX1_placeBehind 1 = .ok (.iconst 1, 1) := by decide +kernel
theorem dX1_placeBehind_2 : decode cX1_placeBehind 2 = .ok (.iadd, 1) := by decide +kernel
theorem dX1_placeBehind_3 : decode cX1_placeBehind 3 = .ok (.aload_n 0, 1) := by decide +kernel
theorem dX1_placeBehind_4 : decode cX1_placeBehind 4 = .ok (.getfield 41, 3) := by decide +kernel
theorem dX1_placeBehind_7 : decode cX1_placeBehind 7 = .ok (.if_icmp .ge 9, 3) := by decide +kernel
theorem dX1_placeBehind_10 : decode cX1_placeBehind 10 = .ok (.iload_n 1, 1) := by decide +kernel
theorem dX1_placeBehind_11 : decode cX1_placeBehind 11 = .ok (.iconst 1, 1) := by decide +kernel
theorem dX1_placeBehind_12 : decode cX1_placeBehind 12 = .ok (.iadd, 1) := by decide +kernel
theorem dX1_placeBehind_13 : decode cX1_placeBehind 13 = .ok (.goto 4, 3) := by decide +kernel
theorem dX1_placeBehind_16 : decode cX1_placeBehind 16 = .ok (.iconst 0, 1) := by decide +kernel
theorem dX1_placeBehind_17 : decode cX1_placeBehind 17 = .ok (.ireturn, 1) := by decide +kernel
theorem dX1_breakHandle_0 : decode cX1_breakHandle 0 = .ok (.aload_n 0, 1) := by decide +kernel
theorem dX1_breakHandle_1 : decode cX1_breakHandle 1 = .ok (.iconst 1, 1) := by decide +kernel
theorem dX1_breakHandle_2 : decode cX1_breakHandle 2 = .ok (.putfield 28, 3) := by decide +kernel
theorem dX1_breakHandle_5 : decode cX1_breakHandle 5 = .ok (.aload_n 0, 1) := by decide +kernel
theorem dX1_breakHandle_6 : decode cX1_breakHandle 6 = .ok (.iconst 1, 1) := by decide +kernel
theorem dX1_breakHandle_7 : decode cX1_breakHandle 7 = .ok (.putfield 56, 3) := by decide +kernel
theorem dX1_breakHandle_10 : decode cX1_breakHandle 10 = .ok (.aload_n 0, 1) := by decide +kernel
theorem dX1_breakHandle_11 : decode cX1_breakHandle 11 = .ok (.iconst 3, 1) := by decide +kernel
theorem dX1_breakHandle_12 : decode cX1_breakHandle 12 = .ok (.putfield 32, 3) := by decide +kernel
theorem dX1_breakHandle_15 : decode cX1_breakHandle 15 = .ok (.return_, 1) := by decide +kernel
theorem dX1_mendHandle_0 : decode cX1_mendHandle 0 = .ok (.aload_n 0, 1) := by decide +kernel
theorem dX1_mendHandle_1 : decode cX1_mendHandle 1 = .ok (.iconst 0, 1) := by decide +kernel
theorem dX1_mendHandle_2 : decode cX1_mendHandle 2 = .ok (.putfield 28, 3) := by decide +kernel
theorem dX1_mendHandle_5 : decode cX1_mendHandle 5 = .ok (.aload_n 0, 1) := by decide +kernel
theorem dX1_mendHandle_6 : decode cX1_mendHandle 6 = .ok (.iconst 0, 1) := by decide +kernel
theorem dX1_mendHandle_7 : decode cX1_mendHandle 7 = .ok (.putfield 25, 3) := by decide +kernel
theorem dX1_mendHandle_10 : decode cX1_mendHandle 10 = .ok (.aload_n 0, 1) := by decide +kernel
theorem dX1_mendHandle_11 : decode cX1_mendHandle 11 = .ok (.dup, 1) := by decide +kernel
theorem dX1_mendHandle_12 : decode cX1_mendHandle 12 = .ok (.getfield 53, 3) := by decide +kernel
theorem dX1_mendHandle_15 : decode cX1_mendHandle 15 = .ok (.iconst 1, 1) := by decide +kernel
theorem dX1_mendHandle_16 : decode cX1_mendHandle 16 = .ok (.iadd, 1) := by decide +kernel
theorem dX1_mendHandle_17 : decode cX1_mendHandle 17 = .ok (.putfield 53, 3) := by decide +kernel
theorem dX1_mendHandle_20 : decode cX1_mendHandle 20 = .ok (.return_, 1) := by decide +kernel
theorem dX1_fact_0 : decode cX1_fact 0 = .ok (.iload_n 1, 1) := by decide +kernel
theorem dX1_fact_1 : decode cX1_fact 1 = .ok (.tableswitch 113 0 9 #[55, 60, 65, 70, 83, 88, 93, 98, 103, 108], 55) := by decide +kernel
theorem dX1_fact_56 : decode cX1_fact 56 = .ok (.aload_n 0, 1) := by decide +kernel
theorem dX1_fact_57 : decode cX1_fact 57 = .ok (.getfield 19, 3) := by decide +kernel
theorem dX1_fact_60 : decode cX1_fact 60 = .ok (.ireturn, 1) := by decide +kernel
theorem dX1_fact_61 : decode cX1_fact 61 = .ok (.aload_n 0, 1) := by decide +kernel
theorem dX1_fact_62 : decode cX1_fact 62 = .ok (.getfield 22, 3) := by decide +kernel
theorem dX1_fact_65 : decode cX1_fact 65 = .ok (.ireturn, 1) := by decide +kernel
theorem dX1_fact_66 : decode cX1_fact 66 = .ok (.aload_n 0, 1) := by decide +kernel
theorem dX1_fact_67 : decode cX1_fact 67 = .ok (.getfield 25, 3) := by decide +kernel
theorem dX1_fact_70 : decode cX1_fact 70 = .ok (.ireturn, 1) := by decide +kernel
theorem dX1_fact_71 : decode cX1_fact 71 = .ok (.aload_n 0, 1) := by decide +kernel
theorem dX1_fact_72 : decode cX1_fact 72 = .ok (.getfield 28, 3) := by decide +kernel
theorem dX1_fact_75 : decode cX1_fact 75 = .ok (.ifCond .eq 7, 3) := by decide +kernel
theorem dX1_fact_78 : decode cX1_fact 78 = .ok (.iconst 1, 1) := by decide +kernel
theorem dX1_fact_79 : decode cX1_fact 79 = .ok (.goto 4, 3) := by decide +kernel
theorem dX1_fact_82 : decode cX1_fact 82 = .ok (.iconst 0, 1) := by decide +kernel
theorem dX1_fact_83 : decode cX1_fact 83 = .ok (.ireturn, 1) := by decide +kernel
theorem dX1_fact_84 : decode cX1_fact 84 = .ok (.aload_n 0, 1) := by decide +kernel
theorem dX1_fact_85 : decode cX1_fact 85 = .ok (.getfield 32, 3) := by decide +kernel
theorem dX1_fact_88 : decode cX1_fact 88 = .ok (.ireturn, 1) := by decide +kernel
theorem dX1_fact_89 : decode cX1_fact 89 = .ok (.aload_n 0, 1) := by decide +kernel
theorem dX1_fact_90 : decode cX1_fact 90 = .ok (.getfield 9, 3) := by decide +kernel
theorem dX1_fact_93 : decode cX1_fact 93 = .ok (.ireturn, 1) := by decide +kernel
theorem dX1_fact_94 : decode cX1_fact 94 = .ok (.aload_n 0, 1) := by decide +kernel
theorem dX1_fact_95 : decode cX1_fact 95 = .ok (.getfield 41, 3) := by decide +kernel
theorem dX1_fact_98 : decode cX1_fact 98 = .ok (.ireturn, 1) := by decide +kernel
theorem dX1_fact_99 : decode cX1_fact 99 = .ok (.aload_n 0, 1) := by decide +kernel
theorem dX1_fact_100 : decode cX1_fact 100 = .ok (.getfield 44, 3) := by decide +kernel
theorem dX1_fact_103 : decode cX1_fact 103 = .ok (.ireturn, 1) := by decide +kernel
theorem dX1_fact_104 : decode cX1_fact 104 = .ok (.aload_n 0, 1) := by decide +kernel
theorem dX1_fact_105 : decode cX1_fact 105 = .ok (.getfield 47, 3) := by decide +kernel
theorem dX1_fact_108 : decode cX1_fact 108 = .ok (.ireturn, 1) := by decide +kernel
theorem dX1_fact_109 : decode cX1_fact 109 = .ok (.aload_n 0, 1) := by decide +kernel
theorem dX1_fact_110 : decode cX1_fact 110 = .ok (.getfield 50, 3) := by decide +kernel
theorem dX1_fact_113 : decode cX1_fact 113 = .ok (.ireturn, 1) := by decide +kernel
theorem dX1_fact_114 : decode cX1_fact 114 = .ok (.aload_n 0, 1) := by decide +kernel
theorem dX1_fact_115 : decode cX1_fact 115 = .ok (.getfield 53, 3) := by decide +kernel
theorem dX1_fact_118 : decode cX1_fact 118 = .ok (.ireturn, 1) := by decide +kernel
set_option maxRecDepth 20000 in
theorem ggX1_mixInto_X1_fact : GoodIn wsX1_mixInto wsX1_fact := goodIn_r _ [8, 9, 10, 11, 12, 13, 14, 2, 15, 16, 17, 18, 19, 20, 21, 22, 23, 24, 25, 26, 27, 28, 29, 30, 31, 32] (by decide +kernel) (by decide +kernel)
set_option maxRecDepth 20000 in
theorem gX1_mixInto_X1_fact : GoodIn wsX1_mixInto (wsV RX1 61 RX1 yX1_fact wsX1_fact) := goodIn_app (goodIn_of _ (by decide +kernel)) ggX1_mixInto_X1_fact
theorem dX1_mixInto_0 : decode cX1_mixInto 0 = .ok (.lload_n 1, 1) := by decide +kernel
theorem dX1_mixInto_1 : decode cX1_mixInto 1 = .ok (.lstore_n 3, 1) := by decide +kernel
theorem dX1_mixInto_2 : decode cX1_mixInto 2 = .ok (.iconst 0, 1) := by decide +kernel
theorem dX1_mixInto_3 : decode cX1_mixInto 3 = .ok (.istore 5, 2) := by decide +kernel
theorem dX1_mixInto_5 : decode cX1_mixInto 5 = .ok (.iload 5, 2) := by decide +kernel
theorem dX1_mixInto_7 : decode cX1_mixInto 7 = .ok (.bipush 10, 2) := by decide +kernel
theorem dX1_mixInto_9 : decode cX1_mixInto 9 = .ok (.if_icmp .gt 23, 3) := by decide +kernel
theorem dX1_mixInto_12 : decode cX1_mixInto 12 = .ok (.lload_n 3, 1) := by decide +kernel
theorem dX1_mixInto_13 : decode cX1_mixInto 13 = .ok (.ldc2_w 59, 3) := by decide +kernel
theorem dX1_mixInto_16 : decode cX1_mixInto 16 = .ok (.lmul, 1) := by decide +kernel
theorem dX1_mixInto_17 : decode cX1_mixInto 17 = .ok (.aload_n 0, 1) := by decide +kernel
theorem dX1_mixInto_18 : decode cX1_mixInto 18 = .ok (.iload 5, 2) := by decide +kernel
theorem dX1_mixInto_20 : decode cX1_mixInto 20 = .ok (.invokevirtual 61, 3) := by decide +kernel
theorem dX1_mixInto_23 : decode cX1_mixInto 23 = .ok (.i2l, 1) := by decide +kernel
theorem dX1_mixInto_24 : decode cX1_mixInto 24 = .ok (.ladd, 1) := by decide +kernel
theorem dX1_mixInto_25 : decode cX1_mixInto 25 = .ok (.lstore_n 3, 1) := by decide +kernel
theorem dX1_mixInto_26 : decode cX1_mixInto 26 = .ok (.iinc 5 1, 3) := by decide +kernel
theorem dX1_mixInto_29 : decode cX1_mixInto 29 = .ok (.goto (-24), 3) := by decide +kernel
theorem dX1_mixInto_32 : decode cX1_mixInto 32 = .ok (.iconst 0, 1) := by decide +kernel
theorem dX1_mixInto_33 : decode cX1_mixInto 33 = .ok (.istore 5, 2) := by decide +kernel
theorem dX1_mixInto_35 : decode cX1_mixInto 35 = .ok (.iload 5, 2) := by decide +kernel
theorem dX1_mixInto_37 : decode cX1_mixInto 37 = .ok (.aload_n 0, 1) := by decide +kernel
theorem dX1_mixInto_38 : decode cX1_mixInto 38 = .ok (.getfield 41, 3) := by decide +kernel
theorem dX1_mixInto_41 : decode cX1_mixInto 41 = .ok (.if_icmp .ge 24, 3) := by decide +kernel
theorem dX1_mixInto_44 : decode cX1_mixInto 44 = .ok (.lload_n 3, 1) := by decide +kernel
theorem dX1_mixInto_45 : decode cX1_mixInto 45 = .ok (.ldc2_w 59, 3) := by decide +kernel
theorem dX1_mixInto_48 : decode cX1_mixInto 48 = .ok (.lmul, 1) := by decide +kernel
theorem dX1_mixInto_49 : decode cX1_mixInto 49 = .ok (.aload_n 0, 1) := by decide +kernel
theorem dX1_mixInto_50 : decode cX1_mixInto 50 = .ok (.getfield 15, 3) := by decide +kernel
theorem dX1_mixInto_53 : decode cX1_mixInto 53 = .ok (.iload 5, 2) := by decide +kernel
theorem dX1_mixInto_55 : decode cX1_mixInto 55 = .ok (.iaload, 1) := by decide +kernel
theorem dX1_mixInto_56 : decode cX1_mixInto 56 = .ok (.i2l, 1) := by decide +kernel
theorem dX1_mixInto_57 : decode cX1_mixInto 57 = .ok (.ladd, 1) := by decide +kernel
theorem dX1_mixInto_58 : decode cX1_mixInto 58 = .ok (.lstore_n 3, 1) := by decide +kernel
theorem dX1_mixInto_59 : decode cX1_mixInto 59 = .ok (.iinc 5 1, 3) := by decide +kernel
theorem dX1_mixInto_62 : decode cX1_mixInto 62 = .ok (.goto (-27), 3) := by decide +kernel
theorem dX1_mixInto_65 : decode cX1_mixInto 65 = .ok (.lload_n 3, 1) := by decide +kernel
theorem dX1_mixInto_66 : decode cX1_mixInto 66 = .ok (.lreturn, 1) := by decide +kernel
set_option maxRecDepth 20000 in
theorem ggX2_init_X0_init : GoodIn wsX2_init wsX0_init := goodIn_r _ [14, 15, 2, 3, 16, 17, 30, 31, 32, 33, 34, 35, 36, 37, 38, 39, 40, 41] (by decide +kernel) (by decide +kernel)
set_option maxRecDepth 20000 in
theorem gX2_init_X0_init : GoodIn wsX2_init (wsX0_init) := ggX2_init_X0_init
set_option maxRecDepth 20000 in
theorem ggX2_init_X1_init : GoodIn wsX2_init wsX1_init := goodIn_r _ [19, 20, 2, 3, 21, 22, 23, 42, 43, 44, 45, 46, 47, 48, 49, 50, 51, 52, 53, 54, 55] (by decide +kernel) (by decide +kernel)
set_option maxRecDepth 20000 in
theorem gX2_init_X1_init_n26 : GoodIn wsX2_init (wsX1_init) := ggX2_init_X1_init
theorem dX2_init_0 : decode cX2_init 0 = .ok (.aload_n 0, 1) := by decide +kernel
theorem dX2_init_1 : decode cX2_init 1 = .ok (.invokespecial 3, 3) := by decide +kernel
theorem dX2_init_4 : decode cX2_init 4 = .ok (.aload_n 0, 1) := by decide +kernel
theorem dX2_init_5 : decode cX2_init 5 = .ok (.bipush 10, 2) := by decide +kernel
theorem dX2_init_7 : decode cX2_init 7 = .ok (.anewarray 9, 3) := by decide +kernel
theorem dX2_init_10 : decode cX2_init 10 = .ok (.putfield 11, 3) := by decide +kernel
theorem dX2_init_13 : decode cX2_init 13 = .ok (.aload_n 0, 1) := by decide +kernel
theorem dX2_init_14 : decode cX2_init 14 = .ok (.iconst 3, 1) := by decide +kernel
theorem dX2_init_15 : decode cX2_init 15 = .ok (.anewarray 17, 3) := by decide +kernel
theorem dX2_init_18 : decode cX2_init 18 = .ok (.putfield 19, 3) := by decide +kernel
theorem dX2_init_21 : decode cX2_init 21 = .ok (.iconst 0, 1) := by decide +kernel
theorem dX2_init_22 : decode cX2_init 22 = .ok (.istore_n 1, 1) := by decide +kernel
theorem dX2_init_23 : decode cX2_init 23 = .ok (.iload_n 1, 1) := by decide +kernel
theorem dX2_init_24 : decode cX2_init 24 = .ok (.bipush 10, 2) := by decide +kernel
theorem dX2_init_26 : decode cX2_init 26 = .ok (.if_icmp .ge 23, 3) := by decide +kernel
theorem dX2_init_29 : decode cX2_init 29 = .ok (.aload_n 0, 1) := by decide +kernel
theorem dX2_init_30 : decode cX2_init 30 = .ok (.getfield 11, 3) := by decide +kernel
theorem dX2_init_33 : decode cX2_init 33 = .ok (.iload_n 1, 1) := by decide +kernel
theorem dX2_init_34 : decode cX2_init 34 = .ok (.new 9, 3) := by decide +kernel
theorem dX2_init_37 : decode cX2_init 37 = .ok (.dup, 1) := by decide +kernel
theorem dX2_init_38 : decode cX2_init 38 = .ok (.iload_n 1, 1) := by decide +kernel
theorem dX2_init_39 : decode cX2_init 39 = .ok (.invokespecial 23, 3) := by decide +kernel
theorem dX2_init_42 : decode cX2_init 42 = .ok (.aastore, 1) := by decide +kernel
theorem dX2_init_43 : decode cX2_init 43 = .ok (.iinc 1 1, 3) := by decide +kernel
theorem dX2_init_46 : decode cX2_init 46 = .ok (.goto (-23), 3) := by decide +kernel
theorem dX2_init_49 : decode cX2_init 49 = .ok (.iconst 0, 1) := by decide +kernel
theorem dX2_init_50 : decode cX2_init 50 = .ok (.istore_n 1, 1) := by decide +kernel
theorem dX2_init_51 : decode cX2_init 51 = .ok (.iload_n 1, 1) := by decide +kernel
theorem dX2_init_52 : decode cX2_init 52 = .ok (.iconst 3, 1) := by decide +kernel
theorem dX2_init_53 : decode cX2_init 53 = .ok (.if_icmp .ge 22, 3) := by decide +kernel
theorem dX2_init_56 : decode cX2_init 56 = .ok (.aload_n 0, 1) := by decide +kernel
theorem dX2_init_57 : decode cX2_init 57 = .ok (.getfield 19, 3) := by decide +kernel
theorem dX2_init_60 : decode cX2_init 60 = .ok (.iload_n 1, 1) := by decide +kernel
theorem dX2_init_61 : decode cX2_init 61 = .ok (.new 17, 3) := by decide +kernel
theorem dX2_init_64 : decode cX2_init 64 = .ok (.dup, 1) := by decide +kernel
theorem dX2_init_65 : decode cX2_init 65 = .ok (.invokespecial 26, 3) := by decide +kernel
theorem dX2_init_68 : decode cX2_init 68 = .ok (.aastore, 1) := by decide +kernel
theorem dX2_init_69 : decode cX2_init 69 = .ok (.iinc 1 1, 3) := by decide +kernel
theorem dX2_init_72 : decode cX2_init 72 = .ok (.goto (-21), 3) := by decide +kernel
theorem dX2_init_75 : decode cX2_init 75 = .ok (.return_, 1) := by decide +kernel
set_option maxRecDepth 20000 in
theorem ggX2_copyFrom_X0_copyFrom : GoodIn wsX2_copyFrom wsX0_copyFrom := goodIn_r _ [11, 12, 13, 14, 15, 16, 17, 18, 19, 20, 21, 22, 50, 51, 52, 53, 54, 55, 56, 57, 58, 59, 60, 61] (by decide +kernel) (by decide +kernel)
set_option maxRecDepth 20000 in
theorem gX2_copyFrom_X0_copyFrom : GoodIn wsX2_copyFrom (wsV RX2 40 RX0 yX0_copyFrom wsX0_copyFrom) := goodIn_app (goodIn_of _ (by decide +kernel)) ggX2_copyFrom_X0_copyFrom
set_option maxRecDepth 20000 in
theorem ggX2_copyFrom_X1_copyFrom : GoodIn wsX2_copyFrom wsX1_copyFrom := goodIn_r _ [27, 28, 29, 30, 31, 32, 33, 34, 35, 36, 37, 38, 39, 40, 41, 42, 43, 62, 63, 64, 65, 66, 67, 68, 69, 70, 71, 72, 73, 74, 75] (by decide +kernel) (by decide +kernel)
set_option maxRecDepth 20000 in
theorem gX2_copyFrom_X1_copyFrom : GoodIn wsX2_copyFrom (wsV RX2 44 RX1 yX1_copyFrom wsX1_copyFrom) := goodIn_app (goodIn_of _ (by decide +kernel)) ggX2_copyFrom_X1_copyFrom
theorem dX2_copyFrom_0 : decode cX2_copyFrom 0 = .ok (.aload_n 0, 1) := by decide +kernel
theorem dX2_copyFrom_1 : decode cX2_copyFrom 1 = .ok (.aload_n 1, 1) := by decide +kernel
theorem dX2_copyFrom_2 : decode cX2_copyFrom 2 = .ok (.getfield 27, 3) := by decide +kernel
theorem dX2_copyFrom_5 : decode cX2_copyFrom 5 = .ok (.putfield 27, 3) := by decide +kernel
theorem dX2_copyFrom_8 : decode cX2_copyFrom 8 = .ok (.aload_n 0, 1) := by decide +kernel
theorem dX2_copyFrom_9 : decode cX2_copyFrom 9 = .ok (.aload_n 1, 1) := by decide +kernel
theorem dX2_copyFrom_10 : decode cX2_copyFrom 10 = .ok (.getfield 31, 3) := by decide +kernel
theorem dX2_copyFrom_13 : decode cX2_copyFrom 13 = .ok (.putfield 31, 3) := by decide +kernel
theorem dX2_copyFrom_16 : decode cX2_copyFrom 16 = .ok (.aload_n 0, 1) := by decide +kernel
theorem dX2_copyFrom_17 : decode cX2_copyFrom 17 = .ok (.aload_n 1, 1) := by decide +kernel
theorem dX2_copyFrom_18 : decode cX2_copyFrom 18 = .ok (.getfield 34, 3) := by decide +kernel
theorem dX2_copyFrom_21 : decode cX2_copyFrom 21 = .ok (.putfield 34, 3) := by decide +kernel
theorem dX2_copyFrom_24 : decode cX2_copyFrom 24 = .ok (.aload_n 0, 1) := by decide +kernel
theorem dX2_copyFrom_25 : decode cX2_copyFrom 25 = .ok (.aload_n 1, 1) := by decide +kernel
theorem dX2_copyFrom_26 : decode cX2_copyFrom 26 = .ok (.getfield 37, 3) := by decide +kernel
theorem dX2_copyFrom_29 : decode cX2_copyFrom 29 = .ok (.putfield 37, 3) := by decide +kernel
theorem dX2_copyFrom_32 : decode cX2_copyFrom 32 = .ok (.iconst 0, 1) := by decide +kernel
theorem dX2_copyFrom_33 : decode cX2_copyFrom 33 = .ok (.istore_n 2, 1) := by decide +kernel
theorem dX2_copyFrom_34 : decode cX2_copyFrom 34 = .ok (.iload_n 2, 1) := by decide +kernel
theorem dX2_copyFrom_35 : decode cX2_copyFrom 35 = .ok (.aload_n 0, 1) := by decide +kernel
theorem dX2_copyFrom_36 : decode cX2_copyFrom 36 = .ok (.getfield 27, 3) := by decide +kernel
theorem dX2_copyFrom_39 : decode cX2_copyFrom 39 = .ok (.if_icmp .ge 24, 3) := by decide +kernel
theorem dX2_copyFrom_42 : decode cX2_copyFrom 42 = .ok (.aload_n 0, 1) := by decide +kernel
theorem dX2_copyFrom_43 : decode cX2_copyFrom 43 = .ok (.getfield 11, 3) := by decide +kernel
theorem dX2_copyFrom_46 : decode cX2_copyFrom 46 = .ok (.iload_n 2, 1) := by decide +kernel
theorem dX2_copyFrom_47 : decode cX2_copyFrom 47 = .ok (.aaload, 1) := by decide +kernel
theorem dX2_copyFrom_48 : decode cX2_copyFrom 48 = .ok (.aload_n 1, 1) := by decide +kernel
theorem dX2_copyFrom_49 : decode cX2_copyFrom 49 = .ok (.getfield 11, 3) := by decide +kernel
theorem dX2_copyFrom_52 : decode cX2_copyFrom 52 = .ok (.iload_n 2, 1) := by decide +kernel
theorem dX2_copyFrom_53 : decode cX2_copyFrom 53 = .ok (.aaload, 1) := by decide +kernel
theorem dX2_copyFrom_54 : decode cX2_copyFrom 54 = .ok (.invokevirtual 40, 3) := by decide +kernel
theorem dX2_copyFrom_57 : decode cX2_copyFrom 57 = .ok (.iinc 2 1, 3) := by decide +kernel
theorem dX2_copyFrom_60 : decode cX2_copyFrom 60 = .ok (.goto (-26), 3) := by decide +kernel
theorem dX2_copyFrom_63 : decode cX2_copyFrom 63 = .ok (.iconst 0, 1) := by decide +kernel
theorem dX2_copyFrom_64 : decode cX2_copyFrom 64 = .ok (.istore_n 2, 1) := by decide +kernel
theorem dX2_copyFrom_65 : decode cX2_copyFrom 65 = .ok (.iload_n 2, 1) := by decide +kernel
theorem dX2_copyFrom_66 : decode cX2_copyFrom 66 = .ok (.aload_n 0, 1) := by decide +kernel
theorem dX2_copyFrom_67 : decode cX2_copyFrom 67 = .ok (.getfield 31, 3) := by decide +kernel
theorem dX2_copyFrom_70 : decode cX2_copyFrom 70 = .ok (.if_icmp .ge 24, 3) := by decide +kernel
theorem dX2_copyFrom_73 : decode cX2_copyFrom 73 = .ok (.aload_n 0, 1) := by decide +kernel
theorem dX2_copyFrom_74 : decode cX2_copyFrom 74 = .ok (.getfield 19, 3) := by decide +kernel
theorem dX2_copyFrom_77 : decode cX2_copyFrom 77 = .ok (.iload_n 2, 1) := by decide +kernel
theorem dX2_copyFrom_78 : decode cX2_copyFrom 78 = .ok (.aaload, 1) := by decide +kernel
theorem dX2_copyFrom_79 : decode cX2_copyFrom 79 = .ok (.aload_n 1, 1) := by decide +kernel
theorem dX2_copyFrom_80 : decode cX2_copyFrom 80 = .ok (.getfield 19, 3) := by decide +kernel
theorem dX2_copyFrom_83 : decode cX2_copyFrom 83 = .ok (.iload_n 2, 1) := by decide +kernel
theorem dX2_copyFrom_84 : decode cX2_copyFrom 84 = .ok (.aaload, 1) := by decide +kernel
theorem dX2_copyFrom_85 : decode cX2_copyFrom 85 = .ok (.invokevirtual 44, 3) := by decide +kernel
theorem dX2_copyFrom_88 : decode cX2_copyFrom 88 = .ok (.iinc 2 1, 3) := by decide +kernel
theorem dX2_copyFrom_91 : decode cX2_copyFrom 91 = .ok (.goto (-26), 3) := by decide +kernel
theorem dX2_copyFrom_94 : decode cX2_copyFrom 94 = .ok (.return_, 1) := by decide +kernel
theorem dX2_isHouse_0 : decode cX2_isHouse 0 = .ok (.iload_n 1, 1) := by decide +kernel
theorem dX2_isHouse_1 : decode cX2_isHouse 1 = .ok (.ifCond .lt 15, 3) := by decide +kernel
theorem dX2_isHouse_4 : decode cX2_isHouse 4 = .ok (.iload_n 1, 1) := by decide +kernel
theorem dX2_isHouse_5 : decode cX2_isHouse 5 = .ok (.aload_n 0, 1) := by decide +kernel
theorem dX2_isHouse_6 : decode cX2_isHouse 6 = .ok (.getfield 27, 3) := by decide +kernel
theorem dX2_isHouse_9 : decode cX2_isHouse 9 = .ok (.if_icmp .ge 7, 3) := by decide +kernel
theorem dX2_isHouse_12 : decode cX2_isHouse 12 = .ok (.iconst 1, 1) := by decide +kernel
theorem dX2_isHouse_13 : decode cX2_isHouse 13 = .ok (.goto 4, 3) := by decide +kernel
theorem dX2_isHouse_16 : decode cX2_isHouse 16 = .ok (.iconst 0, 1) := by decide +kernel
theorem dX2_isHouse_17 : decode cX2_isHouse 17 = .ok (.ireturn, 1) := by decide +kernel
theorem dX2_isPump_0 : decode cX2_isPump 0 = .ok (.iload_n 1, 1) := by decide +kernel
theorem dX2_isPump_1 : decode cX2_isPump 1 = .ok (.ifCond .lt 15, 3) := by decide +kernel
theorem dX2_isPump_4 : decode cX2_isPump 4 = .ok (.iload_n 1, 1) := by decide +kernel
theorem dX2_isPump_5 : decode cX2_isPump 5 = .ok (.aload_n 0, 1) := by decide +kernel
theorem dX2_isPump_6 : decode cX2_isPump 6 = .ok (.getfield 31, 3) := by decide +kernel
theorem dX2_isPump_9 : decode cX2_isPump 9 = .ok (.if_icmp .ge 7, 3) := by decide +kernel
theorem dX2_isPump_12 : decode cX2_isPump 12 = .ok (.iconst 1, 1) := by decide +kernel
theorem dX2_isPump_13 : decode cX2_isPump 13 = .ok (.goto 4, 3) := by decide +kernel
theorem dX2_isPump_16 : decode cX2_isPump 16 = .ok (.iconst 0, 1) := by decide +kernel
theorem dX2_isPump_17 : decode cX2_isPump 17 = .ok (.ireturn, 1) := by decide +kernel
set_option maxRecDepth 20000 in
theorem ggX2_charge_X1_placeOf : GoodIn wsX2_charge wsX1_placeOf := goodIn_r _ [16, 17, 18, 42, 43, 44, 45, 46, 47, 48, 49, 50, 51, 52, 53, 54, 55] (by decide +kernel) (by decide +kernel)
set_option maxRecDepth 20000 in
theorem gX2_charge_X1_placeOf : GoodIn wsX2_charge (wsV RX2 65 RX1 yX1_placeOf wsX1_placeOf) := goodIn_app (goodIn_of _ (by decide +kernel)) ggX2_charge_X1_placeOf
set_option maxRecDepth 20000 in
theorem ggX2_charge_X1_strikeOff : GoodIn wsX2_charge wsX1_strikeOff := goodIn_r _ [22, 17, 18, 23, 42, 43, 44, 45, 46, 47, 48, 49, 50, 51, 52, 53, 54, 55] (by decide +kernel) (by decide +kernel)
set_option maxRecDepth 20000 in
theorem gX2_charge_X1_strikeOff : GoodIn wsX2_charge (wsV RX2 69 RX1 yX1_strikeOff wsX1_strikeOff) := goodIn_app (goodIn_of _ (by decide +kernel)) ggX2_charge_X1_strikeOff
theorem dX2_charge_0 : decode cX2_charge 0 = .ok (.aload_n 1, 1) := by decide +kernel
theorem dX2_charge_1 : decode cX2_charge 1 = .ok (.dup, 1) := by decide +kernel
theorem dX2_charge_2 : decode cX2_charge 2 = .ok (.getfield 47, 3) := by decide +kernel
theorem dX2_charge_5 : decode cX2_charge 5 = .ok (.iload_n 2, 1) := by decide +kernel
theorem dX2_charge_6 : decode cX2_charge 6 = .ok (.iadd, 1) := by decide +kernel
theorem dX2_charge_7 : decode cX2_charge 7 = .ok (.putfield 47, 3) := by decide +kernel
theorem dX2_charge_10 : decode cX2_charge 10 = .ok (.iload_n 2, 1) := by decide +kernel
theorem dX2_charge_11 : decode cX2_charge 11 = .ok (.aload_n 1, 1) := by decide +kernel
theorem dX2_charge_12 : decode cX2_charge 12 = .ok (.getfield 50, 3) := by decide +kernel
theorem dX2_charge_15 : decode cX2_charge 15 = .ok (.invokestatic 53, 3) := by decide +kernel
theorem dX2_charge_18 : decode cX2_charge 18 = .ok (.istore_n 3, 1) := by decide +kernel
theorem dX2_charge_19 : decode cX2_charge 19 = .ok (.aload_n 1, 1) := by decide +kernel
theorem dX2_charge_20 : decode cX2_charge 20 = .ok (.dup, 1) := by decide +kernel
theorem dX2_charge_21 : decode cX2_charge 21 = .ok (.getfield 50, 3) := by decide +kernel
theorem dX2_charge_24 : decode cX2_charge 24 = .ok (.iload_n 3, 1) := by decide +kernel
theorem dX2_charge_25 : decode cX2_charge 25 = .ok (.isub, 1) := by decide +kernel
theorem dX2_charge_26 : decode cX2_charge 26 = .ok (.putfield 50, 3) := by decide +kernel
theorem dX2_charge_29 : decode cX2_charge 29 = .ok (.aload_n 0, 1) := by decide +kernel
theorem dX2_charge_30 : decode cX2_charge 30 = .ok (.dup, 1) := by decide +kernel
theorem dX2_charge_31 : decode cX2_charge 31 = .ok (.getfield 34, 3) := by decide +kernel
theorem dX2_charge_34 : decode cX2_charge 34 = .ok (.iload_n 3, 1) := by decide +kernel
theorem dX2_charge_35 : decode cX2_charge 35 = .ok (.iadd, 1) := by decide +kernel
theorem dX2_charge_36 : decode cX2_charge 36 = .ok (.putfield 34, 3) := by decide +kernel
theorem dX2_charge_39 : decode cX2_charge 39 = .ok (.iload_n 3, 1) := by decide +kernel
theorem dX2_charge_40 : decode cX2_charge 40 = .ok (.iload_n 2, 1) := by decide +kernel
theorem dX2_charge_41 : decode cX2_charge 41 = .ok (.if_icmp .ge 71, 3) := by decide +kernel
theorem dX2_charge_44 : decode cX2_charge 44 = .ok (.aload_n 1, 1) := by decide +kernel
theorem dX2_charge_45 : decode cX2_charge 45 = .ok (.getfield 59, 3) := by decide +kernel
theorem dX2_charge_48 : decode cX2_charge 48 = .ok (.iconst 3, 1) := by decide +kernel
theorem dX2_charge_49 : decode cX2_charge 49 = .ok (.if_icmp .ge 63, 3) := by decide +kernel
theorem dX2_charge_52 : decode cX2_charge 52 = .ok (.aload_n 1, 1) := by decide +kernel
theorem dX2_charge_53 : decode cX2_charge 53 = .ok (.dup, 1) := by decide +kernel
theorem dX2_charge_54 : decode cX2_charge 54 = .ok (.getfield 59, 3) := by decide +kernel
theorem dX2_charge_57 : decode cX2_charge 57 = .ok (.iconst 1, 1) := by decide +kernel
theorem dX2_charge_58 : decode cX2_charge 58 = .ok (.iadd, 1) := by decide +kernel
theorem dX2_charge_59 : decode cX2_charge 59 = .ok (.putfield 59, 3) := by decide +kernel
theorem dX2_charge_62 : decode cX2_charge 62 = .ok (.aload_n 1, 1) := by decide +kernel
theorem dX2_charge_63 : decode cX2_charge 63 = .ok (.getfield 59, 3) := by decide +kernel
theorem dX2_charge_66 : decode cX2_charge 66 = .ok (.iconst 3, 1) := by decide +kernel
theorem dX2_charge_67 : decode cX2_charge 67 = .ok (.if_icmp .ne 45, 3) := by decide +kernel
theorem dX2_charge_70 : decode cX2_charge 70 = .ok (.iconst 0, 1) := by decide +kernel
theorem dX2_charge_71 : decode cX2_charge 71 = .ok (.istore 4, 2) := by decide +kernel
theorem dX2_charge_73 : decode cX2_charge 73 = .ok (.iload 4, 2) := by decide +kernel
theorem dX2_charge_75 : decode cX2_charge 75 = .ok (.aload_n 0, 1) := by decide +kernel
theorem dX2_charge_76 : decode cX2_charge 76 = .ok (.getfield 31, 3) := by decide +kernel
theorem dX2_charge_79 : decode cX2_charge 79 = .ok (.if_icmp .ge 33, 3) := by decide +kernel
theorem dX2_charge_82 : decode cX2_charge 82 = .ok (.aload_n 0, 1) := by decide +kernel
theorem dX2_charge_83 : decode cX2_charge 83 = .ok (.getfield 19, 3) := by decide +kernel
theorem dX2_charge_86 : decode cX2_charge 86 = .ok (.iload 4, 2) := by decide +kernel
theorem dX2_charge_88 : decode cX2_charge 88 = .ok (.aaload, 1) := by decide +kernel
theorem dX2_charge_89 : decode cX2_charge 89 = .ok (.aload_n 0, 1) := by decide +kernel
theorem dX2_charge_90 : decode cX2_charge 90 = .ok (.getfield 19, 3) := by decide +kernel
theorem dX2_charge_93 : decode cX2_charge 93 = .ok (.iload 4, 2) := by decide +kernel
theorem dX2_charge_95 : decode cX2_charge 95 = .ok (.aaload, 1) := by decide +kernel
theorem dX2_charge_96 : decode cX2_charge 96 = .ok (.aload_n 1, 1) := by decide +kernel
theorem dX2_charge_97 : decode cX2_charge 97 = .ok (.getfield 62, 3) := by decide +kernel
theorem dX2_charge_100 : decode cX2_charge 100 = .ok (.invokevirtual 65, 3) := by decide +kernel
theorem dX2_charge_103 : decode cX2_charge 103 = .ok (.invokevirtual 69, 3) := by decide +kernel
theorem dX2_charge_106 : decode cX2_charge 106 = .ok (.iinc 4 1, 3) := by decide +kernel
theorem dX2_charge_109 : decode cX2_charge 109 = .ok (.goto (-36), 3) := by decide +kernel
theorem dX2_charge_112 : decode cX2_charge 112 = .ok (.iload_n 3, 1) := by decide +kernel
theorem dX2_charge_113 : decode cX2_charge 113 = .ok (.ireturn, 1) := by decide +kernel
set_option maxRecDepth 20000 in
theorem ggX2_runDays_X2_allDrawn : GoodIn wsX2_runDays wsX2_allDrawn := goodIn_r _ [5, 6, 7, 8, 152, 153, 154, 155, 156, 157, 158, 159, 160, 161, 162, 163, 164, 165, 166, 167, 168, 169, 170, 171] (by decide +kernel) (by decide +kernel)
set_option maxRecDepth 20000 in
theorem gX2_runDays_X2_allDrawn : GoodIn wsX2_runDays (wsV RX2 72 RX2 yX2_allDrawn wsX2_allDrawn) := goodIn_app (goodIn_of _ (by decide +kernel)) ggX2_runDays_X2_allDrawn
set_option maxRecDepth 20000 in
theorem ggX2_runDays_X2_layEggs : GoodIn wsX2_runDays wsX2_layEggs := goodIn_r _ [12, 13, 14, 15, 16, 17, 18, 19, 20, 21, 22, 152, 153, 154, 155, 156, 157, 172, 173, 174, 175, 176, 177, 178, 179, 180, 181, 182, 183] (by decide +kernel) (by decide +kernel)
set_option maxRecDepth 20000 in
theorem gX2_runDays_X2_layEggs : GoodIn wsX2_runDays (wsV RX2 76 RX2 yX2_layEggs wsX2_layEggs) := goodIn_app (goodIn_of _ (by decide +kernel)) ggX2_runDays_X2_layEggs
set_option maxRecDepth 20000 in
theorem ggX2_runDays_X2_passKeys : GoodIn wsX2_runDays wsX2_passKeys := goodIn_r _ [26, 6, 7, 27, 28, 29, 30, 14, 31, 32, 33, 34, 4, 35, 36, 37, 38, 39, 40, 41, 42, 43, 44, 45, 46, 47, 48, 49, 50, 51, 52, 13, 17, 18, 19, 20, 21, 22, 53, 54, 55, 56, 57, 58, 59, 60, 61, 62, 63, 64, 65, 66, 67, 68, 15, 69, 70, 71, 72, 73, 74, 75, 76, 77, 78, 79, 80, 81, 82, 83, 84, 152, 153, 154, 155, 156, 157, 158, 159, 160, 161, 162, 163, 164, 165, 166, 167, 168, 169, 170, 171, 172, 173, 174, 175, 176, 177, 178, 179, 180, 181, 182, 183] (by decide +kernel) (by decide +kernel)
set_option maxRecDepth 20000 in
theorem gX2_runDays_X2_passKeys : GoodIn wsX2_runDays (wsV RX2 79 RX2 yX2_passKeys wsX2_passKeys) := goodIn_app (goodIn_of _ (by decide +kernel)) ggX2_runDays_X2_passKeys
set_option maxRecDepth 20000 in
theorem ggX2_runDays_X2_drawWater : GoodIn wsX2_runDays wsX2_drawWater := goodIn_r _ [88, 13, 14, 17, 18, 19, 20, 21, 22, 89, 90, 91, 4, 92, 93, 6, 7, 94, 95, 96, 97, 98, 99, 100, 101, 102, 103, 104, 105, 106, 107, 27, 108, 109, 69, 70, 71, 72, 8, 110, 111, 112, 113, 41, 114, 115, 116, 117, 64, 65, 66, 67, 68, 15, 73, 74, 75, 76, 77, 78, 79, 43, 44, 80, 81, 82, 83, 84, 152, 153, 154, 155, 156, 157, 172, 173, 174, 175, 176, 177, 178, 179, 180, 181, 182, 183, 158, 159, 160, 161, 162, 163, 164, 165, 166, 167, 168, 169, 170, 171] (by decide +kernel) (by decide +kernel)
set_option maxRecDepth 20000 in
theorem gX2_runDays_X2_drawWater : GoodIn wsX2_runDays (wsV RX2 82 RX2 yX2_drawWater wsX2_drawWater) := goodIn_app (goodIn_of _ (by decide +kernel)) ggX2_runDays_X2_drawWater
set_option maxRecDepth 20000 in
theorem ggX2_runDays_X2_mendHandles : GoodIn wsX2_runDays wsX2_mendHandles := goodIn_r _ [121, 6, 7, 108, 28, 122, 123, 124, 4, 125, 126, 73, 127, 128, 129, 41, 130, 115, 131, 132, 152, 153, 154, 155, 156, 157, 158, 159, 160, 161, 162, 163, 164, 165, 166, 167, 168, 169, 170, 171] (by decide +kernel) (by decide +kernel)
set_option maxRecDepth 20000 in
theorem gX2_runDays_X2_mendHandles : GoodIn wsX2_runDays (wsV RX2 85 RX2 yX2_mendHandles wsX2_mendHandles) := goodIn_app (goodIn_of _ (by decide +kernel)) ggX2_runDays_X2_mendHandles
set_option maxRecDepth 20000 in
theorem ggX2_runDays_X2_fillWells : GoodIn wsX2_runDays wsX2_fillWells := goodIn_r _ [136, 6, 7, 109, 137, 69, 70, 71, 72, 152, 153, 154, 155, 156, 157, 158, 159, 160, 161, 162, 163, 164, 165, 166, 167, 168, 169, 170, 171] (by decide +kernel) (by decide +kernel)
set_option maxRecDepth 20000 in
theorem gX2_runDays_X2_fillWells : GoodIn wsX2_runDays (wsV RX2 88 RX2 yX2_fillWells wsX2_fillWells) := goodIn_app (goodIn_of _ (by decide +kernel)) ggX2_runDays_X2_fillWells
set_option maxRecDepth 20000 in
theorem ggX2_runDays_X2_shareChest : GoodIn wsX2_runDays wsX2_shareChest := goodIn_r _ [141, 142, 73, 13, 14, 74, 15, 143, 144, 145, 4, 146, 152, 153, 154, 155, 156, 157, 172, 173, 174, 175, 176, 177, 178, 179, 180, 181, 182, 183] (by decide +kernel) (by decide +kernel)
set_option maxRecDepth 20000 in
theorem gX2_runDays_X2_shareChest : GoodIn wsX2_runDays (wsV RX2 91 RX2 yX2_shareChest wsX2_shareChest) := goodIn_app (goodIn_of _ (by decide +kernel)) ggX2_runDays_X2_shareChest
set_option maxRecDepth 20000 in
theorem ggX2_runDays_X2_endDay : GoodIn wsX2_runDays wsX2_endDay := goodIn_r _ [150, 13, 14, 151, 142, 17, 18, 19, 20, 21, 22, 152, 153, 154, 155, 156, 157, 172, 173, 174, 175, 176, 177, 178, 179, 180, 181, 182, 183] (by decide +kernel) (by decide +kernel)
set_option maxRecDepth 20000 in
theorem gX2_runDays_X2_endDay : GoodIn wsX2_runDays (wsV RX2 94 RX2 yX2_endDay wsX2_endDay) := goodIn_app (goodIn_of _ (by decide +kernel)) ggX2_runDays_X2_endDay
theorem dX2_runDays_0 : decode cX2_runDays 0 = .ok (.aload_n 0, 1) := by decide +kernel
theorem dX2_runDays_1 : decode cX2_runDays 1 = .ok (.invokevirtual 72, 3) := by decide +kernel
theorem dX2_runDays_4 : decode cX2_runDays 4 = .ok (.istore_n 2, 1) := by decide +kernel
theorem dX2_runDays_5 : decode cX2_runDays 5 = .ok (.iconst 0, 1) := by decide +kernel
theorem dX2_runDays_6 : decode cX2_runDays 6 = .ok (.istore_n 3, 1) := by decide +kernel
theorem dX2_runDays_7 : decode cX2_runDays 7 = .ok (.iload_n 3, 1) := by decide +kernel
theorem dX2_runDays_8 : decode cX2_runDays 8 = .ok (.iload_n 1, 1) := by decide +kernel
theorem dX2_runDays_9 : decode cX2_runDays 9 = .ok (.if_icmp .ge 37, 3) := by decide +kernel
theorem dX2_runDays_12 : decode cX2_runDays 12 = .ok (.aload_n 0, 1) := by decide +kernel
theorem dX2_runDays_13 : decode cX2_runDays 13 = .ok (.invokevirtual 76, 3) := by decide +kernel
theorem dX2_runDays_16 : decode cX2_runDays 16 = .ok (.aload_n 0, 1) := by decide +kernel
theorem dX2_runDays_17 : decode cX2_runDays 17 = .ok (.invokevirtual 79, 3) := by decide +kernel
theorem dX2_runDays_20 : decode cX2_runDays 20 = .ok (.aload_n 0, 1) := by decide +kernel
theorem dX2_runDays_21 : decode cX2_runDays 21 = .ok (.invokevirtual 82, 3) := by decide +kernel
theorem dX2_runDays_24 : decode cX2_runDays 24 = .ok (.aload_n 0, 1) := by decide +kernel
theorem dX2_runDays_25 : decode cX2_runDays 25 = .ok (.invokevirtual 85, 3) := by decide +kernel
theorem dX2_runDays_28 : decode cX2_runDays 28 = .ok (.aload_n 0, 1) := by decide +kernel
theorem dX2_runDays_29 : decode cX2_runDays 29 = .ok (.invokevirtual 88, 3) := by decide +kernel
theorem dX2_runDays_32 : decode cX2_runDays 32 = .ok (.aload_n 0, 1) := by decide +kernel
theorem dX2_runDays_33 : decode cX2_runDays 33 = .ok (.invokevirtual 91, 3) := by decide +kernel
theorem dX2_runDays_36 : decode cX2_runDays 36 = .ok (.aload_n 0, 1) := by decide +kernel
theorem dX2_runDays_37 : decode cX2_runDays 37 = .ok (.invokevirtual 94, 3) := by decide +kernel
theorem dX2_runDays_40 : decode cX2_runDays 40 = .ok (.iinc 3 1, 3) := by decide +kernel
theorem dX2_runDays_43 : decode cX2_runDays 43 = .ok (.goto (-36), 3) := by decide +kernel
theorem dX2_runDays_46 : decode cX2_runDays 46 = .ok (.aload_n 0, 1) := by decide +kernel
theorem dX2_runDays_47 : decode cX2_runDays 47 = .ok (.invokevirtual 72, 3) := by decide +kernel
theorem dX2_runDays_50 : decode cX2_runDays 50 = .ok (.iload_n 2, 1) := by decide +kernel
theorem dX2_runDays_51 : decode cX2_runDays 51 = .ok (.isub, 1) := by decide +kernel
theorem dX2_runDays_52 : decode cX2_runDays 52 = .ok (.ireturn, 1) := by decide +kernel
set_option maxRecDepth 20000 in
theorem ggX2_layEggs_X0_isThere : GoodIn wsX2_layEggs wsX0_isThere := goodIn_r _ [9, 10, 17, 18, 19, 20, 21, 22, 23, 24, 25, 26, 27, 28] (by decide +kernel) (by decide +kernel)
set_option maxRecDepth 20000 in
theorem gX2_layEggs_X0_isThere : GoodIn wsX2_layEggs (wsV RX2 97 RX0 yX0_isThere wsX0_isThere) := goodIn_app (goodIn_of _ (by decide +kernel)) ggX2_layEggs_X0_isThere
theorem dX2_layEggs_0 : decode cX2_layEggs 0 = .ok (.iconst 0, 1) := by decide +kernel
theorem dX2_layEggs_1 : decode cX2_layEggs 1 = .ok (.istore_n 1, 1) := by decide +kernel
theorem dX2_layEggs_2 : decode cX2_layEggs 2 = .ok (.iload_n 1, 1) := by decide +kernel
theorem dX2_layEggs_3 : decode cX2_layEggs 3 = .ok (.aload_n 0, 1) := by decide +kernel
theorem dX2_layEggs_4 : decode cX2_layEggs 4 = .ok (.getfield 27, 3) := by decide +kernel
theorem dX2_layEggs_7 : decode cX2_layEggs 7 = .ok (.if_icmp .ge 44, 3) := by decide +kernel
theorem dX2_layEggs_10 : decode cX2_layEggs 10 = .ok (.aload_n 0, 1) := by decide +kernel
theorem dX2_layEggs_11 : decode cX2_layEggs 11 = .ok (.getfield 11, 3) := by decide +kernel
theorem dX2_layEggs_14 : decode cX2_layEggs 14 = .ok (.iload_n 1, 1) := by decide +kernel
theorem dX2_layEggs_15 : decode cX2_layEggs 15 = .ok (.aaload, 1) := by decide +kernel
theorem dX2_layEggs_16 : decode cX2_layEggs 16 = .ok (.invokevirtual 97, 3) := by decide +kernel
theorem dX2_layEggs_19 : decode cX2_layEggs 19 = .ok (.ifCond .eq 26, 3) := by decide +kernel
theorem dX2_layEggs_22 : decode cX2_layEggs 22 = .ok (.aload_n 0, 1) := by decide +kernel
theorem dX2_layEggs_23 : decode cX2_layEggs 23 = .ok (.getfield 11, 3) := by decide +kernel
theorem dX2_layEggs_26 : decode cX2_layEggs 26 = .ok (.iload_n 1, 1) := by decide +kernel
theorem dX2_layEggs_27 : decode cX2_layEggs 27 = .ok (.aaload, 1) := by decide +kernel
theorem dX2_layEggs_28 : decode cX2_layEggs 28 = .ok (.dup, 1) := by decide +kernel
theorem dX2_layEggs_29 : decode cX2_layEggs 29 = .ok (.getfield 50, 3) := by decide +kernel
theorem dX2_layEggs_32 : decode cX2_layEggs 32 = .ok (.aload_n 0, 1) := by decide +kernel
theorem dX2_layEggs_33 : decode cX2_layEggs 33 = .ok (.getfield 11, 3) := by decide +kernel
theorem dX2_layEggs_36 : decode cX2_layEggs 36 = .ok (.iload_n 1, 1) := by decide +kernel
theorem dX2_layEggs_37 : decode cX2_layEggs 37 = .ok (.aaload, 1) := by decide +kernel
theorem dX2_layEggs_38 : decode cX2_layEggs 38 = .ok (.getfield 101, 3) := by decide +kernel
theorem dX2_layEggs_41 : decode cX2_layEggs 41 = .ok (.iadd, 1) := by decide +kernel
theorem dX2_layEggs_42 : decode cX2_layEggs 42 = .ok (.putfield 50, 3) := by decide +kernel
theorem dX2_layEggs_45 : decode cX2_layEggs 45 = .ok (.iinc 1 1, 3) := by decide +kernel
theorem dX2_layEggs_48 : decode cX2_layEggs 48 = .ok (.goto (-46), 3) := by decide +kernel
theorem dX2_layEggs_51 : decode cX2_layEggs 51 = .ok (.return_, 1) := by decide +kernel
set_option maxRecDepth 20000 in
theorem ggX2_passKeys_X2_takeTurn : GoodIn wsX2_passKeys wsX2_takeTurn := goodIn_r _ [13, 14, 15, 7, 16, 17, 18, 19, 20, 21, 22, 23, 24, 25, 26, 27, 28, 29, 12, 30, 31, 32, 33, 34, 35, 36, 37, 77, 78, 79, 80, 81, 82, 83, 84, 85, 86, 87, 88, 89, 90, 71, 72, 73, 74, 75, 76, 91, 92, 93, 94, 95, 96, 97, 98, 99, 100, 101, 102] (by decide +kernel) (by decide +kernel)
set_option maxRecDepth 20000 in
theorem gX2_passKeys_X2_takeTurn : GoodIn wsX2_passKeys (wsV RX2 111 RX2 yX2_takeTurn wsX2_takeTurn) := goodIn_app (goodIn_of _ (by decide +kernel)) ggX2_passKeys_X2_takeTurn
set_option maxRecDepth 20000 in
theorem ggX2_passKeys_X2_isHouse : GoodIn wsX2_passKeys wsX2_isHouse := goodIn_r _ [30, 31, 71, 72, 73, 74, 75, 76] (by decide +kernel) (by decide +kernel)
set_option maxRecDepth 20000 in
theorem gX2_passKeys_X2_isHouse : GoodIn wsX2_passKeys (wsV RX2 115 RX2 yX2_isHouse wsX2_isHouse) := goodIn_app (goodIn_of _ (by decide +kernel)) ggX2_passKeys_X2_isHouse
set_option maxRecDepth 20000 in
theorem ggX2_passKeys_X2_handOnKey : GoodIn wsX2_passKeys wsX2_handOnKey := goodIn_r _ [41, 5, 7, 42, 27, 28, 29, 12, 30, 31, 32, 33, 34, 35, 36, 37, 43, 44, 45, 46, 47, 48, 49, 50, 51, 52, 53, 54, 55, 56, 57, 58, 59, 60, 1, 2, 61, 62, 63, 64, 19, 65, 21, 22, 66, 67, 68, 69, 70, 77, 78, 79, 80, 81, 82, 83, 84, 85, 86, 87, 88, 89, 90, 71, 72, 73, 74, 75, 76, 91, 92, 93, 94, 95, 96, 97, 98, 99, 100, 101, 102] (by decide +kernel) (by decide +kernel)
set_option maxRecDepth 20000 in
theorem gX2_passKeys_X2_handOnKey : GoodIn wsX2_passKeys (wsV RX2 119 RX2 yX2_handOnKey wsX2_handOnKey) := goodIn_app (goodIn_of _ (by decide +kernel)) ggX2_passKeys_X2_handOnKey
theorem dX2_passKeys_0 : decode cX2_passKeys 0 = .ok (.iconst 0, 1) := by decide +kernel
theorem dX2_passKeys_1 : decode cX2_passKeys 1 = .ok (.istore_n 1, 1) := by decide +kernel
theorem dX2_passKeys_2 : decode cX2_passKeys 2 = .ok (.iload_n 1, 1) := by decide +kernel
theorem dX2_passKeys_3 : decode cX2_passKeys 3 = .ok (.aload_n 0, 1) := by decide +kernel
theorem dX2_passKeys_4 : decode cX2_passKeys 4 = .ok (.getfield 31, 3) := by decide +kernel
theorem dX2_passKeys_7 : decode cX2_passKeys 7 = .ok (.if_icmp .ge 84, 3) := by decide +kernel
theorem dX2_passKeys_10 : decode cX2_passKeys 10 = .ok (.aload_n 0, 1) := by decide +kernel
theorem dX2_passKeys_11 : decode cX2_passKeys 11 = .ok (.getfield 19, 3) := by decide +kernel
theorem dX2_passKeys_14 : decode cX2_passKeys 14 = .ok (.iload_n 1, 1) := by decide +kernel
theorem dX2_passKeys_15 : decode cX2_passKeys 15 = .ok (.aaload, 1) := by decide +kernel
theorem dX2_passKeys_16 : decode cX2_passKeys 16 = .ok (.astore_n 2, 1) := by decide +kernel
theorem dX2_passKeys_17 : decode cX2_passKeys 17 = .ok (.aload_n 2, 1) := by decide +kernel
theorem dX2_passKeys_18 : decode cX2_passKeys 18 = .ok (.iconst 0, 1) := by decide +kernel
theorem dX2_passKeys_19 : decode cX2_passKeys 19 = .ok (.putfield 104, 3) := by decide +kernel
theorem dX2_passKeys_22 : decode cX2_passKeys 22 = .ok (.aload_n 2, 1) := by decide +kernel
theorem dX2_passKeys_23 : decode cX2_passKeys 23 = .ok (.iconst 0, 1) := by decide +kernel
theorem dX2_passKeys_24 : decode cX2_passKeys 24 = .ok (.putfield 108, 3) := by decide +kernel
theorem dX2_passKeys_27 : decode cX2_passKeys 27 = .ok (.aload_n 0, 1) := by decide +kernel
theorem dX2_passKeys_28 : decode cX2_passKeys 28 = .ok (.aload_n 2, 1) := by decide +kernel
theorem dX2_passKeys_29 : decode cX2_passKeys 29 = .ok (.invokevirtual 111, 3) := by decide +kernel
theorem dX2_passKeys_32 : decode cX2_passKeys 32 = .ok (.istore_n 3, 1) := by decide +kernel
theorem dX2_passKeys_33 : decode cX2_passKeys 33 = .ok (.aload_n 0, 1) := by decide +kernel
theorem dX2_passKeys_34 : decode cX2_passKeys 34 = .ok (.iload_n 3, 1) := by decide +kernel
theorem dX2_passKeys_35 : decode cX2_passKeys 35 = .ok (.invokevirtual 115, 3) := by decide +kernel
theorem dX2_passKeys_38 : decode cX2_passKeys 38 = .ok (.ifCond .eq 47, 3) := by decide +kernel
theorem dX2_passKeys_41 : decode cX2_passKeys 41 = .ok (.aload_n 0, 1) := by decide +kernel
theorem dX2_passKeys_42 : decode cX2_passKeys 42 = .ok (.aload_n 2, 1) := by decide +kernel
theorem dX2_passKeys_43 : decode cX2_passKeys 43 = .ok (.iload_n 3, 1) := by decide +kernel
theorem dX2_passKeys_44 : decode cX2_passKeys 44 = .ok (.invokevirtual 119, 3) := by decide +kernel
theorem dX2_passKeys_47 : decode cX2_passKeys 47 = .ok (.ifCond .eq 38, 3) := by decide +kernel
theorem dX2_passKeys_50 : decode cX2_passKeys 50 = .ok (.aload_n 2, 1) := by decide +kernel
theorem dX2_passKeys_51 : decode cX2_passKeys 51 = .ok (.iload_n 3, 1) := by decide +kernel
theorem dX2_passKeys_52 : decode cX2_passKeys 52 = .ok (.putfield 123, 3) := by decide +kernel
theorem dX2_passKeys_55 : decode cX2_passKeys 55 = .ok (.aload_n 2, 1) := by decide +kernel
theorem dX2_passKeys_56 : decode cX2_passKeys 56 = .ok (.iconst 1, 1) := by decide +kernel
theorem dX2_passKeys_57 : decode cX2_passKeys 57 = .ok (.putfield 104, 3) := by decide +kernel
theorem dX2_passKeys_60 : decode cX2_passKeys 60 = .ok (.aload_n 2, 1) := by decide +kernel
theorem dX2_passKeys_61 : decode cX2_passKeys 61 = .ok (.dup, 1) := by decide +kernel
theorem dX2_passKeys_62 : decode cX2_passKeys 62 = .ok (.getfield 126, 3) := by decide +kernel
theorem dX2_passKeys_65 : decode cX2_passKeys 65 = .ok (.iconst 1, 1) := by decide +kernel
theorem dX2_passKeys_66 : decode cX2_passKeys 66 = .ok (.iadd, 1) := by decide +kernel
theorem dX2_passKeys_67 : decode cX2_passKeys 67 = .ok (.putfield 126, 3) := by decide +kernel
theorem dX2_passKeys_70 : decode cX2_passKeys 70 = .ok (.aload_n 0, 1) := by decide +kernel
theorem dX2_passKeys_71 : decode cX2_passKeys 71 = .ok (.getfield 11, 3) := by decide +kernel
theorem dX2_passKeys_74 : decode cX2_passKeys 74 = .ok (.iload_n 3, 1) := by decide +kernel
theorem dX2_passKeys_75 : decode cX2_passKeys 75 = .ok (.aaload, 1) := by decide +kernel
theorem dX2_passKeys_76 : decode cX2_passKeys 76 = .ok (.dup, 1) := by decide +kernel
theorem dX2_passKeys_77 : decode cX2_passKeys 77 = .ok (.getfield 129, 3) := by decide +kernel
theorem dX2_passKeys_80 : decode cX2_passKeys 80 = .ok (.iconst 1, 1) := by decide +kernel
theorem dX2_passKeys_81 : decode cX2_passKeys 81 = .ok (.iadd, 1) := by decide +kernel
theorem dX2_passKeys_82 : decode cX2_passKeys 82 = .ok (.putfield 129, 3) := by decide +kernel
theorem dX2_passKeys_85 : decode cX2_passKeys 85 = .ok (.iinc 1 1, 3) := by decide +kernel
theorem dX2_passKeys_88 : decode cX2_passKeys 88 = .ok (.goto (-86), 3) := by decide +kernel
theorem dX2_passKeys_91 : decode cX2_passKeys 91 = .ok (.return_, 1) := by decide +kernel
set_option maxRecDepth 20000 in
theorem ggX2_takeTurn_X1_houseAt : GoodIn wsX2_takeTurn wsX1_houseAt := goodIn_r _ [8, 9, 10, 27, 28, 29, 30, 31, 32, 33, 34, 35, 36, 37, 38, 39, 40] (by decide +kernel) (by decide +kernel)
set_option maxRecDepth 20000 in
theorem gX2_takeTurn_X1_houseAt : GoodIn wsX2_takeTurn (wsV RX2 138 RX1 yX1_houseAt wsX1_houseAt) := goodIn_app (goodIn_of _ (by decide +kernel)) ggX2_takeTurn_X1_houseAt
set_option maxRecDepth 20000 in
theorem ggX2_takeTurn_X1_placeBehind : GoodIn wsX2_takeTurn wsX1_placeBehind := goodIn_r _ [14, 9, 27, 28, 29, 30, 31, 32, 33, 34, 35, 36, 37, 38, 39, 40] (by decide +kernel) (by decide +kernel)
set_option maxRecDepth 20000 in
theorem gX2_takeTurn_X1_placeBehind : GoodIn wsX2_takeTurn (wsV RX2 141 RX1 yX1_placeBehind wsX1_placeBehind) := goodIn_app (goodIn_of _ (by decide +kernel)) ggX2_takeTurn_X1_placeBehind
set_option maxRecDepth 20000 in
theorem ggX2_takeTurn_X2_isHouse : GoodIn wsX2_takeTurn wsX2_isHouse := goodIn_r _ [19, 20, 41, 42, 43, 44, 45, 46] (by decide +kernel) (by decide +kernel)
set_option maxRecDepth 20000 in
theorem gX2_takeTurn_X2_isHouse : GoodIn wsX2_takeTurn (wsV RX2 115 RX2 yX2_isHouse wsX2_isHouse) := goodIn_app (goodIn_of _ (by decide +kernel)) ggX2_takeTurn_X2_isHouse
set_option maxRecDepth 20000 in
theorem ggX2_takeTurn_X0_isThere : GoodIn wsX2_takeTurn wsX0_isThere := goodIn_r _ [25, 26, 47, 48, 49, 50, 51, 52, 53, 54, 55, 56, 57, 58] (by decide +kernel) (by decide +kernel)
set_option maxRecDepth 20000 in
theorem gX2_takeTurn_X0_isThere : GoodIn wsX2_takeTurn (wsV RX2 97 RX0 yX0_isThere wsX0_isThere) := goodIn_app (goodIn_of _ (by decide +kernel)) ggX2_takeTurn_X0_isThere
theorem dX2_takeTurn_0 : decode cX2_takeTurn 0 = .ok (.aload_n 1, 1) := by decide +kernel
theorem dX2_takeTurn_1 : decode cX2_takeTurn 1 = .ok (.getfield 132, 3) := by decide +kernel
theorem dX2_takeTurn_4 : decode cX2_takeTurn 4 = .ok (.istore_n 2, 1) := by decide +kernel
theorem dX2_takeTurn_5 : decode cX2_takeTurn 5 = .ok (.iconst 0, 1) := by decide +kernel
theorem dX2_takeTurn_6 : decode cX2_takeTurn 6 = .ok (.istore_n 3, 1) := by decide +kernel
theorem dX2_takeTurn_7 : decode cX2_takeTurn 7 = .ok (.iload_n 3, 1) := by decide +kernel
theorem dX2_takeTurn_8 : decode cX2_takeTurn 8 = .ok (.aload_n 1, 1) := by decide +kernel
theorem dX2_takeTurn_9 : decode cX2_takeTurn 9 = .ok (.getfield 135, 3) := by decide +kernel
theorem dX2_takeTurn_12 : decode cX2_takeTurn 12 = .ok (.if_icmp .ge 52, 3) := by decide +kernel
theorem dX2_takeTurn_15 : decode cX2_takeTurn 15 = .ok (.aload_n 1, 1) := by decide +kernel
theorem dX2_takeTurn_16 : decode cX2_takeTurn 16 = .ok (.iload_n 2, 1) := by decide +kernel
theorem dX2_takeTurn_17 : decode cX2_takeTurn 17 = .ok (.invokevirtual 138, 3) := by decide +kernel
theorem dX2_takeTurn_20 : decode cX2_takeTurn 20 = .ok (.istore 4, 2) := by decide +kernel
theorem dX2_takeTurn_22 : decode cX2_takeTurn 22 = .ok (.aload_n 1, 1) := by decide +kernel
theorem dX2_takeTurn_23 : decode cX2_takeTurn 23 = .ok (.iload_n 2, 1) := by decide +kernel
theorem dX2_takeTurn_24 : decode cX2_takeTurn 24 = .ok (.invokevirtual 141, 3) := by decide +kernel
theorem dX2_takeTurn_27 : decode cX2_takeTurn 27 = .ok (.istore_n 2, 1) := by decide +kernel
theorem dX2_takeTurn_28 : decode cX2_takeTurn 28 = .ok (.aload_n 0, 1) := by decide +kernel
theorem dX2_takeTurn_29 : decode cX2_takeTurn 29 = .ok (.iload 4, 2) := by decide +kernel
theorem dX2_takeTurn_31 : decode cX2_takeTurn 31 = .ok (.invokevirtual 115, 3) := by decide +kernel
theorem dX2_takeTurn_34 : decode cX2_takeTurn 34 = .ok (.ifCond .eq 24, 3) := by decide +kernel
theorem dX2_takeTurn_37 : decode cX2_takeTurn 37 = .ok (.aload_n 0, 1) := by decide +kernel
theorem dX2_takeTurn_38 : decode cX2_takeTurn 38 = .ok (.getfield 11, 3) := by decide +kernel
theorem dX2_takeTurn_41 : decode cX2_takeTurn 41 = .ok (.iload 4, 2) := by decide +kernel
theorem dX2_takeTurn_43 : decode cX2_takeTurn 43 = .ok (.aaload, 1) := by decide +kernel
theorem dX2_takeTurn_44 : decode cX2_takeTurn 44 = .ok (.invokevirtual 97, 3) := by decide +kernel
theorem dX2_takeTurn_47 : decode cX2_takeTurn 47 = .ok (.ifCond .eq 11, 3) := by decide +kernel
theorem dX2_takeTurn_50 : decode cX2_takeTurn 50 = .ok (.aload_n 1, 1) := by decide +kernel
theorem dX2_takeTurn_51 : decode cX2_takeTurn 51 = .ok (.iload_n 2, 1) := by decide +kernel
theorem dX2_takeTurn_52 : decode cX2_takeTurn 52 = .ok (.putfield 132, 3) := by decide +kernel
theorem dX2_takeTurn_55 : decode cX2_takeTurn 55 = .ok (.iload 4, 2) := by decide +kernel
theorem dX2_takeTurn_57 : decode cX2_takeTurn 57 = .ok (.ireturn, 1) := by decide +kernel
theorem dX2_takeTurn_58 : decode cX2_takeTurn 58 = .ok (.iinc 3 1, 3) := by decide +kernel
theorem dX2_takeTurn_61 : decode cX2_takeTurn 61 = .ok (.goto (-54), 3) := by decide +kernel
theorem dX2_takeTurn_64 : decode cX2_takeTurn 64 = .ok (.iconst (-1), 1) := by decide +kernel
theorem dX2_takeTurn_65 : decode cX2_takeTurn 65 = .ok (.ireturn, 1) := by decide +kernel
set_option maxRecDepth 20000 in
theorem ggX2_handOnKey_X2_isHouse : GoodIn wsX2_handOnKey wsX2_isHouse := goodIn_r _ [8, 9, 63, 64, 65, 66, 67, 68] (by decide +kernel) (by decide +kernel)
set_option maxRecDepth 20000 in
theorem gX2_handOnKey_X2_isHouse : GoodIn wsX2_handOnKey (wsV RX2 115 RX2 yX2_isHouse wsX2_isHouse) := goodIn_app (goodIn_of _ (by decide +kernel)) ggX2_handOnKey_X2_isHouse
set_option maxRecDepth 20000 in
theorem ggX2_handOnKey_X0_isThere : GoodIn wsX2_handOnKey wsX0_isThere := goodIn_r _ [14, 15, 69, 70, 71, 72, 73, 74, 75, 76, 77, 78, 79, 80] (by decide +kernel) (by decide +kernel)
set_option maxRecDepth 20000 in
theorem gX2_handOnKey_X0_isThere : GoodIn wsX2_handOnKey (wsV RX2 97 RX0 yX0_isThere wsX0_isThere) := goodIn_app (goodIn_of _ (by decide +kernel)) ggX2_handOnKey_X0_isThere
set_option maxRecDepth 20000 in
theorem ggX2_handOnKey_X0_forgetsThisKey : GoodIn wsX2_handOnKey wsX0_forgetsThisKey := goodIn_r _ [19, 20, 21, 69, 70, 71, 72, 73, 74, 75, 76, 77, 78, 79, 80] (by decide +kernel) (by decide +kernel)
set_option maxRecDepth 20000 in
theorem gX2_handOnKey_X0_forgetsThisKey : GoodIn wsX2_handOnKey (wsV RX2 147 RX0 yX0_forgetsThisKey wsX0_forgetsThisKey) := goodIn_app (goodIn_of _ (by decide +kernel)) ggX2_handOnKey_X0_forgetsThisKey
set_option maxRecDepth 20000 in
theorem ggX2_handOnKey_X2_charge : GoodIn wsX2_handOnKey wsX2_charge := goodIn_r _ [25, 26, 27, 28, 29, 30, 31, 32, 33, 34, 35, 36, 37, 38, 39, 40, 41, 42, 43, 44, 45, 46, 47, 48, 69, 70, 71, 72, 73, 74, 75, 76, 77, 78, 79, 80, 63, 64, 65, 66, 67, 68, 49, 50, 51, 52, 53, 54, 55, 56, 57, 58, 59, 60, 61, 62] (by decide +kernel) (by decide +kernel)
set_option maxRecDepth 20000 in
theorem gX2_handOnKey_X2_charge : GoodIn wsX2_handOnKey (wsV RX2 150 RX2 yX2_charge wsX2_charge) := goodIn_app (goodIn_of _ (by decide +kernel)) ggX2_handOnKey_X2_charge
theorem dX2_handOnKey_0 : decode cX2_handOnKey 0 = .ok (.aload_n 1, 1) := by decide +kernel
theorem dX2_handOnKey_1 : decode cX2_handOnKey 1 = .ok (.getfield 123, 3) := by decide +kernel
theorem dX2_handOnKey_4 : decode cX2_handOnKey 4 = .ok (.iload_n 2, 1) := by decide +kernel
theorem dX2_handOnKey_5 : decode cX2_handOnKey 5 = .ok (.if_icmp .eq 14, 3) := by decide +kernel
theorem dX2_handOnKey_8 : decode cX2_handOnKey 8 = .ok (.aload_n 0, 1) := by decide +kernel
theorem dX2_handOnKey_9 : decode cX2_handOnKey 9 = .ok (.aload_n 1, 1) := by decide +kernel
theorem dX2_handOnKey_10 : decode cX2_handOnKey 10 = .ok (.getfield 123, 3) := by decide +kernel
theorem dX2_handOnKey_13 : decode cX2_handOnKey 13 = .ok (.invokevirtual 115, 3) := by decide +kernel
theorem dX2_handOnKey_16 : decode cX2_handOnKey 16 = .ok (.ifCond .ne 5, 3) := by decide +kernel
theorem dX2_handOnKey_19 : decode cX2_handOnKey 19 = .ok (.iconst 1, 1) := by decide +kernel
theorem dX2_handOnKey_20 : decode cX2_handOnKey 20 = .ok (.ireturn, 1) := by decide +kernel
theorem dX2_handOnKey_21 : decode cX2_handOnKey 21 = .ok (.aload_n 0, 1) := by decide +kernel
theorem dX2_handOnKey_22 : decode cX2_handOnKey 22 = .ok (.getfield 11, 3) := by decide +kernel
theorem dX2_handOnKey_25 : decode cX2_handOnKey 25 = .ok (.aload_n 1, 1) := by decide +kernel
theorem dX2_handOnKey_26 : decode cX2_handOnKey 26 = .ok (.getfield 123, 3) := by decide +kernel
theorem dX2_handOnKey_29 : decode cX2_handOnKey 29 = .ok (.aaload, 1) := by decide +kernel
theorem dX2_handOnKey_30 : decode cX2_handOnKey 30 = .ok (.astore_n 3, 1) := by decide +kernel
theorem dX2_handOnKey_31 : decode cX2_handOnKey 31 = .ok (.aload_n 3, 1) := by decide +kernel
theorem dX2_handOnKey_32 : decode cX2_handOnKey 32 = .ok (.invokevirtual 97, 3) := by decide +kernel
theorem dX2_handOnKey_35 : decode cX2_handOnKey 35 = .ok (.ifCond .eq 22, 3) := by decide +kernel
theorem dX2_handOnKey_38 : decode cX2_handOnKey 38 = .ok (.aload_n 3, 1) := by decide +kernel
theorem dX2_handOnKey_39 : decode cX2_handOnKey 39 = .ok (.dup, 1) := by decide +kernel
theorem dX2_handOnKey_40 : decode cX2_handOnKey 40 = .ok (.getfield 144, 3) := by decide +kernel
theorem dX2_handOnKey_43 : decode cX2_handOnKey 43 = .ok (.iconst 1, 1) := by decide +kernel
theorem dX2_handOnKey_44 : decode cX2_handOnKey 44 = .ok (.iadd, 1) := by decide +kernel
theorem dX2_handOnKey_45 : decode cX2_handOnKey 45 = .ok (.putfield 144, 3) := by decide +kernel
theorem dX2_handOnKey_48 : decode cX2_handOnKey 48 = .ok (.aload_n 3, 1) := by decide +kernel
theorem dX2_handOnKey_49 : decode cX2_handOnKey 49 = .ok (.invokevirtual 147, 3) := by decide +kernel
theorem dX2_handOnKey_52 : decode cX2_handOnKey 52 = .ok (.ifCond .ne 5, 3) := by decide +kernel
theorem dX2_handOnKey_55 : decode cX2_handOnKey 55 = .ok (.iconst 1, 1) := by decide +kernel
theorem dX2_handOnKey_56 : decode cX2_handOnKey 56 = .ok (.ireturn, 1) := by decide +kernel
theorem dX2_handOnKey_57 : decode cX2_handOnKey 57 = .ok (.aload_n 0, 1) := by decide +kernel
theorem dX2_handOnKey_58 : decode cX2_handOnKey 58 = .ok (.aload_n 3, 1) := by decide +kernel
theorem dX2_handOnKey_59 : decode cX2_handOnKey 59 = .ok (.iconst 3, 1) := by decide +kernel
theorem dX2_handOnKey_60 : decode cX2_handOnKey 60 = .ok (.invokevirtual 150, 3) := by decide +kernel
theorem dX2_handOnKey_63 : decode cX2_handOnKey 63 = .ok (.pop, 1) := by decide +kernel
theorem dX2_handOnKey_64 : decode cX2_handOnKey 64 = .ok (.iconst 0, 1) := by decide +kernel
theorem dX2_handOnKey_65 : decode cX2_handOnKey 65 = .ok (.ireturn, 1) := by decide +kernel
set_option maxRecDepth 20000 in
theorem ggX2_drawWater_X0_isThere : GoodIn wsX2_drawWater wsX0_isThere := goodIn_r _ [7, 8, 74, 75, 76, 77, 78, 79, 80, 81, 82, 83, 84, 85] (by decide +kernel) (by decide +kernel)
set_option maxRecDepth 20000 in
theorem gX2_drawWater_X0_isThere : GoodIn wsX2_drawWater (wsV RX2 97 RX0 yX0_isThere wsX0_isThere) := goodIn_app (goodIn_of _ (by decide +kernel)) ggX2_drawWater_X0_isThere
set_option maxRecDepth 20000 in
theorem ggX2_drawWater_X2_drawAround : GoodIn wsX2_drawWater wsX2_drawAround := goodIn_r _ [13, 14, 15, 16, 17, 18, 19, 20, 6, 21, 22, 23, 24, 25, 12, 26, 27, 28, 29, 30, 31, 32, 33, 34, 35, 36, 37, 38, 39, 40, 41, 42, 43, 44, 45, 46, 47, 48, 49, 50, 51, 52, 53, 54, 55, 56, 57, 58, 59, 60, 61, 62, 63, 64, 65, 66, 67, 74, 75, 76, 77, 78, 79, 80, 81, 82, 83, 84, 85, 68, 69, 70, 71, 72, 73, 86, 87, 88, 89, 90, 91, 92, 93, 94, 95, 96, 97, 98, 99] (by decide +kernel) (by decide +kernel)
set_option maxRecDepth 20000 in
theorem gX2_drawWater_X2_drawAround : GoodIn wsX2_drawWater (wsV RX2 154 RX2 yX2_drawAround wsX2_drawAround) := goodIn_app (goodIn_of _ (by decide +kernel)) ggX2_drawWater_X2_drawAround
theorem dX2_drawWater_0 : decode cX2_drawWater 0 = .ok (.iconst 0, 1) := by decide +kernel
theorem dX2_drawWater_1 : decode cX2_drawWater 1 = .ok (.istore_n 1, 1) := by decide +kernel
theorem dX2_drawWater_2 : decode cX2_drawWater 2 = .ok (.iload_n 1, 1) := by decide +kernel
theorem dX2_drawWater_3 : decode cX2_drawWater 3 = .ok (.aload_n 0, 1) := by decide +kernel
theorem dX2_drawWater_4 : decode cX2_drawWater 4 = .ok (.getfield 27, 3) := by decide +kernel
theorem dX2_drawWater_7 : decode cX2_drawWater 7 = .ok (.if_icmp .ge 31, 3) := by decide +kernel
theorem dX2_drawWater_10 : decode cX2_drawWater 10 = .ok (.aload_n 0, 1) := by decide +kernel
theorem dX2_drawWater_11 : decode cX2_drawWater 11 = .ok (.getfield 11, 3) := by decide +kernel
theorem dX2_drawWater_14 : decode cX2_drawWater 14 = .ok (.iload_n 1, 1) := by decide +kernel
theorem dX2_drawWater_15 : decode cX2_drawWater 15 = .ok (.aaload, 1) := by decide +kernel
theorem dX2_drawWater_16 : decode cX2_drawWater 16 = .ok (.invokevirtual 97, 3) := by decide +kernel
theorem dX2_drawWater_19 : decode cX2_drawWater 19 = .ok (.ifCond .eq 13, 3) := by decide +kernel
theorem dX2_drawWater_22 : decode cX2_drawWater 22 = .ok (.aload_n 0, 1) := by decide +kernel
theorem dX2_drawWater_23 : decode cX2_drawWater 23 = .ok (.aload_n 0, 1) := by decide +kernel
theorem dX2_drawWater_24 : decode cX2_drawWater 24 = .ok (.getfield 11, 3) := by decide +kernel
theorem dX2_drawWater_27 : decode cX2_drawWater 27 = .ok (.iload_n 1, 1) := by decide +kernel
theorem dX2_drawWater_28 : decode cX2_drawWater 28 = .ok (.aaload, 1) := by decide +kernel
theorem dX2_drawWater_29 : decode cX2_drawWater 29 = .ok (.invokevirtual 154, 3) := by decide +kernel
theorem dX2_drawWater_32 : decode cX2_drawWater 32 = .ok (.iinc 1 1, 3) := by decide +kernel
theorem dX2_drawWater_35 : decode cX2_drawWater 35 = .ok (.goto (-33), 3) := by decide +kernel
theorem dX2_drawWater_38 : decode cX2_drawWater 38 = .ok (.return_, 1) := by decide +kernel
set_option maxRecDepth 20000 in
theorem ggX2_drawAround_X0_dailyNeed : GoodIn wsX2_drawAround wsX0_dailyNeed := goodIn_r _ [9, 10, 57, 58, 59, 60, 61, 62, 63, 64, 65, 66, 67, 68] (by decide +kernel) (by decide +kernel)
set_option maxRecDepth 20000 in
theorem gX2_drawAround_X0_dailyNeed : GoodIn wsX2_drawAround (wsV RX2 157 RX0 yX0_dailyNeed wsX0_dailyNeed) := goodIn_app (goodIn_of _ (by decide +kernel)) ggX2_drawAround_X0_dailyNeed
set_option maxRecDepth 20000 in
theorem ggX2_drawAround_X2_isPump : GoodIn wsX2_drawAround wsX2_isPump := goodIn_r _ [15, 2, 69, 70, 71, 72, 73, 74] (by decide +kernel) (by decide +kernel)
set_option maxRecDepth 20000 in
theorem gX2_drawAround_X2_isPump : GoodIn wsX2_drawAround (wsV RX2 163 RX2 yX2_isPump wsX2_isPump) := goodIn_app (goodIn_of _ (by decide +kernel)) ggX2_drawAround_X2_isPump
set_option maxRecDepth 20000 in
theorem ggX2_drawAround_X2_drawFrom : GoodIn wsX2_drawAround wsX2_drawFrom := goodIn_r _ [19, 20, 21, 22, 23, 24, 25, 26, 27, 28, 29, 30, 31, 32, 33, 34, 35, 36, 37, 38, 39, 14, 40, 41, 42, 43, 44, 2, 3, 45, 46, 47, 48, 49, 50, 51, 52, 53, 54, 55, 56, 75, 76, 77, 78, 79, 80, 81, 82, 83, 84, 85, 86, 87, 88, 57, 58, 59, 60, 61, 62, 63, 64, 65, 66, 67, 68, 69, 70, 71, 72, 73, 74] (by decide +kernel) (by decide +kernel)
set_option maxRecDepth 20000 in
theorem gX2_drawAround_X2_drawFrom : GoodIn wsX2_drawAround (wsV RX2 166 RX2 yX2_drawFrom wsX2_drawFrom) := goodIn_app (goodIn_of _ (by decide +kernel)) ggX2_drawAround_X2_drawFrom
theorem dX2_drawAround_0 : decode cX2_drawAround 0 = .ok (.aload_n 1, 1) := by decide +kernel
theorem dX2_drawAround_1 : decode cX2_drawAround 1 = .ok (.invokevirtual 157, 3) := by decide +kernel
theorem dX2_drawAround_4 : decode cX2_drawAround 4 = .ok (.istore_n 2, 1) := by decide +kernel
theorem dX2_drawAround_5 : decode cX2_drawAround 5 = .ok (.aload_n 1, 1) := by decide +kernel
theorem dX2_drawAround_6 : decode cX2_drawAround 6 = .ok (.getfield 160, 3) := by decide +kernel
theorem dX2_drawAround_9 : decode cX2_drawAround 9 = .ok (.istore_n 3, 1) := by decide +kernel
theorem dX2_drawAround_10 : decode cX2_drawAround 10 = .ok (.iconst 0, 1) := by decide +kernel
theorem dX2_drawAround_11 : decode cX2_drawAround 11 = .ok (.istore 4, 2) := by decide +kernel
theorem dX2_drawAround_13 : decode cX2_drawAround 13 = .ok (.iload 4, 2) := by decide +kernel
theorem dX2_drawAround_15 : decode cX2_drawAround 15 = .ok (.aload_n 0, 1) := by decide +kernel
theorem dX2_drawAround_16 : decode cX2_drawAround 16 = .ok (.getfield 31, 3) := by decide +kernel
theorem dX2_drawAround_19 : decode cX2_drawAround 19 = .ok (.if_icmp .ge 37, 3) := by decide +kernel
theorem dX2_drawAround_22 : decode cX2_drawAround 22 = .ok (.aload_n 0, 1) := by decide +kernel
theorem dX2_drawAround_23 : decode cX2_drawAround 23 = .ok (.iload_n 3, 1) := by decide +kernel
theorem dX2_drawAround_24 : decode cX2_drawAround 24 = .ok (.invokevirtual 163, 3) := by decide +kernel
theorem dX2_drawAround_27 : decode cX2_drawAround 27 = .ok (.ifCond .ne 5, 3) := by decide +kernel
theorem dX2_drawAround_30 : decode cX2_drawAround 30 = .ok (.iconst 0, 1) := by decide +kernel
theorem dX2_drawAround_31 : decode cX2_drawAround 31 = .ok (.istore_n 3, 1) := by decide +kernel
theorem dX2_drawAround_32 : decode cX2_drawAround 32 = .ok (.iload_n 2, 1) := by decide +kernel
theorem dX2_drawAround_33 : decode cX2_drawAround 33 = .ok (.aload_n 0, 1) := by decide +kernel
theorem dX2_drawAround_34 : decode cX2_drawAround 34 = .ok (.aload_n 0, 1) := by decide +kernel
theorem dX2_drawAround_35 : decode cX2_drawAround 35 = .ok (.getfield 19, 3) := by decide +kernel
theorem dX2_drawAround_38 : decode cX2_drawAround 38 = .ok (.iload_n 3, 1) := by decide +kernel
theorem dX2_drawAround_39 : decode cX2_drawAround 39 = .ok (.aaload, 1) := by decide +kernel
theorem dX2_drawAround_40 : decode cX2_drawAround 40 = .ok (.aload_n 1, 1) := by decide +kernel
theorem dX2_drawAround_41 : decode cX2_drawAround 41 = .ok (.iload_n 2, 1) := by decide +kernel
theorem dX2_drawAround_42 : decode cX2_drawAround 42 = .ok (.invokevirtual 166, 3) := by decide +kernel
theorem dX2_drawAround_45 : decode cX2_drawAround 45 = .ok (.isub, 1) := by decide +kernel
theorem dX2_drawAround_46 : decode cX2_drawAround 46 = .ok (.istore_n 2, 1) := by decide +kernel
theorem dX2_drawAround_47 : decode cX2_drawAround 47 = .ok (.iinc 3 1, 3) := by decide +kernel
theorem dX2_drawAround_50 : decode cX2_drawAround 50 = .ok (.iinc 4 1, 3) := by decide +kernel
theorem dX2_drawAround_53 : decode cX2_drawAround 53 = .ok (.goto (-40), 3) := by decide +kernel
theorem dX2_drawAround_56 : decode cX2_drawAround 56 = .ok (.aload_n 1, 1) := by decide +kernel
theorem dX2_drawAround_57 : decode cX2_drawAround 57 = .ok (.dup, 1) := by decide +kernel
theorem dX2_drawAround_58 : decode cX2_drawAround 58 = .ok (.getfield 170, 3) := by decide +kernel
theorem dX2_drawAround_61 : decode cX2_drawAround 61 = .ok (.iload_n 2, 1) := by decide +kernel
theorem dX2_drawAround_62 : decode cX2_drawAround 62 = .ok (.iadd, 1) := by decide +kernel
theorem dX2_drawAround_63 : decode cX2_drawAround 63 = .ok (.putfield 170, 3) := by decide +kernel
theorem dX2_drawAround_66 : decode cX2_drawAround 66 = .ok (.return_, 1) := by decide +kernel
set_option maxRecDepth 20000 in
theorem ggX2_drawFrom_X1_breakHandle : GoodIn wsX2_drawFrom wsX1_breakHandle := goodIn_r _ [14, 15, 16, 17, 41, 42, 43, 44, 45, 46, 47, 48, 49, 50, 51, 52, 53, 54] (by decide +kernel) (by decide +kernel)
set_option maxRecDepth 20000 in
theorem gX2_drawFrom_X1_breakHandle : GoodIn wsX2_drawFrom (wsV RX2 185 RX1 yX1_breakHandle wsX1_breakHandle) := goodIn_app (goodIn_of _ (by decide +kernel)) ggX2_drawFrom_X1_breakHandle
set_option maxRecDepth 20000 in
theorem ggX2_drawFrom_X2_charge : GoodIn wsX2_drawFrom wsX2_charge := goodIn_r _ [22, 23, 24, 4, 5, 6, 7, 25, 26, 27, 28, 29, 30, 31, 32, 13, 33, 34, 35, 36, 37, 38, 39, 40, 55, 56, 57, 58, 59, 60, 61, 62, 63, 64, 65, 66, 67, 68, 69, 70, 71, 72, 41, 42, 43, 44, 45, 46, 47, 48, 49, 50, 51, 52, 53, 54] (by decide +kernel) (by decide +kernel)
set_option maxRecDepth 20000 in
theorem gX2_drawFrom_X2_charge : GoodIn wsX2_drawFrom (wsV RX2 150 RX2 yX2_charge wsX2_charge) := goodIn_app (goodIn_of _ (by decide +kernel)) ggX2_drawFrom_X2_charge
theorem dX2_drawFrom_0 : decode cX2_drawFrom 0 = .ok (.aload_n 1, 1) := by decide +kernel
theorem dX2_drawFrom_1 : decode cX2_drawFrom 1 = .ok (.getfield 104, 3) := by decide +kernel
theorem dX2_drawFrom_4 : decode cX2_drawFrom 4 = .ok (.ifCond .eq 10, 3) := by decide +kernel
theorem dX2_drawFrom_7 : decode cX2_drawFrom 7 = .ok (.aload_n 1, 1) := by decide +kernel
theorem dX2_drawFrom_8 : decode cX2_drawFrom 8 = .ok (.getfield 173, 3) := by decide +kernel
theorem dX2_drawFrom_11 : decode cX2_drawFrom 11 = .ok (.ifCond .eq 5, 3) := by decide +kernel
theorem dX2_drawFrom_14 : decode cX2_drawFrom 14 = .ok (.iconst 0, 1) := by decide +kernel
theorem dX2_drawFrom_15 : decode cX2_drawFrom 15 = .ok (.ireturn, 1) := by decide +kernel
theorem dX2_drawFrom_16 : decode cX2_drawFrom 16 = .ok (.iload_n 3, 1) := by decide +kernel
theorem dX2_drawFrom_17 : decode cX2_drawFrom 17 = .ok (.aload_n 1, 1) := by decide +kernel
theorem dX2_drawFrom_18 : decode cX2_drawFrom 18 = .ok (.getfield 176, 3) := by decide +kernel
theorem dX2_drawFrom_21 : decode cX2_drawFrom 21 = .ok (.invokestatic 53, 3) := by decide +kernel
theorem dX2_drawFrom_24 : decode cX2_drawFrom 24 = .ok (.istore 4, 2) := by decide +kernel
theorem dX2_drawFrom_26 : decode cX2_drawFrom 26 = .ok (.aload_n 1, 1) := by decide +kernel
theorem dX2_drawFrom_27 : decode cX2_drawFrom 27 = .ok (.dup, 1) := by decide +kernel
theorem dX2_drawFrom_28 : decode cX2_drawFrom 28 = .ok (.getfield 176, 3) := by decide +kernel
theorem dX2_drawFrom_31 : decode cX2_drawFrom 31 = .ok (.iload 4, 2) := by decide +kernel
theorem dX2_drawFrom_33 : decode cX2_drawFrom 33 = .ok (.isub, 1) := by decide +kernel
theorem dX2_drawFrom_34 : decode cX2_drawFrom 34 = .ok (.putfield 176, 3) := by decide +kernel
theorem dX2_drawFrom_37 : decode cX2_drawFrom 37 = .ok (.aload_n 1, 1) := by decide +kernel
theorem dX2_drawFrom_38 : decode cX2_drawFrom 38 = .ok (.dup, 1) := by decide +kernel
theorem dX2_drawFrom_39 : decode cX2_drawFrom 39 = .ok (.getfield 179, 3) := by decide +kernel
theorem dX2_drawFrom_42 : decode cX2_drawFrom 42 = .ok (.iload 4, 2) := by decide +kernel
theorem dX2_drawFrom_44 : decode cX2_drawFrom 44 = .ok (.iadd, 1) := by decide +kernel
theorem dX2_drawFrom_45 : decode cX2_drawFrom 45 = .ok (.putfield 179, 3) := by decide +kernel
theorem dX2_drawFrom_48 : decode cX2_drawFrom 48 = .ok (.aload_n 1, 1) := by decide +kernel
theorem dX2_drawFrom_49 : decode cX2_drawFrom 49 = .ok (.dup, 1) := by decide +kernel
theorem dX2_drawFrom_50 : decode cX2_drawFrom 50 = .ok (.getfield 182, 3) := by decide +kernel
theorem dX2_drawFrom_53 : decode cX2_drawFrom 53 = .ok (.iload 4, 2) := by decide +kernel
theorem dX2_drawFrom_55 : decode cX2_drawFrom 55 = .ok (.iadd, 1) := by decide +kernel
theorem dX2_drawFrom_56 : decode cX2_drawFrom 56 = .ok (.putfield 182, 3) := by decide +kernel
theorem dX2_drawFrom_59 : decode cX2_drawFrom 59 = .ok (.aload_n 1, 1) := by decide +kernel
theorem dX2_drawFrom_60 : decode cX2_drawFrom 60 = .ok (.getfield 182, 3) := by decide +kernel
theorem dX2_drawFrom_63 : decode cX2_drawFrom 63 = .ok (.bipush 100, 2) := by decide +kernel
theorem dX2_drawFrom_65 : decode cX2_drawFrom 65 = .ok (.if_icmp .lt 14, 3) := by decide +kernel
theorem dX2_drawFrom_68 : decode cX2_drawFrom 68 = .ok (.aload_n 1, 1) := by decide +kernel
theorem dX2_drawFrom_69 : decode cX2_drawFrom 69 = .ok (.invokevirtual 185, 3) := by decide +kernel
theorem dX2_drawFrom_72 : decode cX2_drawFrom 72 = .ok (.aload_n 0, 1) := by decide +kernel
theorem dX2_drawFrom_73 : decode cX2_drawFrom 73 = .ok (.aload_n 2, 1) := by decide +kernel
theorem dX2_drawFrom_74 : decode cX2_drawFrom 74 = .ok (.iconst 5, 1) := by decide +kernel
theorem dX2_drawFrom_75 : decode cX2_drawFrom 75 = .ok (.invokevirtual 150, 3) := by decide +kernel
theorem dX2_drawFrom_78 : decode cX2_drawFrom 78 = .ok (.pop, 1) := by decide +kernel
theorem dX2_drawFrom_79 : decode cX2_drawFrom 79 = .ok (.iload 4, 2) := by decide +kernel
theorem dX2_drawFrom_81 : decode cX2_drawFrom 81 = .ok (.ireturn, 1) := by decide +kernel
set_option maxRecDepth 20000 in
theorem ggX2_mendHandles_X2_workOnHandle : GoodIn wsX2_mendHandles wsX2_workOnHandle := goodIn_r _ [9, 10, 11, 12, 13, 14, 15, 16, 17, 18, 19, 26, 27, 28, 29, 30, 31, 32, 33, 34, 35, 36, 37, 38, 39, 20, 21, 22, 23, 24, 25] (by decide +kernel) (by decide +kernel)
set_option maxRecDepth 20000 in
theorem gX2_mendHandles_X2_workOnHandle : GoodIn wsX2_mendHandles (wsV RX2 188 RX2 yX2_workOnHandle wsX2_workOnHandle) := goodIn_app (goodIn_of _ (by decide +kernel)) ggX2_mendHandles_X2_workOnHandle
theorem dX2_mendHandles_0 : decode cX2_mendHandles 0 = .ok (.iconst 0, 1) := by decide +kernel
theorem dX2_mendHandles_1 : decode cX2_mendHandles 1 = .ok (.istore_n 1, 1) := by decide +kernel
theorem dX2_mendHandles_2 : decode cX2_mendHandles 2 = .ok (.iload_n 1, 1) := by decide +kernel
theorem dX2_mendHandles_3 : decode cX2_mendHandles 3 = .ok (.aload_n 0, 1) := by decide +kernel
theorem dX2_mendHandles_4 : decode cX2_mendHandles 4 = .ok (.getfield 31, 3) := by decide +kernel
theorem dX2_mendHandles_7 : decode cX2_mendHandles 7 = .ok (.if_icmp .ge 43, 3) := by decide +kernel
theorem dX2_mendHandles_10 : decode cX2_mendHandles 10 = .ok (.aload_n 0, 1) := by decide +kernel
theorem dX2_mendHandles_11 : decode cX2_mendHandles 11 = .ok (.getfield 19, 3) := by decide +kernel
theorem dX2_mendHandles_14 : decode cX2_mendHandles 14 = .ok (.iload_n 1, 1) := by decide +kernel
theorem dX2_mendHandles_15 : decode cX2_mendHandles 15 = .ok (.aaload, 1) := by decide +kernel
theorem dX2_mendHandles_16 : decode cX2_mendHandles 16 = .ok (.getfield 173, 3) := by decide +kernel
theorem dX2_mendHandles_19 : decode cX2_mendHandles 19 = .ok (.ifCond .eq 25, 3) := by decide +kernel
theorem dX2_mendHandles_22 : decode cX2_mendHandles 22 = .ok (.aload_n 0, 1) := by decide +kernel
theorem dX2_mendHandles_23 : decode cX2_mendHandles 23 = .ok (.getfield 19, 3) := by decide +kernel
theorem dX2_mendHandles_26 : decode cX2_mendHandles 26 = .ok (.iload_n 1, 1) := by decide +kernel
theorem dX2_mendHandles_27 : decode cX2_mendHandles 27 = .ok (.aaload, 1) := by decide +kernel
theorem dX2_mendHandles_28 : decode cX2_mendHandles 28 = .ok (.getfield 108, 3) := by decide +kernel
theorem dX2_mendHandles_31 : decode cX2_mendHandles 31 = .ok (.ifCond .ne 13, 3) := by decide +kernel
theorem dX2_mendHandles_34 : decode cX2_mendHandles 34 = .ok (.aload_n 0, 1) := by decide +kernel
theorem dX2_mendHandles_35 : decode cX2_mendHandles 35 = .ok (.aload_n 0, 1) := by decide +kernel
theorem dX2_mendHandles_36 : decode cX2_mendHandles 36 = .ok (.getfield 19, 3) := by decide +kernel
theorem dX2_mendHandles_39 : decode cX2_mendHandles 39 = .ok (.iload_n 1, 1) := by decide +kernel
theorem dX2_mendHandles_40 : decode cX2_mendHandles 40 = .ok (.aaload, 1) := by decide +kernel
theorem dX2_mendHandles_41 : decode cX2_mendHandles 41 = .ok (.invokevirtual 188, 3) := by decide +kernel
theorem dX2_mendHandles_44 : decode cX2_mendHandles 44 = .ok (.iinc 1 1, 3) := by decide +kernel
theorem dX2_mendHandles_47 : decode cX2_mendHandles 47 = .ok (.goto (-45), 3) := by decide +kernel
theorem dX2_mendHandles_50 : decode cX2_mendHandles 50 = .ok (.return_, 1) := by decide +kernel
set_option maxRecDepth 20000 in
theorem ggX2_workOnHandle_X1_mendHandle : GoodIn wsX2_workOnHandle wsX1_mendHandle := goodIn_r _ [7, 8, 9, 10, 11, 12, 13, 14, 15, 16, 17, 18, 19, 20, 21, 22, 23, 24] (by decide +kernel) (by decide +kernel)
set_option maxRecDepth 20000 in
theorem gX2_workOnHandle_X1_mendHandle : GoodIn wsX2_workOnHandle (wsV RX2 194 RX1 yX1_mendHandle wsX1_mendHandle) := goodIn_app (goodIn_of _ (by decide +kernel)) ggX2_workOnHandle_X1_mendHandle
theorem dX2_workOnHandle_0 : decode cX2_workOnHandle 0 = .ok (.aload_n 1, 1) := by decide +kernel
theorem dX2_workOnHandle_1 : decode cX2_workOnHandle 1 = .ok (.getfield 191, 3) := by decide +kernel
theorem dX2_workOnHandle_4 : decode cX2_workOnHandle 4 = .ok (.ifCond .le 13, 3) := by decide +kernel
theorem dX2_workOnHandle_7 : decode cX2_workOnHandle 7 = .ok (.aload_n 1, 1) := by decide +kernel
theorem dX2_workOnHandle_8 : decode cX2_workOnHandle 8 = .ok (.dup, 1) := by decide +kernel
theorem dX2_workOnHandle_9 : decode cX2_workOnHandle 9 = .ok (.getfield 191, 3) := by decide +kernel
theorem dX2_workOnHandle_12 : decode cX2_workOnHandle 12 = .ok (.iconst 1, 1) := by decide +kernel
theorem dX2_workOnHandle_13 : decode cX2_workOnHandle 13 = .ok (.isub, 1) := by decide +kernel
theorem dX2_workOnHandle_14 : decode cX2_workOnHandle 14 = .ok (.putfield 191, 3) := by decide +kernel
theorem dX2_workOnHandle_17 : decode cX2_workOnHandle 17 = .ok (.aload_n 1, 1) := by decide +kernel
theorem dX2_workOnHandle_18 : decode cX2_workOnHandle 18 = .ok (.getfield 191, 3) := by decide +kernel
theorem dX2_workOnHandle_21 : decode cX2_workOnHandle 21 = .ok (.ifCond .ne 27, 3) := by decide +kernel
theorem dX2_workOnHandle_24 : decode cX2_workOnHandle 24 = .ok (.aload_n 0, 1) := by decide +kernel
theorem dX2_workOnHandle_25 : decode cX2_workOnHandle 25 = .ok (.getfield 34, 3) := by decide +kernel
theorem dX2_workOnHandle_28 : decode cX2_workOnHandle 28 = .ok (.bipush 10, 2) := by decide +kernel
theorem dX2_workOnHandle_30 : decode cX2_workOnHandle 30 = .ok (.if_icmp .lt 18, 3) := by decide +kernel
theorem dX2_workOnHandle_33 : decode cX2_workOnHandle 33 = .ok (.aload_n 0, 1) := by decide +kernel
theorem dX2_workOnHandle_34 : decode cX2_workOnHandle 34 = .ok (.dup, 1) := by decide +kernel
theorem dX2_workOnHandle_35 : decode cX2_workOnHandle 35 = .ok (.getfield 34, 3) := by decide +kernel
theorem dX2_workOnHandle_38 : decode cX2_workOnHandle 38 = .ok (.bipush 10, 2) := by decide +kernel
theorem dX2_workOnHandle_40 : decode cX2_workOnHandle 40 = .ok (.isub, 1) := by decide +kernel
theorem dX2_workOnHandle_41 : decode cX2_workOnHandle 41 = .ok (.putfield 34, 3) := by decide +kernel
theorem dX2_workOnHandle_44 : decode cX2_workOnHandle 44 = .ok (.aload_n 1, 1) := by decide +kernel
theorem dX2_workOnHandle_45 : decode cX2_workOnHandle 45 = .ok (.invokevirtual 194, 3) := by decide +kernel
theorem dX2_workOnHandle_48 : decode cX2_workOnHandle 48 = .ok (.return_, 1) := by decide +kernel
theorem dX2_fillWells_0 : decode cX2_fillWells 0 = .ok (.iconst 0, 1) := by decide +kernel
theorem dX2_fillWells_1 : decode cX2_fillWells 1 = .ok (.istore_n 1, 1) := by decide +kernel
theorem dX2_fillWells_2 : decode cX2_fillWells 2 = .ok (.iload_n 1, 1) := by decide +kernel
theorem dX2_fillWells_3 : decode cX2_fillWells 3 = .ok (.aload_n 0, 1) := by decide +kernel
theorem dX2_fillWells_4 : decode cX2_fillWells 4 = .ok (.getfield 31, 3) := by decide +kernel
theorem dX2_fillWells_7 : decode cX2_fillWells 7 = .ok (.if_icmp .ge 43, 3) := by decide +kernel
theorem dX2_fillWells_10 : decode cX2_fillWells 10 = .ok (.aload_n 0, 1) := by decide +kernel
theorem dX2_fillWells_11 : decode cX2_fillWells 11 = .ok (.getfield 19, 3) := by decide +kernel
theorem dX2_fillWells_14 : decode cX2_fillWells 14 = .ok (.iload_n 1, 1) := by decide +kernel
theorem dX2_fillWells_15 : decode cX2_fillWells 15 = .ok (.aaload, 1) := by decide +kernel
theorem dX2_fillWells_16 : decode cX2_fillWells 16 = .ok (.sipush 200, 3) := by decide +kernel
theorem dX2_fillWells_19 : decode cX2_fillWells 19 = .ok (.aload_n 0, 1) := by decide +kernel
theorem dX2_fillWells_20 : decode cX2_fillWells 20 = .ok (.getfield 19, 3) := by decide +kernel
theorem dX2_fillWells_23 : decode cX2_fillWells 23 = .ok (.iload_n 1, 1) := by decide +kernel
theorem dX2_fillWells_24 : decode cX2_fillWells 24 = .ok (.aaload, 1) := by decide +kernel
theorem dX2_fillWells_25 : decode cX2_fillWells 25 = .ok (.getfield 176, 3) := by decide +kernel
theorem dX2_fillWells_28 : decode cX2_fillWells 28 = .ok (.aload_n 0, 1) := by decide +kernel
theorem dX2_fillWells_29 : decode cX2_fillWells 29 = .ok (.getfield 19, 3) := by decide +kernel
theorem dX2_fillWells_32 : decode cX2_fillWells 32 = .ok (.iload_n 1, 1) := by decide +kernel
theorem dX2_fillWells_33 : decode cX2_fillWells 33 = .ok (.aaload, 1) := by decide +kernel
theorem dX2_fillWells_34 : decode cX2_fillWells 34 = .ok (.getfield 197, 3) := by decide +kernel
theorem dX2_fillWells_37 : decode cX2_fillWells 37 = .ok (.iadd, 1) := by decide +kernel
theorem dX2_fillWells_38 : decode cX2_fillWells 38 = .ok (.invokestatic 53, 3) := by decide +kernel
theorem dX2_fillWells_41 : decode cX2_fillWells 41 = .ok (.putfield 176, 3) := by decide +kernel
theorem dX2_fillWells_44 : decode cX2_fillWells 44 = .ok (.iinc 1 1, 3) := by decide +kernel
theorem dX2_fillWells_47 : decode cX2_fillWells 47 = .ok (.goto (-45), 3) := by decide +kernel
theorem dX2_fillWells_50 : decode cX2_fillWells 50 = .ok (.return_, 1) := by decide +kernel
set_option maxRecDepth 20000 in
theorem ggX2_shareChest_X2_unmarkedHouses : GoodIn wsX2_shareChest wsX2_unmarkedHouses := goodIn_r _ [11, 3, 4, 5, 12, 13, 14, 15, 16, 17, 18, 19, 20, 21, 22, 23, 24, 25, 26, 27, 28, 29] (by decide +kernel) (by decide +kernel)
set_option maxRecDepth 20000 in
theorem gX2_shareChest_X2_unmarkedHouses : GoodIn wsX2_shareChest (wsV RX2 200 RX2 yX2_unmarkedHouses wsX2_unmarkedHouses) := goodIn_app (goodIn_of _ (by decide +kernel)) ggX2_shareChest_X2_unmarkedHouses
theorem dX2_shareChest_0 : decode cX2_shareChest 0 = .ok (.aload_n 0, 1) := by decide +kernel
theorem dX2_shareChest_1 : decode cX2_shareChest 1 = .ok (.getfield 37, 3) := by decide +kernel
theorem dX2_shareChest_4 : decode cX2_shareChest 4 = .ok (.bipush 7, 2) := by decide +kernel
theorem dX2_shareChest_6 : decode cX2_shareChest 6 = .ok (.irem, 1) := by decide +kernel
theorem dX2_shareChest_7 : decode cX2_shareChest 7 = .ok (.bipush 6, 2) := by decide +kernel
theorem dX2_shareChest_9 : decode cX2_shareChest 9 = .ok (.if_icmp .ne 12, 3) := by decide +kernel
theorem dX2_shareChest_12 : decode cX2_shareChest 12 = .ok (.aload_n 0, 1) := by decide +kernel
theorem dX2_shareChest_13 : decode cX2_shareChest 13 = .ok (.getfield 34, 3) := by decide +kernel
theorem dX2_shareChest_16 : decode cX2_shareChest 16 = .ok (.bipush 20, 2) := by decide +kernel
theorem dX2_shareChest_18 : decode cX2_shareChest 18 = .ok (.if_icmp .gt 4, 3) := by decide +kernel
theorem dX2_shareChest_21 : decode cX2_shareChest 21 = .ok (.return_, 1) := by decide +kernel
theorem dX2_shareChest_22 : decode cX2_shareChest 22 = .ok (.aload_n 0, 1) := by decide +kernel
theorem dX2_shareChest_23 : decode cX2_shareChest 23 = .ok (.invokevirtual 200, 3) := by decide +kernel
theorem dX2_shareChest_26 : decode cX2_shareChest 26 = .ok (.istore_n 1, 1) := by decide +kernel
theorem dX2_shareChest_27 : decode cX2_shareChest 27 = .ok (.iload_n 1, 1) := by decide +kernel
theorem dX2_shareChest_28 : decode cX2_shareChest 28 = .ok (.ifCond .ne 4, 3) := by decide +kernel
theorem dX2_shareChest_31 : decode cX2_shareChest 31 = .ok (.return_, 1) := by decide +kernel
theorem dX2_shareChest_32 : decode cX2_shareChest 32 = .ok (.aload_n 0, 1) := by decide +kernel
theorem dX2_shareChest_33 : decode cX2_shareChest 33 = .ok (.getfield 34, 3) := by decide +kernel
theorem dX2_shareChest_36 : decode cX2_shareChest 36 = .ok (.bipush 20, 2) := by decide +kernel
theorem dX2_shareChest_38 : decode cX2_shareChest 38 = .ok (.isub, 1) := by decide +kernel
theorem dX2_shareChest_39 : decode cX2_shareChest 39 = .ok (.iload_n 1, 1) := by decide +kernel
theorem dX2_shareChest_40 : decode cX2_shareChest 40 = .ok (.idiv, 1) := by decide +kernel
theorem dX2_shareChest_41 : decode cX2_shareChest 41 = .ok (.istore_n 2, 1) := by decide +kernel
theorem dX2_shareChest_42 : decode cX2_shareChest 42 = .ok (.iconst 0, 1) := by decide +kernel
theorem dX2_shareChest_43 : decode cX2_shareChest 43 = .ok (.istore_n 3, 1) := by decide +kernel
theorem dX2_shareChest_44 : decode cX2_shareChest 44 = .ok (.iload_n 3, 1) := by decide +kernel
theorem dX2_shareChest_45 : decode cX2_shareChest 45 = .ok (.aload_n 0, 1) := by decide +kernel
theorem dX2_shareChest_46 : decode cX2_shareChest 46 = .ok (.getfield 27, 3) := by decide +kernel
theorem dX2_shareChest_49 : decode cX2_shareChest 49 = .ok (.if_icmp .ge 46, 3) := by decide +kernel
theorem dX2_shareChest_52 : decode cX2_shareChest 52 = .ok (.aload_n 0, 1) := by decide +kernel
theorem dX2_shareChest_53 : decode cX2_shareChest 53 = .ok (.getfield 11, 3) := by decide +kernel
theorem dX2_shareChest_56 : decode cX2_shareChest 56 = .ok (.iload_n 3, 1) := by decide +kernel
theorem dX2_shareChest_57 : decode cX2_shareChest 57 = .ok (.aaload, 1) := by decide +kernel
theorem dX2_shareChest_58 : decode cX2_shareChest 58 = .ok (.getfield 59, 3) := by decide +kernel
theorem dX2_shareChest_61 : decode cX2_shareChest 61 = .ok (.ifCond .ne 28, 3) := by decide +kernel
theorem dX2_shareChest_64 : decode cX2_shareChest 64 = .ok (.aload_n 0, 1) := by decide +kernel
theorem dX2_shareChest_65 : decode cX2_shareChest 65 = .ok (.getfield 11, 3) := by decide +kernel
theorem dX2_shareChest_68 : decode cX2_shareChest 68 = .ok (.iload_n 3, 1) := by decide +kernel
theorem dX2_shareChest_69 : decode cX2_shareChest 69 = .ok (.aaload, 1) := by decide +kernel
theorem dX2_shareChest_70 : decode cX2_shareChest 70 = .ok (.dup, 1) := by decide +kernel
theorem dX2_shareChest_71 : decode cX2_shareChest 71 = .ok (.getfield 50, 3) := by decide +kernel
theorem dX2_shareChest_74 : decode cX2_shareChest 74 = .ok (.iload_n 2, 1) := by decide +kernel
theorem dX2_shareChest_75 : decode cX2_shareChest 75 = .ok (.iadd, 1) := by decide +kernel
theorem dX2_shareChest_76 : decode cX2_shareChest 76 = .ok (.putfield 50, 3) := by decide +kernel
theorem dX2_shareChest_79 : decode cX2_shareChest 79 = .ok (.aload_n 0, 1) := by decide +kernel
theorem dX2_shareChest_80 : decode cX2_shareChest 80 = .ok (.dup, 1) := by decide +kernel
theorem dX2_shareChest_81 : decode cX2_shareChest 81 = .ok (.getfield 34, 3) := by decide +kernel
theorem dX2_shareChest_84 : decode cX2_shareChest 84 = .ok (.iload_n 2, 1) := by decide +kernel
theorem dX2_shareChest_85 : decode cX2_shareChest 85 = .ok (.isub, 1) := by decide +kernel
theorem dX2_shareChest_86 : decode cX2_shareChest 86 = .ok (.putfield 34, 3) := by decide +kernel
theorem dX2_shareChest_89 : decode cX2_shareChest 89 = .ok (.iinc 3 1, 3) := by decide +kernel
theorem dX2_shareChest_92 : decode cX2_shareChest 92 = .ok (.goto (-48), 3) := by decide +kernel
theorem dX2_shareChest_95 : decode cX2_shareChest 95 = .ok (.return_, 1) := by decide +kernel
set_option maxRecDepth 20000 in
theorem ggX2_endDay_X0_isThere : GoodIn wsX2_endDay wsX0_isThere := goodIn_r _ [9, 10, 17, 18, 19, 20, 21, 22, 23, 24, 25, 26, 27, 28] (by decide +kernel) (by decide +kernel)
set_option maxRecDepth 20000 in
theorem gX2_endDay_X0_isThere : GoodIn wsX2_endDay (wsV RX2 97 RX0 yX0_isThere wsX0_isThere) := goodIn_app (goodIn_of _ (by decide +kernel)) ggX2_endDay_X0_isThere
theorem dX2_endDay_0 : decode cX2_endDay 0 = .ok (.iconst 0, 1) := by decide +kernel
theorem dX2_endDay_1 : decode cX2_endDay 1 = .ok (.istore_n 1, 1) := by decide +kernel
theorem dX2_endDay_2 : decode cX2_endDay 2 = .ok (.iload_n 1, 1) := by decide +kernel
theorem dX2_endDay_3 : decode cX2_endDay 3 = .ok (.aload_n 0, 1) := by decide +kernel
theorem dX2_endDay_4 : decode cX2_endDay 4 = .ok (.getfield 27, 3) := by decide +kernel
theorem dX2_endDay_7 : decode cX2_endDay 7 = .ok (.if_icmp .ge 36, 3) := by decide +kernel
theorem dX2_endDay_10 : decode cX2_endDay 10 = .ok (.aload_n 0, 1) := by decide +kernel
theorem dX2_endDay_11 : decode cX2_endDay 11 = .ok (.getfield 11, 3) := by decide +kernel
theorem dX2_endDay_14 : decode cX2_endDay 14 = .ok (.iload_n 1, 1) := by decide +kernel
theorem dX2_endDay_15 : decode cX2_endDay 15 = .ok (.aaload, 1) := by decide +kernel
theorem dX2_endDay_16 : decode cX2_endDay 16 = .ok (.invokevirtual 97, 3) := by decide +kernel
theorem dX2_endDay_19 : decode cX2_endDay 19 = .ok (.ifCond .ne 18, 3) := by decide +kernel
theorem dX2_endDay_22 : decode cX2_endDay 22 = .ok (.aload_n 0, 1) := by decide +kernel
theorem dX2_endDay_23 : decode cX2_endDay 23 = .ok (.getfield 11, 3) := by decide +kernel
theorem dX2_endDay_26 : decode cX2_endDay 26 = .ok (.iload_n 1, 1) := by decide +kernel
theorem dX2_endDay_27 : decode cX2_endDay 27 = .ok (.aaload, 1) := by decide +kernel
theorem dX2_endDay_28 : decode cX2_endDay 28 = .ok (.dup, 1) := by decide +kernel
theorem dX2_endDay_29 : decode cX2_endDay 29 = .ok (.getfield 203, 3) := by decide +kernel
theorem dX2_endDay_32 : decode cX2_endDay 32 = .ok (.iconst 1, 1) := by decide +kernel
theorem dX2_endDay_33 : decode cX2_endDay 33 = .ok (.isub, 1) := by decide +kernel
theorem dX2_endDay_34 : decode cX2_endDay 34 = .ok (.putfield 203, 3) := by decide +kernel
theorem dX2_endDay_37 : decode cX2_endDay 37 = .ok (.iinc 1 1, 3) := by decide +kernel
theorem dX2_endDay_40 : decode cX2_endDay 40 = .ok (.goto (-38), 3) := by decide +kernel
theorem dX2_endDay_43 : decode cX2_endDay 43 = .ok (.aload_n 0, 1) := by decide +kernel
theorem dX2_endDay_44 : decode cX2_endDay 44 = .ok (.dup, 1) := by decide +kernel
theorem dX2_endDay_45 : decode cX2_endDay 45 = .ok (.getfield 37, 3) := by decide +kernel
theorem dX2_endDay_48 : decode cX2_endDay 48 = .ok (.iconst 1, 1) := by decide +kernel
theorem dX2_endDay_49 : decode cX2_endDay 49 = .ok (.iadd, 1) := by decide +kernel
theorem dX2_endDay_50 : decode cX2_endDay 50 = .ok (.putfield 37, 3) := by decide +kernel
theorem dX2_endDay_53 : decode cX2_endDay 53 = .ok (.return_, 1) := by decide +kernel
set_option maxRecDepth 20000 in
theorem ggX2_houseFact_X2_keysHeldBy : GoodIn wsX2_houseFact wsX2_keysHeldBy := goodIn_r _ [16, 17, 18, 19, 32, 33, 34, 35, 36, 37, 38, 39, 40, 41, 42, 43, 44, 45, 46, 47, 48, 49, 50, 51] (by decide +kernel) (by decide +kernel)
set_option maxRecDepth 20000 in
theorem gX2_houseFact_X2_keysHeldBy : GoodIn wsX2_houseFact (wsV RX2 209 RX2 yX2_keysHeldBy wsX2_keysHeldBy) := goodIn_app (goodIn_of _ (by decide +kernel)) ggX2_houseFact_X2_keysHeldBy
theorem dX2_houseFact_0 : decode cX2_houseFact 0 = .ok (.iload_n 2, 1) := by decide +kernel
theorem dX2_houseFact_1 : decode cX2_houseFact 1 = .ok (.tableswitch 105 0 9 #[55, 60, 65, 70, 75, 80, 85, 90, 95, 100], 55) := by decide +kernel
theorem dX2_houseFact_56 : decode cX2_houseFact 56 = .ok (.aload_n 1, 1) := by decide +kernel
theorem dX2_houseFact_57 : decode cX2_houseFact 57 = .ok (.getfield 206, 3) := by decide +kernel
theorem dX2_houseFact_60 : decode cX2_houseFact 60 = .ok (.ireturn, 1) := by decide +kernel
theorem dX2_houseFact_61 : decode cX2_houseFact 61 = .ok (.aload_n 1, 1) := by decide +kernel
theorem dX2_houseFact_62 : decode cX2_houseFact 62 = .ok (.getfield 101, 3) := by decide +kernel
theorem dX2_houseFact_65 : decode cX2_houseFact 65 = .ok (.ireturn, 1) := by decide +kernel
theorem dX2_houseFact_66 : decode cX2_houseFact 66 = .ok (.aload_n 1, 1) := by decide +kernel
theorem dX2_houseFact_67 : decode cX2_houseFact 67 = .ok (.getfield 50, 3) := by decide +kernel
theorem dX2_houseFact_70 : decode cX2_houseFact 70 = .ok (.ireturn, 1) := by decide +kernel
theorem dX2_houseFact_71 : decode cX2_houseFact 71 = .ok (.aload_n 1, 1) := by decide +kernel
theorem dX2_houseFact_72 : decode cX2_houseFact 72 = .ok (.getfield 59, 3) := by decide +kernel
theorem dX2_houseFact_75 : decode cX2_houseFact 75 = .ok (.ireturn, 1) := by decide +kernel
theorem dX2_houseFact_76 : decode cX2_houseFact 76 = .ok (.aload_n 1, 1) := by decide +kernel
theorem dX2_houseFact_77 : decode cX2_houseFact 77 = .ok (.getfield 203, 3) := by decide +kernel
theorem dX2_houseFact_80 : decode cX2_houseFact 80 = .ok (.ireturn, 1) := by decide +kernel
theorem dX2_houseFact_81 : decode cX2_houseFact 81 = .ok (.aload_n 1, 1) := by decide +kernel
theorem dX2_houseFact_82 : decode cX2_houseFact 82 = .ok (.getfield 160, 3) := by decide +kernel
theorem dX2_houseFact_85 : decode cX2_houseFact 85 = .ok (.ireturn, 1) := by decide +kernel
theorem dX2_houseFact_86 : decode cX2_houseFact 86 = .ok (.aload_n 1, 1) := by decide +kernel
theorem dX2_houseFact_87 : decode cX2_houseFact 87 = .ok (.getfield 129, 3) := by decide +kernel
theorem dX2_houseFact_90 : decode cX2_houseFact 90 = .ok (.ireturn, 1) := by decide +kernel
theorem dX2_houseFact_91 : decode cX2_houseFact 91 = .ok (.aload_n 1, 1) := by decide +kernel
theorem dX2_houseFact_92 : decode cX2_houseFact 92 = .ok (.getfield 170, 3) := by decide +kernel
theorem dX2_houseFact_95 : decode cX2_houseFact 95 = .ok (.ireturn, 1) := by decide +kernel
theorem dX2_houseFact_96 : decode cX2_houseFact 96 = .ok (.aload_n 1, 1) := by decide +kernel
theorem dX2_houseFact_97 : decode cX2_houseFact 97 = .ok (.getfield 144, 3) := by decide +kernel
theorem dX2_houseFact_100 : decode cX2_houseFact 100 = .ok (.ireturn, 1) := by decide +kernel
theorem dX2_houseFact_101 : decode cX2_houseFact 101 = .ok (.aload_n 1, 1) := by decide +kernel
theorem dX2_houseFact_102 : decode cX2_houseFact 102 = .ok (.getfield 47, 3) := by decide +kernel
theorem dX2_houseFact_105 : decode cX2_houseFact 105 = .ok (.ireturn, 1) := by decide +kernel
theorem dX2_houseFact_106 : decode cX2_houseFact 106 = .ok (.aload_n 0, 1) := by decide +kernel
theorem dX2_houseFact_107 : decode cX2_houseFact 107 = .ok (.aload_n 1, 1) := by decide +kernel
theorem dX2_houseFact_108 : decode cX2_houseFact 108 = .ok (.getfield 62, 3) := by decide +kernel
theorem dX2_houseFact_111 : decode cX2_houseFact 111 = .ok (.invokevirtual 209, 3) := by decide +kernel
theorem dX2_houseFact_114 : decode cX2_houseFact 114 = .ok (.ireturn, 1) := by decide +kernel
set_option maxRecDepth 20000 in
theorem ggX2_total_X2_allEggs : GoodIn wsX2_total wsX2_allEggs := goodIn_r _ [9, 2, 10, 11, 47, 48, 49, 50, 51, 52, 53, 54, 55, 56, 57, 58, 59, 60, 61, 62, 63, 64] (by decide +kernel) (by decide +kernel)
set_option maxRecDepth 20000 in
theorem gX2_total_X2_allEggs : GoodIn wsX2_total (wsV RX2 212 RX2 yX2_allEggs wsX2_allEggs) := goodIn_app (goodIn_of _ (by decide +kernel)) ggX2_total_X2_allEggs
set_option maxRecDepth 20000 in
theorem ggX2_total_X2_housesAway : GoodIn wsX2_total wsX2_housesAway := goodIn_r _ [15, 2, 10, 16, 17, 18, 19, 20, 21, 47, 48, 49, 50, 51, 52, 53, 54, 55, 56, 57, 58, 59, 60, 61, 62, 63, 64] (by decide +kernel) (by decide +kernel)
set_option maxRecDepth 20000 in
theorem gX2_total_X2_housesAway : GoodIn wsX2_total (wsV RX2 215 RX2 yX2_housesAway wsX2_housesAway) := goodIn_app (goodIn_of _ (by decide +kernel)) ggX2_total_X2_housesAway
set_option maxRecDepth 20000 in
theorem ggX2_total_X2_allMarks : GoodIn wsX2_total wsX2_allMarks := goodIn_r _ [25, 2, 10, 26, 47, 48, 49, 50, 51, 52, 53, 54, 55, 56, 57, 58, 59, 60, 61, 62, 63, 64] (by decide +kernel) (by decide +kernel)
set_option maxRecDepth 20000 in
theorem gX2_total_X2_allMarks : GoodIn wsX2_total (wsV RX2 218 RX2 yX2_allMarks wsX2_allMarks) := goodIn_app (goodIn_of _ (by decide +kernel)) ggX2_total_X2_allMarks
set_option maxRecDepth 20000 in
theorem ggX2_total_X2_allThirst : GoodIn wsX2_total wsX2_allThirst := goodIn_r _ [30, 2, 10, 31, 47, 48, 49, 50, 51, 52, 53, 54, 55, 56, 57, 58, 59, 60, 61, 62, 63, 64] (by decide +kernel) (by decide +kernel)
set_option maxRecDepth 20000 in
theorem gX2_total_X2_allThirst : GoodIn wsX2_total (wsV RX2 221 RX2 yX2_allThirst wsX2_allThirst) := goodIn_app (goodIn_of _ (by decide +kernel)) ggX2_total_X2_allThirst
set_option maxRecDepth 20000 in
theorem ggX2_total_X2_allDailyNeed : GoodIn wsX2_total wsX2_allDailyNeed := goodIn_r _ [35, 2, 10, 16, 17, 18, 19, 20, 21, 36, 37, 38, 39, 40, 47, 48, 49, 50, 51, 52, 53, 54, 55, 56, 57, 58, 59, 60, 61, 62, 63, 64] (by decide +kernel) (by decide +kernel)
set_option maxRecDepth 20000 in
theorem gX2_total_X2_allDailyNeed : GoodIn wsX2_total (wsV RX2 224 RX2 yX2_allDailyNeed wsX2_allDailyNeed) := goodIn_app (goodIn_of _ (by decide +kernel)) ggX2_total_X2_allDailyNeed
set_option maxRecDepth 20000 in
theorem ggX2_total_X2_brokenHandles : GoodIn wsX2_total wsX2_brokenHandles := goodIn_r _ [44, 3, 45, 46, 47, 48, 49, 50, 51, 52, 65, 66, 67, 68, 69, 70, 71, 72, 73, 74, 75, 76, 77, 78] (by decide +kernel) (by decide +kernel)
set_option maxRecDepth 20000 in
theorem gX2_total_X2_brokenHandles : GoodIn wsX2_total (wsV RX2 227 RX2 yX2_brokenHandles wsX2_brokenHandles) := goodIn_app (goodIn_of _ (by decide +kernel)) ggX2_total_X2_brokenHandles
theorem dX2_total_0 : decode cX2_total 0 = .ok (.iload_n 1, 1) := by decide +kernel
theorem dX2_total_1 : decode cX2_total 1 = .ok (.tableswitch 96 0 8 #[51, 56, 61, 66, 71, 76, 81, 86, 91], 51) := by decide +kernel
theorem dX2_total_52 : decode cX2_total 52 = .ok (.aload_n 0, 1) := by decide +kernel
theorem dX2_total_53 : decode cX2_total 53 = .ok (.getfield 37, 3) := by decide +kernel
theorem dX2_total_56 : decode cX2_total 56 = .ok (.ireturn, 1) := by decide +kernel
theorem dX2_total_57 : decode cX2_total 57 = .ok (.aload_n 0, 1) := by decide +kernel
theorem dX2_total_58 : decode cX2_total 58 = .ok (.getfield 27, 3) := by decide +kernel
theorem dX2_total_61 : decode cX2_total 61 = .ok (.ireturn, 1) := by decide +kernel
theorem dX2_total_62 : decode cX2_total 62 = .ok (.aload_n 0, 1) := by decide +kernel
theorem dX2_total_63 : decode cX2_total 63 = .ok (.getfield 31, 3) := by decide +kernel
theorem dX2_total_66 : decode cX2_total 66 = .ok (.ireturn, 1) := by decide +kernel
theorem dX2_total_67 : decode cX2_total 67 = .ok (.aload_n 0, 1) := by decide +kernel
theorem dX2_total_68 : decode cX2_total 68 = .ok (.getfield 34, 3) := by decide +kernel
theorem dX2_total_71 : decode cX2_total 71 = .ok (.ireturn, 1) := by decide +kernel
theorem dX2_total_72 : decode cX2_total 72 = .ok (.aload_n 0, 1) := by decide +kernel
theorem dX2_total_73 : decode cX2_total 73 = .ok (.invokevirtual 212, 3) := by decide +kernel
theorem dX2_total_76 : decode cX2_total 76 = .ok (.ireturn, 1) := by decide +kernel
theorem dX2_total_77 : decode cX2_total 77 = .ok (.aload_n 0, 1) := by decide +kernel
theorem dX2_total_78 : decode cX2_total 78 = .ok (.invokevirtual 215, 3) := by decide +kernel
theorem dX2_total_81 : decode cX2_total 81 = .ok (.ireturn, 1) := by decide +kernel
theorem dX2_total_82 : decode cX2_total 82 = .ok (.aload_n 0, 1) := by decide +kernel
theorem dX2_total_83 : decode cX2_total 83 = .ok (.invokevirtual 218, 3) := by decide +kernel
theorem dX2_total_86 : decode cX2_total 86 = .ok (.ireturn, 1) := by decide +kernel
theorem dX2_total_87 : decode cX2_total 87 = .ok (.aload_n 0, 1) := by decide +kernel
theorem dX2_total_88 : decode cX2_total 88 = .ok (.invokevirtual 221, 3) := by decide +kernel
theorem dX2_total_91 : decode cX2_total 91 = .ok (.ireturn, 1) := by decide +kernel
theorem dX2_total_92 : decode cX2_total 92 = .ok (.aload_n 0, 1) := by decide +kernel
theorem dX2_total_93 : decode cX2_total 93 = .ok (.invokevirtual 224, 3) := by decide +kernel
theorem dX2_total_96 : decode cX2_total 96 = .ok (.ireturn, 1) := by decide +kernel
theorem dX2_total_97 : decode cX2_total 97 = .ok (.aload_n 0, 1) := by decide +kernel
theorem dX2_total_98 : decode cX2_total 98 = .ok (.invokevirtual 227, 3) := by decide +kernel
theorem dX2_total_101 : decode cX2_total 101 = .ok (.ireturn, 1) := by decide +kernel
theorem dX2_keysHeldBy_0 : decode cX2_keysHeldBy 0 = .ok (.iconst 0, 1) := by decide +kernel
theorem dX2_keysHeldBy_1 : decode cX2_keysHeldBy 1 = .ok (.istore_n 2, 1) := by decide +kernel
theorem dX2_keysHeldBy_2 : decode cX2_keysHeldBy 2 = .ok (.iconst 0, 1) := by decide +kernel
theorem dX2_keysHeldBy_3 : decode cX2_keysHeldBy 3 = .ok (.istore_n 3, 1) := by decide +kernel
theorem dX2_keysHeldBy_4 : decode cX2_keysHeldBy 4 = .ok (.iload_n 3, 1) := by decide +kernel
theorem dX2_keysHeldBy_5 : decode cX2_keysHeldBy 5 = .ok (.aload_n 0, 1) := by decide +kernel
theorem dX2_keysHeldBy_6 : decode cX2_keysHeldBy 6 = .ok (.getfield 31, 3) := by decide +kernel
theorem dX2_keysHeldBy_9 : decode cX2_keysHeldBy 9 = .ok (.if_icmp .ge 30, 3) := by decide +kernel
theorem dX2_keysHeldBy_12 : decode cX2_keysHeldBy 12 = .ok (.iload_n 2, 1) := by decide +kernel
theorem dX2_keysHeldBy_13 : decode cX2_keysHeldBy 13 = .ok (.aload_n 0, 1) := by decide +kernel
theorem dX2_keysHeldBy_14 : decode cX2_keysHeldBy 14 = .ok (.getfield 19, 3) := by decide +kernel
theorem dX2_keysHeldBy_17 : decode cX2_keysHeldBy 17 = .ok (.iload_n 3, 1) := by decide +kernel
theorem dX2_keysHeldBy_18 : decode cX2_keysHeldBy 18 = .ok (.aaload, 1) := by decide +kernel
theorem dX2_keysHeldBy_19 : decode cX2_keysHeldBy 19 = .ok (.getfield 123, 3) := by decide +kernel
theorem dX2_keysHeldBy_22 : decode cX2_keysHeldBy 22 = .ok (.iload_n 1, 1) := by decide +kernel
theorem dX2_keysHeldBy_23 : decode cX2_keysHeldBy 23 = .ok (.if_icmp .ne 7, 3) := by decide +kernel
theorem dX2_keysHeldBy_26 : decode cX2_keysHeldBy 26 = .ok (.iconst 1, 1) := by decide +kernel
theorem dX2_keysHeldBy_27 : decode cX2_keysHeldBy 27 = .ok (.goto 4, 3) := by decide +kernel
theorem dX2_keysHeldBy_30 : decode cX2_keysHeldBy 30 = .ok (.iconst 0, 1) := by decide +kernel
theorem dX2_keysHeldBy_31 : decode cX2_keysHeldBy 31 = .ok (.iadd, 1) := by decide +kernel
theorem dX2_keysHeldBy_32 : decode cX2_keysHeldBy 32 = .ok (.istore_n 2, 1) := by decide +kernel
theorem dX2_keysHeldBy_33 : decode cX2_keysHeldBy 33 = .ok (.iinc 3 1, 3) := by decide +kernel
theorem dX2_keysHeldBy_36 : decode cX2_keysHeldBy 36 = .ok (.goto (-32), 3) := by decide +kernel
theorem dX2_keysHeldBy_39 : decode cX2_keysHeldBy 39 = .ok (.iload_n 2, 1) := by decide +kernel
theorem dX2_keysHeldBy_40 : decode cX2_keysHeldBy 40 = .ok (.ireturn, 1) := by decide +kernel
theorem dX2_unmarkedHouses_0 : decode cX2_unmarkedHouses 0 = .ok (.iconst 0, 1) := by decide +kernel
theorem dX2_unmarkedHouses_1 : decode cX2_unmarkedHouses 1 = .ok (.istore_n 1, 1) := by decide +kernel
theorem dX2_unmarkedHouses_2 : decode cX2_unmarkedHouses 2 = .ok (.iconst 0, 1) := by decide +kernel
theorem dX2_unmarkedHouses_3 : decode cX2_unmarkedHouses 3 = .ok (.istore_n 2, 1) := by decide +kernel
theorem dX2_unmarkedHouses_4 : decode cX2_unmarkedHouses 4 = .ok (.iload_n 2, 1) := by decide +kernel
theorem dX2_unmarkedHouses_5 : decode cX2_unmarkedHouses 5 = .ok (.aload_n 0, 1) := by decide +kernel
theorem dX2_unmarkedHouses_6 : decode cX2_unmarkedHouses 6 = .ok (.getfield 27, 3) := by decide +kernel
theorem dX2_unmarkedHouses_9 : decode cX2_unmarkedHouses 9 = .ok (.if_icmp .ge 29, 3) := by decide +kernel
theorem dX2_unmarkedHouses_12 : decode cX2_unmarkedHouses 12 = .ok (.iload_n 1, 1) := by decide +kernel
theorem dX2_unmarkedHouses_13 : decode cX2_unmarkedHouses 13 = .ok (.aload_n 0, 1) := by decide +kernel
theorem dX2_unmarkedHouses_14 : decode cX2_unmarkedHouses 14 = .ok (.getfield 11, 3) := by decide +kernel
theorem dX2_unmarkedHouses_17 : decode cX2_unmarkedHouses 17 = .ok (.iload_n 2, 1) := by decide +kernel
theorem dX2_unmarkedHouses_18 : decode cX2_unmarkedHouses 18 = .ok (.aaload, 1) := by decide +kernel
theorem dX2_unmarkedHouses_19 : decode cX2_unmarkedHouses 19 = .ok (.getfield 59, 3) := by decide +kernel
theorem dX2_unmarkedHouses_22 : decode cX2_unmarkedHouses 22 = .ok (.ifCond .ne 7, 3) := by decide +kernel
theorem dX2_unmarkedHouses_25 : decode cX2_unmarkedHouses 25 = .ok (.iconst 1, 1) := by decide +kernel
theorem dX2_unmarkedHouses_26 : decode cX2_unmarkedHouses 26 = .ok (.goto 4, 3) := by decide +kernel
theorem dX2_unmarkedHouses_29 : decode cX2_unmarkedHouses 29 = .ok (.iconst 0, 1) := by decide +kernel
theorem dX2_unmarkedHouses_30 : decode cX2_unmarkedHouses 30 = .ok (.iadd, 1) := by decide +kernel
theorem dX2_unmarkedHouses_31 : decode cX2_unmarkedHouses 31 = .ok (.istore_n 1, 1) := by decide +kernel
theorem dX2_unmarkedHouses_32 : decode cX2_unmarkedHouses 32 = .ok (.iinc 2 1, 3) := by decide +kernel
theorem dX2_unmarkedHouses_35 : decode cX2_unmarkedHouses 35 = .ok (.goto (-31), 3) := by decide +kernel
theorem dX2_unmarkedHouses_38 : decode cX2_unmarkedHouses 38 = .ok (.iload_n 1, 1) := by decide +kernel
theorem dX2_unmarkedHouses_39 : decode cX2_unmarkedHouses 39 = .ok (.ireturn, 1) := by decide +kernel
theorem dX2_allEggs_0 : decode cX2_allEggs 0 = .ok (.iconst 0, 1) := by decide +kernel
theorem dX2_allEggs_1 : decode cX2_allEggs 1 = .ok (.istore_n 1, 1) := by decide +kernel
theorem dX2_allEggs_2 : decode cX2_allEggs 2 = .ok (.iconst 0, 1) := by decide +kernel
theorem dX2_allEggs_3 : decode cX2_allEggs 3 = .ok (.istore_n 2, 1) := by decide +kernel
theorem dX2_allEggs_4 : decode cX2_allEggs 4 = .ok (.iload_n 2, 1) := by decide +kernel
theorem dX2_allEggs_5 : decode cX2_allEggs 5 = .ok (.aload_n 0, 1) := by decide +kernel
theorem dX2_allEggs_6 : decode cX2_allEggs 6 = .ok (.getfield 27, 3) := by decide +kernel
theorem dX2_allEggs_9 : decode cX2_allEggs 9 = .ok (.if_icmp .ge 21, 3) := by decide +kernel
theorem dX2_allEggs_12 : decode cX2_allEggs 12 = .ok (.iload_n 1, 1) := by decide +kernel
theorem dX2_allEggs_13 : decode cX2_allEggs 13 = .ok (.aload_n 0, 1) := by decide +kernel
theorem dX2_allEggs_14 : decode cX2_allEggs 14 = .ok (.getfield 11, 3) := by decide +kernel
theorem dX2_allEggs_17 : decode cX2_allEggs 17 = .ok (.iload_n 2, 1) := by decide +kernel
theorem dX2_allEggs_18 : decode cX2_allEggs 18 = .ok (.aaload, 1) := by decide +kernel
theorem dX2_allEggs_19 : decode cX2_allEggs 19 = .ok (.getfield 50, 3) := by decide +kernel
theorem dX2_allEggs_22 : decode cX2_allEggs 22 = .ok (.iadd, 1) := by decide +kernel
theorem dX2_allEggs_23 : decode cX2_allEggs 23 = .ok (.istore_n 1, 1) := by decide +kernel
theorem dX2_allEggs_24 : decode cX2_allEggs 24 = .ok (.iinc 2 1, 3) := by decide +kernel
theorem dX2_allEggs_27 : decode cX2_allEggs 27 = .ok (.goto (-23), 3) := by decide +kernel
theorem dX2_allEggs_30 : decode cX2_allEggs 30 = .ok (.iload_n 1, 1) := by decide +kernel
theorem dX2_allEggs_31 : decode cX2_allEggs 31 = .ok (.ireturn, 1) := by decide +kernel
set_option maxRecDepth 20000 in
theorem ggX2_housesAway_X0_isThere : GoodIn wsX2_housesAway wsX0_isThere := goodIn_r _ [7, 8, 15, 16, 17, 18, 19, 20, 21, 22, 23, 24, 25, 26] (by decide +kernel) (by decide +kernel)
set_option maxRecDepth 20000 in
theorem gX2_housesAway_X0_isThere : GoodIn wsX2_housesAway (wsV RX2 97 RX0 yX0_isThere wsX0_isThere) := goodIn_app (goodIn_of _ (by decide +kernel)) ggX2_housesAway_X0_isThere
theorem dX2_housesAway_0 : decode cX2_housesAway 0 = .ok (.iconst 0, 1) := by decide +kernel
theorem dX2_housesAway_1 : decode cX2_housesAway 1 = .ok (.istore_n 1, 1) := by decide +kernel
theorem dX2_housesAway_2 : decode cX2_housesAway 2 = .ok (.iconst 0, 1) := by decide +kernel
theorem dX2_housesAway_3 : decode cX2_housesAway 3 = .ok (.istore_n 2, 1) := by decide +kernel
theorem dX2_housesAway_4 : decode cX2_housesAway 4 = .ok (.iload_n 2, 1) := by decide +kernel
theorem dX2_housesAway_5 : decode cX2_housesAway 5 = .ok (.aload_n 0, 1) := by decide +kernel
theorem dX2_housesAway_6 : decode cX2_housesAway 6 = .ok (.getfield 27, 3) := by decide +kernel
theorem dX2_housesAway_9 : decode cX2_housesAway 9 = .ok (.if_icmp .ge 29, 3) := by decide +kernel
theorem dX2_housesAway_12 : decode cX2_housesAway 12 = .ok (.iload_n 1, 1) := by decide +kernel
theorem dX2_housesAway_13 : decode cX2_housesAway 13 = .ok (.aload_n 0, 1) := by decide +kernel
theorem dX2_housesAway_14 : decode cX2_housesAway 14 = .ok (.getfield 11, 3) := by decide +kernel
theorem dX2_housesAway_17 : decode cX2_housesAway 17 = .ok (.iload_n 2, 1) := by decide +kernel
theorem dX2_housesAway_18 : decode cX2_housesAway 18 = .ok (.aaload, 1) := by decide +kernel
theorem dX2_housesAway_19 : decode cX2_housesAway 19 = .ok (.invokevirtual 97, 3) := by decide +kernel
theorem dX2_housesAway_22 : decode cX2_housesAway 22 = .ok (.ifCond .eq 7, 3) := by decide +kernel
theorem dX2_housesAway_25 : decode cX2_housesAway 25 = .ok (.iconst 0, 1) := by decide +kernel
theorem dX2_housesAway_26 : decode cX2_housesAway 26 = .ok (.goto 4, 3) := by decide +kernel
theorem dX2_housesAway_29 : decode cX2_housesAway 29 = .ok (.iconst 1, 1) := by decide +kernel
theorem dX2_housesAway_30 : decode cX2_housesAway 30 = .ok (.iadd, 1) := by decide +kernel
theorem dX2_housesAway_31 : decode cX2_housesAway 31 = .ok (.istore_n 1, 1) := by decide +kernel
theorem dX2_housesAway_32 : decode cX2_housesAway 32 = .ok (.iinc 2 1, 3) := by decide +kernel
theorem dX2_housesAway_35 : decode cX2_housesAway 35 = .ok (.goto (-31), 3) := by decide +kernel
theorem dX2_housesAway_38 : decode cX2_housesAway 38 = .ok (.iload_n 1, 1) := by decide +kernel
theorem dX2_housesAway_39 : decode cX2_housesAway 39 = .ok (.ireturn, 1) := by decide +kernel
theorem dX2_allMarks_0 : decode cX2_allMarks 0 = .ok (.iconst 0, 1) := by decide +kernel
theorem dX2_allMarks_1 : decode cX2_allMarks 1 = .ok (.istore_n 1, 1) := by decide +kernel
theorem dX2_allMarks_2 : decode cX2_allMarks 2 = .ok (.iconst 0, 1) := by decide +kernel
theorem dX2_allMarks_3 : decode cX2_allMarks 3 = .ok (.istore_n 2, 1) := by decide +kernel
theorem dX2_allMarks_4 : decode cX2_allMarks 4 = .ok (.iload_n 2, 1) := by decide +kernel
theorem dX2_allMarks_5 : decode cX2_allMarks 5 = .ok (.aload_n 0, 1) := by decide +kernel
theorem dX2_allMarks_6 : decode cX2_allMarks 6 = .ok (.getfield 27, 3) := by decide +kernel
theorem dX2_allMarks_9 : decode cX2_allMarks 9 = .ok (.if_icmp .ge 21, 3) := by decide +kernel
theorem dX2_allMarks_12 : decode cX2_allMarks 12 = .ok (.iload_n 1, 1) := by decide +kernel
theorem dX2_allMarks_13 : decode cX2_allMarks 13 = .ok (.aload_n 0, 1) := by decide +kernel
theorem dX2_allMarks_14 : decode cX2_allMarks 14 = .ok (.getfield 11, 3) := by decide +kernel
theorem dX2_allMarks_17 : decode cX2_allMarks 17 = .ok (.iload_n 2, 1) := by decide +kernel
theorem dX2_allMarks_18 : decode cX2_allMarks 18 = .ok (.aaload, 1) := by decide +kernel
theorem dX2_allMarks_19 : decode cX2_allMarks 19 = .ok (.getfield 59, 3) := by decide +kernel
theorem dX2_allMarks_22 : decode cX2_allMarks 22 = .ok (.iadd, 1) := by decide +kernel
theorem dX2_allMarks_23 : decode cX2_allMarks 23 = .ok (.istore_n 1, 1) := by decide +kernel
theorem dX2_allMarks_24 : decode cX2_allMarks 24 = .ok (.iinc 2 1, 3) := by decide +kernel
theorem dX2_allMarks_27 : decode cX2_allMarks 27 = .ok (.goto (-23), 3) := by decide +kernel
theorem dX2_allMarks_30 : decode cX2_allMarks 30 = .ok (.iload_n 1, 1) := by decide +kernel
theorem dX2_allMarks_31 : decode cX2_allMarks 31 = .ok (.ireturn, 1) := by decide +kernel
theorem dX2_allThirst_0 : decode cX2_allThirst 0 = .ok (.iconst 0, 1) := by decide +kernel
theorem dX2_allThirst_1 : decode cX2_allThirst 1 = .ok (.istore_n 1, 1) := by decide +kernel
theorem dX2_allThirst_2 : decode cX2_allThirst 2 = .ok (.iconst 0, 1) := by decide +kernel
theorem dX2_allThirst_3 : decode cX2_allThirst 3 = .ok (.istore_n 2, 1) := by decide +kernel
theorem dX2_allThirst_4 : decode cX2_allThirst 4 = .ok (.iload_n 2, 1) := by decide +kernel
theorem dX2_allThirst_5 : decode cX2_allThirst 5 = .ok (.aload_n 0, 1) := by decide +kernel
theorem dX2_allThirst_6 : decode cX2_allThirst 6 = .ok (.getfield 27, 3) := by decide +kernel
theorem dX2_allThirst_9 : decode cX2_allThirst 9 = .ok (.if_icmp .ge 21, 3) := by decide +kernel
theorem dX2_allThirst_12 : decode cX2_allThirst 12 = .ok (.iload_n 1, 1) := by decide +kernel
theorem dX2_allThirst_13 : decode cX2_allThirst 13 = .ok (.aload_n 0, 1) := by decide +kernel
theorem dX2_allThirst_14 : decode cX2_allThirst 14 = .ok (.getfield 11, 3) := by decide +kernel
theorem dX2_allThirst_17 : decode cX2_allThirst 17 = .ok (.iload_n 2, 1) := by decide +kernel
theorem dX2_allThirst_18 : decode cX2_allThirst 18 = .ok (.aaload, 1) := by decide +kernel
theorem dX2_allThirst_19 : decode cX2_allThirst 19 = .ok (.getfield 170, 3) := by decide +kernel
theorem dX2_allThirst_22 : decode cX2_allThirst 22 = .ok (.iadd, 1) := by decide +kernel
theorem dX2_allThirst_23 : decode cX2_allThirst 23 = .ok (.istore_n 1, 1) := by decide +kernel
theorem dX2_allThirst_24 : decode cX2_allThirst 24 = .ok (.iinc 2 1, 3) := by decide +kernel
theorem dX2_allThirst_27 : decode cX2_allThirst 27 = .ok (.goto (-23), 3) := by decide +kernel
theorem dX2_allThirst_30 : decode cX2_allThirst 30 = .ok (.iload_n 1, 1) := by decide +kernel
theorem dX2_allThirst_31 : decode cX2_allThirst 31 = .ok (.ireturn, 1) := by decide +kernel
set_option maxRecDepth 20000 in
theorem ggX2_allDailyNeed_X0_isThere : GoodIn wsX2_allDailyNeed wsX0_isThere := goodIn_r _ [7, 8, 20, 21, 22, 23, 24, 25, 26, 27, 28, 29, 30, 31] (by decide +kernel) (by decide +kernel)
set_option maxRecDepth 20000 in
theorem gX2_allDailyNeed_X0_isThere : GoodIn wsX2_allDailyNeed (wsV RX2 97 RX0 yX0_isThere wsX0_isThere) := goodIn_app (goodIn_of _ (by decide +kernel)) ggX2_allDailyNeed_X0_isThere
set_option maxRecDepth 20000 in
theorem ggX2_allDailyNeed_X0_dailyNeed : GoodIn wsX2_allDailyNeed wsX0_dailyNeed := goodIn_r _ [12, 13, 20, 21, 22, 23, 24, 25, 26, 27, 28, 29, 30, 31] (by decide +kernel) (by decide +kernel)
set_option maxRecDepth 20000 in
theorem gX2_allDailyNeed_X0_dailyNeed : GoodIn wsX2_allDailyNeed (wsV RX2 157 RX0 yX0_dailyNeed wsX0_dailyNeed) := goodIn_app (goodIn_of _ (by decide +kernel)) ggX2_allDailyNeed_X0_dailyNeed
theorem dX2_allDailyNeed_0 : decode cX2_allDailyNeed 0 = .ok (.iconst 0, 1) := by decide +kernel
theorem dX2_allDailyNeed_1 : decode cX2_allDailyNeed 1 = .ok (.istore_n 1, 1) := by decide +kernel
theorem dX2_allDailyNeed_2 : decode cX2_allDailyNeed 2 = .ok (.iconst 0, 1) := by decide +kernel
theorem dX2_allDailyNeed_3 : decode cX2_allDailyNeed 3 = .ok (.istore_n 2, 1) := by decide +kernel
theorem dX2_allDailyNeed_4 : decode cX2_allDailyNeed 4 = .ok (.iload_n 2, 1) := by decide +kernel
theorem dX2_allDailyNeed_5 : decode cX2_allDailyNeed 5 = .ok (.aload_n 0, 1) := by decide +kernel
theorem dX2_allDailyNeed_6 : decode cX2_allDailyNeed 6 = .ok (.getfield 27, 3) := by decide +kernel
theorem dX2_allDailyNeed_9 : decode cX2_allDailyNeed 9 = .ok (.if_icmp .ge 37, 3) := by decide +kernel
theorem dX2_allDailyNeed_12 : decode cX2_allDailyNeed 12 = .ok (.iload_n 1, 1) := by decide +kernel
theorem dX2_allDailyNeed_13 : decode cX2_allDailyNeed 13 = .ok (.aload_n 0, 1) := by decide +kernel
theorem dX2_allDailyNeed_14 : decode cX2_allDailyNeed 14 = .ok (.getfield 11, 3) := by decide +kernel
theorem dX2_allDailyNeed_17 : decode cX2_allDailyNeed 17 = .ok (.iload_n 2, 1) := by decide +kernel
theorem dX2_allDailyNeed_18 : decode cX2_allDailyNeed 18 = .ok (.aaload, 1) := by decide +kernel
theorem dX2_allDailyNeed_19 : decode cX2_allDailyNeed 19 = .ok (.invokevirtual 97, 3) := by decide +kernel
theorem dX2_allDailyNeed_22 : decode cX2_allDailyNeed 22 = .ok (.ifCond .eq 15, 3) := by decide +kernel
theorem dX2_allDailyNeed_25 : decode cX2_allDailyNeed 25 = .ok (.aload_n 0, 1) := by decide +kernel
theorem dX2_allDailyNeed_26 : decode cX2_allDailyNeed 26 = .ok (.getfield 11, 3) := by decide +kernel
theorem dX2_allDailyNeed_29 : decode cX2_allDailyNeed 29 = .ok (.iload_n 2, 1) := by decide +kernel
theorem dX2_allDailyNeed_30 : decode cX2_allDailyNeed 30 = .ok (.aaload, 1) := by decide +kernel
theorem dX2_allDailyNeed_31 : decode cX2_allDailyNeed 31 = .ok (.invokevirtual 157, 3) := by decide +kernel
theorem dX2_allDailyNeed_34 : decode cX2_allDailyNeed 34 = .ok (.goto 4, 3) := by decide +kernel
theorem dX2_allDailyNeed_37 : decode cX2_allDailyNeed 37 = .ok (.iconst 0, 1) := by decide +kernel
theorem dX2_allDailyNeed_38 : decode cX2_allDailyNeed 38 = .ok (.iadd, 1) := by decide +kernel
theorem dX2_allDailyNeed_39 : decode cX2_allDailyNeed 39 = .ok (.istore_n 1, 1) := by decide +kernel
theorem dX2_allDailyNeed_40 : decode cX2_allDailyNeed 40 = .ok (.iinc 2 1, 3) := by decide +kernel
theorem dX2_allDailyNeed_43 : decode cX2_allDailyNeed 43 = .ok (.goto (-39), 3) := by decide +kernel
theorem dX2_allDailyNeed_46 : decode cX2_allDailyNeed 46 = .ok (.iload_n 1, 1) := by decide +kernel
theorem dX2_allDailyNeed_47 : decode cX2_allDailyNeed 47 = .ok (.ireturn, 1) := by decide +kernel
theorem dX2_brokenHandles_0 : decode cX2_brokenHandles 0 = .ok (.iconst 0, 1) := by decide +kernel
theorem dX2_brokenHandles_1 : decode cX2_brokenHandles 1 = .ok (.istore_n 1, 1) := by decide +kernel
theorem dX2_brokenHandles_2 : decode cX2_brokenHandles 2 = .ok (.iconst 0, 1) := by decide +kernel
theorem dX2_brokenHandles_3 : decode cX2_brokenHandles 3 = .ok (.istore_n 2, 1) := by decide +kernel
theorem dX2_brokenHandles_4 : decode cX2_brokenHandles 4 = .ok (.iload_n 2, 1) := by decide +kernel
theorem dX2_brokenHandles_5 : decode cX2_brokenHandles 5 = .ok (.aload_n 0, 1) := by decide +kernel
theorem dX2_brokenHandles_6 : decode cX2_brokenHandles 6 = .ok (.getfield 31, 3) := by decide +kernel
theorem dX2_brokenHandles_9 : decode cX2_brokenHandles 9 = .ok (.if_icmp .ge 29, 3) := by decide +kernel
theorem dX2_brokenHandles_12 : decode cX2_brokenHandles 12 = .ok (.iload_n 1, 1) := by decide +kernel
theorem dX2_brokenHandles_13 : decode cX2_brokenHandles 13 = .ok (.aload_n 0, 1) := by decide +kernel
theorem dX2_brokenHandles_14 : decode cX2_brokenHandles 14 = .ok (.getfield 19, 3) := by decide +kernel
theorem dX2_brokenHandles_17 : decode cX2_brokenHandles 17 = .ok (.iload_n 2, 1) := by decide +kernel
theorem dX2_brokenHandles_18 : decode cX2_brokenHandles 18 = .ok (.aaload, 1) := by decide +kernel
theorem dX2_brokenHandles_19 : decode cX2_brokenHandles 19 = .ok (.getfield 173, 3) := by decide +kernel
theorem dX2_brokenHandles_22 : decode cX2_brokenHandles 22 = .ok (.ifCond .eq 7, 3) := by decide +kernel
theorem dX2_brokenHandles_25 : decode cX2_brokenHandles 25 = .ok (.iconst 1, 1) := by decide +kernel
theorem dX2_brokenHandles_26 : decode cX2_brokenHandles 26 = .ok (.goto 4, 3) := by decide +kernel
theorem dX2_brokenHandles_29 : decode cX2_brokenHandles 29 = .ok (.iconst 0, 1) := by decide +kernel
theorem dX2_brokenHandles_30 : decode cX2_brokenHandles 30 = .ok (.iadd, 1) := by decide +kernel
theorem dX2_brokenHandles_31 : decode cX2_brokenHandles 31 = .ok (.istore_n 1, 1) := by decide +kernel
theorem dX2_brokenHandles_32 : decode cX2_brokenHandles 32 = .ok (.iinc 2 1, 3) := by decide +kernel
theorem dX2_brokenHandles_35 : decode cX2_brokenHandles 35 = .ok (.goto (-31), 3) := by decide +kernel
theorem dX2_brokenHandles_38 : decode cX2_brokenHandles 38 = .ok (.iload_n 1, 1) := by decide +kernel
theorem dX2_brokenHandles_39 : decode cX2_brokenHandles 39 = .ok (.ireturn, 1) := by decide +kernel
theorem dX2_allDrawn_0 : decode cX2_allDrawn 0 = .ok (.iconst 0, 1) := by decide +kernel
theorem dX2_allDrawn_1 : decode cX2_allDrawn 1 = .ok (.istore_n 1, 1) := by decide +kernel
theorem dX2_allDrawn_2 : decode cX2_allDrawn 2 = .ok (.iconst 0, 1) := by decide +kernel
theorem dX2_allDrawn_3 : decode cX2_allDrawn 3 = .ok (.istore_n 2, 1) := by decide +kernel
theorem dX2_allDrawn_4 : decode cX2_allDrawn 4 = .ok (.iload_n 2, 1) := by decide +kernel
theorem dX2_allDrawn_5 : decode cX2_allDrawn 5 = .ok (.aload_n 0, 1) := by decide +kernel
theorem dX2_allDrawn_6 : decode cX2_allDrawn 6 = .ok (.getfield 31, 3) := by decide +kernel
theorem dX2_allDrawn_9 : decode cX2_allDrawn 9 = .ok (.if_icmp .ge 21, 3) := by decide +kernel
theorem dX2_allDrawn_12 : decode cX2_allDrawn 12 = .ok (.iload_n 1, 1) := by decide +kernel
theorem dX2_allDrawn_13 : decode cX2_allDrawn 13 = .ok (.aload_n 0, 1) := by decide +kernel
theorem dX2_allDrawn_14 : decode cX2_allDrawn 14 = .ok (.getfield 19, 3) := by decide +kernel
theorem dX2_allDrawn_17 : decode cX2_allDrawn 17 = .ok (.iload_n 2, 1) := by decide +kernel
theorem dX2_allDrawn_18 : decode cX2_allDrawn 18 = .ok (.aaload, 1) := by decide +kernel
theorem dX2_allDrawn_19 : decode cX2_allDrawn 19 = .ok (.getfield 179, 3) := by decide +kernel
theorem dX2_allDrawn_22 : decode cX2_allDrawn 22 = .ok (.iadd, 1) := by decide +kernel
theorem dX2_allDrawn_23 : decode cX2_allDrawn 23 = .ok (.istore_n 1, 1) := by decide +kernel
theorem dX2_allDrawn_24 : decode cX2_allDrawn 24 = .ok (.iinc 2 1, 3) := by decide +kernel
theorem dX2_allDrawn_27 : decode cX2_allDrawn 27 = .ok (.goto (-23), 3) := by decide +kernel
theorem dX2_allDrawn_30 : decode cX2_allDrawn 30 = .ok (.iload_n 1, 1) := by decide +kernel
theorem dX2_allDrawn_31 : decode cX2_allDrawn 31 = .ok (.ireturn, 1) := by decide +kernel
set_option maxRecDepth 20000 in
theorem ggX3_init_X2_init : GoodIn wsX3_init wsX2_init := goodIn_r _ [11, 12, 2, 3, 13, 14, 15, 16, 17, 18, 19, 20, 21, 22, 23, 24, 25, 26, 27, 28, 29, 30, 31, 32, 33, 34, 35, 36, 37, 38, 41, 42, 43, 44, 45, 46, 47, 48, 49, 50, 51, 52, 53, 54, 55, 56, 57, 58, 59, 60, 61, 62, 63, 64, 65, 66] (by decide +kernel) (by decide +kernel)
set_option maxRecDepth 20000 in
theorem gX3_init_X2_init : GoodIn wsX3_init (wsX2_init) := ggX3_init_X2_init
theorem dX3_init_0 : decode cX3_init 0 = .ok (.aload_n 0, 1) := by decide +kernel

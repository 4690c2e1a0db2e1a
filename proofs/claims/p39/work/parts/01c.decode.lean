theorem dX0_init_0 : decode cX0_init 0 = .ok (.aload_n 0, 1) := by decide +kernel
theorem dX0_init_1 : decode cX0_init 1 = .ok (.invokespecial 3, 3) := by decide +kernel
theorem dX0_init_4 : decode cX0_init 4 = .ok (.aload_n 0, 1) := by decide +kernel
theorem dX0_init_5 : decode cX0_init 5 = .ok (.bipush 10, 2) := by decide +kernel
theorem dX0_init_7 : decode cX0_init 7 = .ok (.newarray .int, 2) := by decide +kernel
theorem dX0_init_9 : decode cX0_init 9 = .ok (.putfield 9, 3) := by decide +kernel
theorem dX0_init_12 : decode cX0_init 12 = .ok (.aload_n 0, 1) := by decide +kernel
theorem dX0_init_13 : decode cX0_init 13 = .ok (.bipush 10, 2) := by decide +kernel
theorem dX0_init_15 : decode cX0_init 15 = .ok (.newarray .int, 2) := by decide +kernel
theorem dX0_init_17 : decode cX0_init 17 = .ok (.putfield 15, 3) := by decide +kernel
theorem dX0_init_20 : decode cX0_init 20 = .ok (.aload_n 0, 1) := by decide +kernel
theorem dX0_init_21 : decode cX0_init 21 = .ok (.bipush 10, 2) := by decide +kernel
theorem dX0_init_23 : decode cX0_init 23 = .ok (.newarray .int, 2) := by decide +kernel
theorem dX0_init_25 : decode cX0_init 25 = .ok (.putfield 18, 3) := by decide +kernel
theorem dX0_init_28 : decode cX0_init 28 = .ok (.aload_n 0, 1) := by decide +kernel
theorem dX0_init_29 : decode cX0_init 29 = .ok (.bipush 10, 2) := by decide +kernel
theorem dX0_init_31 : decode cX0_init 31 = .ok (.newarray .int, 2) := by decide +kernel
theorem dX0_init_33 : decode cX0_init 33 = .ok (.putfield 21, 3) := by decide +kernel
theorem dX0_init_36 : decode cX0_init 36 = .ok (.aload_n 0, 1) := by decide +kernel
theorem dX0_init_37 : decode cX0_init 37 = .ok (.bipush 10, 2) := by decide +kernel
theorem dX0_init_39 : decode cX0_init 39 = .ok (.newarray .boolean, 2) := by decide +kernel
theorem dX0_init_41 : decode cX0_init 41 = .ok (.putfield 24, 3) := by decide +kernel
theorem dX0_init_44 : decode cX0_init 44 = .ok (.aload_n 0, 1) := by decide +kernel
theorem dX0_init_45 : decode cX0_init 45 = .ok (.bipush 16, 2) := by decide +kernel
theorem dX0_init_47 : decode cX0_init 47 = .ok (.newarray .int, 2) := by decide +kernel
theorem dX0_init_49 : decode cX0_init 49 = .ok (.putfield 28, 3) := by decide +kernel
theorem dX0_init_52 : decode cX0_init 52 = .ok (.aload_n 0, 1) := by decide +kernel
theorem dX0_init_53 : decode cX0_init 53 = .ok (.bipush 16, 2) := by decide +kernel
theorem dX0_init_55 : decode cX0_init 55 = .ok (.newarray .int, 2) := by decide +kernel
theorem dX0_init_57 : decode cX0_init 57 = .ok (.putfield 31, 3) := by decide +kernel
theorem dX0_init_60 : decode cX0_init 60 = .ok (.aload_n 0, 1) := by decide +kernel
theorem dX0_init_61 : decode cX0_init 61 = .ok (.bipush 16, 2) := by decide +kernel
theorem dX0_init_63 : decode cX0_init 63 = .ok (.newarray .int, 2) := by decide +kernel
theorem dX0_init_65 : decode cX0_init 65 = .ok (.putfield 34, 3) := by decide +kernel
theorem dX0_init_68 : decode cX0_init 68 = .ok (.aload_n 0, 1) := by decide +kernel
theorem dX0_init_69 : decode cX0_init 69 = .ok (.bipush 16, 2) := by decide +kernel
theorem dX0_init_71 : decode cX0_init 71 = .ok (.newarray .int, 2) := by decide +kernel
theorem dX0_init_73 : decode cX0_init 73 = .ok (.putfield 37, 3) := by decide +kernel
theorem dX0_init_76 : decode cX0_init 76 = .ok (.aload_n 0, 1) := by decide +kernel
theorem dX0_init_77 : decode cX0_init 77 = .ok (.bipush 16, 2) := by decide +kernel
theorem dX0_init_79 : decode cX0_init 79 = .ok (.newarray .boolean, 2) := by decide +kernel
theorem dX0_init_81 : decode cX0_init 81 = .ok (.putfield 40, 3) := by decide +kernel
theorem dX0_init_84 : decode cX0_init 84 = .ok (.aload_n 0, 1) := by decide +kernel
theorem dX0_init_85 : decode cX0_init 85 = .ok (.bipush 16, 2) := by decide +kernel
theorem dX0_init_87 : decode cX0_init 87 = .ok (.newarray .boolean, 2) := by decide +kernel
theorem dX0_init_89 : decode cX0_init 89 = .ok (.putfield 43, 3) := by decide +kernel
theorem dX0_init_92 : decode cX0_init 92 = .ok (.return_, 1) := by decide +kernel
theorem dX0_hasField_0 : decode cX0_hasField 0 = .ok (.iload_n 1, 1) := by decide +kernel
theorem dX0_hasField_1 : decode cX0_hasField 1 = .ok (.ifCond .lt 15, 3) := by decide +kernel
theorem dX0_hasField_4 : decode cX0_hasField 4 = .ok (.iload_n 1, 1) := by decide +kernel
theorem dX0_hasField_5 : decode cX0_hasField 5 = .ok (.aload_n 0, 1) := by decide +kernel
theorem dX0_hasField_6 : decode cX0_hasField 6 = .ok (.getfield 46, 3) := by decide +kernel
theorem dX0_hasField_9 : decode cX0_hasField 9 = .ok (.if_icmp .ge 7, 3) := by decide +kernel
theorem dX0_hasField_12 : decode cX0_hasField 12 = .ok (.iconst 1, 1) := by decide +kernel
theorem dX0_hasField_13 : decode cX0_hasField 13 = .ok (.goto 4, 3) := by decide +kernel
theorem dX0_hasField_16 : decode cX0_hasField 16 = .ok (.iconst 0, 1) := by decide +kernel
theorem dX0_hasField_17 : decode cX0_hasField 17 = .ok (.ireturn, 1) := by decide +kernel
theorem dX0_hasDrain_0 : decode cX0_hasDrain 0 = .ok (.iload_n 1, 1) := by decide +kernel
theorem dX0_hasDrain_1 : decode cX0_hasDrain 1 = .ok (.ifCond .lt 15, 3) := by decide +kernel
theorem dX0_hasDrain_4 : decode cX0_hasDrain 4 = .ok (.iload_n 1, 1) := by decide +kernel
theorem dX0_hasDrain_5 : decode cX0_hasDrain 5 = .ok (.aload_n 0, 1) := by decide +kernel
theorem dX0_hasDrain_6 : decode cX0_hasDrain 6 = .ok (.getfield 50, 3) := by decide +kernel
theorem dX0_hasDrain_9 : decode cX0_hasDrain 9 = .ok (.if_icmp .ge 7, 3) := by decide +kernel
theorem dX0_hasDrain_12 : decode cX0_hasDrain 12 = .ok (.iconst 1, 1) := by decide +kernel
theorem dX0_hasDrain_13 : decode cX0_hasDrain 13 = .ok (.goto 4, 3) := by decide +kernel
theorem dX0_hasDrain_16 : decode cX0_hasDrain 16 = .ok (.iconst 0, 1) := by decide +kernel
theorem dX0_hasDrain_17 : decode cX0_hasDrain 17 = .ok (.ireturn, 1) := by decide +kernel
theorem dX0_putField_0 : decode cX0_putField 0 = .ok (.aload_n 0, 1) := by decide +kernel
theorem dX0_putField_1 : decode cX0_putField 1 = .ok (.getfield 46, 3) := by decide +kernel
theorem dX0_putField_4 : decode cX0_putField 4 = .ok (.istore_n 3, 1) := by decide +kernel
theorem dX0_putField_5 : decode cX0_putField 5 = .ok (.iload_n 3, 1) := by decide +kernel
theorem dX0_putField_6 : decode cX0_putField 6 = .ok (.bipush 10, 2) := by decide +kernel
theorem dX0_putField_8 : decode cX0_putField 8 = .ok (.if_icmp .lt 5, 3) := by decide +kernel
theorem dX0_putField_11 : decode cX0_putField 11 = .ok (.iconst (-1), 1) := by decide +kernel
theorem dX0_putField_12 : decode cX0_putField 12 = .ok (.ireturn, 1) := by decide +kernel
theorem dX0_putField_13 : decode cX0_putField 13 = .ok (.aload_n 0, 1) := by decide +kernel
theorem dX0_putField_14 : decode cX0_putField 14 = .ok (.getfield 9, 3) := by decide +kernel
theorem dX0_putField_17 : decode cX0_putField 17 = .ok (.iload_n 3, 1) := by decide +kernel
theorem dX0_putField_18 : decode cX0_putField 18 = .ok (.iload_n 1, 1) := by decide +kernel
theorem dX0_putField_19 : decode cX0_putField 19 = .ok (.iastore, 1) := by decide +kernel
theorem dX0_putField_20 : decode cX0_putField 20 = .ok (.aload_n 0, 1) := by decide +kernel
theorem dX0_putField_21 : decode cX0_putField 21 = .ok (.getfield 15, 3) := by decide +kernel
theorem dX0_putField_24 : decode cX0_putField 24 = .ok (.iload_n 3, 1) := by decide +kernel
theorem dX0_putField_25 : decode cX0_putField 25 = .ok (.iload_n 2, 1) := by decide +kernel
theorem dX0_putField_26 : decode cX0_putField 26 = .ok (.iastore, 1) := by decide +kernel
theorem dX0_putField_27 : decode cX0_putField 27 = .ok (.aload_n 0, 1) := by decide +kernel
theorem dX0_putField_28 : decode cX0_putField 28 = .ok (.iload_n 3, 1) := by decide +kernel
theorem dX0_putField_29 : decode cX0_putField 29 = .ok (.iconst 1, 1) := by decide +kernel
theorem dX0_putField_30 : decode cX0_putField 30 = .ok (.iadd, 1) := by decide +kernel
theorem dX0_putField_31 : decode cX0_putField 31 = .ok (.putfield 46, 3) := by decide +kernel
theorem dX0_putField_34 : decode cX0_putField 34 = .ok (.iload_n 3, 1) := by decide +kernel
theorem dX0_putField_35 : decode cX0_putField 35 = .ok (.ireturn, 1) := by decide +kernel
theorem dX0_putDrain_0 : decode cX0_putDrain 0 = .ok (.aload_n 0, 1) := by decide +kernel
theorem dX0_putDrain_1 : decode cX0_putDrain 1 = .ok (.getfield 50, 3) := by decide +kernel
theorem dX0_putDrain_4 : decode cX0_putDrain 4 = .ok (.istore 5, 2) := by decide +kernel
theorem dX0_putDrain_6 : decode cX0_putDrain 6 = .ok (.iload 5, 2) := by decide +kernel
theorem dX0_putDrain_8 : decode cX0_putDrain 8 = .ok (.bipush 16, 2) := by decide +kernel
theorem dX0_putDrain_10 : decode cX0_putDrain 10 = .ok (.if_icmp .lt 5, 3) := by decide +kernel
theorem dX0_putDrain_13 : decode cX0_putDrain 13 = .ok (.iconst (-1), 1) := by decide +kernel
theorem dX0_putDrain_14 : decode cX0_putDrain 14 = .ok (.ireturn, 1) := by decide +kernel
theorem dX0_putDrain_15 : decode cX0_putDrain 15 = .ok (.aload_n 0, 1) := by decide +kernel
theorem dX0_putDrain_16 : decode cX0_putDrain 16 = .ok (.getfield 28, 3) := by decide +kernel
theorem dX0_putDrain_19 : decode cX0_putDrain 19 = .ok (.iload 5, 2) := by decide +kernel
theorem dX0_putDrain_21 : decode cX0_putDrain 21 = .ok (.iload_n 1, 1) := by decide +kernel
theorem dX0_putDrain_22 : decode cX0_putDrain 22 = .ok (.iastore, 1) := by decide +kernel
theorem dX0_putDrain_23 : decode cX0_putDrain 23 = .ok (.aload_n 0, 1) := by decide +kernel
theorem dX0_putDrain_24 : decode cX0_putDrain 24 = .ok (.getfield 31, 3) := by decide +kernel
theorem dX0_putDrain_27 : decode cX0_putDrain 27 = .ok (.iload 5, 2) := by decide +kernel
theorem dX0_putDrain_29 : decode cX0_putDrain 29 = .ok (.iload_n 2, 1) := by decide +kernel
theorem dX0_putDrain_30 : decode cX0_putDrain 30 = .ok (.iastore, 1) := by decide +kernel
theorem dX0_putDrain_31 : decode cX0_putDrain 31 = .ok (.aload_n 0, 1) := by decide +kernel
theorem dX0_putDrain_32 : decode cX0_putDrain 32 = .ok (.getfield 34, 3) := by decide +kernel
theorem dX0_putDrain_35 : decode cX0_putDrain 35 = .ok (.iload 5, 2) := by decide +kernel
theorem dX0_putDrain_37 : decode cX0_putDrain 37 = .ok (.iload_n 3, 1) := by decide +kernel
theorem dX0_putDrain_38 : decode cX0_putDrain 38 = .ok (.iastore, 1) := by decide +kernel
theorem dX0_putDrain_39 : decode cX0_putDrain 39 = .ok (.aload_n 0, 1) := by decide +kernel
theorem dX0_putDrain_40 : decode cX0_putDrain 40 = .ok (.getfield 40, 3) := by decide +kernel
theorem dX0_putDrain_43 : decode cX0_putDrain 43 = .ok (.iload 5, 2) := by decide +kernel
theorem dX0_putDrain_45 : decode cX0_putDrain 45 = .ok (.iload 4, 2) := by decide +kernel
theorem dX0_putDrain_47 : decode cX0_putDrain 47 = .ok (.bastore, 1) := by decide +kernel
theorem dX0_putDrain_48 : decode cX0_putDrain 48 = .ok (.aload_n 0, 1) := by decide +kernel
theorem dX0_putDrain_49 : decode cX0_putDrain 49 = .ok (.getfield 43, 3) := by decide +kernel
theorem dX0_putDrain_52 : decode cX0_putDrain 52 = .ok (.iload 5, 2) := by decide +kernel
theorem dX0_putDrain_54 : decode cX0_putDrain 54 = .ok (.iconst 1, 1) := by decide +kernel
theorem dX0_putDrain_55 : decode cX0_putDrain 55 = .ok (.bastore, 1) := by decide +kernel
theorem dX0_putDrain_56 : decode cX0_putDrain 56 = .ok (.aload_n 0, 1) := by decide +kernel
theorem dX0_putDrain_57 : decode cX0_putDrain 57 = .ok (.iload 5, 2) := by decide +kernel
theorem dX0_putDrain_59 : decode cX0_putDrain 59 = .ok (.iconst 1, 1) := by decide +kernel
theorem dX0_putDrain_60 : decode cX0_putDrain 60 = .ok (.iadd, 1) := by decide +kernel
theorem dX0_putDrain_61 : decode cX0_putDrain 61 = .ok (.putfield 50, 3) := by decide +kernel
theorem dX0_putDrain_64 : decode cX0_putDrain 64 = .ok (.iload 5, 2) := by decide +kernel
theorem dX0_putDrain_66 : decode cX0_putDrain 66 = .ok (.ireturn, 1) := by decide +kernel
theorem dX0_turnDrain_0 : decode cX0_turnDrain 0 = .ok (.aload_n 0, 1) := by decide +kernel
theorem dX0_turnDrain_1 : decode cX0_turnDrain 1 = .ok (.iload_n 1, 1) := by decide +kernel
theorem dX0_turnDrain_2 : decode cX0_turnDrain 2 = .ok (.invokevirtual 53, 3) := by decide +kernel
theorem dX0_turnDrain_5 : decode cX0_turnDrain 5 = .ok (.ifCond .eq 23, 3) := by decide +kernel
theorem dX0_turnDrain_8 : decode cX0_turnDrain 8 = .ok (.aload_n 0, 1) := by decide +kernel
theorem dX0_turnDrain_9 : decode cX0_turnDrain 9 = .ok (.getfield 43, 3) := by decide +kernel
theorem dX0_turnDrain_12 : decode cX0_turnDrain 12 = .ok (.iload_n 1, 1) := by decide +kernel
theorem dX0_turnDrain_13 : decode cX0_turnDrain 13 = .ok (.aload_n 0, 1) := by decide +kernel
theorem dX0_turnDrain_14 : decode cX0_turnDrain 14 = .ok (.getfield 43, 3) := by decide +kernel
theorem dX0_turnDrain_17 : decode cX0_turnDrain 17 = .ok (.iload_n 1, 1) := by decide +kernel
theorem dX0_turnDrain_18 : decode cX0_turnDrain 18 = .ok (.baload, 1) := by decide +kernel
theorem dX0_turnDrain_19 : decode cX0_turnDrain 19 = .ok (.ifCond .ne 7, 3) := by decide +kernel
theorem dX0_turnDrain_22 : decode cX0_turnDrain 22 = .ok (.iconst 1, 1) := by decide +kernel
theorem dX0_turnDrain_23 : decode cX0_turnDrain 23 = .ok (.goto 4, 3) := by decide +kernel
theorem dX0_turnDrain_26 : decode cX0_turnDrain 26 = .ok (.iconst 0, 1) := by decide +kernel
theorem dX0_turnDrain_27 : decode cX0_turnDrain 27 = .ok (.bastore, 1) := by decide +kernel
theorem dX0_turnDrain_28 : decode cX0_turnDrain 28 = .ok (.return_, 1) := by decide +kernel
theorem dX0_letWaterIn_0 : decode cX0_letWaterIn 0 = .ok (.aload_n 0, 1) := by decide +kernel
theorem dX0_letWaterIn_1 : decode cX0_letWaterIn 1 = .ok (.iload_n 1, 1) := by decide +kernel
theorem dX0_letWaterIn_2 : decode cX0_letWaterIn 2 = .ok (.invokevirtual 57, 3) := by decide +kernel
theorem dX0_letWaterIn_5 : decode cX0_letWaterIn 5 = .ok (.ifCond .eq 13, 3) := by decide +kernel
theorem dX0_letWaterIn_8 : decode cX0_letWaterIn 8 = .ok (.aload_n 0, 1) := by decide +kernel
theorem dX0_letWaterIn_9 : decode cX0_letWaterIn 9 = .ok (.getfield 18, 3) := by decide +kernel
theorem dX0_letWaterIn_12 : decode cX0_letWaterIn 12 = .ok (.iload_n 1, 1) := by decide +kernel
theorem dX0_letWaterIn_13 : decode cX0_letWaterIn 13 = .ok (.dup2, 1) := by decide +kernel
theorem dX0_letWaterIn_14 : decode cX0_letWaterIn 14 = .ok (.iaload, 1) := by decide +kernel
theorem dX0_letWaterIn_15 : decode cX0_letWaterIn 15 = .ok (.iload_n 2, 1) := by decide +kernel
theorem dX0_letWaterIn_16 : decode cX0_letWaterIn 16 = .ok (.iadd, 1) := by decide +kernel
theorem dX0_letWaterIn_17 : decode cX0_letWaterIn 17 = .ok (.iastore, 1) := by decide +kernel
theorem dX0_letWaterIn_18 : decode cX0_letWaterIn 18 = .ok (.return_, 1) := by decide +kernel
theorem dX0_levelAt_0 : decode cX0_levelAt 0 = .ok (.aload_n 0, 1) := by decide +kernel
theorem dX0_levelAt_1 : decode cX0_levelAt 1 = .ok (.iload_n 1, 1) := by decide +kernel
theorem dX0_levelAt_2 : decode cX0_levelAt 2 = .ok (.invokevirtual 57, 3) := by decide +kernel
theorem dX0_levelAt_5 : decode cX0_levelAt 5 = .ok (.ifCond .eq 19, 3) := by decide +kernel
theorem dX0_levelAt_8 : decode cX0_levelAt 8 = .ok (.aload_n 0, 1) := by decide +kernel
theorem dX0_levelAt_9 : decode cX0_levelAt 9 = .ok (.getfield 9, 3) := by decide +kernel
theorem dX0_levelAt_12 : decode cX0_levelAt 12 = .ok (.iload_n 1, 1) := by decide +kernel
theorem dX0_levelAt_13 : decode cX0_levelAt 13 = .ok (.iaload, 1) := by decide +kernel
theorem dX0_levelAt_14 : decode cX0_levelAt 14 = .ok (.aload_n 0, 1) := by decide +kernel
theorem dX0_levelAt_15 : decode cX0_levelAt 15 = .ok (.getfield 18, 3) := by decide +kernel
theorem dX0_levelAt_18 : decode cX0_levelAt 18 = .ok (.iload_n 1, 1) := by decide +kernel
theorem dX0_levelAt_19 : decode cX0_levelAt 19 = .ok (.iaload, 1) := by decide +kernel
theorem dX0_levelAt_20 : decode cX0_levelAt 20 = .ok (.iadd, 1) := by decide +kernel
theorem dX0_levelAt_21 : decode cX0_levelAt 21 = .ok (.goto 4, 3) := by decide +kernel
theorem dX0_levelAt_24 : decode cX0_levelAt 24 = .ok (.iconst 0, 1) := by decide +kernel
theorem dX0_levelAt_25 : decode cX0_levelAt 25 = .ok (.ireturn, 1) := by decide +kernel
theorem dX0_isWet_0 : decode cX0_isWet 0 = .ok (.aload_n 0, 1) := by decide +kernel
theorem dX0_isWet_1 : decode cX0_isWet 1 = .ok (.iload_n 1, 1) := by decide +kernel
theorem dX0_isWet_2 : decode cX0_isWet 2 = .ok (.invokevirtual 57, 3) := by decide +kernel
theorem dX0_isWet_5 : decode cX0_isWet 5 = .ok (.ifCond .eq 17, 3) := by decide +kernel
theorem dX0_isWet_8 : decode cX0_isWet 8 = .ok (.aload_n 0, 1) := by decide +kernel
theorem dX0_isWet_9 : decode cX0_isWet 9 = .ok (.getfield 18, 3) := by decide +kernel
theorem dX0_isWet_12 : decode cX0_isWet 12 = .ok (.iload_n 1, 1) := by decide +kernel
theorem dX0_isWet_13 : decode cX0_isWet 13 = .ok (.iaload, 1) := by decide +kernel
theorem dX0_isWet_14 : decode cX0_isWet 14 = .ok (.iconst 4, 1) := by decide +kernel
theorem dX0_isWet_15 : decode cX0_isWet 15 = .ok (.if_icmp .lt 7, 3) := by decide +kernel
theorem dX0_isWet_18 : decode cX0_isWet 18 = .ok (.iconst 1, 1) := by decide +kernel
theorem dX0_isWet_19 : decode cX0_isWet 19 = .ok (.goto 4, 3) := by decide +kernel
theorem dX0_isWet_22 : decode cX0_isWet 22 = .ok (.iconst 0, 1) := by decide +kernel
theorem dX0_isWet_23 : decode cX0_isWet 23 = .ok (.ireturn, 1) := by decide +kernel
theorem dX0_countRuined_0 : decode cX0_countRuined 0 = .ok (.iconst 0, 1) := by decide +kernel
theorem dX0_countRuined_1 : decode cX0_countRuined 1 = .ok (.istore_n 1, 1) := by decide +kernel
theorem dX0_countRuined_2 : decode cX0_countRuined 2 = .ok (.iconst 0, 1) := by decide +kernel
theorem dX0_countRuined_3 : decode cX0_countRuined 3 = .ok (.istore_n 2, 1) := by decide +kernel
theorem dX0_countRuined_4 : decode cX0_countRuined 4 = .ok (.iload_n 2, 1) := by decide +kernel
theorem dX0_countRuined_5 : decode cX0_countRuined 5 = .ok (.aload_n 0, 1) := by decide +kernel
theorem dX0_countRuined_6 : decode cX0_countRuined 6 = .ok (.getfield 46, 3) := by decide +kernel
theorem dX0_countRuined_9 : decode cX0_countRuined 9 = .ok (.if_icmp .ge 21, 3) := by decide +kernel
theorem dX0_countRuined_12 : decode cX0_countRuined 12 = .ok (.aload_n 0, 1) := by decide +kernel
theorem dX0_countRuined_13 : decode cX0_countRuined 13 = .ok (.getfield 24, 3) := by decide +kernel
theorem dX0_countRuined_16 : decode cX0_countRuined 16 = .ok (.iload_n 2, 1) := by decide +kernel
theorem dX0_countRuined_17 : decode cX0_countRuined 17 = .ok (.baload, 1) := by decide +kernel
theorem dX0_countRuined_18 : decode cX0_countRuined 18 = .ok (.ifCond .eq 6, 3) := by decide +kernel
theorem dX0_countRuined_21 : decode cX0_countRuined 21 = .ok (.iinc 1 1, 3) := by decide +kernel
theorem dX0_countRuined_24 : decode cX0_countRuined 24 = .ok (.iinc 2 1, 3) := by decide +kernel
theorem dX0_countRuined_27 : decode cX0_countRuined 27 = .ok (.goto (-23), 3) := by decide +kernel
theorem dX0_countRuined_30 : decode cX0_countRuined 30 = .ok (.iload_n 1, 1) := by decide +kernel
theorem dX0_countRuined_31 : decode cX0_countRuined 31 = .ok (.ireturn, 1) := by decide +kernel
theorem dX0_lostWorth_0 : decode cX0_lostWorth 0 = .ok (.iconst 0, 1) := by decide +kernel
theorem dX0_lostWorth_1 : decode cX0_lostWorth 1 = .ok (.istore_n 1, 1) := by decide +kernel
theorem dX0_lostWorth_2 : decode cX0_lostWorth 2 = .ok (.iconst 0, 1) := by decide +kernel
theorem dX0_lostWorth_3 : decode cX0_lostWorth 3 = .ok (.istore_n 2, 1) := by decide +kernel
theorem dX0_lostWorth_4 : decode cX0_lostWorth 4 = .ok (.iload_n 2, 1) := by decide +kernel
theorem dX0_lostWorth_5 : decode cX0_lostWorth 5 = .ok (.aload_n 0, 1) := by decide +kernel
theorem dX0_lostWorth_6 : decode cX0_lostWorth 6 = .ok (.getfield 46, 3) := by decide +kernel
theorem dX0_lostWorth_9 : decode cX0_lostWorth 9 = .ok (.if_icmp .ge 27, 3) := by decide +kernel
theorem dX0_lostWorth_12 : decode cX0_lostWorth 12 = .ok (.aload_n 0, 1) := by decide +kernel
theorem dX0_lostWorth_13 : decode cX0_lostWorth 13 = .ok (.getfield 24, 3) := by decide +kernel
theorem dX0_lostWorth_16 : decode cX0_lostWorth 16 = .ok (.iload_n 2, 1) := by decide +kernel
theorem dX0_lostWorth_17 : decode cX0_lostWorth 17 = .ok (.baload, 1) := by decide +kernel
theorem dX0_lostWorth_18 : decode cX0_lostWorth 18 = .ok (.ifCond .eq 12, 3) := by decide +kernel
theorem dX0_lostWorth_21 : decode cX0_lostWorth 21 = .ok (.iload_n 1, 1) := by decide +kernel
theorem dX0_lostWorth_22 : decode cX0_lostWorth 22 = .ok (.aload_n 0, 1) := by decide +kernel
theorem dX0_lostWorth_23 : decode cX0_lostWorth 23 = .ok (.getfield 15, 3) := by decide +kernel
theorem dX0_lostWorth_26 : decode cX0_lostWorth 26 = .ok (.iload_n 2, 1) := by decide +kernel
theorem dX0_lostWorth_27 : decode cX0_lostWorth 27 = .ok (.iaload, 1) := by decide +kernel
theorem dX0_lostWorth_28 : decode cX0_lostWorth 28 = .ok (.iadd, 1) := by decide +kernel
theorem dX0_lostWorth_29 : decode cX0_lostWorth 29 = .ok (.istore_n 1, 1) := by decide +kernel
theorem dX0_lostWorth_30 : decode cX0_lostWorth 30 = .ok (.iinc 2 1, 3) := by decide +kernel
theorem dX0_lostWorth_33 : decode cX0_lostWorth 33 = .ok (.goto (-29), 3) := by decide +kernel
theorem dX0_lostWorth_36 : decode cX0_lostWorth 36 = .ok (.iload_n 1, 1) := by decide +kernel
theorem dX0_lostWorth_37 : decode cX0_lostWorth 37 = .ok (.ireturn, 1) := by decide +kernel
theorem dX0_passHours_0 : decode cX0_passHours 0 = .ok (.iconst 0, 1) := by decide +kernel
theorem dX0_passHours_1 : decode cX0_passHours 1 = .ok (.istore_n 2, 1) := by decide +kernel
theorem dX0_passHours_2 : decode cX0_passHours 2 = .ok (.iload_n 2, 1) := by decide +kernel
theorem dX0_passHours_3 : decode cX0_passHours 3 = .ok (.iload_n 1, 1) := by decide +kernel
theorem dX0_passHours_4 : decode cX0_passHours 4 = .ok (.if_icmp .ge 13, 3) := by decide +kernel
theorem dX0_passHours_7 : decode cX0_passHours 7 = .ok (.aload_n 0, 1) := by decide +kernel
theorem dX0_passHours_8 : decode cX0_passHours 8 = .ok (.invokevirtual 60, 3) := by decide +kernel
theorem dX0_passHours_11 : decode cX0_passHours 11 = .ok (.iinc 2 1, 3) := by decide +kernel
theorem dX0_passHours_14 : decode cX0_passHours 14 = .ok (.goto (-12), 3) := by decide +kernel
theorem dX0_passHours_17 : decode cX0_passHours 17 = .ok (.return_, 1) := by decide +kernel
theorem dX0_passHour_0 : decode cX0_passHour 0 = .ok (.iconst 0, 1) := by decide +kernel
theorem dX0_passHour_1 : decode cX0_passHour 1 = .ok (.istore_n 1, 1) := by decide +kernel
theorem dX0_passHour_2 : decode cX0_passHour 2 = .ok (.iload_n 1, 1) := by decide +kernel
theorem dX0_passHour_3 : decode cX0_passHour 3 = .ok (.aload_n 0, 1) := by decide +kernel
theorem dX0_passHour_4 : decode cX0_passHour 4 = .ok (.getfield 46, 3) := by decide +kernel
theorem dX0_passHour_7 : decode cX0_passHour 7 = .ok (.if_icmp .ge 22, 3) := by decide +kernel
theorem dX0_passHour_10 : decode cX0_passHour 10 = .ok (.aload_n 0, 1) := by decide +kernel
theorem dX0_passHour_11 : decode cX0_passHour 11 = .ok (.getfield 18, 3) := by decide +kernel
theorem dX0_passHour_14 : decode cX0_passHour 14 = .ok (.iload_n 1, 1) := by decide +kernel
theorem dX0_passHour_15 : decode cX0_passHour 15 = .ok (.dup2, 1) := by decide +kernel
theorem dX0_passHour_16 : decode cX0_passHour 16 = .ok (.iaload, 1) := by decide +kernel
theorem dX0_passHour_17 : decode cX0_passHour 17 = .ok (.aload_n 0, 1) := by decide +kernel
theorem dX0_passHour_18 : decode cX0_passHour 18 = .ok (.getfield 63, 3) := by decide +kernel
theorem dX0_passHour_21 : decode cX0_passHour 21 = .ok (.iadd, 1) := by decide +kernel
theorem dX0_passHour_22 : decode cX0_passHour 22 = .ok (.iastore, 1) := by decide +kernel
theorem dX0_passHour_23 : decode cX0_passHour 23 = .ok (.iinc 1 1, 3) := by decide +kernel
theorem dX0_passHour_26 : decode cX0_passHour 26 = .ok (.goto (-24), 3) := by decide +kernel
theorem dX0_passHour_29 : decode cX0_passHour 29 = .ok (.iconst 0, 1) := by decide +kernel
theorem dX0_passHour_30 : decode cX0_passHour 30 = .ok (.istore_n 1, 1) := by decide +kernel
theorem dX0_passHour_31 : decode cX0_passHour 31 = .ok (.iload_n 1, 1) := by decide +kernel
theorem dX0_passHour_32 : decode cX0_passHour 32 = .ok (.aload_n 0, 1) := by decide +kernel
theorem dX0_passHour_33 : decode cX0_passHour 33 = .ok (.getfield 50, 3) := by decide +kernel
theorem dX0_passHour_36 : decode cX0_passHour 36 = .ok (.if_icmp .ge 19, 3) := by decide +kernel
theorem dX0_passHour_39 : decode cX0_passHour 39 = .ok (.aload_n 0, 1) := by decide +kernel
theorem dX0_passHour_40 : decode cX0_passHour 40 = .ok (.iload_n 1, 1) := by decide +kernel
theorem dX0_passHour_41 : decode cX0_passHour 41 = .ok (.aload_n 0, 1) := by decide +kernel
theorem dX0_passHour_42 : decode cX0_passHour 42 = .ok (.iload_n 1, 1) := by decide +kernel
theorem dX0_passHour_43 : decode cX0_passHour 43 = .ok (.invokevirtual 66, 3) := by decide +kernel
theorem dX0_passHour_46 : decode cX0_passHour 46 = .ok (.invokevirtual 70, 3) := by decide +kernel
theorem dX0_passHour_49 : decode cX0_passHour 49 = .ok (.iinc 1 1, 3) := by decide +kernel
theorem dX0_passHour_52 : decode cX0_passHour 52 = .ok (.goto (-21), 3) := by decide +kernel
theorem dX0_passHour_55 : decode cX0_passHour 55 = .ok (.aload_n 0, 1) := by decide +kernel
theorem dX0_passHour_56 : decode cX0_passHour 56 = .ok (.invokevirtual 74, 3) := by decide +kernel
theorem dX0_passHour_59 : decode cX0_passHour 59 = .ok (.aload_n 0, 1) := by decide +kernel
theorem dX0_passHour_60 : decode cX0_passHour 60 = .ok (.dup, 1) := by decide +kernel
theorem dX0_passHour_61 : decode cX0_passHour 61 = .ok (.getfield 77, 3) := by decide +kernel
theorem dX0_passHour_64 : decode cX0_passHour 64 = .ok (.iconst 1, 1) := by decide +kernel
theorem dX0_passHour_65 : decode cX0_passHour 65 = .ok (.iadd, 1) := by decide +kernel
theorem dX0_passHour_66 : decode cX0_passHour 66 = .ok (.putfield 77, 3) := by decide +kernel
theorem dX0_passHour_69 : decode cX0_passHour 69 = .ok (.return_, 1) := by decide +kernel
theorem dX0_letFlow_0 : decode cX0_letFlow 0 = .ok (.aload_n 0, 1) := by decide +kernel
theorem dX0_letFlow_1 : decode cX0_letFlow 1 = .ok (.iload_n 1, 1) := by decide +kernel
theorem dX0_letFlow_2 : decode cX0_letFlow 2 = .ok (.invokevirtual 53, 3) := by decide +kernel
theorem dX0_letFlow_5 : decode cX0_letFlow 5 = .ok (.ifCond .ne 4, 3) := by decide +kernel
theorem dX0_letFlow_8 : decode cX0_letFlow 8 = .ok (.return_, 1) := by decide +kernel
theorem dX0_letFlow_9 : decode cX0_letFlow 9 = .ok (.aload_n 0, 1) := by decide +kernel
theorem dX0_letFlow_10 : decode cX0_letFlow 10 = .ok (.aload_n 0, 1) := by decide +kernel
theorem dX0_letFlow_11 : decode cX0_letFlow 11 = .ok (.getfield 28, 3) := by decide +kernel
theorem dX0_letFlow_14 : decode cX0_letFlow 14 = .ok (.iload_n 1, 1) := by decide +kernel
theorem dX0_letFlow_15 : decode cX0_letFlow 15 = .ok (.iaload, 1) := by decide +kernel
theorem dX0_letFlow_16 : decode cX0_letFlow 16 = .ok (.iload_n 2, 1) := by decide +kernel
theorem dX0_letFlow_17 : decode cX0_letFlow 17 = .ok (.ineg, 1) := by decide +kernel
theorem dX0_letFlow_18 : decode cX0_letFlow 18 = .ok (.invokevirtual 80, 3) := by decide +kernel
theorem dX0_letFlow_21 : decode cX0_letFlow 21 = .ok (.aload_n 0, 1) := by decide +kernel
theorem dX0_letFlow_22 : decode cX0_letFlow 22 = .ok (.getfield 31, 3) := by decide +kernel
theorem dX0_letFlow_25 : decode cX0_letFlow 25 = .ok (.iload_n 1, 1) := by decide +kernel
theorem dX0_letFlow_26 : decode cX0_letFlow 26 = .ok (.iaload, 1) := by decide +kernel
theorem dX0_letFlow_27 : decode cX0_letFlow 27 = .ok (.iconst (-1), 1) := by decide +kernel
theorem dX0_letFlow_28 : decode cX0_letFlow 28 = .ok (.if_icmp .ne 16, 3) := by decide +kernel
theorem dX0_letFlow_31 : decode cX0_letFlow 31 = .ok (.aload_n 0, 1) := by decide +kernel
theorem dX0_letFlow_32 : decode cX0_letFlow 32 = .ok (.dup, 1) := by decide +kernel
theorem dX0_letFlow_33 : decode cX0_letFlow 33 = .ok (.getfield 83, 3) := by decide +kernel
theorem dX0_letFlow_36 : decode cX0_letFlow 36 = .ok (.iload_n 2, 1) := by decide +kernel
theorem dX0_letFlow_37 : decode cX0_letFlow 37 = .ok (.iadd, 1) := by decide +kernel
theorem dX0_letFlow_38 : decode cX0_letFlow 38 = .ok (.putfield 83, 3) := by decide +kernel
theorem dX0_letFlow_41 : decode cX0_letFlow 41 = .ok (.goto 14, 3) := by decide +kernel
theorem dX0_letFlow_44 : decode cX0_letFlow 44 = .ok (.aload_n 0, 1) := by decide +kernel
theorem dX0_letFlow_45 : decode cX0_letFlow 45 = .ok (.aload_n 0, 1) := by decide +kernel
theorem dX0_letFlow_46 : decode cX0_letFlow 46 = .ok (.getfield 31, 3) := by decide +kernel
theorem dX0_letFlow_49 : decode cX0_letFlow 49 = .ok (.iload_n 1, 1) := by decide +kernel
theorem dX0_letFlow_50 : decode cX0_letFlow 50 = .ok (.iaload, 1) := by decide +kernel
theorem dX0_letFlow_51 : decode cX0_letFlow 51 = .ok (.iload_n 2, 1) := by decide +kernel
theorem dX0_letFlow_52 : decode cX0_letFlow 52 = .ok (.invokevirtual 80, 3) := by decide +kernel
theorem dX0_letFlow_55 : decode cX0_letFlow 55 = .ok (.aload_n 0, 1) := by decide +kernel
theorem dX0_letFlow_56 : decode cX0_letFlow 56 = .ok (.getfield 37, 3) := by decide +kernel
theorem dX0_letFlow_59 : decode cX0_letFlow 59 = .ok (.iload_n 1, 1) := by decide +kernel
theorem dX0_letFlow_60 : decode cX0_letFlow 60 = .ok (.dup2, 1) := by decide +kernel
theorem dX0_letFlow_61 : decode cX0_letFlow 61 = .ok (.iaload, 1) := by decide +kernel
theorem dX0_letFlow_62 : decode cX0_letFlow 62 = .ok (.iload_n 2, 1) := by decide +kernel
theorem dX0_letFlow_63 : decode cX0_letFlow 63 = .ok (.invokestatic 86, 3) := by decide +kernel
theorem dX0_letFlow_66 : decode cX0_letFlow 66 = .ok (.iadd, 1) := by decide +kernel
theorem dX0_letFlow_67 : decode cX0_letFlow 67 = .ok (.iastore, 1) := by decide +kernel
theorem dX0_letFlow_68 : decode cX0_letFlow 68 = .ok (.return_, 1) := by decide +kernel
theorem dX0_flowNow_0 : decode cX0_flowNow 0 = .ok (.aload_n 0, 1) := by decide +kernel
theorem dX0_flowNow_1 : decode cX0_flowNow 1 = .ok (.iload_n 1, 1) := by decide +kernel
theorem dX0_flowNow_2 : decode cX0_flowNow 2 = .ok (.invokevirtual 53, 3) := by decide +kernel
theorem dX0_flowNow_5 : decode cX0_flowNow 5 = .ok (.ifCond .eq 25, 3) := by decide +kernel
theorem dX0_flowNow_8 : decode cX0_flowNow 8 = .ok (.aload_n 0, 1) := by decide +kernel
theorem dX0_flowNow_9 : decode cX0_flowNow 9 = .ok (.getfield 43, 3) := by decide +kernel
theorem dX0_flowNow_12 : decode cX0_flowNow 12 = .ok (.iload_n 1, 1) := by decide +kernel
theorem dX0_flowNow_13 : decode cX0_flowNow 13 = .ok (.baload, 1) := by decide +kernel
theorem dX0_flowNow_14 : decode cX0_flowNow 14 = .ok (.ifCond .eq 16, 3) := by decide +kernel
theorem dX0_flowNow_17 : decode cX0_flowNow 17 = .ok (.aload_n 0, 1) := by decide +kernel
theorem dX0_flowNow_18 : decode cX0_flowNow 18 = .ok (.aload_n 0, 1) := by decide +kernel
theorem dX0_flowNow_19 : decode cX0_flowNow 19 = .ok (.getfield 28, 3) := by decide +kernel
theorem dX0_flowNow_22 : decode cX0_flowNow 22 = .ok (.iload_n 1, 1) := by decide +kernel
theorem dX0_flowNow_23 : decode cX0_flowNow 23 = .ok (.iaload, 1) := by decide +kernel
theorem dX0_flowNow_24 : decode cX0_flowNow 24 = .ok (.invokevirtual 57, 3) := by decide +kernel
theorem dX0_flowNow_27 : decode cX0_flowNow 27 = .ok (.ifCond .ne 5, 3) := by decide +kernel
theorem dX0_flowNow_30 : decode cX0_flowNow 30 = .ok (.iconst 0, 1) := by decide +kernel
theorem dX0_flowNow_31 : decode cX0_flowNow 31 = .ok (.ireturn, 1) := by decide +kernel
theorem dX0_flowNow_32 : decode cX0_flowNow 32 = .ok (.aload_n 0, 1) := by decide +kernel
theorem dX0_flowNow_33 : decode cX0_flowNow 33 = .ok (.getfield 28, 3) := by decide +kernel
theorem dX0_flowNow_36 : decode cX0_flowNow 36 = .ok (.iload_n 1, 1) := by decide +kernel
theorem dX0_flowNow_37 : decode cX0_flowNow 37 = .ok (.iaload, 1) := by decide +kernel
theorem dX0_flowNow_38 : decode cX0_flowNow 38 = .ok (.istore_n 2, 1) := by decide +kernel
theorem dX0_flowNow_39 : decode cX0_flowNow 39 = .ok (.aload_n 0, 1) := by decide +kernel
theorem dX0_flowNow_40 : decode cX0_flowNow 40 = .ok (.getfield 31, 3) := by decide +kernel
theorem dX0_flowNow_43 : decode cX0_flowNow 43 = .ok (.iload_n 1, 1) := by decide +kernel
theorem dX0_flowNow_44 : decode cX0_flowNow 44 = .ok (.iaload, 1) := by decide +kernel
theorem dX0_flowNow_45 : decode cX0_flowNow 45 = .ok (.istore_n 3, 1) := by decide +kernel
theorem dX0_flowNow_46 : decode cX0_flowNow 46 = .ok (.aload_n 0, 1) := by decide +kernel
theorem dX0_flowNow_47 : decode cX0_flowNow 47 = .ok (.getfield 40, 3) := by decide +kernel
theorem dX0_flowNow_50 : decode cX0_flowNow 50 = .ok (.iload_n 1, 1) := by decide +kernel
theorem dX0_flowNow_51 : decode cX0_flowNow 51 = .ok (.baload, 1) := by decide +kernel
theorem dX0_flowNow_52 : decode cX0_flowNow 52 = .ok (.ifCond .eq 19, 3) := by decide +kernel
theorem dX0_flowNow_55 : decode cX0_flowNow 55 = .ok (.aload_n 0, 1) := by decide +kernel
theorem dX0_flowNow_56 : decode cX0_flowNow 56 = .ok (.getfield 34, 3) := by decide +kernel
theorem dX0_flowNow_59 : decode cX0_flowNow 59 = .ok (.iload_n 1, 1) := by decide +kernel
theorem dX0_flowNow_60 : decode cX0_flowNow 60 = .ok (.iaload, 1) := by decide +kernel
theorem dX0_flowNow_61 : decode cX0_flowNow 61 = .ok (.aload_n 0, 1) := by decide +kernel
theorem dX0_flowNow_62 : decode cX0_flowNow 62 = .ok (.getfield 18, 3) := by decide +kernel
theorem dX0_flowNow_65 : decode cX0_flowNow 65 = .ok (.iload_n 2, 1) := by decide +kernel
theorem dX0_flowNow_66 : decode cX0_flowNow 66 = .ok (.iaload, 1) := by decide +kernel
theorem dX0_flowNow_67 : decode cX0_flowNow 67 = .ok (.invokestatic 91, 3) := by decide +kernel
theorem dX0_flowNow_70 : decode cX0_flowNow 70 = .ok (.ireturn, 1) := by decide +kernel
theorem dX0_flowNow_71 : decode cX0_flowNow 71 = .ok (.aload_n 0, 1) := by decide +kernel
theorem dX0_flowNow_72 : decode cX0_flowNow 72 = .ok (.iload_n 3, 1) := by decide +kernel
theorem dX0_flowNow_73 : decode cX0_flowNow 73 = .ok (.invokevirtual 57, 3) := by decide +kernel
theorem dX0_flowNow_76 : decode cX0_flowNow 76 = .ok (.ifCond .ne 5, 3) := by decide +kernel
theorem dX0_flowNow_79 : decode cX0_flowNow 79 = .ok (.iconst 0, 1) := by decide +kernel
theorem dX0_flowNow_80 : decode cX0_flowNow 80 = .ok (.ireturn, 1) := by decide +kernel
theorem dX0_flowNow_81 : decode cX0_flowNow 81 = .ok (.aload_n 0, 1) := by decide +kernel
theorem dX0_flowNow_82 : decode cX0_flowNow 82 = .ok (.getfield 9, 3) := by decide +kernel
theorem dX0_flowNow_85 : decode cX0_flowNow 85 = .ok (.iload_n 2, 1) := by decide +kernel
theorem dX0_flowNow_86 : decode cX0_flowNow 86 = .ok (.iaload, 1) := by decide +kernel
theorem dX0_flowNow_87 : decode cX0_flowNow 87 = .ok (.aload_n 0, 1) := by decide +kernel
theorem dX0_flowNow_88 : decode cX0_flowNow 88 = .ok (.getfield 18, 3) := by decide +kernel
theorem dX0_flowNow_91 : decode cX0_flowNow 91 = .ok (.iload_n 2, 1) := by decide +kernel
theorem dX0_flowNow_92 : decode cX0_flowNow 92 = .ok (.iaload, 1) := by decide +kernel
theorem dX0_flowNow_93 : decode cX0_flowNow 93 = .ok (.iadd, 1) := by decide +kernel
theorem dX0_flowNow_94 : decode cX0_flowNow 94 = .ok (.aload_n 0, 1) := by decide +kernel
theorem dX0_flowNow_95 : decode cX0_flowNow 95 = .ok (.getfield 9, 3) := by decide +kernel
theorem dX0_flowNow_98 : decode cX0_flowNow 98 = .ok (.iload_n 3, 1) := by decide +kernel
theorem dX0_flowNow_99 : decode cX0_flowNow 99 = .ok (.iaload, 1) := by decide +kernel
theorem dX0_flowNow_100 : decode cX0_flowNow 100 = .ok (.isub, 1) := by decide +kernel
theorem dX0_flowNow_101 : decode cX0_flowNow 101 = .ok (.aload_n 0, 1) := by decide +kernel
theorem dX0_flowNow_102 : decode cX0_flowNow 102 = .ok (.getfield 18, 3) := by decide +kernel
theorem dX0_flowNow_105 : decode cX0_flowNow 105 = .ok (.iload_n 3, 1) := by decide +kernel
theorem dX0_flowNow_106 : decode cX0_flowNow 106 = .ok (.iaload, 1) := by decide +kernel
theorem dX0_flowNow_107 : decode cX0_flowNow 107 = .ok (.isub, 1) := by decide +kernel
theorem dX0_flowNow_108 : decode cX0_flowNow 108 = .ok (.iconst 2, 1) := by decide +kernel
theorem dX0_flowNow_109 : decode cX0_flowNow 109 = .ok (.idiv, 1) := by decide +kernel
theorem dX0_flowNow_110 : decode cX0_flowNow 110 = .ok (.istore 4, 2) := by decide +kernel
theorem dX0_flowNow_112 : decode cX0_flowNow 112 = .ok (.iload 4, 2) := by decide +kernel
theorem dX0_flowNow_114 : decode cX0_flowNow 114 = .ok (.ifCond .lt 24, 3) := by decide +kernel
theorem dX0_flowNow_117 : decode cX0_flowNow 117 = .ok (.iload 4, 2) := by decide +kernel
theorem dX0_flowNow_119 : decode cX0_flowNow 119 = .ok (.aload_n 0, 1) := by decide +kernel
theorem dX0_flowNow_120 : decode cX0_flowNow 120 = .ok (.getfield 34, 3) := by decide +kernel
theorem dX0_flowNow_123 : decode cX0_flowNow 123 = .ok (.iload_n 1, 1) := by decide +kernel
theorem dX0_flowNow_124 : decode cX0_flowNow 124 = .ok (.iaload, 1) := by decide +kernel
theorem dX0_flowNow_125 : decode cX0_flowNow 125 = .ok (.aload_n 0, 1) := by decide +kernel
theorem dX0_flowNow_126 : decode cX0_flowNow 126 = .ok (.getfield 18, 3) := by decide +kernel
theorem dX0_flowNow_129 : decode cX0_flowNow 129 = .ok (.iload_n 2, 1) := by decide +kernel
theorem dX0_flowNow_130 : decode cX0_flowNow 130 = .ok (.iaload, 1) := by decide +kernel
theorem dX0_flowNow_131 : decode cX0_flowNow 131 = .ok (.invokestatic 91, 3) := by decide +kernel
theorem dX0_flowNow_134 : decode cX0_flowNow 134 = .ok (.invokestatic 91, 3) := by decide +kernel
theorem dX0_flowNow_137 : decode cX0_flowNow 137 = .ok (.ireturn, 1) := by decide +kernel
theorem dX0_flowNow_138 : decode cX0_flowNow 138 = .ok (.iload 4, 2) := by decide +kernel
theorem dX0_flowNow_140 : decode cX0_flowNow 140 = .ok (.ineg, 1) := by decide +kernel
theorem dX0_flowNow_141 : decode cX0_flowNow 141 = .ok (.aload_n 0, 1) := by decide +kernel
theorem dX0_flowNow_142 : decode cX0_flowNow 142 = .ok (.getfield 34, 3) := by decide +kernel
theorem dX0_flowNow_145 : decode cX0_flowNow 145 = .ok (.iload_n 1, 1) := by decide +kernel
theorem dX0_flowNow_146 : decode cX0_flowNow 146 = .ok (.iaload, 1) := by decide +kernel
theorem dX0_flowNow_147 : decode cX0_flowNow 147 = .ok (.aload_n 0, 1) := by decide +kernel
theorem dX0_flowNow_148 : decode cX0_flowNow 148 = .ok (.getfield 18, 3) := by decide +kernel
theorem dX0_flowNow_151 : decode cX0_flowNow 151 = .ok (.iload_n 3, 1) := by decide +kernel
theorem dX0_flowNow_152 : decode cX0_flowNow 152 = .ok (.iaload, 1) := by decide +kernel
theorem dX0_flowNow_153 : decode cX0_flowNow 153 = .ok (.invokestatic 91, 3) := by decide +kernel
theorem dX0_flowNow_156 : decode cX0_flowNow 156 = .ok (.invokestatic 91, 3) := by decide +kernel
theorem dX0_flowNow_159 : decode cX0_flowNow 159 = .ok (.ineg, 1) := by decide +kernel
theorem dX0_flowNow_160 : decode cX0_flowNow 160 = .ok (.ireturn, 1) := by decide +kernel
theorem dX0_countWetHours_0 : decode cX0_countWetHours 0 = .ok (.iconst 0, 1) := by decide +kernel
theorem dX0_countWetHours_1 : decode cX0_countWetHours 1 = .ok (.istore_n 1, 1) := by decide +kernel
theorem dX0_countWetHours_2 : decode cX0_countWetHours 2 = .ok (.iload_n 1, 1) := by decide +kernel
theorem dX0_countWetHours_3 : decode cX0_countWetHours 3 = .ok (.aload_n 0, 1) := by decide +kernel
theorem dX0_countWetHours_4 : decode cX0_countWetHours 4 = .ok (.getfield 46, 3) := by decide +kernel
theorem dX0_countWetHours_7 : decode cX0_countWetHours 7 = .ok (.if_icmp .ge 53, 3) := by decide +kernel
theorem dX0_countWetHours_10 : decode cX0_countWetHours 10 = .ok (.aload_n 0, 1) := by decide +kernel
theorem dX0_countWetHours_11 : decode cX0_countWetHours 11 = .ok (.getfield 21, 3) := by decide +kernel
theorem dX0_countWetHours_14 : decode cX0_countWetHours 14 = .ok (.iload_n 1, 1) := by decide +kernel
theorem dX0_countWetHours_15 : decode cX0_countWetHours 15 = .ok (.aload_n 0, 1) := by decide +kernel
theorem dX0_countWetHours_16 : decode cX0_countWetHours 16 = .ok (.iload_n 1, 1) := by decide +kernel
theorem dX0_countWetHours_17 : decode cX0_countWetHours 17 = .ok (.invokevirtual 95, 3) := by decide +kernel
theorem dX0_countWetHours_20 : decode cX0_countWetHours 20 = .ok (.ifCond .eq 14, 3) := by decide +kernel
theorem dX0_countWetHours_23 : decode cX0_countWetHours 23 = .ok (.aload_n 0, 1) := by decide +kernel
theorem dX0_countWetHours_24 : decode cX0_countWetHours 24 = .ok (.getfield 21, 3) := by decide +kernel
theorem dX0_countWetHours_27 : decode cX0_countWetHours 27 = .ok (.iload_n 1, 1) := by decide +kernel
theorem dX0_countWetHours_28 : decode cX0_countWetHours 28 = .ok (.iaload, 1) := by decide +kernel
theorem dX0_countWetHours_29 : decode cX0_countWetHours 29 = .ok (.iconst 1, 1) := by decide +kernel
theorem dX0_countWetHours_30 : decode cX0_countWetHours 30 = .ok (.iadd, 1) := by decide +kernel
theorem dX0_countWetHours_31 : decode cX0_countWetHours 31 = .ok (.goto 4, 3) := by decide +kernel
theorem dX0_countWetHours_34 : decode cX0_countWetHours 34 = .ok (.iconst 0, 1) := by decide +kernel
theorem dX0_countWetHours_35 : decode cX0_countWetHours 35 = .ok (.iastore, 1) := by decide +kernel
theorem dX0_countWetHours_36 : decode cX0_countWetHours 36 = .ok (.aload_n 0, 1) := by decide +kernel
theorem dX0_countWetHours_37 : decode cX0_countWetHours 37 = .ok (.getfield 21, 3) := by decide +kernel
theorem dX0_countWetHours_40 : decode cX0_countWetHours 40 = .ok (.iload_n 1, 1) := by decide +kernel
theorem dX0_countWetHours_41 : decode cX0_countWetHours 41 = .ok (.iaload, 1) := by decide +kernel
theorem dX0_countWetHours_42 : decode cX0_countWetHours 42 = .ok (.bipush 6, 2) := by decide +kernel
theorem dX0_countWetHours_44 : decode cX0_countWetHours 44 = .ok (.if_icmp .lt 10, 3) := by decide +kernel
theorem dX0_countWetHours_47 : decode cX0_countWetHours 47 = .ok (.aload_n 0, 1) := by decide +kernel
theorem dX0_countWetHours_48 : decode cX0_countWetHours 48 = .ok (.getfield 24, 3) := by decide +kernel
theorem dX0_countWetHours_51 : decode cX0_countWetHours 51 = .ok (.iload_n 1, 1) := by decide +kernel
theorem dX0_countWetHours_52 : decode cX0_countWetHours 52 = .ok (.iconst 1, 1) := by decide +kernel
theorem dX0_countWetHours_53 : decode cX0_countWetHours 53 = .ok (.bastore, 1) := by decide +kernel
theorem dX0_countWetHours_54 : decode cX0_countWetHours 54 = .ok (.iinc 1 1, 3) := by decide +kernel
theorem dX0_countWetHours_57 : decode cX0_countWetHours 57 = .ok (.goto (-55), 3) := by decide +kernel
theorem dX0_countWetHours_60 : decode cX0_countWetHours 60 = .ok (.return_, 1) := by decide +kernel
theorem dX0_spreadByDrains_0 : decode cX0_spreadByDrains 0 = .ok (.iload_n 1, 1) := by decide +kernel
theorem dX0_spreadByDrains_1 : decode cX0_spreadByDrains 1 = .ok (.istore_n 2, 1) := by decide +kernel
theorem dX0_spreadByDrains_2 : decode cX0_spreadByDrains 2 = .ok (.iconst 0, 1) := by decide +kernel
theorem dX0_spreadByDrains_3 : decode cX0_spreadByDrains 3 = .ok (.istore_n 3, 1) := by decide +kernel
theorem dX0_spreadByDrains_4 : decode cX0_spreadByDrains 4 = .ok (.iload_n 3, 1) := by decide +kernel
theorem dX0_spreadByDrains_5 : decode cX0_spreadByDrains 5 = .ok (.aload_n 0, 1) := by decide +kernel
theorem dX0_spreadByDrains_6 : decode cX0_spreadByDrains 6 = .ok (.getfield 50, 3) := by decide +kernel
theorem dX0_spreadByDrains_9 : decode cX0_spreadByDrains 9 = .ok (.if_icmp .ge 94, 3) := by decide +kernel
theorem dX0_spreadByDrains_12 : decode cX0_spreadByDrains 12 = .ok (.iconst 1, 1) := by decide +kernel
theorem dX0_spreadByDrains_13 : decode cX0_spreadByDrains 13 = .ok (.aload_n 0, 1) := by decide +kernel
theorem dX0_spreadByDrains_14 : decode cX0_spreadByDrains 14 = .ok (.getfield 28, 3) := by decide +kernel
theorem dX0_spreadByDrains_17 : decode cX0_spreadByDrains 17 = .ok (.iload_n 3, 1) := by decide +kernel
theorem dX0_spreadByDrains_18 : decode cX0_spreadByDrains 18 = .ok (.iaload, 1) := by decide +kernel
theorem dX0_spreadByDrains_19 : decode cX0_spreadByDrains 19 = .ok (.ishl, 1) := by decide +kernel
theorem dX0_spreadByDrains_20 : decode cX0_spreadByDrains 20 = .ok (.istore 4, 2) := by decide +kernel
theorem dX0_spreadByDrains_22 : decode cX0_spreadByDrains 22 = .ok (.aload_n 0, 1) := by decide +kernel
theorem dX0_spreadByDrains_23 : decode cX0_spreadByDrains 23 = .ok (.getfield 31, 3) := by decide +kernel
theorem dX0_spreadByDrains_26 : decode cX0_spreadByDrains 26 = .ok (.iload_n 3, 1) := by decide +kernel
theorem dX0_spreadByDrains_27 : decode cX0_spreadByDrains 27 = .ok (.iaload, 1) := by decide +kernel
theorem dX0_spreadByDrains_28 : decode cX0_spreadByDrains 28 = .ok (.iconst (-1), 1) := by decide +kernel
theorem dX0_spreadByDrains_29 : decode cX0_spreadByDrains 29 = .ok (.if_icmp .ne 7, 3) := by decide +kernel
theorem dX0_spreadByDrains_32 : decode cX0_spreadByDrains 32 = .ok (.iconst 0, 1) := by decide +kernel
theorem dX0_spreadByDrains_33 : decode cX0_spreadByDrains 33 = .ok (.goto 11, 3) := by decide +kernel
theorem dX0_spreadByDrains_36 : decode cX0_spreadByDrains 36 = .ok (.iconst 1, 1) := by decide +kernel
theorem dX0_spreadByDrains_37 : decode cX0_spreadByDrains 37 = .ok (.aload_n 0, 1) := by decide +kernel
theorem dX0_spreadByDrains_38 : decode cX0_spreadByDrains 38 = .ok (.getfield 31, 3) := by decide +kernel
theorem dX0_spreadByDrains_41 : decode cX0_spreadByDrains 41 = .ok (.iload_n 3, 1) := by decide +kernel
theorem dX0_spreadByDrains_42 : decode cX0_spreadByDrains 42 = .ok (.iaload, 1) := by decide +kernel
theorem dX0_spreadByDrains_43 : decode cX0_spreadByDrains 43 = .ok (.ishl, 1) := by decide +kernel
theorem dX0_spreadByDrains_44 : decode cX0_spreadByDrains 44 = .ok (.istore 5, 2) := by decide +kernel
theorem dX0_spreadByDrains_46 : decode cX0_spreadByDrains 46 = .ok (.aload_n 0, 1) := by decide +kernel
theorem dX0_spreadByDrains_47 : decode cX0_spreadByDrains 47 = .ok (.getfield 43, 3) := by decide +kernel
theorem dX0_spreadByDrains_50 : decode cX0_spreadByDrains 50 = .ok (.iload_n 3, 1) := by decide +kernel
theorem dX0_spreadByDrains_51 : decode cX0_spreadByDrains 51 = .ok (.baload, 1) := by decide +kernel
theorem dX0_spreadByDrains_52 : decode cX0_spreadByDrains 52 = .ok (.ifCond .eq 15, 3) := by decide +kernel
theorem dX0_spreadByDrains_55 : decode cX0_spreadByDrains 55 = .ok (.iload_n 2, 1) := by decide +kernel
theorem dX0_spreadByDrains_56 : decode cX0_spreadByDrains 56 = .ok (.iload 4, 2) := by decide +kernel
theorem dX0_spreadByDrains_58 : decode cX0_spreadByDrains 58 = .ok (.iand, 1) := by decide +kernel
theorem dX0_spreadByDrains_59 : decode cX0_spreadByDrains 59 = .ok (.ifCond .eq 8, 3) := by decide +kernel
theorem dX0_spreadByDrains_62 : decode cX0_spreadByDrains 62 = .ok (.iload_n 2, 1) := by decide +kernel
theorem dX0_spreadByDrains_63 : decode cX0_spreadByDrains 63 = .ok (.iload 5, 2) := by decide +kernel
theorem dX0_spreadByDrains_65 : decode cX0_spreadByDrains 65 = .ok (.ior, 1) := by decide +kernel
theorem dX0_spreadByDrains_66 : decode cX0_spreadByDrains 66 = .ok (.istore_n 2, 1) := by decide +kernel
theorem dX0_spreadByDrains_67 : decode cX0_spreadByDrains 67 = .ok (.aload_n 0, 1) := by decide +kernel
theorem dX0_spreadByDrains_68 : decode cX0_spreadByDrains 68 = .ok (.getfield 43, 3) := by decide +kernel
theorem dX0_spreadByDrains_71 : decode cX0_spreadByDrains 71 = .ok (.iload_n 3, 1) := by decide +kernel
theorem dX0_spreadByDrains_72 : decode cX0_spreadByDrains 72 = .ok (.baload, 1) := by decide +kernel
theorem dX0_spreadByDrains_73 : decode cX0_spreadByDrains 73 = .ok (.ifCond .eq 24, 3) := by decide +kernel
theorem dX0_spreadByDrains_76 : decode cX0_spreadByDrains 76 = .ok (.aload_n 0, 1) := by decide +kernel
theorem dX0_spreadByDrains_77 : decode cX0_spreadByDrains 77 = .ok (.getfield 40, 3) := by decide +kernel
theorem dX0_spreadByDrains_80 : decode cX0_spreadByDrains 80 = .ok (.iload_n 3, 1) := by decide +kernel
theorem dX0_spreadByDrains_81 : decode cX0_spreadByDrains 81 = .ok (.baload, 1) := by decide +kernel
theorem dX0_spreadByDrains_82 : decode cX0_spreadByDrains 82 = .ok (.ifCond .ne 15, 3) := by decide +kernel
theorem dX0_spreadByDrains_85 : decode cX0_spreadByDrains 85 = .ok (.iload_n 2, 1) := by decide +kernel
theorem dX0_spreadByDrains_86 : decode cX0_spreadByDrains 86 = .ok (.iload 5, 2) := by decide +kernel
theorem dX0_spreadByDrains_88 : decode cX0_spreadByDrains 88 = .ok (.iand, 1) := by decide +kernel
theorem dX0_spreadByDrains_89 : decode cX0_spreadByDrains 89 = .ok (.ifCond .eq 8, 3) := by decide +kernel
theorem dX0_spreadByDrains_92 : decode cX0_spreadByDrains 92 = .ok (.iload_n 2, 1) := by decide +kernel
theorem dX0_spreadByDrains_93 : decode cX0_spreadByDrains 93 = .ok (.iload 4, 2) := by decide +kernel
theorem dX0_spreadByDrains_95 : decode cX0_spreadByDrains 95 = .ok (.ior, 1) := by decide +kernel
theorem dX0_spreadByDrains_96 : decode cX0_spreadByDrains 96 = .ok (.istore_n 2, 1) := by decide +kernel
theorem dX0_spreadByDrains_97 : decode cX0_spreadByDrains 97 = .ok (.iinc 3 1, 3) := by decide +kernel
theorem dX0_spreadByDrains_100 : decode cX0_spreadByDrains 100 = .ok (.goto (-96), 3) := by decide +kernel
theorem dX0_spreadByDrains_103 : decode cX0_spreadByDrains 103 = .ok (.iload_n 2, 1) := by decide +kernel
theorem dX0_spreadByDrains_104 : decode cX0_spreadByDrains 104 = .ok (.ireturn, 1) := by decide +kernel
theorem dX0_becomeLike_0 : decode cX0_becomeLike 0 = .ok (.aload_n 0, 1) := by decide +kernel
theorem dX0_becomeLike_1 : decode cX0_becomeLike 1 = .ok (.aload_n 1, 1) := by decide +kernel
theorem dX0_becomeLike_2 : decode cX0_becomeLike 2 = .ok (.getfield 46, 3) := by decide +kernel
theorem dX0_becomeLike_5 : decode cX0_becomeLike 5 = .ok (.putfield 46, 3) := by decide +kernel
theorem dX0_becomeLike_8 : decode cX0_becomeLike 8 = .ok (.aload_n 0, 1) := by decide +kernel
theorem dX0_becomeLike_9 : decode cX0_becomeLike 9 = .ok (.aload_n 1, 1) := by decide +kernel
theorem dX0_becomeLike_10 : decode cX0_becomeLike 10 = .ok (.getfield 50, 3) := by decide +kernel
theorem dX0_becomeLike_13 : decode cX0_becomeLike 13 = .ok (.putfield 50, 3) := by decide +kernel
theorem dX0_becomeLike_16 : decode cX0_becomeLike 16 = .ok (.aload_n 0, 1) := by decide +kernel
theorem dX0_becomeLike_17 : decode cX0_becomeLike 17 = .ok (.aload_n 1, 1) := by decide +kernel
theorem dX0_becomeLike_18 : decode cX0_becomeLike 18 = .ok (.getfield 63, 3) := by decide +kernel
theorem dX0_becomeLike_21 : decode cX0_becomeLike 21 = .ok (.putfield 63, 3) := by decide +kernel
theorem dX0_becomeLike_24 : decode cX0_becomeLike 24 = .ok (.aload_n 0, 1) := by decide +kernel
theorem dX0_becomeLike_25 : decode cX0_becomeLike 25 = .ok (.aload_n 1, 1) := by decide +kernel
theorem dX0_becomeLike_26 : decode cX0_becomeLike 26 = .ok (.getfield 83, 3) := by decide +kernel
theorem dX0_becomeLike_29 : decode cX0_becomeLike 29 = .ok (.putfield 83, 3) := by decide +kernel
theorem dX0_becomeLike_32 : decode cX0_becomeLike 32 = .ok (.aload_n 0, 1) := by decide +kernel
theorem dX0_becomeLike_33 : decode cX0_becomeLike 33 = .ok (.aload_n 1, 1) := by decide +kernel
theorem dX0_becomeLike_34 : decode cX0_becomeLike 34 = .ok (.getfield 77, 3) := by decide +kernel
theorem dX0_becomeLike_37 : decode cX0_becomeLike 37 = .ok (.putfield 77, 3) := by decide +kernel
theorem dX0_becomeLike_40 : decode cX0_becomeLike 40 = .ok (.iconst 0, 1) := by decide +kernel
theorem dX0_becomeLike_41 : decode cX0_becomeLike 41 = .ok (.istore_n 2, 1) := by decide +kernel
theorem dX0_becomeLike_42 : decode cX0_becomeLike 42 = .ok (.iload_n 2, 1) := by decide +kernel
theorem dX0_becomeLike_43 : decode cX0_becomeLike 43 = .ok (.bipush 10, 2) := by decide +kernel
theorem dX0_becomeLike_45 : decode cX0_becomeLike 45 = .ok (.if_icmp .ge 69, 3) := by decide +kernel
theorem dX0_becomeLike_48 : decode cX0_becomeLike 48 = .ok (.aload_n 0, 1) := by decide +kernel
theorem dX0_becomeLike_49 : decode cX0_becomeLike 49 = .ok (.getfield 9, 3) := by decide +kernel
theorem dX0_becomeLike_52 : decode cX0_becomeLike 52 = .ok (.iload_n 2, 1) := by decide +kernel
theorem dX0_becomeLike_53 : decode cX0_becomeLike 53 = .ok (.aload_n 1, 1) := by decide +kernel
theorem dX0_becomeLike_54 : decode cX0_becomeLike 54 = .ok (.getfield 9, 3) := by decide +kernel
theorem dX0_becomeLike_57 : decode cX0_becomeLike 57 = .ok (.iload_n 2, 1) := by decide +kernel
theorem dX0_becomeLike_58 : decode cX0_becomeLike 58 = .ok (.iaload, 1) := by decide +kernel
theorem dX0_becomeLike_59 : decode cX0_becomeLike 59 = .ok (.iastore, 1) := by decide +kernel
theorem dX0_becomeLike_60 : decode cX0_becomeLike 60 = .ok (.aload_n 0, 1) := by decide +kernel
theorem dX0_becomeLike_61 : decode cX0_becomeLike 61 = .ok (.getfield 15, 3) := by decide +kernel
theorem dX0_becomeLike_64 : decode cX0_becomeLike 64 = .ok (.iload_n 2, 1) := by decide +kernel
theorem dX0_becomeLike_65 : decode cX0_becomeLike 65 = .ok (.aload_n 1, 1) := by decide +kernel
theorem dX0_becomeLike_66 : decode cX0_becomeLike 66 = .ok (.getfield 15, 3) := by decide +kernel
theorem dX0_becomeLike_69 : decode cX0_becomeLike 69 = .ok (.iload_n 2, 1) := by decide +kernel
theorem dX0_becomeLike_70 : decode cX0_becomeLike 70 = .ok (.iaload, 1) := by decide +kernel
theorem dX0_becomeLike_71 : decode cX0_becomeLike 71 = .ok (.iastore, 1) := by decide +kernel
theorem dX0_becomeLike_72 : decode cX0_becomeLike 72 = .ok (.aload_n 0, 1) := by decide +kernel
theorem dX0_becomeLike_73 : decode cX0_becomeLike 73 = .ok (.getfield 18, 3) := by decide +kernel
theorem dX0_becomeLike_76 : decode cX0_becomeLike 76 = .ok (.iload_n 2, 1) := by decide +kernel
theorem dX0_becomeLike_77 : decode cX0_becomeLike 77 = .ok (.aload_n 1, 1) := by decide +kernel
theorem dX0_becomeLike_78 : decode cX0_becomeLike 78 = .ok (.getfield 18, 3) := by decide +kernel
theorem dX0_becomeLike_81 : decode cX0_becomeLike 81 = .ok (.iload_n 2, 1) := by decide +kernel
theorem dX0_becomeLike_82 : decode cX0_becomeLike 82 = .ok (.iaload, 1) := by decide +kernel
theorem dX0_becomeLike_83 : decode cX0_becomeLike 83 = .ok (.iastore, 1) := by decide +kernel
theorem dX0_becomeLike_84 : decode cX0_becomeLike 84 = .ok (.aload_n 0, 1) := by decide +kernel
theorem dX0_becomeLike_85 : decode cX0_becomeLike 85 = .ok (.getfield 21, 3) := by decide +kernel
theorem dX0_becomeLike_88 : decode cX0_becomeLike 88 = .ok (.iload_n 2, 1) := by decide +kernel
theorem dX0_becomeLike_89 : decode cX0_becomeLike 89 = .ok (.aload_n 1, 1) := by decide +kernel
theorem dX0_becomeLike_90 : decode cX0_becomeLike 90 = .ok (.getfield 21, 3) := by decide +kernel
theorem dX0_becomeLike_93 : decode cX0_becomeLike 93 = .ok (.iload_n 2, 1) := by decide +kernel
theorem dX0_becomeLike_94 : decode cX0_becomeLike 94 = .ok (.iaload, 1) := by decide +kernel
theorem dX0_becomeLike_95 : decode cX0_becomeLike 95 = .ok (.iastore, 1) := by decide +kernel
theorem dX0_becomeLike_96 : decode cX0_becomeLike 96 = .ok (.aload_n 0, 1) := by decide +kernel
theorem dX0_becomeLike_97 : decode cX0_becomeLike 97 = .ok (.getfield 24, 3) := by decide +kernel
theorem dX0_becomeLike_100 : decode cX0_becomeLike 100 = .ok (.iload_n 2, 1) := by decide +kernel
theorem dX0_becomeLike_101 : decode cX0_becomeLike 101 = .ok (.aload_n 1, 1) := by decide +kernel
theorem dX0_becomeLike_102 : decode cX0_becomeLike 102 = .ok (.getfield 24, 3) := by decide +kernel
theorem dX0_becomeLike_105 : decode cX0_becomeLike 105 = .ok (.iload_n 2, 1) := by decide +kernel
theorem dX0_becomeLike_106 : decode cX0_becomeLike 106 = .ok (.baload, 1) := by decide +kernel
theorem dX0_becomeLike_107 : decode cX0_becomeLike 107 = .ok (.bastore, 1) := by decide +kernel
theorem dX0_becomeLike_108 : decode cX0_becomeLike 108 = .ok (.iinc 2 1, 3) := by decide +kernel
theorem dX0_becomeLike_111 : decode cX0_becomeLike 111 = .ok (.goto (-69), 3) := by decide +kernel
theorem dX0_becomeLike_114 : decode cX0_becomeLike 114 = .ok (.iconst 0, 1) := by decide +kernel
theorem dX0_becomeLike_115 : decode cX0_becomeLike 115 = .ok (.istore_n 2, 1) := by decide +kernel
theorem dX0_becomeLike_116 : decode cX0_becomeLike 116 = .ok (.iload_n 2, 1) := by decide +kernel
theorem dX0_becomeLike_117 : decode cX0_becomeLike 117 = .ok (.bipush 16, 2) := by decide +kernel
theorem dX0_becomeLike_119 : decode cX0_becomeLike 119 = .ok (.if_icmp .ge 81, 3) := by decide +kernel
theorem dX0_becomeLike_122 : decode cX0_becomeLike 122 = .ok (.aload_n 0, 1) := by decide +kernel
theorem dX0_becomeLike_123 : decode cX0_becomeLike 123 = .ok (.getfield 28, 3) := by decide +kernel
theorem dX0_becomeLike_126 : decode cX0_becomeLike 126 = .ok (.iload_n 2, 1) := by decide +kernel
theorem dX0_becomeLike_127 : decode cX0_becomeLike 127 = .ok (.aload_n 1, 1) := by decide +kernel
theorem dX0_becomeLike_128 : decode cX0_becomeLike 128 = .ok (.getfield 28, 3) := by decide +kernel
theorem dX0_becomeLike_131 : decode cX0_becomeLike 131 = .ok (.iload_n 2, 1) := by decide +kernel
theorem dX0_becomeLike_132 : decode cX0_becomeLike 132 = .ok (.iaload, 1) := by decide +kernel
theorem dX0_becomeLike_133 : decode cX0_becomeLike 133 = .ok (.iastore, 1) := by decide +kernel
theorem dX0_becomeLike_134 : decode cX0_becomeLike 134 = .ok (.aload_n 0, 1) := by decide +kernel
theorem dX0_becomeLike_135 : decode cX0_becomeLike 135 = .ok (.getfield 31, 3) := by decide +kernel
theorem dX0_becomeLike_138 : decode cX0_becomeLike 138 = .ok (.iload_n 2, 1) := by decide +kernel
theorem dX0_becomeLike_139 : decode cX0_becomeLike 139 = .ok (.aload_n 1, 1) := by decide +kernel
theorem dX0_becomeLike_140 : decode cX0_becomeLike 140 = .ok (.getfield 31, 3) := by decide +kernel
theorem dX0_becomeLike_143 : decode cX0_becomeLike 143 = .ok (.iload_n 2, 1) := by decide +kernel
theorem dX0_becomeLike_144 : decode cX0_becomeLike 144 = .ok (.iaload, 1) := by decide +kernel
theorem dX0_becomeLike_145 : decode cX0_becomeLike 145 = .ok (.iastore, 1) := by decide +kernel
theorem dX0_becomeLike_146 : decode cX0_becomeLike 146 = .ok (.aload_n 0, 1) := by decide +kernel
theorem dX0_becomeLike_147 : decode cX0_becomeLike 147 = .ok (.getfield 34, 3) := by decide +kernel
theorem dX0_becomeLike_150 : decode cX0_becomeLike 150 = .ok (.iload_n 2, 1) := by decide +kernel
theorem dX0_becomeLike_151 : decode cX0_becomeLike 151 = .ok (.aload_n 1, 1) := by decide +kernel
theorem dX0_becomeLike_152 : decode cX0_becomeLike 152 = .ok (.getfield 34, 3) := by decide +kernel
theorem dX0_becomeLike_155 : decode cX0_becomeLike 155 = .ok (.iload_n 2, 1) := by decide +kernel
theorem dX0_becomeLike_156 : decode cX0_becomeLike 156 = .ok (.iaload, 1) := by decide +kernel
theorem dX0_becomeLike_157 : decode cX0_becomeLike 157 = .ok (.iastore, 1) := by decide +kernel
theorem dX0_becomeLike_158 : decode cX0_becomeLike 158 = .ok (.aload_n 0, 1) := by decide +kernel
theorem dX0_becomeLike_159 : decode cX0_becomeLike 159 = .ok (.getfield 37, 3) := by decide +kernel
theorem dX0_becomeLike_162 : decode cX0_becomeLike 162 = .ok (.iload_n 2, 1) := by decide +kernel
theorem dX0_becomeLike_163 : decode cX0_becomeLike 163 = .ok (.aload_n 1, 1) := by decide +kernel
theorem dX0_becomeLike_164 : decode cX0_becomeLike 164 = .ok (.getfield 37, 3) := by decide +kernel
theorem dX0_becomeLike_167 : decode cX0_becomeLike 167 = .ok (.iload_n 2, 1) := by decide +kernel
theorem dX0_becomeLike_168 : decode cX0_becomeLike 168 = .ok (.iaload, 1) := by decide +kernel
theorem dX0_becomeLike_169 : decode cX0_becomeLike 169 = .ok (.iastore, 1) := by decide +kernel
theorem dX0_becomeLike_170 : decode cX0_becomeLike 170 = .ok (.aload_n 0, 1) := by decide +kernel
theorem dX0_becomeLike_171 : decode cX0_becomeLike 171 = .ok (.getfield 40, 3) := by decide +kernel
theorem dX0_becomeLike_174 : decode cX0_becomeLike 174 = .ok (.iload_n 2, 1) := by decide +kernel
theorem dX0_becomeLike_175 : decode cX0_becomeLike 175 = .ok (.aload_n 1, 1) := by decide +kernel
theorem dX0_becomeLike_176 : decode cX0_becomeLike 176 = .ok (.getfield 40, 3) := by decide +kernel
theorem dX0_becomeLike_179 : decode cX0_becomeLike 179 = .ok (.iload_n 2, 1) := by decide +kernel
theorem dX0_becomeLike_180 : decode cX0_becomeLike 180 = .ok (.baload, 1) := by decide +kernel
theorem dX0_becomeLike_181 : decode cX0_becomeLike 181 = .ok (.bastore, 1) := by decide +kernel
theorem dX0_becomeLike_182 : decode cX0_becomeLike 182 = .ok (.aload_n 0, 1) := by decide +kernel
theorem dX0_becomeLike_183 : decode cX0_becomeLike 183 = .ok (.getfield 43, 3) := by decide +kernel
theorem dX0_becomeLike_186 : decode cX0_becomeLike 186 = .ok (.iload_n 2, 1) := by decide +kernel
theorem dX0_becomeLike_187 : decode cX0_becomeLike 187 = .ok (.aload_n 1, 1) := by decide +kernel
theorem dX0_becomeLike_188 : decode cX0_becomeLike 188 = .ok (.getfield 43, 3) := by decide +kernel
theorem dX0_becomeLike_191 : decode cX0_becomeLike 191 = .ok (.iload_n 2, 1) := by decide +kernel
theorem dX0_becomeLike_192 : decode cX0_becomeLike 192 = .ok (.baload, 1) := by decide +kernel
theorem dX0_becomeLike_193 : decode cX0_becomeLike 193 = .ok (.bastore, 1) := by decide +kernel
theorem dX0_becomeLike_194 : decode cX0_becomeLike 194 = .ok (.iinc 2 1, 3) := by decide +kernel
theorem dX0_becomeLike_197 : decode cX0_becomeLike 197 = .ok (.goto (-81), 3) := by decide +kernel
theorem dX0_becomeLike_200 : decode cX0_becomeLike 200 = .ok (.return_, 1) := by decide +kernel
theorem dX1_init_0 : decode cX1_init 0 = .ok (.aload_n 0, 1) := by decide +kernel
theorem dX1_init_1 : decode cX1_init 1 = .ok (.invokespecial 1, 3) := by decide +kernel
theorem dX1_init_4 : decode cX1_init 4 = .ok (.aload_n 0, 1) := by decide +kernel
theorem dX1_init_5 : decode cX1_init 5 = .ok (.new 7, 3) := by decide +kernel
theorem dX1_init_8 : decode cX1_init 8 = .ok (.dup, 1) := by decide +kernel
theorem dX1_init_9 : decode cX1_init 9 = .ok (.invokespecial 9, 3) := by decide +kernel
theorem dX1_init_12 : decode cX1_init 12 = .ok (.putfield 10, 3) := by decide +kernel
theorem dX1_init_15 : decode cX1_init 15 = .ok (.aload_n 0, 1) := by decide +kernel
theorem dX1_init_16 : decode cX1_init 16 = .ok (.new 7, 3) := by decide +kernel
theorem dX1_init_19 : decode cX1_init 19 = .ok (.dup, 1) := by decide +kernel
theorem dX1_init_20 : decode cX1_init 20 = .ok (.invokespecial 9, 3) := by decide +kernel
theorem dX1_init_23 : decode cX1_init 23 = .ok (.putfield 16, 3) := by decide +kernel
theorem dX1_init_26 : decode cX1_init 26 = .ok (.return_, 1) := by decide +kernel
theorem dX1_addField_0 : decode cX1_addField 0 = .ok (.iload_n 1, 1) := by decide +kernel
theorem dX1_addField_1 : decode cX1_addField 1 = .ok (.iconst 0, 1) := by decide +kernel
theorem dX1_addField_2 : decode cX1_addField 2 = .ok (.bipush 20, 2) := by decide +kernel
theorem dX1_addField_4 : decode cX1_addField 4 = .ok (.invokestatic 19, 3) := by decide +kernel
theorem dX1_addField_7 : decode cX1_addField 7 = .ok (.iload_n 2, 1) := by decide +kernel
theorem dX1_addField_8 : decode cX1_addField 8 = .ok (.iconst 0, 1) := by decide +kernel
theorem dX1_addField_9 : decode cX1_addField 9 = .ok (.bipush 99, 2) := by decide +kernel
theorem dX1_addField_11 : decode cX1_addField 11 = .ok (.invokestatic 19, 3) := by decide +kernel
theorem dX1_addField_14 : decode cX1_addField 14 = .ok (.aload_n 0, 1) := by decide +kernel
theorem dX1_addField_15 : decode cX1_addField 15 = .ok (.getfield 10, 3) := by decide +kernel
theorem dX1_addField_18 : decode cX1_addField 18 = .ok (.iload_n 1, 1) := by decide +kernel
theorem dX1_addField_19 : decode cX1_addField 19 = .ok (.iload_n 2, 1) := by decide +kernel
theorem dX1_addField_20 : decode cX1_addField 20 = .ok (.invokevirtual 23, 3) := by decide +kernel
theorem dX1_addField_23 : decode cX1_addField 23 = .ok (.istore_n 3, 1) := by decide +kernel
theorem dX1_addField_24 : decode cX1_addField 24 = .ok (.iload_n 3, 1) := by decide +kernel
theorem dX1_addField_25 : decode cX1_addField 25 = .ok (.iconst (-1), 1) := by decide +kernel
theorem dX1_addField_26 : decode cX1_addField 26 = .ok (.if_icmp .ne 13, 3) := by decide +kernel
theorem dX1_addField_29 : decode cX1_addField 29 = .ok (.new 27, 3) := by decide +kernel
theorem dX1_addField_32 : decode cX1_addField 32 = .ok (.dup, 1) := by decide +kernel
theorem dX1_addField_33 : decode cX1_addField 33 = .ok (.ldc 29, 2) := by decide +kernel
theorem dX1_addField_35 : decode cX1_addField 35 = .ok (.invokespecial 31, 3) := by decide +kernel
theorem dX1_addField_38 : decode cX1_addField 38 = .ok (.athrow, 1) := by decide +kernel
theorem dX1_addField_39 : decode cX1_addField 39 = .ok (.iload_n 3, 1) := by decide +kernel
theorem dX1_addField_40 : decode cX1_addField 40 = .ok (.ireturn, 1) := by decide +kernel
theorem dX1_addDitch_0 : decode cX1_addDitch 0 = .ok (.aload_n 0, 1) := by decide +kernel
theorem dX1_addDitch_1 : decode cX1_addDitch 1 = .ok (.iload_n 1, 1) := by decide +kernel
theorem dX1_addDitch_2 : decode cX1_addDitch 2 = .ok (.invokevirtual 34, 3) := by decide +kernel
theorem dX1_addDitch_5 : decode cX1_addDitch 5 = .ok (.aload_n 0, 1) := by decide +kernel
theorem dX1_addDitch_6 : decode cX1_addDitch 6 = .ok (.iload_n 2, 1) := by decide +kernel
theorem dX1_addDitch_7 : decode cX1_addDitch 7 = .ok (.invokevirtual 34, 3) := by decide +kernel
theorem dX1_addDitch_10 : decode cX1_addDitch 10 = .ok (.aload_n 0, 1) := by decide +kernel
theorem dX1_addDitch_11 : decode cX1_addDitch 11 = .ok (.iload_n 1, 1) := by decide +kernel
theorem dX1_addDitch_12 : decode cX1_addDitch 12 = .ok (.iload_n 2, 1) := by decide +kernel
theorem dX1_addDitch_13 : decode cX1_addDitch 13 = .ok (.iload_n 3, 1) := by decide +kernel
theorem dX1_addDitch_14 : decode cX1_addDitch 14 = .ok (.iconst 0, 1) := by decide +kernel
theorem dX1_addDitch_15 : decode cX1_addDitch 15 = .ok (.invokevirtual 38, 3) := by decide +kernel
theorem dX1_addDitch_18 : decode cX1_addDitch 18 = .ok (.ireturn, 1) := by decide +kernel
theorem dX1_addPump_0 : decode cX1_addPump 0 = .ok (.aload_n 0, 1) := by decide +kernel
theorem dX1_addPump_1 : decode cX1_addPump 1 = .ok (.iload_n 1, 1) := by decide +kernel
theorem dX1_addPump_2 : decode cX1_addPump 2 = .ok (.invokevirtual 34, 3) := by decide +kernel
theorem dX1_addPump_5 : decode cX1_addPump 5 = .ok (.iload_n 2, 1) := by decide +kernel
theorem dX1_addPump_6 : decode cX1_addPump 6 = .ok (.iconst (-1), 1) := by decide +kernel
theorem dX1_addPump_7 : decode cX1_addPump 7 = .ok (.if_icmp .eq 8, 3) := by decide +kernel
theorem dX1_addPump_10 : decode cX1_addPump 10 = .ok (.aload_n 0, 1) := by decide +kernel
theorem dX1_addPump_11 : decode cX1_addPump 11 = .ok (.iload_n 2, 1) := by decide +kernel
theorem dX1_addPump_12 : decode cX1_addPump 12 = .ok (.invokevirtual 34, 3) := by decide +kernel
theorem dX1_addPump_15 : decode cX1_addPump 15 = .ok (.aload_n 0, 1) := by decide +kernel
theorem dX1_addPump_16 : decode cX1_addPump 16 = .ok (.iload_n 1, 1) := by decide +kernel
theorem dX1_addPump_17 : decode cX1_addPump 17 = .ok (.iload_n 2, 1) := by decide +kernel
theorem dX1_addPump_18 : decode cX1_addPump 18 = .ok (.iload_n 3, 1) := by decide +kernel
theorem dX1_addPump_19 : decode cX1_addPump 19 = .ok (.iconst 1, 1) := by decide +kernel
theorem dX1_addPump_20 : decode cX1_addPump 20 = .ok (.invokevirtual 38, 3) := by decide +kernel
theorem dX1_addPump_23 : decode cX1_addPump 23 = .ok (.ireturn, 1) := by decide +kernel
theorem dX1_turn_0 : decode cX1_turn 0 = .ok (.aload_n 0, 1) := by decide +kernel
theorem dX1_turn_1 : decode cX1_turn 1 = .ok (.iload_n 1, 1) := by decide +kernel
theorem dX1_turn_2 : decode cX1_turn 2 = .ok (.invokevirtual 42, 3) := by decide +kernel
theorem dX1_turn_5 : decode cX1_turn 5 = .ok (.aload_n 0, 1) := by decide +kernel
theorem dX1_turn_6 : decode cX1_turn 6 = .ok (.getfield 10, 3) := by decide +kernel
theorem dX1_turn_9 : decode cX1_turn 9 = .ok (.iload_n 1, 1) := by decide +kernel
theorem dX1_turn_10 : decode cX1_turn 10 = .ok (.invokevirtual 45, 3) := by decide +kernel
theorem dX1_turn_13 : decode cX1_turn 13 = .ok (.aload_n 0, 1) := by decide +kernel
theorem dX1_turn_14 : decode cX1_turn 14 = .ok (.getfield 10, 3) := by decide +kernel
theorem dX1_turn_17 : decode cX1_turn 17 = .ok (.getfield 48, 3) := by decide +kernel
theorem dX1_turn_20 : decode cX1_turn 20 = .ok (.iload_n 1, 1) := by decide +kernel
theorem dX1_turn_21 : decode cX1_turn 21 = .ok (.baload, 1) := by decide +kernel
theorem dX1_turn_22 : decode cX1_turn 22 = .ok (.ireturn, 1) := by decide +kernel
theorem dX1_setRain_0 : decode cX1_setRain 0 = .ok (.iload_n 1, 1) := by decide +kernel
theorem dX1_setRain_1 : decode cX1_setRain 1 = .ok (.iconst 0, 1) := by decide +kernel
theorem dX1_setRain_2 : decode cX1_setRain 2 = .ok (.bipush 9, 2) := by decide +kernel
theorem dX1_setRain_4 : decode cX1_setRain 4 = .ok (.invokestatic 19, 3) := by decide +kernel
theorem dX1_setRain_7 : decode cX1_setRain 7 = .ok (.aload_n 0, 1) := by decide +kernel
theorem dX1_setRain_8 : decode cX1_setRain 8 = .ok (.getfield 10, 3) := by decide +kernel
theorem dX1_setRain_11 : decode cX1_setRain 11 = .ok (.getfield 52, 3) := by decide +kernel
theorem dX1_setRain_14 : decode cX1_setRain 14 = .ok (.istore_n 2, 1) := by decide +kernel
theorem dX1_setRain_15 : decode cX1_setRain 15 = .ok (.aload_n 0, 1) := by decide +kernel
theorem dX1_setRain_16 : decode cX1_setRain 16 = .ok (.getfield 10, 3) := by decide +kernel
theorem dX1_setRain_19 : decode cX1_setRain 19 = .ok (.iload_n 1, 1) := by decide +kernel
theorem dX1_setRain_20 : decode cX1_setRain 20 = .ok (.putfield 52, 3) := by decide +kernel
theorem dX1_setRain_23 : decode cX1_setRain 23 = .ok (.iload_n 2, 1) := by decide +kernel
theorem dX1_setRain_24 : decode cX1_setRain 24 = .ok (.ireturn, 1) := by decide +kernel
theorem dX1_flood_0 : decode cX1_flood 0 = .ok (.aload_n 0, 1) := by decide +kernel
theorem dX1_flood_1 : decode cX1_flood 1 = .ok (.iload_n 1, 1) := by decide +kernel
theorem dX1_flood_2 : decode cX1_flood 2 = .ok (.invokevirtual 34, 3) := by decide +kernel
theorem dX1_flood_5 : decode cX1_flood 5 = .ok (.iload_n 2, 1) := by decide +kernel
theorem dX1_flood_6 : decode cX1_flood 6 = .ok (.iconst 1, 1) := by decide +kernel
theorem dX1_flood_7 : decode cX1_flood 7 = .ok (.bipush 50, 2) := by decide +kernel
theorem dX1_flood_9 : decode cX1_flood 9 = .ok (.invokestatic 19, 3) := by decide +kernel
theorem dX1_flood_12 : decode cX1_flood 12 = .ok (.aload_n 0, 1) := by decide +kernel
theorem dX1_flood_13 : decode cX1_flood 13 = .ok (.getfield 10, 3) := by decide +kernel
theorem dX1_flood_16 : decode cX1_flood 16 = .ok (.iload_n 1, 1) := by decide +kernel
theorem dX1_flood_17 : decode cX1_flood 17 = .ok (.iload_n 2, 1) := by decide +kernel
theorem dX1_flood_18 : decode cX1_flood 18 = .ok (.invokevirtual 56, 3) := by decide +kernel
theorem dX1_flood_21 : decode cX1_flood 21 = .ok (.aload_n 0, 1) := by decide +kernel
theorem dX1_flood_22 : decode cX1_flood 22 = .ok (.getfield 10, 3) := by decide +kernel
theorem dX1_flood_25 : decode cX1_flood 25 = .ok (.getfield 60, 3) := by decide +kernel
theorem dX1_flood_28 : decode cX1_flood 28 = .ok (.iload_n 1, 1) := by decide +kernel
theorem dX1_flood_29 : decode cX1_flood 29 = .ok (.iaload, 1) := by decide +kernel
theorem dX1_flood_30 : decode cX1_flood 30 = .ok (.ireturn, 1) := by decide +kernel
theorem dX1_pass_0 : decode cX1_pass 0 = .ok (.iload_n 1, 1) := by decide +kernel
theorem dX1_pass_1 : decode cX1_pass 1 = .ok (.iconst 1, 1) := by decide +kernel
theorem dX1_pass_2 : decode cX1_pass 2 = .ok (.bipush 48, 2) := by decide +kernel
theorem dX1_pass_4 : decode cX1_pass 4 = .ok (.invokestatic 19, 3) := by decide +kernel
theorem dX1_pass_7 : decode cX1_pass 7 = .ok (.aload_n 0, 1) := by decide +kernel
theorem dX1_pass_8 : decode cX1_pass 8 = .ok (.getfield 10, 3) := by decide +kernel
theorem dX1_pass_11 : decode cX1_pass 11 = .ok (.invokevirtual 64, 3) := by decide +kernel
theorem dX1_pass_14 : decode cX1_pass 14 = .ok (.istore_n 2, 1) := by decide +kernel
theorem dX1_pass_15 : decode cX1_pass 15 = .ok (.aload_n 0, 1) := by decide +kernel
theorem dX1_pass_16 : decode cX1_pass 16 = .ok (.getfield 10, 3) := by decide +kernel
theorem dX1_pass_19 : decode cX1_pass 19 = .ok (.iload_n 1, 1) := by decide +kernel
theorem dX1_pass_20 : decode cX1_pass 20 = .ok (.invokevirtual 68, 3) := by decide +kernel
theorem dX1_pass_23 : decode cX1_pass 23 = .ok (.aload_n 0, 1) := by decide +kernel
theorem dX1_pass_24 : decode cX1_pass 24 = .ok (.getfield 10, 3) := by decide +kernel
theorem dX1_pass_27 : decode cX1_pass 27 = .ok (.invokevirtual 64, 3) := by decide +kernel
theorem dX1_pass_30 : decode cX1_pass 30 = .ok (.iload_n 2, 1) := by decide +kernel
theorem dX1_pass_31 : decode cX1_pass 31 = .ok (.isub, 1) := by decide +kernel
theorem dX1_pass_32 : decode cX1_pass 32 = .ok (.ireturn, 1) := by decide +kernel
theorem dX1_hour_0 : decode cX1_hour 0 = .ok (.aload_n 0, 1) := by decide +kernel
theorem dX1_hour_1 : decode cX1_hour 1 = .ok (.getfield 10, 3) := by decide +kernel
theorem dX1_hour_4 : decode cX1_hour 4 = .ok (.getfield 71, 3) := by decide +kernel
theorem dX1_hour_7 : decode cX1_hour 7 = .ok (.ireturn, 1) := by decide +kernel
theorem dX1_fields_0 : decode cX1_fields 0 = .ok (.aload_n 0, 1) := by decide +kernel
theorem dX1_fields_1 : decode cX1_fields 1 = .ok (.getfield 10, 3) := by decide +kernel
theorem dX1_fields_4 : decode cX1_fields 4 = .ok (.getfield 74, 3) := by decide +kernel
theorem dX1_fields_7 : decode cX1_fields 7 = .ok (.ireturn, 1) := by decide +kernel
theorem dX1_drains_0 : decode cX1_drains 0 = .ok (.aload_n 0, 1) := by decide +kernel
theorem dX1_drains_1 : decode cX1_drains 1 = .ok (.getfield 10, 3) := by decide +kernel
theorem dX1_drains_4 : decode cX1_drains 4 = .ok (.getfield 77, 3) := by decide +kernel
theorem dX1_drains_7 : decode cX1_drains 7 = .ok (.ireturn, 1) := by decide +kernel
theorem dX1_rain_0 : decode cX1_rain 0 = .ok (.aload_n 0, 1) := by decide +kernel
theorem dX1_rain_1 : decode cX1_rain 1 = .ok (.getfield 10, 3) := by decide +kernel
theorem dX1_rain_4 : decode cX1_rain 4 = .ok (.getfield 52, 3) := by decide +kernel
theorem dX1_rain_7 : decode cX1_rain 7 = .ok (.ireturn, 1) := by decide +kernel
theorem dX1_water_0 : decode cX1_water 0 = .ok (.iconst 0, 1) := by decide +kernel
theorem dX1_water_1 : decode cX1_water 1 = .ok (.istore_n 1, 1) := by decide +kernel
theorem dX1_water_2 : decode cX1_water 2 = .ok (.iconst 0, 1) := by decide +kernel
theorem dX1_water_3 : decode cX1_water 3 = .ok (.istore_n 2, 1) := by decide +kernel
theorem dX1_water_4 : decode cX1_water 4 = .ok (.iload_n 2, 1) := by decide +kernel
theorem dX1_water_5 : decode cX1_water 5 = .ok (.aload_n 0, 1) := by decide +kernel
theorem dX1_water_6 : decode cX1_water 6 = .ok (.getfield 10, 3) := by decide +kernel
theorem dX1_water_9 : decode cX1_water 9 = .ok (.getfield 74, 3) := by decide +kernel
theorem dX1_water_12 : decode cX1_water 12 = .ok (.if_icmp .ge 21, 3) := by decide +kernel
theorem dX1_water_15 : decode cX1_water 15 = .ok (.iload_n 1, 1) := by decide +kernel
theorem dX1_water_16 : decode cX1_water 16 = .ok (.aload_n 0, 1) := by decide +kernel
theorem dX1_water_17 : decode cX1_water 17 = .ok (.getfield 10, 3) := by decide +kernel
theorem dX1_water_20 : decode cX1_water 20 = .ok (.getfield 60, 3) := by decide +kernel
theorem dX1_water_23 : decode cX1_water 23 = .ok (.iload_n 2, 1) := by decide +kernel
theorem dX1_water_24 : decode cX1_water 24 = .ok (.iaload, 1) := by decide +kernel
theorem dX1_water_25 : decode cX1_water 25 = .ok (.iadd, 1) := by decide +kernel
theorem dX1_water_26 : decode cX1_water 26 = .ok (.istore_n 1, 1) := by decide +kernel
theorem dX1_water_27 : decode cX1_water 27 = .ok (.iinc 2 1, 3) := by decide +kernel
theorem dX1_water_30 : decode cX1_water 30 = .ok (.goto (-26), 3) := by decide +kernel
theorem dX1_water_33 : decode cX1_water 33 = .ok (.iload_n 1, 1) := by decide +kernel
theorem dX1_water_34 : decode cX1_water 34 = .ok (.ireturn, 1) := by decide +kernel
theorem dX1_drained_0 : decode cX1_drained 0 = .ok (.aload_n 0, 1) := by decide +kernel
theorem dX1_drained_1 : decode cX1_drained 1 = .ok (.getfield 10, 3) := by decide +kernel
theorem dX1_drained_4 : decode cX1_drained 4 = .ok (.getfield 80, 3) := by decide +kernel
theorem dX1_drained_7 : decode cX1_drained 7 = .ok (.ireturn, 1) := by decide +kernel
theorem dX1_wetFields_0 : decode cX1_wetFields 0 = .ok (.iconst 0, 1) := by decide +kernel
theorem dX1_wetFields_1 : decode cX1_wetFields 1 = .ok (.istore_n 1, 1) := by decide +kernel
theorem dX1_wetFields_2 : decode cX1_wetFields 2 = .ok (.iconst 0, 1) := by decide +kernel
theorem dX1_wetFields_3 : decode cX1_wetFields 3 = .ok (.istore_n 2, 1) := by decide +kernel
theorem dX1_wetFields_4 : decode cX1_wetFields 4 = .ok (.iload_n 2, 1) := by decide +kernel
theorem dX1_wetFields_5 : decode cX1_wetFields 5 = .ok (.aload_n 0, 1) := by decide +kernel
theorem dX1_wetFields_6 : decode cX1_wetFields 6 = .ok (.getfield 10, 3) := by decide +kernel
theorem dX1_wetFields_9 : decode cX1_wetFields 9 = .ok (.getfield 74, 3) := by decide +kernel
theorem dX1_wetFields_12 : decode cX1_wetFields 12 = .ok (.if_icmp .ge 23, 3) := by decide +kernel
theorem dX1_wetFields_15 : decode cX1_wetFields 15 = .ok (.aload_n 0, 1) := by decide +kernel
theorem dX1_wetFields_16 : decode cX1_wetFields 16 = .ok (.getfield 10, 3) := by decide +kernel
theorem dX1_wetFields_19 : decode cX1_wetFields 19 = .ok (.iload_n 2, 1) := by decide +kernel
theorem dX1_wetFields_20 : decode cX1_wetFields 20 = .ok (.invokevirtual 83, 3) := by decide +kernel
theorem dX1_wetFields_23 : decode cX1_wetFields 23 = .ok (.ifCond .eq 6, 3) := by decide +kernel
theorem dX1_wetFields_26 : decode cX1_wetFields 26 = .ok (.iinc 1 1, 3) := by decide +kernel
theorem dX1_wetFields_29 : decode cX1_wetFields 29 = .ok (.iinc 2 1, 3) := by decide +kernel
theorem dX1_wetFields_32 : decode cX1_wetFields 32 = .ok (.goto (-28), 3) := by decide +kernel
theorem dX1_wetFields_35 : decode cX1_wetFields 35 = .ok (.iload_n 1, 1) := by decide +kernel
theorem dX1_wetFields_36 : decode cX1_wetFields 36 = .ok (.ireturn, 1) := by decide +kernel
theorem dX1_ruinedFields_0 : decode cX1_ruinedFields 0 = .ok (.aload_n 0, 1) := by decide +kernel
theorem dX1_ruinedFields_1 : decode cX1_ruinedFields 1 = .ok (.getfield 10, 3) := by decide +kernel
theorem dX1_ruinedFields_4 : decode cX1_ruinedFields 4 = .ok (.invokevirtual 64, 3) := by decide +kernel
theorem dX1_ruinedFields_7 : decode cX1_ruinedFields 7 = .ok (.ireturn, 1) := by decide +kernel
theorem dX1_loss_0 : decode cX1_loss 0 = .ok (.aload_n 0, 1) := by decide +kernel
theorem dX1_loss_1 : decode cX1_loss 1 = .ok (.getfield 10, 3) := by decide +kernel
theorem dX1_loss_4 : decode cX1_loss 4 = .ok (.invokevirtual 87, 3) := by decide +kernel
theorem dX1_loss_7 : decode cX1_loss 7 = .ok (.ireturn, 1) := by decide +kernel
theorem dX1_waterOn_0 : decode cX1_waterOn 0 = .ok (.aload_n 0, 1) := by decide +kernel
theorem dX1_waterOn_1 : decode cX1_waterOn 1 = .ok (.iload_n 1, 1) := by decide +kernel
theorem dX1_waterOn_2 : decode cX1_waterOn 2 = .ok (.invokevirtual 34, 3) := by decide +kernel
theorem dX1_waterOn_5 : decode cX1_waterOn 5 = .ok (.aload_n 0, 1) := by decide +kernel
theorem dX1_waterOn_6 : decode cX1_waterOn 6 = .ok (.getfield 10, 3) := by decide +kernel
theorem dX1_waterOn_9 : decode cX1_waterOn 9 = .ok (.getfield 60, 3) := by decide +kernel
theorem dX1_waterOn_12 : decode cX1_waterOn 12 = .ok (.iload_n 1, 1) := by decide +kernel
theorem dX1_waterOn_13 : decode cX1_waterOn 13 = .ok (.iaload, 1) := by decide +kernel
theorem dX1_waterOn_14 : decode cX1_waterOn 14 = .ok (.ireturn, 1) := by decide +kernel
theorem dX1_levelOf_0 : decode cX1_levelOf 0 = .ok (.aload_n 0, 1) := by decide +kernel
theorem dX1_levelOf_1 : decode cX1_levelOf 1 = .ok (.iload_n 1, 1) := by decide +kernel
theorem dX1_levelOf_2 : decode cX1_levelOf 2 = .ok (.invokevirtual 34, 3) := by decide +kernel
theorem dX1_levelOf_5 : decode cX1_levelOf 5 = .ok (.aload_n 0, 1) := by decide +kernel
theorem dX1_levelOf_6 : decode cX1_levelOf 6 = .ok (.getfield 10, 3) := by decide +kernel
theorem dX1_levelOf_9 : decode cX1_levelOf 9 = .ok (.iload_n 1, 1) := by decide +kernel
theorem dX1_levelOf_10 : decode cX1_levelOf 10 = .ok (.invokevirtual 90, 3) := by decide +kernel
theorem dX1_levelOf_13 : decode cX1_levelOf 13 = .ok (.ireturn, 1) := by decide +kernel
theorem dX1_wetFor_0 : decode cX1_wetFor 0 = .ok (.aload_n 0, 1) := by decide +kernel
theorem dX1_wetFor_1 : decode cX1_wetFor 1 = .ok (.iload_n 1, 1) := by decide +kernel
theorem dX1_wetFor_2 : decode cX1_wetFor 2 = .ok (.invokevirtual 34, 3) := by decide +kernel
theorem dX1_wetFor_5 : decode cX1_wetFor 5 = .ok (.aload_n 0, 1) := by decide +kernel
theorem dX1_wetFor_6 : decode cX1_wetFor 6 = .ok (.getfield 10, 3) := by decide +kernel
theorem dX1_wetFor_9 : decode cX1_wetFor 9 = .ok (.getfield 94, 3) := by decide +kernel
theorem dX1_wetFor_12 : decode cX1_wetFor 12 = .ok (.iload_n 1, 1) := by decide +kernel
theorem dX1_wetFor_13 : decode cX1_wetFor 13 = .ok (.iaload, 1) := by decide +kernel
theorem dX1_wetFor_14 : decode cX1_wetFor 14 = .ok (.ireturn, 1) := by decide +kernel
theorem dX1_isRuined_0 : decode cX1_isRuined 0 = .ok (.aload_n 0, 1) := by decide +kernel
theorem dX1_isRuined_1 : decode cX1_isRuined 1 = .ok (.iload_n 1, 1) := by decide +kernel
theorem dX1_isRuined_2 : decode cX1_isRuined 2 = .ok (.invokevirtual 34, 3) := by decide +kernel
theorem dX1_isRuined_5 : decode cX1_isRuined 5 = .ok (.aload_n 0, 1) := by decide +kernel
theorem dX1_isRuined_6 : decode cX1_isRuined 6 = .ok (.getfield 10, 3) := by decide +kernel
theorem dX1_isRuined_9 : decode cX1_isRuined 9 = .ok (.getfield 97, 3) := by decide +kernel
theorem dX1_isRuined_12 : decode cX1_isRuined 12 = .ok (.iload_n 1, 1) := by decide +kernel
theorem dX1_isRuined_13 : decode cX1_isRuined 13 = .ok (.baload, 1) := by decide +kernel
theorem dX1_isRuined_14 : decode cX1_isRuined 14 = .ok (.ireturn, 1) := by decide +kernel
theorem dX1_drainsAt_0 : decode cX1_drainsAt 0 = .ok (.aload_n 0, 1) := by decide +kernel
theorem dX1_drainsAt_1 : decode cX1_drainsAt 1 = .ok (.iload_n 1, 1) := by decide +kernel
theorem dX1_drainsAt_2 : decode cX1_drainsAt 2 = .ok (.invokevirtual 34, 3) := by decide +kernel
theorem dX1_drainsAt_5 : decode cX1_drainsAt 5 = .ok (.iconst 0, 1) := by decide +kernel
theorem dX1_drainsAt_6 : decode cX1_drainsAt 6 = .ok (.istore_n 2, 1) := by decide +kernel
theorem dX1_drainsAt_7 : decode cX1_drainsAt 7 = .ok (.iconst 0, 1) := by decide +kernel
theorem dX1_drainsAt_8 : decode cX1_drainsAt 8 = .ok (.istore_n 3, 1) := by decide +kernel
theorem dX1_drainsAt_9 : decode cX1_drainsAt 9 = .ok (.iload_n 3, 1) := by decide +kernel
theorem dX1_drainsAt_10 : decode cX1_drainsAt 10 = .ok (.aload_n 0, 1) := by decide +kernel
theorem dX1_drainsAt_11 : decode cX1_drainsAt 11 = .ok (.getfield 10, 3) := by decide +kernel
theorem dX1_drainsAt_14 : decode cX1_drainsAt 14 = .ok (.getfield 77, 3) := by decide +kernel
theorem dX1_drainsAt_17 : decode cX1_drainsAt 17 = .ok (.if_icmp .ge 50, 3) := by decide +kernel
theorem dX1_drainsAt_20 : decode cX1_drainsAt 20 = .ok (.aload_n 0, 1) := by decide +kernel
theorem dX1_drainsAt_21 : decode cX1_drainsAt 21 = .ok (.getfield 10, 3) := by decide +kernel
theorem dX1_drainsAt_24 : decode cX1_drainsAt 24 = .ok (.getfield 48, 3) := by decide +kernel
theorem dX1_drainsAt_27 : decode cX1_drainsAt 27 = .ok (.iload_n 3, 1) := by decide +kernel
theorem dX1_drainsAt_28 : decode cX1_drainsAt 28 = .ok (.baload, 1) := by decide +kernel
theorem dX1_drainsAt_29 : decode cX1_drainsAt 29 = .ok (.ifCond .eq 32, 3) := by decide +kernel
theorem dX1_drainsAt_32 : decode cX1_drainsAt 32 = .ok (.aload_n 0, 1) := by decide +kernel
theorem dX1_drainsAt_33 : decode cX1_drainsAt 33 = .ok (.getfield 10, 3) := by decide +kernel
theorem dX1_drainsAt_36 : decode cX1_drainsAt 36 = .ok (.getfield 100, 3) := by decide +kernel
theorem dX1_drainsAt_39 : decode cX1_drainsAt 39 = .ok (.iload_n 3, 1) := by decide +kernel
theorem dX1_drainsAt_40 : decode cX1_drainsAt 40 = .ok (.iaload, 1) := by decide +kernel
theorem dX1_drainsAt_41 : decode cX1_drainsAt 41 = .ok (.iload_n 1, 1) := by decide +kernel
theorem dX1_drainsAt_42 : decode cX1_drainsAt 42 = .ok (.if_icmp .eq 16, 3) := by decide +kernel
theorem dX1_drainsAt_45 : decode cX1_drainsAt 45 = .ok (.aload_n 0, 1) := by decide +kernel
theorem dX1_drainsAt_46 : decode cX1_drainsAt 46 = .ok (.getfield 10, 3) := by decide +kernel
theorem dX1_drainsAt_49 : decode cX1_drainsAt 49 = .ok (.getfield 103, 3) := by decide +kernel
theorem dX1_drainsAt_52 : decode cX1_drainsAt 52 = .ok (.iload_n 3, 1) := by decide +kernel
theorem dX1_drainsAt_53 : decode cX1_drainsAt 53 = .ok (.iaload, 1) := by decide +kernel
theorem dX1_drainsAt_54 : decode cX1_drainsAt 54 = .ok (.iload_n 1, 1) := by decide +kernel
theorem dX1_drainsAt_55 : decode cX1_drainsAt 55 = .ok (.if_icmp .ne 6, 3) := by decide +kernel
theorem dX1_drainsAt_58 : decode cX1_drainsAt 58 = .ok (.iinc 2 1, 3) := by decide +kernel
theorem dX1_drainsAt_61 : decode cX1_drainsAt 61 = .ok (.iinc 3 1, 3) := by decide +kernel
theorem dX1_drainsAt_64 : decode cX1_drainsAt 64 = .ok (.goto (-55), 3) := by decide +kernel
theorem dX1_drainsAt_67 : decode cX1_drainsAt 67 = .ok (.iload_n 2, 1) := by decide +kernel
theorem dX1_drainsAt_68 : decode cX1_drainsAt 68 = .ok (.ireturn, 1) := by decide +kernel
theorem dX1_reaches_0 : decode cX1_reaches 0 = .ok (.aload_n 0, 1) := by decide +kernel
theorem dX1_reaches_1 : decode cX1_reaches 1 = .ok (.iload_n 1, 1) := by decide +kernel
theorem dX1_reaches_2 : decode cX1_reaches 2 = .ok (.invokevirtual 34, 3) := by decide +kernel
theorem dX1_reaches_5 : decode cX1_reaches 5 = .ok (.iconst 1, 1) := by decide +kernel
theorem dX1_reaches_6 : decode cX1_reaches 6 = .ok (.iload_n 1, 1) := by decide +kernel
theorem dX1_reaches_7 : decode cX1_reaches 7 = .ok (.ishl, 1) := by decide +kernel
theorem dX1_reaches_8 : decode cX1_reaches 8 = .ok (.istore_n 2, 1) := by decide +kernel
theorem dX1_reaches_9 : decode cX1_reaches 9 = .ok (.iconst 1, 1) := by decide +kernel
theorem dX1_reaches_10 : decode cX1_reaches 10 = .ok (.istore_n 3, 1) := by decide +kernel
theorem dX1_reaches_11 : decode cX1_reaches 11 = .ok (.iload_n 3, 1) := by decide +kernel
theorem dX1_reaches_12 : decode cX1_reaches 12 = .ok (.aload_n 0, 1) := by decide +kernel
theorem dX1_reaches_13 : decode cX1_reaches 13 = .ok (.getfield 10, 3) := by decide +kernel
theorem dX1_reaches_16 : decode cX1_reaches 16 = .ok (.getfield 74, 3) := by decide +kernel
theorem dX1_reaches_19 : decode cX1_reaches 19 = .ok (.if_icmp .ge 18, 3) := by decide +kernel
theorem dX1_reaches_22 : decode cX1_reaches 22 = .ok (.aload_n 0, 1) := by decide +kernel
theorem dX1_reaches_23 : decode cX1_reaches 23 = .ok (.getfield 10, 3) := by decide +kernel
theorem dX1_reaches_26 : decode cX1_reaches 26 = .ok (.iload_n 2, 1) := by decide +kernel
theorem dX1_reaches_27 : decode cX1_reaches 27 = .ok (.invokevirtual 106, 3) := by decide +kernel
theorem dX1_reaches_30 : decode cX1_reaches 30 = .ok (.istore_n 2, 1) := by decide +kernel
theorem dX1_reaches_31 : decode cX1_reaches 31 = .ok (.iinc 3 1, 3) := by decide +kernel
theorem dX1_reaches_34 : decode cX1_reaches 34 = .ok (.goto (-23), 3) := by decide +kernel
theorem dX1_reaches_37 : decode cX1_reaches 37 = .ok (.iload_n 2, 1) := by decide +kernel
theorem dX1_reaches_38 : decode cX1_reaches 38 = .ok (.invokestatic 109, 3) := by decide +kernel
theorem dX1_reaches_41 : decode cX1_reaches 41 = .ok (.iconst 1, 1) := by decide +kernel
theorem dX1_reaches_42 : decode cX1_reaches 42 = .ok (.isub, 1) := by decide +kernel
theorem dX1_reaches_43 : decode cX1_reaches 43 = .ok (.ireturn, 1) := by decide +kernel
theorem dX1_highest_0 : decode cX1_highest 0 = .ok (.iconst (-1), 1) := by decide +kernel
theorem dX1_highest_1 : decode cX1_highest 1 = .ok (.istore_n 1, 1) := by decide +kernel
theorem dX1_highest_2 : decode cX1_highest 2 = .ok (.iconst 0, 1) := by decide +kernel
theorem dX1_highest_3 : decode cX1_highest 3 = .ok (.istore_n 2, 1) := by decide +kernel
theorem dX1_highest_4 : decode cX1_highest 4 = .ok (.iconst 0, 1) := by decide +kernel
theorem dX1_highest_5 : decode cX1_highest 5 = .ok (.istore_n 3, 1) := by decide +kernel
theorem dX1_highest_6 : decode cX1_highest 6 = .ok (.iload_n 3, 1) := by decide +kernel
theorem dX1_highest_7 : decode cX1_highest 7 = .ok (.aload_n 0, 1) := by decide +kernel
theorem dX1_highest_8 : decode cX1_highest 8 = .ok (.getfield 10, 3) := by decide +kernel
theorem dX1_highest_11 : decode cX1_highest 11 = .ok (.getfield 74, 3) := by decide +kernel
theorem dX1_highest_14 : decode cX1_highest 14 = .ok (.if_icmp .ge 35, 3) := by decide +kernel
theorem dX1_highest_17 : decode cX1_highest 17 = .ok (.aload_n 0, 1) := by decide +kernel
theorem dX1_highest_18 : decode cX1_highest 18 = .ok (.getfield 10, 3) := by decide +kernel
theorem dX1_highest_21 : decode cX1_highest 21 = .ok (.iload_n 3, 1) := by decide +kernel
theorem dX1_highest_22 : decode cX1_highest 22 = .ok (.invokevirtual 90, 3) := by decide +kernel
theorem dX1_highest_25 : decode cX1_highest 25 = .ok (.istore 4, 2) := by decide +kernel
theorem dX1_highest_27 : decode cX1_highest 27 = .ok (.iload_n 1, 1) := by decide +kernel
theorem dX1_highest_28 : decode cX1_highest 28 = .ok (.iconst (-1), 1) := by decide +kernel
theorem dX1_highest_29 : decode cX1_highest 29 = .ok (.if_icmp .eq 9, 3) := by decide +kernel
theorem dX1_highest_32 : decode cX1_highest 32 = .ok (.iload 4, 2) := by decide +kernel
theorem dX1_highest_34 : decode cX1_highest 34 = .ok (.iload_n 2, 1) := by decide +kernel
theorem dX1_highest_35 : decode cX1_highest 35 = .ok (.if_icmp .le 8, 3) := by decide +kernel
theorem dX1_highest_38 : decode cX1_highest 38 = .ok (.iload_n 3, 1) := by decide +kernel
theorem dX1_highest_39 : decode cX1_highest 39 = .ok (.istore_n 1, 1) := by decide +kernel
theorem dX1_highest_40 : decode cX1_highest 40 = .ok (.iload 4, 2) := by decide +kernel
theorem dX1_highest_42 : decode cX1_highest 42 = .ok (.istore_n 2, 1) := by decide +kernel
theorem dX1_highest_43 : decode cX1_highest 43 = .ok (.iinc 3 1, 3) := by decide +kernel
theorem dX1_highest_46 : decode cX1_highest 46 = .ok (.goto (-40), 3) := by decide +kernel
theorem dX1_highest_49 : decode cX1_highest 49 = .ok (.iload_n 1, 1) := by decide +kernel
theorem dX1_highest_50 : decode cX1_highest 50 = .ok (.ireturn, 1) := by decide +kernel
theorem dX1_isPump_0 : decode cX1_isPump 0 = .ok (.aload_n 0, 1) := by decide +kernel
theorem dX1_isPump_1 : decode cX1_isPump 1 = .ok (.iload_n 1, 1) := by decide +kernel
theorem dX1_isPump_2 : decode cX1_isPump 2 = .ok (.invokevirtual 42, 3) := by decide +kernel
theorem dX1_isPump_5 : decode cX1_isPump 5 = .ok (.aload_n 0, 1) := by decide +kernel
theorem dX1_isPump_6 : decode cX1_isPump 6 = .ok (.getfield 10, 3) := by decide +kernel
theorem dX1_isPump_9 : decode cX1_isPump 9 = .ok (.getfield 114, 3) := by decide +kernel
theorem dX1_isPump_12 : decode cX1_isPump 12 = .ok (.iload_n 1, 1) := by decide +kernel
theorem dX1_isPump_13 : decode cX1_isPump 13 = .ok (.baload, 1) := by decide +kernel
theorem dX1_isPump_14 : decode cX1_isPump 14 = .ok (.ireturn, 1) := by decide +kernel
theorem dX1_isOpen_0 : decode cX1_isOpen 0 = .ok (.aload_n 0, 1) := by decide +kernel
theorem dX1_isOpen_1 : decode cX1_isOpen 1 = .ok (.iload_n 1, 1) := by decide +kernel
theorem dX1_isOpen_2 : decode cX1_isOpen 2 = .ok (.invokevirtual 42, 3) := by decide +kernel
theorem dX1_isOpen_5 : decode cX1_isOpen 5 = .ok (.aload_n 0, 1) := by decide +kernel
theorem dX1_isOpen_6 : decode cX1_isOpen 6 = .ok (.getfield 10, 3) := by decide +kernel
theorem dX1_isOpen_9 : decode cX1_isOpen 9 = .ok (.getfield 48, 3) := by decide +kernel
theorem dX1_isOpen_12 : decode cX1_isOpen 12 = .ok (.iload_n 1, 1) := by decide +kernel
theorem dX1_isOpen_13 : decode cX1_isOpen 13 = .ok (.baload, 1) := by decide +kernel
theorem dX1_isOpen_14 : decode cX1_isOpen 14 = .ok (.ireturn, 1) := by decide +kernel
theorem dX1_carriedBy_0 : decode cX1_carriedBy 0 = .ok (.aload_n 0, 1) := by decide +kernel
theorem dX1_carriedBy_1 : decode cX1_carriedBy 1 = .ok (.iload_n 1, 1) := by decide +kernel
theorem dX1_carriedBy_2 : decode cX1_carriedBy 2 = .ok (.invokevirtual 42, 3) := by decide +kernel
theorem dX1_carriedBy_5 : decode cX1_carriedBy 5 = .ok (.aload_n 0, 1) := by decide +kernel
theorem dX1_carriedBy_6 : decode cX1_carriedBy 6 = .ok (.getfield 10, 3) := by decide +kernel
theorem dX1_carriedBy_9 : decode cX1_carriedBy 9 = .ok (.getfield 117, 3) := by decide +kernel
theorem dX1_carriedBy_12 : decode cX1_carriedBy 12 = .ok (.iload_n 1, 1) := by decide +kernel
theorem dX1_carriedBy_13 : decode cX1_carriedBy 13 = .ok (.iaload, 1) := by decide +kernel
theorem dX1_carriedBy_14 : decode cX1_carriedBy 14 = .ok (.ireturn, 1) := by decide +kernel
theorem dX1_wouldCarry_0 : decode cX1_wouldCarry 0 = .ok (.aload_n 0, 1) := by decide +kernel
theorem dX1_wouldCarry_1 : decode cX1_wouldCarry 1 = .ok (.iload_n 1, 1) := by decide +kernel
theorem dX1_wouldCarry_2 : decode cX1_wouldCarry 2 = .ok (.invokevirtual 42, 3) := by decide +kernel
theorem dX1_wouldCarry_5 : decode cX1_wouldCarry 5 = .ok (.aload_n 0, 1) := by decide +kernel
theorem dX1_wouldCarry_6 : decode cX1_wouldCarry 6 = .ok (.getfield 10, 3) := by decide +kernel
theorem dX1_wouldCarry_9 : decode cX1_wouldCarry 9 = .ok (.iload_n 1, 1) := by decide +kernel
theorem dX1_wouldCarry_10 : decode cX1_wouldCarry 10 = .ok (.invokevirtual 120, 3) := by decide +kernel
theorem dX1_wouldCarry_13 : decode cX1_wouldCarry 13 = .ok (.invokestatic 123, 3) := by decide +kernel
theorem dX1_wouldCarry_16 : decode cX1_wouldCarry 16 = .ok (.ireturn, 1) := by decide +kernel
theorem dX1_busiest_0 : decode cX1_busiest 0 = .ok (.iconst (-1), 1) := by decide +kernel
theorem dX1_busiest_1 : decode cX1_busiest 1 = .ok (.istore_n 1, 1) := by decide +kernel
theorem dX1_busiest_2 : decode cX1_busiest 2 = .ok (.iconst 0, 1) := by decide +kernel
theorem dX1_busiest_3 : decode cX1_busiest 3 = .ok (.istore_n 2, 1) := by decide +kernel
theorem dX1_busiest_4 : decode cX1_busiest 4 = .ok (.iconst 0, 1) := by decide +kernel
theorem dX1_busiest_5 : decode cX1_busiest 5 = .ok (.istore_n 3, 1) := by decide +kernel
theorem dX1_busiest_6 : decode cX1_busiest 6 = .ok (.iload_n 3, 1) := by decide +kernel
theorem dX1_busiest_7 : decode cX1_busiest 7 = .ok (.aload_n 0, 1) := by decide +kernel
theorem dX1_busiest_8 : decode cX1_busiest 8 = .ok (.getfield 10, 3) := by decide +kernel
theorem dX1_busiest_11 : decode cX1_busiest 11 = .ok (.getfield 77, 3) := by decide +kernel
theorem dX1_busiest_14 : decode cX1_busiest 14 = .ok (.if_icmp .ge 36, 3) := by decide +kernel
theorem dX1_busiest_17 : decode cX1_busiest 17 = .ok (.aload_n 0, 1) := by decide +kernel
theorem dX1_busiest_18 : decode cX1_busiest 18 = .ok (.getfield 10, 3) := by decide +kernel
theorem dX1_busiest_21 : decode cX1_busiest 21 = .ok (.getfield 117, 3) := by decide +kernel
theorem dX1_busiest_24 : decode cX1_busiest 24 = .ok (.iload_n 3, 1) := by decide +kernel
theorem dX1_busiest_25 : decode cX1_busiest 25 = .ok (.iaload, 1) := by decide +kernel
theorem dX1_busiest_26 : decode cX1_busiest 26 = .ok (.istore 4, 2) := by decide +kernel
theorem dX1_busiest_28 : decode cX1_busiest 28 = .ok (.iload_n 1, 1) := by decide +kernel
theorem dX1_busiest_29 : decode cX1_busiest 29 = .ok (.iconst (-1), 1) := by decide +kernel
theorem dX1_busiest_30 : decode cX1_busiest 30 = .ok (.if_icmp .eq 9, 3) := by decide +kernel
theorem dX1_busiest_33 : decode cX1_busiest 33 = .ok (.iload 4, 2) := by decide +kernel
theorem dX1_busiest_35 : decode cX1_busiest 35 = .ok (.iload_n 2, 1) := by decide +kernel
theorem dX1_busiest_36 : decode cX1_busiest 36 = .ok (.if_icmp .le 8, 3) := by decide +kernel
theorem dX1_busiest_39 : decode cX1_busiest 39 = .ok (.iload_n 3, 1) := by decide +kernel
theorem dX1_busiest_40 : decode cX1_busiest 40 = .ok (.istore_n 1, 1) := by decide +kernel
theorem dX1_busiest_41 : decode cX1_busiest 41 = .ok (.iload 4, 2) := by decide +kernel
theorem dX1_busiest_43 : decode cX1_busiest 43 = .ok (.istore_n 2, 1) := by decide +kernel
theorem dX1_busiest_44 : decode cX1_busiest 44 = .ok (.iinc 3 1, 3) := by decide +kernel
theorem dX1_busiest_47 : decode cX1_busiest 47 = .ok (.goto (-41), 3) := by decide +kernel
theorem dX1_busiest_50 : decode cX1_busiest 50 = .ok (.iload_n 1, 1) := by decide +kernel
theorem dX1_busiest_51 : decode cX1_busiest 51 = .ok (.ireturn, 1) := by decide +kernel
theorem dX1_hoursUntilRuined_0 : decode cX1_hoursUntilRuined 0 = .ok (.aload_n 0, 1) := by decide +kernel
theorem dX1_hoursUntilRuined_1 : decode cX1_hoursUntilRuined 1 = .ok (.iload_n 1, 1) := by decide +kernel
theorem dX1_hoursUntilRuined_2 : decode cX1_hoursUntilRuined 2 = .ok (.invokevirtual 34, 3) := by decide +kernel
theorem dX1_hoursUntilRuined_5 : decode cX1_hoursUntilRuined 5 = .ok (.aload_n 0, 1) := by decide +kernel
theorem dX1_hoursUntilRuined_6 : decode cX1_hoursUntilRuined 6 = .ok (.getfield 16, 3) := by decide +kernel
theorem dX1_hoursUntilRuined_9 : decode cX1_hoursUntilRuined 9 = .ok (.aload_n 0, 1) := by decide +kernel
theorem dX1_hoursUntilRuined_10 : decode cX1_hoursUntilRuined 10 = .ok (.getfield 10, 3) := by decide +kernel
theorem dX1_hoursUntilRuined_13 : decode cX1_hoursUntilRuined 13 = .ok (.invokevirtual 128, 3) := by decide +kernel
theorem dX1_hoursUntilRuined_16 : decode cX1_hoursUntilRuined 16 = .ok (.iconst 0, 1) := by decide +kernel
theorem dX1_hoursUntilRuined_17 : decode cX1_hoursUntilRuined 17 = .ok (.istore_n 2, 1) := by decide +kernel
theorem dX1_hoursUntilRuined_18 : decode cX1_hoursUntilRuined 18 = .ok (.iload_n 2, 1) := by decide +kernel
theorem dX1_hoursUntilRuined_19 : decode cX1_hoursUntilRuined 19 = .ok (.bipush 100, 2) := by decide +kernel
theorem dX1_hoursUntilRuined_21 : decode cX1_hoursUntilRuined 21 = .ok (.if_icmp .gt 30, 3) := by decide +kernel
theorem dX1_hoursUntilRuined_24 : decode cX1_hoursUntilRuined 24 = .ok (.aload_n 0, 1) := by decide +kernel
theorem dX1_hoursUntilRuined_25 : decode cX1_hoursUntilRuined 25 = .ok (.getfield 16, 3) := by decide +kernel
theorem dX1_hoursUntilRuined_28 : decode cX1_hoursUntilRuined 28 = .ok (.getfield 97, 3) := by decide +kernel
theorem dX1_hoursUntilRuined_31 : decode cX1_hoursUntilRuined 31 = .ok (.iload_n 1, 1) := by decide +kernel
theorem dX1_hoursUntilRuined_32 : decode cX1_hoursUntilRuined 32 = .ok (.baload, 1) := by decide +kernel
theorem dX1_hoursUntilRuined_33 : decode cX1_hoursUntilRuined 33 = .ok (.ifCond .eq 5, 3) := by decide +kernel
theorem dX1_hoursUntilRuined_36 : decode cX1_hoursUntilRuined 36 = .ok (.iload_n 2, 1) := by decide +kernel
theorem dX1_hoursUntilRuined_37 : decode cX1_hoursUntilRuined 37 = .ok (.ireturn, 1) := by decide +kernel
theorem dX1_hoursUntilRuined_38 : decode cX1_hoursUntilRuined 38 = .ok (.aload_n 0, 1) := by decide +kernel
theorem dX1_hoursUntilRuined_39 : decode cX1_hoursUntilRuined 39 = .ok (.getfield 16, 3) := by decide +kernel
theorem dX1_hoursUntilRuined_42 : decode cX1_hoursUntilRuined 42 = .ok (.invokevirtual 132, 3) := by decide +kernel
theorem dX1_hoursUntilRuined_45 : decode cX1_hoursUntilRuined 45 = .ok (.iinc 2 1, 3) := by decide +kernel
theorem dX1_hoursUntilRuined_48 : decode cX1_hoursUntilRuined 48 = .ok (.goto (-30), 3) := by decide +kernel
theorem dX1_hoursUntilRuined_51 : decode cX1_hoursUntilRuined 51 = .ok (.iconst (-1), 1) := by decide +kernel
theorem dX1_hoursUntilRuined_52 : decode cX1_hoursUntilRuined 52 = .ok (.ireturn, 1) := by decide +kernel
theorem dX1_lossIn_0 : decode cX1_lossIn 0 = .ok (.iload_n 1, 1) := by decide +kernel
theorem dX1_lossIn_1 : decode cX1_lossIn 1 = .ok (.iconst 1, 1) := by decide +kernel
theorem dX1_lossIn_2 : decode cX1_lossIn 2 = .ok (.bipush 48, 2) := by decide +kernel
theorem dX1_lossIn_4 : decode cX1_lossIn 4 = .ok (.invokestatic 19, 3) := by decide +kernel
theorem dX1_lossIn_7 : decode cX1_lossIn 7 = .ok (.aload_n 0, 1) := by decide +kernel
theorem dX1_lossIn_8 : decode cX1_lossIn 8 = .ok (.getfield 16, 3) := by decide +kernel
theorem dX1_lossIn_11 : decode cX1_lossIn 11 = .ok (.aload_n 0, 1) := by decide +kernel
theorem dX1_lossIn_12 : decode cX1_lossIn 12 = .ok (.getfield 10, 3) := by decide +kernel
theorem dX1_lossIn_15 : decode cX1_lossIn 15 = .ok (.invokevirtual 128, 3) := by decide +kernel
theorem dX1_lossIn_18 : decode cX1_lossIn 18 = .ok (.aload_n 0, 1) := by decide +kernel
theorem dX1_lossIn_19 : decode cX1_lossIn 19 = .ok (.getfield 16, 3) := by decide +kernel
theorem dX1_lossIn_22 : decode cX1_lossIn 22 = .ok (.iload_n 1, 1) := by decide +kernel
theorem dX1_lossIn_23 : decode cX1_lossIn 23 = .ok (.invokevirtual 68, 3) := by decide +kernel
theorem dX1_lossIn_26 : decode cX1_lossIn 26 = .ok (.aload_n 0, 1) := by decide +kernel
theorem dX1_lossIn_27 : decode cX1_lossIn 27 = .ok (.getfield 16, 3) := by decide +kernel
theorem dX1_lossIn_30 : decode cX1_lossIn 30 = .ok (.invokevirtual 87, 3) := by decide +kernel
theorem dX1_lossIn_33 : decode cX1_lossIn 33 = .ok (.ireturn, 1) := by decide +kernel
theorem dX1_waterIn_0 : decode cX1_waterIn 0 = .ok (.aload_n 0, 1) := by decide +kernel
theorem dX1_waterIn_1 : decode cX1_waterIn 1 = .ok (.iload_n 1, 1) := by decide +kernel
theorem dX1_waterIn_2 : decode cX1_waterIn 2 = .ok (.invokevirtual 34, 3) := by decide +kernel
theorem dX1_waterIn_5 : decode cX1_waterIn 5 = .ok (.iload_n 2, 1) := by decide +kernel
theorem dX1_waterIn_6 : decode cX1_waterIn 6 = .ok (.iconst 1, 1) := by decide +kernel
theorem dX1_waterIn_7 : decode cX1_waterIn 7 = .ok (.bipush 48, 2) := by decide +kernel
theorem dX1_waterIn_9 : decode cX1_waterIn 9 = .ok (.invokestatic 19, 3) := by decide +kernel
theorem dX1_waterIn_12 : decode cX1_waterIn 12 = .ok (.aload_n 0, 1) := by decide +kernel
theorem dX1_waterIn_13 : decode cX1_waterIn 13 = .ok (.getfield 16, 3) := by decide +kernel
theorem dX1_waterIn_16 : decode cX1_waterIn 16 = .ok (.aload_n 0, 1) := by decide +kernel
theorem dX1_waterIn_17 : decode cX1_waterIn 17 = .ok (.getfield 10, 3) := by decide +kernel
theorem dX1_waterIn_20 : decode cX1_waterIn 20 = .ok (.invokevirtual 128, 3) := by decide +kernel
theorem dX1_waterIn_23 : decode cX1_waterIn 23 = .ok (.aload_n 0, 1) := by decide +kernel
theorem dX1_waterIn_24 : decode cX1_waterIn 24 = .ok (.getfield 16, 3) := by decide +kernel
theorem dX1_waterIn_27 : decode cX1_waterIn 27 = .ok (.iload_n 2, 1) := by decide +kernel
theorem dX1_waterIn_28 : decode cX1_waterIn 28 = .ok (.invokevirtual 68, 3) := by decide +kernel
theorem dX1_waterIn_31 : decode cX1_waterIn 31 = .ok (.aload_n 0, 1) := by decide +kernel
theorem dX1_waterIn_32 : decode cX1_waterIn 32 = .ok (.getfield 16, 3) := by decide +kernel
theorem dX1_waterIn_35 : decode cX1_waterIn 35 = .ok (.getfield 60, 3) := by decide +kernel
theorem dX1_waterIn_38 : decode cX1_waterIn 38 = .ok (.iload_n 1, 1) := by decide +kernel
theorem dX1_waterIn_39 : decode cX1_waterIn 39 = .ok (.iaload, 1) := by decide +kernel
theorem dX1_waterIn_40 : decode cX1_waterIn 40 = .ok (.ireturn, 1) := by decide +kernel
theorem dX1_bestToTurn_0 : decode cX1_bestToTurn 0 = .ok (.aload_n 0, 1) := by decide +kernel
theorem dX1_bestToTurn_1 : decode cX1_bestToTurn 1 = .ok (.getfield 16, 3) := by decide +kernel
theorem dX1_bestToTurn_4 : decode cX1_bestToTurn 4 = .ok (.aload_n 0, 1) := by decide +kernel
theorem dX1_bestToTurn_5 : decode cX1_bestToTurn 5 = .ok (.getfield 10, 3) := by decide +kernel
theorem dX1_bestToTurn_8 : decode cX1_bestToTurn 8 = .ok (.invokevirtual 128, 3) := by decide +kernel
theorem dX1_bestToTurn_11 : decode cX1_bestToTurn 11 = .ok (.aload_n 0, 1) := by decide +kernel
theorem dX1_bestToTurn_12 : decode cX1_bestToTurn 12 = .ok (.getfield 16, 3) := by decide +kernel
theorem dX1_bestToTurn_15 : decode cX1_bestToTurn 15 = .ok (.bipush 24, 2) := by decide +kernel
theorem dX1_bestToTurn_17 : decode cX1_bestToTurn 17 = .ok (.invokevirtual 68, 3) := by decide +kernel
theorem dX1_bestToTurn_20 : decode cX1_bestToTurn 20 = .ok (.aload_n 0, 1) := by decide +kernel
theorem dX1_bestToTurn_21 : decode cX1_bestToTurn 21 = .ok (.getfield 16, 3) := by decide +kernel
theorem dX1_bestToTurn_24 : decode cX1_bestToTurn 24 = .ok (.invokevirtual 87, 3) := by decide +kernel
theorem dX1_bestToTurn_27 : decode cX1_bestToTurn 27 = .ok (.istore_n 1, 1) := by decide +kernel
theorem dX1_bestToTurn_28 : decode cX1_bestToTurn 28 = .ok (.iconst (-1), 1) := by decide +kernel
theorem dX1_bestToTurn_29 : decode cX1_bestToTurn 29 = .ok (.istore_n 2, 1) := by decide +kernel
theorem dX1_bestToTurn_30 : decode cX1_bestToTurn 30 = .ok (.iconst 0, 1) := by decide +kernel
theorem dX1_bestToTurn_31 : decode cX1_bestToTurn 31 = .ok (.istore_n 3, 1) := by decide +kernel
theorem dX1_bestToTurn_32 : decode cX1_bestToTurn 32 = .ok (.iload_n 3, 1) := by decide +kernel
theorem dX1_bestToTurn_33 : decode cX1_bestToTurn 33 = .ok (.aload_n 0, 1) := by decide +kernel
theorem dX1_bestToTurn_34 : decode cX1_bestToTurn 34 = .ok (.getfield 10, 3) := by decide +kernel
theorem dX1_bestToTurn_37 : decode cX1_bestToTurn 37 = .ok (.getfield 77, 3) := by decide +kernel
theorem dX1_bestToTurn_40 : decode cX1_bestToTurn 40 = .ok (.if_icmp .ge 57, 3) := by decide +kernel
theorem dX1_bestToTurn_43 : decode cX1_bestToTurn 43 = .ok (.aload_n 0, 1) := by decide +kernel
theorem dX1_bestToTurn_44 : decode cX1_bestToTurn 44 = .ok (.getfield 16, 3) := by decide +kernel
theorem dX1_bestToTurn_47 : decode cX1_bestToTurn 47 = .ok (.aload_n 0, 1) := by decide +kernel
theorem dX1_bestToTurn_48 : decode cX1_bestToTurn 48 = .ok (.getfield 10, 3) := by decide +kernel
theorem dX1_bestToTurn_51 : decode cX1_bestToTurn 51 = .ok (.invokevirtual 128, 3) := by decide +kernel
theorem dX1_bestToTurn_54 : decode cX1_bestToTurn 54 = .ok (.aload_n 0, 1) := by decide +kernel
theorem dX1_bestToTurn_55 : decode cX1_bestToTurn 55 = .ok (.getfield 16, 3) := by decide +kernel
theorem dX1_bestToTurn_58 : decode cX1_bestToTurn 58 = .ok (.iload_n 3, 1) := by decide +kernel
theorem dX1_bestToTurn_59 : decode cX1_bestToTurn 59 = .ok (.invokevirtual 45, 3) := by decide +kernel
theorem dX1_bestToTurn_62 : decode cX1_bestToTurn 62 = .ok (.aload_n 0, 1) := by decide +kernel
theorem dX1_bestToTurn_63 : decode cX1_bestToTurn 63 = .ok (.getfield 16, 3) := by decide +kernel
theorem dX1_bestToTurn_66 : decode cX1_bestToTurn 66 = .ok (.bipush 24, 2) := by decide +kernel
theorem dX1_bestToTurn_68 : decode cX1_bestToTurn 68 = .ok (.invokevirtual 68, 3) := by decide +kernel
theorem dX1_bestToTurn_71 : decode cX1_bestToTurn 71 = .ok (.aload_n 0, 1) := by decide +kernel
theorem dX1_bestToTurn_72 : decode cX1_bestToTurn 72 = .ok (.getfield 16, 3) := by decide +kernel
theorem dX1_bestToTurn_75 : decode cX1_bestToTurn 75 = .ok (.invokevirtual 87, 3) := by decide +kernel
theorem dX1_bestToTurn_78 : decode cX1_bestToTurn 78 = .ok (.istore 4, 2) := by decide +kernel
theorem dX1_bestToTurn_80 : decode cX1_bestToTurn 80 = .ok (.iload 4, 2) := by decide +kernel
theorem dX1_bestToTurn_82 : decode cX1_bestToTurn 82 = .ok (.iload_n 1, 1) := by decide +kernel
theorem dX1_bestToTurn_83 : decode cX1_bestToTurn 83 = .ok (.if_icmp .ge 8, 3) := by decide +kernel
theorem dX1_bestToTurn_86 : decode cX1_bestToTurn 86 = .ok (.iload_n 3, 1) := by decide +kernel
theorem dX1_bestToTurn_87 : decode cX1_bestToTurn 87 = .ok (.istore_n 2, 1) := by decide +kernel
theorem dX1_bestToTurn_88 : decode cX1_bestToTurn 88 = .ok (.iload 4, 2) := by decide +kernel
theorem dX1_bestToTurn_90 : decode cX1_bestToTurn 90 = .ok (.istore_n 1, 1) := by decide +kernel

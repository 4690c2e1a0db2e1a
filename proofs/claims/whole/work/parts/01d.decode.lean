theorem dX1_requireDrain_21 : decode cX1_requireDrain 21 = .ok (.return_, 1) := by decide +kernel
theorem dX1_requireWithin_0 : decode cX1_requireWithin 0 = .ok (.iload_n 0, 1) := by decide +kernel
theorem dX1_requireWithin_1 : decode cX1_requireWithin 1 = .ok (.iload_n 1, 1) := by decide +kernel
theorem dX1_requireWithin_2 : decode cX1_requireWithin 2 = .ok (.if_icmp .lt 8, 3) := by decide +kernel
theorem dX1_requireWithin_5 : decode cX1_requireWithin 5 = .ok (.iload_n 0, 1) := by decide +kernel
theorem dX1_requireWithin_6 : decode cX1_requireWithin 6 = .ok (.iload_n 2, 1) := by decide +kernel
theorem dX1_requireWithin_7 : decode cX1_requireWithin 7 = .ok (.if_icmp .le 13, 3) := by decide +kernel
theorem dX1_requireWithin_10 : decode cX1_requireWithin 10 = .ok (.new 219, 3) := by decide +kernel
theorem dX1_requireWithin_13 : decode cX1_requireWithin 13 = .ok (.dup, 1) := by decide +kernel
theorem dX1_requireWithin_14 : decode cX1_requireWithin 14 = .ok (.ldc 242, 2) := by decide +kernel
theorem dX1_requireWithin_16 : decode cX1_requireWithin 16 = .ok (.invokespecial 223, 3) := by decide +kernel
theorem dX1_requireWithin_19 : decode cX1_requireWithin 19 = .ok (.athrow, 1) := by decide +kernel
theorem dX1_requireWithin_20 : decode cX1_requireWithin 20 = .ok (.return_, 1) := by decide +kernel
theorem dX2_init_0 : decode cX2_init 0 = .ok (.aload_n 0, 1) := by decide +kernel
theorem dX2_init_1 : decode cX2_init 1 = .ok (.invokespecial 3, 3) := by decide +kernel
theorem dX2_init_4 : decode cX2_init 4 = .ok (.aload_n 0, 1) := by decide +kernel
theorem dX2_init_5 : decode cX2_init 5 = .ok (.bipush 10, 2) := by decide +kernel
theorem dX2_init_7 : decode cX2_init 7 = .ok (.newarray .int, 2) := by decide +kernel
theorem dX2_init_9 : decode cX2_init 9 = .ok (.putfield 9, 3) := by decide +kernel
theorem dX2_init_12 : decode cX2_init 12 = .ok (.aload_n 0, 1) := by decide +kernel
theorem dX2_init_13 : decode cX2_init 13 = .ok (.bipush 10, 2) := by decide +kernel
theorem dX2_init_15 : decode cX2_init 15 = .ok (.newarray .int, 2) := by decide +kernel
theorem dX2_init_17 : decode cX2_init 17 = .ok (.putfield 13, 3) := by decide +kernel
theorem dX2_init_20 : decode cX2_init 20 = .ok (.aload_n 0, 1) := by decide +kernel
theorem dX2_init_21 : decode cX2_init 21 = .ok (.bipush 16, 2) := by decide +kernel
theorem dX2_init_23 : decode cX2_init 23 = .ok (.newarray .int, 2) := by decide +kernel
theorem dX2_init_25 : decode cX2_init 25 = .ok (.putfield 16, 3) := by decide +kernel
theorem dX2_init_28 : decode cX2_init 28 = .ok (.aload_n 0, 1) := by decide +kernel
theorem dX2_init_29 : decode cX2_init 29 = .ok (.bipush 16, 2) := by decide +kernel
theorem dX2_init_31 : decode cX2_init 31 = .ok (.newarray .int, 2) := by decide +kernel
theorem dX2_init_33 : decode cX2_init 33 = .ok (.putfield 19, 3) := by decide +kernel
theorem dX2_init_36 : decode cX2_init 36 = .ok (.aload_n 0, 1) := by decide +kernel
theorem dX2_init_37 : decode cX2_init 37 = .ok (.bipush 16, 2) := by decide +kernel
theorem dX2_init_39 : decode cX2_init 39 = .ok (.newarray .int, 2) := by decide +kernel
theorem dX2_init_41 : decode cX2_init 41 = .ok (.putfield 22, 3) := by decide +kernel
theorem dX2_init_44 : decode cX2_init 44 = .ok (.aload_n 0, 1) := by decide +kernel
theorem dX2_init_45 : decode cX2_init 45 = .ok (.bipush 16, 2) := by decide +kernel
theorem dX2_init_47 : decode cX2_init 47 = .ok (.newarray .boolean, 2) := by decide +kernel
theorem dX2_init_49 : decode cX2_init 49 = .ok (.putfield 25, 3) := by decide +kernel
theorem dX2_init_52 : decode cX2_init 52 = .ok (.aload_n 0, 1) := by decide +kernel
theorem dX2_init_53 : decode cX2_init 53 = .ok (.bipush 16, 2) := by decide +kernel
theorem dX2_init_55 : decode cX2_init 55 = .ok (.newarray .boolean, 2) := by decide +kernel
theorem dX2_init_57 : decode cX2_init 57 = .ok (.putfield 29, 3) := by decide +kernel
theorem dX2_init_60 : decode cX2_init 60 = .ok (.aload_n 0, 1) := by decide +kernel
theorem dX2_init_61 : decode cX2_init 61 = .ok (.bipush 48, 2) := by decide +kernel
theorem dX2_init_63 : decode cX2_init 63 = .ok (.newarray .int, 2) := by decide +kernel
theorem dX2_init_65 : decode cX2_init 65 = .ok (.putfield 32, 3) := by decide +kernel
theorem dX2_init_68 : decode cX2_init 68 = .ok (.aload_n 0, 1) := by decide +kernel
theorem dX2_init_69 : decode cX2_init 69 = .ok (.bipush 48, 2) := by decide +kernel
theorem dX2_init_71 : decode cX2_init 71 = .ok (.newarray .int, 2) := by decide +kernel
theorem dX2_init_73 : decode cX2_init 73 = .ok (.putfield 35, 3) := by decide +kernel
theorem dX2_init_76 : decode cX2_init 76 = .ok (.aload_n 0, 1) := by decide +kernel
theorem dX2_init_77 : decode cX2_init 77 = .ok (.bipush 10, 2) := by decide +kernel
theorem dX2_init_79 : decode cX2_init 79 = .ok (.newarray .boolean, 2) := by decide +kernel
theorem dX2_init_81 : decode cX2_init 81 = .ok (.putfield 38, 3) := by decide +kernel
theorem dX2_init_84 : decode cX2_init 84 = .ok (.return_, 1) := by decide +kernel
theorem dX2_thrown_0 : decode cX2_thrown 0 = .ok (.aload_n 0, 1) := by decide +kernel
theorem dX2_thrown_1 : decode cX2_thrown 1 = .ok (.getfield 41, 3) := by decide +kernel
theorem dX2_thrown_4 : decode cX2_thrown 4 = .ok (.ireturn, 1) := by decide +kernel
theorem dX2_no_0 : decode cX2_no 0 = .ok (.aload_n 0, 1) := by decide +kernel
theorem dX2_no_1 : decode cX2_no 1 = .ok (.iload_n 1, 1) := by decide +kernel
theorem dX2_no_2 : decode cX2_no 2 = .ok (.putfield 41, 3) := by decide +kernel
theorem dX2_no_5 : decode cX2_no 5 = .ok (.iconst 0, 1) := by decide +kernel
theorem dX2_no_6 : decode cX2_no 6 = .ok (.ireturn, 1) := by decide +kernel
theorem dX2_isNot_0 : decode cX2_isNot 0 = .ok (.aload_n 0, 1) := by decide +kernel
theorem dX2_isNot_1 : decode cX2_isNot 1 = .ok (.iload_n 1, 1) := by decide +kernel
theorem dX2_isNot_2 : decode cX2_isNot 2 = .ok (.putfield 41, 3) := by decide +kernel
theorem dX2_isNot_5 : decode cX2_isNot 5 = .ok (.iconst 0, 1) := by decide +kernel
theorem dX2_isNot_6 : decode cX2_isNot 6 = .ok (.ireturn, 1) := by decide +kernel
theorem dX2_ok_0 : decode cX2_ok 0 = .ok (.aload_n 0, 1) := by decide +kernel
theorem dX2_ok_1 : decode cX2_ok 1 = .ok (.iconst 0, 1) := by decide +kernel
theorem dX2_ok_2 : decode cX2_ok 2 = .ok (.putfield 41, 3) := by decide +kernel
theorem dX2_ok_5 : decode cX2_ok 5 = .ok (.iload_n 1, 1) := by decide +kernel
theorem dX2_ok_6 : decode cX2_ok 6 = .ok (.ireturn, 1) := by decide +kernel
theorem dX2_isIn_0 : decode cX2_isIn 0 = .ok (.iload_n 0, 1) := by decide +kernel
theorem dX2_isIn_1 : decode cX2_isIn 1 = .ok (.iload_n 1, 1) := by decide +kernel
theorem dX2_isIn_2 : decode cX2_isIn 2 = .ok (.if_icmp .lt 12, 3) := by decide +kernel
theorem dX2_isIn_5 : decode cX2_isIn 5 = .ok (.iload_n 0, 1) := by decide +kernel
theorem dX2_isIn_6 : decode cX2_isIn 6 = .ok (.iload_n 2, 1) := by decide +kernel
theorem dX2_isIn_7 : decode cX2_isIn 7 = .ok (.if_icmp .gt 7, 3) := by decide +kernel
theorem dX2_isIn_10 : decode cX2_isIn 10 = .ok (.iconst 1, 1) := by decide +kernel
theorem dX2_isIn_11 : decode cX2_isIn 11 = .ok (.goto 4, 3) := by decide +kernel
theorem dX2_isIn_14 : decode cX2_isIn 14 = .ok (.iconst 0, 1) := by decide +kernel
theorem dX2_isIn_15 : decode cX2_isIn 15 = .ok (.ireturn, 1) := by decide +kernel
theorem dX2_isField_0 : decode cX2_isField 0 = .ok (.iload_n 1, 1) := by decide +kernel
theorem dX2_isField_1 : decode cX2_isField 1 = .ok (.iconst 0, 1) := by decide +kernel
theorem dX2_isField_2 : decode cX2_isField 2 = .ok (.aload_n 0, 1) := by decide +kernel
theorem dX2_isField_3 : decode cX2_isField 3 = .ok (.getfield 45, 3) := by decide +kernel
theorem dX2_isField_6 : decode cX2_isField 6 = .ok (.iconst 1, 1) := by decide +kernel
theorem dX2_isField_7 : decode cX2_isField 7 = .ok (.isub, 1) := by decide +kernel
theorem dX2_isField_8 : decode cX2_isField 8 = .ok (.invokestatic 48, 3) := by decide +kernel
theorem dX2_isField_11 : decode cX2_isField 11 = .ok (.ireturn, 1) := by decide +kernel
theorem dX2_isDrain_0 : decode cX2_isDrain 0 = .ok (.iload_n 1, 1) := by decide +kernel
theorem dX2_isDrain_1 : decode cX2_isDrain 1 = .ok (.iconst 0, 1) := by decide +kernel
theorem dX2_isDrain_2 : decode cX2_isDrain 2 = .ok (.aload_n 0, 1) := by decide +kernel
theorem dX2_isDrain_3 : decode cX2_isDrain 3 = .ok (.getfield 52, 3) := by decide +kernel
theorem dX2_isDrain_6 : decode cX2_isDrain 6 = .ok (.iconst 1, 1) := by decide +kernel
theorem dX2_isDrain_7 : decode cX2_isDrain 7 = .ok (.isub, 1) := by decide +kernel
theorem dX2_isDrain_8 : decode cX2_isDrain 8 = .ok (.invokestatic 48, 3) := by decide +kernel
theorem dX2_isDrain_11 : decode cX2_isDrain 11 = .ok (.ireturn, 1) := by decide +kernel
theorem dX2_keep_0 : decode cX2_keep 0 = .ok (.aload_n 0, 1) := by decide +kernel
theorem dX2_keep_1 : decode cX2_keep 1 = .ok (.getfield 32, 3) := by decide +kernel
theorem dX2_keep_4 : decode cX2_keep 4 = .ok (.iconst 0, 1) := by decide +kernel
theorem dX2_keep_5 : decode cX2_keep 5 = .ok (.aload_n 0, 1) := by decide +kernel
theorem dX2_keep_6 : decode cX2_keep 6 = .ok (.getfield 35, 3) := by decide +kernel
theorem dX2_keep_9 : decode cX2_keep 9 = .ok (.iconst 0, 1) := by decide +kernel
theorem dX2_keep_10 : decode cX2_keep 10 = .ok (.bipush 48, 2) := by decide +kernel
theorem dX2_keep_12 : decode cX2_keep 12 = .ok (.invokestatic 55, 3) := by decide +kernel
theorem dX2_keep_15 : decode cX2_keep 15 = .ok (.return_, 1) := by decide +kernel
theorem dX2_bringBack_0 : decode cX2_bringBack 0 = .ok (.aload_n 0, 1) := by decide +kernel
theorem dX2_bringBack_1 : decode cX2_bringBack 1 = .ok (.getfield 35, 3) := by decide +kernel
theorem dX2_bringBack_4 : decode cX2_bringBack 4 = .ok (.iconst 0, 1) := by decide +kernel
theorem dX2_bringBack_5 : decode cX2_bringBack 5 = .ok (.aload_n 0, 1) := by decide +kernel
theorem dX2_bringBack_6 : decode cX2_bringBack 6 = .ok (.getfield 32, 3) := by decide +kernel
theorem dX2_bringBack_9 : decode cX2_bringBack 9 = .ok (.iconst 0, 1) := by decide +kernel
theorem dX2_bringBack_10 : decode cX2_bringBack 10 = .ok (.bipush 48, 2) := by decide +kernel
theorem dX2_bringBack_12 : decode cX2_bringBack 12 = .ok (.invokestatic 55, 3) := by decide +kernel
theorem dX2_bringBack_15 : decode cX2_bringBack 15 = .ok (.return_, 1) := by decide +kernel
theorem dX2_water_0 : decode cX2_water 0 = .ok (.aload_n 0, 1) := by decide +kernel
theorem dX2_water_1 : decode cX2_water 1 = .ok (.getfield 32, 3) := by decide +kernel
theorem dX2_water_4 : decode cX2_water 4 = .ok (.iconst 2, 1) := by decide +kernel
theorem dX2_water_5 : decode cX2_water 5 = .ok (.iload_n 1, 1) := by decide +kernel
theorem dX2_water_6 : decode cX2_water 6 = .ok (.iadd, 1) := by decide +kernel
theorem dX2_water_7 : decode cX2_water 7 = .ok (.iaload, 1) := by decide +kernel
theorem dX2_water_8 : decode cX2_water 8 = .ok (.ireturn, 1) := by decide +kernel
theorem dX2_level_0 : decode cX2_level 0 = .ok (.aload_n 0, 1) := by decide +kernel
theorem dX2_level_1 : decode cX2_level 1 = .ok (.getfield 9, 3) := by decide +kernel
theorem dX2_level_4 : decode cX2_level 4 = .ok (.iload_n 1, 1) := by decide +kernel
theorem dX2_level_5 : decode cX2_level 5 = .ok (.iaload, 1) := by decide +kernel
theorem dX2_level_6 : decode cX2_level 6 = .ok (.aload_n 0, 1) := by decide +kernel
theorem dX2_level_7 : decode cX2_level 7 = .ok (.iload_n 1, 1) := by decide +kernel
theorem dX2_level_8 : decode cX2_level 8 = .ok (.invokevirtual 61, 3) := by decide +kernel
theorem dX2_level_11 : decode cX2_level 11 = .ok (.iadd, 1) := by decide +kernel
theorem dX2_level_12 : decode cX2_level 12 = .ok (.ireturn, 1) := by decide +kernel
theorem dX2_flow_0 : decode cX2_flow 0 = .ok (.aload_n 0, 1) := by decide +kernel
theorem dX2_flow_1 : decode cX2_flow 1 = .ok (.getfield 29, 3) := by decide +kernel
theorem dX2_flow_4 : decode cX2_flow 4 = .ok (.iload_n 1, 1) := by decide +kernel
theorem dX2_flow_5 : decode cX2_flow 5 = .ok (.baload, 1) := by decide +kernel
theorem dX2_flow_6 : decode cX2_flow 6 = .ok (.ifCond .ne 5, 3) := by decide +kernel
theorem dX2_flow_9 : decode cX2_flow 9 = .ok (.iconst 0, 1) := by decide +kernel
theorem dX2_flow_10 : decode cX2_flow 10 = .ok (.ireturn, 1) := by decide +kernel
theorem dX2_flow_11 : decode cX2_flow 11 = .ok (.aload_n 0, 1) := by decide +kernel
theorem dX2_flow_12 : decode cX2_flow 12 = .ok (.getfield 25, 3) := by decide +kernel
theorem dX2_flow_15 : decode cX2_flow 15 = .ok (.iload_n 1, 1) := by decide +kernel
theorem dX2_flow_16 : decode cX2_flow 16 = .ok (.baload, 1) := by decide +kernel
theorem dX2_flow_17 : decode cX2_flow 17 = .ok (.ifCond .eq 23, 3) := by decide +kernel
theorem dX2_flow_20 : decode cX2_flow 20 = .ok (.aload_n 0, 1) := by decide +kernel
theorem dX2_flow_21 : decode cX2_flow 21 = .ok (.getfield 22, 3) := by decide +kernel
theorem dX2_flow_24 : decode cX2_flow 24 = .ok (.iload_n 1, 1) := by decide +kernel
theorem dX2_flow_25 : decode cX2_flow 25 = .ok (.iaload, 1) := by decide +kernel
theorem dX2_flow_26 : decode cX2_flow 26 = .ok (.aload_n 0, 1) := by decide +kernel
theorem dX2_flow_27 : decode cX2_flow 27 = .ok (.aload_n 0, 1) := by decide +kernel
theorem dX2_flow_28 : decode cX2_flow 28 = .ok (.getfield 16, 3) := by decide +kernel
theorem dX2_flow_31 : decode cX2_flow 31 = .ok (.iload_n 1, 1) := by decide +kernel
theorem dX2_flow_32 : decode cX2_flow 32 = .ok (.iaload, 1) := by decide +kernel
theorem dX2_flow_33 : decode cX2_flow 33 = .ok (.invokevirtual 61, 3) := by decide +kernel
theorem dX2_flow_36 : decode cX2_flow 36 = .ok (.invokestatic 65, 3) := by decide +kernel
theorem dX2_flow_39 : decode cX2_flow 39 = .ok (.ireturn, 1) := by decide +kernel
theorem dX2_flow_40 : decode cX2_flow 40 = .ok (.aload_n 0, 1) := by decide +kernel
theorem dX2_flow_41 : decode cX2_flow 41 = .ok (.aload_n 0, 1) := by decide +kernel
theorem dX2_flow_42 : decode cX2_flow 42 = .ok (.getfield 16, 3) := by decide +kernel
theorem dX2_flow_45 : decode cX2_flow 45 = .ok (.iload_n 1, 1) := by decide +kernel
theorem dX2_flow_46 : decode cX2_flow 46 = .ok (.iaload, 1) := by decide +kernel
theorem dX2_flow_47 : decode cX2_flow 47 = .ok (.invokevirtual 71, 3) := by decide +kernel
theorem dX2_flow_50 : decode cX2_flow 50 = .ok (.aload_n 0, 1) := by decide +kernel
theorem dX2_flow_51 : decode cX2_flow 51 = .ok (.aload_n 0, 1) := by decide +kernel
theorem dX2_flow_52 : decode cX2_flow 52 = .ok (.getfield 19, 3) := by decide +kernel
theorem dX2_flow_55 : decode cX2_flow 55 = .ok (.iload_n 1, 1) := by decide +kernel
theorem dX2_flow_56 : decode cX2_flow 56 = .ok (.iaload, 1) := by decide +kernel
theorem dX2_flow_57 : decode cX2_flow 57 = .ok (.invokevirtual 71, 3) := by decide +kernel
theorem dX2_flow_60 : decode cX2_flow 60 = .ok (.isub, 1) := by decide +kernel
theorem dX2_flow_61 : decode cX2_flow 61 = .ok (.istore_n 2, 1) := by decide +kernel
theorem dX2_flow_62 : decode cX2_flow 62 = .ok (.aload_n 0, 1) := by decide +kernel
theorem dX2_flow_63 : decode cX2_flow 63 = .ok (.getfield 22, 3) := by decide +kernel
theorem dX2_flow_66 : decode cX2_flow 66 = .ok (.iload_n 1, 1) := by decide +kernel
theorem dX2_flow_67 : decode cX2_flow 67 = .ok (.iaload, 1) := by decide +kernel
theorem dX2_flow_68 : decode cX2_flow 68 = .ok (.iload_n 2, 1) := by decide +kernel
theorem dX2_flow_69 : decode cX2_flow 69 = .ok (.invokestatic 74, 3) := by decide +kernel
theorem dX2_flow_72 : decode cX2_flow 72 = .ok (.iconst 2, 1) := by decide +kernel
theorem dX2_flow_73 : decode cX2_flow 73 = .ok (.idiv, 1) := by decide +kernel
theorem dX2_flow_74 : decode cX2_flow 74 = .ok (.invokestatic 65, 3) := by decide +kernel
theorem dX2_flow_77 : decode cX2_flow 77 = .ok (.istore_n 3, 1) := by decide +kernel
theorem dX2_flow_78 : decode cX2_flow 78 = .ok (.iload_n 2, 1) := by decide +kernel
theorem dX2_flow_79 : decode cX2_flow 79 = .ok (.ifCond .le 20, 3) := by decide +kernel
theorem dX2_flow_82 : decode cX2_flow 82 = .ok (.iload_n 3, 1) := by decide +kernel
theorem dX2_flow_83 : decode cX2_flow 83 = .ok (.aload_n 0, 1) := by decide +kernel
theorem dX2_flow_84 : decode cX2_flow 84 = .ok (.aload_n 0, 1) := by decide +kernel
theorem dX2_flow_85 : decode cX2_flow 85 = .ok (.getfield 16, 3) := by decide +kernel
theorem dX2_flow_88 : decode cX2_flow 88 = .ok (.iload_n 1, 1) := by decide +kernel
theorem dX2_flow_89 : decode cX2_flow 89 = .ok (.iaload, 1) := by decide +kernel
theorem dX2_flow_90 : decode cX2_flow 90 = .ok (.invokevirtual 61, 3) := by decide +kernel
theorem dX2_flow_93 : decode cX2_flow 93 = .ok (.invokestatic 65, 3) := by decide +kernel
theorem dX2_flow_96 : decode cX2_flow 96 = .ok (.goto 18, 3) := by decide +kernel
theorem dX2_flow_99 : decode cX2_flow 99 = .ok (.iload_n 3, 1) := by decide +kernel
theorem dX2_flow_100 : decode cX2_flow 100 = .ok (.aload_n 0, 1) := by decide +kernel
theorem dX2_flow_101 : decode cX2_flow 101 = .ok (.aload_n 0, 1) := by decide +kernel
theorem dX2_flow_102 : decode cX2_flow 102 = .ok (.getfield 19, 3) := by decide +kernel
theorem dX2_flow_105 : decode cX2_flow 105 = .ok (.iload_n 1, 1) := by decide +kernel
theorem dX2_flow_106 : decode cX2_flow 106 = .ok (.iaload, 1) := by decide +kernel
theorem dX2_flow_107 : decode cX2_flow 107 = .ok (.invokevirtual 61, 3) := by decide +kernel
theorem dX2_flow_110 : decode cX2_flow 110 = .ok (.invokestatic 65, 3) := by decide +kernel
theorem dX2_flow_113 : decode cX2_flow 113 = .ok (.ineg, 1) := by decide +kernel
theorem dX2_flow_114 : decode cX2_flow 114 = .ok (.ireturn, 1) := by decide +kernel
theorem dX2_carry_0 : decode cX2_carry 0 = .ok (.aload_n 0, 1) := by decide +kernel
theorem dX2_carry_1 : decode cX2_carry 1 = .ok (.iload_n 1, 1) := by decide +kernel
theorem dX2_carry_2 : decode cX2_carry 2 = .ok (.invokevirtual 77, 3) := by decide +kernel
theorem dX2_carry_5 : decode cX2_carry 5 = .ok (.istore_n 2, 1) := by decide +kernel
theorem dX2_carry_6 : decode cX2_carry 6 = .ok (.aload_n 0, 1) := by decide +kernel
theorem dX2_carry_7 : decode cX2_carry 7 = .ok (.getfield 32, 3) := by decide +kernel
theorem dX2_carry_10 : decode cX2_carry 10 = .ok (.bipush 32, 2) := by decide +kernel
theorem dX2_carry_12 : decode cX2_carry 12 = .ok (.iload_n 1, 1) := by decide +kernel
theorem dX2_carry_13 : decode cX2_carry 13 = .ok (.iadd, 1) := by decide +kernel
theorem dX2_carry_14 : decode cX2_carry 14 = .ok (.dup2, 1) := by decide +kernel
theorem dX2_carry_15 : decode cX2_carry 15 = .ok (.iaload, 1) := by decide +kernel
theorem dX2_carry_16 : decode cX2_carry 16 = .ok (.iload_n 2, 1) := by decide +kernel
theorem dX2_carry_17 : decode cX2_carry 17 = .ok (.invokestatic 74, 3) := by decide +kernel
theorem dX2_carry_20 : decode cX2_carry 20 = .ok (.iadd, 1) := by decide +kernel
theorem dX2_carry_21 : decode cX2_carry 21 = .ok (.iastore, 1) := by decide +kernel
theorem dX2_carry_22 : decode cX2_carry 22 = .ok (.aload_n 0, 1) := by decide +kernel
theorem dX2_carry_23 : decode cX2_carry 23 = .ok (.getfield 32, 3) := by decide +kernel
theorem dX2_carry_26 : decode cX2_carry 26 = .ok (.iconst 2, 1) := by decide +kernel
theorem dX2_carry_27 : decode cX2_carry 27 = .ok (.aload_n 0, 1) := by decide +kernel
theorem dX2_carry_28 : decode cX2_carry 28 = .ok (.getfield 16, 3) := by decide +kernel
theorem dX2_carry_31 : decode cX2_carry 31 = .ok (.iload_n 1, 1) := by decide +kernel
theorem dX2_carry_32 : decode cX2_carry 32 = .ok (.iaload, 1) := by decide +kernel
theorem dX2_carry_33 : decode cX2_carry 33 = .ok (.iadd, 1) := by decide +kernel
theorem dX2_carry_34 : decode cX2_carry 34 = .ok (.dup2, 1) := by decide +kernel
theorem dX2_carry_35 : decode cX2_carry 35 = .ok (.iaload, 1) := by decide +kernel
theorem dX2_carry_36 : decode cX2_carry 36 = .ok (.iload_n 2, 1) := by decide +kernel
theorem dX2_carry_37 : decode cX2_carry 37 = .ok (.isub, 1) := by decide +kernel
theorem dX2_carry_38 : decode cX2_carry 38 = .ok (.iastore, 1) := by decide +kernel
theorem dX2_carry_39 : decode cX2_carry 39 = .ok (.aload_n 0, 1) := by decide +kernel
theorem dX2_carry_40 : decode cX2_carry 40 = .ok (.getfield 19, 3) := by decide +kernel
theorem dX2_carry_43 : decode cX2_carry 43 = .ok (.iload_n 1, 1) := by decide +kernel
theorem dX2_carry_44 : decode cX2_carry 44 = .ok (.iaload, 1) := by decide +kernel
theorem dX2_carry_45 : decode cX2_carry 45 = .ok (.iconst (-1), 1) := by decide +kernel
theorem dX2_carry_46 : decode cX2_carry 46 = .ok (.if_icmp .ne 16, 3) := by decide +kernel
theorem dX2_carry_49 : decode cX2_carry 49 = .ok (.aload_n 0, 1) := by decide +kernel
theorem dX2_carry_50 : decode cX2_carry 50 = .ok (.getfield 32, 3) := by decide +kernel
theorem dX2_carry_53 : decode cX2_carry 53 = .ok (.iconst 1, 1) := by decide +kernel
theorem dX2_carry_54 : decode cX2_carry 54 = .ok (.dup2, 1) := by decide +kernel
theorem dX2_carry_55 : decode cX2_carry 55 = .ok (.iaload, 1) := by decide +kernel
theorem dX2_carry_56 : decode cX2_carry 56 = .ok (.iload_n 2, 1) := by decide +kernel
theorem dX2_carry_57 : decode cX2_carry 57 = .ok (.iadd, 1) := by decide +kernel
theorem dX2_carry_58 : decode cX2_carry 58 = .ok (.iastore, 1) := by decide +kernel
theorem dX2_carry_59 : decode cX2_carry 59 = .ok (.goto 20, 3) := by decide +kernel
theorem dX2_carry_62 : decode cX2_carry 62 = .ok (.aload_n 0, 1) := by decide +kernel
theorem dX2_carry_63 : decode cX2_carry 63 = .ok (.getfield 32, 3) := by decide +kernel
theorem dX2_carry_66 : decode cX2_carry 66 = .ok (.iconst 2, 1) := by decide +kernel
theorem dX2_carry_67 : decode cX2_carry 67 = .ok (.aload_n 0, 1) := by decide +kernel
theorem dX2_carry_68 : decode cX2_carry 68 = .ok (.getfield 19, 3) := by decide +kernel
theorem dX2_carry_71 : decode cX2_carry 71 = .ok (.iload_n 1, 1) := by decide +kernel
theorem dX2_carry_72 : decode cX2_carry 72 = .ok (.iaload, 1) := by decide +kernel
theorem dX2_carry_73 : decode cX2_carry 73 = .ok (.iadd, 1) := by decide +kernel
theorem dX2_carry_74 : decode cX2_carry 74 = .ok (.dup2, 1) := by decide +kernel
theorem dX2_carry_75 : decode cX2_carry 75 = .ok (.iaload, 1) := by decide +kernel
theorem dX2_carry_76 : decode cX2_carry 76 = .ok (.iload_n 2, 1) := by decide +kernel
theorem dX2_carry_77 : decode cX2_carry 77 = .ok (.iadd, 1) := by decide +kernel
theorem dX2_carry_78 : decode cX2_carry 78 = .ok (.iastore, 1) := by decide +kernel
theorem dX2_carry_79 : decode cX2_carry 79 = .ok (.return_, 1) := by decide +kernel
theorem dX2_hourOn_0 : decode cX2_hourOn 0 = .ok (.iconst 0, 1) := by decide +kernel
theorem dX2_hourOn_1 : decode cX2_hourOn 1 = .ok (.istore_n 1, 1) := by decide +kernel
theorem dX2_hourOn_2 : decode cX2_hourOn 2 = .ok (.iload_n 1, 1) := by decide +kernel
theorem dX2_hourOn_3 : decode cX2_hourOn 3 = .ok (.aload_n 0, 1) := by decide +kernel
theorem dX2_hourOn_4 : decode cX2_hourOn 4 = .ok (.getfield 45, 3) := by decide +kernel
theorem dX2_hourOn_7 : decode cX2_hourOn 7 = .ok (.if_icmp .ge 24, 3) := by decide +kernel
theorem dX2_hourOn_10 : decode cX2_hourOn 10 = .ok (.aload_n 0, 1) := by decide +kernel
theorem dX2_hourOn_11 : decode cX2_hourOn 11 = .ok (.getfield 32, 3) := by decide +kernel
theorem dX2_hourOn_14 : decode cX2_hourOn 14 = .ok (.iconst 2, 1) := by decide +kernel
theorem dX2_hourOn_15 : decode cX2_hourOn 15 = .ok (.iload_n 1, 1) := by decide +kernel
theorem dX2_hourOn_16 : decode cX2_hourOn 16 = .ok (.iadd, 1) := by decide +kernel
theorem dX2_hourOn_17 : decode cX2_hourOn 17 = .ok (.dup2, 1) := by decide +kernel
theorem dX2_hourOn_18 : decode cX2_hourOn 18 = .ok (.iaload, 1) := by decide +kernel
theorem dX2_hourOn_19 : decode cX2_hourOn 19 = .ok (.aload_n 0, 1) := by decide +kernel
theorem dX2_hourOn_20 : decode cX2_hourOn 20 = .ok (.getfield 80, 3) := by decide +kernel
theorem dX2_hourOn_23 : decode cX2_hourOn 23 = .ok (.iadd, 1) := by decide +kernel
theorem dX2_hourOn_24 : decode cX2_hourOn 24 = .ok (.iastore, 1) := by decide +kernel
theorem dX2_hourOn_25 : decode cX2_hourOn 25 = .ok (.iinc 1 1, 3) := by decide +kernel
theorem dX2_hourOn_28 : decode cX2_hourOn 28 = .ok (.goto (-26), 3) := by decide +kernel
theorem dX2_hourOn_31 : decode cX2_hourOn 31 = .ok (.iconst 0, 1) := by decide +kernel
theorem dX2_hourOn_32 : decode cX2_hourOn 32 = .ok (.istore_n 1, 1) := by decide +kernel
theorem dX2_hourOn_33 : decode cX2_hourOn 33 = .ok (.iload_n 1, 1) := by decide +kernel
theorem dX2_hourOn_34 : decode cX2_hourOn 34 = .ok (.aload_n 0, 1) := by decide +kernel
theorem dX2_hourOn_35 : decode cX2_hourOn 35 = .ok (.getfield 52, 3) := by decide +kernel
theorem dX2_hourOn_38 : decode cX2_hourOn 38 = .ok (.if_icmp .ge 14, 3) := by decide +kernel
theorem dX2_hourOn_41 : decode cX2_hourOn 41 = .ok (.aload_n 0, 1) := by decide +kernel
theorem dX2_hourOn_42 : decode cX2_hourOn 42 = .ok (.iload_n 1, 1) := by decide +kernel
theorem dX2_hourOn_43 : decode cX2_hourOn 43 = .ok (.invokevirtual 83, 3) := by decide +kernel
theorem dX2_hourOn_46 : decode cX2_hourOn 46 = .ok (.iinc 1 1, 3) := by decide +kernel
theorem dX2_hourOn_49 : decode cX2_hourOn 49 = .ok (.goto (-16), 3) := by decide +kernel
theorem dX2_hourOn_52 : decode cX2_hourOn 52 = .ok (.iconst 0, 1) := by decide +kernel
theorem dX2_hourOn_53 : decode cX2_hourOn 53 = .ok (.istore_n 1, 1) := by decide +kernel
theorem dX2_hourOn_54 : decode cX2_hourOn 54 = .ok (.iload_n 1, 1) := by decide +kernel
theorem dX2_hourOn_55 : decode cX2_hourOn 55 = .ok (.aload_n 0, 1) := by decide +kernel
theorem dX2_hourOn_56 : decode cX2_hourOn 56 = .ok (.getfield 45, 3) := by decide +kernel
theorem dX2_hourOn_59 : decode cX2_hourOn 59 = .ok (.if_icmp .ge 66, 3) := by decide +kernel
theorem dX2_hourOn_62 : decode cX2_hourOn 62 = .ok (.aload_n 0, 1) := by decide +kernel
theorem dX2_hourOn_63 : decode cX2_hourOn 63 = .ok (.getfield 32, 3) := by decide +kernel
theorem dX2_hourOn_66 : decode cX2_hourOn 66 = .ok (.bipush 12, 2) := by decide +kernel
theorem dX2_hourOn_68 : decode cX2_hourOn 68 = .ok (.iload_n 1, 1) := by decide +kernel
theorem dX2_hourOn_69 : decode cX2_hourOn 69 = .ok (.iadd, 1) := by decide +kernel
theorem dX2_hourOn_70 : decode cX2_hourOn 70 = .ok (.aload_n 0, 1) := by decide +kernel
theorem dX2_hourOn_71 : decode cX2_hourOn 71 = .ok (.iload_n 1, 1) := by decide +kernel
theorem dX2_hourOn_72 : decode cX2_hourOn 72 = .ok (.invokevirtual 61, 3) := by decide +kernel
theorem dX2_hourOn_75 : decode cX2_hourOn 75 = .ok (.iconst 4, 1) := by decide +kernel
theorem dX2_hourOn_76 : decode cX2_hourOn 76 = .ok (.if_icmp .ge 7, 3) := by decide +kernel
theorem dX2_hourOn_79 : decode cX2_hourOn 79 = .ok (.iconst 0, 1) := by decide +kernel
theorem dX2_hourOn_80 : decode cX2_hourOn 80 = .ok (.goto 14, 3) := by decide +kernel
theorem dX2_hourOn_83 : decode cX2_hourOn 83 = .ok (.aload_n 0, 1) := by decide +kernel
theorem dX2_hourOn_84 : decode cX2_hourOn 84 = .ok (.getfield 32, 3) := by decide +kernel
theorem dX2_hourOn_87 : decode cX2_hourOn 87 = .ok (.bipush 12, 2) := by decide +kernel
theorem dX2_hourOn_89 : decode cX2_hourOn 89 = .ok (.iload_n 1, 1) := by decide +kernel
theorem dX2_hourOn_90 : decode cX2_hourOn 90 = .ok (.iadd, 1) := by decide +kernel
theorem dX2_hourOn_91 : decode cX2_hourOn 91 = .ok (.iaload, 1) := by decide +kernel
theorem dX2_hourOn_92 : decode cX2_hourOn 92 = .ok (.iconst 1, 1) := by decide +kernel
theorem dX2_hourOn_93 : decode cX2_hourOn 93 = .ok (.iadd, 1) := by decide +kernel
theorem dX2_hourOn_94 : decode cX2_hourOn 94 = .ok (.iastore, 1) := by decide +kernel
theorem dX2_hourOn_95 : decode cX2_hourOn 95 = .ok (.aload_n 0, 1) := by decide +kernel
theorem dX2_hourOn_96 : decode cX2_hourOn 96 = .ok (.getfield 32, 3) := by decide +kernel
theorem dX2_hourOn_99 : decode cX2_hourOn 99 = .ok (.bipush 12, 2) := by decide +kernel
theorem dX2_hourOn_101 : decode cX2_hourOn 101 = .ok (.iload_n 1, 1) := by decide +kernel
theorem dX2_hourOn_102 : decode cX2_hourOn 102 = .ok (.iadd, 1) := by decide +kernel
theorem dX2_hourOn_103 : decode cX2_hourOn 103 = .ok (.iaload, 1) := by decide +kernel
theorem dX2_hourOn_104 : decode cX2_hourOn 104 = .ok (.bipush 6, 2) := by decide +kernel
theorem dX2_hourOn_106 : decode cX2_hourOn 106 = .ok (.if_icmp .lt 13, 3) := by decide +kernel
theorem dX2_hourOn_109 : decode cX2_hourOn 109 = .ok (.aload_n 0, 1) := by decide +kernel
theorem dX2_hourOn_110 : decode cX2_hourOn 110 = .ok (.getfield 32, 3) := by decide +kernel
theorem dX2_hourOn_113 : decode cX2_hourOn 113 = .ok (.bipush 22, 2) := by decide +kernel
theorem dX2_hourOn_115 : decode cX2_hourOn 115 = .ok (.iload_n 1, 1) := by decide +kernel
theorem dX2_hourOn_116 : decode cX2_hourOn 116 = .ok (.iadd, 1) := by decide +kernel
theorem dX2_hourOn_117 : decode cX2_hourOn 117 = .ok (.iconst 1, 1) := by decide +kernel
theorem dX2_hourOn_118 : decode cX2_hourOn 118 = .ok (.iastore, 1) := by decide +kernel
theorem dX2_hourOn_119 : decode cX2_hourOn 119 = .ok (.iinc 1 1, 3) := by decide +kernel
theorem dX2_hourOn_122 : decode cX2_hourOn 122 = .ok (.goto (-68), 3) := by decide +kernel
theorem dX2_hourOn_125 : decode cX2_hourOn 125 = .ok (.aload_n 0, 1) := by decide +kernel
theorem dX2_hourOn_126 : decode cX2_hourOn 126 = .ok (.getfield 32, 3) := by decide +kernel
theorem dX2_hourOn_129 : decode cX2_hourOn 129 = .ok (.iconst 0, 1) := by decide +kernel
theorem dX2_hourOn_130 : decode cX2_hourOn 130 = .ok (.dup2, 1) := by decide +kernel
theorem dX2_hourOn_131 : decode cX2_hourOn 131 = .ok (.iaload, 1) := by decide +kernel
theorem dX2_hourOn_132 : decode cX2_hourOn 132 = .ok (.iconst 1, 1) := by decide +kernel
theorem dX2_hourOn_133 : decode cX2_hourOn 133 = .ok (.iadd, 1) := by decide +kernel
theorem dX2_hourOn_134 : decode cX2_hourOn 134 = .ok (.iastore, 1) := by decide +kernel
theorem dX2_hourOn_135 : decode cX2_hourOn 135 = .ok (.return_, 1) := by decide +kernel
theorem dX2_hoursOn_0 : decode cX2_hoursOn 0 = .ok (.iconst 0, 1) := by decide +kernel
theorem dX2_hoursOn_1 : decode cX2_hoursOn 1 = .ok (.istore_n 2, 1) := by decide +kernel
theorem dX2_hoursOn_2 : decode cX2_hoursOn 2 = .ok (.iload_n 2, 1) := by decide +kernel
theorem dX2_hoursOn_3 : decode cX2_hoursOn 3 = .ok (.iload_n 1, 1) := by decide +kernel
theorem dX2_hoursOn_4 : decode cX2_hoursOn 4 = .ok (.if_icmp .ge 13, 3) := by decide +kernel
theorem dX2_hoursOn_7 : decode cX2_hoursOn 7 = .ok (.aload_n 0, 1) := by decide +kernel
theorem dX2_hoursOn_8 : decode cX2_hoursOn 8 = .ok (.invokevirtual 87, 3) := by decide +kernel
theorem dX2_hoursOn_11 : decode cX2_hoursOn 11 = .ok (.iinc 2 1, 3) := by decide +kernel
theorem dX2_hoursOn_14 : decode cX2_hoursOn 14 = .ok (.goto (-12), 3) := by decide +kernel
theorem dX2_hoursOn_17 : decode cX2_hoursOn 17 = .ok (.return_, 1) := by decide +kernel
theorem dX2_ruined_0 : decode cX2_ruined 0 = .ok (.iconst 0, 1) := by decide +kernel
theorem dX2_ruined_1 : decode cX2_ruined 1 = .ok (.istore_n 1, 1) := by decide +kernel
theorem dX2_ruined_2 : decode cX2_ruined 2 = .ok (.iconst 0, 1) := by decide +kernel
theorem dX2_ruined_3 : decode cX2_ruined 3 = .ok (.istore_n 2, 1) := by decide +kernel
theorem dX2_ruined_4 : decode cX2_ruined 4 = .ok (.iload_n 2, 1) := by decide +kernel
theorem dX2_ruined_5 : decode cX2_ruined 5 = .ok (.aload_n 0, 1) := by decide +kernel
theorem dX2_ruined_6 : decode cX2_ruined 6 = .ok (.getfield 45, 3) := by decide +kernel
theorem dX2_ruined_9 : decode cX2_ruined 9 = .ok (.if_icmp .ge 21, 3) := by decide +kernel
theorem dX2_ruined_12 : decode cX2_ruined 12 = .ok (.iload_n 1, 1) := by decide +kernel
theorem dX2_ruined_13 : decode cX2_ruined 13 = .ok (.aload_n 0, 1) := by decide +kernel
theorem dX2_ruined_14 : decode cX2_ruined 14 = .ok (.getfield 32, 3) := by decide +kernel
theorem dX2_ruined_17 : decode cX2_ruined 17 = .ok (.bipush 22, 2) := by decide +kernel
theorem dX2_ruined_19 : decode cX2_ruined 19 = .ok (.iload_n 2, 1) := by decide +kernel
theorem dX2_ruined_20 : decode cX2_ruined 20 = .ok (.iadd, 1) := by decide +kernel
theorem dX2_ruined_21 : decode cX2_ruined 21 = .ok (.iaload, 1) := by decide +kernel
theorem dX2_ruined_22 : decode cX2_ruined 22 = .ok (.iadd, 1) := by decide +kernel
theorem dX2_ruined_23 : decode cX2_ruined 23 = .ok (.istore_n 1, 1) := by decide +kernel
theorem dX2_ruined_24 : decode cX2_ruined 24 = .ok (.iinc 2 1, 3) := by decide +kernel
theorem dX2_ruined_27 : decode cX2_ruined 27 = .ok (.goto (-23), 3) := by decide +kernel
theorem dX2_ruined_30 : decode cX2_ruined 30 = .ok (.iload_n 1, 1) := by decide +kernel
theorem dX2_ruined_31 : decode cX2_ruined 31 = .ok (.ireturn, 1) := by decide +kernel
theorem dX2_lost_0 : decode cX2_lost 0 = .ok (.iconst 0, 1) := by decide +kernel
theorem dX2_lost_1 : decode cX2_lost 1 = .ok (.istore_n 1, 1) := by decide +kernel
theorem dX2_lost_2 : decode cX2_lost 2 = .ok (.iconst 0, 1) := by decide +kernel
theorem dX2_lost_3 : decode cX2_lost 3 = .ok (.istore_n 2, 1) := by decide +kernel
theorem dX2_lost_4 : decode cX2_lost 4 = .ok (.iload_n 2, 1) := by decide +kernel
theorem dX2_lost_5 : decode cX2_lost 5 = .ok (.aload_n 0, 1) := by decide +kernel
theorem dX2_lost_6 : decode cX2_lost 6 = .ok (.getfield 45, 3) := by decide +kernel
theorem dX2_lost_9 : decode cX2_lost 9 = .ok (.if_icmp .ge 28, 3) := by decide +kernel
theorem dX2_lost_12 : decode cX2_lost 12 = .ok (.iload_n 1, 1) := by decide +kernel
theorem dX2_lost_13 : decode cX2_lost 13 = .ok (.aload_n 0, 1) := by decide +kernel
theorem dX2_lost_14 : decode cX2_lost 14 = .ok (.getfield 32, 3) := by decide +kernel
theorem dX2_lost_17 : decode cX2_lost 17 = .ok (.bipush 22, 2) := by decide +kernel
theorem dX2_lost_19 : decode cX2_lost 19 = .ok (.iload_n 2, 1) := by decide +kernel
theorem dX2_lost_20 : decode cX2_lost 20 = .ok (.iadd, 1) := by decide +kernel
theorem dX2_lost_21 : decode cX2_lost 21 = .ok (.iaload, 1) := by decide +kernel
theorem dX2_lost_22 : decode cX2_lost 22 = .ok (.aload_n 0, 1) := by decide +kernel
theorem dX2_lost_23 : decode cX2_lost 23 = .ok (.getfield 13, 3) := by decide +kernel
theorem dX2_lost_26 : decode cX2_lost 26 = .ok (.iload_n 2, 1) := by decide +kernel
theorem dX2_lost_27 : decode cX2_lost 27 = .ok (.iaload, 1) := by decide +kernel
theorem dX2_lost_28 : decode cX2_lost 28 = .ok (.imul, 1) := by decide +kernel
theorem dX2_lost_29 : decode cX2_lost 29 = .ok (.iadd, 1) := by decide +kernel
theorem dX2_lost_30 : decode cX2_lost 30 = .ok (.istore_n 1, 1) := by decide +kernel
theorem dX2_lost_31 : decode cX2_lost 31 = .ok (.iinc 2 1, 3) := by decide +kernel
theorem dX2_lost_34 : decode cX2_lost 34 = .ok (.goto (-30), 3) := by decide +kernel
theorem dX2_lost_37 : decode cX2_lost 37 = .ok (.iload_n 1, 1) := by decide +kernel
theorem dX2_lost_38 : decode cX2_lost 38 = .ok (.ireturn, 1) := by decide +kernel
theorem dX2_addField_0 : decode cX2_addField 0 = .ok (.aload_n 0, 1) := by decide +kernel
theorem dX2_addField_1 : decode cX2_addField 1 = .ok (.iconst 0, 1) := by decide +kernel
theorem dX2_addField_2 : decode cX2_addField 2 = .ok (.putfield 41, 3) := by decide +kernel
theorem dX2_addField_5 : decode cX2_addField 5 = .ok (.iload_n 1, 1) := by decide +kernel
theorem dX2_addField_6 : decode cX2_addField 6 = .ok (.iconst 0, 1) := by decide +kernel
theorem dX2_addField_7 : decode cX2_addField 7 = .ok (.bipush 20, 2) := by decide +kernel
theorem dX2_addField_9 : decode cX2_addField 9 = .ok (.invokestatic 48, 3) := by decide +kernel
theorem dX2_addField_12 : decode cX2_addField 12 = .ok (.ifCond .eq 13, 3) := by decide +kernel
theorem dX2_addField_15 : decode cX2_addField 15 = .ok (.iload_n 2, 1) := by decide +kernel
theorem dX2_addField_16 : decode cX2_addField 16 = .ok (.iconst 0, 1) := by decide +kernel
theorem dX2_addField_17 : decode cX2_addField 17 = .ok (.bipush 99, 2) := by decide +kernel
theorem dX2_addField_19 : decode cX2_addField 19 = .ok (.invokestatic 48, 3) := by decide +kernel
theorem dX2_addField_22 : decode cX2_addField 22 = .ok (.ifCond .ne 9, 3) := by decide +kernel
theorem dX2_addField_25 : decode cX2_addField 25 = .ok (.aload_n 0, 1) := by decide +kernel
theorem dX2_addField_26 : decode cX2_addField 26 = .ok (.iconst 1, 1) := by decide +kernel
theorem dX2_addField_27 : decode cX2_addField 27 = .ok (.invokevirtual 90, 3) := by decide +kernel
theorem dX2_addField_30 : decode cX2_addField 30 = .ok (.ireturn, 1) := by decide +kernel
theorem dX2_addField_31 : decode cX2_addField 31 = .ok (.aload_n 0, 1) := by decide +kernel
theorem dX2_addField_32 : decode cX2_addField 32 = .ok (.getfield 45, 3) := by decide +kernel
theorem dX2_addField_35 : decode cX2_addField 35 = .ok (.bipush 10, 2) := by decide +kernel
theorem dX2_addField_37 : decode cX2_addField 37 = .ok (.if_icmp .ne 9, 3) := by decide +kernel
theorem dX2_addField_40 : decode cX2_addField 40 = .ok (.aload_n 0, 1) := by decide +kernel
theorem dX2_addField_41 : decode cX2_addField 41 = .ok (.iconst 2, 1) := by decide +kernel
theorem dX2_addField_42 : decode cX2_addField 42 = .ok (.invokevirtual 90, 3) := by decide +kernel
theorem dX2_addField_45 : decode cX2_addField 45 = .ok (.ireturn, 1) := by decide +kernel
theorem dX2_addField_46 : decode cX2_addField 46 = .ok (.aload_n 0, 1) := by decide +kernel
theorem dX2_addField_47 : decode cX2_addField 47 = .ok (.getfield 9, 3) := by decide +kernel
theorem dX2_addField_50 : decode cX2_addField 50 = .ok (.aload_n 0, 1) := by decide +kernel
theorem dX2_addField_51 : decode cX2_addField 51 = .ok (.getfield 45, 3) := by decide +kernel
theorem dX2_addField_54 : decode cX2_addField 54 = .ok (.iload_n 1, 1) := by decide +kernel
theorem dX2_addField_55 : decode cX2_addField 55 = .ok (.iastore, 1) := by decide +kernel
theorem dX2_addField_56 : decode cX2_addField 56 = .ok (.aload_n 0, 1) := by decide +kernel
theorem dX2_addField_57 : decode cX2_addField 57 = .ok (.getfield 13, 3) := by decide +kernel
theorem dX2_addField_60 : decode cX2_addField 60 = .ok (.aload_n 0, 1) := by decide +kernel
theorem dX2_addField_61 : decode cX2_addField 61 = .ok (.getfield 45, 3) := by decide +kernel
theorem dX2_addField_64 : decode cX2_addField 64 = .ok (.iload_n 2, 1) := by decide +kernel
theorem dX2_addField_65 : decode cX2_addField 65 = .ok (.iastore, 1) := by decide +kernel
theorem dX2_addField_66 : decode cX2_addField 66 = .ok (.aload_n 0, 1) := by decide +kernel
theorem dX2_addField_67 : decode cX2_addField 67 = .ok (.dup, 1) := by decide +kernel
theorem dX2_addField_68 : decode cX2_addField 68 = .ok (.getfield 45, 3) := by decide +kernel
theorem dX2_addField_71 : decode cX2_addField 71 = .ok (.iconst 1, 1) := by decide +kernel
theorem dX2_addField_72 : decode cX2_addField 72 = .ok (.iadd, 1) := by decide +kernel
theorem dX2_addField_73 : decode cX2_addField 73 = .ok (.putfield 45, 3) := by decide +kernel
theorem dX2_addField_76 : decode cX2_addField 76 = .ok (.aload_n 0, 1) := by decide +kernel
theorem dX2_addField_77 : decode cX2_addField 77 = .ok (.getfield 45, 3) := by decide +kernel
theorem dX2_addField_80 : decode cX2_addField 80 = .ok (.iconst 1, 1) := by decide +kernel
theorem dX2_addField_81 : decode cX2_addField 81 = .ok (.isub, 1) := by decide +kernel
theorem dX2_addField_82 : decode cX2_addField 82 = .ok (.ireturn, 1) := by decide +kernel
theorem dX2_add_0 : decode cX2_add 0 = .ok (.iload_n 1, 1) := by decide +kernel
theorem dX2_add_1 : decode cX2_add 1 = .ok (.iload_n 2, 1) := by decide +kernel
theorem dX2_add_2 : decode cX2_add 2 = .ok (.if_icmp .eq 13, 3) := by decide +kernel
theorem dX2_add_5 : decode cX2_add 5 = .ok (.iload_n 3, 1) := by decide +kernel
theorem dX2_add_6 : decode cX2_add 6 = .ok (.iconst 1, 1) := by decide +kernel
theorem dX2_add_7 : decode cX2_add 7 = .ok (.bipush 9, 2) := by decide +kernel
theorem dX2_add_9 : decode cX2_add 9 = .ok (.invokestatic 48, 3) := by decide +kernel
theorem dX2_add_12 : decode cX2_add 12 = .ok (.ifCond .ne 9, 3) := by decide +kernel
theorem dX2_add_15 : decode cX2_add 15 = .ok (.aload_n 0, 1) := by decide +kernel
theorem dX2_add_16 : decode cX2_add 16 = .ok (.iconst 2, 1) := by decide +kernel
theorem dX2_add_17 : decode cX2_add 17 = .ok (.invokevirtual 90, 3) := by decide +kernel
theorem dX2_add_20 : decode cX2_add 20 = .ok (.ireturn, 1) := by decide +kernel
theorem dX2_add_21 : decode cX2_add 21 = .ok (.aload_n 0, 1) := by decide +kernel
theorem dX2_add_22 : decode cX2_add 22 = .ok (.getfield 52, 3) := by decide +kernel
theorem dX2_add_25 : decode cX2_add 25 = .ok (.bipush 16, 2) := by decide +kernel
theorem dX2_add_27 : decode cX2_add 27 = .ok (.if_icmp .ne 9, 3) := by decide +kernel
theorem dX2_add_30 : decode cX2_add 30 = .ok (.aload_n 0, 1) := by decide +kernel
theorem dX2_add_31 : decode cX2_add 31 = .ok (.iconst 3, 1) := by decide +kernel
theorem dX2_add_32 : decode cX2_add 32 = .ok (.invokevirtual 90, 3) := by decide +kernel
theorem dX2_add_35 : decode cX2_add 35 = .ok (.ireturn, 1) := by decide +kernel
theorem dX2_add_36 : decode cX2_add 36 = .ok (.aload_n 0, 1) := by decide +kernel
theorem dX2_add_37 : decode cX2_add 37 = .ok (.getfield 16, 3) := by decide +kernel
theorem dX2_add_40 : decode cX2_add 40 = .ok (.aload_n 0, 1) := by decide +kernel
theorem dX2_add_41 : decode cX2_add 41 = .ok (.getfield 52, 3) := by decide +kernel
theorem dX2_add_44 : decode cX2_add 44 = .ok (.iload_n 1, 1) := by decide +kernel
theorem dX2_add_45 : decode cX2_add 45 = .ok (.iastore, 1) := by decide +kernel
theorem dX2_add_46 : decode cX2_add 46 = .ok (.aload_n 0, 1) := by decide +kernel
theorem dX2_add_47 : decode cX2_add 47 = .ok (.getfield 19, 3) := by decide +kernel
theorem dX2_add_50 : decode cX2_add 50 = .ok (.aload_n 0, 1) := by decide +kernel
theorem dX2_add_51 : decode cX2_add 51 = .ok (.getfield 52, 3) := by decide +kernel
theorem dX2_add_54 : decode cX2_add 54 = .ok (.iload_n 2, 1) := by decide +kernel
theorem dX2_add_55 : decode cX2_add 55 = .ok (.iastore, 1) := by decide +kernel
theorem dX2_add_56 : decode cX2_add 56 = .ok (.aload_n 0, 1) := by decide +kernel
theorem dX2_add_57 : decode cX2_add 57 = .ok (.getfield 22, 3) := by decide +kernel
theorem dX2_add_60 : decode cX2_add 60 = .ok (.aload_n 0, 1) := by decide +kernel
theorem dX2_add_61 : decode cX2_add 61 = .ok (.getfield 52, 3) := by decide +kernel
theorem dX2_add_64 : decode cX2_add 64 = .ok (.iload_n 3, 1) := by decide +kernel
theorem dX2_add_65 : decode cX2_add 65 = .ok (.iastore, 1) := by decide +kernel
theorem dX2_add_66 : decode cX2_add 66 = .ok (.aload_n 0, 1) := by decide +kernel
theorem dX2_add_67 : decode cX2_add 67 = .ok (.getfield 25, 3) := by decide +kernel
theorem dX2_add_70 : decode cX2_add 70 = .ok (.aload_n 0, 1) := by decide +kernel
theorem dX2_add_71 : decode cX2_add 71 = .ok (.getfield 52, 3) := by decide +kernel
theorem dX2_add_74 : decode cX2_add 74 = .ok (.iload 4, 2) := by decide +kernel
theorem dX2_add_76 : decode cX2_add 76 = .ok (.bastore, 1) := by decide +kernel
theorem dX2_add_77 : decode cX2_add 77 = .ok (.aload_n 0, 1) := by decide +kernel
theorem dX2_add_78 : decode cX2_add 78 = .ok (.getfield 29, 3) := by decide +kernel
theorem dX2_add_81 : decode cX2_add 81 = .ok (.aload_n 0, 1) := by decide +kernel
theorem dX2_add_82 : decode cX2_add 82 = .ok (.getfield 52, 3) := by decide +kernel
theorem dX2_add_85 : decode cX2_add 85 = .ok (.iconst 1, 1) := by decide +kernel
theorem dX2_add_86 : decode cX2_add 86 = .ok (.bastore, 1) := by decide +kernel
theorem dX2_add_87 : decode cX2_add 87 = .ok (.aload_n 0, 1) := by decide +kernel
theorem dX2_add_88 : decode cX2_add 88 = .ok (.dup, 1) := by decide +kernel
theorem dX2_add_89 : decode cX2_add 89 = .ok (.getfield 52, 3) := by decide +kernel
theorem dX2_add_92 : decode cX2_add 92 = .ok (.iconst 1, 1) := by decide +kernel
theorem dX2_add_93 : decode cX2_add 93 = .ok (.iadd, 1) := by decide +kernel
theorem dX2_add_94 : decode cX2_add 94 = .ok (.putfield 52, 3) := by decide +kernel
theorem dX2_add_97 : decode cX2_add 97 = .ok (.aload_n 0, 1) := by decide +kernel
theorem dX2_add_98 : decode cX2_add 98 = .ok (.getfield 52, 3) := by decide +kernel
theorem dX2_add_101 : decode cX2_add 101 = .ok (.iconst 1, 1) := by decide +kernel
theorem dX2_add_102 : decode cX2_add 102 = .ok (.isub, 1) := by decide +kernel
theorem dX2_add_103 : decode cX2_add 103 = .ok (.ireturn, 1) := by decide +kernel
theorem dX2_addDitch_0 : decode cX2_addDitch 0 = .ok (.aload_n 0, 1) := by decide +kernel
theorem dX2_addDitch_1 : decode cX2_addDitch 1 = .ok (.iconst 0, 1) := by decide +kernel
theorem dX2_addDitch_2 : decode cX2_addDitch 2 = .ok (.putfield 41, 3) := by decide +kernel
theorem dX2_addDitch_5 : decode cX2_addDitch 5 = .ok (.aload_n 0, 1) := by decide +kernel
theorem dX2_addDitch_6 : decode cX2_addDitch 6 = .ok (.iload_n 1, 1) := by decide +kernel
theorem dX2_addDitch_7 : decode cX2_addDitch 7 = .ok (.invokevirtual 93, 3) := by decide +kernel
theorem dX2_addDitch_10 : decode cX2_addDitch 10 = .ok (.ifCond .eq 22, 3) := by decide +kernel
theorem dX2_addDitch_13 : decode cX2_addDitch 13 = .ok (.aload_n 0, 1) := by decide +kernel
theorem dX2_addDitch_14 : decode cX2_addDitch 14 = .ok (.iload_n 2, 1) := by decide +kernel
theorem dX2_addDitch_15 : decode cX2_addDitch 15 = .ok (.invokevirtual 93, 3) := by decide +kernel
theorem dX2_addDitch_18 : decode cX2_addDitch 18 = .ok (.ifCond .eq 14, 3) := by decide +kernel
theorem dX2_addDitch_21 : decode cX2_addDitch 21 = .ok (.aload_n 0, 1) := by decide +kernel
theorem dX2_addDitch_22 : decode cX2_addDitch 22 = .ok (.iload_n 1, 1) := by decide +kernel
theorem dX2_addDitch_23 : decode cX2_addDitch 23 = .ok (.iload_n 2, 1) := by decide +kernel
theorem dX2_addDitch_24 : decode cX2_addDitch 24 = .ok (.iload_n 3, 1) := by decide +kernel
theorem dX2_addDitch_25 : decode cX2_addDitch 25 = .ok (.iconst 0, 1) := by decide +kernel
theorem dX2_addDitch_26 : decode cX2_addDitch 26 = .ok (.invokevirtual 97, 3) := by decide +kernel
theorem dX2_addDitch_29 : decode cX2_addDitch 29 = .ok (.goto 8, 3) := by decide +kernel
theorem dX2_addDitch_32 : decode cX2_addDitch 32 = .ok (.aload_n 0, 1) := by decide +kernel
theorem dX2_addDitch_33 : decode cX2_addDitch 33 = .ok (.iconst 1, 1) := by decide +kernel
theorem dX2_addDitch_34 : decode cX2_addDitch 34 = .ok (.invokevirtual 90, 3) := by decide +kernel
theorem dX2_addDitch_37 : decode cX2_addDitch 37 = .ok (.ireturn, 1) := by decide +kernel
theorem dX2_addPump_0 : decode cX2_addPump 0 = .ok (.aload_n 0, 1) := by decide +kernel
theorem dX2_addPump_1 : decode cX2_addPump 1 = .ok (.iconst 0, 1) := by decide +kernel
theorem dX2_addPump_2 : decode cX2_addPump 2 = .ok (.putfield 41, 3) := by decide +kernel
theorem dX2_addPump_5 : decode cX2_addPump 5 = .ok (.aload_n 0, 1) := by decide +kernel
theorem dX2_addPump_6 : decode cX2_addPump 6 = .ok (.iload_n 1, 1) := by decide +kernel
theorem dX2_addPump_7 : decode cX2_addPump 7 = .ok (.invokevirtual 93, 3) := by decide +kernel
theorem dX2_addPump_10 : decode cX2_addPump 10 = .ok (.ifCond .eq 27, 3) := by decide +kernel
theorem dX2_addPump_13 : decode cX2_addPump 13 = .ok (.iload_n 2, 1) := by decide +kernel
theorem dX2_addPump_14 : decode cX2_addPump 14 = .ok (.iconst (-1), 1) := by decide +kernel
theorem dX2_addPump_15 : decode cX2_addPump 15 = .ok (.if_icmp .eq 11, 3) := by decide +kernel
theorem dX2_addPump_18 : decode cX2_addPump 18 = .ok (.aload_n 0, 1) := by decide +kernel
theorem dX2_addPump_19 : decode cX2_addPump 19 = .ok (.iload_n 2, 1) := by decide +kernel
theorem dX2_addPump_20 : decode cX2_addPump 20 = .ok (.invokevirtual 93, 3) := by decide +kernel
theorem dX2_addPump_23 : decode cX2_addPump 23 = .ok (.ifCond .eq 14, 3) := by decide +kernel
theorem dX2_addPump_26 : decode cX2_addPump 26 = .ok (.aload_n 0, 1) := by decide +kernel
theorem dX2_addPump_27 : decode cX2_addPump 27 = .ok (.iload_n 1, 1) := by decide +kernel
theorem dX2_addPump_28 : decode cX2_addPump 28 = .ok (.iload_n 2, 1) := by decide +kernel
theorem dX2_addPump_29 : decode cX2_addPump 29 = .ok (.iload_n 3, 1) := by decide +kernel
theorem dX2_addPump_30 : decode cX2_addPump 30 = .ok (.iconst 1, 1) := by decide +kernel
theorem dX2_addPump_31 : decode cX2_addPump 31 = .ok (.invokevirtual 97, 3) := by decide +kernel
theorem dX2_addPump_34 : decode cX2_addPump 34 = .ok (.goto 8, 3) := by decide +kernel
theorem dX2_addPump_37 : decode cX2_addPump 37 = .ok (.aload_n 0, 1) := by decide +kernel
theorem dX2_addPump_38 : decode cX2_addPump 38 = .ok (.iconst 1, 1) := by decide +kernel
theorem dX2_addPump_39 : decode cX2_addPump 39 = .ok (.invokevirtual 90, 3) := by decide +kernel
theorem dX2_addPump_42 : decode cX2_addPump 42 = .ok (.ireturn, 1) := by decide +kernel
theorem dX2_turn_0 : decode cX2_turn 0 = .ok (.aload_n 0, 1) := by decide +kernel
theorem dX2_turn_1 : decode cX2_turn 1 = .ok (.iconst 0, 1) := by decide +kernel
theorem dX2_turn_2 : decode cX2_turn 2 = .ok (.putfield 41, 3) := by decide +kernel
theorem dX2_turn_5 : decode cX2_turn 5 = .ok (.aload_n 0, 1) := by decide +kernel
theorem dX2_turn_6 : decode cX2_turn 6 = .ok (.iload_n 1, 1) := by decide +kernel
theorem dX2_turn_7 : decode cX2_turn 7 = .ok (.invokevirtual 101, 3) := by decide +kernel
theorem dX2_turn_10 : decode cX2_turn 10 = .ok (.ifCond .ne 9, 3) := by decide +kernel
theorem dX2_turn_13 : decode cX2_turn 13 = .ok (.aload_n 0, 1) := by decide +kernel
theorem dX2_turn_14 : decode cX2_turn 14 = .ok (.iconst 1, 1) := by decide +kernel
theorem dX2_turn_15 : decode cX2_turn 15 = .ok (.invokevirtual 104, 3) := by decide +kernel
theorem dX2_turn_18 : decode cX2_turn 18 = .ok (.ireturn, 1) := by decide +kernel
theorem dX2_turn_19 : decode cX2_turn 19 = .ok (.aload_n 0, 1) := by decide +kernel
theorem dX2_turn_20 : decode cX2_turn 20 = .ok (.getfield 29, 3) := by decide +kernel
theorem dX2_turn_23 : decode cX2_turn 23 = .ok (.iload_n 1, 1) := by decide +kernel
theorem dX2_turn_24 : decode cX2_turn 24 = .ok (.aload_n 0, 1) := by decide +kernel
theorem dX2_turn_25 : decode cX2_turn 25 = .ok (.getfield 29, 3) := by decide +kernel
theorem dX2_turn_28 : decode cX2_turn 28 = .ok (.iload_n 1, 1) := by decide +kernel
theorem dX2_turn_29 : decode cX2_turn 29 = .ok (.baload, 1) := by decide +kernel
theorem dX2_turn_30 : decode cX2_turn 30 = .ok (.ifCond .ne 7, 3) := by decide +kernel
theorem dX2_turn_33 : decode cX2_turn 33 = .ok (.iconst 1, 1) := by decide +kernel
theorem dX2_turn_34 : decode cX2_turn 34 = .ok (.goto 4, 3) := by decide +kernel
theorem dX2_turn_37 : decode cX2_turn 37 = .ok (.iconst 0, 1) := by decide +kernel
theorem dX2_turn_38 : decode cX2_turn 38 = .ok (.bastore, 1) := by decide +kernel
theorem dX2_turn_39 : decode cX2_turn 39 = .ok (.aload_n 0, 1) := by decide +kernel
theorem dX2_turn_40 : decode cX2_turn 40 = .ok (.getfield 29, 3) := by decide +kernel
theorem dX2_turn_43 : decode cX2_turn 43 = .ok (.iload_n 1, 1) := by decide +kernel
theorem dX2_turn_44 : decode cX2_turn 44 = .ok (.baload, 1) := by decide +kernel
theorem dX2_turn_45 : decode cX2_turn 45 = .ok (.ireturn, 1) := by decide +kernel
theorem dX2_setRain_0 : decode cX2_setRain 0 = .ok (.aload_n 0, 1) := by decide +kernel
theorem dX2_setRain_1 : decode cX2_setRain 1 = .ok (.iconst 0, 1) := by decide +kernel
theorem dX2_setRain_2 : decode cX2_setRain 2 = .ok (.putfield 41, 3) := by decide +kernel
theorem dX2_setRain_5 : decode cX2_setRain 5 = .ok (.iload_n 1, 1) := by decide +kernel
theorem dX2_setRain_6 : decode cX2_setRain 6 = .ok (.iconst 0, 1) := by decide +kernel
theorem dX2_setRain_7 : decode cX2_setRain 7 = .ok (.bipush 9, 2) := by decide +kernel
theorem dX2_setRain_9 : decode cX2_setRain 9 = .ok (.invokestatic 48, 3) := by decide +kernel
theorem dX2_setRain_12 : decode cX2_setRain 12 = .ok (.ifCond .ne 9, 3) := by decide +kernel
theorem dX2_setRain_15 : decode cX2_setRain 15 = .ok (.aload_n 0, 1) := by decide +kernel
theorem dX2_setRain_16 : decode cX2_setRain 16 = .ok (.iconst 1, 1) := by decide +kernel
theorem dX2_setRain_17 : decode cX2_setRain 17 = .ok (.invokevirtual 90, 3) := by decide +kernel
theorem dX2_setRain_20 : decode cX2_setRain 20 = .ok (.ireturn, 1) := by decide +kernel
theorem dX2_setRain_21 : decode cX2_setRain 21 = .ok (.aload_n 0, 1) := by decide +kernel
theorem dX2_setRain_22 : decode cX2_setRain 22 = .ok (.getfield 80, 3) := by decide +kernel
theorem dX2_setRain_25 : decode cX2_setRain 25 = .ok (.istore_n 2, 1) := by decide +kernel
theorem dX2_setRain_26 : decode cX2_setRain 26 = .ok (.aload_n 0, 1) := by decide +kernel
theorem dX2_setRain_27 : decode cX2_setRain 27 = .ok (.iload_n 1, 1) := by decide +kernel
theorem dX2_setRain_28 : decode cX2_setRain 28 = .ok (.putfield 80, 3) := by decide +kernel
theorem dX2_setRain_31 : decode cX2_setRain 31 = .ok (.iload_n 2, 1) := by decide +kernel
theorem dX2_setRain_32 : decode cX2_setRain 32 = .ok (.ireturn, 1) := by decide +kernel
theorem dX2_flood_0 : decode cX2_flood 0 = .ok (.aload_n 0, 1) := by decide +kernel
theorem dX2_flood_1 : decode cX2_flood 1 = .ok (.iconst 0, 1) := by decide +kernel
theorem dX2_flood_2 : decode cX2_flood 2 = .ok (.putfield 41, 3) := by decide +kernel
theorem dX2_flood_5 : decode cX2_flood 5 = .ok (.aload_n 0, 1) := by decide +kernel
theorem dX2_flood_6 : decode cX2_flood 6 = .ok (.iload_n 1, 1) := by decide +kernel
theorem dX2_flood_7 : decode cX2_flood 7 = .ok (.invokevirtual 93, 3) := by decide +kernel
theorem dX2_flood_10 : decode cX2_flood 10 = .ok (.ifCond .ne 9, 3) := by decide +kernel
theorem dX2_flood_13 : decode cX2_flood 13 = .ok (.aload_n 0, 1) := by decide +kernel
theorem dX2_flood_14 : decode cX2_flood 14 = .ok (.iconst 1, 1) := by decide +kernel
theorem dX2_flood_15 : decode cX2_flood 15 = .ok (.invokevirtual 90, 3) := by decide +kernel
theorem dX2_flood_18 : decode cX2_flood 18 = .ok (.ireturn, 1) := by decide +kernel
theorem dX2_flood_19 : decode cX2_flood 19 = .ok (.iload_n 2, 1) := by decide +kernel
theorem dX2_flood_20 : decode cX2_flood 20 = .ok (.iconst 1, 1) := by decide +kernel
theorem dX2_flood_21 : decode cX2_flood 21 = .ok (.bipush 50, 2) := by decide +kernel
theorem dX2_flood_23 : decode cX2_flood 23 = .ok (.invokestatic 48, 3) := by decide +kernel
theorem dX2_flood_26 : decode cX2_flood 26 = .ok (.ifCond .ne 9, 3) := by decide +kernel
theorem dX2_flood_29 : decode cX2_flood 29 = .ok (.aload_n 0, 1) := by decide +kernel
theorem dX2_flood_30 : decode cX2_flood 30 = .ok (.iconst 2, 1) := by decide +kernel
theorem dX2_flood_31 : decode cX2_flood 31 = .ok (.invokevirtual 90, 3) := by decide +kernel
theorem dX2_flood_34 : decode cX2_flood 34 = .ok (.ireturn, 1) := by decide +kernel
theorem dX2_flood_35 : decode cX2_flood 35 = .ok (.aload_n 0, 1) := by decide +kernel
theorem dX2_flood_36 : decode cX2_flood 36 = .ok (.getfield 32, 3) := by decide +kernel
theorem dX2_flood_39 : decode cX2_flood 39 = .ok (.iconst 2, 1) := by decide +kernel
theorem dX2_flood_40 : decode cX2_flood 40 = .ok (.iload_n 1, 1) := by decide +kernel
theorem dX2_flood_41 : decode cX2_flood 41 = .ok (.iadd, 1) := by decide +kernel
theorem dX2_flood_42 : decode cX2_flood 42 = .ok (.dup2, 1) := by decide +kernel
theorem dX2_flood_43 : decode cX2_flood 43 = .ok (.iaload, 1) := by decide +kernel
theorem dX2_flood_44 : decode cX2_flood 44 = .ok (.iload_n 2, 1) := by decide +kernel
theorem dX2_flood_45 : decode cX2_flood 45 = .ok (.iadd, 1) := by decide +kernel
theorem dX2_flood_46 : decode cX2_flood 46 = .ok (.iastore, 1) := by decide +kernel
theorem dX2_flood_47 : decode cX2_flood 47 = .ok (.aload_n 0, 1) := by decide +kernel
theorem dX2_flood_48 : decode cX2_flood 48 = .ok (.iload_n 1, 1) := by decide +kernel
theorem dX2_flood_49 : decode cX2_flood 49 = .ok (.invokevirtual 61, 3) := by decide +kernel
theorem dX2_flood_52 : decode cX2_flood 52 = .ok (.ireturn, 1) := by decide +kernel
theorem dX2_pass_0 : decode cX2_pass 0 = .ok (.aload_n 0, 1) := by decide +kernel
theorem dX2_pass_1 : decode cX2_pass 1 = .ok (.iconst 0, 1) := by decide +kernel
theorem dX2_pass_2 : decode cX2_pass 2 = .ok (.putfield 41, 3) := by decide +kernel
theorem dX2_pass_5 : decode cX2_pass 5 = .ok (.iload_n 1, 1) := by decide +kernel
theorem dX2_pass_6 : decode cX2_pass 6 = .ok (.iconst 1, 1) := by decide +kernel
theorem dX2_pass_7 : decode cX2_pass 7 = .ok (.bipush 48, 2) := by decide +kernel
theorem dX2_pass_9 : decode cX2_pass 9 = .ok (.invokestatic 48, 3) := by decide +kernel
theorem dX2_pass_12 : decode cX2_pass 12 = .ok (.ifCond .ne 9, 3) := by decide +kernel
theorem dX2_pass_15 : decode cX2_pass 15 = .ok (.aload_n 0, 1) := by decide +kernel
theorem dX2_pass_16 : decode cX2_pass 16 = .ok (.iconst 1, 1) := by decide +kernel
theorem dX2_pass_17 : decode cX2_pass 17 = .ok (.invokevirtual 90, 3) := by decide +kernel
theorem dX2_pass_20 : decode cX2_pass 20 = .ok (.ireturn, 1) := by decide +kernel
theorem dX2_pass_21 : decode cX2_pass 21 = .ok (.aload_n 0, 1) := by decide +kernel
theorem dX2_pass_22 : decode cX2_pass 22 = .ok (.invokevirtual 107, 3) := by decide +kernel
theorem dX2_pass_25 : decode cX2_pass 25 = .ok (.istore_n 2, 1) := by decide +kernel
theorem dX2_pass_26 : decode cX2_pass 26 = .ok (.aload_n 0, 1) := by decide +kernel
theorem dX2_pass_27 : decode cX2_pass 27 = .ok (.iload_n 1, 1) := by decide +kernel
theorem dX2_pass_28 : decode cX2_pass 28 = .ok (.invokevirtual 111, 3) := by decide +kernel
theorem dX2_pass_31 : decode cX2_pass 31 = .ok (.aload_n 0, 1) := by decide +kernel
theorem dX2_pass_32 : decode cX2_pass 32 = .ok (.invokevirtual 107, 3) := by decide +kernel
theorem dX2_pass_35 : decode cX2_pass 35 = .ok (.iload_n 2, 1) := by decide +kernel
theorem dX2_pass_36 : decode cX2_pass 36 = .ok (.isub, 1) := by decide +kernel
theorem dX2_pass_37 : decode cX2_pass 37 = .ok (.ireturn, 1) := by decide +kernel
theorem dX2_hour_0 : decode cX2_hour 0 = .ok (.aload_n 0, 1) := by decide +kernel
theorem dX2_hour_1 : decode cX2_hour 1 = .ok (.aload_n 0, 1) := by decide +kernel
theorem dX2_hour_2 : decode cX2_hour 2 = .ok (.getfield 32, 3) := by decide +kernel
theorem dX2_hour_5 : decode cX2_hour 5 = .ok (.iconst 0, 1) := by decide +kernel
theorem dX2_hour_6 : decode cX2_hour 6 = .ok (.iaload, 1) := by decide +kernel
theorem dX2_hour_7 : decode cX2_hour 7 = .ok (.invokevirtual 114, 3) := by decide +kernel
theorem dX2_hour_10 : decode cX2_hour 10 = .ok (.ireturn, 1) := by decide +kernel
theorem dX2_fields_0 : decode cX2_fields 0 = .ok (.aload_n 0, 1) := by decide +kernel
theorem dX2_fields_1 : decode cX2_fields 1 = .ok (.aload_n 0, 1) := by decide +kernel
theorem dX2_fields_2 : decode cX2_fields 2 = .ok (.getfield 45, 3) := by decide +kernel
theorem dX2_fields_5 : decode cX2_fields 5 = .ok (.invokevirtual 114, 3) := by decide +kernel
theorem dX2_fields_8 : decode cX2_fields 8 = .ok (.ireturn, 1) := by decide +kernel
theorem dX2_drains_0 : decode cX2_drains 0 = .ok (.aload_n 0, 1) := by decide +kernel
theorem dX2_drains_1 : decode cX2_drains 1 = .ok (.aload_n 0, 1) := by decide +kernel
theorem dX2_drains_2 : decode cX2_drains 2 = .ok (.getfield 52, 3) := by decide +kernel
theorem dX2_drains_5 : decode cX2_drains 5 = .ok (.invokevirtual 114, 3) := by decide +kernel
theorem dX2_drains_8 : decode cX2_drains 8 = .ok (.ireturn, 1) := by decide +kernel
theorem dX2_rain_0 : decode cX2_rain 0 = .ok (.aload_n 0, 1) := by decide +kernel
theorem dX2_rain_1 : decode cX2_rain 1 = .ok (.aload_n 0, 1) := by decide +kernel
theorem dX2_rain_2 : decode cX2_rain 2 = .ok (.getfield 80, 3) := by decide +kernel
theorem dX2_rain_5 : decode cX2_rain 5 = .ok (.invokevirtual 114, 3) := by decide +kernel
theorem dX2_rain_8 : decode cX2_rain 8 = .ok (.ireturn, 1) := by decide +kernel
theorem dX2_allWater_0 : decode cX2_allWater 0 = .ok (.iconst 0, 1) := by decide +kernel
theorem dX2_allWater_1 : decode cX2_allWater 1 = .ok (.istore_n 1, 1) := by decide +kernel
theorem dX2_allWater_2 : decode cX2_allWater 2 = .ok (.iconst 0, 1) := by decide +kernel
theorem dX2_allWater_3 : decode cX2_allWater 3 = .ok (.istore_n 2, 1) := by decide +kernel
theorem dX2_allWater_4 : decode cX2_allWater 4 = .ok (.iload_n 2, 1) := by decide +kernel
theorem dX2_allWater_5 : decode cX2_allWater 5 = .ok (.aload_n 0, 1) := by decide +kernel
theorem dX2_allWater_6 : decode cX2_allWater 6 = .ok (.getfield 45, 3) := by decide +kernel
theorem dX2_allWater_9 : decode cX2_allWater 9 = .ok (.if_icmp .ge 17, 3) := by decide +kernel
theorem dX2_allWater_12 : decode cX2_allWater 12 = .ok (.iload_n 1, 1) := by decide +kernel
theorem dX2_allWater_13 : decode cX2_allWater 13 = .ok (.aload_n 0, 1) := by decide +kernel
theorem dX2_allWater_14 : decode cX2_allWater 14 = .ok (.iload_n 2, 1) := by decide +kernel
theorem dX2_allWater_15 : decode cX2_allWater 15 = .ok (.invokevirtual 61, 3) := by decide +kernel
theorem dX2_allWater_18 : decode cX2_allWater 18 = .ok (.iadd, 1) := by decide +kernel
theorem dX2_allWater_19 : decode cX2_allWater 19 = .ok (.istore_n 1, 1) := by decide +kernel
theorem dX2_allWater_20 : decode cX2_allWater 20 = .ok (.iinc 2 1, 3) := by decide +kernel
theorem dX2_allWater_23 : decode cX2_allWater 23 = .ok (.goto (-19), 3) := by decide +kernel
theorem dX2_allWater_26 : decode cX2_allWater 26 = .ok (.iload_n 1, 1) := by decide +kernel
theorem dX2_allWater_27 : decode cX2_allWater 27 = .ok (.ireturn, 1) := by decide +kernel
theorem dX2_water__0 : decode cX2_water_ 0 = .ok (.aload_n 0, 1) := by decide +kernel
theorem dX2_water__1 : decode cX2_water_ 1 = .ok (.aload_n 0, 1) := by decide +kernel
theorem dX2_water__2 : decode cX2_water_ 2 = .ok (.invokevirtual 117, 3) := by decide +kernel
theorem dX2_water__5 : decode cX2_water_ 5 = .ok (.invokevirtual 114, 3) := by decide +kernel
theorem dX2_water__8 : decode cX2_water_ 8 = .ok (.ireturn, 1) := by decide +kernel
theorem dX2_drained_0 : decode cX2_drained 0 = .ok (.aload_n 0, 1) := by decide +kernel
theorem dX2_drained_1 : decode cX2_drained 1 = .ok (.aload_n 0, 1) := by decide +kernel
theorem dX2_drained_2 : decode cX2_drained 2 = .ok (.getfield 32, 3) := by decide +kernel
theorem dX2_drained_5 : decode cX2_drained 5 = .ok (.iconst 1, 1) := by decide +kernel
theorem dX2_drained_6 : decode cX2_drained 6 = .ok (.iaload, 1) := by decide +kernel
theorem dX2_drained_7 : decode cX2_drained 7 = .ok (.invokevirtual 114, 3) := by decide +kernel
theorem dX2_drained_10 : decode cX2_drained 10 = .ok (.ireturn, 1) := by decide +kernel
theorem dX2_wet_0 : decode cX2_wet 0 = .ok (.iconst 0, 1) := by decide +kernel
theorem dX2_wet_1 : decode cX2_wet 1 = .ok (.istore_n 1, 1) := by decide +kernel
theorem dX2_wet_2 : decode cX2_wet 2 = .ok (.iconst 0, 1) := by decide +kernel
theorem dX2_wet_3 : decode cX2_wet 3 = .ok (.istore_n 2, 1) := by decide +kernel
theorem dX2_wet_4 : decode cX2_wet 4 = .ok (.iload_n 2, 1) := by decide +kernel
theorem dX2_wet_5 : decode cX2_wet 5 = .ok (.aload_n 0, 1) := by decide +kernel
theorem dX2_wet_6 : decode cX2_wet 6 = .ok (.getfield 45, 3) := by decide +kernel
theorem dX2_wet_9 : decode cX2_wet 9 = .ok (.if_icmp .ge 26, 3) := by decide +kernel
theorem dX2_wet_12 : decode cX2_wet 12 = .ok (.iload_n 1, 1) := by decide +kernel
theorem dX2_wet_13 : decode cX2_wet 13 = .ok (.aload_n 0, 1) := by decide +kernel
theorem dX2_wet_14 : decode cX2_wet 14 = .ok (.iload_n 2, 1) := by decide +kernel
theorem dX2_wet_15 : decode cX2_wet 15 = .ok (.invokevirtual 61, 3) := by decide +kernel
theorem dX2_wet_18 : decode cX2_wet 18 = .ok (.iconst 4, 1) := by decide +kernel
theorem dX2_wet_19 : decode cX2_wet 19 = .ok (.if_icmp .lt 7, 3) := by decide +kernel
theorem dX2_wet_22 : decode cX2_wet 22 = .ok (.iconst 1, 1) := by decide +kernel
theorem dX2_wet_23 : decode cX2_wet 23 = .ok (.goto 4, 3) := by decide +kernel
theorem dX2_wet_26 : decode cX2_wet 26 = .ok (.iconst 0, 1) := by decide +kernel
theorem dX2_wet_27 : decode cX2_wet 27 = .ok (.iadd, 1) := by decide +kernel
theorem dX2_wet_28 : decode cX2_wet 28 = .ok (.istore_n 1, 1) := by decide +kernel
theorem dX2_wet_29 : decode cX2_wet 29 = .ok (.iinc 2 1, 3) := by decide +kernel
theorem dX2_wet_32 : decode cX2_wet 32 = .ok (.goto (-28), 3) := by decide +kernel
theorem dX2_wet_35 : decode cX2_wet 35 = .ok (.iload_n 1, 1) := by decide +kernel
theorem dX2_wet_36 : decode cX2_wet 36 = .ok (.ireturn, 1) := by decide +kernel
theorem dX2_wetFields_0 : decode cX2_wetFields 0 = .ok (.aload_n 0, 1) := by decide +kernel
theorem dX2_wetFields_1 : decode cX2_wetFields 1 = .ok (.aload_n 0, 1) := by decide +kernel
theorem dX2_wetFields_2 : decode cX2_wetFields 2 = .ok (.invokevirtual 120, 3) := by decide +kernel
theorem dX2_wetFields_5 : decode cX2_wetFields 5 = .ok (.invokevirtual 114, 3) := by decide +kernel
theorem dX2_wetFields_8 : decode cX2_wetFields 8 = .ok (.ireturn, 1) := by decide +kernel
theorem dX2_ruinedFields_0 : decode cX2_ruinedFields 0 = .ok (.aload_n 0, 1) := by decide +kernel
theorem dX2_ruinedFields_1 : decode cX2_ruinedFields 1 = .ok (.aload_n 0, 1) := by decide +kernel
theorem dX2_ruinedFields_2 : decode cX2_ruinedFields 2 = .ok (.invokevirtual 107, 3) := by decide +kernel
theorem dX2_ruinedFields_5 : decode cX2_ruinedFields 5 = .ok (.invokevirtual 114, 3) := by decide +kernel
theorem dX2_ruinedFields_8 : decode cX2_ruinedFields 8 = .ok (.ireturn, 1) := by decide +kernel
theorem dX2_loss_0 : decode cX2_loss 0 = .ok (.aload_n 0, 1) := by decide +kernel
theorem dX2_loss_1 : decode cX2_loss 1 = .ok (.aload_n 0, 1) := by decide +kernel
theorem dX2_loss_2 : decode cX2_loss 2 = .ok (.invokevirtual 123, 3) := by decide +kernel
theorem dX2_loss_5 : decode cX2_loss 5 = .ok (.invokevirtual 114, 3) := by decide +kernel
theorem dX2_loss_8 : decode cX2_loss 8 = .ok (.ireturn, 1) := by decide +kernel
theorem dX2_of_0 : decode cX2_of 0 = .ok (.aload_n 0, 1) := by decide +kernel
theorem dX2_of_1 : decode cX2_of 1 = .ok (.iconst 0, 1) := by decide +kernel
theorem dX2_of_2 : decode cX2_of 2 = .ok (.putfield 41, 3) := by decide +kernel
theorem dX2_of_5 : decode cX2_of 5 = .ok (.aload_n 0, 1) := by decide +kernel
theorem dX2_of_6 : decode cX2_of 6 = .ok (.iload_n 1, 1) := by decide +kernel
theorem dX2_of_7 : decode cX2_of 7 = .ok (.invokevirtual 93, 3) := by decide +kernel
theorem dX2_of_10 : decode cX2_of 10 = .ok (.ifCond .eq 14, 3) := by decide +kernel
theorem dX2_of_13 : decode cX2_of 13 = .ok (.aload_n 0, 1) := by decide +kernel
theorem dX2_of_14 : decode cX2_of 14 = .ok (.getfield 32, 3) := by decide +kernel
theorem dX2_of_17 : decode cX2_of 17 = .ok (.iload_n 2, 1) := by decide +kernel
theorem dX2_of_18 : decode cX2_of 18 = .ok (.iload_n 1, 1) := by decide +kernel
theorem dX2_of_19 : decode cX2_of 19 = .ok (.iadd, 1) := by decide +kernel
theorem dX2_of_20 : decode cX2_of 20 = .ok (.iaload, 1) := by decide +kernel
theorem dX2_of_21 : decode cX2_of 21 = .ok (.goto 8, 3) := by decide +kernel
theorem dX2_of_24 : decode cX2_of 24 = .ok (.aload_n 0, 1) := by decide +kernel
theorem dX2_of_25 : decode cX2_of 25 = .ok (.iconst 1, 1) := by decide +kernel
theorem dX2_of_26 : decode cX2_of 26 = .ok (.invokevirtual 90, 3) := by decide +kernel
theorem dX2_of_29 : decode cX2_of 29 = .ok (.ireturn, 1) := by decide +kernel
theorem dX2_waterOn_0 : decode cX2_waterOn 0 = .ok (.aload_n 0, 1) := by decide +kernel
theorem dX2_waterOn_1 : decode cX2_waterOn 1 = .ok (.iload_n 1, 1) := by decide +kernel
theorem dX2_waterOn_2 : decode cX2_waterOn 2 = .ok (.iconst 2, 1) := by decide +kernel
theorem dX2_waterOn_3 : decode cX2_waterOn 3 = .ok (.invokevirtual 126, 3) := by decide +kernel
theorem dX2_waterOn_6 : decode cX2_waterOn 6 = .ok (.ireturn, 1) := by decide +kernel
theorem dX2_levelOf_0 : decode cX2_levelOf 0 = .ok (.aload_n 0, 1) := by decide +kernel
theorem dX2_levelOf_1 : decode cX2_levelOf 1 = .ok (.iconst 0, 1) := by decide +kernel
theorem dX2_levelOf_2 : decode cX2_levelOf 2 = .ok (.putfield 41, 3) := by decide +kernel
theorem dX2_levelOf_5 : decode cX2_levelOf 5 = .ok (.aload_n 0, 1) := by decide +kernel
theorem dX2_levelOf_6 : decode cX2_levelOf 6 = .ok (.iload_n 1, 1) := by decide +kernel
theorem dX2_levelOf_7 : decode cX2_levelOf 7 = .ok (.invokevirtual 93, 3) := by decide +kernel
theorem dX2_levelOf_10 : decode cX2_levelOf 10 = .ok (.ifCond .eq 11, 3) := by decide +kernel
theorem dX2_levelOf_13 : decode cX2_levelOf 13 = .ok (.aload_n 0, 1) := by decide +kernel
theorem dX2_levelOf_14 : decode cX2_levelOf 14 = .ok (.iload_n 1, 1) := by decide +kernel
theorem dX2_levelOf_15 : decode cX2_levelOf 15 = .ok (.invokevirtual 71, 3) := by decide +kernel
theorem dX2_levelOf_18 : decode cX2_levelOf 18 = .ok (.goto 8, 3) := by decide +kernel
theorem dX2_levelOf_21 : decode cX2_levelOf 21 = .ok (.aload_n 0, 1) := by decide +kernel
theorem dX2_levelOf_22 : decode cX2_levelOf 22 = .ok (.iconst 1, 1) := by decide +kernel
theorem dX2_levelOf_23 : decode cX2_levelOf 23 = .ok (.invokevirtual 90, 3) := by decide +kernel
theorem dX2_levelOf_26 : decode cX2_levelOf 26 = .ok (.ireturn, 1) := by decide +kernel
theorem dX2_wetFor_0 : decode cX2_wetFor 0 = .ok (.aload_n 0, 1) := by decide +kernel
theorem dX2_wetFor_1 : decode cX2_wetFor 1 = .ok (.iload_n 1, 1) := by decide +kernel
theorem dX2_wetFor_2 : decode cX2_wetFor 2 = .ok (.bipush 12, 2) := by decide +kernel
theorem dX2_wetFor_4 : decode cX2_wetFor 4 = .ok (.invokevirtual 126, 3) := by decide +kernel
theorem dX2_wetFor_7 : decode cX2_wetFor 7 = .ok (.ireturn, 1) := by decide +kernel
theorem dX2_isRuined_0 : decode cX2_isRuined 0 = .ok (.aload_n 0, 1) := by decide +kernel
theorem dX2_isRuined_1 : decode cX2_isRuined 1 = .ok (.iconst 0, 1) := by decide +kernel
theorem dX2_isRuined_2 : decode cX2_isRuined 2 = .ok (.putfield 41, 3) := by decide +kernel
theorem dX2_isRuined_5 : decode cX2_isRuined 5 = .ok (.aload_n 0, 1) := by decide +kernel
theorem dX2_isRuined_6 : decode cX2_isRuined 6 = .ok (.iload_n 1, 1) := by decide +kernel
theorem dX2_isRuined_7 : decode cX2_isRuined 7 = .ok (.invokevirtual 93, 3) := by decide +kernel
theorem dX2_isRuined_10 : decode cX2_isRuined 10 = .ok (.ifCond .eq 24, 3) := by decide +kernel
theorem dX2_isRuined_13 : decode cX2_isRuined 13 = .ok (.aload_n 0, 1) := by decide +kernel
theorem dX2_isRuined_14 : decode cX2_isRuined 14 = .ok (.getfield 32, 3) := by decide +kernel
theorem dX2_isRuined_17 : decode cX2_isRuined 17 = .ok (.bipush 22, 2) := by decide +kernel
theorem dX2_isRuined_19 : decode cX2_isRuined 19 = .ok (.iload_n 1, 1) := by decide +kernel
theorem dX2_isRuined_20 : decode cX2_isRuined 20 = .ok (.iadd, 1) := by decide +kernel
theorem dX2_isRuined_21 : decode cX2_isRuined 21 = .ok (.iaload, 1) := by decide +kernel
theorem dX2_isRuined_22 : decode cX2_isRuined 22 = .ok (.iconst 1, 1) := by decide +kernel
theorem dX2_isRuined_23 : decode cX2_isRuined 23 = .ok (.if_icmp .ne 7, 3) := by decide +kernel
theorem dX2_isRuined_26 : decode cX2_isRuined 26 = .ok (.iconst 1, 1) := by decide +kernel
theorem dX2_isRuined_27 : decode cX2_isRuined 27 = .ok (.goto 12, 3) := by decide +kernel
theorem dX2_isRuined_30 : decode cX2_isRuined 30 = .ok (.iconst 0, 1) := by decide +kernel
theorem dX2_isRuined_31 : decode cX2_isRuined 31 = .ok (.goto 8, 3) := by decide +kernel
theorem dX2_isRuined_34 : decode cX2_isRuined 34 = .ok (.aload_n 0, 1) := by decide +kernel
theorem dX2_isRuined_35 : decode cX2_isRuined 35 = .ok (.iconst 1, 1) := by decide +kernel
theorem dX2_isRuined_36 : decode cX2_isRuined 36 = .ok (.invokevirtual 104, 3) := by decide +kernel
theorem dX2_isRuined_39 : decode cX2_isRuined 39 = .ok (.ireturn, 1) := by decide +kernel
theorem dX2_openAt_0 : decode cX2_openAt 0 = .ok (.iconst 0, 1) := by decide +kernel
theorem dX2_openAt_1 : decode cX2_openAt 1 = .ok (.istore_n 2, 1) := by decide +kernel
theorem dX2_openAt_2 : decode cX2_openAt 2 = .ok (.iconst 0, 1) := by decide +kernel
theorem dX2_openAt_3 : decode cX2_openAt 3 = .ok (.istore_n 3, 1) := by decide +kernel
theorem dX2_openAt_4 : decode cX2_openAt 4 = .ok (.iload_n 3, 1) := by decide +kernel
theorem dX2_openAt_5 : decode cX2_openAt 5 = .ok (.aload_n 0, 1) := by decide +kernel
theorem dX2_openAt_6 : decode cX2_openAt 6 = .ok (.getfield 52, 3) := by decide +kernel
theorem dX2_openAt_9 : decode cX2_openAt 9 = .ok (.if_icmp .ge 46, 3) := by decide +kernel
theorem dX2_openAt_12 : decode cX2_openAt 12 = .ok (.iload_n 2, 1) := by decide +kernel
theorem dX2_openAt_13 : decode cX2_openAt 13 = .ok (.aload_n 0, 1) := by decide +kernel
theorem dX2_openAt_14 : decode cX2_openAt 14 = .ok (.getfield 29, 3) := by decide +kernel
theorem dX2_openAt_17 : decode cX2_openAt 17 = .ok (.iload_n 3, 1) := by decide +kernel
theorem dX2_openAt_18 : decode cX2_openAt 18 = .ok (.baload, 1) := by decide +kernel
theorem dX2_openAt_19 : decode cX2_openAt 19 = .ok (.ifCond .eq 27, 3) := by decide +kernel
theorem dX2_openAt_22 : decode cX2_openAt 22 = .ok (.aload_n 0, 1) := by decide +kernel
theorem dX2_openAt_23 : decode cX2_openAt 23 = .ok (.getfield 16, 3) := by decide +kernel
theorem dX2_openAt_26 : decode cX2_openAt 26 = .ok (.iload_n 3, 1) := by decide +kernel
theorem dX2_openAt_27 : decode cX2_openAt 27 = .ok (.iaload, 1) := by decide +kernel
theorem dX2_openAt_28 : decode cX2_openAt 28 = .ok (.iload_n 1, 1) := by decide +kernel
theorem dX2_openAt_29 : decode cX2_openAt 29 = .ok (.if_icmp .eq 13, 3) := by decide +kernel
theorem dX2_openAt_32 : decode cX2_openAt 32 = .ok (.aload_n 0, 1) := by decide +kernel
theorem dX2_openAt_33 : decode cX2_openAt 33 = .ok (.getfield 19, 3) := by decide +kernel
theorem dX2_openAt_36 : decode cX2_openAt 36 = .ok (.iload_n 3, 1) := by decide +kernel
theorem dX2_openAt_37 : decode cX2_openAt 37 = .ok (.iaload, 1) := by decide +kernel
theorem dX2_openAt_38 : decode cX2_openAt 38 = .ok (.iload_n 1, 1) := by decide +kernel
theorem dX2_openAt_39 : decode cX2_openAt 39 = .ok (.if_icmp .ne 7, 3) := by decide +kernel
theorem dX2_openAt_42 : decode cX2_openAt 42 = .ok (.iconst 1, 1) := by decide +kernel
theorem dX2_openAt_43 : decode cX2_openAt 43 = .ok (.goto 4, 3) := by decide +kernel
theorem dX2_openAt_46 : decode cX2_openAt 46 = .ok (.iconst 0, 1) := by decide +kernel
theorem dX2_openAt_47 : decode cX2_openAt 47 = .ok (.iadd, 1) := by decide +kernel
theorem dX2_openAt_48 : decode cX2_openAt 48 = .ok (.istore_n 2, 1) := by decide +kernel
theorem dX2_openAt_49 : decode cX2_openAt 49 = .ok (.iinc 3 1, 3) := by decide +kernel
theorem dX2_openAt_52 : decode cX2_openAt 52 = .ok (.goto (-48), 3) := by decide +kernel
theorem dX2_openAt_55 : decode cX2_openAt 55 = .ok (.iload_n 2, 1) := by decide +kernel
theorem dX2_openAt_56 : decode cX2_openAt 56 = .ok (.ireturn, 1) := by decide +kernel
theorem dX2_drainsAt_0 : decode cX2_drainsAt 0 = .ok (.aload_n 0, 1) := by decide +kernel
theorem dX2_drainsAt_1 : decode cX2_drainsAt 1 = .ok (.iconst 0, 1) := by decide +kernel
theorem dX2_drainsAt_2 : decode cX2_drainsAt 2 = .ok (.putfield 41, 3) := by decide +kernel
theorem dX2_drainsAt_5 : decode cX2_drainsAt 5 = .ok (.aload_n 0, 1) := by decide +kernel
theorem dX2_drainsAt_6 : decode cX2_drainsAt 6 = .ok (.iload_n 1, 1) := by decide +kernel
theorem dX2_drainsAt_7 : decode cX2_drainsAt 7 = .ok (.invokevirtual 93, 3) := by decide +kernel
theorem dX2_drainsAt_10 : decode cX2_drainsAt 10 = .ok (.ifCond .eq 11, 3) := by decide +kernel
theorem dX2_drainsAt_13 : decode cX2_drainsAt 13 = .ok (.aload_n 0, 1) := by decide +kernel
theorem dX2_drainsAt_14 : decode cX2_drainsAt 14 = .ok (.iload_n 1, 1) := by decide +kernel
theorem dX2_drainsAt_15 : decode cX2_drainsAt 15 = .ok (.invokevirtual 129, 3) := by decide +kernel
theorem dX2_drainsAt_18 : decode cX2_drainsAt 18 = .ok (.goto 8, 3) := by decide +kernel
theorem dX2_drainsAt_21 : decode cX2_drainsAt 21 = .ok (.aload_n 0, 1) := by decide +kernel
theorem dX2_drainsAt_22 : decode cX2_drainsAt 22 = .ok (.iconst 1, 1) := by decide +kernel
theorem dX2_drainsAt_23 : decode cX2_drainsAt 23 = .ok (.invokevirtual 90, 3) := by decide +kernel
theorem dX2_drainsAt_26 : decode cX2_drainsAt 26 = .ok (.ireturn, 1) := by decide +kernel
theorem dX2_spreads_0 : decode cX2_spreads 0 = .ok (.iload_n 2, 1) := by decide +kernel
theorem dX2_spreads_1 : decode cX2_spreads 1 = .ok (.iconst (-1), 1) := by decide +kernel
theorem dX2_spreads_2 : decode cX2_spreads 2 = .ok (.if_icmp .eq 21, 3) := by decide +kernel
theorem dX2_spreads_5 : decode cX2_spreads 5 = .ok (.aload_n 0, 1) := by decide +kernel
theorem dX2_spreads_6 : decode cX2_spreads 6 = .ok (.getfield 38, 3) := by decide +kernel
theorem dX2_spreads_9 : decode cX2_spreads 9 = .ok (.iload_n 1, 1) := by decide +kernel
theorem dX2_spreads_10 : decode cX2_spreads 10 = .ok (.baload, 1) := by decide +kernel
theorem dX2_spreads_11 : decode cX2_spreads 11 = .ok (.ifCond .eq 12, 3) := by decide +kernel
theorem dX2_spreads_14 : decode cX2_spreads 14 = .ok (.aload_n 0, 1) := by decide +kernel
theorem dX2_spreads_15 : decode cX2_spreads 15 = .ok (.getfield 38, 3) := by decide +kernel
theorem dX2_spreads_18 : decode cX2_spreads 18 = .ok (.iload_n 2, 1) := by decide +kernel
theorem dX2_spreads_19 : decode cX2_spreads 19 = .ok (.baload, 1) := by decide +kernel
theorem dX2_spreads_20 : decode cX2_spreads 20 = .ok (.ifCond .eq 5, 3) := by decide +kernel
theorem dX2_spreads_23 : decode cX2_spreads 23 = .ok (.iconst 0, 1) := by decide +kernel
theorem dX2_spreads_24 : decode cX2_spreads 24 = .ok (.ireturn, 1) := by decide +kernel
theorem dX2_spreads_25 : decode cX2_spreads 25 = .ok (.aload_n 0, 1) := by decide +kernel
theorem dX2_spreads_26 : decode cX2_spreads 26 = .ok (.getfield 38, 3) := by decide +kernel
theorem dX2_spreads_29 : decode cX2_spreads 29 = .ok (.iload_n 2, 1) := by decide +kernel
theorem dX2_spreads_30 : decode cX2_spreads 30 = .ok (.iconst 1, 1) := by decide +kernel
theorem dX2_spreads_31 : decode cX2_spreads 31 = .ok (.bastore, 1) := by decide +kernel
theorem dX2_spreads_32 : decode cX2_spreads 32 = .ok (.iconst 1, 1) := by decide +kernel
theorem dX2_spreads_33 : decode cX2_spreads 33 = .ok (.ireturn, 1) := by decide +kernel
theorem dX2_spread_0 : decode cX2_spread 0 = .ok (.iconst 0, 1) := by decide +kernel
theorem dX2_spread_1 : decode cX2_spread 1 = .ok (.istore_n 2, 1) := by decide +kernel
theorem dX2_spread_2 : decode cX2_spread 2 = .ok (.iload_n 2, 1) := by decide +kernel
theorem dX2_spread_3 : decode cX2_spread 3 = .ok (.aload_n 0, 1) := by decide +kernel
theorem dX2_spread_4 : decode cX2_spread 4 = .ok (.getfield 45, 3) := by decide +kernel
theorem dX2_spread_7 : decode cX2_spread 7 = .ok (.if_icmp .ge 25, 3) := by decide +kernel
theorem dX2_spread_10 : decode cX2_spread 10 = .ok (.aload_n 0, 1) := by decide +kernel
theorem dX2_spread_11 : decode cX2_spread 11 = .ok (.getfield 38, 3) := by decide +kernel
theorem dX2_spread_14 : decode cX2_spread 14 = .ok (.iload_n 2, 1) := by decide +kernel
theorem dX2_spread_15 : decode cX2_spread 15 = .ok (.iload_n 2, 1) := by decide +kernel
theorem dX2_spread_16 : decode cX2_spread 16 = .ok (.iload_n 1, 1) := by decide +kernel
theorem dX2_spread_17 : decode cX2_spread 17 = .ok (.if_icmp .ne 7, 3) := by decide +kernel
theorem dX2_spread_20 : decode cX2_spread 20 = .ok (.iconst 1, 1) := by decide +kernel
theorem dX2_spread_21 : decode cX2_spread 21 = .ok (.goto 4, 3) := by decide +kernel
theorem dX2_spread_24 : decode cX2_spread 24 = .ok (.iconst 0, 1) := by decide +kernel
theorem dX2_spread_25 : decode cX2_spread 25 = .ok (.bastore, 1) := by decide +kernel
theorem dX2_spread_26 : decode cX2_spread 26 = .ok (.iinc 2 1, 3) := by decide +kernel
theorem dX2_spread_29 : decode cX2_spread 29 = .ok (.goto (-27), 3) := by decide +kernel
theorem dX2_spread_32 : decode cX2_spread 32 = .ok (.iconst 1, 1) := by decide +kernel
theorem dX2_spread_33 : decode cX2_spread 33 = .ok (.istore_n 2, 1) := by decide +kernel
theorem dX2_spread_34 : decode cX2_spread 34 = .ok (.iload_n 2, 1) := by decide +kernel
theorem dX2_spread_35 : decode cX2_spread 35 = .ok (.ifCond .eq 83, 3) := by decide +kernel
theorem dX2_spread_38 : decode cX2_spread 38 = .ok (.iconst 0, 1) := by decide +kernel
theorem dX2_spread_39 : decode cX2_spread 39 = .ok (.istore_n 2, 1) := by decide +kernel
theorem dX2_spread_40 : decode cX2_spread 40 = .ok (.iconst 0, 1) := by decide +kernel
theorem dX2_spread_41 : decode cX2_spread 41 = .ok (.istore_n 3, 1) := by decide +kernel
theorem dX2_spread_42 : decode cX2_spread 42 = .ok (.iload_n 3, 1) := by decide +kernel
theorem dX2_spread_43 : decode cX2_spread 43 = .ok (.aload_n 0, 1) := by decide +kernel
theorem dX2_spread_44 : decode cX2_spread 44 = .ok (.getfield 52, 3) := by decide +kernel
theorem dX2_spread_47 : decode cX2_spread 47 = .ok (.if_icmp .ge 68, 3) := by decide +kernel
theorem dX2_spread_50 : decode cX2_spread 50 = .ok (.aload_n 0, 1) := by decide +kernel
theorem dX2_spread_51 : decode cX2_spread 51 = .ok (.getfield 29, 3) := by decide +kernel
theorem dX2_spread_54 : decode cX2_spread 54 = .ok (.iload_n 3, 1) := by decide +kernel
theorem dX2_spread_55 : decode cX2_spread 55 = .ok (.baload, 1) := by decide +kernel
theorem dX2_spread_56 : decode cX2_spread 56 = .ok (.ifCond .ne 6, 3) := by decide +kernel
theorem dX2_spread_59 : decode cX2_spread 59 = .ok (.goto 50, 3) := by decide +kernel
theorem dX2_spread_62 : decode cX2_spread 62 = .ok (.iload_n 2, 1) := by decide +kernel
theorem dX2_spread_63 : decode cX2_spread 63 = .ok (.aload_n 0, 1) := by decide +kernel
theorem dX2_spread_64 : decode cX2_spread 64 = .ok (.aload_n 0, 1) := by decide +kernel
theorem dX2_spread_65 : decode cX2_spread 65 = .ok (.getfield 16, 3) := by decide +kernel
theorem dX2_spread_68 : decode cX2_spread 68 = .ok (.iload_n 3, 1) := by decide +kernel
theorem dX2_spread_69 : decode cX2_spread 69 = .ok (.iaload, 1) := by decide +kernel
theorem dX2_spread_70 : decode cX2_spread 70 = .ok (.aload_n 0, 1) := by decide +kernel
theorem dX2_spread_71 : decode cX2_spread 71 = .ok (.getfield 19, 3) := by decide +kernel
theorem dX2_spread_74 : decode cX2_spread 74 = .ok (.iload_n 3, 1) := by decide +kernel
theorem dX2_spread_75 : decode cX2_spread 75 = .ok (.iaload, 1) := by decide +kernel
theorem dX2_spread_76 : decode cX2_spread 76 = .ok (.invokevirtual 132, 3) := by decide +kernel
theorem dX2_spread_79 : decode cX2_spread 79 = .ok (.ior, 1) := by decide +kernel
theorem dX2_spread_80 : decode cX2_spread 80 = .ok (.istore_n 2, 1) := by decide +kernel
theorem dX2_spread_81 : decode cX2_spread 81 = .ok (.aload_n 0, 1) := by decide +kernel
theorem dX2_spread_82 : decode cX2_spread 82 = .ok (.getfield 25, 3) := by decide +kernel
theorem dX2_spread_85 : decode cX2_spread 85 = .ok (.iload_n 3, 1) := by decide +kernel
theorem dX2_spread_86 : decode cX2_spread 86 = .ok (.baload, 1) := by decide +kernel
theorem dX2_spread_87 : decode cX2_spread 87 = .ok (.ifCond .ne 22, 3) := by decide +kernel
theorem dX2_spread_90 : decode cX2_spread 90 = .ok (.iload_n 2, 1) := by decide +kernel
theorem dX2_spread_91 : decode cX2_spread 91 = .ok (.aload_n 0, 1) := by decide +kernel
theorem dX2_spread_92 : decode cX2_spread 92 = .ok (.aload_n 0, 1) := by decide +kernel
theorem dX2_spread_93 : decode cX2_spread 93 = .ok (.getfield 19, 3) := by decide +kernel
theorem dX2_spread_96 : decode cX2_spread 96 = .ok (.iload_n 3, 1) := by decide +kernel
theorem dX2_spread_97 : decode cX2_spread 97 = .ok (.iaload, 1) := by decide +kernel
theorem dX2_spread_98 : decode cX2_spread 98 = .ok (.aload_n 0, 1) := by decide +kernel
theorem dX2_spread_99 : decode cX2_spread 99 = .ok (.getfield 16, 3) := by decide +kernel
theorem dX2_spread_102 : decode cX2_spread 102 = .ok (.iload_n 3, 1) := by decide +kernel
theorem dX2_spread_103 : decode cX2_spread 103 = .ok (.iaload, 1) := by decide +kernel
theorem dX2_spread_104 : decode cX2_spread 104 = .ok (.invokevirtual 132, 3) := by decide +kernel
theorem dX2_spread_107 : decode cX2_spread 107 = .ok (.ior, 1) := by decide +kernel
theorem dX2_spread_108 : decode cX2_spread 108 = .ok (.istore_n 2, 1) := by decide +kernel
theorem dX2_spread_109 : decode cX2_spread 109 = .ok (.iinc 3 1, 3) := by decide +kernel
theorem dX2_spread_112 : decode cX2_spread 112 = .ok (.goto (-70), 3) := by decide +kernel
theorem dX2_spread_115 : decode cX2_spread 115 = .ok (.goto (-81), 3) := by decide +kernel
theorem dX2_spread_118 : decode cX2_spread 118 = .ok (.iconst 0, 1) := by decide +kernel
theorem dX2_spread_119 : decode cX2_spread 119 = .ok (.istore_n 3, 1) := by decide +kernel
theorem dX2_spread_120 : decode cX2_spread 120 = .ok (.iconst 0, 1) := by decide +kernel
theorem dX2_spread_121 : decode cX2_spread 121 = .ok (.istore 4, 2) := by decide +kernel
theorem dX2_spread_123 : decode cX2_spread 123 = .ok (.iload 4, 2) := by decide +kernel
theorem dX2_spread_125 : decode cX2_spread 125 = .ok (.aload_n 0, 1) := by decide +kernel
theorem dX2_spread_126 : decode cX2_spread 126 = .ok (.getfield 45, 3) := by decide +kernel
theorem dX2_spread_129 : decode cX2_spread 129 = .ok (.if_icmp .ge 27, 3) := by decide +kernel
theorem dX2_spread_132 : decode cX2_spread 132 = .ok (.iload_n 3, 1) := by decide +kernel
theorem dX2_spread_133 : decode cX2_spread 133 = .ok (.aload_n 0, 1) := by decide +kernel
theorem dX2_spread_134 : decode cX2_spread 134 = .ok (.getfield 38, 3) := by decide +kernel
theorem dX2_spread_137 : decode cX2_spread 137 = .ok (.iload 4, 2) := by decide +kernel
theorem dX2_spread_139 : decode cX2_spread 139 = .ok (.baload, 1) := by decide +kernel
theorem dX2_spread_140 : decode cX2_spread 140 = .ok (.ifCond .eq 7, 3) := by decide +kernel
theorem dX2_spread_143 : decode cX2_spread 143 = .ok (.iconst 1, 1) := by decide +kernel
theorem dX2_spread_144 : decode cX2_spread 144 = .ok (.goto 4, 3) := by decide +kernel
theorem dX2_spread_147 : decode cX2_spread 147 = .ok (.iconst 0, 1) := by decide +kernel
theorem dX2_spread_148 : decode cX2_spread 148 = .ok (.iadd, 1) := by decide +kernel
theorem dX2_spread_149 : decode cX2_spread 149 = .ok (.istore_n 3, 1) := by decide +kernel
theorem dX2_spread_150 : decode cX2_spread 150 = .ok (.iinc 4 1, 3) := by decide +kernel
theorem dX2_spread_153 : decode cX2_spread 153 = .ok (.goto (-30), 3) := by decide +kernel
theorem dX2_spread_156 : decode cX2_spread 156 = .ok (.iload_n 3, 1) := by decide +kernel
theorem dX2_spread_157 : decode cX2_spread 157 = .ok (.iconst 1, 1) := by decide +kernel
theorem dX2_spread_158 : decode cX2_spread 158 = .ok (.isub, 1) := by decide +kernel
theorem dX2_spread_159 : decode cX2_spread 159 = .ok (.ireturn, 1) := by decide +kernel
theorem dX2_reaches_0 : decode cX2_reaches 0 = .ok (.aload_n 0, 1) := by decide +kernel
theorem dX2_reaches_1 : decode cX2_reaches 1 = .ok (.iconst 0, 1) := by decide +kernel
theorem dX2_reaches_2 : decode cX2_reaches 2 = .ok (.putfield 41, 3) := by decide +kernel
theorem dX2_reaches_5 : decode cX2_reaches 5 = .ok (.aload_n 0, 1) := by decide +kernel
theorem dX2_reaches_6 : decode cX2_reaches 6 = .ok (.iload_n 1, 1) := by decide +kernel
theorem dX2_reaches_7 : decode cX2_reaches 7 = .ok (.invokevirtual 93, 3) := by decide +kernel
theorem dX2_reaches_10 : decode cX2_reaches 10 = .ok (.ifCond .eq 11, 3) := by decide +kernel
theorem dX2_reaches_13 : decode cX2_reaches 13 = .ok (.aload_n 0, 1) := by decide +kernel
theorem dX2_reaches_14 : decode cX2_reaches 14 = .ok (.iload_n 1, 1) := by decide +kernel
theorem dX2_reaches_15 : decode cX2_reaches 15 = .ok (.invokevirtual 136, 3) := by decide +kernel
theorem dX2_reaches_18 : decode cX2_reaches 18 = .ok (.goto 8, 3) := by decide +kernel
theorem dX2_reaches_21 : decode cX2_reaches 21 = .ok (.aload_n 0, 1) := by decide +kernel
theorem dX2_reaches_22 : decode cX2_reaches 22 = .ok (.iconst 1, 1) := by decide +kernel
theorem dX2_reaches_23 : decode cX2_reaches 23 = .ok (.invokevirtual 90, 3) := by decide +kernel
theorem dX2_reaches_26 : decode cX2_reaches 26 = .ok (.ireturn, 1) := by decide +kernel
theorem dX2_high_0 : decode cX2_high 0 = .ok (.iconst (-1), 1) := by decide +kernel
theorem dX2_high_1 : decode cX2_high 1 = .ok (.istore_n 1, 1) := by decide +kernel
theorem dX2_high_2 : decode cX2_high 2 = .ok (.iconst 0, 1) := by decide +kernel
theorem dX2_high_3 : decode cX2_high 3 = .ok (.istore_n 2, 1) := by decide +kernel
theorem dX2_high_4 : decode cX2_high 4 = .ok (.iload_n 2, 1) := by decide +kernel
theorem dX2_high_5 : decode cX2_high 5 = .ok (.aload_n 0, 1) := by decide +kernel
theorem dX2_high_6 : decode cX2_high 6 = .ok (.getfield 45, 3) := by decide +kernel
theorem dX2_high_9 : decode cX2_high 9 = .ok (.if_icmp .ge 29, 3) := by decide +kernel
theorem dX2_high_12 : decode cX2_high 12 = .ok (.iload_n 1, 1) := by decide +kernel
theorem dX2_high_13 : decode cX2_high 13 = .ok (.iconst (-1), 1) := by decide +kernel
theorem dX2_high_14 : decode cX2_high 14 = .ok (.if_icmp .eq 16, 3) := by decide +kernel
theorem dX2_high_17 : decode cX2_high 17 = .ok (.aload_n 0, 1) := by decide +kernel
theorem dX2_high_18 : decode cX2_high 18 = .ok (.iload_n 2, 1) := by decide +kernel
theorem dX2_high_19 : decode cX2_high 19 = .ok (.invokevirtual 71, 3) := by decide +kernel
theorem dX2_high_22 : decode cX2_high 22 = .ok (.aload_n 0, 1) := by decide +kernel
theorem dX2_high_23 : decode cX2_high 23 = .ok (.iload_n 1, 1) := by decide +kernel
theorem dX2_high_24 : decode cX2_high 24 = .ok (.invokevirtual 71, 3) := by decide +kernel
theorem dX2_high_27 : decode cX2_high 27 = .ok (.if_icmp .le 5, 3) := by decide +kernel
theorem dX2_high_30 : decode cX2_high 30 = .ok (.iload_n 2, 1) := by decide +kernel
theorem dX2_high_31 : decode cX2_high 31 = .ok (.istore_n 1, 1) := by decide +kernel
theorem dX2_high_32 : decode cX2_high 32 = .ok (.iinc 2 1, 3) := by decide +kernel
theorem dX2_high_35 : decode cX2_high 35 = .ok (.goto (-31), 3) := by decide +kernel
theorem dX2_high_38 : decode cX2_high 38 = .ok (.iload_n 1, 1) := by decide +kernel
theorem dX2_high_39 : decode cX2_high 39 = .ok (.ireturn, 1) := by decide +kernel
theorem dX2_highest_0 : decode cX2_highest 0 = .ok (.aload_n 0, 1) := by decide +kernel
theorem dX2_highest_1 : decode cX2_highest 1 = .ok (.aload_n 0, 1) := by decide +kernel
theorem dX2_highest_2 : decode cX2_highest 2 = .ok (.invokevirtual 139, 3) := by decide +kernel
theorem dX2_highest_5 : decode cX2_highest 5 = .ok (.invokevirtual 114, 3) := by decide +kernel
theorem dX2_highest_8 : decode cX2_highest 8 = .ok (.ireturn, 1) := by decide +kernel
theorem dX2_isPump_0 : decode cX2_isPump 0 = .ok (.aload_n 0, 1) := by decide +kernel
theorem dX2_isPump_1 : decode cX2_isPump 1 = .ok (.iconst 0, 1) := by decide +kernel
theorem dX2_isPump_2 : decode cX2_isPump 2 = .ok (.putfield 41, 3) := by decide +kernel
theorem dX2_isPump_5 : decode cX2_isPump 5 = .ok (.aload_n 0, 1) := by decide +kernel
theorem dX2_isPump_6 : decode cX2_isPump 6 = .ok (.iload_n 1, 1) := by decide +kernel
theorem dX2_isPump_7 : decode cX2_isPump 7 = .ok (.invokevirtual 101, 3) := by decide +kernel
theorem dX2_isPump_10 : decode cX2_isPump 10 = .ok (.ifCond .eq 12, 3) := by decide +kernel
theorem dX2_isPump_13 : decode cX2_isPump 13 = .ok (.aload_n 0, 1) := by decide +kernel
theorem dX2_isPump_14 : decode cX2_isPump 14 = .ok (.getfield 25, 3) := by decide +kernel
theorem dX2_isPump_17 : decode cX2_isPump 17 = .ok (.iload_n 1, 1) := by decide +kernel
theorem dX2_isPump_18 : decode cX2_isPump 18 = .ok (.baload, 1) := by decide +kernel
theorem dX2_isPump_19 : decode cX2_isPump 19 = .ok (.goto 8, 3) := by decide +kernel
theorem dX2_isPump_22 : decode cX2_isPump 22 = .ok (.aload_n 0, 1) := by decide +kernel
theorem dX2_isPump_23 : decode cX2_isPump 23 = .ok (.iconst 1, 1) := by decide +kernel
theorem dX2_isPump_24 : decode cX2_isPump 24 = .ok (.invokevirtual 104, 3) := by decide +kernel
theorem dX2_isPump_27 : decode cX2_isPump 27 = .ok (.ireturn, 1) := by decide +kernel
theorem dX2_isOpen_0 : decode cX2_isOpen 0 = .ok (.aload_n 0, 1) := by decide +kernel
theorem dX2_isOpen_1 : decode cX2_isOpen 1 = .ok (.iconst 0, 1) := by decide +kernel
theorem dX2_isOpen_2 : decode cX2_isOpen 2 = .ok (.putfield 41, 3) := by decide +kernel
theorem dX2_isOpen_5 : decode cX2_isOpen 5 = .ok (.aload_n 0, 1) := by decide +kernel
theorem dX2_isOpen_6 : decode cX2_isOpen 6 = .ok (.iload_n 1, 1) := by decide +kernel
theorem dX2_isOpen_7 : decode cX2_isOpen 7 = .ok (.invokevirtual 101, 3) := by decide +kernel
theorem dX2_isOpen_10 : decode cX2_isOpen 10 = .ok (.ifCond .eq 12, 3) := by decide +kernel
theorem dX2_isOpen_13 : decode cX2_isOpen 13 = .ok (.aload_n 0, 1) := by decide +kernel
theorem dX2_isOpen_14 : decode cX2_isOpen 14 = .ok (.getfield 29, 3) := by decide +kernel
theorem dX2_isOpen_17 : decode cX2_isOpen 17 = .ok (.iload_n 1, 1) := by decide +kernel
theorem dX2_isOpen_18 : decode cX2_isOpen 18 = .ok (.baload, 1) := by decide +kernel
theorem dX2_isOpen_19 : decode cX2_isOpen 19 = .ok (.goto 8, 3) := by decide +kernel
theorem dX2_isOpen_22 : decode cX2_isOpen 22 = .ok (.aload_n 0, 1) := by decide +kernel
theorem dX2_isOpen_23 : decode cX2_isOpen 23 = .ok (.iconst 1, 1) := by decide +kernel
theorem dX2_isOpen_24 : decode cX2_isOpen 24 = .ok (.invokevirtual 104, 3) := by decide +kernel
theorem dX2_isOpen_27 : decode cX2_isOpen 27 = .ok (.ireturn, 1) := by decide +kernel
theorem dX2_carriedBy_0 : decode cX2_carriedBy 0 = .ok (.aload_n 0, 1) := by decide +kernel
theorem dX2_carriedBy_1 : decode cX2_carriedBy 1 = .ok (.iconst 0, 1) := by decide +kernel
theorem dX2_carriedBy_2 : decode cX2_carriedBy 2 = .ok (.putfield 41, 3) := by decide +kernel
theorem dX2_carriedBy_5 : decode cX2_carriedBy 5 = .ok (.aload_n 0, 1) := by decide +kernel
theorem dX2_carriedBy_6 : decode cX2_carriedBy 6 = .ok (.iload_n 1, 1) := by decide +kernel
theorem dX2_carriedBy_7 : decode cX2_carriedBy 7 = .ok (.invokevirtual 101, 3) := by decide +kernel
theorem dX2_carriedBy_10 : decode cX2_carriedBy 10 = .ok (.ifCond .eq 15, 3) := by decide +kernel
theorem dX2_carriedBy_13 : decode cX2_carriedBy 13 = .ok (.aload_n 0, 1) := by decide +kernel
theorem dX2_carriedBy_14 : decode cX2_carriedBy 14 = .ok (.getfield 32, 3) := by decide +kernel
theorem dX2_carriedBy_17 : decode cX2_carriedBy 17 = .ok (.bipush 32, 2) := by decide +kernel
theorem dX2_carriedBy_19 : decode cX2_carriedBy 19 = .ok (.iload_n 1, 1) := by decide +kernel
theorem dX2_carriedBy_20 : decode cX2_carriedBy 20 = .ok (.iadd, 1) := by decide +kernel
theorem dX2_carriedBy_21 : decode cX2_carriedBy 21 = .ok (.iaload, 1) := by decide +kernel
theorem dX2_carriedBy_22 : decode cX2_carriedBy 22 = .ok (.goto 8, 3) := by decide +kernel
theorem dX2_carriedBy_25 : decode cX2_carriedBy 25 = .ok (.aload_n 0, 1) := by decide +kernel
theorem dX2_carriedBy_26 : decode cX2_carriedBy 26 = .ok (.iconst 1, 1) := by decide +kernel
theorem dX2_carriedBy_27 : decode cX2_carriedBy 27 = .ok (.invokevirtual 90, 3) := by decide +kernel
theorem dX2_carriedBy_30 : decode cX2_carriedBy 30 = .ok (.ireturn, 1) := by decide +kernel
theorem dX2_wouldCarry_0 : decode cX2_wouldCarry 0 = .ok (.aload_n 0, 1) := by decide +kernel
theorem dX2_wouldCarry_1 : decode cX2_wouldCarry 1 = .ok (.iconst 0, 1) := by decide +kernel
theorem dX2_wouldCarry_2 : decode cX2_wouldCarry 2 = .ok (.putfield 41, 3) := by decide +kernel
theorem dX2_wouldCarry_5 : decode cX2_wouldCarry 5 = .ok (.aload_n 0, 1) := by decide +kernel
theorem dX2_wouldCarry_6 : decode cX2_wouldCarry 6 = .ok (.iload_n 1, 1) := by decide +kernel
theorem dX2_wouldCarry_7 : decode cX2_wouldCarry 7 = .ok (.invokevirtual 101, 3) := by decide +kernel
theorem dX2_wouldCarry_10 : decode cX2_wouldCarry 10 = .ok (.ifCond .eq 14, 3) := by decide +kernel
theorem dX2_wouldCarry_13 : decode cX2_wouldCarry 13 = .ok (.aload_n 0, 1) := by decide +kernel
theorem dX2_wouldCarry_14 : decode cX2_wouldCarry 14 = .ok (.iload_n 1, 1) := by decide +kernel
theorem dX2_wouldCarry_15 : decode cX2_wouldCarry 15 = .ok (.invokevirtual 77, 3) := by decide +kernel
theorem dX2_wouldCarry_18 : decode cX2_wouldCarry 18 = .ok (.invokestatic 74, 3) := by decide +kernel
theorem dX2_wouldCarry_21 : decode cX2_wouldCarry 21 = .ok (.goto 8, 3) := by decide +kernel
theorem dX2_wouldCarry_24 : decode cX2_wouldCarry 24 = .ok (.aload_n 0, 1) := by decide +kernel
theorem dX2_wouldCarry_25 : decode cX2_wouldCarry 25 = .ok (.iconst 1, 1) := by decide +kernel
theorem dX2_wouldCarry_26 : decode cX2_wouldCarry 26 = .ok (.invokevirtual 90, 3) := by decide +kernel
theorem dX2_wouldCarry_29 : decode cX2_wouldCarry 29 = .ok (.ireturn, 1) := by decide +kernel
theorem dX2_busy_0 : decode cX2_busy 0 = .ok (.iconst (-1), 1) := by decide +kernel
theorem dX2_busy_1 : decode cX2_busy 1 = .ok (.istore_n 1, 1) := by decide +kernel
theorem dX2_busy_2 : decode cX2_busy 2 = .ok (.iconst 0, 1) := by decide +kernel
theorem dX2_busy_3 : decode cX2_busy 3 = .ok (.istore_n 2, 1) := by decide +kernel
theorem dX2_busy_4 : decode cX2_busy 4 = .ok (.iload_n 2, 1) := by decide +kernel
theorem dX2_busy_5 : decode cX2_busy 5 = .ok (.aload_n 0, 1) := by decide +kernel
theorem dX2_busy_6 : decode cX2_busy 6 = .ok (.getfield 52, 3) := by decide +kernel
theorem dX2_busy_9 : decode cX2_busy 9 = .ok (.if_icmp .ge 37, 3) := by decide +kernel
theorem dX2_busy_12 : decode cX2_busy 12 = .ok (.iload_n 1, 1) := by decide +kernel
theorem dX2_busy_13 : decode cX2_busy 13 = .ok (.iconst (-1), 1) := by decide +kernel
theorem dX2_busy_14 : decode cX2_busy 14 = .ok (.if_icmp .eq 24, 3) := by decide +kernel
theorem dX2_busy_17 : decode cX2_busy 17 = .ok (.aload_n 0, 1) := by decide +kernel
theorem dX2_busy_18 : decode cX2_busy 18 = .ok (.getfield 32, 3) := by decide +kernel
theorem dX2_busy_21 : decode cX2_busy 21 = .ok (.bipush 32, 2) := by decide +kernel
theorem dX2_busy_23 : decode cX2_busy 23 = .ok (.iload_n 2, 1) := by decide +kernel
theorem dX2_busy_24 : decode cX2_busy 24 = .ok (.iadd, 1) := by decide +kernel
theorem dX2_busy_25 : decode cX2_busy 25 = .ok (.iaload, 1) := by decide +kernel
theorem dX2_busy_26 : decode cX2_busy 26 = .ok (.aload_n 0, 1) := by decide +kernel
theorem dX2_busy_27 : decode cX2_busy 27 = .ok (.getfield 32, 3) := by decide +kernel
theorem dX2_busy_30 : decode cX2_busy 30 = .ok (.bipush 32, 2) := by decide +kernel
theorem dX2_busy_32 : decode cX2_busy 32 = .ok (.iload_n 1, 1) := by decide +kernel
theorem dX2_busy_33 : decode cX2_busy 33 = .ok (.iadd, 1) := by decide +kernel
theorem dX2_busy_34 : decode cX2_busy 34 = .ok (.iaload, 1) := by decide +kernel
theorem dX2_busy_35 : decode cX2_busy 35 = .ok (.if_icmp .le 5, 3) := by decide +kernel
theorem dX2_busy_38 : decode cX2_busy 38 = .ok (.iload_n 2, 1) := by decide +kernel
theorem dX2_busy_39 : decode cX2_busy 39 = .ok (.istore_n 1, 1) := by decide +kernel
theorem dX2_busy_40 : decode cX2_busy 40 = .ok (.iinc 2 1, 3) := by decide +kernel
theorem dX2_busy_43 : decode cX2_busy 43 = .ok (.goto (-39), 3) := by decide +kernel
theorem dX2_busy_46 : decode cX2_busy 46 = .ok (.iload_n 1, 1) := by decide +kernel
theorem dX2_busy_47 : decode cX2_busy 47 = .ok (.ireturn, 1) := by decide +kernel
theorem dX2_busiest_0 : decode cX2_busiest 0 = .ok (.aload_n 0, 1) := by decide +kernel
theorem dX2_busiest_1 : decode cX2_busiest 1 = .ok (.aload_n 0, 1) := by decide +kernel
theorem dX2_busiest_2 : decode cX2_busiest 2 = .ok (.invokevirtual 142, 3) := by decide +kernel
theorem dX2_busiest_5 : decode cX2_busiest 5 = .ok (.invokevirtual 114, 3) := by decide +kernel
theorem dX2_busiest_8 : decode cX2_busiest 8 = .ok (.ireturn, 1) := by decide +kernel
theorem dX2_until_0 : decode cX2_until 0 = .ok (.aload_n 0, 1) := by decide +kernel
theorem dX2_until_1 : decode cX2_until 1 = .ok (.invokevirtual 145, 3) := by decide +kernel
theorem dX2_until_4 : decode cX2_until 4 = .ok (.iconst 0, 1) := by decide +kernel
theorem dX2_until_5 : decode cX2_until 5 = .ok (.istore_n 2, 1) := by decide +kernel
theorem dX2_until_6 : decode cX2_until 6 = .ok (.iload_n 2, 1) := by decide +kernel
theorem dX2_until_7 : decode cX2_until 7 = .ok (.bipush 100, 2) := by decide +kernel
theorem dX2_until_9 : decode cX2_until 9 = .ok (.if_icmp .gt 25, 3) := by decide +kernel
theorem dX2_until_12 : decode cX2_until 12 = .ok (.aload_n 0, 1) := by decide +kernel
theorem dX2_until_13 : decode cX2_until 13 = .ok (.getfield 32, 3) := by decide +kernel
theorem dX2_until_16 : decode cX2_until 16 = .ok (.bipush 22, 2) := by decide +kernel
theorem dX2_until_18 : decode cX2_until 18 = .ok (.iload_n 1, 1) := by decide +kernel
theorem dX2_until_19 : decode cX2_until 19 = .ok (.iadd, 1) := by decide +kernel
theorem dX2_until_20 : decode cX2_until 20 = .ok (.iaload, 1) := by decide +kernel
theorem dX2_until_21 : decode cX2_until 21 = .ok (.ifCond .ne 13, 3) := by decide +kernel
theorem dX2_until_24 : decode cX2_until 24 = .ok (.aload_n 0, 1) := by decide +kernel
theorem dX2_until_25 : decode cX2_until 25 = .ok (.invokevirtual 87, 3) := by decide +kernel
theorem dX2_until_28 : decode cX2_until 28 = .ok (.iinc 2 1, 3) := by decide +kernel
theorem dX2_until_31 : decode cX2_until 31 = .ok (.goto (-25), 3) := by decide +kernel
theorem dX2_until_34 : decode cX2_until 34 = .ok (.aload_n 0, 1) := by decide +kernel
theorem dX2_until_35 : decode cX2_until 35 = .ok (.invokevirtual 148, 3) := by decide +kernel
theorem dX2_until_38 : decode cX2_until 38 = .ok (.iload_n 2, 1) := by decide +kernel
theorem dX2_until_39 : decode cX2_until 39 = .ok (.bipush 100, 2) := by decide +kernel
theorem dX2_until_41 : decode cX2_until 41 = .ok (.if_icmp .le 7, 3) := by decide +kernel
theorem dX2_until_44 : decode cX2_until 44 = .ok (.iconst (-1), 1) := by decide +kernel
theorem dX2_until_45 : decode cX2_until 45 = .ok (.goto 4, 3) := by decide +kernel
theorem dX2_until_48 : decode cX2_until 48 = .ok (.iload_n 2, 1) := by decide +kernel
theorem dX2_until_49 : decode cX2_until 49 = .ok (.ireturn, 1) := by decide +kernel
theorem dX2_hoursUntilRuined_0 : decode cX2_hoursUntilRuined 0 = .ok (.aload_n 0, 1) := by decide +kernel
theorem dX2_hoursUntilRuined_1 : decode cX2_hoursUntilRuined 1 = .ok (.iconst 0, 1) := by decide +kernel
theorem dX2_hoursUntilRuined_2 : decode cX2_hoursUntilRuined 2 = .ok (.putfield 41, 3) := by decide +kernel
theorem dX2_hoursUntilRuined_5 : decode cX2_hoursUntilRuined 5 = .ok (.aload_n 0, 1) := by decide +kernel
theorem dX2_hoursUntilRuined_6 : decode cX2_hoursUntilRuined 6 = .ok (.iload_n 1, 1) := by decide +kernel
theorem dX2_hoursUntilRuined_7 : decode cX2_hoursUntilRuined 7 = .ok (.invokevirtual 93, 3) := by decide +kernel
theorem dX2_hoursUntilRuined_10 : decode cX2_hoursUntilRuined 10 = .ok (.ifCond .eq 11, 3) := by decide +kernel
theorem dX2_hoursUntilRuined_13 : decode cX2_hoursUntilRuined 13 = .ok (.aload_n 0, 1) := by decide +kernel
theorem dX2_hoursUntilRuined_14 : decode cX2_hoursUntilRuined 14 = .ok (.iload_n 1, 1) := by decide +kernel
theorem dX2_hoursUntilRuined_15 : decode cX2_hoursUntilRuined 15 = .ok (.invokevirtual 151, 3) := by decide +kernel
theorem dX2_hoursUntilRuined_18 : decode cX2_hoursUntilRuined 18 = .ok (.goto 8, 3) := by decide +kernel
theorem dX2_hoursUntilRuined_21 : decode cX2_hoursUntilRuined 21 = .ok (.aload_n 0, 1) := by decide +kernel
theorem dX2_hoursUntilRuined_22 : decode cX2_hoursUntilRuined 22 = .ok (.iconst 1, 1) := by decide +kernel
theorem dX2_hoursUntilRuined_23 : decode cX2_hoursUntilRuined 23 = .ok (.invokevirtual 90, 3) := by decide +kernel
theorem dX2_hoursUntilRuined_26 : decode cX2_hoursUntilRuined 26 = .ok (.ireturn, 1) := by decide +kernel
theorem dX2_lostBehind_0 : decode cX2_lostBehind 0 = .ok (.aload_n 0, 1) := by decide +kernel
theorem dX2_lostBehind_1 : decode cX2_lostBehind 1 = .ok (.invokevirtual 145, 3) := by decide +kernel
theorem dX2_lostBehind_4 : decode cX2_lostBehind 4 = .ok (.iload_n 2, 1) := by decide +kernel
theorem dX2_lostBehind_5 : decode cX2_lostBehind 5 = .ok (.iconst (-1), 1) := by decide +kernel
theorem dX2_lostBehind_6 : decode cX2_lostBehind 6 = .ok (.if_icmp .eq 15, 3) := by decide +kernel
theorem dX2_lostBehind_9 : decode cX2_lostBehind 9 = .ok (.aload_n 0, 1) := by decide +kernel
theorem dX2_lostBehind_10 : decode cX2_lostBehind 10 = .ok (.getfield 32, 3) := by decide +kernel
theorem dX2_lostBehind_13 : decode cX2_lostBehind 13 = .ok (.iconst 2, 1) := by decide +kernel
theorem dX2_lostBehind_14 : decode cX2_lostBehind 14 = .ok (.iload_n 2, 1) := by decide +kernel
theorem dX2_lostBehind_15 : decode cX2_lostBehind 15 = .ok (.iadd, 1) := by decide +kernel
theorem dX2_lostBehind_16 : decode cX2_lostBehind 16 = .ok (.dup2, 1) := by decide +kernel
theorem dX2_lostBehind_17 : decode cX2_lostBehind 17 = .ok (.iaload, 1) := by decide +kernel
theorem dX2_lostBehind_18 : decode cX2_lostBehind 18 = .ok (.iload_n 3, 1) := by decide +kernel
theorem dX2_lostBehind_19 : decode cX2_lostBehind 19 = .ok (.iadd, 1) := by decide +kernel
theorem dX2_lostBehind_20 : decode cX2_lostBehind 20 = .ok (.iastore, 1) := by decide +kernel
theorem dX2_lostBehind_21 : decode cX2_lostBehind 21 = .ok (.aload_n 0, 1) := by decide +kernel
theorem dX2_lostBehind_22 : decode cX2_lostBehind 22 = .ok (.iload_n 1, 1) := by decide +kernel
theorem dX2_lostBehind_23 : decode cX2_lostBehind 23 = .ok (.invokevirtual 111, 3) := by decide +kernel
theorem dX2_lostBehind_26 : decode cX2_lostBehind 26 = .ok (.aload_n 0, 1) := by decide +kernel
theorem dX2_lostBehind_27 : decode cX2_lostBehind 27 = .ok (.invokevirtual 123, 3) := by decide +kernel
theorem dX2_lostBehind_30 : decode cX2_lostBehind 30 = .ok (.istore 4, 2) := by decide +kernel
theorem dX2_lostBehind_32 : decode cX2_lostBehind 32 = .ok (.aload_n 0, 1) := by decide +kernel
theorem dX2_lostBehind_33 : decode cX2_lostBehind 33 = .ok (.invokevirtual 148, 3) := by decide +kernel
theorem dX2_lostBehind_36 : decode cX2_lostBehind 36 = .ok (.iload 4, 2) := by decide +kernel
theorem dX2_lostBehind_38 : decode cX2_lostBehind 38 = .ok (.ireturn, 1) := by decide +kernel
theorem dX2_lossIn_0 : decode cX2_lossIn 0 = .ok (.aload_n 0, 1) := by decide +kernel
theorem dX2_lossIn_1 : decode cX2_lossIn 1 = .ok (.iconst 0, 1) := by decide +kernel
theorem dX2_lossIn_2 : decode cX2_lossIn 2 = .ok (.putfield 41, 3) := by decide +kernel
theorem dX2_lossIn_5 : decode cX2_lossIn 5 = .ok (.iload_n 1, 1) := by decide +kernel
theorem dX2_lossIn_6 : decode cX2_lossIn 6 = .ok (.iconst 1, 1) := by decide +kernel
theorem dX2_lossIn_7 : decode cX2_lossIn 7 = .ok (.bipush 48, 2) := by decide +kernel
theorem dX2_lossIn_9 : decode cX2_lossIn 9 = .ok (.invokestatic 48, 3) := by decide +kernel
theorem dX2_lossIn_12 : decode cX2_lossIn 12 = .ok (.ifCond .eq 13, 3) := by decide +kernel
theorem dX2_lossIn_15 : decode cX2_lossIn 15 = .ok (.aload_n 0, 1) := by decide +kernel
theorem dX2_lossIn_16 : decode cX2_lossIn 16 = .ok (.iload_n 1, 1) := by decide +kernel
theorem dX2_lossIn_17 : decode cX2_lossIn 17 = .ok (.iconst (-1), 1) := by decide +kernel
theorem dX2_lossIn_18 : decode cX2_lossIn 18 = .ok (.iconst 0, 1) := by decide +kernel
theorem dX2_lossIn_19 : decode cX2_lossIn 19 = .ok (.invokevirtual 154, 3) := by decide +kernel
theorem dX2_lossIn_22 : decode cX2_lossIn 22 = .ok (.goto 8, 3) := by decide +kernel
theorem dX2_lossIn_25 : decode cX2_lossIn 25 = .ok (.aload_n 0, 1) := by decide +kernel
theorem dX2_lossIn_26 : decode cX2_lossIn 26 = .ok (.iconst 1, 1) := by decide +kernel
theorem dX2_lossIn_27 : decode cX2_lossIn 27 = .ok (.invokevirtual 90, 3) := by decide +kernel
theorem dX2_lossIn_30 : decode cX2_lossIn 30 = .ok (.ireturn, 1) := by decide +kernel
theorem dX2_waterIn_0 : decode cX2_waterIn 0 = .ok (.aload_n 0, 1) := by decide +kernel
theorem dX2_waterIn_1 : decode cX2_waterIn 1 = .ok (.iconst 0, 1) := by decide +kernel
theorem dX2_waterIn_2 : decode cX2_waterIn 2 = .ok (.putfield 41, 3) := by decide +kernel
theorem dX2_waterIn_5 : decode cX2_waterIn 5 = .ok (.aload_n 0, 1) := by decide +kernel
theorem dX2_waterIn_6 : decode cX2_waterIn 6 = .ok (.iload_n 1, 1) := by decide +kernel
theorem dX2_waterIn_7 : decode cX2_waterIn 7 = .ok (.invokevirtual 93, 3) := by decide +kernel
theorem dX2_waterIn_10 : decode cX2_waterIn 10 = .ok (.ifCond .ne 9, 3) := by decide +kernel
theorem dX2_waterIn_13 : decode cX2_waterIn 13 = .ok (.aload_n 0, 1) := by decide +kernel
theorem dX2_waterIn_14 : decode cX2_waterIn 14 = .ok (.iconst 1, 1) := by decide +kernel
theorem dX2_waterIn_15 : decode cX2_waterIn 15 = .ok (.invokevirtual 90, 3) := by decide +kernel
theorem dX2_waterIn_18 : decode cX2_waterIn 18 = .ok (.ireturn, 1) := by decide +kernel
theorem dX2_waterIn_19 : decode cX2_waterIn 19 = .ok (.iload_n 2, 1) := by decide +kernel
theorem dX2_waterIn_20 : decode cX2_waterIn 20 = .ok (.iconst 1, 1) := by decide +kernel
theorem dX2_waterIn_21 : decode cX2_waterIn 21 = .ok (.bipush 48, 2) := by decide +kernel
theorem dX2_waterIn_23 : decode cX2_waterIn 23 = .ok (.invokestatic 48, 3) := by decide +kernel
theorem dX2_waterIn_26 : decode cX2_waterIn 26 = .ok (.ifCond .ne 9, 3) := by decide +kernel
theorem dX2_waterIn_29 : decode cX2_waterIn 29 = .ok (.aload_n 0, 1) := by decide +kernel
theorem dX2_waterIn_30 : decode cX2_waterIn 30 = .ok (.iconst 2, 1) := by decide +kernel
theorem dX2_waterIn_31 : decode cX2_waterIn 31 = .ok (.invokevirtual 90, 3) := by decide +kernel
theorem dX2_waterIn_34 : decode cX2_waterIn 34 = .ok (.ireturn, 1) := by decide +kernel
theorem dX2_waterIn_35 : decode cX2_waterIn 35 = .ok (.aload_n 0, 1) := by decide +kernel
theorem dX2_waterIn_36 : decode cX2_waterIn 36 = .ok (.invokevirtual 145, 3) := by decide +kernel
theorem dX2_waterIn_39 : decode cX2_waterIn 39 = .ok (.aload_n 0, 1) := by decide +kernel
theorem dX2_waterIn_40 : decode cX2_waterIn 40 = .ok (.iload_n 2, 1) := by decide +kernel
theorem dX2_waterIn_41 : decode cX2_waterIn 41 = .ok (.invokevirtual 111, 3) := by decide +kernel
theorem dX2_waterIn_44 : decode cX2_waterIn 44 = .ok (.aload_n 0, 1) := by decide +kernel
theorem dX2_waterIn_45 : decode cX2_waterIn 45 = .ok (.iload_n 1, 1) := by decide +kernel
theorem dX2_waterIn_46 : decode cX2_waterIn 46 = .ok (.invokevirtual 61, 3) := by decide +kernel
theorem dX2_waterIn_49 : decode cX2_waterIn 49 = .ok (.istore_n 3, 1) := by decide +kernel
theorem dX2_waterIn_50 : decode cX2_waterIn 50 = .ok (.aload_n 0, 1) := by decide +kernel
theorem dX2_waterIn_51 : decode cX2_waterIn 51 = .ok (.invokevirtual 148, 3) := by decide +kernel
theorem dX2_waterIn_54 : decode cX2_waterIn 54 = .ok (.iload_n 3, 1) := by decide +kernel
theorem dX2_waterIn_55 : decode cX2_waterIn 55 = .ok (.ireturn, 1) := by decide +kernel
theorem dX2_turned_0 : decode cX2_turned 0 = .ok (.iconst (-1), 1) := by decide +kernel
theorem dX2_turned_1 : decode cX2_turned 1 = .ok (.istore_n 1, 1) := by decide +kernel
theorem dX2_turned_2 : decode cX2_turned 2 = .ok (.aload_n 0, 1) := by decide +kernel
theorem dX2_turned_3 : decode cX2_turned 3 = .ok (.bipush 24, 2) := by decide +kernel
theorem dX2_turned_5 : decode cX2_turned 5 = .ok (.iconst (-1), 1) := by decide +kernel
theorem dX2_turned_6 : decode cX2_turned 6 = .ok (.iconst 0, 1) := by decide +kernel
theorem dX2_turned_7 : decode cX2_turned 7 = .ok (.invokevirtual 154, 3) := by decide +kernel
theorem dX2_turned_10 : decode cX2_turned 10 = .ok (.istore_n 2, 1) := by decide +kernel
theorem dX2_turned_11 : decode cX2_turned 11 = .ok (.iconst 0, 1) := by decide +kernel
theorem dX2_turned_12 : decode cX2_turned 12 = .ok (.istore_n 3, 1) := by decide +kernel
theorem dX2_turned_13 : decode cX2_turned 13 = .ok (.iload_n 3, 1) := by decide +kernel
theorem dX2_turned_14 : decode cX2_turned 14 = .ok (.aload_n 0, 1) := by decide +kernel
theorem dX2_turned_15 : decode cX2_turned 15 = .ok (.getfield 52, 3) := by decide +kernel
theorem dX2_turned_18 : decode cX2_turned 18 = .ok (.if_icmp .ge 73, 3) := by decide +kernel
theorem dX2_turned_21 : decode cX2_turned 21 = .ok (.aload_n 0, 1) := by decide +kernel
theorem dX2_turned_22 : decode cX2_turned 22 = .ok (.getfield 29, 3) := by decide +kernel
theorem dX2_turned_25 : decode cX2_turned 25 = .ok (.iload_n 3, 1) := by decide +kernel
theorem dX2_turned_26 : decode cX2_turned 26 = .ok (.aload_n 0, 1) := by decide +kernel
theorem dX2_turned_27 : decode cX2_turned 27 = .ok (.getfield 29, 3) := by decide +kernel
theorem dX2_turned_30 : decode cX2_turned 30 = .ok (.iload_n 3, 1) := by decide +kernel
theorem dX2_turned_31 : decode cX2_turned 31 = .ok (.baload, 1) := by decide +kernel
theorem dX2_turned_32 : decode cX2_turned 32 = .ok (.ifCond .ne 7, 3) := by decide +kernel
theorem dX2_turned_35 : decode cX2_turned 35 = .ok (.iconst 1, 1) := by decide +kernel
theorem dX2_turned_36 : decode cX2_turned 36 = .ok (.goto 4, 3) := by decide +kernel
theorem dX2_turned_39 : decode cX2_turned 39 = .ok (.iconst 0, 1) := by decide +kernel
theorem dX2_turned_40 : decode cX2_turned 40 = .ok (.bastore, 1) := by decide +kernel
theorem dX2_turned_41 : decode cX2_turned 41 = .ok (.aload_n 0, 1) := by decide +kernel
theorem dX2_turned_42 : decode cX2_turned 42 = .ok (.bipush 24, 2) := by decide +kernel
theorem dX2_turned_44 : decode cX2_turned 44 = .ok (.iconst (-1), 1) := by decide +kernel
theorem dX2_turned_45 : decode cX2_turned 45 = .ok (.iconst 0, 1) := by decide +kernel
theorem dX2_turned_46 : decode cX2_turned 46 = .ok (.invokevirtual 154, 3) := by decide +kernel
theorem dX2_turned_49 : decode cX2_turned 49 = .ok (.istore 4, 2) := by decide +kernel
theorem dX2_turned_51 : decode cX2_turned 51 = .ok (.aload_n 0, 1) := by decide +kernel
theorem dX2_turned_52 : decode cX2_turned 52 = .ok (.getfield 29, 3) := by decide +kernel
theorem dX2_turned_55 : decode cX2_turned 55 = .ok (.iload_n 3, 1) := by decide +kernel
theorem dX2_turned_56 : decode cX2_turned 56 = .ok (.aload_n 0, 1) := by decide +kernel
theorem dX2_turned_57 : decode cX2_turned 57 = .ok (.getfield 29, 3) := by decide +kernel
theorem dX2_turned_60 : decode cX2_turned 60 = .ok (.iload_n 3, 1) := by decide +kernel
theorem dX2_turned_61 : decode cX2_turned 61 = .ok (.baload, 1) := by decide +kernel
theorem dX2_turned_62 : decode cX2_turned 62 = .ok (.ifCond .ne 7, 3) := by decide +kernel
theorem dX2_turned_65 : decode cX2_turned 65 = .ok (.iconst 1, 1) := by decide +kernel
theorem dX2_turned_66 : decode cX2_turned 66 = .ok (.goto 4, 3) := by decide +kernel
theorem dX2_turned_69 : decode cX2_turned 69 = .ok (.iconst 0, 1) := by decide +kernel
theorem dX2_turned_70 : decode cX2_turned 70 = .ok (.bastore, 1) := by decide +kernel
theorem dX2_turned_71 : decode cX2_turned 71 = .ok (.iload 4, 2) := by decide +kernel
theorem dX2_turned_73 : decode cX2_turned 73 = .ok (.iload_n 2, 1) := by decide +kernel
theorem dX2_turned_74 : decode cX2_turned 74 = .ok (.if_icmp .lt 6, 3) := by decide +kernel
theorem dX2_turned_77 : decode cX2_turned 77 = .ok (.goto 8, 3) := by decide +kernel
theorem dX2_turned_80 : decode cX2_turned 80 = .ok (.iload_n 3, 1) := by decide +kernel
theorem dX2_turned_81 : decode cX2_turned 81 = .ok (.istore_n 1, 1) := by decide +kernel
theorem dX2_turned_82 : decode cX2_turned 82 = .ok (.iload 4, 2) := by decide +kernel
theorem dX2_turned_84 : decode cX2_turned 84 = .ok (.istore_n 2, 1) := by decide +kernel
theorem dX2_turned_85 : decode cX2_turned 85 = .ok (.iinc 3 1, 3) := by decide +kernel
theorem dX2_turned_88 : decode cX2_turned 88 = .ok (.goto (-75), 3) := by decide +kernel
theorem dX2_turned_91 : decode cX2_turned 91 = .ok (.iload_n 1, 1) := by decide +kernel
theorem dX2_turned_92 : decode cX2_turned 92 = .ok (.ireturn, 1) := by decide +kernel
theorem dX2_bestToTurn_0 : decode cX2_bestToTurn 0 = .ok (.aload_n 0, 1) := by decide +kernel
theorem dX2_bestToTurn_1 : decode cX2_bestToTurn 1 = .ok (.aload_n 0, 1) := by decide +kernel
theorem dX2_bestToTurn_2 : decode cX2_bestToTurn 2 = .ok (.invokevirtual 158, 3) := by decide +kernel
theorem dX2_bestToTurn_5 : decode cX2_bestToTurn 5 = .ok (.invokevirtual 114, 3) := by decide +kernel
theorem dX2_bestToTurn_8 : decode cX2_bestToTurn 8 = .ok (.ireturn, 1) := by decide +kernel
theorem dX2_flooded_0 : decode cX2_flooded 0 = .ok (.iconst (-1), 1) := by decide +kernel
theorem dX2_flooded_1 : decode cX2_flooded 1 = .ok (.istore_n 2, 1) := by decide +kernel
theorem dX2_flooded_2 : decode cX2_flooded 2 = .ok (.iconst 0, 1) := by decide +kernel
theorem dX2_flooded_3 : decode cX2_flooded 3 = .ok (.istore_n 3, 1) := by decide +kernel
theorem dX2_flooded_4 : decode cX2_flooded 4 = .ok (.iconst 0, 1) := by decide +kernel
theorem dX2_flooded_5 : decode cX2_flooded 5 = .ok (.istore 4, 2) := by decide +kernel
theorem dX2_flooded_7 : decode cX2_flooded 7 = .ok (.iload 4, 2) := by decide +kernel
theorem dX2_flooded_9 : decode cX2_flooded 9 = .ok (.aload_n 0, 1) := by decide +kernel
theorem dX2_flooded_10 : decode cX2_flooded 10 = .ok (.getfield 45, 3) := by decide +kernel
theorem dX2_flooded_13 : decode cX2_flooded 13 = .ok (.if_icmp .ge 40, 3) := by decide +kernel
theorem dX2_flooded_16 : decode cX2_flooded 16 = .ok (.aload_n 0, 1) := by decide +kernel
theorem dX2_flooded_17 : decode cX2_flooded 17 = .ok (.bipush 24, 2) := by decide +kernel
theorem dX2_flooded_19 : decode cX2_flooded 19 = .ok (.iload 4, 2) := by decide +kernel
theorem dX2_flooded_21 : decode cX2_flooded 21 = .ok (.iload_n 1, 1) := by decide +kernel
theorem dX2_flooded_22 : decode cX2_flooded 22 = .ok (.invokevirtual 154, 3) := by decide +kernel
theorem dX2_flooded_25 : decode cX2_flooded 25 = .ok (.istore 5, 2) := by decide +kernel
theorem dX2_flooded_27 : decode cX2_flooded 27 = .ok (.iload_n 2, 1) := by decide +kernel
theorem dX2_flooded_28 : decode cX2_flooded 28 = .ok (.iconst (-1), 1) := by decide +kernel
theorem dX2_flooded_29 : decode cX2_flooded 29 = .ok (.if_icmp .eq 12, 3) := by decide +kernel
theorem dX2_flooded_32 : decode cX2_flooded 32 = .ok (.iload 5, 2) := by decide +kernel
theorem dX2_flooded_34 : decode cX2_flooded 34 = .ok (.iload_n 3, 1) := by decide +kernel
theorem dX2_flooded_35 : decode cX2_flooded 35 = .ok (.if_icmp .lt 6, 3) := by decide +kernel
theorem dX2_flooded_38 : decode cX2_flooded 38 = .ok (.goto 9, 3) := by decide +kernel
theorem dX2_flooded_41 : decode cX2_flooded 41 = .ok (.iload 4, 2) := by decide +kernel
theorem dX2_flooded_43 : decode cX2_flooded 43 = .ok (.istore_n 2, 1) := by decide +kernel
theorem dX2_flooded_44 : decode cX2_flooded 44 = .ok (.iload 5, 2) := by decide +kernel
theorem dX2_flooded_46 : decode cX2_flooded 46 = .ok (.istore_n 3, 1) := by decide +kernel
theorem dX2_flooded_47 : decode cX2_flooded 47 = .ok (.iinc 4 1, 3) := by decide +kernel
theorem dX2_flooded_50 : decode cX2_flooded 50 = .ok (.goto (-43), 3) := by decide +kernel
theorem dX2_flooded_53 : decode cX2_flooded 53 = .ok (.iload_n 2, 1) := by decide +kernel
theorem dX2_flooded_54 : decode cX2_flooded 54 = .ok (.ireturn, 1) := by decide +kernel
theorem dX2_bestToFlood_0 : decode cX2_bestToFlood 0 = .ok (.aload_n 0, 1) := by decide +kernel
theorem dX2_bestToFlood_1 : decode cX2_bestToFlood 1 = .ok (.iconst 0, 1) := by decide +kernel
theorem dX2_bestToFlood_2 : decode cX2_bestToFlood 2 = .ok (.putfield 41, 3) := by decide +kernel
theorem dX2_bestToFlood_5 : decode cX2_bestToFlood 5 = .ok (.iload_n 1, 1) := by decide +kernel
theorem dX2_bestToFlood_6 : decode cX2_bestToFlood 6 = .ok (.iconst 1, 1) := by decide +kernel
theorem dX2_bestToFlood_7 : decode cX2_bestToFlood 7 = .ok (.bipush 50, 2) := by decide +kernel
theorem dX2_bestToFlood_9 : decode cX2_bestToFlood 9 = .ok (.invokestatic 48, 3) := by decide +kernel
theorem dX2_bestToFlood_12 : decode cX2_bestToFlood 12 = .ok (.ifCond .eq 11, 3) := by decide +kernel
theorem dX2_bestToFlood_15 : decode cX2_bestToFlood 15 = .ok (.aload_n 0, 1) := by decide +kernel
theorem dX2_bestToFlood_16 : decode cX2_bestToFlood 16 = .ok (.iload_n 1, 1) := by decide +kernel
theorem dX2_bestToFlood_17 : decode cX2_bestToFlood 17 = .ok (.invokevirtual 161, 3) := by decide +kernel
theorem dX2_bestToFlood_20 : decode cX2_bestToFlood 20 = .ok (.goto 8, 3) := by decide +kernel
theorem dX2_bestToFlood_23 : decode cX2_bestToFlood 23 = .ok (.aload_n 0, 1) := by decide +kernel
theorem dX2_bestToFlood_24 : decode cX2_bestToFlood 24 = .ok (.iconst 1, 1) := by decide +kernel
theorem dX2_bestToFlood_25 : decode cX2_bestToFlood 25 = .ok (.invokevirtual 90, 3) := by decide +kernel
theorem dX2_bestToFlood_28 : decode cX2_bestToFlood 28 = .ok (.ireturn, 1) := by decide +kernel
theorem dX2_borne_0 : decode cX2_borne 0 = .ok (.aload_n 0, 1) := by decide +kernel
theorem dX2_borne_1 : decode cX2_borne 1 = .ok (.getfield 80, 3) := by decide +kernel
theorem dX2_borne_4 : decode cX2_borne 4 = .ok (.istore_n 1, 1) := by decide +kernel
theorem dX2_borne_5 : decode cX2_borne 5 = .ok (.aload_n 0, 1) := by decide +kernel
theorem dX2_borne_6 : decode cX2_borne 6 = .ok (.invokevirtual 123, 3) := by decide +kernel
theorem dX2_borne_9 : decode cX2_borne 9 = .ok (.istore_n 2, 1) := by decide +kernel
theorem dX2_borne_10 : decode cX2_borne 10 = .ok (.iconst (-1), 1) := by decide +kernel
theorem dX2_borne_11 : decode cX2_borne 11 = .ok (.istore_n 3, 1) := by decide +kernel
theorem dX2_borne_12 : decode cX2_borne 12 = .ok (.aload_n 0, 1) := by decide +kernel
theorem dX2_borne_13 : decode cX2_borne 13 = .ok (.iconst 0, 1) := by decide +kernel
theorem dX2_borne_14 : decode cX2_borne 14 = .ok (.putfield 80, 3) := by decide +kernel
theorem dX2_borne_17 : decode cX2_borne 17 = .ok (.aload_n 0, 1) := by decide +kernel
theorem dX2_borne_18 : decode cX2_borne 18 = .ok (.getfield 80, 3) := by decide +kernel
theorem dX2_borne_21 : decode cX2_borne 21 = .ok (.bipush 9, 2) := by decide +kernel
theorem dX2_borne_23 : decode cX2_borne 23 = .ok (.if_icmp .gt 33, 3) := by decide +kernel
theorem dX2_borne_26 : decode cX2_borne 26 = .ok (.aload_n 0, 1) := by decide +kernel
theorem dX2_borne_27 : decode cX2_borne 27 = .ok (.bipush 24, 2) := by decide +kernel
theorem dX2_borne_29 : decode cX2_borne 29 = .ok (.iconst (-1), 1) := by decide +kernel
theorem dX2_borne_30 : decode cX2_borne 30 = .ok (.iconst 0, 1) := by decide +kernel
theorem dX2_borne_31 : decode cX2_borne 31 = .ok (.invokevirtual 154, 3) := by decide +kernel
theorem dX2_borne_34 : decode cX2_borne 34 = .ok (.iload_n 2, 1) := by decide +kernel
theorem dX2_borne_35 : decode cX2_borne 35 = .ok (.if_icmp .ne 8, 3) := by decide +kernel
theorem dX2_borne_38 : decode cX2_borne 38 = .ok (.aload_n 0, 1) := by decide +kernel
theorem dX2_borne_39 : decode cX2_borne 39 = .ok (.getfield 80, 3) := by decide +kernel
theorem dX2_borne_42 : decode cX2_borne 42 = .ok (.istore_n 3, 1) := by decide +kernel
theorem dX2_borne_43 : decode cX2_borne 43 = .ok (.aload_n 0, 1) := by decide +kernel
theorem dX2_borne_44 : decode cX2_borne 44 = .ok (.dup, 1) := by decide +kernel
theorem dX2_borne_45 : decode cX2_borne 45 = .ok (.getfield 80, 3) := by decide +kernel
theorem dX2_borne_48 : decode cX2_borne 48 = .ok (.iconst 1, 1) := by decide +kernel
theorem dX2_borne_49 : decode cX2_borne 49 = .ok (.iadd, 1) := by decide +kernel
theorem dX2_borne_50 : decode cX2_borne 50 = .ok (.putfield 80, 3) := by decide +kernel
theorem dX2_borne_53 : decode cX2_borne 53 = .ok (.goto (-36), 3) := by decide +kernel
theorem dX2_borne_56 : decode cX2_borne 56 = .ok (.aload_n 0, 1) := by decide +kernel
theorem dX2_borne_57 : decode cX2_borne 57 = .ok (.iload_n 1, 1) := by decide +kernel
theorem dX2_borne_58 : decode cX2_borne 58 = .ok (.putfield 80, 3) := by decide +kernel
theorem dX2_borne_61 : decode cX2_borne 61 = .ok (.iload_n 3, 1) := by decide +kernel
theorem dX2_borne_62 : decode cX2_borne 62 = .ok (.ireturn, 1) := by decide +kernel
theorem dX2_rainBorne_0 : decode cX2_rainBorne 0 = .ok (.aload_n 0, 1) := by decide +kernel
theorem dX2_rainBorne_1 : decode cX2_rainBorne 1 = .ok (.aload_n 0, 1) := by decide +kernel
theorem dX2_rainBorne_2 : decode cX2_rainBorne 2 = .ok (.invokevirtual 164, 3) := by decide +kernel
theorem dX2_rainBorne_5 : decode cX2_rainBorne 5 = .ok (.invokevirtual 114, 3) := by decide +kernel
theorem dX2_rainBorne_8 : decode cX2_rainBorne 8 = .ok (.ireturn, 1) := by decide +kernel
theorem dX2_meanWater_0 : decode cX2_meanWater 0 = .ok (.aload_n 0, 1) := by decide +kernel
theorem dX2_meanWater_1 : decode cX2_meanWater 1 = .ok (.iconst 0, 1) := by decide +kernel
theorem dX2_meanWater_2 : decode cX2_meanWater 2 = .ok (.putfield 41, 3) := by decide +kernel
theorem dX2_meanWater_5 : decode cX2_meanWater 5 = .ok (.aload_n 0, 1) := by decide +kernel
theorem dX2_meanWater_6 : decode cX2_meanWater 6 = .ok (.getfield 45, 3) := by decide +kernel
theorem dX2_meanWater_9 : decode cX2_meanWater 9 = .ok (.ifCond .ne 7, 3) := by decide +kernel
theorem dX2_meanWater_12 : decode cX2_meanWater 12 = .ok (.dconst 0, 1) := by decide +kernel
theorem dX2_meanWater_13 : decode cX2_meanWater 13 = .ok (.goto 14, 3) := by decide +kernel
theorem dX2_meanWater_16 : decode cX2_meanWater 16 = .ok (.aload_n 0, 1) := by decide +kernel
theorem dX2_meanWater_17 : decode cX2_meanWater 17 = .ok (.invokevirtual 117, 3) := by decide +kernel
theorem dX2_meanWater_20 : decode cX2_meanWater 20 = .ok (.i2d, 1) := by decide +kernel
theorem dX2_meanWater_21 : decode cX2_meanWater 21 = .ok (.aload_n 0, 1) := by decide +kernel
theorem dX2_meanWater_22 : decode cX2_meanWater 22 = .ok (.getfield 45, 3) := by decide +kernel
theorem dX2_meanWater_25 : decode cX2_meanWater 25 = .ok (.i2d, 1) := by decide +kernel
theorem dX2_meanWater_26 : decode cX2_meanWater 26 = .ok (.ddiv, 1) := by decide +kernel
theorem dX2_meanWater_27 : decode cX2_meanWater 27 = .ok (.dreturn, 1) := by decide +kernel
theorem dX2_digest_0 : decode cX2_digest 0 = .ok (.aload_n 0, 1) := by decide +kernel
theorem dX2_digest_1 : decode cX2_digest 1 = .ok (.iconst 0, 1) := by decide +kernel
theorem dX2_digest_2 : decode cX2_digest 2 = .ok (.putfield 41, 3) := by decide +kernel
theorem dX2_digest_5 : decode cX2_digest 5 = .ok (.bipush 14, 2) := by decide +kernel
theorem dX2_digest_7 : decode cX2_digest 7 = .ok (.newarray .int, 2) := by decide +kernel
theorem dX2_digest_9 : decode cX2_digest 9 = .ok (.dup, 1) := by decide +kernel
theorem dX2_digest_10 : decode cX2_digest 10 = .ok (.iconst 0, 1) := by decide +kernel
theorem dX2_digest_11 : decode cX2_digest 11 = .ok (.aload_n 0, 1) := by decide +kernel
theorem dX2_digest_12 : decode cX2_digest 12 = .ok (.getfield 32, 3) := by decide +kernel
theorem dX2_digest_15 : decode cX2_digest 15 = .ok (.iconst 0, 1) := by decide +kernel
theorem dX2_digest_16 : decode cX2_digest 16 = .ok (.iaload, 1) := by decide +kernel
theorem dX2_digest_17 : decode cX2_digest 17 = .ok (.iastore, 1) := by decide +kernel
theorem dX2_digest_18 : decode cX2_digest 18 = .ok (.dup, 1) := by decide +kernel
theorem dX2_digest_19 : decode cX2_digest 19 = .ok (.iconst 1, 1) := by decide +kernel
theorem dX2_digest_20 : decode cX2_digest 20 = .ok (.aload_n 0, 1) := by decide +kernel
theorem dX2_digest_21 : decode cX2_digest 21 = .ok (.getfield 45, 3) := by decide +kernel
theorem dX2_digest_24 : decode cX2_digest 24 = .ok (.iastore, 1) := by decide +kernel
theorem dX2_digest_25 : decode cX2_digest 25 = .ok (.dup, 1) := by decide +kernel
theorem dX2_digest_26 : decode cX2_digest 26 = .ok (.iconst 2, 1) := by decide +kernel
theorem dX2_digest_27 : decode cX2_digest 27 = .ok (.aload_n 0, 1) := by decide +kernel
theorem dX2_digest_28 : decode cX2_digest 28 = .ok (.getfield 52, 3) := by decide +kernel
theorem dX2_digest_31 : decode cX2_digest 31 = .ok (.iastore, 1) := by decide +kernel
theorem dX2_digest_32 : decode cX2_digest 32 = .ok (.dup, 1) := by decide +kernel
theorem dX2_digest_33 : decode cX2_digest 33 = .ok (.iconst 3, 1) := by decide +kernel
theorem dX2_digest_34 : decode cX2_digest 34 = .ok (.aload_n 0, 1) := by decide +kernel
theorem dX2_digest_35 : decode cX2_digest 35 = .ok (.getfield 80, 3) := by decide +kernel
theorem dX2_digest_38 : decode cX2_digest 38 = .ok (.iastore, 1) := by decide +kernel
theorem dX2_digest_39 : decode cX2_digest 39 = .ok (.dup, 1) := by decide +kernel
theorem dX2_digest_40 : decode cX2_digest 40 = .ok (.iconst 4, 1) := by decide +kernel
theorem dX2_digest_41 : decode cX2_digest 41 = .ok (.aload_n 0, 1) := by decide +kernel
theorem dX2_digest_42 : decode cX2_digest 42 = .ok (.invokevirtual 117, 3) := by decide +kernel
theorem dX2_digest_45 : decode cX2_digest 45 = .ok (.iastore, 1) := by decide +kernel
theorem dX2_digest_46 : decode cX2_digest 46 = .ok (.dup, 1) := by decide +kernel
theorem dX2_digest_47 : decode cX2_digest 47 = .ok (.iconst 5, 1) := by decide +kernel
theorem dX2_digest_48 : decode cX2_digest 48 = .ok (.aload_n 0, 1) := by decide +kernel
theorem dX2_digest_49 : decode cX2_digest 49 = .ok (.getfield 32, 3) := by decide +kernel
theorem dX2_digest_52 : decode cX2_digest 52 = .ok (.iconst 1, 1) := by decide +kernel
theorem dX2_digest_53 : decode cX2_digest 53 = .ok (.iaload, 1) := by decide +kernel
theorem dX2_digest_54 : decode cX2_digest 54 = .ok (.iastore, 1) := by decide +kernel
theorem dX2_digest_55 : decode cX2_digest 55 = .ok (.dup, 1) := by decide +kernel
theorem dX2_digest_56 : decode cX2_digest 56 = .ok (.bipush 6, 2) := by decide +kernel
theorem dX2_digest_58 : decode cX2_digest 58 = .ok (.aload_n 0, 1) := by decide +kernel
theorem dX2_digest_59 : decode cX2_digest 59 = .ok (.invokevirtual 120, 3) := by decide +kernel
theorem dX2_digest_62 : decode cX2_digest 62 = .ok (.iastore, 1) := by decide +kernel
theorem dX2_digest_63 : decode cX2_digest 63 = .ok (.dup, 1) := by decide +kernel
theorem dX2_digest_64 : decode cX2_digest 64 = .ok (.bipush 7, 2) := by decide +kernel
theorem dX2_digest_66 : decode cX2_digest 66 = .ok (.aload_n 0, 1) := by decide +kernel
theorem dX2_digest_67 : decode cX2_digest 67 = .ok (.invokevirtual 123, 3) := by decide +kernel
theorem dX2_digest_70 : decode cX2_digest 70 = .ok (.iastore, 1) := by decide +kernel
theorem dX2_digest_71 : decode cX2_digest 71 = .ok (.dup, 1) := by decide +kernel
theorem dX2_digest_72 : decode cX2_digest 72 = .ok (.bipush 8, 2) := by decide +kernel
theorem dX2_digest_74 : decode cX2_digest 74 = .ok (.aload_n 0, 1) := by decide +kernel
theorem dX2_digest_75 : decode cX2_digest 75 = .ok (.invokevirtual 139, 3) := by decide +kernel
theorem dX2_digest_78 : decode cX2_digest 78 = .ok (.iastore, 1) := by decide +kernel
theorem dX2_digest_79 : decode cX2_digest 79 = .ok (.dup, 1) := by decide +kernel
theorem dX2_digest_80 : decode cX2_digest 80 = .ok (.bipush 9, 2) := by decide +kernel
theorem dX2_digest_82 : decode cX2_digest 82 = .ok (.aload_n 0, 1) := by decide +kernel
theorem dX2_digest_83 : decode cX2_digest 83 = .ok (.invokevirtual 142, 3) := by decide +kernel
theorem dX2_digest_86 : decode cX2_digest 86 = .ok (.iastore, 1) := by decide +kernel
theorem dX2_digest_87 : decode cX2_digest 87 = .ok (.dup, 1) := by decide +kernel
theorem dX2_digest_88 : decode cX2_digest 88 = .ok (.bipush 10, 2) := by decide +kernel
theorem dX2_digest_90 : decode cX2_digest 90 = .ok (.aload_n 0, 1) := by decide +kernel
theorem dX2_digest_91 : decode cX2_digest 91 = .ok (.bipush 12, 2) := by decide +kernel
theorem dX2_digest_93 : decode cX2_digest 93 = .ok (.iconst (-1), 1) := by decide +kernel
theorem dX2_digest_94 : decode cX2_digest 94 = .ok (.iconst 0, 1) := by decide +kernel
theorem dX2_digest_95 : decode cX2_digest 95 = .ok (.invokevirtual 154, 3) := by decide +kernel
theorem dX2_digest_98 : decode cX2_digest 98 = .ok (.iastore, 1) := by decide +kernel
theorem dX2_digest_99 : decode cX2_digest 99 = .ok (.dup, 1) := by decide +kernel

theorem dX1_bestToTurn_91 : decode cX1_bestToTurn 91 = .ok (.iinc 3 1, 3) := by decide +kernel
theorem dX1_bestToTurn_94 : decode cX1_bestToTurn 94 = .ok (.goto (-62), 3) := by decide +kernel
theorem dX1_bestToTurn_97 : decode cX1_bestToTurn 97 = .ok (.iload_n 2, 1) := by decide +kernel
theorem dX1_bestToTurn_98 : decode cX1_bestToTurn 98 = .ok (.ireturn, 1) := by decide +kernel
theorem dX1_bestToFlood_0 : decode cX1_bestToFlood 0 = .ok (.iload_n 1, 1) := by decide +kernel
theorem dX1_bestToFlood_1 : decode cX1_bestToFlood 1 = .ok (.iconst 1, 1) := by decide +kernel
theorem dX1_bestToFlood_2 : decode cX1_bestToFlood 2 = .ok (.bipush 50, 2) := by decide +kernel
theorem dX1_bestToFlood_4 : decode cX1_bestToFlood 4 = .ok (.invokestatic 19, 3) := by decide +kernel
theorem dX1_bestToFlood_7 : decode cX1_bestToFlood 7 = .ok (.iconst (-1), 1) := by decide +kernel
theorem dX1_bestToFlood_8 : decode cX1_bestToFlood 8 = .ok (.istore_n 2, 1) := by decide +kernel
theorem dX1_bestToFlood_9 : decode cX1_bestToFlood 9 = .ok (.iconst 0, 1) := by decide +kernel
theorem dX1_bestToFlood_10 : decode cX1_bestToFlood 10 = .ok (.istore_n 3, 1) := by decide +kernel
theorem dX1_bestToFlood_11 : decode cX1_bestToFlood 11 = .ok (.iconst 0, 1) := by decide +kernel
theorem dX1_bestToFlood_12 : decode cX1_bestToFlood 12 = .ok (.istore 4, 2) := by decide +kernel
theorem dX1_bestToFlood_14 : decode cX1_bestToFlood 14 = .ok (.iload 4, 2) := by decide +kernel
theorem dX1_bestToFlood_16 : decode cX1_bestToFlood 16 = .ok (.aload_n 0, 1) := by decide +kernel
theorem dX1_bestToFlood_17 : decode cX1_bestToFlood 17 = .ok (.getfield 10, 3) := by decide +kernel
theorem dX1_bestToFlood_20 : decode cX1_bestToFlood 20 = .ok (.getfield 74, 3) := by decide +kernel
theorem dX1_bestToFlood_23 : decode cX1_bestToFlood 23 = .ok (.if_icmp .ge 65, 3) := by decide +kernel
theorem dX1_bestToFlood_26 : decode cX1_bestToFlood 26 = .ok (.aload_n 0, 1) := by decide +kernel
theorem dX1_bestToFlood_27 : decode cX1_bestToFlood 27 = .ok (.getfield 16, 3) := by decide +kernel
theorem dX1_bestToFlood_30 : decode cX1_bestToFlood 30 = .ok (.aload_n 0, 1) := by decide +kernel
theorem dX1_bestToFlood_31 : decode cX1_bestToFlood 31 = .ok (.getfield 10, 3) := by decide +kernel
theorem dX1_bestToFlood_34 : decode cX1_bestToFlood 34 = .ok (.invokevirtual 128, 3) := by decide +kernel
theorem dX1_bestToFlood_37 : decode cX1_bestToFlood 37 = .ok (.aload_n 0, 1) := by decide +kernel
theorem dX1_bestToFlood_38 : decode cX1_bestToFlood 38 = .ok (.getfield 16, 3) := by decide +kernel
theorem dX1_bestToFlood_41 : decode cX1_bestToFlood 41 = .ok (.iload 4, 2) := by decide +kernel
theorem dX1_bestToFlood_43 : decode cX1_bestToFlood 43 = .ok (.iload_n 1, 1) := by decide +kernel
theorem dX1_bestToFlood_44 : decode cX1_bestToFlood 44 = .ok (.invokevirtual 56, 3) := by decide +kernel
theorem dX1_bestToFlood_47 : decode cX1_bestToFlood 47 = .ok (.aload_n 0, 1) := by decide +kernel
theorem dX1_bestToFlood_48 : decode cX1_bestToFlood 48 = .ok (.getfield 16, 3) := by decide +kernel
theorem dX1_bestToFlood_51 : decode cX1_bestToFlood 51 = .ok (.bipush 24, 2) := by decide +kernel
theorem dX1_bestToFlood_53 : decode cX1_bestToFlood 53 = .ok (.invokevirtual 68, 3) := by decide +kernel
theorem dX1_bestToFlood_56 : decode cX1_bestToFlood 56 = .ok (.aload_n 0, 1) := by decide +kernel
theorem dX1_bestToFlood_57 : decode cX1_bestToFlood 57 = .ok (.getfield 16, 3) := by decide +kernel
theorem dX1_bestToFlood_60 : decode cX1_bestToFlood 60 = .ok (.invokevirtual 87, 3) := by decide +kernel
theorem dX1_bestToFlood_63 : decode cX1_bestToFlood 63 = .ok (.istore 5, 2) := by decide +kernel
theorem dX1_bestToFlood_65 : decode cX1_bestToFlood 65 = .ok (.iload_n 2, 1) := by decide +kernel
theorem dX1_bestToFlood_66 : decode cX1_bestToFlood 66 = .ok (.iconst (-1), 1) := by decide +kernel
theorem dX1_bestToFlood_67 : decode cX1_bestToFlood 67 = .ok (.if_icmp .eq 9, 3) := by decide +kernel
theorem dX1_bestToFlood_70 : decode cX1_bestToFlood 70 = .ok (.iload 5, 2) := by decide +kernel
theorem dX1_bestToFlood_72 : decode cX1_bestToFlood 72 = .ok (.iload_n 3, 1) := by decide +kernel
theorem dX1_bestToFlood_73 : decode cX1_bestToFlood 73 = .ok (.if_icmp .ge 9, 3) := by decide +kernel
theorem dX1_bestToFlood_76 : decode cX1_bestToFlood 76 = .ok (.iload 4, 2) := by decide +kernel
theorem dX1_bestToFlood_78 : decode cX1_bestToFlood 78 = .ok (.istore_n 2, 1) := by decide +kernel
theorem dX1_bestToFlood_79 : decode cX1_bestToFlood 79 = .ok (.iload 5, 2) := by decide +kernel
theorem dX1_bestToFlood_81 : decode cX1_bestToFlood 81 = .ok (.istore_n 3, 1) := by decide +kernel
theorem dX1_bestToFlood_82 : decode cX1_bestToFlood 82 = .ok (.iinc 4 1, 3) := by decide +kernel
theorem dX1_bestToFlood_85 : decode cX1_bestToFlood 85 = .ok (.goto (-71), 3) := by decide +kernel
theorem dX1_bestToFlood_88 : decode cX1_bestToFlood 88 = .ok (.iload_n 2, 1) := by decide +kernel
theorem dX1_bestToFlood_89 : decode cX1_bestToFlood 89 = .ok (.ireturn, 1) := by decide +kernel
theorem dX1_rainBorne_0 : decode cX1_rainBorne 0 = .ok (.aload_n 0, 1) := by decide +kernel
theorem dX1_rainBorne_1 : decode cX1_rainBorne 1 = .ok (.getfield 10, 3) := by decide +kernel
theorem dX1_rainBorne_4 : decode cX1_rainBorne 4 = .ok (.invokevirtual 87, 3) := by decide +kernel
theorem dX1_rainBorne_7 : decode cX1_rainBorne 7 = .ok (.istore_n 1, 1) := by decide +kernel
theorem dX1_rainBorne_8 : decode cX1_rainBorne 8 = .ok (.bipush 9, 2) := by decide +kernel
theorem dX1_rainBorne_10 : decode cX1_rainBorne 10 = .ok (.istore_n 2, 1) := by decide +kernel
theorem dX1_rainBorne_11 : decode cX1_rainBorne 11 = .ok (.iload_n 2, 1) := by decide +kernel
theorem dX1_rainBorne_12 : decode cX1_rainBorne 12 = .ok (.ifCond .lt 50, 3) := by decide +kernel
theorem dX1_rainBorne_15 : decode cX1_rainBorne 15 = .ok (.aload_n 0, 1) := by decide +kernel
theorem dX1_rainBorne_16 : decode cX1_rainBorne 16 = .ok (.getfield 16, 3) := by decide +kernel
theorem dX1_rainBorne_19 : decode cX1_rainBorne 19 = .ok (.aload_n 0, 1) := by decide +kernel
theorem dX1_rainBorne_20 : decode cX1_rainBorne 20 = .ok (.getfield 10, 3) := by decide +kernel
theorem dX1_rainBorne_23 : decode cX1_rainBorne 23 = .ok (.invokevirtual 128, 3) := by decide +kernel
theorem dX1_rainBorne_26 : decode cX1_rainBorne 26 = .ok (.aload_n 0, 1) := by decide +kernel
theorem dX1_rainBorne_27 : decode cX1_rainBorne 27 = .ok (.getfield 16, 3) := by decide +kernel
theorem dX1_rainBorne_30 : decode cX1_rainBorne 30 = .ok (.iload_n 2, 1) := by decide +kernel
theorem dX1_rainBorne_31 : decode cX1_rainBorne 31 = .ok (.putfield 52, 3) := by decide +kernel
theorem dX1_rainBorne_34 : decode cX1_rainBorne 34 = .ok (.aload_n 0, 1) := by decide +kernel
theorem dX1_rainBorne_35 : decode cX1_rainBorne 35 = .ok (.getfield 16, 3) := by decide +kernel
theorem dX1_rainBorne_38 : decode cX1_rainBorne 38 = .ok (.bipush 24, 2) := by decide +kernel
theorem dX1_rainBorne_40 : decode cX1_rainBorne 40 = .ok (.invokevirtual 68, 3) := by decide +kernel
theorem dX1_rainBorne_43 : decode cX1_rainBorne 43 = .ok (.aload_n 0, 1) := by decide +kernel
theorem dX1_rainBorne_44 : decode cX1_rainBorne 44 = .ok (.getfield 16, 3) := by decide +kernel
theorem dX1_rainBorne_47 : decode cX1_rainBorne 47 = .ok (.invokevirtual 87, 3) := by decide +kernel
theorem dX1_rainBorne_50 : decode cX1_rainBorne 50 = .ok (.iload_n 1, 1) := by decide +kernel
theorem dX1_rainBorne_51 : decode cX1_rainBorne 51 = .ok (.if_icmp .ne 5, 3) := by decide +kernel
theorem dX1_rainBorne_54 : decode cX1_rainBorne 54 = .ok (.iload_n 2, 1) := by decide +kernel
theorem dX1_rainBorne_55 : decode cX1_rainBorne 55 = .ok (.ireturn, 1) := by decide +kernel
theorem dX1_rainBorne_56 : decode cX1_rainBorne 56 = .ok (.iinc 2 (-1), 3) := by decide +kernel
theorem dX1_rainBorne_59 : decode cX1_rainBorne 59 = .ok (.goto (-48), 3) := by decide +kernel
theorem dX1_rainBorne_62 : decode cX1_rainBorne 62 = .ok (.iconst (-1), 1) := by decide +kernel
theorem dX1_rainBorne_63 : decode cX1_rainBorne 63 = .ok (.ireturn, 1) := by decide +kernel
theorem dX1_meanWater_0 : decode cX1_meanWater 0 = .ok (.aload_n 0, 1) := by decide +kernel
theorem dX1_meanWater_1 : decode cX1_meanWater 1 = .ok (.getfield 10, 3) := by decide +kernel
theorem dX1_meanWater_4 : decode cX1_meanWater 4 = .ok (.getfield 74, 3) := by decide +kernel
theorem dX1_meanWater_7 : decode cX1_meanWater 7 = .ok (.istore_n 1, 1) := by decide +kernel
theorem dX1_meanWater_8 : decode cX1_meanWater 8 = .ok (.iload_n 1, 1) := by decide +kernel
theorem dX1_meanWater_9 : decode cX1_meanWater 9 = .ok (.ifCond .gt 5, 3) := by decide +kernel
theorem dX1_meanWater_12 : decode cX1_meanWater 12 = .ok (.dconst 0, 1) := by decide +kernel
theorem dX1_meanWater_13 : decode cX1_meanWater 13 = .ok (.dreturn, 1) := by decide +kernel
theorem dX1_meanWater_14 : decode cX1_meanWater 14 = .ok (.aload_n 0, 1) := by decide +kernel
theorem dX1_meanWater_15 : decode cX1_meanWater 15 = .ok (.invokevirtual 135, 3) := by decide +kernel
theorem dX1_meanWater_18 : decode cX1_meanWater 18 = .ok (.i2d, 1) := by decide +kernel
theorem dX1_meanWater_19 : decode cX1_meanWater 19 = .ok (.iload_n 1, 1) := by decide +kernel
theorem dX1_meanWater_20 : decode cX1_meanWater 20 = .ok (.i2d, 1) := by decide +kernel
theorem dX1_meanWater_21 : decode cX1_meanWater 21 = .ok (.ddiv, 1) := by decide +kernel
theorem dX1_meanWater_22 : decode cX1_meanWater 22 = .ok (.dreturn, 1) := by decide +kernel
theorem dX1_digest_0 : decode cX1_digest 0 = .ok (.ldc2_w 138, 3) := by decide +kernel
theorem dX1_digest_3 : decode cX1_digest 3 = .ok (.lstore_n 1, 1) := by decide +kernel
theorem dX1_digest_4 : decode cX1_digest 4 = .ok (.lload_n 1, 1) := by decide +kernel
theorem dX1_digest_5 : decode cX1_digest 5 = .ok (.aload_n 0, 1) := by decide +kernel
theorem dX1_digest_6 : decode cX1_digest 6 = .ok (.invokevirtual 140, 3) := by decide +kernel
theorem dX1_digest_9 : decode cX1_digest 9 = .ok (.invokestatic 143, 3) := by decide +kernel
theorem dX1_digest_12 : decode cX1_digest 12 = .ok (.lstore_n 1, 1) := by decide +kernel
theorem dX1_digest_13 : decode cX1_digest 13 = .ok (.lload_n 1, 1) := by decide +kernel
theorem dX1_digest_14 : decode cX1_digest 14 = .ok (.aload_n 0, 1) := by decide +kernel
theorem dX1_digest_15 : decode cX1_digest 15 = .ok (.invokevirtual 147, 3) := by decide +kernel
theorem dX1_digest_18 : decode cX1_digest 18 = .ok (.invokestatic 143, 3) := by decide +kernel
theorem dX1_digest_21 : decode cX1_digest 21 = .ok (.lstore_n 1, 1) := by decide +kernel
theorem dX1_digest_22 : decode cX1_digest 22 = .ok (.lload_n 1, 1) := by decide +kernel
theorem dX1_digest_23 : decode cX1_digest 23 = .ok (.aload_n 0, 1) := by decide +kernel
theorem dX1_digest_24 : decode cX1_digest 24 = .ok (.invokevirtual 150, 3) := by decide +kernel
theorem dX1_digest_27 : decode cX1_digest 27 = .ok (.invokestatic 143, 3) := by decide +kernel
theorem dX1_digest_30 : decode cX1_digest 30 = .ok (.lstore_n 1, 1) := by decide +kernel
theorem dX1_digest_31 : decode cX1_digest 31 = .ok (.lload_n 1, 1) := by decide +kernel
theorem dX1_digest_32 : decode cX1_digest 32 = .ok (.aload_n 0, 1) := by decide +kernel
theorem dX1_digest_33 : decode cX1_digest 33 = .ok (.invokevirtual 153, 3) := by decide +kernel
theorem dX1_digest_36 : decode cX1_digest 36 = .ok (.invokestatic 143, 3) := by decide +kernel
theorem dX1_digest_39 : decode cX1_digest 39 = .ok (.lstore_n 1, 1) := by decide +kernel
theorem dX1_digest_40 : decode cX1_digest 40 = .ok (.lload_n 1, 1) := by decide +kernel
theorem dX1_digest_41 : decode cX1_digest 41 = .ok (.aload_n 0, 1) := by decide +kernel
theorem dX1_digest_42 : decode cX1_digest 42 = .ok (.invokevirtual 135, 3) := by decide +kernel
theorem dX1_digest_45 : decode cX1_digest 45 = .ok (.invokestatic 143, 3) := by decide +kernel
theorem dX1_digest_48 : decode cX1_digest 48 = .ok (.lstore_n 1, 1) := by decide +kernel
theorem dX1_digest_49 : decode cX1_digest 49 = .ok (.lload_n 1, 1) := by decide +kernel
theorem dX1_digest_50 : decode cX1_digest 50 = .ok (.aload_n 0, 1) := by decide +kernel
theorem dX1_digest_51 : decode cX1_digest 51 = .ok (.invokevirtual 156, 3) := by decide +kernel
theorem dX1_digest_54 : decode cX1_digest 54 = .ok (.invokestatic 143, 3) := by decide +kernel
theorem dX1_digest_57 : decode cX1_digest 57 = .ok (.lstore_n 1, 1) := by decide +kernel
theorem dX1_digest_58 : decode cX1_digest 58 = .ok (.lload_n 1, 1) := by decide +kernel
theorem dX1_digest_59 : decode cX1_digest 59 = .ok (.aload_n 0, 1) := by decide +kernel
theorem dX1_digest_60 : decode cX1_digest 60 = .ok (.invokevirtual 159, 3) := by decide +kernel
theorem dX1_digest_63 : decode cX1_digest 63 = .ok (.invokestatic 143, 3) := by decide +kernel
theorem dX1_digest_66 : decode cX1_digest 66 = .ok (.lstore_n 1, 1) := by decide +kernel
theorem dX1_digest_67 : decode cX1_digest 67 = .ok (.lload_n 1, 1) := by decide +kernel
theorem dX1_digest_68 : decode cX1_digest 68 = .ok (.aload_n 0, 1) := by decide +kernel
theorem dX1_digest_69 : decode cX1_digest 69 = .ok (.invokevirtual 162, 3) := by decide +kernel
theorem dX1_digest_72 : decode cX1_digest 72 = .ok (.invokestatic 143, 3) := by decide +kernel
theorem dX1_digest_75 : decode cX1_digest 75 = .ok (.lstore_n 1, 1) := by decide +kernel
theorem dX1_digest_76 : decode cX1_digest 76 = .ok (.lload_n 1, 1) := by decide +kernel
theorem dX1_digest_77 : decode cX1_digest 77 = .ok (.aload_n 0, 1) := by decide +kernel
theorem dX1_digest_78 : decode cX1_digest 78 = .ok (.invokevirtual 165, 3) := by decide +kernel
theorem dX1_digest_81 : decode cX1_digest 81 = .ok (.invokestatic 143, 3) := by decide +kernel
theorem dX1_digest_84 : decode cX1_digest 84 = .ok (.lstore_n 1, 1) := by decide +kernel
theorem dX1_digest_85 : decode cX1_digest 85 = .ok (.lload_n 1, 1) := by decide +kernel
theorem dX1_digest_86 : decode cX1_digest 86 = .ok (.aload_n 0, 1) := by decide +kernel
theorem dX1_digest_87 : decode cX1_digest 87 = .ok (.invokevirtual 168, 3) := by decide +kernel
theorem dX1_digest_90 : decode cX1_digest 90 = .ok (.invokestatic 143, 3) := by decide +kernel
theorem dX1_digest_93 : decode cX1_digest 93 = .ok (.lstore_n 1, 1) := by decide +kernel
theorem dX1_digest_94 : decode cX1_digest 94 = .ok (.lload_n 1, 1) := by decide +kernel
theorem dX1_digest_95 : decode cX1_digest 95 = .ok (.aload_n 0, 1) := by decide +kernel
theorem dX1_digest_96 : decode cX1_digest 96 = .ok (.bipush 12, 2) := by decide +kernel
theorem dX1_digest_98 : decode cX1_digest 98 = .ok (.invokevirtual 171, 3) := by decide +kernel
theorem dX1_digest_101 : decode cX1_digest 101 = .ok (.invokestatic 143, 3) := by decide +kernel
theorem dX1_digest_104 : decode cX1_digest 104 = .ok (.lstore_n 1, 1) := by decide +kernel
theorem dX1_digest_105 : decode cX1_digest 105 = .ok (.lload_n 1, 1) := by decide +kernel
theorem dX1_digest_106 : decode cX1_digest 106 = .ok (.aload_n 0, 1) := by decide +kernel
theorem dX1_digest_107 : decode cX1_digest 107 = .ok (.invokevirtual 174, 3) := by decide +kernel
theorem dX1_digest_110 : decode cX1_digest 110 = .ok (.invokestatic 143, 3) := by decide +kernel
theorem dX1_digest_113 : decode cX1_digest 113 = .ok (.lstore_n 1, 1) := by decide +kernel
theorem dX1_digest_114 : decode cX1_digest 114 = .ok (.lload_n 1, 1) := by decide +kernel
theorem dX1_digest_115 : decode cX1_digest 115 = .ok (.aload_n 0, 1) := by decide +kernel
theorem dX1_digest_116 : decode cX1_digest 116 = .ok (.bipush 10, 2) := by decide +kernel
theorem dX1_digest_118 : decode cX1_digest 118 = .ok (.invokevirtual 177, 3) := by decide +kernel
theorem dX1_digest_121 : decode cX1_digest 121 = .ok (.invokestatic 143, 3) := by decide +kernel
theorem dX1_digest_124 : decode cX1_digest 124 = .ok (.lstore_n 1, 1) := by decide +kernel
theorem dX1_digest_125 : decode cX1_digest 125 = .ok (.lload_n 1, 1) := by decide +kernel
theorem dX1_digest_126 : decode cX1_digest 126 = .ok (.aload_n 0, 1) := by decide +kernel
theorem dX1_digest_127 : decode cX1_digest 127 = .ok (.invokevirtual 180, 3) := by decide +kernel
theorem dX1_digest_130 : decode cX1_digest 130 = .ok (.invokestatic 143, 3) := by decide +kernel
theorem dX1_digest_133 : decode cX1_digest 133 = .ok (.lstore_n 1, 1) := by decide +kernel
theorem dX1_digest_134 : decode cX1_digest 134 = .ok (.aload_n 0, 1) := by decide +kernel
theorem dX1_digest_135 : decode cX1_digest 135 = .ok (.lload_n 1, 1) := by decide +kernel
theorem dX1_digest_136 : decode cX1_digest 136 = .ok (.invokevirtual 183, 3) := by decide +kernel
theorem dX1_digest_139 : decode cX1_digest 139 = .ok (.lstore_n 1, 1) := by decide +kernel
theorem dX1_digest_140 : decode cX1_digest 140 = .ok (.aload_n 0, 1) := by decide +kernel
theorem dX1_digest_141 : decode cX1_digest 141 = .ok (.lload_n 1, 1) := by decide +kernel
theorem dX1_digest_142 : decode cX1_digest 142 = .ok (.invokevirtual 187, 3) := by decide +kernel
theorem dX1_digest_145 : decode cX1_digest 145 = .ok (.lreturn, 1) := by decide +kernel
theorem dX1_mixFields_0 : decode cX1_mixFields 0 = .ok (.lload_n 1, 1) := by decide +kernel
theorem dX1_mixFields_1 : decode cX1_mixFields 1 = .ok (.lstore_n 3, 1) := by decide +kernel
theorem dX1_mixFields_2 : decode cX1_mixFields 2 = .ok (.iconst 0, 1) := by decide +kernel
theorem dX1_mixFields_3 : decode cX1_mixFields 3 = .ok (.istore 5, 2) := by decide +kernel
theorem dX1_mixFields_5 : decode cX1_mixFields 5 = .ok (.iload 5, 2) := by decide +kernel
theorem dX1_mixFields_7 : decode cX1_mixFields 7 = .ok (.aload_n 0, 1) := by decide +kernel
theorem dX1_mixFields_8 : decode cX1_mixFields 8 = .ok (.getfield 10, 3) := by decide +kernel
theorem dX1_mixFields_11 : decode cX1_mixFields 11 = .ok (.getfield 74, 3) := by decide +kernel
theorem dX1_mixFields_14 : decode cX1_mixFields 14 = .ok (.if_icmp .ge 83, 3) := by decide +kernel
theorem dX1_mixFields_17 : decode cX1_mixFields 17 = .ok (.lload_n 3, 1) := by decide +kernel
theorem dX1_mixFields_18 : decode cX1_mixFields 18 = .ok (.aload_n 0, 1) := by decide +kernel
theorem dX1_mixFields_19 : decode cX1_mixFields 19 = .ok (.iload 5, 2) := by decide +kernel
theorem dX1_mixFields_21 : decode cX1_mixFields 21 = .ok (.invokevirtual 190, 3) := by decide +kernel
theorem dX1_mixFields_24 : decode cX1_mixFields 24 = .ok (.invokestatic 143, 3) := by decide +kernel
theorem dX1_mixFields_27 : decode cX1_mixFields 27 = .ok (.lstore_n 3, 1) := by decide +kernel
theorem dX1_mixFields_28 : decode cX1_mixFields 28 = .ok (.lload_n 3, 1) := by decide +kernel
theorem dX1_mixFields_29 : decode cX1_mixFields 29 = .ok (.aload_n 0, 1) := by decide +kernel
theorem dX1_mixFields_30 : decode cX1_mixFields 30 = .ok (.iload 5, 2) := by decide +kernel
theorem dX1_mixFields_32 : decode cX1_mixFields 32 = .ok (.invokevirtual 193, 3) := by decide +kernel
theorem dX1_mixFields_35 : decode cX1_mixFields 35 = .ok (.invokestatic 143, 3) := by decide +kernel
theorem dX1_mixFields_38 : decode cX1_mixFields 38 = .ok (.lstore_n 3, 1) := by decide +kernel
theorem dX1_mixFields_39 : decode cX1_mixFields 39 = .ok (.lload_n 3, 1) := by decide +kernel
theorem dX1_mixFields_40 : decode cX1_mixFields 40 = .ok (.aload_n 0, 1) := by decide +kernel
theorem dX1_mixFields_41 : decode cX1_mixFields 41 = .ok (.iload 5, 2) := by decide +kernel
theorem dX1_mixFields_43 : decode cX1_mixFields 43 = .ok (.invokevirtual 196, 3) := by decide +kernel
theorem dX1_mixFields_46 : decode cX1_mixFields 46 = .ok (.ifCond .eq 7, 3) := by decide +kernel
theorem dX1_mixFields_49 : decode cX1_mixFields 49 = .ok (.iconst 1, 1) := by decide +kernel
theorem dX1_mixFields_50 : decode cX1_mixFields 50 = .ok (.goto 4, 3) := by decide +kernel
theorem dX1_mixFields_53 : decode cX1_mixFields 53 = .ok (.iconst 0, 1) := by decide +kernel
theorem dX1_mixFields_54 : decode cX1_mixFields 54 = .ok (.invokestatic 143, 3) := by decide +kernel
theorem dX1_mixFields_57 : decode cX1_mixFields 57 = .ok (.lstore_n 3, 1) := by decide +kernel
theorem dX1_mixFields_58 : decode cX1_mixFields 58 = .ok (.lload_n 3, 1) := by decide +kernel
theorem dX1_mixFields_59 : decode cX1_mixFields 59 = .ok (.aload_n 0, 1) := by decide +kernel
theorem dX1_mixFields_60 : decode cX1_mixFields 60 = .ok (.iload 5, 2) := by decide +kernel
theorem dX1_mixFields_62 : decode cX1_mixFields 62 = .ok (.invokevirtual 199, 3) := by decide +kernel
theorem dX1_mixFields_65 : decode cX1_mixFields 65 = .ok (.invokestatic 143, 3) := by decide +kernel
theorem dX1_mixFields_68 : decode cX1_mixFields 68 = .ok (.lstore_n 3, 1) := by decide +kernel
theorem dX1_mixFields_69 : decode cX1_mixFields 69 = .ok (.lload_n 3, 1) := by decide +kernel
theorem dX1_mixFields_70 : decode cX1_mixFields 70 = .ok (.aload_n 0, 1) := by decide +kernel
theorem dX1_mixFields_71 : decode cX1_mixFields 71 = .ok (.iload 5, 2) := by decide +kernel
theorem dX1_mixFields_73 : decode cX1_mixFields 73 = .ok (.invokevirtual 202, 3) := by decide +kernel
theorem dX1_mixFields_76 : decode cX1_mixFields 76 = .ok (.invokestatic 143, 3) := by decide +kernel
theorem dX1_mixFields_79 : decode cX1_mixFields 79 = .ok (.lstore_n 3, 1) := by decide +kernel
theorem dX1_mixFields_80 : decode cX1_mixFields 80 = .ok (.lload_n 3, 1) := by decide +kernel
theorem dX1_mixFields_81 : decode cX1_mixFields 81 = .ok (.aload_n 0, 1) := by decide +kernel
theorem dX1_mixFields_82 : decode cX1_mixFields 82 = .ok (.iload 5, 2) := by decide +kernel
theorem dX1_mixFields_84 : decode cX1_mixFields 84 = .ok (.invokevirtual 205, 3) := by decide +kernel
theorem dX1_mixFields_87 : decode cX1_mixFields 87 = .ok (.invokestatic 143, 3) := by decide +kernel
theorem dX1_mixFields_90 : decode cX1_mixFields 90 = .ok (.lstore_n 3, 1) := by decide +kernel
theorem dX1_mixFields_91 : decode cX1_mixFields 91 = .ok (.iinc 5 1, 3) := by decide +kernel
theorem dX1_mixFields_94 : decode cX1_mixFields 94 = .ok (.goto (-89), 3) := by decide +kernel
theorem dX1_mixFields_97 : decode cX1_mixFields 97 = .ok (.lload_n 3, 1) := by decide +kernel
theorem dX1_mixFields_98 : decode cX1_mixFields 98 = .ok (.lreturn, 1) := by decide +kernel
theorem dX1_mixDrains_0 : decode cX1_mixDrains 0 = .ok (.lload_n 1, 1) := by decide +kernel
theorem dX1_mixDrains_1 : decode cX1_mixDrains 1 = .ok (.lstore_n 3, 1) := by decide +kernel
theorem dX1_mixDrains_2 : decode cX1_mixDrains 2 = .ok (.iconst 0, 1) := by decide +kernel
theorem dX1_mixDrains_3 : decode cX1_mixDrains 3 = .ok (.istore 5, 2) := by decide +kernel
theorem dX1_mixDrains_5 : decode cX1_mixDrains 5 = .ok (.iload 5, 2) := by decide +kernel
theorem dX1_mixDrains_7 : decode cX1_mixDrains 7 = .ok (.aload_n 0, 1) := by decide +kernel
theorem dX1_mixDrains_8 : decode cX1_mixDrains 8 = .ok (.getfield 10, 3) := by decide +kernel
theorem dX1_mixDrains_11 : decode cX1_mixDrains 11 = .ok (.getfield 77, 3) := by decide +kernel
theorem dX1_mixDrains_14 : decode cX1_mixDrains 14 = .ok (.if_icmp .ge 50, 3) := by decide +kernel
theorem dX1_mixDrains_17 : decode cX1_mixDrains 17 = .ok (.lload_n 3, 1) := by decide +kernel
theorem dX1_mixDrains_18 : decode cX1_mixDrains 18 = .ok (.aload_n 0, 1) := by decide +kernel
theorem dX1_mixDrains_19 : decode cX1_mixDrains 19 = .ok (.iload 5, 2) := by decide +kernel
theorem dX1_mixDrains_21 : decode cX1_mixDrains 21 = .ok (.invokevirtual 208, 3) := by decide +kernel
theorem dX1_mixDrains_24 : decode cX1_mixDrains 24 = .ok (.ifCond .eq 7, 3) := by decide +kernel
theorem dX1_mixDrains_27 : decode cX1_mixDrains 27 = .ok (.iconst 1, 1) := by decide +kernel
theorem dX1_mixDrains_28 : decode cX1_mixDrains 28 = .ok (.goto 4, 3) := by decide +kernel
theorem dX1_mixDrains_31 : decode cX1_mixDrains 31 = .ok (.iconst 0, 1) := by decide +kernel
theorem dX1_mixDrains_32 : decode cX1_mixDrains 32 = .ok (.invokestatic 143, 3) := by decide +kernel
theorem dX1_mixDrains_35 : decode cX1_mixDrains 35 = .ok (.lstore_n 3, 1) := by decide +kernel
theorem dX1_mixDrains_36 : decode cX1_mixDrains 36 = .ok (.lload_n 3, 1) := by decide +kernel
theorem dX1_mixDrains_37 : decode cX1_mixDrains 37 = .ok (.aload_n 0, 1) := by decide +kernel
theorem dX1_mixDrains_38 : decode cX1_mixDrains 38 = .ok (.iload 5, 2) := by decide +kernel
theorem dX1_mixDrains_40 : decode cX1_mixDrains 40 = .ok (.invokevirtual 211, 3) := by decide +kernel
theorem dX1_mixDrains_43 : decode cX1_mixDrains 43 = .ok (.invokestatic 143, 3) := by decide +kernel
theorem dX1_mixDrains_46 : decode cX1_mixDrains 46 = .ok (.lstore_n 3, 1) := by decide +kernel
theorem dX1_mixDrains_47 : decode cX1_mixDrains 47 = .ok (.lload_n 3, 1) := by decide +kernel
theorem dX1_mixDrains_48 : decode cX1_mixDrains 48 = .ok (.aload_n 0, 1) := by decide +kernel
theorem dX1_mixDrains_49 : decode cX1_mixDrains 49 = .ok (.iload 5, 2) := by decide +kernel
theorem dX1_mixDrains_51 : decode cX1_mixDrains 51 = .ok (.invokevirtual 214, 3) := by decide +kernel
theorem dX1_mixDrains_54 : decode cX1_mixDrains 54 = .ok (.invokestatic 143, 3) := by decide +kernel
theorem dX1_mixDrains_57 : decode cX1_mixDrains 57 = .ok (.lstore_n 3, 1) := by decide +kernel
theorem dX1_mixDrains_58 : decode cX1_mixDrains 58 = .ok (.iinc 5 1, 3) := by decide +kernel
theorem dX1_mixDrains_61 : decode cX1_mixDrains 61 = .ok (.goto (-56), 3) := by decide +kernel
theorem dX1_mixDrains_64 : decode cX1_mixDrains 64 = .ok (.lload_n 3, 1) := by decide +kernel
theorem dX1_mixDrains_65 : decode cX1_mixDrains 65 = .ok (.lreturn, 1) := by decide +kernel
theorem dX1_mix_0 : decode cX1_mix 0 = .ok (.lload_n 0, 1) := by decide +kernel
theorem dX1_mix_1 : decode cX1_mix 1 = .ok (.ldc2_w 217, 3) := by decide +kernel
theorem dX1_mix_4 : decode cX1_mix 4 = .ok (.lmul, 1) := by decide +kernel
theorem dX1_mix_5 : decode cX1_mix 5 = .ok (.iload_n 2, 1) := by decide +kernel
theorem dX1_mix_6 : decode cX1_mix 6 = .ok (.i2l, 1) := by decide +kernel
theorem dX1_mix_7 : decode cX1_mix 7 = .ok (.ladd, 1) := by decide +kernel
theorem dX1_mix_8 : decode cX1_mix 8 = .ok (.lreturn, 1) := by decide +kernel
theorem dX1_addDrain_0 : decode cX1_addDrain 0 = .ok (.iload_n 1, 1) := by decide +kernel
theorem dX1_addDrain_1 : decode cX1_addDrain 1 = .ok (.iload_n 2, 1) := by decide +kernel
theorem dX1_addDrain_2 : decode cX1_addDrain 2 = .ok (.if_icmp .ne 13, 3) := by decide +kernel
theorem dX1_addDrain_5 : decode cX1_addDrain 5 = .ok (.new 219, 3) := by decide +kernel
theorem dX1_addDrain_8 : decode cX1_addDrain 8 = .ok (.dup, 1) := by decide +kernel
theorem dX1_addDrain_9 : decode cX1_addDrain 9 = .ok (.ldc 221, 2) := by decide +kernel
theorem dX1_addDrain_11 : decode cX1_addDrain 11 = .ok (.invokespecial 223, 3) := by decide +kernel
theorem dX1_addDrain_14 : decode cX1_addDrain 14 = .ok (.athrow, 1) := by decide +kernel
theorem dX1_addDrain_15 : decode cX1_addDrain 15 = .ok (.iload_n 3, 1) := by decide +kernel
theorem dX1_addDrain_16 : decode cX1_addDrain 16 = .ok (.iconst 1, 1) := by decide +kernel
theorem dX1_addDrain_17 : decode cX1_addDrain 17 = .ok (.bipush 9, 2) := by decide +kernel
theorem dX1_addDrain_19 : decode cX1_addDrain 19 = .ok (.invokestatic 19, 3) := by decide +kernel
theorem dX1_addDrain_22 : decode cX1_addDrain 22 = .ok (.aload_n 0, 1) := by decide +kernel
theorem dX1_addDrain_23 : decode cX1_addDrain 23 = .ok (.getfield 10, 3) := by decide +kernel
theorem dX1_addDrain_26 : decode cX1_addDrain 26 = .ok (.iload_n 1, 1) := by decide +kernel
theorem dX1_addDrain_27 : decode cX1_addDrain 27 = .ok (.iload_n 2, 1) := by decide +kernel
theorem dX1_addDrain_28 : decode cX1_addDrain 28 = .ok (.iload_n 3, 1) := by decide +kernel
theorem dX1_addDrain_29 : decode cX1_addDrain 29 = .ok (.iload 4, 2) := by decide +kernel
theorem dX1_addDrain_31 : decode cX1_addDrain 31 = .ok (.invokevirtual 224, 3) := by decide +kernel
theorem dX1_addDrain_34 : decode cX1_addDrain 34 = .ok (.istore 5, 2) := by decide +kernel
theorem dX1_addDrain_36 : decode cX1_addDrain 36 = .ok (.iload 5, 2) := by decide +kernel
theorem dX1_addDrain_38 : decode cX1_addDrain 38 = .ok (.iconst (-1), 1) := by decide +kernel
theorem dX1_addDrain_39 : decode cX1_addDrain 39 = .ok (.if_icmp .ne 13, 3) := by decide +kernel
theorem dX1_addDrain_42 : decode cX1_addDrain 42 = .ok (.new 27, 3) := by decide +kernel
theorem dX1_addDrain_45 : decode cX1_addDrain 45 = .ok (.dup, 1) := by decide +kernel
theorem dX1_addDrain_46 : decode cX1_addDrain 46 = .ok (.ldc 227, 2) := by decide +kernel
theorem dX1_addDrain_48 : decode cX1_addDrain 48 = .ok (.invokespecial 31, 3) := by decide +kernel
theorem dX1_addDrain_51 : decode cX1_addDrain 51 = .ok (.athrow, 1) := by decide +kernel
theorem dX1_addDrain_52 : decode cX1_addDrain 52 = .ok (.iload 5, 2) := by decide +kernel
theorem dX1_addDrain_54 : decode cX1_addDrain 54 = .ok (.ireturn, 1) := by decide +kernel
theorem dX1_requireField_0 : decode cX1_requireField 0 = .ok (.aload_n 0, 1) := by decide +kernel
theorem dX1_requireField_1 : decode cX1_requireField 1 = .ok (.getfield 10, 3) := by decide +kernel
theorem dX1_requireField_4 : decode cX1_requireField 4 = .ok (.iload_n 1, 1) := by decide +kernel
theorem dX1_requireField_5 : decode cX1_requireField 5 = .ok (.invokevirtual 229, 3) := by decide +kernel
theorem dX1_requireField_8 : decode cX1_requireField 8 = .ok (.ifCond .ne 13, 3) := by decide +kernel
theorem dX1_requireField_11 : decode cX1_requireField 11 = .ok (.new 232, 3) := by decide +kernel
theorem dX1_requireField_14 : decode cX1_requireField 14 = .ok (.dup, 1) := by decide +kernel
theorem dX1_requireField_15 : decode cX1_requireField 15 = .ok (.ldc 234, 2) := by decide +kernel
theorem dX1_requireField_17 : decode cX1_requireField 17 = .ok (.invokespecial 236, 3) := by decide +kernel
theorem dX1_requireField_20 : decode cX1_requireField 20 = .ok (.athrow, 1) := by decide +kernel
theorem dX1_requireField_21 : decode cX1_requireField 21 = .ok (.return_, 1) := by decide +kernel
theorem dX1_requireDrain_0 : decode cX1_requireDrain 0 = .ok (.aload_n 0, 1) := by decide +kernel
theorem dX1_requireDrain_1 : decode cX1_requireDrain 1 = .ok (.getfield 10, 3) := by decide +kernel
theorem dX1_requireDrain_4 : decode cX1_requireDrain 4 = .ok (.iload_n 1, 1) := by decide +kernel
theorem dX1_requireDrain_5 : decode cX1_requireDrain 5 = .ok (.invokevirtual 237, 3) := by decide +kernel
theorem dX1_requireDrain_8 : decode cX1_requireDrain 8 = .ok (.ifCond .ne 13, 3) := by decide +kernel
theorem dX1_requireDrain_11 : decode cX1_requireDrain 11 = .ok (.new 232, 3) := by decide +kernel
theorem dX1_requireDrain_14 : decode cX1_requireDrain 14 = .ok (.dup, 1) := by decide +kernel
theorem dX1_requireDrain_15 : decode cX1_requireDrain 15 = .ok (.ldc 240, 2) := by decide +kernel
theorem dX1_requireDrain_17 : decode cX1_requireDrain 17 = .ok (.invokespecial 236, 3) := by decide +kernel
theorem dX1_requireDrain_20 : decode cX1_requireDrain 20 = .ok (.athrow, 1) := by decide +kernel
theorem dX1_requireDrain_21 : decode cX1_requireDrain 21 = .ok (.return_, 1) := by decide +kernel
theorem dX1_requireWithin_0 : decode cX1_requireWithin 0 = .ok (.iload_n 0, 1) := by decide +kernel
theorem dX1_requireWithin_1 : decode cX1_requireWithin 1 = .ok (.iload_n 1, 1) := by decide +kernel
theorem dX1_requireWithin_2 : decode cX1_requireWithin 2 = .ok (.if_icmp .lt 8, 3) := by decide +kernel
theorem dX1_requireWithin_5 : decode cX1_requireWithin 5 = .ok (.iload_n 0, 1) := by decide +kernel
theorem dX1_requireWithin_6 : decode cX1_requireWithin 6 = .ok (.iload_n 2, 1) := by decide +kernel
theorem dX1_requireWithin_7 : decode cX1_requireWithin 7 = .ok (.if_icmp .le 13, 3) := by decide +kernel
theorem dX1_requireWithin_10 : decode cX1_requireWithin 10 = .ok (.new 219, 3) := by decide +kernel
theorem dX1_requireWithin_13 : decode cX1_requireWithin 13 = .ok (.dup, 1) := by decide +kernel
theorem dX1_requireWithin_14 : decode cX1_requireWithin 14 = .ok (.ldc 242, 2) := by decide +kernel
theorem dX1_requireWithin_16 : decode cX1_requireWithin 16 = .ok (.invokespecial 223, 3) := by decide +kernel
theorem dX1_requireWithin_19 : decode cX1_requireWithin 19 = .ok (.athrow, 1) := by decide +kernel
theorem dX1_requireWithin_20 : decode cX1_requireWithin 20 = .ok (.return_, 1) := by decide +kernel
theorem dX2_init_0 : decode cX2_init 0 = .ok (.aload_n 0, 1) := by decide +kernel
theorem dX2_init_1 : decode cX2_init 1 = .ok (.invokespecial 1, 3) := by decide +kernel
theorem dX2_init_4 : decode cX2_init 4 = .ok (.aload_n 0, 1) := by decide +kernel
theorem dX2_init_5 : decode cX2_init 5 = .ok (.iconst 0, 1) := by decide +kernel
theorem dX2_init_6 : decode cX2_init 6 = .ok (.anewarray 7, 3) := by decide +kernel
theorem dX2_init_9 : decode cX2_init 9 = .ok (.putfield 9, 3) := by decide +kernel
theorem dX2_init_12 : decode cX2_init 12 = .ok (.aload_n 0, 1) := by decide +kernel
theorem dX2_init_13 : decode cX2_init 13 = .ok (.iconst 0, 1) := by decide +kernel
theorem dX2_init_14 : decode cX2_init 14 = .ok (.anewarray 7, 3) := by decide +kernel
theorem dX2_init_17 : decode cX2_init 17 = .ok (.putfield 15, 3) := by decide +kernel
theorem dX2_init_20 : decode cX2_init 20 = .ok (.return_, 1) := by decide +kernel
theorem dX2_with_0 : decode cX2_with 0 = .ok (.aload_n 0, 1) := by decide +kernel
theorem dX2_with_1 : decode cX2_with 1 = .ok (.arraylength, 1) := by decide +kernel
theorem dX2_with_2 : decode cX2_with 2 = .ok (.iconst 1, 1) := by decide +kernel
theorem dX2_with_3 : decode cX2_with 3 = .ok (.iadd, 1) := by decide +kernel
theorem dX2_with_4 : decode cX2_with 4 = .ok (.anewarray 7, 3) := by decide +kernel
theorem dX2_with_7 : decode cX2_with 7 = .ok (.astore_n 2, 1) := by decide +kernel
theorem dX2_with_8 : decode cX2_with 8 = .ok (.iconst 0, 1) := by decide +kernel
theorem dX2_with_9 : decode cX2_with 9 = .ok (.istore_n 3, 1) := by decide +kernel
theorem dX2_with_10 : decode cX2_with 10 = .ok (.iload_n 3, 1) := by decide +kernel
theorem dX2_with_11 : decode cX2_with 11 = .ok (.aload_n 0, 1) := by decide +kernel
theorem dX2_with_12 : decode cX2_with 12 = .ok (.arraylength, 1) := by decide +kernel
theorem dX2_with_13 : decode cX2_with 13 = .ok (.if_icmp .ge 15, 3) := by decide +kernel
theorem dX2_with_16 : decode cX2_with 16 = .ok (.aload_n 2, 1) := by decide +kernel
theorem dX2_with_17 : decode cX2_with 17 = .ok (.iload_n 3, 1) := by decide +kernel
theorem dX2_with_18 : decode cX2_with 18 = .ok (.aload_n 0, 1) := by decide +kernel
theorem dX2_with_19 : decode cX2_with 19 = .ok (.iload_n 3, 1) := by decide +kernel
theorem dX2_with_20 : decode cX2_with 20 = .ok (.aaload, 1) := by decide +kernel
theorem dX2_with_21 : decode cX2_with 21 = .ok (.aastore, 1) := by decide +kernel
theorem dX2_with_22 : decode cX2_with 22 = .ok (.iinc 3 1, 3) := by decide +kernel
theorem dX2_with_25 : decode cX2_with 25 = .ok (.goto (-15), 3) := by decide +kernel
theorem dX2_with_28 : decode cX2_with 28 = .ok (.aload_n 2, 1) := by decide +kernel
theorem dX2_with_29 : decode cX2_with 29 = .ok (.aload_n 0, 1) := by decide +kernel
theorem dX2_with_30 : decode cX2_with 30 = .ok (.arraylength, 1) := by decide +kernel
theorem dX2_with_31 : decode cX2_with 31 = .ok (.aload_n 1, 1) := by decide +kernel
theorem dX2_with_32 : decode cX2_with 32 = .ok (.aastore, 1) := by decide +kernel
theorem dX2_with_33 : decode cX2_with 33 = .ok (.aload_n 2, 1) := by decide +kernel
theorem dX2_with_34 : decode cX2_with 34 = .ok (.areturn, 1) := by decide +kernel
theorem dX2_copy_0 : decode cX2_copy 0 = .ok (.new 10, 3) := by decide +kernel
theorem dX2_copy_3 : decode cX2_copy 3 = .ok (.dup, 1) := by decide +kernel
theorem dX2_copy_4 : decode cX2_copy 4 = .ok (.invokespecial 18, 3) := by decide +kernel
theorem dX2_copy_7 : decode cX2_copy 7 = .ok (.astore_n 1, 1) := by decide +kernel
theorem dX2_copy_8 : decode cX2_copy 8 = .ok (.aload_n 0, 1) := by decide +kernel
theorem dX2_copy_9 : decode cX2_copy 9 = .ok (.getfield 9, 3) := by decide +kernel
theorem dX2_copy_12 : decode cX2_copy 12 = .ok (.astore_n 2, 1) := by decide +kernel
theorem dX2_copy_13 : decode cX2_copy 13 = .ok (.aload_n 2, 1) := by decide +kernel
theorem dX2_copy_14 : decode cX2_copy 14 = .ok (.arraylength, 1) := by decide +kernel
theorem dX2_copy_15 : decode cX2_copy 15 = .ok (.istore_n 3, 1) := by decide +kernel
theorem dX2_copy_16 : decode cX2_copy 16 = .ok (.iconst 0, 1) := by decide +kernel
theorem dX2_copy_17 : decode cX2_copy 17 = .ok (.istore 4, 2) := by decide +kernel
theorem dX2_copy_19 : decode cX2_copy 19 = .ok (.iload 4, 2) := by decide +kernel
theorem dX2_copy_21 : decode cX2_copy 21 = .ok (.iload_n 3, 1) := by decide +kernel
theorem dX2_copy_22 : decode cX2_copy 22 = .ok (.if_icmp .ge 64, 3) := by decide +kernel
theorem dX2_copy_25 : decode cX2_copy 25 = .ok (.aload_n 2, 1) := by decide +kernel
theorem dX2_copy_26 : decode cX2_copy 26 = .ok (.iload 4, 2) := by decide +kernel
theorem dX2_copy_28 : decode cX2_copy 28 = .ok (.aaload, 1) := by decide +kernel
theorem dX2_copy_29 : decode cX2_copy 29 = .ok (.astore 5, 2) := by decide +kernel
theorem dX2_copy_31 : decode cX2_copy 31 = .ok (.aload_n 1, 1) := by decide +kernel
theorem dX2_copy_32 : decode cX2_copy 32 = .ok (.aload_n 1, 1) := by decide +kernel
theorem dX2_copy_33 : decode cX2_copy 33 = .ok (.getfield 9, 3) := by decide +kernel
theorem dX2_copy_36 : decode cX2_copy 36 = .ok (.iconst 5, 1) := by decide +kernel
theorem dX2_copy_37 : decode cX2_copy 37 = .ok (.newarray .int, 2) := by decide +kernel
theorem dX2_copy_39 : decode cX2_copy 39 = .ok (.dup, 1) := by decide +kernel
theorem dX2_copy_40 : decode cX2_copy 40 = .ok (.iconst 0, 1) := by decide +kernel
theorem dX2_copy_41 : decode cX2_copy 41 = .ok (.aload 5, 2) := by decide +kernel
theorem dX2_copy_43 : decode cX2_copy 43 = .ok (.iconst 0, 1) := by decide +kernel
theorem dX2_copy_44 : decode cX2_copy 44 = .ok (.iaload, 1) := by decide +kernel
theorem dX2_copy_45 : decode cX2_copy 45 = .ok (.iastore, 1) := by decide +kernel
theorem dX2_copy_46 : decode cX2_copy 46 = .ok (.dup, 1) := by decide +kernel
theorem dX2_copy_47 : decode cX2_copy 47 = .ok (.iconst 1, 1) := by decide +kernel
theorem dX2_copy_48 : decode cX2_copy 48 = .ok (.aload 5, 2) := by decide +kernel
theorem dX2_copy_50 : decode cX2_copy 50 = .ok (.iconst 1, 1) := by decide +kernel
theorem dX2_copy_51 : decode cX2_copy 51 = .ok (.iaload, 1) := by decide +kernel
theorem dX2_copy_52 : decode cX2_copy 52 = .ok (.iastore, 1) := by decide +kernel
theorem dX2_copy_53 : decode cX2_copy 53 = .ok (.dup, 1) := by decide +kernel
theorem dX2_copy_54 : decode cX2_copy 54 = .ok (.iconst 2, 1) := by decide +kernel
theorem dX2_copy_55 : decode cX2_copy 55 = .ok (.aload 5, 2) := by decide +kernel
theorem dX2_copy_57 : decode cX2_copy 57 = .ok (.iconst 2, 1) := by decide +kernel
theorem dX2_copy_58 : decode cX2_copy 58 = .ok (.iaload, 1) := by decide +kernel
theorem dX2_copy_59 : decode cX2_copy 59 = .ok (.iastore, 1) := by decide +kernel
theorem dX2_copy_60 : decode cX2_copy 60 = .ok (.dup, 1) := by decide +kernel
theorem dX2_copy_61 : decode cX2_copy 61 = .ok (.iconst 3, 1) := by decide +kernel
theorem dX2_copy_62 : decode cX2_copy 62 = .ok (.aload 5, 2) := by decide +kernel
theorem dX2_copy_64 : decode cX2_copy 64 = .ok (.iconst 3, 1) := by decide +kernel
theorem dX2_copy_65 : decode cX2_copy 65 = .ok (.iaload, 1) := by decide +kernel
theorem dX2_copy_66 : decode cX2_copy 66 = .ok (.iastore, 1) := by decide +kernel
theorem dX2_copy_67 : decode cX2_copy 67 = .ok (.dup, 1) := by decide +kernel
theorem dX2_copy_68 : decode cX2_copy 68 = .ok (.iconst 4, 1) := by decide +kernel
theorem dX2_copy_69 : decode cX2_copy 69 = .ok (.aload 5, 2) := by decide +kernel
theorem dX2_copy_71 : decode cX2_copy 71 = .ok (.iconst 4, 1) := by decide +kernel
theorem dX2_copy_72 : decode cX2_copy 72 = .ok (.iaload, 1) := by decide +kernel
theorem dX2_copy_73 : decode cX2_copy 73 = .ok (.iastore, 1) := by decide +kernel
theorem dX2_copy_74 : decode cX2_copy 74 = .ok (.invokestatic 19, 3) := by decide +kernel
theorem dX2_copy_77 : decode cX2_copy 77 = .ok (.putfield 9, 3) := by decide +kernel
theorem dX2_copy_80 : decode cX2_copy 80 = .ok (.iinc 4 1, 3) := by decide +kernel
theorem dX2_copy_83 : decode cX2_copy 83 = .ok (.goto (-64), 3) := by decide +kernel
theorem dX2_copy_86 : decode cX2_copy 86 = .ok (.aload_n 0, 1) := by decide +kernel
theorem dX2_copy_87 : decode cX2_copy 87 = .ok (.getfield 15, 3) := by decide +kernel
theorem dX2_copy_90 : decode cX2_copy 90 = .ok (.astore_n 2, 1) := by decide +kernel
theorem dX2_copy_91 : decode cX2_copy 91 = .ok (.aload_n 2, 1) := by decide +kernel
theorem dX2_copy_92 : decode cX2_copy 92 = .ok (.arraylength, 1) := by decide +kernel
theorem dX2_copy_93 : decode cX2_copy 93 = .ok (.istore_n 3, 1) := by decide +kernel
theorem dX2_copy_94 : decode cX2_copy 94 = .ok (.iconst 0, 1) := by decide +kernel
theorem dX2_copy_95 : decode cX2_copy 95 = .ok (.istore 4, 2) := by decide +kernel
theorem dX2_copy_97 : decode cX2_copy 97 = .ok (.iload 4, 2) := by decide +kernel
theorem dX2_copy_99 : decode cX2_copy 99 = .ok (.iload_n 3, 1) := by decide +kernel
theorem dX2_copy_100 : decode cX2_copy 100 = .ok (.if_icmp .ge 72, 3) := by decide +kernel
theorem dX2_copy_103 : decode cX2_copy 103 = .ok (.aload_n 2, 1) := by decide +kernel
theorem dX2_copy_104 : decode cX2_copy 104 = .ok (.iload 4, 2) := by decide +kernel
theorem dX2_copy_106 : decode cX2_copy 106 = .ok (.aaload, 1) := by decide +kernel
theorem dX2_copy_107 : decode cX2_copy 107 = .ok (.astore 5, 2) := by decide +kernel
theorem dX2_copy_109 : decode cX2_copy 109 = .ok (.aload_n 1, 1) := by decide +kernel
theorem dX2_copy_110 : decode cX2_copy 110 = .ok (.aload_n 1, 1) := by decide +kernel
theorem dX2_copy_111 : decode cX2_copy 111 = .ok (.getfield 15, 3) := by decide +kernel
theorem dX2_copy_114 : decode cX2_copy 114 = .ok (.bipush 6, 2) := by decide +kernel
theorem dX2_copy_116 : decode cX2_copy 116 = .ok (.newarray .int, 2) := by decide +kernel
theorem dX2_copy_118 : decode cX2_copy 118 = .ok (.dup, 1) := by decide +kernel
theorem dX2_copy_119 : decode cX2_copy 119 = .ok (.iconst 0, 1) := by decide +kernel
theorem dX2_copy_120 : decode cX2_copy 120 = .ok (.aload 5, 2) := by decide +kernel
theorem dX2_copy_122 : decode cX2_copy 122 = .ok (.iconst 0, 1) := by decide +kernel
theorem dX2_copy_123 : decode cX2_copy 123 = .ok (.iaload, 1) := by decide +kernel
theorem dX2_copy_124 : decode cX2_copy 124 = .ok (.iastore, 1) := by decide +kernel
theorem dX2_copy_125 : decode cX2_copy 125 = .ok (.dup, 1) := by decide +kernel
theorem dX2_copy_126 : decode cX2_copy 126 = .ok (.iconst 1, 1) := by decide +kernel
theorem dX2_copy_127 : decode cX2_copy 127 = .ok (.aload 5, 2) := by decide +kernel
theorem dX2_copy_129 : decode cX2_copy 129 = .ok (.iconst 1, 1) := by decide +kernel
theorem dX2_copy_130 : decode cX2_copy 130 = .ok (.iaload, 1) := by decide +kernel
theorem dX2_copy_131 : decode cX2_copy 131 = .ok (.iastore, 1) := by decide +kernel
theorem dX2_copy_132 : decode cX2_copy 132 = .ok (.dup, 1) := by decide +kernel
theorem dX2_copy_133 : decode cX2_copy 133 = .ok (.iconst 2, 1) := by decide +kernel
theorem dX2_copy_134 : decode cX2_copy 134 = .ok (.aload 5, 2) := by decide +kernel
theorem dX2_copy_136 : decode cX2_copy 136 = .ok (.iconst 2, 1) := by decide +kernel
theorem dX2_copy_137 : decode cX2_copy 137 = .ok (.iaload, 1) := by decide +kernel
theorem dX2_copy_138 : decode cX2_copy 138 = .ok (.iastore, 1) := by decide +kernel
theorem dX2_copy_139 : decode cX2_copy 139 = .ok (.dup, 1) := by decide +kernel
theorem dX2_copy_140 : decode cX2_copy 140 = .ok (.iconst 3, 1) := by decide +kernel
theorem dX2_copy_141 : decode cX2_copy 141 = .ok (.aload 5, 2) := by decide +kernel
theorem dX2_copy_143 : decode cX2_copy 143 = .ok (.iconst 3, 1) := by decide +kernel
theorem dX2_copy_144 : decode cX2_copy 144 = .ok (.iaload, 1) := by decide +kernel
theorem dX2_copy_145 : decode cX2_copy 145 = .ok (.iastore, 1) := by decide +kernel
theorem dX2_copy_146 : decode cX2_copy 146 = .ok (.dup, 1) := by decide +kernel
theorem dX2_copy_147 : decode cX2_copy 147 = .ok (.iconst 4, 1) := by decide +kernel
theorem dX2_copy_148 : decode cX2_copy 148 = .ok (.aload 5, 2) := by decide +kernel
theorem dX2_copy_150 : decode cX2_copy 150 = .ok (.iconst 4, 1) := by decide +kernel
theorem dX2_copy_151 : decode cX2_copy 151 = .ok (.iaload, 1) := by decide +kernel
theorem dX2_copy_152 : decode cX2_copy 152 = .ok (.iastore, 1) := by decide +kernel
theorem dX2_copy_153 : decode cX2_copy 153 = .ok (.dup, 1) := by decide +kernel
theorem dX2_copy_154 : decode cX2_copy 154 = .ok (.iconst 5, 1) := by decide +kernel
theorem dX2_copy_155 : decode cX2_copy 155 = .ok (.aload 5, 2) := by decide +kernel
theorem dX2_copy_157 : decode cX2_copy 157 = .ok (.iconst 5, 1) := by decide +kernel
theorem dX2_copy_158 : decode cX2_copy 158 = .ok (.iaload, 1) := by decide +kernel
theorem dX2_copy_159 : decode cX2_copy 159 = .ok (.iastore, 1) := by decide +kernel
theorem dX2_copy_160 : decode cX2_copy 160 = .ok (.invokestatic 19, 3) := by decide +kernel
theorem dX2_copy_163 : decode cX2_copy 163 = .ok (.putfield 15, 3) := by decide +kernel
theorem dX2_copy_166 : decode cX2_copy 166 = .ok (.iinc 4 1, 3) := by decide +kernel
theorem dX2_copy_169 : decode cX2_copy 169 = .ok (.goto (-72), 3) := by decide +kernel
theorem dX2_copy_172 : decode cX2_copy 172 = .ok (.aload_n 1, 1) := by decide +kernel
theorem dX2_copy_173 : decode cX2_copy 173 = .ok (.aload_n 0, 1) := by decide +kernel
theorem dX2_copy_174 : decode cX2_copy 174 = .ok (.getfield 23, 3) := by decide +kernel
theorem dX2_copy_177 : decode cX2_copy 177 = .ok (.putfield 23, 3) := by decide +kernel
theorem dX2_copy_180 : decode cX2_copy 180 = .ok (.aload_n 1, 1) := by decide +kernel
theorem dX2_copy_181 : decode cX2_copy 181 = .ok (.aload_n 0, 1) := by decide +kernel
theorem dX2_copy_182 : decode cX2_copy 182 = .ok (.getfield 27, 3) := by decide +kernel
theorem dX2_copy_185 : decode cX2_copy 185 = .ok (.putfield 27, 3) := by decide +kernel
theorem dX2_copy_188 : decode cX2_copy 188 = .ok (.aload_n 1, 1) := by decide +kernel
theorem dX2_copy_189 : decode cX2_copy 189 = .ok (.aload_n 0, 1) := by decide +kernel
theorem dX2_copy_190 : decode cX2_copy 190 = .ok (.getfield 30, 3) := by decide +kernel
theorem dX2_copy_193 : decode cX2_copy 193 = .ok (.putfield 30, 3) := by decide +kernel
theorem dX2_copy_196 : decode cX2_copy 196 = .ok (.aload_n 1, 1) := by decide +kernel
theorem dX2_copy_197 : decode cX2_copy 197 = .ok (.areturn, 1) := by decide +kernel
theorem dX2_level_0 : decode cX2_level 0 = .ok (.aload_n 0, 1) := by decide +kernel
theorem dX2_level_1 : decode cX2_level 1 = .ok (.getfield 9, 3) := by decide +kernel
theorem dX2_level_4 : decode cX2_level 4 = .ok (.iload_n 1, 1) := by decide +kernel
theorem dX2_level_5 : decode cX2_level 5 = .ok (.aaload, 1) := by decide +kernel
theorem dX2_level_6 : decode cX2_level 6 = .ok (.iconst 0, 1) := by decide +kernel
theorem dX2_level_7 : decode cX2_level 7 = .ok (.iaload, 1) := by decide +kernel
theorem dX2_level_8 : decode cX2_level 8 = .ok (.aload_n 0, 1) := by decide +kernel
theorem dX2_level_9 : decode cX2_level 9 = .ok (.getfield 9, 3) := by decide +kernel
theorem dX2_level_12 : decode cX2_level 12 = .ok (.iload_n 1, 1) := by decide +kernel
theorem dX2_level_13 : decode cX2_level 13 = .ok (.aaload, 1) := by decide +kernel
theorem dX2_level_14 : decode cX2_level 14 = .ok (.iconst 2, 1) := by decide +kernel
theorem dX2_level_15 : decode cX2_level 15 = .ok (.iaload, 1) := by decide +kernel
theorem dX2_level_16 : decode cX2_level 16 = .ok (.iadd, 1) := by decide +kernel
theorem dX2_level_17 : decode cX2_level 17 = .ok (.ireturn, 1) := by decide +kernel
theorem dX2_isBack_0 : decode cX2_isBack 0 = .ok (.aload_n 1, 1) := by decide +kernel
theorem dX2_isBack_1 : decode cX2_isBack 1 = .ok (.iconst 3, 1) := by decide +kernel
theorem dX2_isBack_2 : decode cX2_isBack 2 = .ok (.iaload, 1) := by decide +kernel
theorem dX2_isBack_3 : decode cX2_isBack 3 = .ok (.ifCond .ne 24, 3) := by decide +kernel
theorem dX2_isBack_6 : decode cX2_isBack 6 = .ok (.aload_n 0, 1) := by decide +kernel
theorem dX2_isBack_7 : decode cX2_isBack 7 = .ok (.aload_n 1, 1) := by decide +kernel
theorem dX2_isBack_8 : decode cX2_isBack 8 = .ok (.iconst 1, 1) := by decide +kernel
theorem dX2_isBack_9 : decode cX2_isBack 9 = .ok (.iaload, 1) := by decide +kernel
theorem dX2_isBack_10 : decode cX2_isBack 10 = .ok (.invokevirtual 33, 3) := by decide +kernel
theorem dX2_isBack_13 : decode cX2_isBack 13 = .ok (.aload_n 0, 1) := by decide +kernel
theorem dX2_isBack_14 : decode cX2_isBack 14 = .ok (.aload_n 1, 1) := by decide +kernel
theorem dX2_isBack_15 : decode cX2_isBack 15 = .ok (.iconst 0, 1) := by decide +kernel
theorem dX2_isBack_16 : decode cX2_isBack 16 = .ok (.iaload, 1) := by decide +kernel
theorem dX2_isBack_17 : decode cX2_isBack 17 = .ok (.invokevirtual 33, 3) := by decide +kernel
theorem dX2_isBack_20 : decode cX2_isBack 20 = .ok (.if_icmp .le 7, 3) := by decide +kernel
theorem dX2_isBack_23 : decode cX2_isBack 23 = .ok (.iconst 1, 1) := by decide +kernel
theorem dX2_isBack_24 : decode cX2_isBack 24 = .ok (.goto 4, 3) := by decide +kernel
theorem dX2_isBack_27 : decode cX2_isBack 27 = .ok (.iconst 0, 1) := by decide +kernel
theorem dX2_isBack_28 : decode cX2_isBack 28 = .ok (.ireturn, 1) := by decide +kernel
theorem dX2_amount_0 : decode cX2_amount 0 = .ok (.aload_n 1, 1) := by decide +kernel
theorem dX2_amount_1 : decode cX2_amount 1 = .ok (.iconst 4, 1) := by decide +kernel
theorem dX2_amount_2 : decode cX2_amount 2 = .ok (.iaload, 1) := by decide +kernel
theorem dX2_amount_3 : decode cX2_amount 3 = .ok (.ifCond .ne 5, 3) := by decide +kernel
theorem dX2_amount_6 : decode cX2_amount 6 = .ok (.iconst 0, 1) := by decide +kernel
theorem dX2_amount_7 : decode cX2_amount 7 = .ok (.ireturn, 1) := by decide +kernel
theorem dX2_amount_8 : decode cX2_amount 8 = .ok (.aload_n 0, 1) := by decide +kernel
theorem dX2_amount_9 : decode cX2_amount 9 = .ok (.aload_n 1, 1) := by decide +kernel
theorem dX2_amount_10 : decode cX2_amount 10 = .ok (.invokevirtual 37, 3) := by decide +kernel
theorem dX2_amount_13 : decode cX2_amount 13 = .ok (.ifCond .eq 9, 3) := by decide +kernel
theorem dX2_amount_16 : decode cX2_amount 16 = .ok (.aload_n 1, 1) := by decide +kernel
theorem dX2_amount_17 : decode cX2_amount 17 = .ok (.iconst 1, 1) := by decide +kernel
theorem dX2_amount_18 : decode cX2_amount 18 = .ok (.iaload, 1) := by decide +kernel
theorem dX2_amount_19 : decode cX2_amount 19 = .ok (.goto 6, 3) := by decide +kernel
theorem dX2_amount_22 : decode cX2_amount 22 = .ok (.aload_n 1, 1) := by decide +kernel
theorem dX2_amount_23 : decode cX2_amount 23 = .ok (.iconst 0, 1) := by decide +kernel
theorem dX2_amount_24 : decode cX2_amount 24 = .ok (.iaload, 1) := by decide +kernel
theorem dX2_amount_25 : decode cX2_amount 25 = .ok (.istore_n 2, 1) := by decide +kernel
theorem dX2_amount_26 : decode cX2_amount 26 = .ok (.aload_n 0, 1) := by decide +kernel
theorem dX2_amount_27 : decode cX2_amount 27 = .ok (.aload_n 1, 1) := by decide +kernel
theorem dX2_amount_28 : decode cX2_amount 28 = .ok (.invokevirtual 37, 3) := by decide +kernel
theorem dX2_amount_31 : decode cX2_amount 31 = .ok (.ifCond .eq 9, 3) := by decide +kernel
theorem dX2_amount_34 : decode cX2_amount 34 = .ok (.aload_n 1, 1) := by decide +kernel
theorem dX2_amount_35 : decode cX2_amount 35 = .ok (.iconst 0, 1) := by decide +kernel
theorem dX2_amount_36 : decode cX2_amount 36 = .ok (.iaload, 1) := by decide +kernel
theorem dX2_amount_37 : decode cX2_amount 37 = .ok (.goto 6, 3) := by decide +kernel
theorem dX2_amount_40 : decode cX2_amount 40 = .ok (.aload_n 1, 1) := by decide +kernel
theorem dX2_amount_41 : decode cX2_amount 41 = .ok (.iconst 1, 1) := by decide +kernel
theorem dX2_amount_42 : decode cX2_amount 42 = .ok (.iaload, 1) := by decide +kernel
theorem dX2_amount_43 : decode cX2_amount 43 = .ok (.istore_n 3, 1) := by decide +kernel
theorem dX2_amount_44 : decode cX2_amount 44 = .ok (.aload_n 1, 1) := by decide +kernel
theorem dX2_amount_45 : decode cX2_amount 45 = .ok (.iconst 2, 1) := by decide +kernel
theorem dX2_amount_46 : decode cX2_amount 46 = .ok (.iaload, 1) := by decide +kernel
theorem dX2_amount_47 : decode cX2_amount 47 = .ok (.istore 4, 2) := by decide +kernel
theorem dX2_amount_49 : decode cX2_amount 49 = .ok (.aload_n 1, 1) := by decide +kernel
theorem dX2_amount_50 : decode cX2_amount 50 = .ok (.iconst 3, 1) := by decide +kernel
theorem dX2_amount_51 : decode cX2_amount 51 = .ok (.iaload, 1) := by decide +kernel
theorem dX2_amount_52 : decode cX2_amount 52 = .ok (.ifCond .ne 31, 3) := by decide +kernel
theorem dX2_amount_55 : decode cX2_amount 55 = .ok (.aload_n 0, 1) := by decide +kernel
theorem dX2_amount_56 : decode cX2_amount 56 = .ok (.iload_n 2, 1) := by decide +kernel
theorem dX2_amount_57 : decode cX2_amount 57 = .ok (.invokevirtual 33, 3) := by decide +kernel
theorem dX2_amount_60 : decode cX2_amount 60 = .ok (.aload_n 0, 1) := by decide +kernel
theorem dX2_amount_61 : decode cX2_amount 61 = .ok (.iload_n 3, 1) := by decide +kernel
theorem dX2_amount_62 : decode cX2_amount 62 = .ok (.invokevirtual 33, 3) := by decide +kernel
theorem dX2_amount_65 : decode cX2_amount 65 = .ok (.isub, 1) := by decide +kernel
theorem dX2_amount_66 : decode cX2_amount 66 = .ok (.istore 5, 2) := by decide +kernel
theorem dX2_amount_68 : decode cX2_amount 68 = .ok (.iconst 2, 1) := by decide +kernel
theorem dX2_amount_69 : decode cX2_amount 69 = .ok (.iload 4, 2) := by decide +kernel
theorem dX2_amount_71 : decode cX2_amount 71 = .ok (.imul, 1) := by decide +kernel
theorem dX2_amount_72 : decode cX2_amount 72 = .ok (.iload 5, 2) := by decide +kernel
theorem dX2_amount_74 : decode cX2_amount 74 = .ok (.if_icmp .le 9, 3) := by decide +kernel
theorem dX2_amount_77 : decode cX2_amount 77 = .ok (.iinc 4 (-1), 3) := by decide +kernel
theorem dX2_amount_80 : decode cX2_amount 80 = .ok (.goto (-12), 3) := by decide +kernel
theorem dX2_amount_83 : decode cX2_amount 83 = .ok (.iload 4, 2) := by decide +kernel
theorem dX2_amount_85 : decode cX2_amount 85 = .ok (.aload_n 0, 1) := by decide +kernel
theorem dX2_amount_86 : decode cX2_amount 86 = .ok (.getfield 9, 3) := by decide +kernel
theorem dX2_amount_89 : decode cX2_amount 89 = .ok (.iload_n 2, 1) := by decide +kernel
theorem dX2_amount_90 : decode cX2_amount 90 = .ok (.aaload, 1) := by decide +kernel
theorem dX2_amount_91 : decode cX2_amount 91 = .ok (.iconst 2, 1) := by decide +kernel
theorem dX2_amount_92 : decode cX2_amount 92 = .ok (.iaload, 1) := by decide +kernel
theorem dX2_amount_93 : decode cX2_amount 93 = .ok (.invokestatic 41, 3) := by decide +kernel
theorem dX2_amount_96 : decode cX2_amount 96 = .ok (.ireturn, 1) := by decide +kernel
theorem dX2_carry_0 : decode cX2_carry 0 = .ok (.aload_n 0, 1) := by decide +kernel
theorem dX2_carry_1 : decode cX2_carry 1 = .ok (.aload_n 1, 1) := by decide +kernel
theorem dX2_carry_2 : decode cX2_carry 2 = .ok (.invokevirtual 47, 3) := by decide +kernel
theorem dX2_carry_5 : decode cX2_carry 5 = .ok (.istore_n 2, 1) := by decide +kernel
theorem dX2_carry_6 : decode cX2_carry 6 = .ok (.aload_n 0, 1) := by decide +kernel
theorem dX2_carry_7 : decode cX2_carry 7 = .ok (.aload_n 1, 1) := by decide +kernel
theorem dX2_carry_8 : decode cX2_carry 8 = .ok (.invokevirtual 37, 3) := by decide +kernel
theorem dX2_carry_11 : decode cX2_carry 11 = .ok (.istore_n 3, 1) := by decide +kernel
theorem dX2_carry_12 : decode cX2_carry 12 = .ok (.aload_n 0, 1) := by decide +kernel
theorem dX2_carry_13 : decode cX2_carry 13 = .ok (.getfield 9, 3) := by decide +kernel
theorem dX2_carry_16 : decode cX2_carry 16 = .ok (.iload_n 3, 1) := by decide +kernel
theorem dX2_carry_17 : decode cX2_carry 17 = .ok (.ifCond .eq 9, 3) := by decide +kernel
theorem dX2_carry_20 : decode cX2_carry 20 = .ok (.aload_n 1, 1) := by decide +kernel
theorem dX2_carry_21 : decode cX2_carry 21 = .ok (.iconst 1, 1) := by decide +kernel
theorem dX2_carry_22 : decode cX2_carry 22 = .ok (.iaload, 1) := by decide +kernel
theorem dX2_carry_23 : decode cX2_carry 23 = .ok (.goto 6, 3) := by decide +kernel
theorem dX2_carry_26 : decode cX2_carry 26 = .ok (.aload_n 1, 1) := by decide +kernel
theorem dX2_carry_27 : decode cX2_carry 27 = .ok (.iconst 0, 1) := by decide +kernel
theorem dX2_carry_28 : decode cX2_carry 28 = .ok (.iaload, 1) := by decide +kernel
theorem dX2_carry_29 : decode cX2_carry 29 = .ok (.aaload, 1) := by decide +kernel
theorem dX2_carry_30 : decode cX2_carry 30 = .ok (.iconst 2, 1) := by decide +kernel
theorem dX2_carry_31 : decode cX2_carry 31 = .ok (.dup2, 1) := by decide +kernel
theorem dX2_carry_32 : decode cX2_carry 32 = .ok (.iaload, 1) := by decide +kernel
theorem dX2_carry_33 : decode cX2_carry 33 = .ok (.iload_n 2, 1) := by decide +kernel
theorem dX2_carry_34 : decode cX2_carry 34 = .ok (.isub, 1) := by decide +kernel
theorem dX2_carry_35 : decode cX2_carry 35 = .ok (.iastore, 1) := by decide +kernel
theorem dX2_carry_36 : decode cX2_carry 36 = .ok (.aload_n 1, 1) := by decide +kernel
theorem dX2_carry_37 : decode cX2_carry 37 = .ok (.iconst 1, 1) := by decide +kernel
theorem dX2_carry_38 : decode cX2_carry 38 = .ok (.iaload, 1) := by decide +kernel
theorem dX2_carry_39 : decode cX2_carry 39 = .ok (.ifCond .ge 16, 3) := by decide +kernel
theorem dX2_carry_42 : decode cX2_carry 42 = .ok (.aload_n 0, 1) := by decide +kernel
theorem dX2_carry_43 : decode cX2_carry 43 = .ok (.dup, 1) := by decide +kernel
theorem dX2_carry_44 : decode cX2_carry 44 = .ok (.getfield 30, 3) := by decide +kernel
theorem dX2_carry_47 : decode cX2_carry 47 = .ok (.iload_n 2, 1) := by decide +kernel
theorem dX2_carry_48 : decode cX2_carry 48 = .ok (.iadd, 1) := by decide +kernel
theorem dX2_carry_49 : decode cX2_carry 49 = .ok (.putfield 30, 3) := by decide +kernel
theorem dX2_carry_52 : decode cX2_carry 52 = .ok (.goto 27, 3) := by decide +kernel
theorem dX2_carry_55 : decode cX2_carry 55 = .ok (.aload_n 0, 1) := by decide +kernel
theorem dX2_carry_56 : decode cX2_carry 56 = .ok (.getfield 9, 3) := by decide +kernel
theorem dX2_carry_59 : decode cX2_carry 59 = .ok (.iload_n 3, 1) := by decide +kernel
theorem dX2_carry_60 : decode cX2_carry 60 = .ok (.ifCond .eq 9, 3) := by decide +kernel
theorem dX2_carry_63 : decode cX2_carry 63 = .ok (.aload_n 1, 1) := by decide +kernel
theorem dX2_carry_64 : decode cX2_carry 64 = .ok (.iconst 0, 1) := by decide +kernel
theorem dX2_carry_65 : decode cX2_carry 65 = .ok (.iaload, 1) := by decide +kernel
theorem dX2_carry_66 : decode cX2_carry 66 = .ok (.goto 6, 3) := by decide +kernel
theorem dX2_carry_69 : decode cX2_carry 69 = .ok (.aload_n 1, 1) := by decide +kernel
theorem dX2_carry_70 : decode cX2_carry 70 = .ok (.iconst 1, 1) := by decide +kernel
theorem dX2_carry_71 : decode cX2_carry 71 = .ok (.iaload, 1) := by decide +kernel
theorem dX2_carry_72 : decode cX2_carry 72 = .ok (.aaload, 1) := by decide +kernel
theorem dX2_carry_73 : decode cX2_carry 73 = .ok (.iconst 2, 1) := by decide +kernel
theorem dX2_carry_74 : decode cX2_carry 74 = .ok (.dup2, 1) := by decide +kernel
theorem dX2_carry_75 : decode cX2_carry 75 = .ok (.iaload, 1) := by decide +kernel
theorem dX2_carry_76 : decode cX2_carry 76 = .ok (.iload_n 2, 1) := by decide +kernel
theorem dX2_carry_77 : decode cX2_carry 77 = .ok (.iadd, 1) := by decide +kernel
theorem dX2_carry_78 : decode cX2_carry 78 = .ok (.iastore, 1) := by decide +kernel
theorem dX2_carry_79 : decode cX2_carry 79 = .ok (.aload_n 1, 1) := by decide +kernel
theorem dX2_carry_80 : decode cX2_carry 80 = .ok (.iconst 5, 1) := by decide +kernel
theorem dX2_carry_81 : decode cX2_carry 81 = .ok (.dup2, 1) := by decide +kernel
theorem dX2_carry_82 : decode cX2_carry 82 = .ok (.iaload, 1) := by decide +kernel
theorem dX2_carry_83 : decode cX2_carry 83 = .ok (.iload_n 2, 1) := by decide +kernel
theorem dX2_carry_84 : decode cX2_carry 84 = .ok (.iadd, 1) := by decide +kernel
theorem dX2_carry_85 : decode cX2_carry 85 = .ok (.iastore, 1) := by decide +kernel
theorem dX2_carry_86 : decode cX2_carry 86 = .ok (.return_, 1) := by decide +kernel
theorem dX2_pass_0 : decode cX2_pass 0 = .ok (.iconst 0, 1) := by decide +kernel
theorem dX2_pass_1 : decode cX2_pass 1 = .ok (.istore_n 1, 1) := by decide +kernel
theorem dX2_pass_2 : decode cX2_pass 2 = .ok (.aload_n 0, 1) := by decide +kernel
theorem dX2_pass_3 : decode cX2_pass 3 = .ok (.getfield 9, 3) := by decide +kernel
theorem dX2_pass_6 : decode cX2_pass 6 = .ok (.astore_n 2, 1) := by decide +kernel
theorem dX2_pass_7 : decode cX2_pass 7 = .ok (.aload_n 2, 1) := by decide +kernel
theorem dX2_pass_8 : decode cX2_pass 8 = .ok (.arraylength, 1) := by decide +kernel
theorem dX2_pass_9 : decode cX2_pass 9 = .ok (.istore_n 3, 1) := by decide +kernel
theorem dX2_pass_10 : decode cX2_pass 10 = .ok (.iconst 0, 1) := by decide +kernel
theorem dX2_pass_11 : decode cX2_pass 11 = .ok (.istore 4, 2) := by decide +kernel
theorem dX2_pass_13 : decode cX2_pass 13 = .ok (.iload 4, 2) := by decide +kernel
theorem dX2_pass_15 : decode cX2_pass 15 = .ok (.iload_n 3, 1) := by decide +kernel
theorem dX2_pass_16 : decode cX2_pass 16 = .ok (.if_icmp .ge 26, 3) := by decide +kernel
theorem dX2_pass_19 : decode cX2_pass 19 = .ok (.aload_n 2, 1) := by decide +kernel
theorem dX2_pass_20 : decode cX2_pass 20 = .ok (.iload 4, 2) := by decide +kernel
theorem dX2_pass_22 : decode cX2_pass 22 = .ok (.aaload, 1) := by decide +kernel
theorem dX2_pass_23 : decode cX2_pass 23 = .ok (.astore 5, 2) := by decide +kernel
theorem dX2_pass_25 : decode cX2_pass 25 = .ok (.aload 5, 2) := by decide +kernel
theorem dX2_pass_27 : decode cX2_pass 27 = .ok (.iconst 2, 1) := by decide +kernel
theorem dX2_pass_28 : decode cX2_pass 28 = .ok (.dup2, 1) := by decide +kernel
theorem dX2_pass_29 : decode cX2_pass 29 = .ok (.iaload, 1) := by decide +kernel
theorem dX2_pass_30 : decode cX2_pass 30 = .ok (.aload_n 0, 1) := by decide +kernel
theorem dX2_pass_31 : decode cX2_pass 31 = .ok (.getfield 23, 3) := by decide +kernel
theorem dX2_pass_34 : decode cX2_pass 34 = .ok (.iadd, 1) := by decide +kernel
theorem dX2_pass_35 : decode cX2_pass 35 = .ok (.iastore, 1) := by decide +kernel
theorem dX2_pass_36 : decode cX2_pass 36 = .ok (.iinc 4 1, 3) := by decide +kernel
theorem dX2_pass_39 : decode cX2_pass 39 = .ok (.goto (-26), 3) := by decide +kernel
theorem dX2_pass_42 : decode cX2_pass 42 = .ok (.aload_n 0, 1) := by decide +kernel
theorem dX2_pass_43 : decode cX2_pass 43 = .ok (.getfield 15, 3) := by decide +kernel
theorem dX2_pass_46 : decode cX2_pass 46 = .ok (.astore_n 2, 1) := by decide +kernel
theorem dX2_pass_47 : decode cX2_pass 47 = .ok (.aload_n 2, 1) := by decide +kernel
theorem dX2_pass_48 : decode cX2_pass 48 = .ok (.arraylength, 1) := by decide +kernel
theorem dX2_pass_49 : decode cX2_pass 49 = .ok (.istore_n 3, 1) := by decide +kernel
theorem dX2_pass_50 : decode cX2_pass 50 = .ok (.iconst 0, 1) := by decide +kernel
theorem dX2_pass_51 : decode cX2_pass 51 = .ok (.istore 4, 2) := by decide +kernel
theorem dX2_pass_53 : decode cX2_pass 53 = .ok (.iload 4, 2) := by decide +kernel
theorem dX2_pass_55 : decode cX2_pass 55 = .ok (.iload_n 3, 1) := by decide +kernel
theorem dX2_pass_56 : decode cX2_pass 56 = .ok (.if_icmp .ge 21, 3) := by decide +kernel
theorem dX2_pass_59 : decode cX2_pass 59 = .ok (.aload_n 2, 1) := by decide +kernel
theorem dX2_pass_60 : decode cX2_pass 60 = .ok (.iload 4, 2) := by decide +kernel
theorem dX2_pass_62 : decode cX2_pass 62 = .ok (.aaload, 1) := by decide +kernel
theorem dX2_pass_63 : decode cX2_pass 63 = .ok (.astore 5, 2) := by decide +kernel
theorem dX2_pass_65 : decode cX2_pass 65 = .ok (.aload_n 0, 1) := by decide +kernel
theorem dX2_pass_66 : decode cX2_pass 66 = .ok (.aload 5, 2) := by decide +kernel
theorem dX2_pass_68 : decode cX2_pass 68 = .ok (.invokevirtual 51, 3) := by decide +kernel
theorem dX2_pass_71 : decode cX2_pass 71 = .ok (.iinc 4 1, 3) := by decide +kernel
theorem dX2_pass_74 : decode cX2_pass 74 = .ok (.goto (-21), 3) := by decide +kernel
theorem dX2_pass_77 : decode cX2_pass 77 = .ok (.aload_n 0, 1) := by decide +kernel
theorem dX2_pass_78 : decode cX2_pass 78 = .ok (.getfield 9, 3) := by decide +kernel
theorem dX2_pass_81 : decode cX2_pass 81 = .ok (.astore_n 2, 1) := by decide +kernel
theorem dX2_pass_82 : decode cX2_pass 82 = .ok (.aload_n 2, 1) := by decide +kernel
theorem dX2_pass_83 : decode cX2_pass 83 = .ok (.arraylength, 1) := by decide +kernel
theorem dX2_pass_84 : decode cX2_pass 84 = .ok (.istore_n 3, 1) := by decide +kernel
theorem dX2_pass_85 : decode cX2_pass 85 = .ok (.iconst 0, 1) := by decide +kernel
theorem dX2_pass_86 : decode cX2_pass 86 = .ok (.istore 4, 2) := by decide +kernel
theorem dX2_pass_88 : decode cX2_pass 88 = .ok (.iload 4, 2) := by decide +kernel
theorem dX2_pass_90 : decode cX2_pass 90 = .ok (.iload_n 3, 1) := by decide +kernel
theorem dX2_pass_91 : decode cX2_pass 91 = .ok (.if_icmp .ge 65, 3) := by decide +kernel
theorem dX2_pass_94 : decode cX2_pass 94 = .ok (.aload_n 2, 1) := by decide +kernel
theorem dX2_pass_95 : decode cX2_pass 95 = .ok (.iload 4, 2) := by decide +kernel
theorem dX2_pass_97 : decode cX2_pass 97 = .ok (.aaload, 1) := by decide +kernel
theorem dX2_pass_98 : decode cX2_pass 98 = .ok (.astore 5, 2) := by decide +kernel
theorem dX2_pass_100 : decode cX2_pass 100 = .ok (.aload 5, 2) := by decide +kernel
theorem dX2_pass_102 : decode cX2_pass 102 = .ok (.iconst 3, 1) := by decide +kernel
theorem dX2_pass_103 : decode cX2_pass 103 = .ok (.aload 5, 2) := by decide +kernel
theorem dX2_pass_105 : decode cX2_pass 105 = .ok (.iconst 2, 1) := by decide +kernel
theorem dX2_pass_106 : decode cX2_pass 106 = .ok (.iaload, 1) := by decide +kernel
theorem dX2_pass_107 : decode cX2_pass 107 = .ok (.iconst 3, 1) := by decide +kernel
theorem dX2_pass_108 : decode cX2_pass 108 = .ok (.if_icmp .le 12, 3) := by decide +kernel
theorem dX2_pass_111 : decode cX2_pass 111 = .ok (.aload 5, 2) := by decide +kernel
theorem dX2_pass_113 : decode cX2_pass 113 = .ok (.iconst 3, 1) := by decide +kernel
theorem dX2_pass_114 : decode cX2_pass 114 = .ok (.iaload, 1) := by decide +kernel
theorem dX2_pass_115 : decode cX2_pass 115 = .ok (.iconst 1, 1) := by decide +kernel
theorem dX2_pass_116 : decode cX2_pass 116 = .ok (.iadd, 1) := by decide +kernel
theorem dX2_pass_117 : decode cX2_pass 117 = .ok (.goto 4, 3) := by decide +kernel
theorem dX2_pass_120 : decode cX2_pass 120 = .ok (.iconst 0, 1) := by decide +kernel
theorem dX2_pass_121 : decode cX2_pass 121 = .ok (.iastore, 1) := by decide +kernel
theorem dX2_pass_122 : decode cX2_pass 122 = .ok (.aload 5, 2) := by decide +kernel
theorem dX2_pass_124 : decode cX2_pass 124 = .ok (.iconst 3, 1) := by decide +kernel
theorem dX2_pass_125 : decode cX2_pass 125 = .ok (.iaload, 1) := by decide +kernel
theorem dX2_pass_126 : decode cX2_pass 126 = .ok (.bipush 6, 2) := by decide +kernel
theorem dX2_pass_128 : decode cX2_pass 128 = .ok (.if_icmp .lt 22, 3) := by decide +kernel
theorem dX2_pass_131 : decode cX2_pass 131 = .ok (.aload 5, 2) := by decide +kernel
theorem dX2_pass_133 : decode cX2_pass 133 = .ok (.iconst 4, 1) := by decide +kernel
theorem dX2_pass_134 : decode cX2_pass 134 = .ok (.iaload, 1) := by decide +kernel
theorem dX2_pass_135 : decode cX2_pass 135 = .ok (.iconst 1, 1) := by decide +kernel
theorem dX2_pass_136 : decode cX2_pass 136 = .ok (.if_icmp .ne 6, 3) := by decide +kernel
theorem dX2_pass_139 : decode cX2_pass 139 = .ok (.goto 11, 3) := by decide +kernel
theorem dX2_pass_142 : decode cX2_pass 142 = .ok (.aload 5, 2) := by decide +kernel
theorem dX2_pass_144 : decode cX2_pass 144 = .ok (.iconst 4, 1) := by decide +kernel
theorem dX2_pass_145 : decode cX2_pass 145 = .ok (.iconst 1, 1) := by decide +kernel
theorem dX2_pass_146 : decode cX2_pass 146 = .ok (.iastore, 1) := by decide +kernel
theorem dX2_pass_147 : decode cX2_pass 147 = .ok (.iinc 1 1, 3) := by decide +kernel
theorem dX2_pass_150 : decode cX2_pass 150 = .ok (.iinc 4 1, 3) := by decide +kernel
theorem dX2_pass_153 : decode cX2_pass 153 = .ok (.goto (-65), 3) := by decide +kernel
theorem dX2_pass_156 : decode cX2_pass 156 = .ok (.aload_n 0, 1) := by decide +kernel
theorem dX2_pass_157 : decode cX2_pass 157 = .ok (.dup, 1) := by decide +kernel
theorem dX2_pass_158 : decode cX2_pass 158 = .ok (.getfield 27, 3) := by decide +kernel
theorem dX2_pass_161 : decode cX2_pass 161 = .ok (.iconst 1, 1) := by decide +kernel
theorem dX2_pass_162 : decode cX2_pass 162 = .ok (.iadd, 1) := by decide +kernel
theorem dX2_pass_163 : decode cX2_pass 163 = .ok (.putfield 27, 3) := by decide +kernel
theorem dX2_pass_166 : decode cX2_pass 166 = .ok (.iload_n 1, 1) := by decide +kernel
theorem dX2_pass_167 : decode cX2_pass 167 = .ok (.ireturn, 1) := by decide +kernel
theorem dX2_pass__0 : decode cX2_pass_ 0 = .ok (.iconst 0, 1) := by decide +kernel
theorem dX2_pass__1 : decode cX2_pass_ 1 = .ok (.istore_n 2, 1) := by decide +kernel
theorem dX2_pass__2 : decode cX2_pass_ 2 = .ok (.iconst 0, 1) := by decide +kernel
theorem dX2_pass__3 : decode cX2_pass_ 3 = .ok (.istore_n 3, 1) := by decide +kernel
theorem dX2_pass__4 : decode cX2_pass_ 4 = .ok (.iload_n 3, 1) := by decide +kernel
theorem dX2_pass__5 : decode cX2_pass_ 5 = .ok (.iload_n 1, 1) := by decide +kernel
theorem dX2_pass__6 : decode cX2_pass_ 6 = .ok (.if_icmp .ge 16, 3) := by decide +kernel
theorem dX2_pass__9 : decode cX2_pass_ 9 = .ok (.iload_n 2, 1) := by decide +kernel
theorem dX2_pass__10 : decode cX2_pass_ 10 = .ok (.aload_n 0, 1) := by decide +kernel
theorem dX2_pass__11 : decode cX2_pass_ 11 = .ok (.invokevirtual 55, 3) := by decide +kernel
theorem dX2_pass__14 : decode cX2_pass_ 14 = .ok (.iadd, 1) := by decide +kernel
theorem dX2_pass__15 : decode cX2_pass_ 15 = .ok (.istore_n 2, 1) := by decide +kernel
theorem dX2_pass__16 : decode cX2_pass_ 16 = .ok (.iinc 3 1, 3) := by decide +kernel
theorem dX2_pass__19 : decode cX2_pass_ 19 = .ok (.goto (-15), 3) := by decide +kernel
theorem dX2_pass__22 : decode cX2_pass_ 22 = .ok (.iload_n 2, 1) := by decide +kernel
theorem dX2_pass__23 : decode cX2_pass_ 23 = .ok (.ireturn, 1) := by decide +kernel
theorem dX2_loss_0 : decode cX2_loss 0 = .ok (.iconst 0, 1) := by decide +kernel
theorem dX2_loss_1 : decode cX2_loss 1 = .ok (.istore_n 1, 1) := by decide +kernel
theorem dX2_loss_2 : decode cX2_loss 2 = .ok (.aload_n 0, 1) := by decide +kernel
theorem dX2_loss_3 : decode cX2_loss 3 = .ok (.getfield 9, 3) := by decide +kernel
theorem dX2_loss_6 : decode cX2_loss 6 = .ok (.astore_n 2, 1) := by decide +kernel
theorem dX2_loss_7 : decode cX2_loss 7 = .ok (.aload_n 2, 1) := by decide +kernel
theorem dX2_loss_8 : decode cX2_loss 8 = .ok (.arraylength, 1) := by decide +kernel
theorem dX2_loss_9 : decode cX2_loss 9 = .ok (.istore_n 3, 1) := by decide +kernel
theorem dX2_loss_10 : decode cX2_loss 10 = .ok (.iconst 0, 1) := by decide +kernel
theorem dX2_loss_11 : decode cX2_loss 11 = .ok (.istore 4, 2) := by decide +kernel
theorem dX2_loss_13 : decode cX2_loss 13 = .ok (.iload 4, 2) := by decide +kernel
theorem dX2_loss_15 : decode cX2_loss 15 = .ok (.iload_n 3, 1) := by decide +kernel
theorem dX2_loss_16 : decode cX2_loss 16 = .ok (.if_icmp .ge 27, 3) := by decide +kernel
theorem dX2_loss_19 : decode cX2_loss 19 = .ok (.aload_n 2, 1) := by decide +kernel
theorem dX2_loss_20 : decode cX2_loss 20 = .ok (.iload 4, 2) := by decide +kernel
theorem dX2_loss_22 : decode cX2_loss 22 = .ok (.aaload, 1) := by decide +kernel
theorem dX2_loss_23 : decode cX2_loss 23 = .ok (.astore 5, 2) := by decide +kernel
theorem dX2_loss_25 : decode cX2_loss 25 = .ok (.iload_n 1, 1) := by decide +kernel
theorem dX2_loss_26 : decode cX2_loss 26 = .ok (.aload 5, 2) := by decide +kernel
theorem dX2_loss_28 : decode cX2_loss 28 = .ok (.iconst 4, 1) := by decide +kernel
theorem dX2_loss_29 : decode cX2_loss 29 = .ok (.iaload, 1) := by decide +kernel
theorem dX2_loss_30 : decode cX2_loss 30 = .ok (.aload 5, 2) := by decide +kernel
theorem dX2_loss_32 : decode cX2_loss 32 = .ok (.iconst 1, 1) := by decide +kernel
theorem dX2_loss_33 : decode cX2_loss 33 = .ok (.iaload, 1) := by decide +kernel
theorem dX2_loss_34 : decode cX2_loss 34 = .ok (.imul, 1) := by decide +kernel
theorem dX2_loss_35 : decode cX2_loss 35 = .ok (.iadd, 1) := by decide +kernel
theorem dX2_loss_36 : decode cX2_loss 36 = .ok (.istore_n 1, 1) := by decide +kernel
theorem dX2_loss_37 : decode cX2_loss 37 = .ok (.iinc 4 1, 3) := by decide +kernel
theorem dX2_loss_40 : decode cX2_loss 40 = .ok (.goto (-27), 3) := by decide +kernel
theorem dX2_loss_43 : decode cX2_loss 43 = .ok (.iload_n 1, 1) := by decide +kernel
theorem dX2_loss_44 : decode cX2_loss 44 = .ok (.ireturn, 1) := by decide +kernel
theorem dX2_lossIn_0 : decode cX2_lossIn 0 = .ok (.aload_n 0, 1) := by decide +kernel
theorem dX2_lossIn_1 : decode cX2_lossIn 1 = .ok (.invokevirtual 59, 3) := by decide +kernel
theorem dX2_lossIn_4 : decode cX2_lossIn 4 = .ok (.astore_n 2, 1) := by decide +kernel
theorem dX2_lossIn_5 : decode cX2_lossIn 5 = .ok (.aload_n 2, 1) := by decide +kernel
theorem dX2_lossIn_6 : decode cX2_lossIn 6 = .ok (.iload_n 1, 1) := by decide +kernel
theorem dX2_lossIn_7 : decode cX2_lossIn 7 = .ok (.invokevirtual 63, 3) := by decide +kernel
theorem dX2_lossIn_10 : decode cX2_lossIn 10 = .ok (.pop, 1) := by decide +kernel
theorem dX2_lossIn_11 : decode cX2_lossIn 11 = .ok (.aload_n 2, 1) := by decide +kernel
theorem dX2_lossIn_12 : decode cX2_lossIn 12 = .ok (.invokevirtual 65, 3) := by decide +kernel
theorem dX2_lossIn_15 : decode cX2_lossIn 15 = .ok (.ireturn, 1) := by decide +kernel
theorem dX2_reaches_0 : decode cX2_reaches 0 = .ok (.aload_n 0, 1) := by decide +kernel
theorem dX2_reaches_1 : decode cX2_reaches 1 = .ok (.getfield 9, 3) := by decide +kernel
theorem dX2_reaches_4 : decode cX2_reaches 4 = .ok (.arraylength, 1) := by decide +kernel
theorem dX2_reaches_5 : decode cX2_reaches 5 = .ok (.newarray .boolean, 2) := by decide +kernel
theorem dX2_reaches_7 : decode cX2_reaches 7 = .ok (.astore_n 2, 1) := by decide +kernel
theorem dX2_reaches_8 : decode cX2_reaches 8 = .ok (.aload_n 2, 1) := by decide +kernel
theorem dX2_reaches_9 : decode cX2_reaches 9 = .ok (.iload_n 1, 1) := by decide +kernel
theorem dX2_reaches_10 : decode cX2_reaches 10 = .ok (.iconst 1, 1) := by decide +kernel
theorem dX2_reaches_11 : decode cX2_reaches 11 = .ok (.bastore, 1) := by decide +kernel
theorem dX2_reaches_12 : decode cX2_reaches 12 = .ok (.iconst 0, 1) := by decide +kernel
theorem dX2_reaches_13 : decode cX2_reaches 13 = .ok (.istore_n 3, 1) := by decide +kernel
theorem dX2_reaches_14 : decode cX2_reaches 14 = .ok (.iconst 0, 1) := by decide +kernel
theorem dX2_reaches_15 : decode cX2_reaches 15 = .ok (.istore 4, 2) := by decide +kernel
theorem dX2_reaches_17 : decode cX2_reaches 17 = .ok (.iload 4, 2) := by decide +kernel
theorem dX2_reaches_19 : decode cX2_reaches 19 = .ok (.aload_n 0, 1) := by decide +kernel
theorem dX2_reaches_20 : decode cX2_reaches 20 = .ok (.getfield 9, 3) := by decide +kernel
theorem dX2_reaches_23 : decode cX2_reaches 23 = .ok (.arraylength, 1) := by decide +kernel
theorem dX2_reaches_24 : decode cX2_reaches 24 = .ok (.if_icmp .ge 118, 3) := by decide +kernel
theorem dX2_reaches_27 : decode cX2_reaches 27 = .ok (.aload_n 0, 1) := by decide +kernel
theorem dX2_reaches_28 : decode cX2_reaches 28 = .ok (.getfield 15, 3) := by decide +kernel
theorem dX2_reaches_31 : decode cX2_reaches 31 = .ok (.astore 5, 2) := by decide +kernel
theorem dX2_reaches_33 : decode cX2_reaches 33 = .ok (.aload 5, 2) := by decide +kernel
theorem dX2_reaches_35 : decode cX2_reaches 35 = .ok (.arraylength, 1) := by decide +kernel
theorem dX2_reaches_36 : decode cX2_reaches 36 = .ok (.istore 6, 2) := by decide +kernel
theorem dX2_reaches_38 : decode cX2_reaches 38 = .ok (.iconst 0, 1) := by decide +kernel
theorem dX2_reaches_39 : decode cX2_reaches 39 = .ok (.istore 7, 2) := by decide +kernel
theorem dX2_reaches_41 : decode cX2_reaches 41 = .ok (.iload 7, 2) := by decide +kernel
theorem dX2_reaches_43 : decode cX2_reaches 43 = .ok (.iload 6, 2) := by decide +kernel
theorem dX2_reaches_45 : decode cX2_reaches 45 = .ok (.if_icmp .ge 91, 3) := by decide +kernel
theorem dX2_reaches_48 : decode cX2_reaches 48 = .ok (.aload 5, 2) := by decide +kernel
theorem dX2_reaches_50 : decode cX2_reaches 50 = .ok (.iload 7, 2) := by decide +kernel
theorem dX2_reaches_52 : decode cX2_reaches 52 = .ok (.aaload, 1) := by decide +kernel
theorem dX2_reaches_53 : decode cX2_reaches 53 = .ok (.astore 8, 2) := by decide +kernel
theorem dX2_reaches_55 : decode cX2_reaches 55 = .ok (.aload 8, 2) := by decide +kernel
theorem dX2_reaches_57 : decode cX2_reaches 57 = .ok (.iconst 4, 1) := by decide +kernel
theorem dX2_reaches_58 : decode cX2_reaches 58 = .ok (.iaload, 1) := by decide +kernel
theorem dX2_reaches_59 : decode cX2_reaches 59 = .ok (.ifCond .eq 71, 3) := by decide +kernel
theorem dX2_reaches_62 : decode cX2_reaches 62 = .ok (.aload 8, 2) := by decide +kernel
theorem dX2_reaches_64 : decode cX2_reaches 64 = .ok (.iconst 1, 1) := by decide +kernel
theorem dX2_reaches_65 : decode cX2_reaches 65 = .ok (.iaload, 1) := by decide +kernel
theorem dX2_reaches_66 : decode cX2_reaches 66 = .ok (.ifCond .ge 6, 3) := by decide +kernel
theorem dX2_reaches_69 : decode cX2_reaches 69 = .ok (.goto 61, 3) := by decide +kernel
theorem dX2_reaches_72 : decode cX2_reaches 72 = .ok (.aload_n 2, 1) := by decide +kernel
theorem dX2_reaches_73 : decode cX2_reaches 73 = .ok (.aload 8, 2) := by decide +kernel
theorem dX2_reaches_75 : decode cX2_reaches 75 = .ok (.iconst 0, 1) := by decide +kernel
theorem dX2_reaches_76 : decode cX2_reaches 76 = .ok (.iaload, 1) := by decide +kernel
theorem dX2_reaches_77 : decode cX2_reaches 77 = .ok (.baload, 1) := by decide +kernel
theorem dX2_reaches_78 : decode cX2_reaches 78 = .ok (.ifCond .ne 19, 3) := by decide +kernel
theorem dX2_reaches_81 : decode cX2_reaches 81 = .ok (.aload 8, 2) := by decide +kernel
theorem dX2_reaches_83 : decode cX2_reaches 83 = .ok (.iconst 3, 1) := by decide +kernel
theorem dX2_reaches_84 : decode cX2_reaches 84 = .ok (.iaload, 1) := by decide +kernel
theorem dX2_reaches_85 : decode cX2_reaches 85 = .ok (.ifCond .ne 16, 3) := by decide +kernel
theorem dX2_reaches_88 : decode cX2_reaches 88 = .ok (.aload_n 2, 1) := by decide +kernel
theorem dX2_reaches_89 : decode cX2_reaches 89 = .ok (.aload 8, 2) := by decide +kernel
theorem dX2_reaches_91 : decode cX2_reaches 91 = .ok (.iconst 1, 1) := by decide +kernel
theorem dX2_reaches_92 : decode cX2_reaches 92 = .ok (.iaload, 1) := by decide +kernel
theorem dX2_reaches_93 : decode cX2_reaches 93 = .ok (.baload, 1) := by decide +kernel
theorem dX2_reaches_94 : decode cX2_reaches 94 = .ok (.ifCond .eq 7, 3) := by decide +kernel
theorem dX2_reaches_97 : decode cX2_reaches 97 = .ok (.iconst 1, 1) := by decide +kernel
theorem dX2_reaches_98 : decode cX2_reaches 98 = .ok (.goto 4, 3) := by decide +kernel
theorem dX2_reaches_101 : decode cX2_reaches 101 = .ok (.iconst 0, 1) := by decide +kernel
theorem dX2_reaches_102 : decode cX2_reaches 102 = .ok (.istore 9, 2) := by decide +kernel
theorem dX2_reaches_104 : decode cX2_reaches 104 = .ok (.aload_n 2, 1) := by decide +kernel
theorem dX2_reaches_105 : decode cX2_reaches 105 = .ok (.aload 8, 2) := by decide +kernel
theorem dX2_reaches_107 : decode cX2_reaches 107 = .ok (.iconst 1, 1) := by decide +kernel
theorem dX2_reaches_108 : decode cX2_reaches 108 = .ok (.iaload, 1) := by decide +kernel
theorem dX2_reaches_109 : decode cX2_reaches 109 = .ok (.dup2, 1) := by decide +kernel
theorem dX2_reaches_110 : decode cX2_reaches 110 = .ok (.baload, 1) := by decide +kernel
theorem dX2_reaches_111 : decode cX2_reaches 111 = .ok (.aload_n 2, 1) := by decide +kernel
theorem dX2_reaches_112 : decode cX2_reaches 112 = .ok (.aload 8, 2) := by decide +kernel
theorem dX2_reaches_114 : decode cX2_reaches 114 = .ok (.iconst 0, 1) := by decide +kernel
theorem dX2_reaches_115 : decode cX2_reaches 115 = .ok (.iaload, 1) := by decide +kernel
theorem dX2_reaches_116 : decode cX2_reaches 116 = .ok (.baload, 1) := by decide +kernel
theorem dX2_reaches_117 : decode cX2_reaches 117 = .ok (.ior, 1) := by decide +kernel
theorem dX2_reaches_118 : decode cX2_reaches 118 = .ok (.bastore, 1) := by decide +kernel
theorem dX2_reaches_119 : decode cX2_reaches 119 = .ok (.aload_n 2, 1) := by decide +kernel
theorem dX2_reaches_120 : decode cX2_reaches 120 = .ok (.aload 8, 2) := by decide +kernel
theorem dX2_reaches_122 : decode cX2_reaches 122 = .ok (.iconst 0, 1) := by decide +kernel
theorem dX2_reaches_123 : decode cX2_reaches 123 = .ok (.iaload, 1) := by decide +kernel
theorem dX2_reaches_124 : decode cX2_reaches 124 = .ok (.dup2, 1) := by decide +kernel
theorem dX2_reaches_125 : decode cX2_reaches 125 = .ok (.baload, 1) := by decide +kernel
theorem dX2_reaches_126 : decode cX2_reaches 126 = .ok (.iload 9, 2) := by decide +kernel
theorem dX2_reaches_128 : decode cX2_reaches 128 = .ok (.ior, 1) := by decide +kernel
theorem dX2_reaches_129 : decode cX2_reaches 129 = .ok (.bastore, 1) := by decide +kernel
theorem dX2_reaches_130 : decode cX2_reaches 130 = .ok (.iinc 7 1, 3) := by decide +kernel
theorem dX2_reaches_133 : decode cX2_reaches 133 = .ok (.goto (-92), 3) := by decide +kernel
theorem dX2_reaches_136 : decode cX2_reaches 136 = .ok (.iinc 4 1, 3) := by decide +kernel
theorem dX2_reaches_139 : decode cX2_reaches 139 = .ok (.goto (-122), 3) := by decide +kernel
theorem dX2_reaches_142 : decode cX2_reaches 142 = .ok (.aload_n 2, 1) := by decide +kernel
theorem dX2_reaches_143 : decode cX2_reaches 143 = .ok (.astore 4, 2) := by decide +kernel
theorem dX2_reaches_145 : decode cX2_reaches 145 = .ok (.aload 4, 2) := by decide +kernel
theorem dX2_reaches_147 : decode cX2_reaches 147 = .ok (.arraylength, 1) := by decide +kernel
theorem dX2_reaches_148 : decode cX2_reaches 148 = .ok (.istore 5, 2) := by decide +kernel
theorem dX2_reaches_150 : decode cX2_reaches 150 = .ok (.iconst 0, 1) := by decide +kernel
theorem dX2_reaches_151 : decode cX2_reaches 151 = .ok (.istore 6, 2) := by decide +kernel
theorem dX2_reaches_153 : decode cX2_reaches 153 = .ok (.iload 6, 2) := by decide +kernel
theorem dX2_reaches_155 : decode cX2_reaches 155 = .ok (.iload 5, 2) := by decide +kernel
theorem dX2_reaches_157 : decode cX2_reaches 157 = .ok (.if_icmp .ge 29, 3) := by decide +kernel
theorem dX2_reaches_160 : decode cX2_reaches 160 = .ok (.aload 4, 2) := by decide +kernel
theorem dX2_reaches_162 : decode cX2_reaches 162 = .ok (.iload 6, 2) := by decide +kernel
theorem dX2_reaches_164 : decode cX2_reaches 164 = .ok (.baload, 1) := by decide +kernel
theorem dX2_reaches_165 : decode cX2_reaches 165 = .ok (.istore 7, 2) := by decide +kernel
theorem dX2_reaches_167 : decode cX2_reaches 167 = .ok (.iload_n 3, 1) := by decide +kernel
theorem dX2_reaches_168 : decode cX2_reaches 168 = .ok (.iload 7, 2) := by decide +kernel
theorem dX2_reaches_170 : decode cX2_reaches 170 = .ok (.ifCond .eq 7, 3) := by decide +kernel
theorem dX2_reaches_173 : decode cX2_reaches 173 = .ok (.iconst 1, 1) := by decide +kernel
theorem dX2_reaches_174 : decode cX2_reaches 174 = .ok (.goto 4, 3) := by decide +kernel
theorem dX2_reaches_177 : decode cX2_reaches 177 = .ok (.iconst 0, 1) := by decide +kernel
theorem dX2_reaches_178 : decode cX2_reaches 178 = .ok (.iadd, 1) := by decide +kernel
theorem dX2_reaches_179 : decode cX2_reaches 179 = .ok (.istore_n 3, 1) := by decide +kernel
theorem dX2_reaches_180 : decode cX2_reaches 180 = .ok (.iinc 6 1, 3) := by decide +kernel
theorem dX2_reaches_183 : decode cX2_reaches 183 = .ok (.goto (-30), 3) := by decide +kernel
theorem dX2_reaches_186 : decode cX2_reaches 186 = .ok (.iload_n 3, 1) := by decide +kernel
theorem dX2_reaches_187 : decode cX2_reaches 187 = .ok (.iconst 1, 1) := by decide +kernel
theorem dX2_reaches_188 : decode cX2_reaches 188 = .ok (.isub, 1) := by decide +kernel
theorem dX2_reaches_189 : decode cX2_reaches 189 = .ok (.ireturn, 1) := by decide +kernel
theorem dX2_isSame_0 : decode cX2_isSame 0 = .ok (.iconst 0, 1) := by decide +kernel
theorem dX2_isSame_1 : decode cX2_isSame 1 = .ok (.istore_n 2, 1) := by decide +kernel
theorem dX2_isSame_2 : decode cX2_isSame 2 = .ok (.iconst 0, 1) := by decide +kernel
theorem dX2_isSame_3 : decode cX2_isSame 3 = .ok (.istore_n 3, 1) := by decide +kernel
theorem dX2_isSame_4 : decode cX2_isSame 4 = .ok (.iconst 0, 1) := by decide +kernel
theorem dX2_isSame_5 : decode cX2_isSame 5 = .ok (.istore 4, 2) := by decide +kernel
theorem dX2_isSame_7 : decode cX2_isSame 7 = .ok (.iconst (-1), 1) := by decide +kernel
theorem dX2_isSame_8 : decode cX2_isSame 8 = .ok (.istore 5, 2) := by decide +kernel
theorem dX2_isSame_10 : decode cX2_isSame 10 = .ok (.iconst (-1), 1) := by decide +kernel
theorem dX2_isSame_11 : decode cX2_isSame 11 = .ok (.istore 6, 2) := by decide +kernel
theorem dX2_isSame_13 : decode cX2_isSame 13 = .ok (.iconst 0, 1) := by decide +kernel
theorem dX2_isSame_14 : decode cX2_isSame 14 = .ok (.istore 7, 2) := by decide +kernel
theorem dX2_isSame_16 : decode cX2_isSame 16 = .ok (.iload 7, 2) := by decide +kernel
theorem dX2_isSame_18 : decode cX2_isSame 18 = .ok (.aload_n 0, 1) := by decide +kernel
theorem dX2_isSame_19 : decode cX2_isSame 19 = .ok (.getfield 9, 3) := by decide +kernel
theorem dX2_isSame_22 : decode cX2_isSame 22 = .ok (.arraylength, 1) := by decide +kernel
theorem dX2_isSame_23 : decode cX2_isSame 23 = .ok (.if_icmp .ge 238, 3) := by decide +kernel
theorem dX2_isSame_26 : decode cX2_isSame 26 = .ok (.aload_n 0, 1) := by decide +kernel
theorem dX2_isSame_27 : decode cX2_isSame 27 = .ok (.getfield 9, 3) := by decide +kernel
theorem dX2_isSame_30 : decode cX2_isSame 30 = .ok (.iload 7, 2) := by decide +kernel
theorem dX2_isSame_32 : decode cX2_isSame 32 = .ok (.aaload, 1) := by decide +kernel
theorem dX2_isSame_33 : decode cX2_isSame 33 = .ok (.astore 8, 2) := by decide +kernel
theorem dX2_isSame_35 : decode cX2_isSame 35 = .ok (.iconst 0, 1) := by decide +kernel
theorem dX2_isSame_36 : decode cX2_isSame 36 = .ok (.istore 9, 2) := by decide +kernel
theorem dX2_isSame_38 : decode cX2_isSame 38 = .ok (.aload_n 0, 1) := by decide +kernel
theorem dX2_isSame_39 : decode cX2_isSame 39 = .ok (.getfield 15, 3) := by decide +kernel
theorem dX2_isSame_42 : decode cX2_isSame 42 = .ok (.astore 10, 2) := by decide +kernel
theorem dX2_isSame_44 : decode cX2_isSame 44 = .ok (.aload 10, 2) := by decide +kernel
theorem dX2_isSame_46 : decode cX2_isSame 46 = .ok (.arraylength, 1) := by decide +kernel
theorem dX2_isSame_47 : decode cX2_isSame 47 = .ok (.istore 11, 2) := by decide +kernel
theorem dX2_isSame_49 : decode cX2_isSame 49 = .ok (.iconst 0, 1) := by decide +kernel
theorem dX2_isSame_50 : decode cX2_isSame 50 = .ok (.istore 12, 2) := by decide +kernel
theorem dX2_isSame_52 : decode cX2_isSame 52 = .ok (.iload 12, 2) := by decide +kernel
theorem dX2_isSame_54 : decode cX2_isSame 54 = .ok (.iload 11, 2) := by decide +kernel
theorem dX2_isSame_56 : decode cX2_isSame 56 = .ok (.if_icmp .ge 52, 3) := by decide +kernel
theorem dX2_isSame_59 : decode cX2_isSame 59 = .ok (.aload 10, 2) := by decide +kernel
theorem dX2_isSame_61 : decode cX2_isSame 61 = .ok (.iload 12, 2) := by decide +kernel
theorem dX2_isSame_63 : decode cX2_isSame 63 = .ok (.aaload, 1) := by decide +kernel
theorem dX2_isSame_64 : decode cX2_isSame 64 = .ok (.astore 13, 2) := by decide +kernel
theorem dX2_isSame_66 : decode cX2_isSame 66 = .ok (.iload 9, 2) := by decide +kernel
theorem dX2_isSame_68 : decode cX2_isSame 68 = .ok (.aload 13, 2) := by decide +kernel
theorem dX2_isSame_70 : decode cX2_isSame 70 = .ok (.iconst 4, 1) := by decide +kernel
theorem dX2_isSame_71 : decode cX2_isSame 71 = .ok (.iaload, 1) := by decide +kernel
theorem dX2_isSame_72 : decode cX2_isSame 72 = .ok (.iconst 1, 1) := by decide +kernel
theorem dX2_isSame_73 : decode cX2_isSame 73 = .ok (.if_icmp .ne 25, 3) := by decide +kernel
theorem dX2_isSame_76 : decode cX2_isSame 76 = .ok (.aload 13, 2) := by decide +kernel
theorem dX2_isSame_78 : decode cX2_isSame 78 = .ok (.iconst 0, 1) := by decide +kernel
theorem dX2_isSame_79 : decode cX2_isSame 79 = .ok (.iaload, 1) := by decide +kernel
theorem dX2_isSame_80 : decode cX2_isSame 80 = .ok (.iload 7, 2) := by decide +kernel
theorem dX2_isSame_82 : decode cX2_isSame 82 = .ok (.if_icmp .eq 12, 3) := by decide +kernel
theorem dX2_isSame_85 : decode cX2_isSame 85 = .ok (.aload 13, 2) := by decide +kernel
theorem dX2_isSame_87 : decode cX2_isSame 87 = .ok (.iconst 1, 1) := by decide +kernel
theorem dX2_isSame_88 : decode cX2_isSame 88 = .ok (.iaload, 1) := by decide +kernel
theorem dX2_isSame_89 : decode cX2_isSame 89 = .ok (.iload 7, 2) := by decide +kernel
theorem dX2_isSame_91 : decode cX2_isSame 91 = .ok (.if_icmp .ne 7, 3) := by decide +kernel
theorem dX2_isSame_94 : decode cX2_isSame 94 = .ok (.iconst 1, 1) := by decide +kernel
theorem dX2_isSame_95 : decode cX2_isSame 95 = .ok (.goto 4, 3) := by decide +kernel
theorem dX2_isSame_98 : decode cX2_isSame 98 = .ok (.iconst 0, 1) := by decide +kernel
theorem dX2_isSame_99 : decode cX2_isSame 99 = .ok (.iadd, 1) := by decide +kernel
theorem dX2_isSame_100 : decode cX2_isSame 100 = .ok (.istore 9, 2) := by decide +kernel
theorem dX2_isSame_102 : decode cX2_isSame 102 = .ok (.iinc 12 1, 3) := by decide +kernel
theorem dX2_isSame_105 : decode cX2_isSame 105 = .ok (.goto (-53), 3) := by decide +kernel
theorem dX2_isSame_108 : decode cX2_isSame 108 = .ok (.iload_n 2, 1) := by decide +kernel
theorem dX2_isSame_109 : decode cX2_isSame 109 = .ok (.aload 8, 2) := by decide +kernel
theorem dX2_isSame_111 : decode cX2_isSame 111 = .ok (.iconst 2, 1) := by decide +kernel
theorem dX2_isSame_112 : decode cX2_isSame 112 = .ok (.iaload, 1) := by decide +kernel
theorem dX2_isSame_113 : decode cX2_isSame 113 = .ok (.iadd, 1) := by decide +kernel
theorem dX2_isSame_114 : decode cX2_isSame 114 = .ok (.istore_n 2, 1) := by decide +kernel
theorem dX2_isSame_115 : decode cX2_isSame 115 = .ok (.iload_n 3, 1) := by decide +kernel
theorem dX2_isSame_116 : decode cX2_isSame 116 = .ok (.aload 8, 2) := by decide +kernel
theorem dX2_isSame_118 : decode cX2_isSame 118 = .ok (.iconst 2, 1) := by decide +kernel
theorem dX2_isSame_119 : decode cX2_isSame 119 = .ok (.iaload, 1) := by decide +kernel
theorem dX2_isSame_120 : decode cX2_isSame 120 = .ok (.iconst 3, 1) := by decide +kernel
theorem dX2_isSame_121 : decode cX2_isSame 121 = .ok (.if_icmp .le 7, 3) := by decide +kernel
theorem dX2_isSame_124 : decode cX2_isSame 124 = .ok (.iconst 1, 1) := by decide +kernel
theorem dX2_isSame_125 : decode cX2_isSame 125 = .ok (.goto 4, 3) := by decide +kernel
theorem dX2_isSame_128 : decode cX2_isSame 128 = .ok (.iconst 0, 1) := by decide +kernel
theorem dX2_isSame_129 : decode cX2_isSame 129 = .ok (.iadd, 1) := by decide +kernel
theorem dX2_isSame_130 : decode cX2_isSame 130 = .ok (.istore_n 3, 1) := by decide +kernel
theorem dX2_isSame_131 : decode cX2_isSame 131 = .ok (.iload 4, 2) := by decide +kernel
theorem dX2_isSame_133 : decode cX2_isSame 133 = .ok (.aload 8, 2) := by decide +kernel
theorem dX2_isSame_135 : decode cX2_isSame 135 = .ok (.iconst 4, 1) := by decide +kernel
theorem dX2_isSame_136 : decode cX2_isSame 136 = .ok (.iaload, 1) := by decide +kernel
theorem dX2_isSame_137 : decode cX2_isSame 137 = .ok (.iadd, 1) := by decide +kernel
theorem dX2_isSame_138 : decode cX2_isSame 138 = .ok (.istore 4, 2) := by decide +kernel
theorem dX2_isSame_140 : decode cX2_isSame 140 = .ok (.iload 5, 2) := by decide +kernel
theorem dX2_isSame_142 : decode cX2_isSame 142 = .ok (.ifCond .lt 18, 3) := by decide +kernel
theorem dX2_isSame_145 : decode cX2_isSame 145 = .ok (.aload_n 0, 1) := by decide +kernel
theorem dX2_isSame_146 : decode cX2_isSame 146 = .ok (.iload 7, 2) := by decide +kernel
theorem dX2_isSame_148 : decode cX2_isSame 148 = .ok (.invokevirtual 33, 3) := by decide +kernel
theorem dX2_isSame_151 : decode cX2_isSame 151 = .ok (.aload_n 0, 1) := by decide +kernel
theorem dX2_isSame_152 : decode cX2_isSame 152 = .ok (.iload 5, 2) := by decide +kernel
theorem dX2_isSame_154 : decode cX2_isSame 154 = .ok (.invokevirtual 33, 3) := by decide +kernel
theorem dX2_isSame_157 : decode cX2_isSame 157 = .ok (.if_icmp .le 7, 3) := by decide +kernel
theorem dX2_isSame_160 : decode cX2_isSame 160 = .ok (.iload 7, 2) := by decide +kernel
theorem dX2_isSame_162 : decode cX2_isSame 162 = .ok (.istore 5, 2) := by decide +kernel
theorem dX2_isSame_164 : decode cX2_isSame 164 = .ok (.aload_n 1, 1) := by decide +kernel
theorem dX2_isSame_165 : decode cX2_isSame 165 = .ok (.iload 7, 2) := by decide +kernel
theorem dX2_isSame_167 : decode cX2_isSame 167 = .ok (.invokevirtual 68, 3) := by decide +kernel
theorem dX2_isSame_170 : decode cX2_isSame 170 = .ok (.aload 8, 2) := by decide +kernel
theorem dX2_isSame_172 : decode cX2_isSame 172 = .ok (.iconst 2, 1) := by decide +kernel
theorem dX2_isSame_173 : decode cX2_isSame 173 = .ok (.iaload, 1) := by decide +kernel
theorem dX2_isSame_174 : decode cX2_isSame 174 = .ok (.if_icmp .ne 79, 3) := by decide +kernel
theorem dX2_isSame_177 : decode cX2_isSame 177 = .ok (.aload_n 1, 1) := by decide +kernel
theorem dX2_isSame_178 : decode cX2_isSame 178 = .ok (.iload 7, 2) := by decide +kernel
theorem dX2_isSame_180 : decode cX2_isSame 180 = .ok (.invokevirtual 73, 3) := by decide +kernel
theorem dX2_isSame_183 : decode cX2_isSame 183 = .ok (.aload_n 0, 1) := by decide +kernel
theorem dX2_isSame_184 : decode cX2_isSame 184 = .ok (.iload 7, 2) := by decide +kernel
theorem dX2_isSame_186 : decode cX2_isSame 186 = .ok (.invokevirtual 33, 3) := by decide +kernel
theorem dX2_isSame_189 : decode cX2_isSame 189 = .ok (.if_icmp .ne 64, 3) := by decide +kernel
theorem dX2_isSame_192 : decode cX2_isSame 192 = .ok (.aload_n 1, 1) := by decide +kernel
theorem dX2_isSame_193 : decode cX2_isSame 193 = .ok (.iload 7, 2) := by decide +kernel
theorem dX2_isSame_195 : decode cX2_isSame 195 = .ok (.invokevirtual 76, 3) := by decide +kernel
theorem dX2_isSame_198 : decode cX2_isSame 198 = .ok (.aload 8, 2) := by decide +kernel
theorem dX2_isSame_200 : decode cX2_isSame 200 = .ok (.iconst 3, 1) := by decide +kernel
theorem dX2_isSame_201 : decode cX2_isSame 201 = .ok (.iaload, 1) := by decide +kernel
theorem dX2_isSame_202 : decode cX2_isSame 202 = .ok (.if_icmp .ne 51, 3) := by decide +kernel
theorem dX2_isSame_205 : decode cX2_isSame 205 = .ok (.aload_n 1, 1) := by decide +kernel
theorem dX2_isSame_206 : decode cX2_isSame 206 = .ok (.iload 7, 2) := by decide +kernel
theorem dX2_isSame_208 : decode cX2_isSame 208 = .ok (.invokevirtual 79, 3) := by decide +kernel
theorem dX2_isSame_211 : decode cX2_isSame 211 = .ok (.aload 8, 2) := by decide +kernel
theorem dX2_isSame_213 : decode cX2_isSame 213 = .ok (.iconst 4, 1) := by decide +kernel
theorem dX2_isSame_214 : decode cX2_isSame 214 = .ok (.iaload, 1) := by decide +kernel
theorem dX2_isSame_215 : decode cX2_isSame 215 = .ok (.iconst 1, 1) := by decide +kernel
theorem dX2_isSame_216 : decode cX2_isSame 216 = .ok (.if_icmp .ne 7, 3) := by decide +kernel
theorem dX2_isSame_219 : decode cX2_isSame 219 = .ok (.iconst 1, 1) := by decide +kernel
theorem dX2_isSame_220 : decode cX2_isSame 220 = .ok (.goto 4, 3) := by decide +kernel
theorem dX2_isSame_223 : decode cX2_isSame 223 = .ok (.iconst 0, 1) := by decide +kernel
theorem dX2_isSame_224 : decode cX2_isSame 224 = .ok (.if_icmp .ne 29, 3) := by decide +kernel
theorem dX2_isSame_227 : decode cX2_isSame 227 = .ok (.aload_n 1, 1) := by decide +kernel
theorem dX2_isSame_228 : decode cX2_isSame 228 = .ok (.iload 7, 2) := by decide +kernel
theorem dX2_isSame_230 : decode cX2_isSame 230 = .ok (.invokevirtual 83, 3) := by decide +kernel
theorem dX2_isSame_233 : decode cX2_isSame 233 = .ok (.iload 9, 2) := by decide +kernel
theorem dX2_isSame_235 : decode cX2_isSame 235 = .ok (.if_icmp .ne 18, 3) := by decide +kernel
theorem dX2_isSame_238 : decode cX2_isSame 238 = .ok (.aload_n 1, 1) := by decide +kernel
theorem dX2_isSame_239 : decode cX2_isSame 239 = .ok (.iload 7, 2) := by decide +kernel
theorem dX2_isSame_241 : decode cX2_isSame 241 = .ok (.invokevirtual 86, 3) := by decide +kernel
theorem dX2_isSame_244 : decode cX2_isSame 244 = .ok (.aload_n 0, 1) := by decide +kernel
theorem dX2_isSame_245 : decode cX2_isSame 245 = .ok (.iload 7, 2) := by decide +kernel
theorem dX2_isSame_247 : decode cX2_isSame 247 = .ok (.invokevirtual 89, 3) := by decide +kernel
theorem dX2_isSame_250 : decode cX2_isSame 250 = .ok (.if_icmp .eq 5, 3) := by decide +kernel
theorem dX2_isSame_253 : decode cX2_isSame 253 = .ok (.iconst 0, 1) := by decide +kernel
theorem dX2_isSame_254 : decode cX2_isSame 254 = .ok (.ireturn, 1) := by decide +kernel
theorem dX2_isSame_255 : decode cX2_isSame 255 = .ok (.iinc 7 1, 3) := by decide +kernel
theorem dX2_isSame_258 : decode cX2_isSame 258 = .ok (.goto (-242), 3) := by decide +kernel
theorem dX2_isSame_261 : decode cX2_isSame 261 = .ok (.iconst 0, 1) := by decide +kernel
theorem dX2_isSame_262 : decode cX2_isSame 262 = .ok (.istore 7, 2) := by decide +kernel
theorem dX2_isSame_264 : decode cX2_isSame 264 = .ok (.iload 7, 2) := by decide +kernel
theorem dX2_isSame_266 : decode cX2_isSame 266 = .ok (.aload_n 0, 1) := by decide +kernel
theorem dX2_isSame_267 : decode cX2_isSame 267 = .ok (.getfield 15, 3) := by decide +kernel
theorem dX2_isSame_270 : decode cX2_isSame 270 = .ok (.arraylength, 1) := by decide +kernel
theorem dX2_isSame_271 : decode cX2_isSame 271 = .ok (.if_icmp .ge 117, 3) := by decide +kernel
theorem dX2_isSame_274 : decode cX2_isSame 274 = .ok (.aload_n 0, 1) := by decide +kernel
theorem dX2_isSame_275 : decode cX2_isSame 275 = .ok (.getfield 15, 3) := by decide +kernel
theorem dX2_isSame_278 : decode cX2_isSame 278 = .ok (.iload 7, 2) := by decide +kernel
theorem dX2_isSame_280 : decode cX2_isSame 280 = .ok (.aaload, 1) := by decide +kernel
theorem dX2_isSame_281 : decode cX2_isSame 281 = .ok (.astore 8, 2) := by decide +kernel
theorem dX2_isSame_283 : decode cX2_isSame 283 = .ok (.iload 6, 2) := by decide +kernel
theorem dX2_isSame_285 : decode cX2_isSame 285 = .ok (.ifCond .lt 19, 3) := by decide +kernel
theorem dX2_isSame_288 : decode cX2_isSame 288 = .ok (.aload 8, 2) := by decide +kernel
theorem dX2_isSame_290 : decode cX2_isSame 290 = .ok (.iconst 5, 1) := by decide +kernel
theorem dX2_isSame_291 : decode cX2_isSame 291 = .ok (.iaload, 1) := by decide +kernel
theorem dX2_isSame_292 : decode cX2_isSame 292 = .ok (.aload_n 0, 1) := by decide +kernel
theorem dX2_isSame_293 : decode cX2_isSame 293 = .ok (.getfield 15, 3) := by decide +kernel
theorem dX2_isSame_296 : decode cX2_isSame 296 = .ok (.iload 6, 2) := by decide +kernel
theorem dX2_isSame_298 : decode cX2_isSame 298 = .ok (.aaload, 1) := by decide +kernel
theorem dX2_isSame_299 : decode cX2_isSame 299 = .ok (.iconst 5, 1) := by decide +kernel
theorem dX2_isSame_300 : decode cX2_isSame 300 = .ok (.iaload, 1) := by decide +kernel
theorem dX2_isSame_301 : decode cX2_isSame 301 = .ok (.if_icmp .le 7, 3) := by decide +kernel
theorem dX2_isSame_304 : decode cX2_isSame 304 = .ok (.iload 7, 2) := by decide +kernel
theorem dX2_isSame_306 : decode cX2_isSame 306 = .ok (.istore 6, 2) := by decide +kernel
theorem dX2_isSame_308 : decode cX2_isSame 308 = .ok (.aload_n 1, 1) := by decide +kernel
theorem dX2_isSame_309 : decode cX2_isSame 309 = .ok (.iload 7, 2) := by decide +kernel
theorem dX2_isSame_311 : decode cX2_isSame 311 = .ok (.invokevirtual 90, 3) := by decide +kernel
theorem dX2_isSame_314 : decode cX2_isSame 314 = .ok (.aload 8, 2) := by decide +kernel
theorem dX2_isSame_316 : decode cX2_isSame 316 = .ok (.iconst 3, 1) := by decide +kernel
theorem dX2_isSame_317 : decode cX2_isSame 317 = .ok (.iaload, 1) := by decide +kernel
theorem dX2_isSame_318 : decode cX2_isSame 318 = .ok (.iconst 1, 1) := by decide +kernel
theorem dX2_isSame_319 : decode cX2_isSame 319 = .ok (.if_icmp .ne 7, 3) := by decide +kernel
theorem dX2_isSame_322 : decode cX2_isSame 322 = .ok (.iconst 1, 1) := by decide +kernel
theorem dX2_isSame_323 : decode cX2_isSame 323 = .ok (.goto 4, 3) := by decide +kernel
theorem dX2_isSame_326 : decode cX2_isSame 326 = .ok (.iconst 0, 1) := by decide +kernel
theorem dX2_isSame_327 : decode cX2_isSame 327 = .ok (.if_icmp .ne 53, 3) := by decide +kernel
theorem dX2_isSame_330 : decode cX2_isSame 330 = .ok (.aload_n 1, 1) := by decide +kernel
theorem dX2_isSame_331 : decode cX2_isSame 331 = .ok (.iload 7, 2) := by decide +kernel
theorem dX2_isSame_333 : decode cX2_isSame 333 = .ok (.invokevirtual 93, 3) := by decide +kernel
theorem dX2_isSame_336 : decode cX2_isSame 336 = .ok (.aload 8, 2) := by decide +kernel
theorem dX2_isSame_338 : decode cX2_isSame 338 = .ok (.iconst 4, 1) := by decide +kernel
theorem dX2_isSame_339 : decode cX2_isSame 339 = .ok (.iaload, 1) := by decide +kernel
theorem dX2_isSame_340 : decode cX2_isSame 340 = .ok (.iconst 1, 1) := by decide +kernel
theorem dX2_isSame_341 : decode cX2_isSame 341 = .ok (.if_icmp .ne 7, 3) := by decide +kernel
theorem dX2_isSame_344 : decode cX2_isSame 344 = .ok (.iconst 1, 1) := by decide +kernel
theorem dX2_isSame_345 : decode cX2_isSame 345 = .ok (.goto 4, 3) := by decide +kernel
theorem dX2_isSame_348 : decode cX2_isSame 348 = .ok (.iconst 0, 1) := by decide +kernel
theorem dX2_isSame_349 : decode cX2_isSame 349 = .ok (.if_icmp .ne 31, 3) := by decide +kernel
theorem dX2_isSame_352 : decode cX2_isSame 352 = .ok (.aload_n 1, 1) := by decide +kernel
theorem dX2_isSame_353 : decode cX2_isSame 353 = .ok (.iload 7, 2) := by decide +kernel
theorem dX2_isSame_355 : decode cX2_isSame 355 = .ok (.invokevirtual 96, 3) := by decide +kernel
theorem dX2_isSame_358 : decode cX2_isSame 358 = .ok (.aload 8, 2) := by decide +kernel
theorem dX2_isSame_360 : decode cX2_isSame 360 = .ok (.iconst 5, 1) := by decide +kernel
theorem dX2_isSame_361 : decode cX2_isSame 361 = .ok (.iaload, 1) := by decide +kernel
theorem dX2_isSame_362 : decode cX2_isSame 362 = .ok (.if_icmp .ne 18, 3) := by decide +kernel
theorem dX2_isSame_365 : decode cX2_isSame 365 = .ok (.aload_n 1, 1) := by decide +kernel
theorem dX2_isSame_366 : decode cX2_isSame 366 = .ok (.iload 7, 2) := by decide +kernel
theorem dX2_isSame_368 : decode cX2_isSame 368 = .ok (.invokevirtual 99, 3) := by decide +kernel
theorem dX2_isSame_371 : decode cX2_isSame 371 = .ok (.aload_n 0, 1) := by decide +kernel
theorem dX2_isSame_372 : decode cX2_isSame 372 = .ok (.aload 8, 2) := by decide +kernel
theorem dX2_isSame_374 : decode cX2_isSame 374 = .ok (.invokevirtual 47, 3) := by decide +kernel
theorem dX2_isSame_377 : decode cX2_isSame 377 = .ok (.if_icmp .eq 5, 3) := by decide +kernel
theorem dX2_isSame_380 : decode cX2_isSame 380 = .ok (.iconst 0, 1) := by decide +kernel
theorem dX2_isSame_381 : decode cX2_isSame 381 = .ok (.ireturn, 1) := by decide +kernel
theorem dX2_isSame_382 : decode cX2_isSame 382 = .ok (.iinc 7 1, 3) := by decide +kernel

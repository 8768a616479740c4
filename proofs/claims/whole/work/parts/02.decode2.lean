theorem dX7_owed_23 : decode cX7_owed 23 = .ok (.istore 4, 2) := by decide +kernel
theorem dX7_owed_25 : decode cX7_owed 25 = .ok (.iload 4, 2) := by decide +kernel
theorem dX7_owed_27 : decode cX7_owed 27 = .ok (.ifCond .lt 31, 3) := by decide +kernel
theorem dX7_owed_30 : decode cX7_owed 30 = .ok (.aload_n 0, 1) := by decide +kernel
theorem dX7_owed_31 : decode cX7_owed 31 = .ok (.getfield 47, 3) := by decide +kernel
theorem dX7_owed_34 : decode cX7_owed 34 = .ok (.aload_n 0, 1) := by decide +kernel
theorem dX7_owed_35 : decode cX7_owed 35 = .ok (.getfield 14, 3) := by decide +kernel
theorem dX7_owed_38 : decode cX7_owed 38 = .ok (.iload 4, 2) := by decide +kernel
theorem dX7_owed_40 : decode cX7_owed 40 = .ok (.invokevirtual 210, 3) := by decide +kernel
theorem dX7_owed_43 : decode cX7_owed 43 = .ok (.ifCond .eq 9, 3) := by decide +kernel
theorem dX7_owed_46 : decode cX7_owed 46 = .ok (.iinc 2 1, 3) := by decide +kernel
theorem dX7_owed_49 : decode cX7_owed 49 = .ok (.iload 4, 2) := by decide +kernel
theorem dX7_owed_51 : decode cX7_owed 51 = .ok (.istore_n 3, 1) := by decide +kernel
theorem dX7_owed_52 : decode cX7_owed 52 = .ok (.iinc 4 (-1), 3) := by decide +kernel
theorem dX7_owed_55 : decode cX7_owed 55 = .ok (.goto (-30), 3) := by decide +kernel
theorem dX7_owed_58 : decode cX7_owed 58 = .ok (.iload_n 1, 1) := by decide +kernel
theorem dX7_owed_59 : decode cX7_owed 59 = .ok (.ifCond .eq 7, 3) := by decide +kernel
theorem dX7_owed_62 : decode cX7_owed 62 = .ok (.iload_n 3, 1) := by decide +kernel
theorem dX7_owed_63 : decode cX7_owed 63 = .ok (.goto 4, 3) := by decide +kernel
theorem dX7_owed_66 : decode cX7_owed 66 = .ok (.iload_n 2, 1) := by decide +kernel
theorem dX7_owed_67 : decode cX7_owed 67 = .ok (.ireturn, 1) := by decide +kernel
theorem dX7_odds_0 : decode cX7_odds 0 = .ok (.aload_n 0, 1) := by decide +kernel
theorem dX7_odds_1 : decode cX7_odds 1 = .ok (.getfield 14, 3) := by decide +kernel
theorem dX7_odds_4 : decode cX7_odds 4 = .ok (.iload_n 1, 1) := by decide +kernel
theorem dX7_odds_5 : decode cX7_odds 5 = .ok (.invokevirtual 77, 3) := by decide +kernel
theorem dX7_odds_8 : decode cX7_odds 8 = .ok (.ifCond .eq 22, 3) := by decide +kernel
theorem dX7_odds_11 : decode cX7_odds 11 = .ok (.iload_n 2, 1) := by decide +kernel
theorem dX7_odds_12 : decode cX7_odds 12 = .ok (.iconst 1, 1) := by decide +kernel
theorem dX7_odds_13 : decode cX7_odds 13 = .ok (.invokestatic 65, 3) := by decide +kernel
theorem dX7_odds_16 : decode cX7_odds 16 = .ok (.ifCond .eq 14, 3) := by decide +kernel
theorem dX7_odds_19 : decode cX7_odds 19 = .ok (.aload_n 0, 1) := by decide +kernel
theorem dX7_odds_20 : decode cX7_odds 20 = .ok (.getfield 14, 3) := by decide +kernel
theorem dX7_odds_23 : decode cX7_odds 23 = .ok (.iload_n 1, 1) := by decide +kernel
theorem dX7_odds_24 : decode cX7_odds 24 = .ok (.invokevirtual 98, 3) := by decide +kernel
theorem dX7_odds_27 : decode cX7_odds 27 = .ok (.ifCond .eq 7, 3) := by decide +kernel
theorem dX7_odds_30 : decode cX7_odds 30 = .ok (.ldc2_w 214, 3) := by decide +kernel
theorem dX7_odds_33 : decode cX7_odds 33 = .ok (.lreturn, 1) := by decide +kernel
theorem dX7_odds_34 : decode cX7_odds 34 = .ok (.aload_n 0, 1) := by decide +kernel
theorem dX7_odds_35 : decode cX7_odds 35 = .ok (.getfield 47, 3) := by decide +kernel
theorem dX7_odds_38 : decode cX7_odds 38 = .ok (.aload_n 0, 1) := by decide +kernel
theorem dX7_odds_39 : decode cX7_odds 39 = .ok (.getfield 14, 3) := by decide +kernel
theorem dX7_odds_42 : decode cX7_odds 42 = .ok (.aload_n 0, 1) := by decide +kernel
theorem dX7_odds_43 : decode cX7_odds 43 = .ok (.invokevirtual 108, 3) := by decide +kernel
theorem dX7_odds_46 : decode cX7_odds 46 = .ok (.invokevirtual 112, 3) := by decide +kernel
theorem dX7_odds_49 : decode cX7_odds 49 = .ok (.aload_n 0, 1) := by decide +kernel
theorem dX7_odds_50 : decode cX7_odds 50 = .ok (.getfield 47, 3) := by decide +kernel
theorem dX7_odds_53 : decode cX7_odds 53 = .ok (.aload_n 0, 1) := by decide +kernel
theorem dX7_odds_54 : decode cX7_odds 54 = .ok (.getfield 14, 3) := by decide +kernel
theorem dX7_odds_57 : decode cX7_odds 57 = .ok (.iload_n 1, 1) := by decide +kernel
theorem dX7_odds_58 : decode cX7_odds 58 = .ok (.aload_n 0, 1) := by decide +kernel
theorem dX7_odds_59 : decode cX7_odds 59 = .ok (.getfield 14, 3) := by decide +kernel
theorem dX7_odds_62 : decode cX7_odds 62 = .ok (.getfield 116, 3) := by decide +kernel
theorem dX7_odds_65 : decode cX7_odds 65 = .ok (.aload_n 0, 1) := by decide +kernel
theorem dX7_odds_66 : decode cX7_odds 66 = .ok (.getfield 14, 3) := by decide +kernel
theorem dX7_odds_69 : decode cX7_odds 69 = .ok (.getfield 119, 3) := by decide +kernel
theorem dX7_odds_72 : decode cX7_odds 72 = .ok (.invokevirtual 122, 3) := by decide +kernel
theorem dX7_odds_75 : decode cX7_odds 75 = .ok (.istore_n 3, 1) := by decide +kernel
theorem dX7_odds_76 : decode cX7_odds 76 = .ok (.iconst 0, 1) := by decide +kernel
theorem dX7_odds_77 : decode cX7_odds 77 = .ok (.istore 4, 2) := by decide +kernel
theorem dX7_odds_79 : decode cX7_odds 79 = .ok (.iconst 0, 1) := by decide +kernel
theorem dX7_odds_80 : decode cX7_odds 80 = .ok (.istore 5, 2) := by decide +kernel
theorem dX7_odds_82 : decode cX7_odds 82 = .ok (.iconst 0, 1) := by decide +kernel
theorem dX7_odds_83 : decode cX7_odds 83 = .ok (.istore 6, 2) := by decide +kernel
theorem dX7_odds_85 : decode cX7_odds 85 = .ok (.iload 6, 2) := by decide +kernel
theorem dX7_odds_87 : decode cX7_odds 87 = .ok (.aload_n 0, 1) := by decide +kernel
theorem dX7_odds_88 : decode cX7_odds 88 = .ok (.getfield 14, 3) := by decide +kernel
theorem dX7_odds_91 : decode cX7_odds 91 = .ok (.getfield 69, 3) := by decide +kernel
theorem dX7_odds_94 : decode cX7_odds 94 = .ok (.if_icmp .ge 79, 3) := by decide +kernel
theorem dX7_odds_97 : decode cX7_odds 97 = .ok (.iload 6, 2) := by decide +kernel
theorem dX7_odds_99 : decode cX7_odds 99 = .ok (.iload_n 1, 1) := by decide +kernel
theorem dX7_odds_100 : decode cX7_odds 100 = .ok (.if_icmp .eq 67, 3) := by decide +kernel
theorem dX7_odds_103 : decode cX7_odds 103 = .ok (.aload_n 0, 1) := by decide +kernel
theorem dX7_odds_104 : decode cX7_odds 104 = .ok (.getfield 14, 3) := by decide +kernel
theorem dX7_odds_107 : decode cX7_odds 107 = .ok (.iload 6, 2) := by decide +kernel
theorem dX7_odds_109 : decode cX7_odds 109 = .ok (.invokevirtual 98, 3) := by decide +kernel
theorem dX7_odds_112 : decode cX7_odds 112 = .ok (.ifCond .ne 55, 3) := by decide +kernel
theorem dX7_odds_115 : decode cX7_odds 115 = .ok (.iinc 4 1, 3) := by decide +kernel
theorem dX7_odds_118 : decode cX7_odds 118 = .ok (.aload_n 0, 1) := by decide +kernel
theorem dX7_odds_119 : decode cX7_odds 119 = .ok (.getfield 47, 3) := by decide +kernel
theorem dX7_odds_122 : decode cX7_odds 122 = .ok (.aload_n 0, 1) := by decide +kernel
theorem dX7_odds_123 : decode cX7_odds 123 = .ok (.getfield 14, 3) := by decide +kernel
theorem dX7_odds_126 : decode cX7_odds 126 = .ok (.iload_n 1, 1) := by decide +kernel
theorem dX7_odds_127 : decode cX7_odds 127 = .ok (.aload_n 0, 1) := by decide +kernel
theorem dX7_odds_128 : decode cX7_odds 128 = .ok (.getfield 14, 3) := by decide +kernel
theorem dX7_odds_131 : decode cX7_odds 131 = .ok (.getfield 116, 3) := by decide +kernel
theorem dX7_odds_134 : decode cX7_odds 134 = .ok (.aload_n 0, 1) := by decide +kernel
theorem dX7_odds_135 : decode cX7_odds 135 = .ok (.getfield 14, 3) := by decide +kernel
theorem dX7_odds_138 : decode cX7_odds 138 = .ok (.getfield 119, 3) := by decide +kernel
theorem dX7_odds_141 : decode cX7_odds 141 = .ok (.iconst 1, 1) := by decide +kernel
theorem dX7_odds_142 : decode cX7_odds 142 = .ok (.iload 6, 2) := by decide +kernel
theorem dX7_odds_144 : decode cX7_odds 144 = .ok (.ishl, 1) := by decide +kernel
theorem dX7_odds_145 : decode cX7_odds 145 = .ok (.ior, 1) := by decide +kernel
theorem dX7_odds_146 : decode cX7_odds 146 = .ok (.invokevirtual 122, 3) := by decide +kernel
theorem dX7_odds_149 : decode cX7_odds 149 = .ok (.istore 7, 2) := by decide +kernel
theorem dX7_odds_151 : decode cX7_odds 151 = .ok (.iload 5, 2) := by decide +kernel
theorem dX7_odds_153 : decode cX7_odds 153 = .ok (.iload 7, 2) := by decide +kernel
theorem dX7_odds_155 : decode cX7_odds 155 = .ok (.iload_n 3, 1) := by decide +kernel
theorem dX7_odds_156 : decode cX7_odds 156 = .ok (.if_icmp .le 7, 3) := by decide +kernel
theorem dX7_odds_159 : decode cX7_odds 159 = .ok (.iconst 1, 1) := by decide +kernel
theorem dX7_odds_160 : decode cX7_odds 160 = .ok (.goto 4, 3) := by decide +kernel
theorem dX7_odds_163 : decode cX7_odds 163 = .ok (.iconst 0, 1) := by decide +kernel
theorem dX7_odds_164 : decode cX7_odds 164 = .ok (.iadd, 1) := by decide +kernel
theorem dX7_odds_165 : decode cX7_odds 165 = .ok (.istore 5, 2) := by decide +kernel
theorem dX7_odds_167 : decode cX7_odds 167 = .ok (.iinc 6 1, 3) := by decide +kernel
theorem dX7_odds_170 : decode cX7_odds 170 = .ok (.goto (-85), 3) := by decide +kernel
theorem dX7_odds_173 : decode cX7_odds 173 = .ok (.iload 5, 2) := by decide +kernel
theorem dX7_odds_175 : decode cX7_odds 175 = .ok (.iload 4, 2) := by decide +kernel
theorem dX7_odds_177 : decode cX7_odds 177 = .ok (.iload_n 2, 1) := by decide +kernel
theorem dX7_odds_178 : decode cX7_odds 178 = .ok (.invokestatic 216, 3) := by decide +kernel
theorem dX7_odds_181 : decode cX7_odds 181 = .ok (.lreturn, 1) := by decide +kernel
theorem dX7_mean_0 : decode cX7_mean 0 = .ok (.iconst 0, 1) := by decide +kernel
theorem dX7_mean_1 : decode cX7_mean 1 = .ok (.istore_n 2, 1) := by decide +kernel
theorem dX7_mean_2 : decode cX7_mean 2 = .ok (.iconst 0, 1) := by decide +kernel
theorem dX7_mean_3 : decode cX7_mean 3 = .ok (.istore_n 3, 1) := by decide +kernel
theorem dX7_mean_4 : decode cX7_mean 4 = .ok (.iload_n 3, 1) := by decide +kernel
theorem dX7_mean_5 : decode cX7_mean 5 = .ok (.aload_n 0, 1) := by decide +kernel
theorem dX7_mean_6 : decode cX7_mean 6 = .ok (.getfield 14, 3) := by decide +kernel
theorem dX7_mean_9 : decode cX7_mean 9 = .ok (.getfield 69, 3) := by decide +kernel
theorem dX7_mean_12 : decode cX7_mean 12 = .ok (.if_icmp .ge 28, 3) := by decide +kernel
theorem dX7_mean_15 : decode cX7_mean 15 = .ok (.iload_n 2, 1) := by decide +kernel
theorem dX7_mean_16 : decode cX7_mean 16 = .ok (.aload_n 0, 1) := by decide +kernel
theorem dX7_mean_17 : decode cX7_mean 17 = .ok (.getfield 14, 3) := by decide +kernel
theorem dX7_mean_20 : decode cX7_mean 20 = .ok (.iload_n 3, 1) := by decide +kernel
theorem dX7_mean_21 : decode cX7_mean 21 = .ok (.invokevirtual 98, 3) := by decide +kernel
theorem dX7_mean_24 : decode cX7_mean 24 = .ok (.ifCond .eq 7, 3) := by decide +kernel
theorem dX7_mean_27 : decode cX7_mean 27 = .ok (.iconst 0, 1) := by decide +kernel
theorem dX7_mean_28 : decode cX7_mean 28 = .ok (.goto 4, 3) := by decide +kernel
theorem dX7_mean_31 : decode cX7_mean 31 = .ok (.iconst 1, 1) := by decide +kernel
theorem dX7_mean_32 : decode cX7_mean 32 = .ok (.iadd, 1) := by decide +kernel
theorem dX7_mean_33 : decode cX7_mean 33 = .ok (.istore_n 2, 1) := by decide +kernel
theorem dX7_mean_34 : decode cX7_mean 34 = .ok (.iinc 3 1, 3) := by decide +kernel
theorem dX7_mean_37 : decode cX7_mean 37 = .ok (.goto (-33), 3) := by decide +kernel
theorem dX7_mean_40 : decode cX7_mean 40 = .ok (.iload_n 1, 1) := by decide +kernel
theorem dX7_mean_41 : decode cX7_mean 41 = .ok (.iconst 1, 1) := by decide +kernel
theorem dX7_mean_42 : decode cX7_mean 42 = .ok (.invokestatic 65, 3) := by decide +kernel
theorem dX7_mean_45 : decode cX7_mean 45 = .ok (.ifCond .eq 18, 3) := by decide +kernel
theorem dX7_mean_48 : decode cX7_mean 48 = .ok (.aload_n 0, 1) := by decide +kernel
theorem dX7_mean_49 : decode cX7_mean 49 = .ok (.getfield 14, 3) := by decide +kernel
theorem dX7_mean_52 : decode cX7_mean 52 = .ok (.getfield 116, 3) := by decide +kernel
theorem dX7_mean_55 : decode cX7_mean 55 = .ok (.iload_n 2, 1) := by decide +kernel
theorem dX7_mean_56 : decode cX7_mean 56 = .ok (.iload_n 1, 1) := by decide +kernel
theorem dX7_mean_57 : decode cX7_mean 57 = .ok (.invokestatic 216, 3) := by decide +kernel
theorem dX7_mean_60 : decode cX7_mean 60 = .ok (.goto 6, 3) := by decide +kernel
theorem dX7_mean_63 : decode cX7_mean 63 = .ok (.ldc2_w 214, 3) := by decide +kernel
theorem dX7_mean_66 : decode cX7_mean 66 = .ok (.lreturn, 1) := by decide +kernel
theorem dX7_fraction_0 : decode cX7_fraction 0 = .ok (.iload_n 1, 1) := by decide +kernel
theorem dX7_fraction_1 : decode cX7_fraction 1 = .ok (.istore_n 3, 1) := by decide +kernel
theorem dX7_fraction_2 : decode cX7_fraction 2 = .ok (.iload_n 3, 1) := by decide +kernel
theorem dX7_fraction_3 : decode cX7_fraction 3 = .ok (.ifCond .le 37, 3) := by decide +kernel
theorem dX7_fraction_6 : decode cX7_fraction 6 = .ok (.iload_n 0, 1) := by decide +kernel
theorem dX7_fraction_7 : decode cX7_fraction 7 = .ok (.iload_n 3, 1) := by decide +kernel
theorem dX7_fraction_8 : decode cX7_fraction 8 = .ok (.irem, 1) := by decide +kernel
theorem dX7_fraction_9 : decode cX7_fraction 9 = .ok (.ifCond .ne 25, 3) := by decide +kernel
theorem dX7_fraction_12 : decode cX7_fraction 12 = .ok (.iload_n 1, 1) := by decide +kernel
theorem dX7_fraction_13 : decode cX7_fraction 13 = .ok (.iload_n 3, 1) := by decide +kernel
theorem dX7_fraction_14 : decode cX7_fraction 14 = .ok (.irem, 1) := by decide +kernel
theorem dX7_fraction_15 : decode cX7_fraction 15 = .ok (.ifCond .ne 19, 3) := by decide +kernel
theorem dX7_fraction_18 : decode cX7_fraction 18 = .ok (.iload_n 2, 1) := by decide +kernel
theorem dX7_fraction_19 : decode cX7_fraction 19 = .ok (.ifCond .ne 10, 3) := by decide +kernel
theorem dX7_fraction_22 : decode cX7_fraction 22 = .ok (.iload_n 0, 1) := by decide +kernel
theorem dX7_fraction_23 : decode cX7_fraction 23 = .ok (.iload_n 3, 1) := by decide +kernel
theorem dX7_fraction_24 : decode cX7_fraction 24 = .ok (.idiv, 1) := by decide +kernel
theorem dX7_fraction_25 : decode cX7_fraction 25 = .ok (.i2l, 1) := by decide +kernel
theorem dX7_fraction_26 : decode cX7_fraction 26 = .ok (.goto 7, 3) := by decide +kernel
theorem dX7_fraction_29 : decode cX7_fraction 29 = .ok (.iload_n 1, 1) := by decide +kernel
theorem dX7_fraction_30 : decode cX7_fraction 30 = .ok (.iload_n 3, 1) := by decide +kernel
theorem dX7_fraction_31 : decode cX7_fraction 31 = .ok (.idiv, 1) := by decide +kernel
theorem dX7_fraction_32 : decode cX7_fraction 32 = .ok (.i2l, 1) := by decide +kernel
theorem dX7_fraction_33 : decode cX7_fraction 33 = .ok (.lreturn, 1) := by decide +kernel
theorem dX7_fraction_34 : decode cX7_fraction 34 = .ok (.iinc 3 (-1), 3) := by decide +kernel
theorem dX7_fraction_37 : decode cX7_fraction 37 = .ok (.goto (-35), 3) := by decide +kernel
theorem dX7_fraction_40 : decode cX7_fraction 40 = .ok (.ldc2_w 214, 3) := by decide +kernel
theorem dX7_fraction_43 : decode cX7_fraction 43 = .ok (.lreturn, 1) := by decide +kernel
theorem dX7_plan_0 : decode cX7_plan 0 = .ok (.iload_n 1, 1) := by decide +kernel
theorem dX7_plan_1 : decode cX7_plan 1 = .ok (.iconst (-1), 1) := by decide +kernel
theorem dX7_plan_2 : decode cX7_plan 2 = .ok (.if_icmp .ne 14, 3) := by decide +kernel
theorem dX7_plan_5 : decode cX7_plan 5 = .ok (.aload_n 0, 1) := by decide +kernel
theorem dX7_plan_6 : decode cX7_plan 6 = .ok (.getfield 14, 3) := by decide +kernel
theorem dX7_plan_9 : decode cX7_plan 9 = .ok (.getfield 220, 3) := by decide +kernel
theorem dX7_plan_12 : decode cX7_plan 12 = .ok (.invokevirtual 203, 3) := by decide +kernel
theorem dX7_plan_15 : decode cX7_plan 15 = .ok (.ireturn, 1) := by decide +kernel
theorem dX7_plan_16 : decode cX7_plan 16 = .ok (.iload_n 1, 1) := by decide +kernel
theorem dX7_plan_17 : decode cX7_plan 17 = .ok (.iconst 3, 1) := by decide +kernel
theorem dX7_plan_18 : decode cX7_plan 18 = .ok (.invokestatic 65, 3) := by decide +kernel
theorem dX7_plan_21 : decode cX7_plan 21 = .ok (.ifCond .eq 18, 3) := by decide +kernel
theorem dX7_plan_24 : decode cX7_plan 24 = .ok (.iload_n 1, 1) := by decide +kernel
theorem dX7_plan_25 : decode cX7_plan 25 = .ok (.ifCond .eq 16, 3) := by decide +kernel
theorem dX7_plan_28 : decode cX7_plan 28 = .ok (.aload_n 0, 1) := by decide +kernel
theorem dX7_plan_29 : decode cX7_plan 29 = .ok (.getfield 14, 3) := by decide +kernel
theorem dX7_plan_32 : decode cX7_plan 32 = .ok (.iload_n 2, 1) := by decide +kernel
theorem dX7_plan_33 : decode cX7_plan 33 = .ok (.invokevirtual 77, 3) := by decide +kernel
theorem dX7_plan_36 : decode cX7_plan 36 = .ok (.ifCond .ne 5, 3) := by decide +kernel
theorem dX7_plan_39 : decode cX7_plan 39 = .ok (.iconst (-1), 1) := by decide +kernel
theorem dX7_plan_40 : decode cX7_plan 40 = .ok (.ireturn, 1) := by decide +kernel
theorem dX7_plan_41 : decode cX7_plan 41 = .ok (.aload_n 0, 1) := by decide +kernel
theorem dX7_plan_42 : decode cX7_plan 42 = .ok (.getfield 14, 3) := by decide +kernel
theorem dX7_plan_45 : decode cX7_plan 45 = .ok (.getfield 220, 3) := by decide +kernel
theorem dX7_plan_48 : decode cX7_plan 48 = .ok (.iload_n 1, 1) := by decide +kernel
theorem dX7_plan_49 : decode cX7_plan 49 = .ok (.iload_n 2, 1) := by decide +kernel
theorem dX7_plan_50 : decode cX7_plan 50 = .ok (.invokevirtual 208, 3) := by decide +kernel
theorem dX7_plan_53 : decode cX7_plan 53 = .ok (.ireturn, 1) := by decide +kernel
theorem dX7_ends_0 : decode cX7_ends 0 = .ok (.iload_n 1, 1) := by decide +kernel
theorem dX7_ends_1 : decode cX7_ends 1 = .ok (.iconst 1, 1) := by decide +kernel
theorem dX7_ends_2 : decode cX7_ends 2 = .ok (.invokestatic 65, 3) := by decide +kernel
theorem dX7_ends_5 : decode cX7_ends 5 = .ok (.ifCond .ne 5, 3) := by decide +kernel
theorem dX7_ends_8 : decode cX7_ends 8 = .ok (.iconst (-1), 1) := by decide +kernel
theorem dX7_ends_9 : decode cX7_ends 9 = .ok (.ireturn, 1) := by decide +kernel
theorem dX7_ends_10 : decode cX7_ends 10 = .ok (.aload_n 0, 1) := by decide +kernel
theorem dX7_ends_11 : decode cX7_ends 11 = .ok (.getfield 20, 3) := by decide +kernel
theorem dX7_ends_14 : decode cX7_ends 14 = .ok (.aload_n 0, 1) := by decide +kernel
theorem dX7_ends_15 : decode cX7_ends 15 = .ok (.getfield 14, 3) := by decide +kernel
theorem dX7_ends_18 : decode cX7_ends 18 = .ok (.invokevirtual 191, 3) := by decide +kernel
theorem dX7_ends_21 : decode cX7_ends 21 = .ok (.iconst 0, 1) := by decide +kernel
theorem dX7_ends_22 : decode cX7_ends 22 = .ok (.istore_n 2, 1) := by decide +kernel
theorem dX7_ends_23 : decode cX7_ends 23 = .ok (.iload_n 2, 1) := by decide +kernel
theorem dX7_ends_24 : decode cX7_ends 24 = .ok (.aload_n 0, 1) := by decide +kernel
theorem dX7_ends_25 : decode cX7_ends 25 = .ok (.getfield 14, 3) := by decide +kernel
theorem dX7_ends_28 : decode cX7_ends 28 = .ok (.getfield 220, 3) := by decide +kernel
theorem dX7_ends_31 : decode cX7_ends 31 = .ok (.getfield 223, 3) := by decide +kernel
theorem dX7_ends_34 : decode cX7_ends 34 = .ok (.if_icmp .ge 41, 3) := by decide +kernel
theorem dX7_ends_37 : decode cX7_ends 37 = .ok (.aload_n 0, 1) := by decide +kernel
theorem dX7_ends_38 : decode cX7_ends 38 = .ok (.aload_n 0, 1) := by decide +kernel
theorem dX7_ends_39 : decode cX7_ends 39 = .ok (.getfield 14, 3) := by decide +kernel
theorem dX7_ends_42 : decode cX7_ends 42 = .ok (.getfield 220, 3) := by decide +kernel
theorem dX7_ends_45 : decode cX7_ends 45 = .ok (.getfield 224, 3) := by decide +kernel
theorem dX7_ends_48 : decode cX7_ends 48 = .ok (.iload_n 2, 1) := by decide +kernel
theorem dX7_ends_49 : decode cX7_ends 49 = .ok (.invokestatic 85, 3) := by decide +kernel
theorem dX7_ends_52 : decode cX7_ends 52 = .ok (.aload_n 0, 1) := by decide +kernel
theorem dX7_ends_53 : decode cX7_ends 53 = .ok (.getfield 14, 3) := by decide +kernel
theorem dX7_ends_56 : decode cX7_ends 56 = .ok (.getfield 220, 3) := by decide +kernel
theorem dX7_ends_59 : decode cX7_ends 59 = .ok (.getfield 227, 3) := by decide +kernel
theorem dX7_ends_62 : decode cX7_ends 62 = .ok (.iload_n 2, 1) := by decide +kernel
theorem dX7_ends_63 : decode cX7_ends 63 = .ok (.invokestatic 85, 3) := by decide +kernel
theorem dX7_ends_66 : decode cX7_ends 66 = .ok (.invokevirtual 230, 3) := by decide +kernel
theorem dX7_ends_69 : decode cX7_ends 69 = .ok (.iinc 2 1, 3) := by decide +kernel
theorem dX7_ends_72 : decode cX7_ends 72 = .ok (.goto (-49), 3) := by decide +kernel
theorem dX7_ends_75 : decode cX7_ends 75 = .ok (.iconst 0, 1) := by decide +kernel
theorem dX7_ends_76 : decode cX7_ends 76 = .ok (.istore_n 2, 1) := by decide +kernel
theorem dX7_ends_77 : decode cX7_ends 77 = .ok (.iconst 0, 1) := by decide +kernel
theorem dX7_ends_78 : decode cX7_ends 78 = .ok (.istore_n 3, 1) := by decide +kernel
theorem dX7_ends_79 : decode cX7_ends 79 = .ok (.iload_n 3, 1) := by decide +kernel
theorem dX7_ends_80 : decode cX7_ends 80 = .ok (.aload_n 0, 1) := by decide +kernel
theorem dX7_ends_81 : decode cX7_ends 81 = .ok (.getfield 20, 3) := by decide +kernel
theorem dX7_ends_84 : decode cX7_ends 84 = .ok (.getfield 69, 3) := by decide +kernel
theorem dX7_ends_87 : decode cX7_ends 87 = .ok (.if_icmp .ge 37, 3) := by decide +kernel
theorem dX7_ends_90 : decode cX7_ends 90 = .ok (.iload_n 2, 1) := by decide +kernel
theorem dX7_ends_91 : decode cX7_ends 91 = .ok (.iload_n 1, 1) := by decide +kernel
theorem dX7_ends_92 : decode cX7_ends 92 = .ok (.ifCond .ne 13, 3) := by decide +kernel
theorem dX7_ends_95 : decode cX7_ends 95 = .ok (.aload_n 0, 1) := by decide +kernel
theorem dX7_ends_96 : decode cX7_ends 96 = .ok (.getfield 20, 3) := by decide +kernel
theorem dX7_ends_99 : decode cX7_ends 99 = .ok (.getfield 101, 3) := by decide +kernel
theorem dX7_ends_102 : decode cX7_ends 102 = .ok (.goto 10, 3) := by decide +kernel
theorem dX7_ends_105 : decode cX7_ends 105 = .ok (.aload_n 0, 1) := by decide +kernel
theorem dX7_ends_106 : decode cX7_ends 106 = .ok (.getfield 20, 3) := by decide +kernel
theorem dX7_ends_109 : decode cX7_ends 109 = .ok (.getfield 95, 3) := by decide +kernel
theorem dX7_ends_112 : decode cX7_ends 112 = .ok (.iload_n 3, 1) := by decide +kernel
theorem dX7_ends_113 : decode cX7_ends 113 = .ok (.invokestatic 85, 3) := by decide +kernel
theorem dX7_ends_116 : decode cX7_ends 116 = .ok (.iadd, 1) := by decide +kernel
theorem dX7_ends_117 : decode cX7_ends 117 = .ok (.istore_n 2, 1) := by decide +kernel
theorem dX7_ends_118 : decode cX7_ends 118 = .ok (.iinc 3 1, 3) := by decide +kernel
theorem dX7_ends_121 : decode cX7_ends 121 = .ok (.goto (-42), 3) := by decide +kernel
theorem dX7_ends_124 : decode cX7_ends 124 = .ok (.iload_n 2, 1) := by decide +kernel
theorem dX7_ends_125 : decode cX7_ends 125 = .ok (.ireturn, 1) := by decide +kernel
theorem dX7_goStep_0 : decode cX7_goStep 0 = .ok (.iload_n 1, 1) := by decide +kernel
theorem dX7_goStep_1 : decode cX7_goStep 1 = .ok (.tableswitch 66 1 3 #[27, 39, 51], 27) := by decide +kernel
theorem dX7_goStep_28 : decode cX7_goStep 28 = .ok (.aload_n 0, 1) := by decide +kernel
theorem dX7_goStep_29 : decode cX7_goStep 29 = .ok (.getfield 20, 3) := by decide +kernel
theorem dX7_goStep_32 : decode cX7_goStep 32 = .ok (.iload_n 2, 1) := by decide +kernel
theorem dX7_goStep_33 : decode cX7_goStep 33 = .ok (.iconst 1, 1) := by decide +kernel
theorem dX7_goStep_34 : decode cX7_goStep 34 = .ok (.invokevirtual 141, 3) := by decide +kernel
theorem dX7_goStep_37 : decode cX7_goStep 37 = .ok (.goto 48, 3) := by decide +kernel
theorem dX7_goStep_40 : decode cX7_goStep 40 = .ok (.aload_n 0, 1) := by decide +kernel
theorem dX7_goStep_41 : decode cX7_goStep 41 = .ok (.getfield 20, 3) := by decide +kernel
theorem dX7_goStep_44 : decode cX7_goStep 44 = .ok (.iload_n 2, 1) := by decide +kernel
theorem dX7_goStep_45 : decode cX7_goStep 45 = .ok (.iconst 0, 1) := by decide +kernel
theorem dX7_goStep_46 : decode cX7_goStep 46 = .ok (.invokevirtual 141, 3) := by decide +kernel
theorem dX7_goStep_49 : decode cX7_goStep 49 = .ok (.goto 36, 3) := by decide +kernel
theorem dX7_goStep_52 : decode cX7_goStep 52 = .ok (.aload_n 0, 1) := by decide +kernel
theorem dX7_goStep_53 : decode cX7_goStep 53 = .ok (.getfield 20, 3) := by decide +kernel
theorem dX7_goStep_56 : decode cX7_goStep 56 = .ok (.getfield 95, 3) := by decide +kernel
theorem dX7_goStep_59 : decode cX7_goStep 59 = .ok (.iload_n 2, 1) := by decide +kernel
theorem dX7_goStep_60 : decode cX7_goStep 60 = .ok (.iconst 0, 1) := by decide +kernel
theorem dX7_goStep_61 : decode cX7_goStep 61 = .ok (.invokestatic 137, 3) := by decide +kernel
theorem dX7_goStep_64 : decode cX7_goStep 64 = .ok (.goto 21, 3) := by decide +kernel
theorem dX7_goStep_67 : decode cX7_goStep 67 = .ok (.aload_n 0, 1) := by decide +kernel
theorem dX7_goStep_68 : decode cX7_goStep 68 = .ok (.getfield 47, 3) := by decide +kernel
theorem dX7_goStep_71 : decode cX7_goStep 71 = .ok (.aload_n 0, 1) := by decide +kernel
theorem dX7_goStep_72 : decode cX7_goStep 72 = .ok (.getfield 20, 3) := by decide +kernel
theorem dX7_goStep_75 : decode cX7_goStep 75 = .ok (.aload_n 0, 1) := by decide +kernel
theorem dX7_goStep_76 : decode cX7_goStep 76 = .ok (.invokevirtual 108, 3) := by decide +kernel
theorem dX7_goStep_79 : decode cX7_goStep 79 = .ok (.ldc 195, 2) := by decide +kernel
theorem dX7_goStep_81 : decode cX7_goStep 81 = .ok (.invokevirtual 187, 3) := by decide +kernel
theorem dX7_goStep_84 : decode cX7_goStep 84 = .ok (.pop, 1) := by decide +kernel
theorem dX7_goStep_85 : decode cX7_goStep 85 = .ok (.return_, 1) := by decide +kernel
theorem dX7_book_0 : decode cX7_book 0 = .ok (.iload_n 1, 1) := by decide +kernel
theorem dX7_book_1 : decode cX7_book 1 = .ok (.iconst (-1), 1) := by decide +kernel
theorem dX7_book_2 : decode cX7_book 2 = .ok (.if_icmp .ne 14, 3) := by decide +kernel
theorem dX7_book_5 : decode cX7_book 5 = .ok (.aload_n 0, 1) := by decide +kernel
theorem dX7_book_6 : decode cX7_book 6 = .ok (.getfield 14, 3) := by decide +kernel
theorem dX7_book_9 : decode cX7_book 9 = .ok (.getfield 234, 3) := by decide +kernel
theorem dX7_book_12 : decode cX7_book 12 = .ok (.invokevirtual 203, 3) := by decide +kernel
theorem dX7_book_15 : decode cX7_book 15 = .ok (.ireturn, 1) := by decide +kernel
theorem dX7_book_16 : decode cX7_book 16 = .ok (.aload_n 0, 1) := by decide +kernel
theorem dX7_book_17 : decode cX7_book 17 = .ok (.getfield 14, 3) := by decide +kernel
theorem dX7_book_20 : decode cX7_book 20 = .ok (.iload_n 1, 1) := by decide +kernel
theorem dX7_book_21 : decode cX7_book 21 = .ok (.invokevirtual 77, 3) := by decide +kernel
theorem dX7_book_24 : decode cX7_book 24 = .ok (.ifCond .eq 12, 3) := by decide +kernel
theorem dX7_book_27 : decode cX7_book 27 = .ok (.iload_n 2, 1) := by decide +kernel
theorem dX7_book_28 : decode cX7_book 28 = .ok (.bipush 9, 2) := by decide +kernel
theorem dX7_book_30 : decode cX7_book 30 = .ok (.invokestatic 65, 3) := by decide +kernel
theorem dX7_book_33 : decode cX7_book 33 = .ok (.ifCond .ne 5, 3) := by decide +kernel
theorem dX7_book_36 : decode cX7_book 36 = .ok (.iconst (-1), 1) := by decide +kernel
theorem dX7_book_37 : decode cX7_book 37 = .ok (.ireturn, 1) := by decide +kernel
theorem dX7_book_38 : decode cX7_book 38 = .ok (.aload_n 0, 1) := by decide +kernel
theorem dX7_book_39 : decode cX7_book 39 = .ok (.getfield 14, 3) := by decide +kernel
theorem dX7_book_42 : decode cX7_book 42 = .ok (.getfield 234, 3) := by decide +kernel
theorem dX7_book_45 : decode cX7_book 45 = .ok (.iload_n 1, 1) := by decide +kernel
theorem dX7_book_46 : decode cX7_book 46 = .ok (.iload_n 2, 1) := by decide +kernel
theorem dX7_book_47 : decode cX7_book 47 = .ok (.invokevirtual 208, 3) := by decide +kernel
theorem dX7_book_50 : decode cX7_book 50 = .ok (.ireturn, 1) := by decide +kernel
theorem dX7_looked_0 : decode cX7_looked 0 = .ok (.iconst 0, 1) := by decide +kernel
theorem dX7_looked_1 : decode cX7_looked 1 = .ok (.istore_n 1, 1) := by decide +kernel
theorem dX7_looked_2 : decode cX7_looked 2 = .ok (.iload_n 1, 1) := by decide +kernel
theorem dX7_looked_3 : decode cX7_looked 3 = .ok (.aload_n 0, 1) := by decide +kernel
theorem dX7_looked_4 : decode cX7_looked 4 = .ok (.getfield 14, 3) := by decide +kernel
theorem dX7_looked_7 : decode cX7_looked 7 = .ok (.getfield 234, 3) := by decide +kernel
theorem dX7_looked_10 : decode cX7_looked 10 = .ok (.getfield 223, 3) := by decide +kernel
theorem dX7_looked_13 : decode cX7_looked 13 = .ok (.if_icmp .ge 52, 3) := by decide +kernel
theorem dX7_looked_16 : decode cX7_looked 16 = .ok (.aload_n 0, 1) := by decide +kernel
theorem dX7_looked_17 : decode cX7_looked 17 = .ok (.getfield 14, 3) := by decide +kernel
theorem dX7_looked_20 : decode cX7_looked 20 = .ok (.getfield 95, 3) := by decide +kernel
theorem dX7_looked_23 : decode cX7_looked 23 = .ok (.aload_n 0, 1) := by decide +kernel
theorem dX7_looked_24 : decode cX7_looked 24 = .ok (.getfield 14, 3) := by decide +kernel
theorem dX7_looked_27 : decode cX7_looked 27 = .ok (.getfield 234, 3) := by decide +kernel
theorem dX7_looked_30 : decode cX7_looked 30 = .ok (.getfield 224, 3) := by decide +kernel
theorem dX7_looked_33 : decode cX7_looked 33 = .ok (.iload_n 1, 1) := by decide +kernel
theorem dX7_looked_34 : decode cX7_looked 34 = .ok (.invokestatic 85, 3) := by decide +kernel
theorem dX7_looked_37 : decode cX7_looked 37 = .ok (.invokestatic 85, 3) := by decide +kernel
theorem dX7_looked_40 : decode cX7_looked 40 = .ok (.aload_n 0, 1) := by decide +kernel
theorem dX7_looked_41 : decode cX7_looked 41 = .ok (.getfield 14, 3) := by decide +kernel
theorem dX7_looked_44 : decode cX7_looked 44 = .ok (.getfield 234, 3) := by decide +kernel
theorem dX7_looked_47 : decode cX7_looked 47 = .ok (.getfield 227, 3) := by decide +kernel
theorem dX7_looked_50 : decode cX7_looked 50 = .ok (.iload_n 1, 1) := by decide +kernel
theorem dX7_looked_51 : decode cX7_looked 51 = .ok (.invokestatic 85, 3) := by decide +kernel
theorem dX7_looked_54 : decode cX7_looked 54 = .ok (.if_icmp .eq 5, 3) := by decide +kernel
theorem dX7_looked_57 : decode cX7_looked 57 = .ok (.iload_n 1, 1) := by decide +kernel
theorem dX7_looked_58 : decode cX7_looked 58 = .ok (.ireturn, 1) := by decide +kernel
theorem dX7_looked_59 : decode cX7_looked 59 = .ok (.iinc 1 1, 3) := by decide +kernel
theorem dX7_looked_62 : decode cX7_looked 62 = .ok (.goto (-60), 3) := by decide +kernel
theorem dX7_looked_65 : decode cX7_looked 65 = .ok (.bipush (-5), 2) := by decide +kernel
theorem dX7_looked_67 : decode cX7_looked 67 = .ok (.ireturn, 1) := by decide +kernel
theorem dX7_judge_0 : decode cX7_judge 0 = .ok (.aload_n 0, 1) := by decide +kernel
theorem dX7_judge_1 : decode cX7_judge 1 = .ok (.iload_n 1, 1) := by decide +kernel
theorem dX7_judge_2 : decode cX7_judge 2 = .ok (.invokevirtual 237, 3) := by decide +kernel
theorem dX7_judge_5 : decode cX7_judge 5 = .ok (.astore_n 3, 1) := by decide +kernel
theorem dX7_judge_6 : decode cX7_judge 6 = .ok (.aload_n 3, 1) := by decide +kernel
theorem dX7_judge_7 : decode cX7_judge 7 = .ok (.ifnonnull 5, 3) := by decide +kernel
theorem dX7_judge_10 : decode cX7_judge 10 = .ok (.iconst (-1), 1) := by decide +kernel
theorem dX7_judge_11 : decode cX7_judge 11 = .ok (.ireturn, 1) := by decide +kernel
theorem dX7_judge_12 : decode cX7_judge 12 = .ok (.aload_n 3, 1) := by decide +kernel
theorem dX7_judge_13 : decode cX7_judge 13 = .ok (.invokevirtual 241, 3) := by decide +kernel
theorem dX7_judge_16 : decode cX7_judge 16 = .ok (.ifCond .eq 14, 3) := by decide +kernel
theorem dX7_judge_19 : decode cX7_judge 19 = .ok (.aload_n 3, 1) := by decide +kernel
theorem dX7_judge_20 : decode cX7_judge 20 = .ok (.getfield 245, 3) := by decide +kernel
theorem dX7_judge_23 : decode cX7_judge 23 = .ok (.iconst 1, 1) := by decide +kernel
theorem dX7_judge_24 : decode cX7_judge 24 = .ok (.if_icmp .eq 6, 3) := by decide +kernel
theorem dX7_judge_27 : decode cX7_judge 27 = .ok (.bipush (-12), 2) := by decide +kernel
theorem dX7_judge_29 : decode cX7_judge 29 = .ok (.ireturn, 1) := by decide +kernel
theorem dX7_judge_30 : decode cX7_judge 30 = .ok (.aload_n 0, 1) := by decide +kernel
theorem dX7_judge_31 : decode cX7_judge 31 = .ok (.getfield 14, 3) := by decide +kernel
theorem dX7_judge_34 : decode cX7_judge 34 = .ok (.getfield 69, 3) := by decide +kernel
theorem dX7_judge_37 : decode cX7_judge 37 = .ok (.ifCond .ne 6, 3) := by decide +kernel
theorem dX7_judge_40 : decode cX7_judge 40 = .ok (.bipush (-5), 2) := by decide +kernel
theorem dX7_judge_42 : decode cX7_judge 42 = .ok (.ireturn, 1) := by decide +kernel
theorem dX7_judge_43 : decode cX7_judge 43 = .ok (.aload_n 0, 1) := by decide +kernel
theorem dX7_judge_44 : decode cX7_judge 44 = .ok (.getfield 47, 3) := by decide +kernel
theorem dX7_judge_47 : decode cX7_judge 47 = .ok (.aload_n 0, 1) := by decide +kernel
theorem dX7_judge_48 : decode cX7_judge 48 = .ok (.getfield 14, 3) := by decide +kernel
theorem dX7_judge_51 : decode cX7_judge 51 = .ok (.aload_n 0, 1) := by decide +kernel
theorem dX7_judge_52 : decode cX7_judge 52 = .ok (.invokevirtual 108, 3) := by decide +kernel
theorem dX7_judge_55 : decode cX7_judge 55 = .ok (.invokevirtual 112, 3) := by decide +kernel
theorem dX7_judge_58 : decode cX7_judge 58 = .ok (.iconst 0, 1) := by decide +kernel
theorem dX7_judge_59 : decode cX7_judge 59 = .ok (.istore 4, 2) := by decide +kernel
theorem dX7_judge_61 : decode cX7_judge 61 = .ok (.iload 4, 2) := by decide +kernel
theorem dX7_judge_63 : decode cX7_judge 63 = .ok (.aload_n 0, 1) := by decide +kernel
theorem dX7_judge_64 : decode cX7_judge 64 = .ok (.getfield 14, 3) := by decide +kernel
theorem dX7_judge_67 : decode cX7_judge 67 = .ok (.getfield 69, 3) := by decide +kernel
theorem dX7_judge_70 : decode cX7_judge 70 = .ok (.if_icmp .ge 73, 3) := by decide +kernel
theorem dX7_judge_73 : decode cX7_judge 73 = .ok (.iload_n 2, 1) := by decide +kernel
theorem dX7_judge_74 : decode cX7_judge 74 = .ok (.ifCond .lt 14, 3) := by decide +kernel
theorem dX7_judge_77 : decode cX7_judge 77 = .ok (.iload_n 2, 1) := by decide +kernel
theorem dX7_judge_78 : decode cX7_judge 78 = .ok (.aload_n 3, 1) := by decide +kernel
theorem dX7_judge_79 : decode cX7_judge 79 = .ok (.getfield 248, 3) := by decide +kernel
theorem dX7_judge_82 : decode cX7_judge 82 = .ok (.iload 4, 2) := by decide +kernel
theorem dX7_judge_84 : decode cX7_judge 84 = .ok (.isub, 1) := by decide +kernel
theorem dX7_judge_85 : decode cX7_judge 85 = .ok (.if_icmp .lt 9, 3) := by decide +kernel
theorem dX7_judge_88 : decode cX7_judge 88 = .ok (.bipush 100, 2) := by decide +kernel
theorem dX7_judge_90 : decode cX7_judge 90 = .ok (.iload 4, 2) := by decide +kernel
theorem dX7_judge_92 : decode cX7_judge 92 = .ok (.iadd, 1) := by decide +kernel
theorem dX7_judge_93 : decode cX7_judge 93 = .ok (.ireturn, 1) := by decide +kernel
theorem dX7_judge_94 : decode cX7_judge 94 = .ok (.aload_n 3, 1) := by decide +kernel
theorem dX7_judge_95 : decode cX7_judge 95 = .ok (.iload_n 2, 1) := by decide +kernel
theorem dX7_judge_96 : decode cX7_judge 96 = .ok (.iload 4, 2) := by decide +kernel
theorem dX7_judge_98 : decode cX7_judge 98 = .ok (.iadd, 1) := by decide +kernel
theorem dX7_judge_99 : decode cX7_judge 99 = .ok (.invokevirtual 251, 3) := by decide +kernel
theorem dX7_judge_102 : decode cX7_judge 102 = .ok (.aload_n 0, 1) := by decide +kernel
theorem dX7_judge_103 : decode cX7_judge 103 = .ok (.getfield 47, 3) := by decide +kernel
theorem dX7_judge_106 : decode cX7_judge 106 = .ok (.aload_n 0, 1) := by decide +kernel
theorem dX7_judge_107 : decode cX7_judge 107 = .ok (.getfield 14, 3) := by decide +kernel
theorem dX7_judge_110 : decode cX7_judge 110 = .ok (.iload 4, 2) := by decide +kernel
theorem dX7_judge_112 : decode cX7_judge 112 = .ok (.aload_n 0, 1) := by decide +kernel
theorem dX7_judge_113 : decode cX7_judge 113 = .ok (.getfield 14, 3) := by decide +kernel
theorem dX7_judge_116 : decode cX7_judge 116 = .ok (.getfield 116, 3) := by decide +kernel
theorem dX7_judge_119 : decode cX7_judge 119 = .ok (.aload_n 0, 1) := by decide +kernel
theorem dX7_judge_120 : decode cX7_judge 120 = .ok (.getfield 14, 3) := by decide +kernel
theorem dX7_judge_123 : decode cX7_judge 123 = .ok (.getfield 119, 3) := by decide +kernel
theorem dX7_judge_126 : decode cX7_judge 126 = .ok (.invokevirtual 122, 3) := by decide +kernel
theorem dX7_judge_129 : decode cX7_judge 129 = .ok (.i2l, 1) := by decide +kernel
theorem dX7_judge_130 : decode cX7_judge 130 = .ok (.lcmp, 1) := by decide +kernel
theorem dX7_judge_131 : decode cX7_judge 131 = .ok (.ifCond .eq 6, 3) := by decide +kernel
theorem dX7_judge_134 : decode cX7_judge 134 = .ok (.iload 4, 2) := by decide +kernel
theorem dX7_judge_136 : decode cX7_judge 136 = .ok (.ireturn, 1) := by decide +kernel
theorem dX7_judge_137 : decode cX7_judge 137 = .ok (.iinc 4 1, 3) := by decide +kernel
theorem dX7_judge_140 : decode cX7_judge 140 = .ok (.goto (-79), 3) := by decide +kernel
theorem dX7_judge_143 : decode cX7_judge 143 = .ok (.bipush (-5), 2) := by decide +kernel
theorem dX7_judge_145 : decode cX7_judge 145 = .ok (.ireturn, 1) := by decide +kernel
theorem dX7_image_0 : decode cX7_image 0 = .ok (.aload_n 0, 1) := by decide +kernel
theorem dX7_image_1 : decode cX7_image 1 = .ok (.getfield 23, 3) := by decide +kernel
theorem dX7_image_4 : decode cX7_image 4 = .ok (.aload_n 0, 1) := by decide +kernel
theorem dX7_image_5 : decode cX7_image 5 = .ok (.getfield 14, 3) := by decide +kernel
theorem dX7_image_8 : decode cX7_image 8 = .ok (.invokevirtual 191, 3) := by decide +kernel
theorem dX7_image_11 : decode cX7_image 11 = .ok (.aload_n 0, 1) := by decide +kernel
theorem dX7_image_12 : decode cX7_image 12 = .ok (.iconst 1, 1) := by decide +kernel
theorem dX7_image_13 : decode cX7_image 13 = .ok (.putfield 255, 3) := by decide +kernel
theorem dX7_image_16 : decode cX7_image 16 = .ok (.aload_n 0, 1) := by decide +kernel
theorem dX7_image_17 : decode cX7_image 17 = .ok (.getfield 14, 3) := by decide +kernel
theorem dX7_image_20 : decode cX7_image 20 = .ok (.getfield 69, 3) := by decide +kernel
theorem dX7_image_23 : decode cX7_image 23 = .ok (.ireturn, 1) := by decide +kernel
theorem dX7_undo_0 : decode cX7_undo 0 = .ok (.aload_n 0, 1) := by decide +kernel
theorem dX7_undo_1 : decode cX7_undo 1 = .ok (.getfield 255, 3) := by decide +kernel
theorem dX7_undo_4 : decode cX7_undo 4 = .ok (.ifCond .ne 6, 3) := by decide +kernel
theorem dX7_undo_7 : decode cX7_undo 7 = .ok (.bipush (-3), 2) := by decide +kernel
theorem dX7_undo_9 : decode cX7_undo 9 = .ok (.ireturn, 1) := by decide +kernel
theorem dX7_undo_10 : decode cX7_undo 10 = .ok (.aload_n 0, 1) := by decide +kernel
theorem dX7_undo_11 : decode cX7_undo 11 = .ok (.getfield 14, 3) := by decide +kernel
theorem dX7_undo_14 : decode cX7_undo 14 = .ok (.aload_n 0, 1) := by decide +kernel
theorem dX7_undo_15 : decode cX7_undo 15 = .ok (.getfield 23, 3) := by decide +kernel
theorem dX7_undo_18 : decode cX7_undo 18 = .ok (.invokevirtual 191, 3) := by decide +kernel
theorem dX7_undo_21 : decode cX7_undo 21 = .ok (.aload_n 0, 1) := by decide +kernel
theorem dX7_undo_22 : decode cX7_undo 22 = .ok (.getfield 14, 3) := by decide +kernel
theorem dX7_undo_25 : decode cX7_undo 25 = .ok (.getfield 69, 3) := by decide +kernel
theorem dX7_undo_28 : decode cX7_undo 28 = .ok (.ireturn, 1) := by decide +kernel
theorem dX7_act_0 : decode cX7_act 0 = .ok (.aload_n 0, 1) := by decide +kernel
theorem dX7_act_1 : decode cX7_act 1 = .ok (.getfield 54, 3) := by decide +kernel
theorem dX7_act_4 : decode cX7_act 4 = .ok (.invokevirtual 259, 3) := by decide +kernel
theorem dX7_act_7 : decode cX7_act 7 = .ok (.aload_n 0, 1) := by decide +kernel
theorem dX7_act_8 : decode cX7_act 8 = .ok (.getfield 14, 3) := by decide +kernel
theorem dX7_act_11 : decode cX7_act 11 = .ok (.iload_n 1, 1) := by decide +kernel
theorem dX7_act_12 : decode cX7_act 12 = .ok (.invokevirtual 77, 3) := by decide +kernel
theorem dX7_act_15 : decode cX7_act 15 = .ok (.ifCond .eq 11, 3) := by decide +kernel
theorem dX7_act_18 : decode cX7_act 18 = .ok (.iload_n 2, 1) := by decide +kernel
theorem dX7_act_19 : decode cX7_act 19 = .ok (.iconst 2, 1) := by decide +kernel
theorem dX7_act_20 : decode cX7_act 20 = .ok (.invokestatic 65, 3) := by decide +kernel
theorem dX7_act_23 : decode cX7_act 23 = .ok (.ifCond .ne 5, 3) := by decide +kernel
theorem dX7_act_26 : decode cX7_act 26 = .ok (.iconst 0, 1) := by decide +kernel
theorem dX7_act_27 : decode cX7_act 27 = .ok (.ireturn, 1) := by decide +kernel
theorem dX7_act_28 : decode cX7_act 28 = .ok (.aload_n 0, 1) := by decide +kernel
theorem dX7_act_29 : decode cX7_act 29 = .ok (.getfield 54, 3) := by decide +kernel
theorem dX7_act_32 : decode cX7_act 32 = .ok (.aload_n 0, 1) := by decide +kernel
theorem dX7_act_33 : decode cX7_act 33 = .ok (.getfield 14, 3) := by decide +kernel
theorem dX7_act_36 : decode cX7_act 36 = .ok (.iload_n 1, 1) := by decide +kernel
theorem dX7_act_37 : decode cX7_act 37 = .ok (.iload_n 2, 1) := by decide +kernel
theorem dX7_act_38 : decode cX7_act 38 = .ok (.iload_n 3, 1) := by decide +kernel
theorem dX7_act_39 : decode cX7_act 39 = .ok (.invokevirtual 262, 3) := by decide +kernel
theorem dX7_act_42 : decode cX7_act 42 = .ok (.ireturn, 1) := by decide +kernel
theorem dX7_trace_0 : decode cX7_trace 0 = .ok (.iload_n 1, 1) := by decide +kernel
theorem dX7_trace_1 : decode cX7_trace 1 = .ok (.ifCond .lt 39, 3) := by decide +kernel
theorem dX7_trace_4 : decode cX7_trace 4 = .ok (.iload_n 1, 1) := by decide +kernel
theorem dX7_trace_5 : decode cX7_trace 5 = .ok (.aload_n 0, 1) := by decide +kernel
theorem dX7_trace_6 : decode cX7_trace 6 = .ok (.getfield 54, 3) := by decide +kernel
theorem dX7_trace_9 : decode cX7_trace 9 = .ok (.getfield 265, 3) := by decide +kernel
theorem dX7_trace_12 : decode cX7_trace 12 = .ok (.aload_n 0, 1) := by decide +kernel
theorem dX7_trace_13 : decode cX7_trace 13 = .ok (.getfield 54, 3) := by decide +kernel
theorem dX7_trace_16 : decode cX7_trace 16 = .ok (.getfield 268, 3) := by decide +kernel
theorem dX7_trace_19 : decode cX7_trace 19 = .ok (.arraylength, 1) := by decide +kernel
theorem dX7_trace_20 : decode cX7_trace 20 = .ok (.invokestatic 271, 3) := by decide +kernel
theorem dX7_trace_23 : decode cX7_trace 23 = .ok (.if_icmp .ge 17, 3) := by decide +kernel
theorem dX7_trace_26 : decode cX7_trace 26 = .ok (.aload_n 0, 1) := by decide +kernel
theorem dX7_trace_27 : decode cX7_trace 27 = .ok (.getfield 54, 3) := by decide +kernel
theorem dX7_trace_30 : decode cX7_trace 30 = .ok (.getfield 268, 3) := by decide +kernel
theorem dX7_trace_33 : decode cX7_trace 33 = .ok (.iload_n 1, 1) := by decide +kernel
theorem dX7_trace_34 : decode cX7_trace 34 = .ok (.invokestatic 85, 3) := by decide +kernel
theorem dX7_trace_37 : decode cX7_trace 37 = .ok (.goto 4, 3) := by decide +kernel
theorem dX7_trace_40 : decode cX7_trace 40 = .ok (.iconst (-1), 1) := by decide +kernel
theorem dX7_trace_41 : decode cX7_trace 41 = .ok (.ireturn, 1) := by decide +kernel
theorem dX7_taken_0 : decode cX7_taken 0 = .ok (.iload_n 2, 1) := by decide +kernel
theorem dX7_taken_1 : decode cX7_taken 1 = .ok (.bipush 6, 2) := by decide +kernel
theorem dX7_taken_3 : decode cX7_taken 3 = .ok (.invokestatic 65, 3) := by decide +kernel
theorem dX7_taken_6 : decode cX7_taken 6 = .ok (.ifCond .ne 6, 3) := by decide +kernel
theorem dX7_taken_9 : decode cX7_taken 9 = .ok (.bipush (-2), 2) := by decide +kernel
theorem dX7_taken_11 : decode cX7_taken 11 = .ok (.ireturn, 1) := by decide +kernel
theorem dX7_taken_12 : decode cX7_taken 12 = .ok (.aload_n 0, 1) := by decide +kernel
theorem dX7_taken_13 : decode cX7_taken 13 = .ok (.getfield 14, 3) := by decide +kernel
theorem dX7_taken_16 : decode cX7_taken 16 = .ok (.iload_n 1, 1) := by decide +kernel
theorem dX7_taken_17 : decode cX7_taken 17 = .ok (.invokevirtual 77, 3) := by decide +kernel
theorem dX7_taken_20 : decode cX7_taken 20 = .ok (.ifCond .ne 6, 3) := by decide +kernel
theorem dX7_taken_23 : decode cX7_taken 23 = .ok (.bipush (-11), 2) := by decide +kernel
theorem dX7_taken_25 : decode cX7_taken 25 = .ok (.ireturn, 1) := by decide +kernel
theorem dX7_taken_26 : decode cX7_taken 26 = .ok (.aload_n 0, 1) := by decide +kernel
theorem dX7_taken_27 : decode cX7_taken 27 = .ok (.getfield 14, 3) := by decide +kernel
theorem dX7_taken_30 : decode cX7_taken 30 = .ok (.getfield 81, 3) := by decide +kernel
theorem dX7_taken_33 : decode cX7_taken 33 = .ok (.iload_n 1, 1) := by decide +kernel
theorem dX7_taken_34 : decode cX7_taken 34 = .ok (.invokestatic 85, 3) := by decide +kernel
theorem dX7_taken_37 : decode cX7_taken 37 = .ok (.istore_n 3, 1) := by decide +kernel
theorem dX7_taken_38 : decode cX7_taken 38 = .ok (.iload_n 3, 1) := by decide +kernel
theorem dX7_taken_39 : decode cX7_taken 39 = .ok (.istore 4, 2) := by decide +kernel
theorem dX7_taken_41 : decode cX7_taken 41 = .ok (.iconst 0, 1) := by decide +kernel
theorem dX7_taken_42 : decode cX7_taken 42 = .ok (.istore 5, 2) := by decide +kernel
theorem dX7_taken_44 : decode cX7_taken 44 = .ok (.iload 5, 2) := by decide +kernel
theorem dX7_taken_46 : decode cX7_taken 46 = .ok (.getstatic 276, 3) := by decide +kernel
theorem dX7_taken_49 : decode cX7_taken 49 = .ok (.arraylength, 1) := by decide +kernel
theorem dX7_taken_50 : decode cX7_taken 50 = .ok (.if_icmp .ge 32, 3) := by decide +kernel
theorem dX7_taken_53 : decode cX7_taken 53 = .ok (.iload 4, 2) := by decide +kernel
theorem dX7_taken_55 : decode cX7_taken 55 = .ok (.ifCond .lt 27, 3) := by decide +kernel
theorem dX7_taken_58 : decode cX7_taken 58 = .ok (.iload 4, 2) := by decide +kernel
theorem dX7_taken_60 : decode cX7_taken 60 = .ok (.iload_n 2, 1) := by decide +kernel
theorem dX7_taken_61 : decode cX7_taken 61 = .ok (.if_icmp .ne 5, 3) := by decide +kernel
theorem dX7_taken_64 : decode cX7_taken 64 = .ok (.iload_n 3, 1) := by decide +kernel
theorem dX7_taken_65 : decode cX7_taken 65 = .ok (.ireturn, 1) := by decide +kernel
theorem dX7_taken_66 : decode cX7_taken 66 = .ok (.getstatic 276, 3) := by decide +kernel
theorem dX7_taken_69 : decode cX7_taken 69 = .ok (.iload 4, 2) := by decide +kernel
theorem dX7_taken_71 : decode cX7_taken 71 = .ok (.invokestatic 85, 3) := by decide +kernel
theorem dX7_taken_74 : decode cX7_taken 74 = .ok (.istore 4, 2) := by decide +kernel
theorem dX7_taken_76 : decode cX7_taken 76 = .ok (.iinc 5 1, 3) := by decide +kernel
theorem dX7_taken_79 : decode cX7_taken 79 = .ok (.goto (-35), 3) := by decide +kernel
theorem dX7_taken_82 : decode cX7_taken 82 = .ok (.bipush (-12), 2) := by decide +kernel
theorem dX7_taken_84 : decode cX7_taken 84 = .ok (.ireturn, 1) := by decide +kernel
theorem dX7_count_0 : decode cX7_count 0 = .ok (.iload_n 1, 1) := by decide +kernel
theorem dX7_count_1 : decode cX7_count 1 = .ok (.tableswitch 105 0 6 #[43, 51, 56, 67, 78, 89, 97], 43) := by decide +kernel
theorem dX7_count_44 : decode cX7_count 44 = .ok (.aload_n 0, 1) := by decide +kernel
theorem dX7_count_45 : decode cX7_count 45 = .ok (.getfield 14, 3) := by decide +kernel
theorem dX7_count_48 : decode cX7_count 48 = .ok (.getfield 69, 3) := by decide +kernel
theorem dX7_count_51 : decode cX7_count 51 = .ok (.ireturn, 1) := by decide +kernel
theorem dX7_count_52 : decode cX7_count 52 = .ok (.aload_n 0, 1) := by decide +kernel
theorem dX7_count_53 : decode cX7_count 53 = .ok (.getfield 152, 3) := by decide +kernel
theorem dX7_count_56 : decode cX7_count 56 = .ok (.ireturn, 1) := by decide +kernel
theorem dX7_count_57 : decode cX7_count 57 = .ok (.aload_n 0, 1) := by decide +kernel
theorem dX7_count_58 : decode cX7_count 58 = .ok (.getfield 14, 3) := by decide +kernel
theorem dX7_count_61 : decode cX7_count 61 = .ok (.getfield 199, 3) := by decide +kernel
theorem dX7_count_64 : decode cX7_count 64 = .ok (.getfield 223, 3) := by decide +kernel
theorem dX7_count_67 : decode cX7_count 67 = .ok (.ireturn, 1) := by decide +kernel
theorem dX7_count_68 : decode cX7_count 68 = .ok (.aload_n 0, 1) := by decide +kernel
theorem dX7_count_69 : decode cX7_count 69 = .ok (.getfield 14, 3) := by decide +kernel
theorem dX7_count_72 : decode cX7_count 72 = .ok (.getfield 220, 3) := by decide +kernel
theorem dX7_count_75 : decode cX7_count 75 = .ok (.getfield 223, 3) := by decide +kernel
theorem dX7_count_78 : decode cX7_count 78 = .ok (.ireturn, 1) := by decide +kernel
theorem dX7_count_79 : decode cX7_count 79 = .ok (.aload_n 0, 1) := by decide +kernel
theorem dX7_count_80 : decode cX7_count 80 = .ok (.getfield 14, 3) := by decide +kernel
theorem dX7_count_83 : decode cX7_count 83 = .ok (.getfield 234, 3) := by decide +kernel
theorem dX7_count_86 : decode cX7_count 86 = .ok (.getfield 223, 3) := by decide +kernel
theorem dX7_count_89 : decode cX7_count 89 = .ok (.ireturn, 1) := by decide +kernel
theorem dX7_count_90 : decode cX7_count 90 = .ok (.aload_n 0, 1) := by decide +kernel
theorem dX7_count_91 : decode cX7_count 91 = .ok (.getfield 29, 3) := by decide +kernel
theorem dX7_count_94 : decode cX7_count 94 = .ok (.getfield 279, 3) := by decide +kernel
theorem dX7_count_97 : decode cX7_count 97 = .ok (.ireturn, 1) := by decide +kernel
theorem dX7_count_98 : decode cX7_count 98 = .ok (.aload_n 0, 1) := by decide +kernel
theorem dX7_count_99 : decode cX7_count 99 = .ok (.getfield 54, 3) := by decide +kernel
theorem dX7_count_102 : decode cX7_count 102 = .ok (.getfield 265, 3) := by decide +kernel
theorem dX7_count_105 : decode cX7_count 105 = .ok (.ireturn, 1) := by decide +kernel
theorem dX7_count_106 : decode cX7_count 106 = .ok (.bipush (-2), 2) := by decide +kernel
theorem dX7_count_108 : decode cX7_count 108 = .ok (.ireturn, 1) := by decide +kernel
theorem dX7_tape_0 : decode cX7_tape 0 = .ok (.aload_n 0, 1) := by decide +kernel
theorem dX7_tape_1 : decode cX7_tape 1 = .ok (.iload_n 1, 1) := by decide +kernel
theorem dX7_tape_2 : decode cX7_tape 2 = .ok (.invokevirtual 237, 3) := by decide +kernel
theorem dX7_tape_5 : decode cX7_tape 5 = .ok (.astore 4, 2) := by decide +kernel
theorem dX7_tape_7 : decode cX7_tape 7 = .ok (.aload 4, 2) := by decide +kernel
theorem dX7_tape_9 : decode cX7_tape 9 = .ok (.ifnonnull 5, 3) := by decide +kernel
theorem dX7_tape_12 : decode cX7_tape 12 = .ok (.iconst (-1), 1) := by decide +kernel
theorem dX7_tape_13 : decode cX7_tape 13 = .ok (.ireturn, 1) := by decide +kernel
theorem dX7_tape_14 : decode cX7_tape 14 = .ok (.iload_n 2, 1) := by decide +kernel
theorem dX7_tape_15 : decode cX7_tape 15 = .ok (.iconst (-1), 1) := by decide +kernel
theorem dX7_tape_16 : decode cX7_tape 16 = .ok (.if_icmp .ne 12, 3) := by decide +kernel
theorem dX7_tape_19 : decode cX7_tape 19 = .ok (.aload 4, 2) := by decide +kernel
theorem dX7_tape_21 : decode cX7_tape 21 = .ok (.iconst (-1), 1) := by decide +kernel
theorem dX7_tape_22 : decode cX7_tape 22 = .ok (.iconst 0, 1) := by decide +kernel
theorem dX7_tape_23 : decode cX7_tape 23 = .ok (.invokevirtual 280, 3) := by decide +kernel
theorem dX7_tape_26 : decode cX7_tape 26 = .ok (.iconst 1, 1) := by decide +kernel
theorem dX7_tape_27 : decode cX7_tape 27 = .ok (.ireturn, 1) := by decide +kernel
theorem dX7_tape_28 : decode cX7_tape 28 = .ok (.iload_n 2, 1) := by decide +kernel
theorem dX7_tape_29 : decode cX7_tape 29 = .ok (.iconst 4, 1) := by decide +kernel
theorem dX7_tape_30 : decode cX7_tape 30 = .ok (.invokestatic 65, 3) := by decide +kernel
theorem dX7_tape_33 : decode cX7_tape 33 = .ok (.ifCond .eq 9, 3) := by decide +kernel
theorem dX7_tape_36 : decode cX7_tape 36 = .ok (.iload_n 3, 1) := by decide +kernel
theorem dX7_tape_37 : decode cX7_tape 37 = .ok (.bipush 60, 2) := by decide +kernel
theorem dX7_tape_39 : decode cX7_tape 39 = .ok (.if_icmp .le 6, 3) := by decide +kernel
theorem dX7_tape_42 : decode cX7_tape 42 = .ok (.bipush (-2), 2) := by decide +kernel
theorem dX7_tape_44 : decode cX7_tape 44 = .ok (.ireturn, 1) := by decide +kernel
theorem dX7_tape_45 : decode cX7_tape 45 = .ok (.iload_n 3, 1) := by decide +kernel
theorem dX7_tape_46 : decode cX7_tape 46 = .ok (.ifCond .ge 6, 3) := by decide +kernel
theorem dX7_tape_49 : decode cX7_tape 49 = .ok (.bipush (-14), 2) := by decide +kernel
theorem dX7_tape_51 : decode cX7_tape 51 = .ok (.ireturn, 1) := by decide +kernel
theorem dX7_tape_52 : decode cX7_tape 52 = .ok (.aload 4, 2) := by decide +kernel
theorem dX7_tape_54 : decode cX7_tape 54 = .ok (.iload_n 2, 1) := by decide +kernel
theorem dX7_tape_55 : decode cX7_tape 55 = .ok (.iload_n 3, 1) := by decide +kernel
theorem dX7_tape_56 : decode cX7_tape 56 = .ok (.invokevirtual 280, 3) := by decide +kernel
theorem dX7_tape_59 : decode cX7_tape 59 = .ok (.iconst 1, 1) := by decide +kernel
theorem dX7_tape_60 : decode cX7_tape 60 = .ok (.ireturn, 1) := by decide +kernel
theorem dX7_item_0 : decode cX7_item 0 = .ok (.aload_n 0, 1) := by decide +kernel
theorem dX7_item_1 : decode cX7_item 1 = .ok (.iload_n 1, 1) := by decide +kernel
theorem dX7_item_2 : decode cX7_item 2 = .ok (.invokevirtual 237, 3) := by decide +kernel
theorem dX7_item_5 : decode cX7_item 5 = .ok (.astore 5, 2) := by decide +kernel
theorem dX7_item_7 : decode cX7_item 7 = .ok (.aload 5, 2) := by decide +kernel
theorem dX7_item_9 : decode cX7_item 9 = .ok (.ifnonnull 5, 3) := by decide +kernel
theorem dX7_item_12 : decode cX7_item 12 = .ok (.iconst (-1), 1) := by decide +kernel
theorem dX7_item_13 : decode cX7_item 13 = .ok (.ireturn, 1) := by decide +kernel
theorem dX7_item_14 : decode cX7_item 14 = .ok (.aload 5, 2) := by decide +kernel
theorem dX7_item_16 : decode cX7_item 16 = .ok (.invokevirtual 241, 3) := by decide +kernel
theorem dX7_item_19 : decode cX7_item 19 = .ok (.ifCond .ne 6, 3) := by decide +kernel
theorem dX7_item_22 : decode cX7_item 22 = .ok (.bipush (-11), 2) := by decide +kernel
theorem dX7_item_24 : decode cX7_item 24 = .ok (.ireturn, 1) := by decide +kernel
theorem dX7_item_25 : decode cX7_item 25 = .ok (.aload 5, 2) := by decide +kernel
theorem dX7_item_27 : decode cX7_item 27 = .ok (.iload_n 2, 1) := by decide +kernel
theorem dX7_item_28 : decode cX7_item 28 = .ok (.lload_n 3, 1) := by decide +kernel
theorem dX7_item_29 : decode cX7_item 29 = .ok (.invokevirtual 283, 3) := by decide +kernel
theorem dX7_item_32 : decode cX7_item 32 = .ok (.ifCond .eq 7, 3) := by decide +kernel
theorem dX7_item_35 : decode cX7_item 35 = .ok (.iconst 1, 1) := by decide +kernel
theorem dX7_item_36 : decode cX7_item 36 = .ok (.goto 5, 3) := by decide +kernel
theorem dX7_item_39 : decode cX7_item 39 = .ok (.bipush (-13), 2) := by decide +kernel
theorem dX7_item_41 : decode cX7_item 41 = .ok (.ireturn, 1) := by decide +kernel
theorem dX7_read_0 : decode cX7_read 0 = .ok (.aload_n 0, 1) := by decide +kernel
theorem dX7_read_1 : decode cX7_read 1 = .ok (.iload_n 1, 1) := by decide +kernel
theorem dX7_read_2 : decode cX7_read 2 = .ok (.invokevirtual 237, 3) := by decide +kernel
theorem dX7_read_5 : decode cX7_read 5 = .ok (.astore_n 3, 1) := by decide +kernel
theorem dX7_read_6 : decode cX7_read 6 = .ok (.aload_n 3, 1) := by decide +kernel
theorem dX7_read_7 : decode cX7_read 7 = .ok (.ifnonnull 9, 3) := by decide +kernel
theorem dX7_read_10 : decode cX7_read 10 = .ok (.ldc2_w 214, 3) := by decide +kernel
theorem dX7_read_13 : decode cX7_read 13 = .ok (.goto 8, 3) := by decide +kernel
theorem dX7_read_16 : decode cX7_read 16 = .ok (.aload_n 3, 1) := by decide +kernel
theorem dX7_read_17 : decode cX7_read 17 = .ok (.iload_n 2, 1) := by decide +kernel
theorem dX7_read_18 : decode cX7_read 18 = .ok (.invokevirtual 251, 3) := by decide +kernel
theorem dX7_read_21 : decode cX7_read 21 = .ok (.lreturn, 1) := by decide +kernel
theorem dX7_shift_0 : decode cX7_shift 0 = .ok (.aload_n 0, 1) := by decide +kernel
theorem dX7_shift_1 : decode cX7_shift 1 = .ok (.iload_n 1, 1) := by decide +kernel
theorem dX7_shift_2 : decode cX7_shift 2 = .ok (.invokevirtual 237, 3) := by decide +kernel
theorem dX7_shift_5 : decode cX7_shift 5 = .ok (.astore 6, 2) := by decide +kernel
theorem dX7_shift_7 : decode cX7_shift 7 = .ok (.aload_n 0, 1) := by decide +kernel
theorem dX7_shift_8 : decode cX7_shift 8 = .ok (.iload_n 3, 1) := by decide +kernel
theorem dX7_shift_9 : decode cX7_shift 9 = .ok (.invokevirtual 237, 3) := by decide +kernel
theorem dX7_shift_12 : decode cX7_shift 12 = .ok (.astore 7, 2) := by decide +kernel
theorem dX7_shift_14 : decode cX7_shift 14 = .ok (.aload 6, 2) := by decide +kernel
theorem dX7_shift_16 : decode cX7_shift 16 = .ok (.ifnull 8, 3) := by decide +kernel
theorem dX7_shift_19 : decode cX7_shift 19 = .ok (.aload 7, 2) := by decide +kernel
theorem dX7_shift_21 : decode cX7_shift 21 = .ok (.ifnonnull 5, 3) := by decide +kernel
theorem dX7_shift_24 : decode cX7_shift 24 = .ok (.iconst (-1), 1) := by decide +kernel
theorem dX7_shift_25 : decode cX7_shift 25 = .ok (.ireturn, 1) := by decide +kernel
theorem dX7_shift_26 : decode cX7_shift 26 = .ok (.aload 6, 2) := by decide +kernel
theorem dX7_shift_28 : decode cX7_shift 28 = .ok (.invokevirtual 241, 3) := by decide +kernel
theorem dX7_shift_31 : decode cX7_shift 31 = .ok (.ifCond .eq 11, 3) := by decide +kernel
theorem dX7_shift_34 : decode cX7_shift 34 = .ok (.aload 7, 2) := by decide +kernel
theorem dX7_shift_36 : decode cX7_shift 36 = .ok (.invokevirtual 241, 3) := by decide +kernel
theorem dX7_shift_39 : decode cX7_shift 39 = .ok (.ifCond .ne 6, 3) := by decide +kernel
theorem dX7_shift_42 : decode cX7_shift 42 = .ok (.bipush (-11), 2) := by decide +kernel
theorem dX7_shift_44 : decode cX7_shift 44 = .ok (.ireturn, 1) := by decide +kernel
theorem dX7_shift_45 : decode cX7_shift 45 = .ok (.aload 6, 2) := by decide +kernel
theorem dX7_shift_47 : decode cX7_shift 47 = .ok (.getfield 245, 3) := by decide +kernel
theorem dX7_shift_50 : decode cX7_shift 50 = .ok (.aload 7, 2) := by decide +kernel
theorem dX7_shift_52 : decode cX7_shift 52 = .ok (.getfield 245, 3) := by decide +kernel
theorem dX7_shift_55 : decode cX7_shift 55 = .ok (.if_icmp .eq 6, 3) := by decide +kernel
theorem dX7_shift_58 : decode cX7_shift 58 = .ok (.bipush (-12), 2) := by decide +kernel
theorem dX7_shift_60 : decode cX7_shift 60 = .ok (.ireturn, 1) := by decide +kernel
theorem dX7_shift_61 : decode cX7_shift 61 = .ok (.aload 6, 2) := by decide +kernel
theorem dX7_shift_63 : decode cX7_shift 63 = .ok (.iload_n 2, 1) := by decide +kernel
theorem dX7_shift_64 : decode cX7_shift 64 = .ok (.iload 5, 2) := by decide +kernel
theorem dX7_shift_66 : decode cX7_shift 66 = .ok (.invokevirtual 287, 3) := by decide +kernel
theorem dX7_shift_69 : decode cX7_shift 69 = .ok (.ifCond .eq 15, 3) := by decide +kernel
theorem dX7_shift_72 : decode cX7_shift 72 = .ok (.aload 7, 2) := by decide +kernel
theorem dX7_shift_74 : decode cX7_shift 74 = .ok (.iload 4, 2) := by decide +kernel
theorem dX7_shift_76 : decode cX7_shift 76 = .ok (.iload 5, 2) := by decide +kernel
theorem dX7_shift_78 : decode cX7_shift 78 = .ok (.invokevirtual 287, 3) := by decide +kernel
theorem dX7_shift_81 : decode cX7_shift 81 = .ok (.ifCond .ne 6, 3) := by decide +kernel
theorem dX7_shift_84 : decode cX7_shift 84 = .ok (.bipush (-13), 2) := by decide +kernel
theorem dX7_shift_86 : decode cX7_shift 86 = .ok (.ireturn, 1) := by decide +kernel
theorem dX7_shift_87 : decode cX7_shift 87 = .ok (.aload 6, 2) := by decide +kernel
theorem dX7_shift_89 : decode cX7_shift 89 = .ok (.getfield 290, 3) := by decide +kernel
theorem dX7_shift_92 : decode cX7_shift 92 = .ok (.iload_n 2, 1) := by decide +kernel
theorem dX7_shift_93 : decode cX7_shift 93 = .ok (.aload 7, 2) := by decide +kernel
theorem dX7_shift_95 : decode cX7_shift 95 = .ok (.getfield 290, 3) := by decide +kernel
theorem dX7_shift_98 : decode cX7_shift 98 = .ok (.iload 4, 2) := by decide +kernel
theorem dX7_shift_100 : decode cX7_shift 100 = .ok (.iload 5, 2) := by decide +kernel
theorem dX7_shift_102 : decode cX7_shift 102 = .ok (.invokestatic 294, 3) := by decide +kernel
theorem dX7_shift_105 : decode cX7_shift 105 = .ok (.iload 5, 2) := by decide +kernel
theorem dX7_shift_107 : decode cX7_shift 107 = .ok (.ireturn, 1) := by decide +kernel
theorem dX7_tapeAt_0 : decode cX7_tapeAt 0 = .ok (.iload_n 1, 1) := by decide +kernel
theorem dX7_tapeAt_1 : decode cX7_tapeAt 1 = .ok (.ifCond .lt 21, 3) := by decide +kernel
theorem dX7_tapeAt_4 : decode cX7_tapeAt 4 = .ok (.iload_n 1, 1) := by decide +kernel
theorem dX7_tapeAt_5 : decode cX7_tapeAt 5 = .ok (.aload_n 0, 1) := by decide +kernel
theorem dX7_tapeAt_6 : decode cX7_tapeAt 6 = .ok (.getfield 60, 3) := by decide +kernel
theorem dX7_tapeAt_9 : decode cX7_tapeAt 9 = .ok (.arraylength, 1) := by decide +kernel
theorem dX7_tapeAt_10 : decode cX7_tapeAt 10 = .ok (.if_icmp .ge 12, 3) := by decide +kernel
theorem dX7_tapeAt_13 : decode cX7_tapeAt 13 = .ok (.aload_n 0, 1) := by decide +kernel
theorem dX7_tapeAt_14 : decode cX7_tapeAt 14 = .ok (.getfield 60, 3) := by decide +kernel
theorem dX7_tapeAt_17 : decode cX7_tapeAt 17 = .ok (.iload_n 1, 1) := by decide +kernel
theorem dX7_tapeAt_18 : decode cX7_tapeAt 18 = .ok (.aaload, 1) := by decide +kernel
theorem dX7_tapeAt_19 : decode cX7_tapeAt 19 = .ok (.goto 4, 3) := by decide +kernel
theorem dX7_tapeAt_22 : decode cX7_tapeAt 22 = .ok (.aconst_null, 1) := by decide +kernel
theorem dX7_tapeAt_23 : decode cX7_tapeAt 23 = .ok (.areturn, 1) := by decide +kernel
theorem dX7_within_0 : decode cX7_within 0 = .ok (.iload_n 0, 1) := by decide +kernel
theorem dX7_within_1 : decode cX7_within 1 = .ok (.ifCond .lt 12, 3) := by decide +kernel
theorem dX7_within_4 : decode cX7_within 4 = .ok (.iload_n 0, 1) := by decide +kernel
theorem dX7_within_5 : decode cX7_within 5 = .ok (.iload_n 1, 1) := by decide +kernel
theorem dX7_within_6 : decode cX7_within 6 = .ok (.if_icmp .gt 7, 3) := by decide +kernel
theorem dX7_within_9 : decode cX7_within 9 = .ok (.iconst 1, 1) := by decide +kernel
theorem dX7_within_10 : decode cX7_within 10 = .ok (.goto 4, 3) := by decide +kernel
theorem dX7_within_13 : decode cX7_within 13 = .ok (.iconst 0, 1) := by decide +kernel
theorem dX7_within_14 : decode cX7_within 14 = .ok (.ireturn, 1) := by decide +kernel
theorem dX7_at_0 : decode cX7_at 0 = .ok (.iload_n 1, 1) := by decide +kernel
theorem dX7_at_1 : decode cX7_at 1 = .ok (.ifCond .lt 15, 3) := by decide +kernel
theorem dX7_at_4 : decode cX7_at 4 = .ok (.iload_n 1, 1) := by decide +kernel
theorem dX7_at_5 : decode cX7_at 5 = .ok (.aload_n 0, 1) := by decide +kernel
theorem dX7_at_6 : decode cX7_at 6 = .ok (.arraylength, 1) := by decide +kernel
theorem dX7_at_7 : decode cX7_at 7 = .ok (.if_icmp .ge 9, 3) := by decide +kernel
theorem dX7_at_10 : decode cX7_at 10 = .ok (.aload_n 0, 1) := by decide +kernel
theorem dX7_at_11 : decode cX7_at 11 = .ok (.iload_n 1, 1) := by decide +kernel
theorem dX7_at_12 : decode cX7_at 12 = .ok (.iaload, 1) := by decide +kernel
theorem dX7_at_13 : decode cX7_at 13 = .ok (.goto 4, 3) := by decide +kernel
theorem dX7_at_16 : decode cX7_at 16 = .ok (.iconst 0, 1) := by decide +kernel
theorem dX7_at_17 : decode cX7_at 17 = .ok (.ireturn, 1) := by decide +kernel
theorem dX7_put_0 : decode cX7_put 0 = .ok (.iload_n 1, 1) := by decide +kernel
theorem dX7_put_1 : decode cX7_put 1 = .ok (.ifCond .lt 13, 3) := by decide +kernel
theorem dX7_put_4 : decode cX7_put 4 = .ok (.iload_n 1, 1) := by decide +kernel
theorem dX7_put_5 : decode cX7_put 5 = .ok (.aload_n 0, 1) := by decide +kernel
theorem dX7_put_6 : decode cX7_put 6 = .ok (.arraylength, 1) := by decide +kernel
theorem dX7_put_7 : decode cX7_put 7 = .ok (.if_icmp .ge 7, 3) := by decide +kernel
theorem dX7_put_10 : decode cX7_put 10 = .ok (.aload_n 0, 1) := by decide +kernel
theorem dX7_put_11 : decode cX7_put 11 = .ok (.iload_n 1, 1) := by decide +kernel
theorem dX7_put_12 : decode cX7_put 12 = .ok (.iload_n 2, 1) := by decide +kernel
theorem dX7_put_13 : decode cX7_put 13 = .ok (.iastore, 1) := by decide +kernel
theorem dX7_put_14 : decode cX7_put 14 = .ok (.return_, 1) := by decide +kernel
theorem dX7_copyRow_0 : decode cX7_copyRow 0 = .ok (.aload_n 0, 1) := by decide +kernel
theorem dX7_copyRow_1 : decode cX7_copyRow 1 = .ok (.iconst 0, 1) := by decide +kernel
theorem dX7_copyRow_2 : decode cX7_copyRow 2 = .ok (.aload_n 1, 1) := by decide +kernel
theorem dX7_copyRow_3 : decode cX7_copyRow 3 = .ok (.iconst 0, 1) := by decide +kernel
theorem dX7_copyRow_4 : decode cX7_copyRow 4 = .ok (.aload_n 0, 1) := by decide +kernel
theorem dX7_copyRow_5 : decode cX7_copyRow 5 = .ok (.arraylength, 1) := by decide +kernel
theorem dX7_copyRow_6 : decode cX7_copyRow 6 = .ok (.aload_n 1, 1) := by decide +kernel
theorem dX7_copyRow_7 : decode cX7_copyRow 7 = .ok (.arraylength, 1) := by decide +kernel
theorem dX7_copyRow_8 : decode cX7_copyRow 8 = .ok (.invokestatic 271, 3) := by decide +kernel
theorem dX7_copyRow_11 : decode cX7_copyRow 11 = .ok (.invokestatic 294, 3) := by decide +kernel
theorem dX7_copyRow_14 : decode cX7_copyRow 14 = .ok (.return_, 1) := by decide +kernel
theorem dX8_init_0 : decode cX8_init 0 = .ok (.aload_n 0, 1) := by decide +kernel
theorem dX8_init_1 : decode cX8_init 1 = .ok (.invokespecial 3, 3) := by decide +kernel
theorem dX8_init_4 : decode cX8_init 4 = .ok (.aload_n 0, 1) := by decide +kernel
theorem dX8_init_5 : decode cX8_init 5 = .ok (.invokestatic 9, 3) := by decide +kernel
theorem dX8_init_8 : decode cX8_init 8 = .ok (.putfield 15, 3) := by decide +kernel
theorem dX8_init_11 : decode cX8_init 11 = .ok (.aload_n 0, 1) := by decide +kernel
theorem dX8_init_12 : decode cX8_init 12 = .ok (.sipush 218, 3) := by decide +kernel
theorem dX8_init_15 : decode cX8_init 15 = .ok (.newarray .int, 2) := by decide +kernel
theorem dX8_init_17 : decode cX8_init 17 = .ok (.putfield 19, 3) := by decide +kernel
theorem dX8_init_20 : decode cX8_init 20 = .ok (.aload_n 0, 1) := by decide +kernel
theorem dX8_init_21 : decode cX8_init 21 = .ok (.bipush 109, 2) := by decide +kernel
theorem dX8_init_23 : decode cX8_init 23 = .ok (.newarray .int, 2) := by decide +kernel
theorem dX8_init_25 : decode cX8_init 25 = .ok (.putfield 22, 3) := by decide +kernel
theorem dX8_init_28 : decode cX8_init 28 = .ok (.aload_n 0, 1) := by decide +kernel
theorem dX8_init_29 : decode cX8_init 29 = .ok (.bipush 100, 2) := by decide +kernel
theorem dX8_init_31 : decode cX8_init 31 = .ok (.newarray .int, 2) := by decide +kernel
theorem dX8_init_33 : decode cX8_init 33 = .ok (.putfield 25, 3) := by decide +kernel
theorem dX8_init_36 : decode cX8_init 36 = .ok (.aload_n 0, 1) := by decide +kernel
theorem dX8_init_37 : decode cX8_init 37 = .ok (.sipush 600, 3) := by decide +kernel
theorem dX8_init_40 : decode cX8_init 40 = .ok (.newarray .int, 2) := by decide +kernel
theorem dX8_init_42 : decode cX8_init 42 = .ok (.putfield 28, 3) := by decide +kernel
theorem dX8_init_45 : decode cX8_init 45 = .ok (.aload_n 0, 1) := by decide +kernel
theorem dX8_init_46 : decode cX8_init 46 = .ok (.bipush 6, 2) := by decide +kernel
theorem dX8_init_48 : decode cX8_init 48 = .ok (.newarray .int, 2) := by decide +kernel
theorem dX8_init_50 : decode cX8_init 50 = .ok (.putfield 31, 3) := by decide +kernel
theorem dX8_init_53 : decode cX8_init 53 = .ok (.aload_n 0, 1) := by decide +kernel
theorem dX8_init_54 : decode cX8_init 54 = .ok (.bipush 100, 2) := by decide +kernel
theorem dX8_init_56 : decode cX8_init 56 = .ok (.newarray .int, 2) := by decide +kernel
theorem dX8_init_58 : decode cX8_init 58 = .ok (.putfield 34, 3) := by decide +kernel
theorem dX8_init_61 : decode cX8_init 61 = .ok (.aload_n 0, 1) := by decide +kernel
theorem dX8_init_62 : decode cX8_init 62 = .ok (.bipush 6, 2) := by decide +kernel
theorem dX8_init_64 : decode cX8_init 64 = .ok (.newarray .int, 2) := by decide +kernel
theorem dX8_init_66 : decode cX8_init 66 = .ok (.putfield 37, 3) := by decide +kernel
theorem dX8_init_69 : decode cX8_init 69 = .ok (.aload_n 0, 1) := by decide +kernel
theorem dX8_init_70 : decode cX8_init 70 = .ok (.bipush 6, 2) := by decide +kernel
theorem dX8_init_72 : decode cX8_init 72 = .ok (.newarray .char, 2) := by decide +kernel
theorem dX8_init_74 : decode cX8_init 74 = .ok (.dup, 1) := by decide +kernel
theorem dX8_init_75 : decode cX8_init 75 = .ok (.iconst 0, 1) := by decide +kernel
theorem dX8_init_76 : decode cX8_init 76 = .ok (.bipush 112, 2) := by decide +kernel
theorem dX8_init_78 : decode cX8_init 78 = .ok (.castore, 1) := by decide +kernel
theorem dX8_init_79 : decode cX8_init 79 = .ok (.dup, 1) := by decide +kernel
theorem dX8_init_80 : decode cX8_init 80 = .ok (.iconst 1, 1) := by decide +kernel
theorem dX8_init_81 : decode cX8_init 81 = .ok (.bipush 107, 2) := by decide +kernel
theorem dX8_init_83 : decode cX8_init 83 = .ok (.castore, 1) := by decide +kernel
theorem dX8_init_84 : decode cX8_init 84 = .ok (.dup, 1) := by decide +kernel
theorem dX8_init_85 : decode cX8_init 85 = .ok (.iconst 2, 1) := by decide +kernel
theorem dX8_init_86 : decode cX8_init 86 = .ok (.bipush 118, 2) := by decide +kernel
theorem dX8_init_88 : decode cX8_init 88 = .ok (.castore, 1) := by decide +kernel
theorem dX8_init_89 : decode cX8_init 89 = .ok (.dup, 1) := by decide +kernel
theorem dX8_init_90 : decode cX8_init 90 = .ok (.iconst 3, 1) := by decide +kernel
theorem dX8_init_91 : decode cX8_init 91 = .ok (.bipush 108, 2) := by decide +kernel
theorem dX8_init_93 : decode cX8_init 93 = .ok (.castore, 1) := by decide +kernel
theorem dX8_init_94 : decode cX8_init 94 = .ok (.dup, 1) := by decide +kernel
theorem dX8_init_95 : decode cX8_init 95 = .ok (.iconst 4, 1) := by decide +kernel
theorem dX8_init_96 : decode cX8_init 96 = .ok (.bipush 121, 2) := by decide +kernel
theorem dX8_init_98 : decode cX8_init 98 = .ok (.castore, 1) := by decide +kernel
theorem dX8_init_99 : decode cX8_init 99 = .ok (.dup, 1) := by decide +kernel
theorem dX8_init_100 : decode cX8_init 100 = .ok (.iconst 5, 1) := by decide +kernel
theorem dX8_init_101 : decode cX8_init 101 = .ok (.bipush 100, 2) := by decide +kernel
theorem dX8_init_103 : decode cX8_init 103 = .ok (.castore, 1) := by decide +kernel
theorem dX8_init_104 : decode cX8_init 104 = .ok (.putfield 40, 3) := by decide +kernel
theorem dX8_init_107 : decode cX8_init 107 = .ok (.aload_n 0, 1) := by decide +kernel
theorem dX8_init_108 : decode cX8_init 108 = .ok (.iconst 3, 1) := by decide +kernel
theorem dX8_init_109 : decode cX8_init 109 = .ok (.newarray .char, 2) := by decide +kernel
theorem dX8_init_111 : decode cX8_init 111 = .ok (.dup, 1) := by decide +kernel
theorem dX8_init_112 : decode cX8_init 112 = .ok (.iconst 0, 1) := by decide +kernel
theorem dX8_init_113 : decode cX8_init 113 = .ok (.bipush 109, 2) := by decide +kernel
theorem dX8_init_115 : decode cX8_init 115 = .ok (.castore, 1) := by decide +kernel
theorem dX8_init_116 : decode cX8_init 116 = .ok (.dup, 1) := by decide +kernel
theorem dX8_init_117 : decode cX8_init 117 = .ok (.iconst 1, 1) := by decide +kernel
theorem dX8_init_118 : decode cX8_init 118 = .ok (.bipush 108, 2) := by decide +kernel
theorem dX8_init_120 : decode cX8_init 120 = .ok (.castore, 1) := by decide +kernel
theorem dX8_init_121 : decode cX8_init 121 = .ok (.dup, 1) := by decide +kernel
theorem dX8_init_122 : decode cX8_init 122 = .ok (.iconst 2, 1) := by decide +kernel
theorem dX8_init_123 : decode cX8_init 123 = .ok (.bipush 121, 2) := by decide +kernel
theorem dX8_init_125 : decode cX8_init 125 = .ok (.castore, 1) := by decide +kernel
theorem dX8_init_126 : decode cX8_init 126 = .ok (.putfield 44, 3) := by decide +kernel
theorem dX8_init_129 : decode cX8_init 129 = .ok (.aload_n 0, 1) := by decide +kernel
theorem dX8_init_130 : decode cX8_init 130 = .ok (.bipush 15, 2) := by decide +kernel
theorem dX8_init_132 : decode cX8_init 132 = .ok (.newarray .char, 2) := by decide +kernel
theorem dX8_init_134 : decode cX8_init 134 = .ok (.dup, 1) := by decide +kernel
theorem dX8_init_135 : decode cX8_init 135 = .ok (.iconst 0, 1) := by decide +kernel
theorem dX8_init_136 : decode cX8_init 136 = .ok (.bipush 109, 2) := by decide +kernel
theorem dX8_init_138 : decode cX8_init 138 = .ok (.castore, 1) := by decide +kernel
theorem dX8_init_139 : decode cX8_init 139 = .ok (.dup, 1) := by decide +kernel
theorem dX8_init_140 : decode cX8_init 140 = .ok (.iconst 1, 1) := by decide +kernel
theorem dX8_init_141 : decode cX8_init 141 = .ok (.bipush 111, 2) := by decide +kernel
theorem dX8_init_143 : decode cX8_init 143 = .ok (.castore, 1) := by decide +kernel
theorem dX8_init_144 : decode cX8_init 144 = .ok (.dup, 1) := by decide +kernel
theorem dX8_init_145 : decode cX8_init 145 = .ok (.iconst 2, 1) := by decide +kernel
theorem dX8_init_146 : decode cX8_init 146 = .ok (.bipush 114, 2) := by decide +kernel
theorem dX8_init_148 : decode cX8_init 148 = .ok (.castore, 1) := by decide +kernel
theorem dX8_init_149 : decode cX8_init 149 = .ok (.dup, 1) := by decide +kernel
theorem dX8_init_150 : decode cX8_init 150 = .ok (.iconst 3, 1) := by decide +kernel
theorem dX8_init_151 : decode cX8_init 151 = .ok (.bipush 101, 2) := by decide +kernel
theorem dX8_init_153 : decode cX8_init 153 = .ok (.castore, 1) := by decide +kernel
theorem dX8_init_154 : decode cX8_init 154 = .ok (.dup, 1) := by decide +kernel
theorem dX8_init_155 : decode cX8_init 155 = .ok (.iconst 4, 1) := by decide +kernel
theorem dX8_init_156 : decode cX8_init 156 = .ok (.iconst 0, 1) := by decide +kernel
theorem dX8_init_157 : decode cX8_init 157 = .ok (.castore, 1) := by decide +kernel
theorem dX8_init_158 : decode cX8_init 158 = .ok (.dup, 1) := by decide +kernel
theorem dX8_init_159 : decode cX8_init 159 = .ok (.iconst 5, 1) := by decide +kernel
theorem dX8_init_160 : decode cX8_init 160 = .ok (.bipush 108, 2) := by decide +kernel
theorem dX8_init_162 : decode cX8_init 162 = .ok (.castore, 1) := by decide +kernel
theorem dX8_init_163 : decode cX8_init 163 = .ok (.dup, 1) := by decide +kernel
theorem dX8_init_164 : decode cX8_init 164 = .ok (.bipush 6, 2) := by decide +kernel
theorem dX8_init_166 : decode cX8_init 166 = .ok (.bipush 101, 2) := by decide +kernel
theorem dX8_init_168 : decode cX8_init 168 = .ok (.castore, 1) := by decide +kernel
theorem dX8_init_169 : decode cX8_init 169 = .ok (.dup, 1) := by decide +kernel
theorem dX8_init_170 : decode cX8_init 170 = .ok (.bipush 7, 2) := by decide +kernel
theorem dX8_init_172 : decode cX8_init 172 = .ok (.bipush 115, 2) := by decide +kernel
theorem dX8_init_174 : decode cX8_init 174 = .ok (.castore, 1) := by decide +kernel
theorem dX8_init_175 : decode cX8_init 175 = .ok (.dup, 1) := by decide +kernel
theorem dX8_init_176 : decode cX8_init 176 = .ok (.bipush 8, 2) := by decide +kernel
theorem dX8_init_178 : decode cX8_init 178 = .ok (.bipush 115, 2) := by decide +kernel
theorem dX8_init_180 : decode cX8_init 180 = .ok (.castore, 1) := by decide +kernel
theorem dX8_init_181 : decode cX8_init 181 = .ok (.dup, 1) := by decide +kernel
theorem dX8_init_182 : decode cX8_init 182 = .ok (.bipush 9, 2) := by decide +kernel
theorem dX8_init_184 : decode cX8_init 184 = .ok (.iconst 0, 1) := by decide +kernel
theorem dX8_init_185 : decode cX8_init 185 = .ok (.castore, 1) := by decide +kernel
theorem dX8_init_186 : decode cX8_init 186 = .ok (.dup, 1) := by decide +kernel
theorem dX8_init_187 : decode cX8_init 187 = .ok (.bipush 10, 2) := by decide +kernel
theorem dX8_init_189 : decode cX8_init 189 = .ok (.bipush 121, 2) := by decide +kernel
theorem dX8_init_191 : decode cX8_init 191 = .ok (.castore, 1) := by decide +kernel
theorem dX8_init_192 : decode cX8_init 192 = .ok (.dup, 1) := by decide +kernel
theorem dX8_init_193 : decode cX8_init 193 = .ok (.bipush 11, 2) := by decide +kernel
theorem dX8_init_195 : decode cX8_init 195 = .ok (.bipush 97, 2) := by decide +kernel
theorem dX8_init_197 : decode cX8_init 197 = .ok (.castore, 1) := by decide +kernel
theorem dX8_init_198 : decode cX8_init 198 = .ok (.dup, 1) := by decide +kernel
theorem dX8_init_199 : decode cX8_init 199 = .ok (.bipush 12, 2) := by decide +kernel
theorem dX8_init_201 : decode cX8_init 201 = .ok (.bipush 114, 2) := by decide +kernel
theorem dX8_init_203 : decode cX8_init 203 = .ok (.castore, 1) := by decide +kernel
theorem dX8_init_204 : decode cX8_init 204 = .ok (.dup, 1) := by decide +kernel
theorem dX8_init_205 : decode cX8_init 205 = .ok (.bipush 13, 2) := by decide +kernel
theorem dX8_init_207 : decode cX8_init 207 = .ok (.bipush 100, 2) := by decide +kernel
theorem dX8_init_209 : decode cX8_init 209 = .ok (.castore, 1) := by decide +kernel
theorem dX8_init_210 : decode cX8_init 210 = .ok (.dup, 1) := by decide +kernel
theorem dX8_init_211 : decode cX8_init 211 = .ok (.bipush 14, 2) := by decide +kernel
theorem dX8_init_213 : decode cX8_init 213 = .ok (.iconst 0, 1) := by decide +kernel
theorem dX8_init_214 : decode cX8_init 214 = .ok (.castore, 1) := by decide +kernel
theorem dX8_init_215 : decode cX8_init 215 = .ok (.putfield 47, 3) := by decide +kernel
theorem dX8_init_218 : decode cX8_init 218 = .ok (.aload_n 0, 1) := by decide +kernel
theorem dX8_init_219 : decode cX8_init 219 = .ok (.bipush 6, 2) := by decide +kernel
theorem dX8_init_221 : decode cX8_init 221 = .ok (.newarray .int, 2) := by decide +kernel
theorem dX8_init_223 : decode cX8_init 223 = .ok (.putfield 50, 3) := by decide +kernel
theorem dX8_init_226 : decode cX8_init 226 = .ok (.aload_n 0, 1) := by decide +kernel
theorem dX8_init_227 : decode cX8_init 227 = .ok (.bipush 6, 2) := by decide +kernel
theorem dX8_init_229 : decode cX8_init 229 = .ok (.newarray .int, 2) := by decide +kernel
theorem dX8_init_231 : decode cX8_init 231 = .ok (.putfield 53, 3) := by decide +kernel
theorem dX8_init_234 : decode cX8_init 234 = .ok (.aload_n 0, 1) := by decide +kernel
theorem dX8_init_235 : decode cX8_init 235 = .ok (.bipush 6, 2) := by decide +kernel
theorem dX8_init_237 : decode cX8_init 237 = .ok (.newarray .int, 2) := by decide +kernel
theorem dX8_init_239 : decode cX8_init 239 = .ok (.putfield 56, 3) := by decide +kernel
theorem dX8_init_242 : decode cX8_init 242 = .ok (.aload_n 0, 1) := by decide +kernel
theorem dX8_init_243 : decode cX8_init 243 = .ok (.bipush 7, 2) := by decide +kernel
theorem dX8_init_245 : decode cX8_init 245 = .ok (.newarray .int, 2) := by decide +kernel
theorem dX8_init_247 : decode cX8_init 247 = .ok (.dup, 1) := by decide +kernel
theorem dX8_init_248 : decode cX8_init 248 = .ok (.iconst 0, 1) := by decide +kernel
theorem dX8_init_249 : decode cX8_init 249 = .ok (.iconst (-1), 1) := by decide +kernel
theorem dX8_init_250 : decode cX8_init 250 = .ok (.iastore, 1) := by decide +kernel
theorem dX8_init_251 : decode cX8_init 251 = .ok (.dup, 1) := by decide +kernel
theorem dX8_init_252 : decode cX8_init 252 = .ok (.iconst 1, 1) := by decide +kernel
theorem dX8_init_253 : decode cX8_init 253 = .ok (.iconst 0, 1) := by decide +kernel
theorem dX8_init_254 : decode cX8_init 254 = .ok (.iastore, 1) := by decide +kernel
theorem dX8_init_255 : decode cX8_init 255 = .ok (.dup, 1) := by decide +kernel
theorem dX8_init_256 : decode cX8_init 256 = .ok (.iconst 2, 1) := by decide +kernel
theorem dX8_init_257 : decode cX8_init 257 = .ok (.iconst 0, 1) := by decide +kernel
theorem dX8_init_258 : decode cX8_init 258 = .ok (.iastore, 1) := by decide +kernel
theorem dX8_init_259 : decode cX8_init 259 = .ok (.dup, 1) := by decide +kernel
theorem dX8_init_260 : decode cX8_init 260 = .ok (.iconst 3, 1) := by decide +kernel
theorem dX8_init_261 : decode cX8_init 261 = .ok (.iconst 0, 1) := by decide +kernel
theorem dX8_init_262 : decode cX8_init 262 = .ok (.iastore, 1) := by decide +kernel
theorem dX8_init_263 : decode cX8_init 263 = .ok (.dup, 1) := by decide +kernel
theorem dX8_init_264 : decode cX8_init 264 = .ok (.iconst 4, 1) := by decide +kernel
theorem dX8_init_265 : decode cX8_init 265 = .ok (.iconst 1, 1) := by decide +kernel
theorem dX8_init_266 : decode cX8_init 266 = .ok (.iastore, 1) := by decide +kernel
theorem dX8_init_267 : decode cX8_init 267 = .ok (.dup, 1) := by decide +kernel
theorem dX8_init_268 : decode cX8_init 268 = .ok (.iconst 5, 1) := by decide +kernel
theorem dX8_init_269 : decode cX8_init 269 = .ok (.iconst 2, 1) := by decide +kernel
theorem dX8_init_270 : decode cX8_init 270 = .ok (.iastore, 1) := by decide +kernel
theorem dX8_init_271 : decode cX8_init 271 = .ok (.dup, 1) := by decide +kernel
theorem dX8_init_272 : decode cX8_init 272 = .ok (.bipush 6, 2) := by decide +kernel
theorem dX8_init_274 : decode cX8_init 274 = .ok (.iconst 3, 1) := by decide +kernel
theorem dX8_init_275 : decode cX8_init 275 = .ok (.iastore, 1) := by decide +kernel
theorem dX8_init_276 : decode cX8_init 276 = .ok (.putfield 59, 3) := by decide +kernel
theorem dX8_init_279 : decode cX8_init 279 = .ok (.aload_n 0, 1) := by decide +kernel
theorem dX8_init_280 : decode cX8_init 280 = .ok (.bipush 21, 2) := by decide +kernel
theorem dX8_init_282 : decode cX8_init 282 = .ok (.newarray .int, 2) := by decide +kernel
theorem dX8_init_284 : decode cX8_init 284 = .ok (.dup, 1) := by decide +kernel
theorem dX8_init_285 : decode cX8_init 285 = .ok (.iconst 0, 1) := by decide +kernel
theorem dX8_init_286 : decode cX8_init 286 = .ok (.bipush 10, 2) := by decide +kernel
theorem dX8_init_288 : decode cX8_init 288 = .ok (.iastore, 1) := by decide +kernel
theorem dX8_init_289 : decode cX8_init 289 = .ok (.dup, 1) := by decide +kernel
theorem dX8_init_290 : decode cX8_init 290 = .ok (.iconst 1, 1) := by decide +kernel
theorem dX8_init_291 : decode cX8_init 291 = .ok (.bipush 11, 2) := by decide +kernel
theorem dX8_init_293 : decode cX8_init 293 = .ok (.iastore, 1) := by decide +kernel
theorem dX8_init_294 : decode cX8_init 294 = .ok (.dup, 1) := by decide +kernel
theorem dX8_init_295 : decode cX8_init 295 = .ok (.iconst 2, 1) := by decide +kernel
theorem dX8_init_296 : decode cX8_init 296 = .ok (.bipush 12, 2) := by decide +kernel
theorem dX8_init_298 : decode cX8_init 298 = .ok (.iastore, 1) := by decide +kernel
theorem dX8_init_299 : decode cX8_init 299 = .ok (.dup, 1) := by decide +kernel
theorem dX8_init_300 : decode cX8_init 300 = .ok (.iconst 3, 1) := by decide +kernel
theorem dX8_init_301 : decode cX8_init 301 = .ok (.iconst 0, 1) := by decide +kernel
theorem dX8_init_302 : decode cX8_init 302 = .ok (.iastore, 1) := by decide +kernel
theorem dX8_init_303 : decode cX8_init 303 = .ok (.dup, 1) := by decide +kernel
theorem dX8_init_304 : decode cX8_init 304 = .ok (.iconst 4, 1) := by decide +kernel
theorem dX8_init_305 : decode cX8_init 305 = .ok (.bipush 20, 2) := by decide +kernel
theorem dX8_init_307 : decode cX8_init 307 = .ok (.iastore, 1) := by decide +kernel
theorem dX8_init_308 : decode cX8_init 308 = .ok (.dup, 1) := by decide +kernel
theorem dX8_init_309 : decode cX8_init 309 = .ok (.iconst 5, 1) := by decide +kernel
theorem dX8_init_310 : decode cX8_init 310 = .ok (.iconst 0, 1) := by decide +kernel
theorem dX8_init_311 : decode cX8_init 311 = .ok (.iastore, 1) := by decide +kernel
theorem dX8_init_312 : decode cX8_init 312 = .ok (.dup, 1) := by decide +kernel
theorem dX8_init_313 : decode cX8_init 313 = .ok (.bipush 6, 2) := by decide +kernel
theorem dX8_init_315 : decode cX8_init 315 = .ok (.bipush 30, 2) := by decide +kernel
theorem dX8_init_317 : decode cX8_init 317 = .ok (.iastore, 1) := by decide +kernel
theorem dX8_init_318 : decode cX8_init 318 = .ok (.dup, 1) := by decide +kernel
theorem dX8_init_319 : decode cX8_init 319 = .ok (.bipush 7, 2) := by decide +kernel
theorem dX8_init_321 : decode cX8_init 321 = .ok (.iconst 0, 1) := by decide +kernel
theorem dX8_init_322 : decode cX8_init 322 = .ok (.iastore, 1) := by decide +kernel
theorem dX8_init_323 : decode cX8_init 323 = .ok (.dup, 1) := by decide +kernel
theorem dX8_init_324 : decode cX8_init 324 = .ok (.bipush 8, 2) := by decide +kernel
theorem dX8_init_326 : decode cX8_init 326 = .ok (.iconst 0, 1) := by decide +kernel
theorem dX8_init_327 : decode cX8_init 327 = .ok (.iastore, 1) := by decide +kernel
theorem dX8_init_328 : decode cX8_init 328 = .ok (.dup, 1) := by decide +kernel
theorem dX8_init_329 : decode cX8_init 329 = .ok (.bipush 9, 2) := by decide +kernel
theorem dX8_init_331 : decode cX8_init 331 = .ok (.iconst 0, 1) := by decide +kernel
theorem dX8_init_332 : decode cX8_init 332 = .ok (.iastore, 1) := by decide +kernel
theorem dX8_init_333 : decode cX8_init 333 = .ok (.dup, 1) := by decide +kernel
theorem dX8_init_334 : decode cX8_init 334 = .ok (.bipush 10, 2) := by decide +kernel
theorem dX8_init_336 : decode cX8_init 336 = .ok (.iconst 0, 1) := by decide +kernel
theorem dX8_init_337 : decode cX8_init 337 = .ok (.iastore, 1) := by decide +kernel
theorem dX8_init_338 : decode cX8_init 338 = .ok (.dup, 1) := by decide +kernel
theorem dX8_init_339 : decode cX8_init 339 = .ok (.bipush 11, 2) := by decide +kernel
theorem dX8_init_341 : decode cX8_init 341 = .ok (.bipush 40, 2) := by decide +kernel
theorem dX8_init_343 : decode cX8_init 343 = .ok (.iastore, 1) := by decide +kernel
theorem dX8_init_344 : decode cX8_init 344 = .ok (.dup, 1) := by decide +kernel
theorem dX8_init_345 : decode cX8_init 345 = .ok (.bipush 12, 2) := by decide +kernel
theorem dX8_init_347 : decode cX8_init 347 = .ok (.bipush 50, 2) := by decide +kernel
theorem dX8_init_349 : decode cX8_init 349 = .ok (.iastore, 1) := by decide +kernel
theorem dX8_init_350 : decode cX8_init 350 = .ok (.dup, 1) := by decide +kernel
theorem dX8_init_351 : decode cX8_init 351 = .ok (.bipush 13, 2) := by decide +kernel
theorem dX8_init_353 : decode cX8_init 353 = .ok (.bipush 51, 2) := by decide +kernel
theorem dX8_init_355 : decode cX8_init 355 = .ok (.iastore, 1) := by decide +kernel
theorem dX8_init_356 : decode cX8_init 356 = .ok (.dup, 1) := by decide +kernel
theorem dX8_init_357 : decode cX8_init 357 = .ok (.bipush 14, 2) := by decide +kernel
theorem dX8_init_359 : decode cX8_init 359 = .ok (.iconst 0, 1) := by decide +kernel
theorem dX8_init_360 : decode cX8_init 360 = .ok (.iastore, 1) := by decide +kernel
theorem dX8_init_361 : decode cX8_init 361 = .ok (.dup, 1) := by decide +kernel
theorem dX8_init_362 : decode cX8_init 362 = .ok (.bipush 15, 2) := by decide +kernel
theorem dX8_init_364 : decode cX8_init 364 = .ok (.iconst 0, 1) := by decide +kernel
theorem dX8_init_365 : decode cX8_init 365 = .ok (.iastore, 1) := by decide +kernel
theorem dX8_init_366 : decode cX8_init 366 = .ok (.dup, 1) := by decide +kernel
theorem dX8_init_367 : decode cX8_init 367 = .ok (.bipush 16, 2) := by decide +kernel
theorem dX8_init_369 : decode cX8_init 369 = .ok (.iconst 0, 1) := by decide +kernel
theorem dX8_init_370 : decode cX8_init 370 = .ok (.iastore, 1) := by decide +kernel
theorem dX8_init_371 : decode cX8_init 371 = .ok (.dup, 1) := by decide +kernel
theorem dX8_init_372 : decode cX8_init 372 = .ok (.bipush 17, 2) := by decide +kernel
theorem dX8_init_374 : decode cX8_init 374 = .ok (.bipush 60, 2) := by decide +kernel
theorem dX8_init_376 : decode cX8_init 376 = .ok (.iastore, 1) := by decide +kernel
theorem dX8_init_377 : decode cX8_init 377 = .ok (.dup, 1) := by decide +kernel
theorem dX8_init_378 : decode cX8_init 378 = .ok (.bipush 18, 2) := by decide +kernel
theorem dX8_init_380 : decode cX8_init 380 = .ok (.bipush 71, 2) := by decide +kernel
theorem dX8_init_382 : decode cX8_init 382 = .ok (.iastore, 1) := by decide +kernel
theorem dX8_init_383 : decode cX8_init 383 = .ok (.dup, 1) := by decide +kernel
theorem dX8_init_384 : decode cX8_init 384 = .ok (.bipush 19, 2) := by decide +kernel
theorem dX8_init_386 : decode cX8_init 386 = .ok (.bipush 70, 2) := by decide +kernel
theorem dX8_init_388 : decode cX8_init 388 = .ok (.iastore, 1) := by decide +kernel
theorem dX8_init_389 : decode cX8_init 389 = .ok (.dup, 1) := by decide +kernel
theorem dX8_init_390 : decode cX8_init 390 = .ok (.bipush 20, 2) := by decide +kernel
theorem dX8_init_392 : decode cX8_init 392 = .ok (.iconst 0, 1) := by decide +kernel
theorem dX8_init_393 : decode cX8_init 393 = .ok (.iastore, 1) := by decide +kernel
theorem dX8_init_394 : decode cX8_init 394 = .ok (.putfield 62, 3) := by decide +kernel
theorem dX8_init_397 : decode cX8_init 397 = .ok (.aload_n 0, 1) := by decide +kernel
theorem dX8_init_398 : decode cX8_init 398 = .ok (.bipush 20, 2) := by decide +kernel
theorem dX8_init_400 : decode cX8_init 400 = .ok (.newarray .int, 2) := by decide +kernel
theorem dX8_init_402 : decode cX8_init 402 = .ok (.putfield 65, 3) := by decide +kernel
theorem dX8_init_405 : decode cX8_init 405 = .ok (.aload_n 0, 1) := by decide +kernel
theorem dX8_init_406 : decode cX8_init 406 = .ok (.bipush 6, 2) := by decide +kernel
theorem dX8_init_408 : decode cX8_init 408 = .ok (.newarray .int, 2) := by decide +kernel
theorem dX8_init_410 : decode cX8_init 410 = .ok (.dup, 1) := by decide +kernel
theorem dX8_init_411 : decode cX8_init 411 = .ok (.iconst 0, 1) := by decide +kernel
theorem dX8_init_412 : decode cX8_init 412 = .ok (.iconst (-1), 1) := by decide +kernel
theorem dX8_init_413 : decode cX8_init 413 = .ok (.iastore, 1) := by decide +kernel
theorem dX8_init_414 : decode cX8_init 414 = .ok (.dup, 1) := by decide +kernel
theorem dX8_init_415 : decode cX8_init 415 = .ok (.iconst 1, 1) := by decide +kernel
theorem dX8_init_416 : decode cX8_init 416 = .ok (.iconst (-1), 1) := by decide +kernel
theorem dX8_init_417 : decode cX8_init 417 = .ok (.iastore, 1) := by decide +kernel
theorem dX8_init_418 : decode cX8_init 418 = .ok (.dup, 1) := by decide +kernel
theorem dX8_init_419 : decode cX8_init 419 = .ok (.iconst 2, 1) := by decide +kernel
theorem dX8_init_420 : decode cX8_init 420 = .ok (.iconst (-1), 1) := by decide +kernel
theorem dX8_init_421 : decode cX8_init 421 = .ok (.iastore, 1) := by decide +kernel
theorem dX8_init_422 : decode cX8_init 422 = .ok (.dup, 1) := by decide +kernel
theorem dX8_init_423 : decode cX8_init 423 = .ok (.iconst 3, 1) := by decide +kernel
theorem dX8_init_424 : decode cX8_init 424 = .ok (.iconst (-1), 1) := by decide +kernel
theorem dX8_init_425 : decode cX8_init 425 = .ok (.iastore, 1) := by decide +kernel
theorem dX8_init_426 : decode cX8_init 426 = .ok (.dup, 1) := by decide +kernel
theorem dX8_init_427 : decode cX8_init 427 = .ok (.iconst 4, 1) := by decide +kernel
theorem dX8_init_428 : decode cX8_init 428 = .ok (.iconst (-1), 1) := by decide +kernel
theorem dX8_init_429 : decode cX8_init 429 = .ok (.iastore, 1) := by decide +kernel
theorem dX8_init_430 : decode cX8_init 430 = .ok (.dup, 1) := by decide +kernel
theorem dX8_init_431 : decode cX8_init 431 = .ok (.iconst 5, 1) := by decide +kernel
theorem dX8_init_432 : decode cX8_init 432 = .ok (.iconst (-1), 1) := by decide +kernel
theorem dX8_init_433 : decode cX8_init 433 = .ok (.iastore, 1) := by decide +kernel
theorem dX8_init_434 : decode cX8_init 434 = .ok (.putfield 68, 3) := by decide +kernel
theorem dX8_init_437 : decode cX8_init 437 = .ok (.aload_n 0, 1) := by decide +kernel
theorem dX8_init_438 : decode cX8_init 438 = .ok (.bipush 6, 2) := by decide +kernel
theorem dX8_init_440 : decode cX8_init 440 = .ok (.newarray .int, 2) := by decide +kernel
theorem dX8_init_442 : decode cX8_init 442 = .ok (.putfield 71, 3) := by decide +kernel
theorem dX8_init_445 : decode cX8_init 445 = .ok (.aload_n 0, 1) := by decide +kernel
theorem dX8_init_446 : decode cX8_init 446 = .ok (.sipush 360, 3) := by decide +kernel
theorem dX8_init_449 : decode cX8_init 449 = .ok (.newarray .long, 2) := by decide +kernel
theorem dX8_init_451 : decode cX8_init 451 = .ok (.putfield 74, 3) := by decide +kernel
theorem dX8_init_454 : decode cX8_init 454 = .ok (.aload_n 0, 1) := by decide +kernel
theorem dX8_init_455 : decode cX8_init 455 = .ok (.bipush 60, 2) := by decide +kernel
theorem dX8_init_457 : decode cX8_init 457 = .ok (.newarray .long, 2) := by decide +kernel
theorem dX8_init_459 : decode cX8_init 459 = .ok (.putfield 78, 3) := by decide +kernel
theorem dX8_init_462 : decode cX8_init 462 = .ok (.return_, 1) := by decide +kernel
theorem dX8_isIn_0 : decode cX8_isIn 0 = .ok (.iload_n 0, 1) := by decide +kernel
theorem dX8_isIn_1 : decode cX8_isIn 1 = .ok (.iload_n 1, 1) := by decide +kernel
theorem dX8_isIn_2 : decode cX8_isIn 2 = .ok (.if_icmp .lt 12, 3) := by decide +kernel
theorem dX8_isIn_5 : decode cX8_isIn 5 = .ok (.iload_n 0, 1) := by decide +kernel
theorem dX8_isIn_6 : decode cX8_isIn 6 = .ok (.iload_n 2, 1) := by decide +kernel
theorem dX8_isIn_7 : decode cX8_isIn 7 = .ok (.if_icmp .gt 7, 3) := by decide +kernel
theorem dX8_isIn_10 : decode cX8_isIn 10 = .ok (.iconst 1, 1) := by decide +kernel
theorem dX8_isIn_11 : decode cX8_isIn 11 = .ok (.goto 4, 3) := by decide +kernel
theorem dX8_isIn_14 : decode cX8_isIn 14 = .ok (.iconst 0, 1) := by decide +kernel
theorem dX8_isIn_15 : decode cX8_isIn 15 = .ok (.ireturn, 1) := by decide +kernel
theorem dX8_fresh_0 : decode cX8_fresh 0 = .ok (.bipush 109, 2) := by decide +kernel
theorem dX8_fresh_2 : decode cX8_fresh 2 = .ok (.newarray .int, 2) := by decide +kernel
theorem dX8_fresh_4 : decode cX8_fresh 4 = .ok (.astore_n 0, 1) := by decide +kernel
theorem dX8_fresh_5 : decode cX8_fresh 5 = .ok (.aload_n 0, 1) := by decide +kernel
theorem dX8_fresh_6 : decode cX8_fresh 6 = .ok (.bipush 61, 2) := by decide +kernel
theorem dX8_fresh_8 : decode cX8_fresh 8 = .ok (.bipush 100, 2) := by decide +kernel
theorem dX8_fresh_10 : decode cX8_fresh 10 = .ok (.iastore, 1) := by decide +kernel
theorem dX8_fresh_11 : decode cX8_fresh 11 = .ok (.aload_n 0, 1) := by decide +kernel
theorem dX8_fresh_12 : decode cX8_fresh 12 = .ok (.areturn, 1) := by decide +kernel
theorem dX8_keep_0 : decode cX8_keep 0 = .ok (.iconst 0, 1) := by decide +kernel
theorem dX8_keep_1 : decode cX8_keep 1 = .ok (.istore_n 2, 1) := by decide +kernel
theorem dX8_keep_2 : decode cX8_keep 2 = .ok (.iload_n 2, 1) := by decide +kernel
theorem dX8_keep_3 : decode cX8_keep 3 = .ok (.bipush 109, 2) := by decide +kernel
theorem dX8_keep_5 : decode cX8_keep 5 = .ok (.if_icmp .ge 26, 3) := by decide +kernel
theorem dX8_keep_8 : decode cX8_keep 8 = .ok (.aload_n 0, 1) := by decide +kernel
theorem dX8_keep_9 : decode cX8_keep 9 = .ok (.getfield 19, 3) := by decide +kernel
theorem dX8_keep_12 : decode cX8_keep 12 = .ok (.bipush 109, 2) := by decide +kernel
theorem dX8_keep_14 : decode cX8_keep 14 = .ok (.iload_n 1, 1) := by decide +kernel
theorem dX8_keep_15 : decode cX8_keep 15 = .ok (.imul, 1) := by decide +kernel
theorem dX8_keep_16 : decode cX8_keep 16 = .ok (.iload_n 2, 1) := by decide +kernel
theorem dX8_keep_17 : decode cX8_keep 17 = .ok (.iadd, 1) := by decide +kernel
theorem dX8_keep_18 : decode cX8_keep 18 = .ok (.aload_n 0, 1) := by decide +kernel
theorem dX8_keep_19 : decode cX8_keep 19 = .ok (.getfield 15, 3) := by decide +kernel
theorem dX8_keep_22 : decode cX8_keep 22 = .ok (.iload_n 2, 1) := by decide +kernel
theorem dX8_keep_23 : decode cX8_keep 23 = .ok (.iaload, 1) := by decide +kernel
theorem dX8_keep_24 : decode cX8_keep 24 = .ok (.iastore, 1) := by decide +kernel
theorem dX8_keep_25 : decode cX8_keep 25 = .ok (.iinc 2 1, 3) := by decide +kernel
theorem dX8_keep_28 : decode cX8_keep 28 = .ok (.goto (-26), 3) := by decide +kernel
theorem dX8_keep_31 : decode cX8_keep 31 = .ok (.return_, 1) := by decide +kernel
theorem dX8_lay_0 : decode cX8_lay 0 = .ok (.iconst 0, 1) := by decide +kernel
theorem dX8_lay_1 : decode cX8_lay 1 = .ok (.istore_n 2, 1) := by decide +kernel
theorem dX8_lay_2 : decode cX8_lay 2 = .ok (.iload_n 2, 1) := by decide +kernel
theorem dX8_lay_3 : decode cX8_lay 3 = .ok (.bipush 109, 2) := by decide +kernel
theorem dX8_lay_5 : decode cX8_lay 5 = .ok (.if_icmp .ge 26, 3) := by decide +kernel
theorem dX8_lay_8 : decode cX8_lay 8 = .ok (.aload_n 0, 1) := by decide +kernel
theorem dX8_lay_9 : decode cX8_lay 9 = .ok (.getfield 15, 3) := by decide +kernel
theorem dX8_lay_12 : decode cX8_lay 12 = .ok (.iload_n 2, 1) := by decide +kernel
theorem dX8_lay_13 : decode cX8_lay 13 = .ok (.aload_n 0, 1) := by decide +kernel
theorem dX8_lay_14 : decode cX8_lay 14 = .ok (.getfield 19, 3) := by decide +kernel
theorem dX8_lay_17 : decode cX8_lay 17 = .ok (.bipush 109, 2) := by decide +kernel
theorem dX8_lay_19 : decode cX8_lay 19 = .ok (.iload_n 1, 1) := by decide +kernel
theorem dX8_lay_20 : decode cX8_lay 20 = .ok (.imul, 1) := by decide +kernel
theorem dX8_lay_21 : decode cX8_lay 21 = .ok (.iload_n 2, 1) := by decide +kernel
theorem dX8_lay_22 : decode cX8_lay 22 = .ok (.iadd, 1) := by decide +kernel
theorem dX8_lay_23 : decode cX8_lay 23 = .ok (.iaload, 1) := by decide +kernel
theorem dX8_lay_24 : decode cX8_lay 24 = .ok (.iastore, 1) := by decide +kernel
theorem dX8_lay_25 : decode cX8_lay 25 = .ok (.iinc 2 1, 3) := by decide +kernel
theorem dX8_lay_28 : decode cX8_lay 28 = .ok (.goto (-26), 3) := by decide +kernel
theorem dX8_lay_31 : decode cX8_lay 31 = .ok (.return_, 1) := by decide +kernel
theorem dX8_image_0 : decode cX8_image 0 = .ok (.aload_n 0, 1) := by decide +kernel
theorem dX8_image_1 : decode cX8_image 1 = .ok (.iconst 1, 1) := by decide +kernel
theorem dX8_image_2 : decode cX8_image 2 = .ok (.putfield 81, 3) := by decide +kernel
theorem dX8_image_5 : decode cX8_image 5 = .ok (.iconst 0, 1) := by decide +kernel
theorem dX8_image_6 : decode cX8_image 6 = .ok (.istore_n 1, 1) := by decide +kernel
theorem dX8_image_7 : decode cX8_image 7 = .ok (.iload_n 1, 1) := by decide +kernel
theorem dX8_image_8 : decode cX8_image 8 = .ok (.bipush 109, 2) := by decide +kernel
theorem dX8_image_10 : decode cX8_image 10 = .ok (.if_icmp .ge 21, 3) := by decide +kernel
theorem dX8_image_13 : decode cX8_image 13 = .ok (.aload_n 0, 1) := by decide +kernel
theorem dX8_image_14 : decode cX8_image 14 = .ok (.getfield 22, 3) := by decide +kernel
theorem dX8_image_17 : decode cX8_image 17 = .ok (.iload_n 1, 1) := by decide +kernel
theorem dX8_image_18 : decode cX8_image 18 = .ok (.aload_n 0, 1) := by decide +kernel
theorem dX8_image_19 : decode cX8_image 19 = .ok (.getfield 15, 3) := by decide +kernel
theorem dX8_image_22 : decode cX8_image 22 = .ok (.iload_n 1, 1) := by decide +kernel
theorem dX8_image_23 : decode cX8_image 23 = .ok (.iaload, 1) := by decide +kernel
theorem dX8_image_24 : decode cX8_image 24 = .ok (.iastore, 1) := by decide +kernel
theorem dX8_image_25 : decode cX8_image 25 = .ok (.iinc 1 1, 3) := by decide +kernel
theorem dX8_image_28 : decode cX8_image 28 = .ok (.goto (-21), 3) := by decide +kernel
theorem dX8_image_31 : decode cX8_image 31 = .ok (.aload_n 0, 1) := by decide +kernel
theorem dX8_image_32 : decode cX8_image 32 = .ok (.getfield 15, 3) := by decide +kernel
theorem dX8_image_35 : decode cX8_image 35 = .ok (.bipush 60, 2) := by decide +kernel
theorem dX8_image_37 : decode cX8_image 37 = .ok (.iaload, 1) := by decide +kernel
theorem dX8_image_38 : decode cX8_image 38 = .ok (.ireturn, 1) := by decide +kernel
theorem dX8_undo_0 : decode cX8_undo 0 = .ok (.aload_n 0, 1) := by decide +kernel
theorem dX8_undo_1 : decode cX8_undo 1 = .ok (.getfield 81, 3) := by decide +kernel
theorem dX8_undo_4 : decode cX8_undo 4 = .ok (.ifCond .ne 6, 3) := by decide +kernel
theorem dX8_undo_7 : decode cX8_undo 7 = .ok (.bipush (-3), 2) := by decide +kernel
theorem dX8_undo_9 : decode cX8_undo 9 = .ok (.ireturn, 1) := by decide +kernel
theorem dX8_undo_10 : decode cX8_undo 10 = .ok (.iconst 0, 1) := by decide +kernel
theorem dX8_undo_11 : decode cX8_undo 11 = .ok (.istore_n 1, 1) := by decide +kernel
theorem dX8_undo_12 : decode cX8_undo 12 = .ok (.iload_n 1, 1) := by decide +kernel
theorem dX8_undo_13 : decode cX8_undo 13 = .ok (.bipush 109, 2) := by decide +kernel
theorem dX8_undo_15 : decode cX8_undo 15 = .ok (.if_icmp .ge 21, 3) := by decide +kernel
theorem dX8_undo_18 : decode cX8_undo 18 = .ok (.aload_n 0, 1) := by decide +kernel
theorem dX8_undo_19 : decode cX8_undo 19 = .ok (.getfield 15, 3) := by decide +kernel
theorem dX8_undo_22 : decode cX8_undo 22 = .ok (.iload_n 1, 1) := by decide +kernel
theorem dX8_undo_23 : decode cX8_undo 23 = .ok (.aload_n 0, 1) := by decide +kernel
theorem dX8_undo_24 : decode cX8_undo 24 = .ok (.getfield 22, 3) := by decide +kernel
theorem dX8_undo_27 : decode cX8_undo 27 = .ok (.iload_n 1, 1) := by decide +kernel
theorem dX8_undo_28 : decode cX8_undo 28 = .ok (.iaload, 1) := by decide +kernel
theorem dX8_undo_29 : decode cX8_undo 29 = .ok (.iastore, 1) := by decide +kernel
theorem dX8_undo_30 : decode cX8_undo 30 = .ok (.iinc 1 1, 3) := by decide +kernel
theorem dX8_undo_33 : decode cX8_undo 33 = .ok (.goto (-21), 3) := by decide +kernel
theorem dX8_undo_36 : decode cX8_undo 36 = .ok (.aload_n 0, 1) := by decide +kernel
theorem dX8_undo_37 : decode cX8_undo 37 = .ok (.getfield 15, 3) := by decide +kernel
theorem dX8_undo_40 : decode cX8_undo 40 = .ok (.bipush 60, 2) := by decide +kernel
theorem dX8_undo_42 : decode cX8_undo 42 = .ok (.iaload, 1) := by decide +kernel
theorem dX8_undo_43 : decode cX8_undo 43 = .ok (.ireturn, 1) := by decide +kernel
theorem dX8_isOne_0 : decode cX8_isOne 0 = .ok (.iload_n 1, 1) := by decide +kernel
theorem dX8_isOne_1 : decode cX8_isOne 1 = .ok (.iconst 0, 1) := by decide +kernel
theorem dX8_isOne_2 : decode cX8_isOne 2 = .ok (.aload_n 0, 1) := by decide +kernel
theorem dX8_isOne_3 : decode cX8_isOne 3 = .ok (.getfield 15, 3) := by decide +kernel
theorem dX8_isOne_6 : decode cX8_isOne 6 = .ok (.bipush 60, 2) := by decide +kernel
theorem dX8_isOne_8 : decode cX8_isOne 8 = .ok (.iaload, 1) := by decide +kernel
theorem dX8_isOne_9 : decode cX8_isOne 9 = .ok (.iconst 1, 1) := by decide +kernel
theorem dX8_isOne_10 : decode cX8_isOne 10 = .ok (.isub, 1) := by decide +kernel
theorem dX8_isOne_11 : decode cX8_isOne 11 = .ok (.invokestatic 85, 3) := by decide +kernel
theorem dX8_isOne_14 : decode cX8_isOne 14 = .ok (.ireturn, 1) := by decide +kernel
theorem dX8_isYard_0 : decode cX8_isYard 0 = .ok (.iload_n 0, 1) := by decide +kernel
theorem dX8_isYard_1 : decode cX8_isYard 1 = .ok (.iconst 0, 1) := by decide +kernel
theorem dX8_isYard_2 : decode cX8_isYard 2 = .ok (.bipush 9, 2) := by decide +kernel
theorem dX8_isYard_4 : decode cX8_isYard 4 = .ok (.invokestatic 85, 3) := by decide +kernel
theorem dX8_isYard_7 : decode cX8_isYard 7 = .ok (.ireturn, 1) := by decide +kernel
theorem dX8_one_0 : decode cX8_one 0 = .ok (.aload_n 0, 1) := by decide +kernel
theorem dX8_one_1 : decode cX8_one 1 = .ok (.getfield 15, 3) := by decide +kernel
theorem dX8_one_4 : decode cX8_one 4 = .ok (.bipush 10, 2) := by decide +kernel
theorem dX8_one_6 : decode cX8_one 6 = .ok (.iload_n 1, 1) := by decide +kernel
theorem dX8_one_7 : decode cX8_one 7 = .ok (.imul, 1) := by decide +kernel
theorem dX8_one_8 : decode cX8_one 8 = .ok (.iload_n 2, 1) := by decide +kernel
theorem dX8_one_9 : decode cX8_one 9 = .ok (.iadd, 1) := by decide +kernel
theorem dX8_one_10 : decode cX8_one 10 = .ok (.iaload, 1) := by decide +kernel
theorem dX8_one_11 : decode cX8_one 11 = .ok (.ireturn, 1) := by decide +kernel
theorem dX8_change_0 : decode cX8_change 0 = .ok (.aload_n 0, 1) := by decide +kernel
theorem dX8_change_1 : decode cX8_change 1 = .ok (.iload_n 1, 1) := by decide +kernel
theorem dX8_change_2 : decode cX8_change 2 = .ok (.iload_n 2, 1) := by decide +kernel
theorem dX8_change_3 : decode cX8_change 3 = .ok (.invokevirtual 89, 3) := by decide +kernel
theorem dX8_change_6 : decode cX8_change 6 = .ok (.istore 4, 2) := by decide +kernel
theorem dX8_change_8 : decode cX8_change 8 = .ok (.aload_n 0, 1) := by decide +kernel
theorem dX8_change_9 : decode cX8_change 9 = .ok (.getfield 15, 3) := by decide +kernel
theorem dX8_change_12 : decode cX8_change 12 = .ok (.bipush 10, 2) := by decide +kernel
theorem dX8_change_14 : decode cX8_change 14 = .ok (.iload_n 1, 1) := by decide +kernel
theorem dX8_change_15 : decode cX8_change 15 = .ok (.imul, 1) := by decide +kernel
theorem dX8_change_16 : decode cX8_change 16 = .ok (.iload_n 2, 1) := by decide +kernel
theorem dX8_change_17 : decode cX8_change 17 = .ok (.iadd, 1) := by decide +kernel
theorem dX8_change_18 : decode cX8_change 18 = .ok (.iload_n 3, 1) := by decide +kernel
theorem dX8_change_19 : decode cX8_change 19 = .ok (.iastore, 1) := by decide +kernel
theorem dX8_change_20 : decode cX8_change 20 = .ok (.iload 4, 2) := by decide +kernel
theorem dX8_change_22 : decode cX8_change 22 = .ok (.ireturn, 1) := by decide +kernel
theorem dX8_isHere_0 : decode cX8_isHere 0 = .ok (.aload_n 0, 1) := by decide +kernel
theorem dX8_isHere_1 : decode cX8_isHere 1 = .ok (.iload_n 1, 1) := by decide +kernel
theorem dX8_isHere_2 : decode cX8_isHere 2 = .ok (.iconst 4, 1) := by decide +kernel
theorem dX8_isHere_3 : decode cX8_isHere 3 = .ok (.invokevirtual 89, 3) := by decide +kernel
theorem dX8_isHere_6 : decode cX8_isHere 6 = .ok (.ifCond .ne 7, 3) := by decide +kernel
theorem dX8_isHere_9 : decode cX8_isHere 9 = .ok (.iconst 1, 1) := by decide +kernel
theorem dX8_isHere_10 : decode cX8_isHere 10 = .ok (.goto 4, 3) := by decide +kernel
theorem dX8_isHere_13 : decode cX8_isHere 13 = .ok (.iconst 0, 1) := by decide +kernel
theorem dX8_isHere_14 : decode cX8_isHere 14 = .ok (.ireturn, 1) := by decide +kernel
theorem dX8_mourner_0 : decode cX8_mourner 0 = .ok (.iload_n 1, 1) := by decide +kernel
theorem dX8_mourner_1 : decode cX8_mourner 1 = .ok (.iconst 0, 1) := by decide +kernel
theorem dX8_mourner_2 : decode cX8_mourner 2 = .ok (.bipush 6, 2) := by decide +kernel
theorem dX8_mourner_4 : decode cX8_mourner 4 = .ok (.invokestatic 85, 3) := by decide +kernel
theorem dX8_mourner_7 : decode cX8_mourner 7 = .ok (.ifCond .eq 11, 3) := by decide +kernel
theorem dX8_mourner_10 : decode cX8_mourner 10 = .ok (.iload 4, 2) := by decide +kernel
theorem dX8_mourner_12 : decode cX8_mourner 12 = .ok (.invokestatic 93, 3) := by decide +kernel
theorem dX8_mourner_15 : decode cX8_mourner 15 = .ok (.ifCond .ne 5, 3) := by decide +kernel
theorem dX8_mourner_18 : decode cX8_mourner 18 = .ok (.iconst (-1), 1) := by decide +kernel
theorem dX8_mourner_19 : decode cX8_mourner 19 = .ok (.ireturn, 1) := by decide +kernel
theorem dX8_mourner_20 : decode cX8_mourner 20 = .ok (.iload_n 2, 1) := by decide +kernel
theorem dX8_mourner_21 : decode cX8_mourner 21 = .ok (.iconst 0, 1) := by decide +kernel
theorem dX8_mourner_22 : decode cX8_mourner 22 = .ok (.bipush 9, 2) := by decide +kernel
theorem dX8_mourner_24 : decode cX8_mourner 24 = .ok (.invokestatic 85, 3) := by decide +kernel
theorem dX8_mourner_27 : decode cX8_mourner 27 = .ok (.ifCond .eq 13, 3) := by decide +kernel
theorem dX8_mourner_30 : decode cX8_mourner 30 = .ok (.iload_n 3, 1) := by decide +kernel
theorem dX8_mourner_31 : decode cX8_mourner 31 = .ok (.iconst 0, 1) := by decide +kernel
theorem dX8_mourner_32 : decode cX8_mourner 32 = .ok (.bipush 20, 2) := by decide +kernel
theorem dX8_mourner_34 : decode cX8_mourner 34 = .ok (.invokestatic 85, 3) := by decide +kernel
theorem dX8_mourner_37 : decode cX8_mourner 37 = .ok (.ifCond .ne 6, 3) := by decide +kernel
theorem dX8_mourner_40 : decode cX8_mourner 40 = .ok (.bipush (-2), 2) := by decide +kernel
theorem dX8_mourner_42 : decode cX8_mourner 42 = .ok (.ireturn, 1) := by decide +kernel
theorem dX8_mourner_43 : decode cX8_mourner 43 = .ok (.aload_n 0, 1) := by decide +kernel
theorem dX8_mourner_44 : decode cX8_mourner 44 = .ok (.getfield 15, 3) := by decide +kernel
theorem dX8_mourner_47 : decode cX8_mourner 47 = .ok (.bipush 60, 2) := by decide +kernel
theorem dX8_mourner_49 : decode cX8_mourner 49 = .ok (.iaload, 1) := by decide +kernel
theorem dX8_mourner_50 : decode cX8_mourner 50 = .ok (.istore 5, 2) := by decide +kernel
theorem dX8_mourner_52 : decode cX8_mourner 52 = .ok (.iload 5, 2) := by decide +kernel
theorem dX8_mourner_54 : decode cX8_mourner 54 = .ok (.bipush 6, 2) := by decide +kernel
theorem dX8_mourner_56 : decode cX8_mourner 56 = .ok (.if_icmp .ne 6, 3) := by decide +kernel
theorem dX8_mourner_59 : decode cX8_mourner 59 = .ok (.bipush (-4), 2) := by decide +kernel
theorem dX8_mourner_61 : decode cX8_mourner 61 = .ok (.ireturn, 1) := by decide +kernel
theorem dX8_mourner_62 : decode cX8_mourner 62 = .ok (.iconst 0, 1) := by decide +kernel
theorem dX8_mourner_63 : decode cX8_mourner 63 = .ok (.istore 6, 2) := by decide +kernel
theorem dX8_mourner_65 : decode cX8_mourner 65 = .ok (.iload 6, 2) := by decide +kernel
theorem dX8_mourner_67 : decode cX8_mourner 67 = .ok (.bipush 10, 2) := by decide +kernel
theorem dX8_mourner_69 : decode cX8_mourner 69 = .ok (.if_icmp .ge 19, 3) := by decide +kernel
theorem dX8_mourner_72 : decode cX8_mourner 72 = .ok (.aload_n 0, 1) := by decide +kernel
theorem dX8_mourner_73 : decode cX8_mourner 73 = .ok (.iload 5, 2) := by decide +kernel
theorem dX8_mourner_75 : decode cX8_mourner 75 = .ok (.iload 6, 2) := by decide +kernel
theorem dX8_mourner_77 : decode cX8_mourner 77 = .ok (.iconst 0, 1) := by decide +kernel
theorem dX8_mourner_78 : decode cX8_mourner 78 = .ok (.invokevirtual 97, 3) := by decide +kernel
theorem dX8_mourner_81 : decode cX8_mourner 81 = .ok (.pop, 1) := by decide +kernel
theorem dX8_mourner_82 : decode cX8_mourner 82 = .ok (.iinc 6 1, 3) := by decide +kernel
theorem dX8_mourner_85 : decode cX8_mourner 85 = .ok (.goto (-20), 3) := by decide +kernel
theorem dX8_mourner_88 : decode cX8_mourner 88 = .ok (.aload_n 0, 1) := by decide +kernel
theorem dX8_mourner_89 : decode cX8_mourner 89 = .ok (.iload 5, 2) := by decide +kernel
theorem dX8_mourner_91 : decode cX8_mourner 91 = .ok (.iconst 0, 1) := by decide +kernel
theorem dX8_mourner_92 : decode cX8_mourner 92 = .ok (.iload_n 1, 1) := by decide +kernel
theorem dX8_mourner_93 : decode cX8_mourner 93 = .ok (.invokevirtual 97, 3) := by decide +kernel
theorem dX8_mourner_96 : decode cX8_mourner 96 = .ok (.pop, 1) := by decide +kernel
theorem dX8_mourner_97 : decode cX8_mourner 97 = .ok (.aload_n 0, 1) := by decide +kernel
theorem dX8_mourner_98 : decode cX8_mourner 98 = .ok (.iload 5, 2) := by decide +kernel
theorem dX8_mourner_100 : decode cX8_mourner 100 = .ok (.iconst 1, 1) := by decide +kernel
theorem dX8_mourner_101 : decode cX8_mourner 101 = .ok (.iload_n 2, 1) := by decide +kernel
theorem dX8_mourner_102 : decode cX8_mourner 102 = .ok (.invokevirtual 97, 3) := by decide +kernel
theorem dX8_mourner_105 : decode cX8_mourner 105 = .ok (.pop, 1) := by decide +kernel
theorem dX8_mourner_106 : decode cX8_mourner 106 = .ok (.aload_n 0, 1) := by decide +kernel
theorem dX8_mourner_107 : decode cX8_mourner 107 = .ok (.iload 5, 2) := by decide +kernel
theorem dX8_mourner_109 : decode cX8_mourner 109 = .ok (.iconst 2, 1) := by decide +kernel
theorem dX8_mourner_110 : decode cX8_mourner 110 = .ok (.iload_n 3, 1) := by decide +kernel
theorem dX8_mourner_111 : decode cX8_mourner 111 = .ok (.invokevirtual 97, 3) := by decide +kernel
theorem dX8_mourner_114 : decode cX8_mourner 114 = .ok (.pop, 1) := by decide +kernel
theorem dX8_mourner_115 : decode cX8_mourner 115 = .ok (.aload_n 0, 1) := by decide +kernel
theorem dX8_mourner_116 : decode cX8_mourner 116 = .ok (.iload 5, 2) := by decide +kernel
theorem dX8_mourner_118 : decode cX8_mourner 118 = .ok (.iconst 3, 1) := by decide +kernel
theorem dX8_mourner_119 : decode cX8_mourner 119 = .ok (.iload 4, 2) := by decide +kernel
theorem dX8_mourner_121 : decode cX8_mourner 121 = .ok (.invokevirtual 97, 3) := by decide +kernel
theorem dX8_mourner_124 : decode cX8_mourner 124 = .ok (.pop, 1) := by decide +kernel
theorem dX8_mourner_125 : decode cX8_mourner 125 = .ok (.aload_n 0, 1) := by decide +kernel
theorem dX8_mourner_126 : decode cX8_mourner 126 = .ok (.getfield 15, 3) := by decide +kernel
theorem dX8_mourner_129 : decode cX8_mourner 129 = .ok (.bipush 60, 2) := by decide +kernel
theorem dX8_mourner_131 : decode cX8_mourner 131 = .ok (.dup2, 1) := by decide +kernel
theorem dX8_mourner_132 : decode cX8_mourner 132 = .ok (.iaload, 1) := by decide +kernel
theorem dX8_mourner_133 : decode cX8_mourner 133 = .ok (.iconst 1, 1) := by decide +kernel
theorem dX8_mourner_134 : decode cX8_mourner 134 = .ok (.iadd, 1) := by decide +kernel
theorem dX8_mourner_135 : decode cX8_mourner 135 = .ok (.iastore, 1) := by decide +kernel
theorem dX8_mourner_136 : decode cX8_mourner 136 = .ok (.iload 5, 2) := by decide +kernel
theorem dX8_mourner_138 : decode cX8_mourner 138 = .ok (.ireturn, 1) := by decide +kernel
theorem dX8_of_0 : decode cX8_of 0 = .ok (.aload_n 0, 1) := by decide +kernel
theorem dX8_of_1 : decode cX8_of 1 = .ok (.iload_n 1, 1) := by decide +kernel
theorem dX8_of_2 : decode cX8_of 2 = .ok (.invokevirtual 101, 3) := by decide +kernel
theorem dX8_of_5 : decode cX8_of 5 = .ok (.ifCond .ne 7, 3) := by decide +kernel
theorem dX8_of_8 : decode cX8_of 8 = .ok (.sipush (-10001), 3) := by decide +kernel
theorem dX8_of_11 : decode cX8_of 11 = .ok (.ireturn, 1) := by decide +kernel
theorem dX8_of_12 : decode cX8_of 12 = .ok (.iload_n 2, 1) := by decide +kernel
theorem dX8_of_13 : decode cX8_of 13 = .ok (.iconst 0, 1) := by decide +kernel
theorem dX8_of_14 : decode cX8_of 14 = .ok (.iconst 5, 1) := by decide +kernel
theorem dX8_of_15 : decode cX8_of 15 = .ok (.invokestatic 85, 3) := by decide +kernel
theorem dX8_of_18 : decode cX8_of 18 = .ok (.ifCond .eq 10, 3) := by decide +kernel
theorem dX8_of_21 : decode cX8_of 21 = .ok (.aload_n 0, 1) := by decide +kernel
theorem dX8_of_22 : decode cX8_of 22 = .ok (.iload_n 1, 1) := by decide +kernel
theorem dX8_of_23 : decode cX8_of 23 = .ok (.iload_n 2, 1) := by decide +kernel
theorem dX8_of_24 : decode cX8_of 24 = .ok (.invokevirtual 89, 3) := by decide +kernel
theorem dX8_of_27 : decode cX8_of 27 = .ok (.ireturn, 1) := by decide +kernel
theorem dX8_of_28 : decode cX8_of 28 = .ok (.iload_n 2, 1) := by decide +kernel
theorem dX8_of_29 : decode cX8_of 29 = .ok (.bipush 6, 2) := by decide +kernel
theorem dX8_of_31 : decode cX8_of 31 = .ok (.if_icmp .ne 14, 3) := by decide +kernel
theorem dX8_of_34 : decode cX8_of 34 = .ok (.aload_n 0, 1) := by decide +kernel
theorem dX8_of_35 : decode cX8_of 35 = .ok (.invokevirtual 104, 3) := by decide +kernel
theorem dX8_of_38 : decode cX8_of 38 = .ok (.aload_n 0, 1) := by decide +kernel
theorem dX8_of_39 : decode cX8_of 39 = .ok (.getfield 53, 3) := by decide +kernel
theorem dX8_of_42 : decode cX8_of 42 = .ok (.iload_n 1, 1) := by decide +kernel
theorem dX8_of_43 : decode cX8_of 43 = .ok (.iaload, 1) := by decide +kernel
theorem dX8_of_44 : decode cX8_of 44 = .ok (.ireturn, 1) := by decide +kernel
theorem dX8_of_45 : decode cX8_of 45 = .ok (.iload_n 2, 1) := by decide +kernel
theorem dX8_of_46 : decode cX8_of 46 = .ok (.bipush 7, 2) := by decide +kernel
theorem dX8_of_48 : decode cX8_of 48 = .ok (.if_icmp .ne 11, 3) := by decide +kernel
theorem dX8_of_51 : decode cX8_of 51 = .ok (.aload_n 0, 1) := by decide +kernel
theorem dX8_of_52 : decode cX8_of 52 = .ok (.iload_n 1, 1) := by decide +kernel
theorem dX8_of_53 : decode cX8_of 53 = .ok (.invokevirtual 107, 3) := by decide +kernel
theorem dX8_of_56 : decode cX8_of 56 = .ok (.goto 50, 3) := by decide +kernel
theorem dX8_of_59 : decode cX8_of 59 = .ok (.iload_n 2, 1) := by decide +kernel
theorem dX8_of_60 : decode cX8_of 60 = .ok (.bipush 10, 2) := by decide +kernel
theorem dX8_of_62 : decode cX8_of 62 = .ok (.isub, 1) := by decide +kernel
theorem dX8_of_63 : decode cX8_of 63 = .ok (.invokestatic 93, 3) := by decide +kernel
theorem dX8_of_66 : decode cX8_of 66 = .ok (.ifCond .eq 15, 3) := by decide +kernel
theorem dX8_of_69 : decode cX8_of 69 = .ok (.aload_n 0, 1) := by decide +kernel
theorem dX8_of_70 : decode cX8_of 70 = .ok (.iload_n 1, 1) := by decide +kernel
theorem dX8_of_71 : decode cX8_of 71 = .ok (.iload_n 2, 1) := by decide +kernel
theorem dX8_of_72 : decode cX8_of 72 = .ok (.bipush 10, 2) := by decide +kernel
theorem dX8_of_74 : decode cX8_of 74 = .ok (.isub, 1) := by decide +kernel
theorem dX8_of_75 : decode cX8_of 75 = .ok (.invokevirtual 111, 3) := by decide +kernel
theorem dX8_of_78 : decode cX8_of 78 = .ok (.goto 28, 3) := by decide +kernel
theorem dX8_of_81 : decode cX8_of 81 = .ok (.iload_n 2, 1) := by decide +kernel
theorem dX8_of_82 : decode cX8_of 82 = .ok (.bipush 20, 2) := by decide +kernel
theorem dX8_of_84 : decode cX8_of 84 = .ok (.isub, 1) := by decide +kernel
theorem dX8_of_85 : decode cX8_of 85 = .ok (.invokestatic 93, 3) := by decide +kernel
theorem dX8_of_88 : decode cX8_of 88 = .ok (.ifCond .eq 15, 3) := by decide +kernel
theorem dX8_of_91 : decode cX8_of 91 = .ok (.aload_n 0, 1) := by decide +kernel
theorem dX8_of_92 : decode cX8_of 92 = .ok (.iload_n 1, 1) := by decide +kernel
theorem dX8_of_93 : decode cX8_of 93 = .ok (.iload_n 2, 1) := by decide +kernel
theorem dX8_of_94 : decode cX8_of 94 = .ok (.bipush 20, 2) := by decide +kernel
theorem dX8_of_96 : decode cX8_of 96 = .ok (.isub, 1) := by decide +kernel
theorem dX8_of_97 : decode cX8_of 97 = .ok (.invokevirtual 114, 3) := by decide +kernel
theorem dX8_of_100 : decode cX8_of 100 = .ok (.goto 6, 3) := by decide +kernel
theorem dX8_of_103 : decode cX8_of 103 = .ok (.sipush (-10001), 3) := by decide +kernel
theorem dX8_of_106 : decode cX8_of 106 = .ok (.ireturn, 1) := by decide +kernel
theorem dX8_set_0 : decode cX8_set 0 = .ok (.aload_n 0, 1) := by decide +kernel
theorem dX8_set_1 : decode cX8_set 1 = .ok (.iload_n 1, 1) := by decide +kernel
theorem dX8_set_2 : decode cX8_set 2 = .ok (.invokevirtual 101, 3) := by decide +kernel
theorem dX8_set_5 : decode cX8_set 5 = .ok (.ifCond .eq 12, 3) := by decide +kernel
theorem dX8_set_8 : decode cX8_set 8 = .ok (.iload_n 2, 1) := by decide +kernel
theorem dX8_set_9 : decode cX8_set 9 = .ok (.iconst 0, 1) := by decide +kernel
theorem dX8_set_10 : decode cX8_set 10 = .ok (.iconst 1, 1) := by decide +kernel
theorem dX8_set_11 : decode cX8_set 11 = .ok (.invokestatic 85, 3) := by decide +kernel
theorem dX8_set_14 : decode cX8_set 14 = .ok (.ifCond .ne 5, 3) := by decide +kernel
theorem dX8_set_17 : decode cX8_set 17 = .ok (.iconst (-1), 1) := by decide +kernel
theorem dX8_set_18 : decode cX8_set 18 = .ok (.ireturn, 1) := by decide +kernel
theorem dX8_set_19 : decode cX8_set 19 = .ok (.iload_n 3, 1) := by decide +kernel
theorem dX8_set_20 : decode cX8_set 20 = .ok (.iconst 0, 1) := by decide +kernel
theorem dX8_set_21 : decode cX8_set 21 = .ok (.iload_n 2, 1) := by decide +kernel
theorem dX8_set_22 : decode cX8_set 22 = .ok (.ifCond .ne 8, 3) := by decide +kernel
theorem dX8_set_25 : decode cX8_set 25 = .ok (.bipush 20, 2) := by decide +kernel
theorem dX8_set_27 : decode cX8_set 27 = .ok (.goto 5, 3) := by decide +kernel
theorem dX8_set_30 : decode cX8_set 30 = .ok (.bipush 9, 2) := by decide +kernel
theorem dX8_set_32 : decode cX8_set 32 = .ok (.invokestatic 85, 3) := by decide +kernel
theorem dX8_set_35 : decode cX8_set 35 = .ok (.ifCond .eq 15, 3) := by decide +kernel
theorem dX8_set_38 : decode cX8_set 38 = .ok (.aload_n 0, 1) := by decide +kernel
theorem dX8_set_39 : decode cX8_set 39 = .ok (.iload_n 1, 1) := by decide +kernel
theorem dX8_set_40 : decode cX8_set 40 = .ok (.iconst 2, 1) := by decide +kernel
theorem dX8_set_41 : decode cX8_set 41 = .ok (.iload_n 2, 1) := by decide +kernel
theorem dX8_set_42 : decode cX8_set 42 = .ok (.iadd, 1) := by decide +kernel
theorem dX8_set_43 : decode cX8_set 43 = .ok (.iload_n 3, 1) := by decide +kernel
theorem dX8_set_44 : decode cX8_set 44 = .ok (.invokevirtual 97, 3) := by decide +kernel
theorem dX8_set_47 : decode cX8_set 47 = .ok (.goto 5, 3) := by decide +kernel
theorem dX8_set_50 : decode cX8_set 50 = .ok (.bipush (-2), 2) := by decide +kernel
theorem dX8_set_52 : decode cX8_set 52 = .ok (.ireturn, 1) := by decide +kernel
theorem dX8_away_0 : decode cX8_away 0 = .ok (.aload_n 0, 1) := by decide +kernel
theorem dX8_away_1 : decode cX8_away 1 = .ok (.iload_n 1, 1) := by decide +kernel
theorem dX8_away_2 : decode cX8_away 2 = .ok (.invokevirtual 101, 3) := by decide +kernel
theorem dX8_away_5 : decode cX8_away 5 = .ok (.ifCond .eq 21, 3) := by decide +kernel
theorem dX8_away_8 : decode cX8_away 8 = .ok (.aload_n 0, 1) := by decide +kernel
theorem dX8_away_9 : decode cX8_away 9 = .ok (.iload_n 1, 1) := by decide +kernel
theorem dX8_away_10 : decode cX8_away 10 = .ok (.iconst 4, 1) := by decide +kernel
theorem dX8_away_11 : decode cX8_away 11 = .ok (.iload_n 2, 1) := by decide +kernel
theorem dX8_away_12 : decode cX8_away 12 = .ok (.ifCond .eq 7, 3) := by decide +kernel
theorem dX8_away_15 : decode cX8_away 15 = .ok (.iconst 1, 1) := by decide +kernel
theorem dX8_away_16 : decode cX8_away 16 = .ok (.goto 4, 3) := by decide +kernel
theorem dX8_away_19 : decode cX8_away 19 = .ok (.iconst 0, 1) := by decide +kernel
theorem dX8_away_20 : decode cX8_away 20 = .ok (.invokevirtual 97, 3) := by decide +kernel
theorem dX8_away_23 : decode cX8_away 23 = .ok (.goto 4, 3) := by decide +kernel
theorem dX8_away_26 : decode cX8_away 26 = .ok (.iconst (-1), 1) := by decide +kernel
theorem dX8_away_27 : decode cX8_away 27 = .ok (.ireturn, 1) := by decide +kernel
theorem dX8_debt_0 : decode cX8_debt 0 = .ok (.iload_n 1, 1) := by decide +kernel
theorem dX8_debt_1 : decode cX8_debt 1 = .ok (.iconst 0, 1) := by decide +kernel
theorem dX8_debt_2 : decode cX8_debt 2 = .ok (.sipush 999, 3) := by decide +kernel
theorem dX8_debt_5 : decode cX8_debt 5 = .ok (.invokestatic 85, 3) := by decide +kernel
theorem dX8_debt_8 : decode cX8_debt 8 = .ok (.ifCond .ne 6, 3) := by decide +kernel
theorem dX8_debt_11 : decode cX8_debt 11 = .ok (.bipush (-2), 2) := by decide +kernel
theorem dX8_debt_13 : decode cX8_debt 13 = .ok (.ireturn, 1) := by decide +kernel
theorem dX8_debt_14 : decode cX8_debt 14 = .ok (.aload_n 0, 1) := by decide +kernel
theorem dX8_debt_15 : decode cX8_debt 15 = .ok (.getfield 15, 3) := by decide +kernel
theorem dX8_debt_18 : decode cX8_debt 18 = .ok (.bipush 61, 2) := by decide +kernel
theorem dX8_debt_20 : decode cX8_debt 20 = .ok (.iaload, 1) := by decide +kernel
theorem dX8_debt_21 : decode cX8_debt 21 = .ok (.istore_n 2, 1) := by decide +kernel
theorem dX8_debt_22 : decode cX8_debt 22 = .ok (.aload_n 0, 1) := by decide +kernel
theorem dX8_debt_23 : decode cX8_debt 23 = .ok (.getfield 15, 3) := by decide +kernel
theorem dX8_debt_26 : decode cX8_debt 26 = .ok (.bipush 61, 2) := by decide +kernel
theorem dX8_debt_28 : decode cX8_debt 28 = .ok (.iload_n 1, 1) := by decide +kernel
theorem dX8_debt_29 : decode cX8_debt 29 = .ok (.iastore, 1) := by decide +kernel
theorem dX8_debt_30 : decode cX8_debt 30 = .ok (.iload_n 2, 1) := by decide +kernel
theorem dX8_debt_31 : decode cX8_debt 31 = .ok (.ireturn, 1) := by decide +kernel
theorem dX8_row_0 : decode cX8_row 0 = .ok (.aload_n 0, 1) := by decide +kernel
theorem dX8_row_1 : decode cX8_row 1 = .ok (.iload_n 1, 1) := by decide +kernel
theorem dX8_row_2 : decode cX8_row 2 = .ok (.invokevirtual 101, 3) := by decide +kernel
theorem dX8_row_5 : decode cX8_row 5 = .ok (.ifCond .eq 12, 3) := by decide +kernel
theorem dX8_row_8 : decode cX8_row 8 = .ok (.iload_n 2, 1) := by decide +kernel
theorem dX8_row_9 : decode cX8_row 9 = .ok (.iconst 0, 1) := by decide +kernel
theorem dX8_row_10 : decode cX8_row 10 = .ok (.iconst 3, 1) := by decide +kernel
theorem dX8_row_11 : decode cX8_row 11 = .ok (.invokestatic 85, 3) := by decide +kernel
theorem dX8_row_14 : decode cX8_row 14 = .ok (.ifCond .ne 5, 3) := by decide +kernel
theorem dX8_row_17 : decode cX8_row 17 = .ok (.iconst (-1), 1) := by decide +kernel
theorem dX8_row_18 : decode cX8_row 18 = .ok (.ireturn, 1) := by decide +kernel
theorem dX8_row_19 : decode cX8_row 19 = .ok (.iload_n 3, 1) := by decide +kernel
theorem dX8_row_20 : decode cX8_row 20 = .ok (.iconst 0, 1) := by decide +kernel
theorem dX8_row_21 : decode cX8_row 21 = .ok (.bipush 9, 2) := by decide +kernel
theorem dX8_row_23 : decode cX8_row 23 = .ok (.invokestatic 85, 3) := by decide +kernel
theorem dX8_row_26 : decode cX8_row 26 = .ok (.ifCond .ne 6, 3) := by decide +kernel
theorem dX8_row_29 : decode cX8_row 29 = .ok (.bipush (-2), 2) := by decide +kernel
theorem dX8_row_31 : decode cX8_row 31 = .ok (.ireturn, 1) := by decide +kernel
theorem dX8_row_32 : decode cX8_row 32 = .ok (.aload_n 0, 1) := by decide +kernel
theorem dX8_row_33 : decode cX8_row 33 = .ok (.iload_n 1, 1) := by decide +kernel
theorem dX8_row_34 : decode cX8_row 34 = .ok (.iconst 0, 1) := by decide +kernel
theorem dX8_row_35 : decode cX8_row 35 = .ok (.invokevirtual 89, 3) := by decide +kernel
theorem dX8_row_38 : decode cX8_row 38 = .ok (.bipush 6, 2) := by decide +kernel
theorem dX8_row_40 : decode cX8_row 40 = .ok (.if_icmp .ne 16, 3) := by decide +kernel
theorem dX8_row_43 : decode cX8_row 43 = .ok (.aload_n 0, 1) := by decide +kernel
theorem dX8_row_44 : decode cX8_row 44 = .ok (.iload_n 1, 1) := by decide +kernel
theorem dX8_row_45 : decode cX8_row 45 = .ok (.bipush 6, 2) := by decide +kernel
theorem dX8_row_47 : decode cX8_row 47 = .ok (.iload_n 2, 1) := by decide +kernel
theorem dX8_row_48 : decode cX8_row 48 = .ok (.iadd, 1) := by decide +kernel
theorem dX8_row_49 : decode cX8_row 49 = .ok (.iload_n 3, 1) := by decide +kernel
theorem dX8_row_50 : decode cX8_row 50 = .ok (.invokevirtual 97, 3) := by decide +kernel
theorem dX8_row_53 : decode cX8_row 53 = .ok (.goto 5, 3) := by decide +kernel
theorem dX8_row_56 : decode cX8_row 56 = .ok (.bipush (-3), 2) := by decide +kernel
theorem dX8_row_58 : decode cX8_row 58 = .ok (.ireturn, 1) := by decide +kernel
theorem dX8_feed_0 : decode cX8_feed 0 = .ok (.iload_n 1, 1) := by decide +kernel
theorem dX8_feed_1 : decode cX8_feed 1 = .ok (.iconst 0, 1) := by decide +kernel
theorem dX8_feed_2 : decode cX8_feed 2 = .ok (.bipush 127, 2) := by decide +kernel
theorem dX8_feed_4 : decode cX8_feed 4 = .ok (.invokestatic 85, 3) := by decide +kernel
theorem dX8_feed_7 : decode cX8_feed 7 = .ok (.ifCond .ne 6, 3) := by decide +kernel
theorem dX8_feed_10 : decode cX8_feed 10 = .ok (.bipush (-2), 2) := by decide +kernel
theorem dX8_feed_12 : decode cX8_feed 12 = .ok (.ireturn, 1) := by decide +kernel
theorem dX8_feed_13 : decode cX8_feed 13 = .ok (.aload_n 0, 1) := by decide +kernel
theorem dX8_feed_14 : decode cX8_feed 14 = .ok (.getfield 117, 3) := by decide +kernel
theorem dX8_feed_17 : decode cX8_feed 17 = .ok (.bipush 100, 2) := by decide +kernel
theorem dX8_feed_19 : decode cX8_feed 19 = .ok (.if_icmp .ne 6, 3) := by decide +kernel
theorem dX8_feed_22 : decode cX8_feed 22 = .ok (.bipush (-4), 2) := by decide +kernel
theorem dX8_feed_24 : decode cX8_feed 24 = .ok (.ireturn, 1) := by decide +kernel
theorem dX8_feed_25 : decode cX8_feed 25 = .ok (.aload_n 0, 1) := by decide +kernel
theorem dX8_feed_26 : decode cX8_feed 26 = .ok (.getfield 25, 3) := by decide +kernel
theorem dX8_feed_29 : decode cX8_feed 29 = .ok (.aload_n 0, 1) := by decide +kernel
theorem dX8_feed_30 : decode cX8_feed 30 = .ok (.getfield 117, 3) := by decide +kernel
theorem dX8_feed_33 : decode cX8_feed 33 = .ok (.iload_n 1, 1) := by decide +kernel
theorem dX8_feed_34 : decode cX8_feed 34 = .ok (.iastore, 1) := by decide +kernel
theorem dX8_feed_35 : decode cX8_feed 35 = .ok (.aload_n 0, 1) := by decide +kernel
theorem dX8_feed_36 : decode cX8_feed 36 = .ok (.dup, 1) := by decide +kernel
theorem dX8_feed_37 : decode cX8_feed 37 = .ok (.getfield 117, 3) := by decide +kernel
theorem dX8_feed_40 : decode cX8_feed 40 = .ok (.iconst 1, 1) := by decide +kernel
theorem dX8_feed_41 : decode cX8_feed 41 = .ok (.iadd, 1) := by decide +kernel
theorem dX8_feed_42 : decode cX8_feed 42 = .ok (.putfield 117, 3) := by decide +kernel
theorem dX8_feed_45 : decode cX8_feed 45 = .ok (.aload_n 0, 1) := by decide +kernel
theorem dX8_feed_46 : decode cX8_feed 46 = .ok (.getfield 117, 3) := by decide +kernel
theorem dX8_feed_49 : decode cX8_feed 49 = .ok (.ireturn, 1) := by decide +kernel
theorem dX8_isAt_0 : decode cX8_isAt 0 = .ok (.aload_n 0, 1) := by decide +kernel
theorem dX8_isAt_1 : decode cX8_isAt 1 = .ok (.getfield 121, 3) := by decide +kernel
theorem dX8_isAt_4 : decode cX8_isAt 4 = .ok (.ifCond .eq 31, 3) := by decide +kernel
theorem dX8_isAt_7 : decode cX8_isAt 7 = .ok (.aload_n 0, 1) := by decide +kernel
theorem dX8_isAt_8 : decode cX8_isAt 8 = .ok (.getfield 124, 3) := by decide +kernel
theorem dX8_isAt_11 : decode cX8_isAt 11 = .ok (.aload_n 0, 1) := by decide +kernel
theorem dX8_isAt_12 : decode cX8_isAt 12 = .ok (.getfield 127, 3) := by decide +kernel
theorem dX8_isAt_15 : decode cX8_isAt 15 = .ok (.if_icmp .ge 20, 3) := by decide +kernel
theorem dX8_isAt_18 : decode cX8_isAt 18 = .ok (.aload_n 0, 1) := by decide +kernel
theorem dX8_isAt_19 : decode cX8_isAt 19 = .ok (.getfield 34, 3) := by decide +kernel
theorem dX8_isAt_22 : decode cX8_isAt 22 = .ok (.aload_n 0, 1) := by decide +kernel
theorem dX8_isAt_23 : decode cX8_isAt 23 = .ok (.getfield 124, 3) := by decide +kernel
theorem dX8_isAt_26 : decode cX8_isAt 26 = .ok (.iaload, 1) := by decide +kernel
theorem dX8_isAt_27 : decode cX8_isAt 27 = .ok (.iload_n 1, 1) := by decide +kernel
theorem dX8_isAt_28 : decode cX8_isAt 28 = .ok (.if_icmp .ne 7, 3) := by decide +kernel
theorem dX8_isAt_31 : decode cX8_isAt 31 = .ok (.iconst 1, 1) := by decide +kernel
theorem dX8_isAt_32 : decode cX8_isAt 32 = .ok (.goto 4, 3) := by decide +kernel
theorem dX8_isAt_35 : decode cX8_isAt 35 = .ok (.iconst 0, 1) := by decide +kernel
theorem dX8_isAt_36 : decode cX8_isAt 36 = .ok (.ireturn, 1) := by decide +kernel
theorem dX8_takes_0 : decode cX8_takes 0 = .ok (.aload_n 0, 1) := by decide +kernel
theorem dX8_takes_1 : decode cX8_takes 1 = .ok (.iload_n 1, 1) := by decide +kernel
theorem dX8_takes_2 : decode cX8_takes 2 = .ok (.invokevirtual 130, 3) := by decide +kernel
theorem dX8_takes_5 : decode cX8_takes 5 = .ok (.ifCond .eq 16, 3) := by decide +kernel
theorem dX8_takes_8 : decode cX8_takes 8 = .ok (.aload_n 0, 1) := by decide +kernel
theorem dX8_takes_9 : decode cX8_takes 9 = .ok (.dup, 1) := by decide +kernel
theorem dX8_takes_10 : decode cX8_takes 10 = .ok (.getfield 124, 3) := by decide +kernel
theorem dX8_takes_13 : decode cX8_takes 13 = .ok (.iconst 1, 1) := by decide +kernel
theorem dX8_takes_14 : decode cX8_takes 14 = .ok (.iadd, 1) := by decide +kernel
theorem dX8_takes_15 : decode cX8_takes 15 = .ok (.putfield 124, 3) := by decide +kernel
theorem dX8_takes_18 : decode cX8_takes 18 = .ok (.goto 8, 3) := by decide +kernel
theorem dX8_takes_21 : decode cX8_takes 21 = .ok (.aload_n 0, 1) := by decide +kernel
theorem dX8_takes_22 : decode cX8_takes 22 = .ok (.iconst 0, 1) := by decide +kernel
theorem dX8_takes_23 : decode cX8_takes 23 = .ok (.putfield 121, 3) := by decide +kernel
theorem dX8_takes_26 : decode cX8_takes 26 = .ok (.return_, 1) := by decide +kernel
theorem dX8_isDigit_0 : decode cX8_isDigit 0 = .ok (.aload_n 0, 1) := by decide +kernel
theorem dX8_isDigit_1 : decode cX8_isDigit 1 = .ok (.getfield 121, 3) := by decide +kernel
theorem dX8_isDigit_4 : decode cX8_isDigit 4 = .ok (.ifCond .eq 46, 3) := by decide +kernel
theorem dX8_isDigit_7 : decode cX8_isDigit 7 = .ok (.aload_n 0, 1) := by decide +kernel
theorem dX8_isDigit_8 : decode cX8_isDigit 8 = .ok (.getfield 124, 3) := by decide +kernel
theorem dX8_isDigit_11 : decode cX8_isDigit 11 = .ok (.aload_n 0, 1) := by decide +kernel
theorem dX8_isDigit_12 : decode cX8_isDigit 12 = .ok (.getfield 127, 3) := by decide +kernel
theorem dX8_isDigit_15 : decode cX8_isDigit 15 = .ok (.if_icmp .ge 35, 3) := by decide +kernel
theorem dX8_isDigit_18 : decode cX8_isDigit 18 = .ok (.aload_n 0, 1) := by decide +kernel
theorem dX8_isDigit_19 : decode cX8_isDigit 19 = .ok (.getfield 34, 3) := by decide +kernel
theorem dX8_isDigit_22 : decode cX8_isDigit 22 = .ok (.aload_n 0, 1) := by decide +kernel
theorem dX8_isDigit_23 : decode cX8_isDigit 23 = .ok (.getfield 124, 3) := by decide +kernel
theorem dX8_isDigit_26 : decode cX8_isDigit 26 = .ok (.iaload, 1) := by decide +kernel
theorem dX8_isDigit_27 : decode cX8_isDigit 27 = .ok (.bipush 48, 2) := by decide +kernel
theorem dX8_isDigit_29 : decode cX8_isDigit 29 = .ok (.if_icmp .lt 21, 3) := by decide +kernel
theorem dX8_isDigit_32 : decode cX8_isDigit 32 = .ok (.aload_n 0, 1) := by decide +kernel
theorem dX8_isDigit_33 : decode cX8_isDigit 33 = .ok (.getfield 34, 3) := by decide +kernel
theorem dX8_isDigit_36 : decode cX8_isDigit 36 = .ok (.aload_n 0, 1) := by decide +kernel
theorem dX8_isDigit_37 : decode cX8_isDigit 37 = .ok (.getfield 124, 3) := by decide +kernel
theorem dX8_isDigit_40 : decode cX8_isDigit 40 = .ok (.iaload, 1) := by decide +kernel
theorem dX8_isDigit_41 : decode cX8_isDigit 41 = .ok (.bipush 57, 2) := by decide +kernel
theorem dX8_isDigit_43 : decode cX8_isDigit 43 = .ok (.if_icmp .gt 7, 3) := by decide +kernel
theorem dX8_isDigit_46 : decode cX8_isDigit 46 = .ok (.iconst 1, 1) := by decide +kernel
theorem dX8_isDigit_47 : decode cX8_isDigit 47 = .ok (.goto 4, 3) := by decide +kernel
theorem dX8_isDigit_50 : decode cX8_isDigit 50 = .ok (.iconst 0, 1) := by decide +kernel
theorem dX8_isDigit_51 : decode cX8_isDigit 51 = .ok (.ireturn, 1) := by decide +kernel
theorem dX8_number_0 : decode cX8_number 0 = .ok (.aload_n 0, 1) := by decide +kernel
theorem dX8_number_1 : decode cX8_number 1 = .ok (.invokevirtual 133, 3) := by decide +kernel
theorem dX8_number_4 : decode cX8_number 4 = .ok (.ifCond .ne 10, 3) := by decide +kernel
theorem dX8_number_7 : decode cX8_number 7 = .ok (.aload_n 0, 1) := by decide +kernel
theorem dX8_number_8 : decode cX8_number 8 = .ok (.iconst 0, 1) := by decide +kernel
theorem dX8_number_9 : decode cX8_number 9 = .ok (.putfield 121, 3) := by decide +kernel
theorem dX8_number_12 : decode cX8_number 12 = .ok (.iconst 0, 1) := by decide +kernel
theorem dX8_number_13 : decode cX8_number 13 = .ok (.ireturn, 1) := by decide +kernel
theorem dX8_number_14 : decode cX8_number 14 = .ok (.aload_n 0, 1) := by decide +kernel
theorem dX8_number_15 : decode cX8_number 15 = .ok (.getfield 34, 3) := by decide +kernel
theorem dX8_number_18 : decode cX8_number 18 = .ok (.aload_n 0, 1) := by decide +kernel
theorem dX8_number_19 : decode cX8_number 19 = .ok (.getfield 124, 3) := by decide +kernel
theorem dX8_number_22 : decode cX8_number 22 = .ok (.iaload, 1) := by decide +kernel
theorem dX8_number_23 : decode cX8_number 23 = .ok (.bipush 48, 2) := by decide +kernel
theorem dX8_number_25 : decode cX8_number 25 = .ok (.isub, 1) := by decide +kernel
theorem dX8_number_26 : decode cX8_number 26 = .ok (.istore_n 1, 1) := by decide +kernel
theorem dX8_number_27 : decode cX8_number 27 = .ok (.aload_n 0, 1) := by decide +kernel
theorem dX8_number_28 : decode cX8_number 28 = .ok (.dup, 1) := by decide +kernel
theorem dX8_number_29 : decode cX8_number 29 = .ok (.getfield 124, 3) := by decide +kernel
theorem dX8_number_32 : decode cX8_number 32 = .ok (.iconst 1, 1) := by decide +kernel
theorem dX8_number_33 : decode cX8_number 33 = .ok (.iadd, 1) := by decide +kernel
theorem dX8_number_34 : decode cX8_number 34 = .ok (.putfield 124, 3) := by decide +kernel
theorem dX8_number_37 : decode cX8_number 37 = .ok (.aload_n 0, 1) := by decide +kernel
theorem dX8_number_38 : decode cX8_number 38 = .ok (.invokevirtual 133, 3) := by decide +kernel
theorem dX8_number_41 : decode cX8_number 41 = .ok (.ifCond .eq 31, 3) := by decide +kernel
theorem dX8_number_44 : decode cX8_number 44 = .ok (.bipush 10, 2) := by decide +kernel
theorem dX8_number_46 : decode cX8_number 46 = .ok (.iload_n 1, 1) := by decide +kernel
theorem dX8_number_47 : decode cX8_number 47 = .ok (.imul, 1) := by decide +kernel
theorem dX8_number_48 : decode cX8_number 48 = .ok (.aload_n 0, 1) := by decide +kernel
theorem dX8_number_49 : decode cX8_number 49 = .ok (.getfield 34, 3) := by decide +kernel
theorem dX8_number_52 : decode cX8_number 52 = .ok (.aload_n 0, 1) := by decide +kernel
theorem dX8_number_53 : decode cX8_number 53 = .ok (.getfield 124, 3) := by decide +kernel
theorem dX8_number_56 : decode cX8_number 56 = .ok (.iaload, 1) := by decide +kernel
theorem dX8_number_57 : decode cX8_number 57 = .ok (.iadd, 1) := by decide +kernel
theorem dX8_number_58 : decode cX8_number 58 = .ok (.bipush 48, 2) := by decide +kernel
theorem dX8_number_60 : decode cX8_number 60 = .ok (.isub, 1) := by decide +kernel
theorem dX8_number_61 : decode cX8_number 61 = .ok (.istore_n 1, 1) := by decide +kernel
theorem dX8_number_62 : decode cX8_number 62 = .ok (.aload_n 0, 1) := by decide +kernel
theorem dX8_number_63 : decode cX8_number 63 = .ok (.dup, 1) := by decide +kernel
theorem dX8_number_64 : decode cX8_number 64 = .ok (.getfield 124, 3) := by decide +kernel
theorem dX8_number_67 : decode cX8_number 67 = .ok (.iconst 1, 1) := by decide +kernel
theorem dX8_number_68 : decode cX8_number 68 = .ok (.iadd, 1) := by decide +kernel
theorem dX8_number_69 : decode cX8_number 69 = .ok (.putfield 124, 3) := by decide +kernel
theorem dX8_number_72 : decode cX8_number 72 = .ok (.iload_n 1, 1) := by decide +kernel
theorem dX8_number_73 : decode cX8_number 73 = .ok (.ireturn, 1) := by decide +kernel
theorem dX8_test_0 : decode cX8_test 0 = .ok (.iconst (-1), 1) := by decide +kernel
theorem dX8_test_1 : decode cX8_test 1 = .ok (.istore_n 1, 1) := by decide +kernel
theorem dX8_test_2 : decode cX8_test 2 = .ok (.iconst 0, 1) := by decide +kernel
theorem dX8_test_3 : decode cX8_test 3 = .ok (.istore_n 2, 1) := by decide +kernel
theorem dX8_test_4 : decode cX8_test 4 = .ok (.iload_n 2, 1) := by decide +kernel
theorem dX8_test_5 : decode cX8_test 5 = .ok (.bipush 6, 2) := by decide +kernel
theorem dX8_test_7 : decode cX8_test 7 = .ok (.if_icmp .ge 28, 3) := by decide +kernel
theorem dX8_test_10 : decode cX8_test 10 = .ok (.aload_n 0, 1) := by decide +kernel
theorem dX8_test_11 : decode cX8_test 11 = .ok (.aload_n 0, 1) := by decide +kernel
theorem dX8_test_12 : decode cX8_test 12 = .ok (.getfield 40, 3) := by decide +kernel
theorem dX8_test_15 : decode cX8_test 15 = .ok (.iload_n 2, 1) := by decide +kernel
theorem dX8_test_16 : decode cX8_test 16 = .ok (.caload, 1) := by decide +kernel
theorem dX8_test_17 : decode cX8_test 17 = .ok (.invokevirtual 130, 3) := by decide +kernel
theorem dX8_test_20 : decode cX8_test 20 = .ok (.ifCond .eq 7, 3) := by decide +kernel
theorem dX8_test_23 : decode cX8_test 23 = .ok (.iload_n 2, 1) := by decide +kernel
theorem dX8_test_24 : decode cX8_test 24 = .ok (.goto 4, 3) := by decide +kernel
theorem dX8_test_27 : decode cX8_test 27 = .ok (.iload_n 1, 1) := by decide +kernel
theorem dX8_test_28 : decode cX8_test 28 = .ok (.istore_n 1, 1) := by decide +kernel
theorem dX8_test_29 : decode cX8_test 29 = .ok (.iinc 2 1, 3) := by decide +kernel
theorem dX8_test_32 : decode cX8_test 32 = .ok (.goto (-28), 3) := by decide +kernel
theorem dX8_test_35 : decode cX8_test 35 = .ok (.iload_n 1, 1) := by decide +kernel
theorem dX8_test_36 : decode cX8_test 36 = .ok (.iconst (-1), 1) := by decide +kernel
theorem dX8_test_37 : decode cX8_test 37 = .ok (.if_icmp .ne 10, 3) := by decide +kernel
theorem dX8_test_40 : decode cX8_test 40 = .ok (.aload_n 0, 1) := by decide +kernel
theorem dX8_test_41 : decode cX8_test 41 = .ok (.iconst 0, 1) := by decide +kernel
theorem dX8_test_42 : decode cX8_test 42 = .ok (.putfield 121, 3) := by decide +kernel
theorem dX8_test_45 : decode cX8_test 45 = .ok (.iconst 0, 1) := by decide +kernel
theorem dX8_test_46 : decode cX8_test 46 = .ok (.ireturn, 1) := by decide +kernel
theorem dX8_test_47 : decode cX8_test 47 = .ok (.aload_n 0, 1) := by decide +kernel
theorem dX8_test_48 : decode cX8_test 48 = .ok (.dup, 1) := by decide +kernel
theorem dX8_test_49 : decode cX8_test 49 = .ok (.getfield 124, 3) := by decide +kernel
theorem dX8_test_52 : decode cX8_test 52 = .ok (.iconst 1, 1) := by decide +kernel
theorem dX8_test_53 : decode cX8_test 53 = .ok (.iadd, 1) := by decide +kernel
theorem dX8_test_54 : decode cX8_test 54 = .ok (.putfield 124, 3) := by decide +kernel
theorem dX8_test_57 : decode cX8_test 57 = .ok (.aload_n 0, 1) := by decide +kernel
theorem dX8_test_58 : decode cX8_test 58 = .ok (.bipush 60, 2) := by decide +kernel
theorem dX8_test_60 : decode cX8_test 60 = .ok (.invokevirtual 130, 3) := by decide +kernel
theorem dX8_test_63 : decode cX8_test 63 = .ok (.ifCond .eq 7, 3) := by decide +kernel
theorem dX8_test_66 : decode cX8_test 66 = .ok (.iconst (-1), 1) := by decide +kernel
theorem dX8_test_67 : decode cX8_test 67 = .ok (.goto 17, 3) := by decide +kernel
theorem dX8_test_70 : decode cX8_test 70 = .ok (.aload_n 0, 1) := by decide +kernel
theorem dX8_test_71 : decode cX8_test 71 = .ok (.bipush 62, 2) := by decide +kernel
theorem dX8_test_73 : decode cX8_test 73 = .ok (.invokevirtual 130, 3) := by decide +kernel
theorem dX8_test_76 : decode cX8_test 76 = .ok (.ifCond .eq 7, 3) := by decide +kernel
theorem dX8_test_79 : decode cX8_test 79 = .ok (.iconst 1, 1) := by decide +kernel
theorem dX8_test_80 : decode cX8_test 80 = .ok (.goto 4, 3) := by decide +kernel
theorem dX8_test_83 : decode cX8_test 83 = .ok (.iconst 0, 1) := by decide +kernel
theorem dX8_test_84 : decode cX8_test 84 = .ok (.istore_n 2, 1) := by decide +kernel
theorem dX8_test_85 : decode cX8_test 85 = .ok (.aload_n 0, 1) := by decide +kernel
theorem dX8_test_86 : decode cX8_test 86 = .ok (.iload_n 2, 1) := by decide +kernel
theorem dX8_test_87 : decode cX8_test 87 = .ok (.ifCond .ge 8, 3) := by decide +kernel
theorem dX8_test_90 : decode cX8_test 90 = .ok (.bipush 60, 2) := by decide +kernel
theorem dX8_test_92 : decode cX8_test 92 = .ok (.goto 14, 3) := by decide +kernel
theorem dX8_test_95 : decode cX8_test 95 = .ok (.iload_n 2, 1) := by decide +kernel
theorem dX8_test_96 : decode cX8_test 96 = .ok (.ifCond .le 8, 3) := by decide +kernel
theorem dX8_test_99 : decode cX8_test 99 = .ok (.bipush 62, 2) := by decide +kernel
theorem dX8_test_101 : decode cX8_test 101 = .ok (.goto 5, 3) := by decide +kernel
theorem dX8_test_104 : decode cX8_test 104 = .ok (.bipush 61, 2) := by decide +kernel
theorem dX8_test_106 : decode cX8_test 106 = .ok (.invokevirtual 137, 3) := by decide +kernel
theorem dX8_test_109 : decode cX8_test 109 = .ok (.aload_n 0, 1) := by decide +kernel
theorem dX8_test_110 : decode cX8_test 110 = .ok (.invokevirtual 141, 3) := by decide +kernel
theorem dX8_test_113 : decode cX8_test 113 = .ok (.istore_n 3, 1) := by decide +kernel
theorem dX8_test_114 : decode cX8_test 114 = .ok (.iload_n 2, 1) := by decide +kernel
theorem dX8_test_115 : decode cX8_test 115 = .ok (.ifCond .ge 21, 3) := by decide +kernel
theorem dX8_test_118 : decode cX8_test 118 = .ok (.aload_n 0, 1) := by decide +kernel
theorem dX8_test_119 : decode cX8_test 119 = .ok (.getfield 37, 3) := by decide +kernel
theorem dX8_test_122 : decode cX8_test 122 = .ok (.iload_n 1, 1) := by decide +kernel
theorem dX8_test_123 : decode cX8_test 123 = .ok (.iaload, 1) := by decide +kernel
theorem dX8_test_124 : decode cX8_test 124 = .ok (.iload_n 3, 1) := by decide +kernel
theorem dX8_test_125 : decode cX8_test 125 = .ok (.if_icmp .ge 7, 3) := by decide +kernel
theorem dX8_test_128 : decode cX8_test 128 = .ok (.iconst 1, 1) := by decide +kernel
theorem dX8_test_129 : decode cX8_test 129 = .ok (.goto 44, 3) := by decide +kernel
theorem dX8_test_132 : decode cX8_test 132 = .ok (.iconst 0, 1) := by decide +kernel
theorem dX8_test_133 : decode cX8_test 133 = .ok (.goto 40, 3) := by decide +kernel
theorem dX8_test_136 : decode cX8_test 136 = .ok (.iload_n 2, 1) := by decide +kernel
theorem dX8_test_137 : decode cX8_test 137 = .ok (.ifCond .le 21, 3) := by decide +kernel
theorem dX8_test_140 : decode cX8_test 140 = .ok (.aload_n 0, 1) := by decide +kernel
theorem dX8_test_141 : decode cX8_test 141 = .ok (.getfield 37, 3) := by decide +kernel
theorem dX8_test_144 : decode cX8_test 144 = .ok (.iload_n 1, 1) := by decide +kernel
theorem dX8_test_145 : decode cX8_test 145 = .ok (.iaload, 1) := by decide +kernel
theorem dX8_test_146 : decode cX8_test 146 = .ok (.iload_n 3, 1) := by decide +kernel
theorem dX8_test_147 : decode cX8_test 147 = .ok (.if_icmp .le 7, 3) := by decide +kernel
theorem dX8_test_150 : decode cX8_test 150 = .ok (.iconst 1, 1) := by decide +kernel
theorem dX8_test_151 : decode cX8_test 151 = .ok (.goto 22, 3) := by decide +kernel
theorem dX8_test_154 : decode cX8_test 154 = .ok (.iconst 0, 1) := by decide +kernel
theorem dX8_test_155 : decode cX8_test 155 = .ok (.goto 18, 3) := by decide +kernel
theorem dX8_test_158 : decode cX8_test 158 = .ok (.aload_n 0, 1) := by decide +kernel
theorem dX8_test_159 : decode cX8_test 159 = .ok (.getfield 37, 3) := by decide +kernel
theorem dX8_test_162 : decode cX8_test 162 = .ok (.iload_n 1, 1) := by decide +kernel
theorem dX8_test_163 : decode cX8_test 163 = .ok (.iaload, 1) := by decide +kernel
theorem dX8_test_164 : decode cX8_test 164 = .ok (.iload_n 3, 1) := by decide +kernel
theorem dX8_test_165 : decode cX8_test 165 = .ok (.if_icmp .ne 7, 3) := by decide +kernel
theorem dX8_test_168 : decode cX8_test 168 = .ok (.iconst 1, 1) := by decide +kernel
theorem dX8_test_169 : decode cX8_test 169 = .ok (.goto 4, 3) := by decide +kernel
theorem dX8_test_172 : decode cX8_test 172 = .ok (.iconst 0, 1) := by decide +kernel
theorem dX8_test_173 : decode cX8_test 173 = .ok (.ireturn, 1) := by decide +kernel
theorem dX8_factor_0 : decode cX8_factor 0 = .ok (.aload_n 0, 1) := by decide +kernel
theorem dX8_factor_1 : decode cX8_factor 1 = .ok (.getfield 145, 3) := by decide +kernel
theorem dX8_factor_4 : decode cX8_factor 4 = .ok (.iconst 4, 1) := by decide +kernel
theorem dX8_factor_5 : decode cX8_factor 5 = .ok (.if_icmp .ge 58, 3) := by decide +kernel
theorem dX8_factor_8 : decode cX8_factor 8 = .ok (.aload_n 0, 1) := by decide +kernel
theorem dX8_factor_9 : decode cX8_factor 9 = .ok (.bipush 33, 2) := by decide +kernel
theorem dX8_factor_11 : decode cX8_factor 11 = .ok (.invokevirtual 130, 3) := by decide +kernel
theorem dX8_factor_14 : decode cX8_factor 14 = .ok (.ifCond .eq 49, 3) := by decide +kernel
theorem dX8_factor_17 : decode cX8_factor 17 = .ok (.aload_n 0, 1) := by decide +kernel
theorem dX8_factor_18 : decode cX8_factor 18 = .ok (.dup, 1) := by decide +kernel
theorem dX8_factor_19 : decode cX8_factor 19 = .ok (.getfield 124, 3) := by decide +kernel
theorem dX8_factor_22 : decode cX8_factor 22 = .ok (.iconst 1, 1) := by decide +kernel
theorem dX8_factor_23 : decode cX8_factor 23 = .ok (.iadd, 1) := by decide +kernel
theorem dX8_factor_24 : decode cX8_factor 24 = .ok (.putfield 124, 3) := by decide +kernel
theorem dX8_factor_27 : decode cX8_factor 27 = .ok (.aload_n 0, 1) := by decide +kernel
theorem dX8_factor_28 : decode cX8_factor 28 = .ok (.dup, 1) := by decide +kernel
theorem dX8_factor_29 : decode cX8_factor 29 = .ok (.getfield 145, 3) := by decide +kernel
theorem dX8_factor_32 : decode cX8_factor 32 = .ok (.iconst 1, 1) := by decide +kernel
theorem dX8_factor_33 : decode cX8_factor 33 = .ok (.iadd, 1) := by decide +kernel
theorem dX8_factor_34 : decode cX8_factor 34 = .ok (.putfield 145, 3) := by decide +kernel
theorem dX8_factor_37 : decode cX8_factor 37 = .ok (.aload_n 0, 1) := by decide +kernel
theorem dX8_factor_38 : decode cX8_factor 38 = .ok (.invokevirtual 148, 3) := by decide +kernel
theorem dX8_factor_41 : decode cX8_factor 41 = .ok (.ifCond .ne 7, 3) := by decide +kernel
theorem dX8_factor_44 : decode cX8_factor 44 = .ok (.iconst 1, 1) := by decide +kernel
theorem dX8_factor_45 : decode cX8_factor 45 = .ok (.goto 4, 3) := by decide +kernel
theorem dX8_factor_48 : decode cX8_factor 48 = .ok (.iconst 0, 1) := by decide +kernel
theorem dX8_factor_49 : decode cX8_factor 49 = .ok (.istore_n 1, 1) := by decide +kernel
theorem dX8_factor_50 : decode cX8_factor 50 = .ok (.aload_n 0, 1) := by decide +kernel
theorem dX8_factor_51 : decode cX8_factor 51 = .ok (.dup, 1) := by decide +kernel
theorem dX8_factor_52 : decode cX8_factor 52 = .ok (.getfield 145, 3) := by decide +kernel
theorem dX8_factor_55 : decode cX8_factor 55 = .ok (.iconst 1, 1) := by decide +kernel
theorem dX8_factor_56 : decode cX8_factor 56 = .ok (.isub, 1) := by decide +kernel
theorem dX8_factor_57 : decode cX8_factor 57 = .ok (.putfield 145, 3) := by decide +kernel
theorem dX8_factor_60 : decode cX8_factor 60 = .ok (.goto 69, 3) := by decide +kernel
theorem dX8_factor_63 : decode cX8_factor 63 = .ok (.aload_n 0, 1) := by decide +kernel
theorem dX8_factor_64 : decode cX8_factor 64 = .ok (.getfield 145, 3) := by decide +kernel
theorem dX8_factor_67 : decode cX8_factor 67 = .ok (.iconst 4, 1) := by decide +kernel
theorem dX8_factor_68 : decode cX8_factor 68 = .ok (.if_icmp .ge 56, 3) := by decide +kernel
theorem dX8_factor_71 : decode cX8_factor 71 = .ok (.aload_n 0, 1) := by decide +kernel
theorem dX8_factor_72 : decode cX8_factor 72 = .ok (.bipush 40, 2) := by decide +kernel
theorem dX8_factor_74 : decode cX8_factor 74 = .ok (.invokevirtual 130, 3) := by decide +kernel
theorem dX8_factor_77 : decode cX8_factor 77 = .ok (.ifCond .eq 47, 3) := by decide +kernel
theorem dX8_factor_80 : decode cX8_factor 80 = .ok (.aload_n 0, 1) := by decide +kernel
theorem dX8_factor_81 : decode cX8_factor 81 = .ok (.dup, 1) := by decide +kernel
theorem dX8_factor_82 : decode cX8_factor 82 = .ok (.getfield 124, 3) := by decide +kernel
theorem dX8_factor_85 : decode cX8_factor 85 = .ok (.iconst 1, 1) := by decide +kernel
theorem dX8_factor_86 : decode cX8_factor 86 = .ok (.iadd, 1) := by decide +kernel
theorem dX8_factor_87 : decode cX8_factor 87 = .ok (.putfield 124, 3) := by decide +kernel
theorem dX8_factor_90 : decode cX8_factor 90 = .ok (.aload_n 0, 1) := by decide +kernel
theorem dX8_factor_91 : decode cX8_factor 91 = .ok (.dup, 1) := by decide +kernel
theorem dX8_factor_92 : decode cX8_factor 92 = .ok (.getfield 145, 3) := by decide +kernel
theorem dX8_factor_95 : decode cX8_factor 95 = .ok (.iconst 1, 1) := by decide +kernel
theorem dX8_factor_96 : decode cX8_factor 96 = .ok (.iadd, 1) := by decide +kernel
theorem dX8_factor_97 : decode cX8_factor 97 = .ok (.putfield 145, 3) := by decide +kernel
theorem dX8_factor_100 : decode cX8_factor 100 = .ok (.aload_n 0, 1) := by decide +kernel
theorem dX8_factor_101 : decode cX8_factor 101 = .ok (.invokevirtual 151, 3) := by decide +kernel
theorem dX8_factor_104 : decode cX8_factor 104 = .ok (.istore_n 1, 1) := by decide +kernel
theorem dX8_factor_105 : decode cX8_factor 105 = .ok (.aload_n 0, 1) := by decide +kernel
theorem dX8_factor_106 : decode cX8_factor 106 = .ok (.dup, 1) := by decide +kernel
theorem dX8_factor_107 : decode cX8_factor 107 = .ok (.getfield 145, 3) := by decide +kernel
theorem dX8_factor_110 : decode cX8_factor 110 = .ok (.iconst 1, 1) := by decide +kernel
theorem dX8_factor_111 : decode cX8_factor 111 = .ok (.isub, 1) := by decide +kernel
theorem dX8_factor_112 : decode cX8_factor 112 = .ok (.putfield 145, 3) := by decide +kernel
theorem dX8_factor_115 : decode cX8_factor 115 = .ok (.aload_n 0, 1) := by decide +kernel
theorem dX8_factor_116 : decode cX8_factor 116 = .ok (.bipush 41, 2) := by decide +kernel
theorem dX8_factor_118 : decode cX8_factor 118 = .ok (.invokevirtual 137, 3) := by decide +kernel
theorem dX8_factor_121 : decode cX8_factor 121 = .ok (.goto 8, 3) := by decide +kernel
theorem dX8_factor_124 : decode cX8_factor 124 = .ok (.aload_n 0, 1) := by decide +kernel
theorem dX8_factor_125 : decode cX8_factor 125 = .ok (.invokevirtual 154, 3) := by decide +kernel
theorem dX8_factor_128 : decode cX8_factor 128 = .ok (.istore_n 1, 1) := by decide +kernel
theorem dX8_factor_129 : decode cX8_factor 129 = .ok (.iload_n 1, 1) := by decide +kernel
theorem dX8_factor_130 : decode cX8_factor 130 = .ok (.ireturn, 1) := by decide +kernel
theorem dX8_both_0 : decode cX8_both 0 = .ok (.aload_n 0, 1) := by decide +kernel
theorem dX8_both_1 : decode cX8_both 1 = .ok (.invokevirtual 148, 3) := by decide +kernel
theorem dX8_both_4 : decode cX8_both 4 = .ok (.istore_n 1, 1) := by decide +kernel
theorem dX8_both_5 : decode cX8_both 5 = .ok (.aload_n 0, 1) := by decide +kernel
theorem dX8_both_6 : decode cX8_both 6 = .ok (.bipush 38, 2) := by decide +kernel
theorem dX8_both_8 : decode cX8_both 8 = .ok (.invokevirtual 130, 3) := by decide +kernel
theorem dX8_both_11 : decode cX8_both 11 = .ok (.ifCond .eq 35, 3) := by decide +kernel
theorem dX8_both_14 : decode cX8_both 14 = .ok (.aload_n 0, 1) := by decide +kernel
theorem dX8_both_15 : decode cX8_both 15 = .ok (.dup, 1) := by decide +kernel
theorem dX8_both_16 : decode cX8_both 16 = .ok (.getfield 124, 3) := by decide +kernel
theorem dX8_both_19 : decode cX8_both 19 = .ok (.iconst 1, 1) := by decide +kernel
theorem dX8_both_20 : decode cX8_both 20 = .ok (.iadd, 1) := by decide +kernel
theorem dX8_both_21 : decode cX8_both 21 = .ok (.putfield 124, 3) := by decide +kernel
theorem dX8_both_24 : decode cX8_both 24 = .ok (.aload_n 0, 1) := by decide +kernel
theorem dX8_both_25 : decode cX8_both 25 = .ok (.invokevirtual 148, 3) := by decide +kernel
theorem dX8_both_28 : decode cX8_both 28 = .ok (.istore_n 2, 1) := by decide +kernel
theorem dX8_both_29 : decode cX8_both 29 = .ok (.iload_n 1, 1) := by decide +kernel
theorem dX8_both_30 : decode cX8_both 30 = .ok (.ifCond .eq 11, 3) := by decide +kernel
theorem dX8_both_33 : decode cX8_both 33 = .ok (.iload_n 2, 1) := by decide +kernel
theorem dX8_both_34 : decode cX8_both 34 = .ok (.ifCond .eq 7, 3) := by decide +kernel
theorem dX8_both_37 : decode cX8_both 37 = .ok (.iconst 1, 1) := by decide +kernel
theorem dX8_both_38 : decode cX8_both 38 = .ok (.goto 4, 3) := by decide +kernel
theorem dX8_both_41 : decode cX8_both 41 = .ok (.iconst 0, 1) := by decide +kernel
theorem dX8_both_42 : decode cX8_both 42 = .ok (.istore_n 1, 1) := by decide +kernel
theorem dX8_both_43 : decode cX8_both 43 = .ok (.goto (-38), 3) := by decide +kernel
theorem dX8_both_46 : decode cX8_both 46 = .ok (.iload_n 1, 1) := by decide +kernel
theorem dX8_both_47 : decode cX8_both 47 = .ok (.ireturn, 1) := by decide +kernel
theorem dX8_any_0 : decode cX8_any 0 = .ok (.aload_n 0, 1) := by decide +kernel
theorem dX8_any_1 : decode cX8_any 1 = .ok (.invokevirtual 157, 3) := by decide +kernel
theorem dX8_any_4 : decode cX8_any 4 = .ok (.istore_n 1, 1) := by decide +kernel
theorem dX8_any_5 : decode cX8_any 5 = .ok (.aload_n 0, 1) := by decide +kernel
theorem dX8_any_6 : decode cX8_any 6 = .ok (.bipush 124, 2) := by decide +kernel
theorem dX8_any_8 : decode cX8_any 8 = .ok (.invokevirtual 130, 3) := by decide +kernel
theorem dX8_any_11 : decode cX8_any 11 = .ok (.ifCond .eq 35, 3) := by decide +kernel
theorem dX8_any_14 : decode cX8_any 14 = .ok (.aload_n 0, 1) := by decide +kernel
theorem dX8_any_15 : decode cX8_any 15 = .ok (.dup, 1) := by decide +kernel
theorem dX8_any_16 : decode cX8_any 16 = .ok (.getfield 124, 3) := by decide +kernel
theorem dX8_any_19 : decode cX8_any 19 = .ok (.iconst 1, 1) := by decide +kernel
theorem dX8_any_20 : decode cX8_any 20 = .ok (.iadd, 1) := by decide +kernel
theorem dX8_any_21 : decode cX8_any 21 = .ok (.putfield 124, 3) := by decide +kernel
theorem dX8_any_24 : decode cX8_any 24 = .ok (.aload_n 0, 1) := by decide +kernel
theorem dX8_any_25 : decode cX8_any 25 = .ok (.invokevirtual 157, 3) := by decide +kernel
theorem dX8_any_28 : decode cX8_any 28 = .ok (.istore_n 2, 1) := by decide +kernel
theorem dX8_any_29 : decode cX8_any 29 = .ok (.iload_n 1, 1) := by decide +kernel
theorem dX8_any_30 : decode cX8_any 30 = .ok (.ifCond .ne 7, 3) := by decide +kernel
theorem dX8_any_33 : decode cX8_any 33 = .ok (.iload_n 2, 1) := by decide +kernel
theorem dX8_any_34 : decode cX8_any 34 = .ok (.ifCond .eq 7, 3) := by decide +kernel
theorem dX8_any_37 : decode cX8_any 37 = .ok (.iconst 1, 1) := by decide +kernel
theorem dX8_any_38 : decode cX8_any 38 = .ok (.goto 4, 3) := by decide +kernel
theorem dX8_any_41 : decode cX8_any 41 = .ok (.iconst 0, 1) := by decide +kernel
theorem dX8_any_42 : decode cX8_any 42 = .ok (.istore_n 1, 1) := by decide +kernel
theorem dX8_any_43 : decode cX8_any 43 = .ok (.goto (-38), 3) := by decide +kernel
theorem dX8_any_46 : decode cX8_any 46 = .ok (.iload_n 1, 1) := by decide +kernel
theorem dX8_any_47 : decode cX8_any 47 = .ok (.ireturn, 1) := by decide +kernel
theorem dX8_clause_0 : decode cX8_clause 0 = .ok (.iconst (-1), 1) := by decide +kernel
theorem dX8_clause_1 : decode cX8_clause 1 = .ok (.istore_n 1, 1) := by decide +kernel
theorem dX8_clause_2 : decode cX8_clause 2 = .ok (.iconst 0, 1) := by decide +kernel
theorem dX8_clause_3 : decode cX8_clause 3 = .ok (.istore_n 2, 1) := by decide +kernel
theorem dX8_clause_4 : decode cX8_clause 4 = .ok (.iload_n 2, 1) := by decide +kernel
theorem dX8_clause_5 : decode cX8_clause 5 = .ok (.iconst 3, 1) := by decide +kernel
theorem dX8_clause_6 : decode cX8_clause 6 = .ok (.if_icmp .ge 28, 3) := by decide +kernel
theorem dX8_clause_9 : decode cX8_clause 9 = .ok (.aload_n 0, 1) := by decide +kernel
theorem dX8_clause_10 : decode cX8_clause 10 = .ok (.aload_n 0, 1) := by decide +kernel
theorem dX8_clause_11 : decode cX8_clause 11 = .ok (.getfield 44, 3) := by decide +kernel
theorem dX8_clause_14 : decode cX8_clause 14 = .ok (.iload_n 2, 1) := by decide +kernel
theorem dX8_clause_15 : decode cX8_clause 15 = .ok (.caload, 1) := by decide +kernel
theorem dX8_clause_16 : decode cX8_clause 16 = .ok (.invokevirtual 130, 3) := by decide +kernel
theorem dX8_clause_19 : decode cX8_clause 19 = .ok (.ifCond .eq 7, 3) := by decide +kernel
theorem dX8_clause_22 : decode cX8_clause 22 = .ok (.iload_n 2, 1) := by decide +kernel
theorem dX8_clause_23 : decode cX8_clause 23 = .ok (.goto 4, 3) := by decide +kernel
theorem dX8_clause_26 : decode cX8_clause 26 = .ok (.iload_n 1, 1) := by decide +kernel
theorem dX8_clause_27 : decode cX8_clause 27 = .ok (.istore_n 1, 1) := by decide +kernel
theorem dX8_clause_28 : decode cX8_clause 28 = .ok (.iinc 2 1, 3) := by decide +kernel
theorem dX8_clause_31 : decode cX8_clause 31 = .ok (.goto (-27), 3) := by decide +kernel
theorem dX8_clause_34 : decode cX8_clause 34 = .ok (.iload_n 1, 1) := by decide +kernel
theorem dX8_clause_35 : decode cX8_clause 35 = .ok (.iconst (-1), 1) := by decide +kernel
theorem dX8_clause_36 : decode cX8_clause 36 = .ok (.if_icmp .ne 9, 3) := by decide +kernel
theorem dX8_clause_39 : decode cX8_clause 39 = .ok (.aload_n 0, 1) := by decide +kernel
theorem dX8_clause_40 : decode cX8_clause 40 = .ok (.iconst 0, 1) := by decide +kernel
theorem dX8_clause_41 : decode cX8_clause 41 = .ok (.putfield 121, 3) := by decide +kernel
theorem dX8_clause_44 : decode cX8_clause 44 = .ok (.return_, 1) := by decide +kernel
theorem dX8_clause_45 : decode cX8_clause 45 = .ok (.iconst 0, 1) := by decide +kernel
theorem dX8_clause_46 : decode cX8_clause 46 = .ok (.istore_n 2, 1) := by decide +kernel
theorem dX8_clause_47 : decode cX8_clause 47 = .ok (.iload_n 2, 1) := by decide +kernel
theorem dX8_clause_48 : decode cX8_clause 48 = .ok (.iconst 5, 1) := by decide +kernel
theorem dX8_clause_49 : decode cX8_clause 49 = .ok (.if_icmp .ge 36, 3) := by decide +kernel
theorem dX8_clause_52 : decode cX8_clause 52 = .ok (.aload_n 0, 1) := by decide +kernel
theorem dX8_clause_53 : decode cX8_clause 53 = .ok (.getfield 47, 3) := by decide +kernel
theorem dX8_clause_56 : decode cX8_clause 56 = .ok (.iconst 5, 1) := by decide +kernel
theorem dX8_clause_57 : decode cX8_clause 57 = .ok (.iload_n 1, 1) := by decide +kernel
theorem dX8_clause_58 : decode cX8_clause 58 = .ok (.imul, 1) := by decide +kernel
theorem dX8_clause_59 : decode cX8_clause 59 = .ok (.iload_n 2, 1) := by decide +kernel
theorem dX8_clause_60 : decode cX8_clause 60 = .ok (.iadd, 1) := by decide +kernel
theorem dX8_clause_61 : decode cX8_clause 61 = .ok (.caload, 1) := by decide +kernel
theorem dX8_clause_62 : decode cX8_clause 62 = .ok (.ifCond .eq 23, 3) := by decide +kernel
theorem dX8_clause_65 : decode cX8_clause 65 = .ok (.aload_n 0, 1) := by decide +kernel
theorem dX8_clause_66 : decode cX8_clause 66 = .ok (.aload_n 0, 1) := by decide +kernel
theorem dX8_clause_67 : decode cX8_clause 67 = .ok (.getfield 47, 3) := by decide +kernel
theorem dX8_clause_70 : decode cX8_clause 70 = .ok (.iconst 5, 1) := by decide +kernel
theorem dX8_clause_71 : decode cX8_clause 71 = .ok (.iload_n 1, 1) := by decide +kernel
theorem dX8_clause_72 : decode cX8_clause 72 = .ok (.imul, 1) := by decide +kernel
theorem dX8_clause_73 : decode cX8_clause 73 = .ok (.iload_n 2, 1) := by decide +kernel
theorem dX8_clause_74 : decode cX8_clause 74 = .ok (.iadd, 1) := by decide +kernel
theorem dX8_clause_75 : decode cX8_clause 75 = .ok (.caload, 1) := by decide +kernel
theorem dX8_clause_76 : decode cX8_clause 76 = .ok (.invokevirtual 137, 3) := by decide +kernel
theorem dX8_clause_79 : decode cX8_clause 79 = .ok (.iinc 2 1, 3) := by decide +kernel
theorem dX8_clause_82 : decode cX8_clause 82 = .ok (.goto (-35), 3) := by decide +kernel
theorem dX8_clause_85 : decode cX8_clause 85 = .ok (.aload_n 0, 1) := by decide +kernel
theorem dX8_clause_86 : decode cX8_clause 86 = .ok (.bipush 32, 2) := by decide +kernel
theorem dX8_clause_88 : decode cX8_clause 88 = .ok (.invokevirtual 137, 3) := by decide +kernel
theorem dX8_clause_91 : decode cX8_clause 91 = .ok (.aload_n 0, 1) := by decide +kernel
theorem dX8_clause_92 : decode cX8_clause 92 = .ok (.invokevirtual 141, 3) := by decide +kernel
theorem dX8_clause_95 : decode cX8_clause 95 = .ok (.istore_n 2, 1) := by decide +kernel
theorem dX8_clause_96 : decode cX8_clause 96 = .ok (.iload_n 1, 1) := by decide +kernel
theorem dX8_clause_97 : decode cX8_clause 97 = .ok (.iconst 2, 1) := by decide +kernel
theorem dX8_clause_98 : decode cX8_clause 98 = .ok (.if_icmp .ne 9, 3) := by decide +kernel
theorem dX8_clause_101 : decode cX8_clause 101 = .ok (.aload_n 0, 1) := by decide +kernel
theorem dX8_clause_102 : decode cX8_clause 102 = .ok (.iload_n 2, 1) := by decide +kernel
theorem dX8_clause_103 : decode cX8_clause 103 = .ok (.putfield 160, 3) := by decide +kernel
theorem dX8_clause_106 : decode cX8_clause 106 = .ok (.return_, 1) := by decide +kernel
theorem dX8_clause_107 : decode cX8_clause 107 = .ok (.aload_n 0, 1) := by decide +kernel
theorem dX8_clause_108 : decode cX8_clause 108 = .ok (.bipush 32, 2) := by decide +kernel
theorem dX8_clause_110 : decode cX8_clause 110 = .ok (.invokevirtual 137, 3) := by decide +kernel
theorem dX8_clause_113 : decode cX8_clause 113 = .ok (.aload_n 0, 1) := by decide +kernel
theorem dX8_clause_114 : decode cX8_clause 114 = .ok (.iconst 0, 1) := by decide +kernel
theorem dX8_clause_115 : decode cX8_clause 115 = .ok (.putfield 145, 3) := by decide +kernel
theorem dX8_clause_118 : decode cX8_clause 118 = .ok (.aload_n 0, 1) := by decide +kernel
theorem dX8_clause_119 : decode cX8_clause 119 = .ok (.invokevirtual 151, 3) := by decide +kernel
theorem dX8_clause_122 : decode cX8_clause 122 = .ok (.istore_n 3, 1) := by decide +kernel
theorem dX8_clause_123 : decode cX8_clause 123 = .ok (.aload_n 0, 1) := by decide +kernel
theorem dX8_clause_124 : decode cX8_clause 124 = .ok (.dup, 1) := by decide +kernel
theorem dX8_clause_125 : decode cX8_clause 125 = .ok (.getfield 163, 3) := by decide +kernel
theorem dX8_clause_128 : decode cX8_clause 128 = .ok (.iload_n 3, 1) := by decide +kernel
theorem dX8_clause_129 : decode cX8_clause 129 = .ok (.ifCond .ne 7, 3) := by decide +kernel
theorem dX8_clause_132 : decode cX8_clause 132 = .ok (.iconst 0, 1) := by decide +kernel
theorem dX8_clause_133 : decode cX8_clause 133 = .ok (.goto 13, 3) := by decide +kernel
theorem dX8_clause_136 : decode cX8_clause 136 = .ok (.iload_n 1, 1) := by decide +kernel
theorem dX8_clause_137 : decode cX8_clause 137 = .ok (.ifCond .ne 7, 3) := by decide +kernel
theorem dX8_clause_140 : decode cX8_clause 140 = .ok (.iload_n 2, 1) := by decide +kernel
theorem dX8_clause_141 : decode cX8_clause 141 = .ok (.goto 5, 3) := by decide +kernel
theorem dX8_clause_144 : decode cX8_clause 144 = .ok (.iload_n 2, 1) := by decide +kernel
theorem dX8_clause_145 : decode cX8_clause 145 = .ok (.ineg, 1) := by decide +kernel
theorem dX8_clause_146 : decode cX8_clause 146 = .ok (.iadd, 1) := by decide +kernel
theorem dX8_clause_147 : decode cX8_clause 147 = .ok (.putfield 163, 3) := by decide +kernel
theorem dX8_clause_150 : decode cX8_clause 150 = .ok (.return_, 1) := by decide +kernel
theorem dX8_readAll_0 : decode cX8_readAll 0 = .ok (.aload_n 0, 1) := by decide +kernel
theorem dX8_readAll_1 : decode cX8_readAll 1 = .ok (.iconst 0, 1) := by decide +kernel
theorem dX8_readAll_2 : decode cX8_readAll 2 = .ok (.putfield 124, 3) := by decide +kernel
theorem dX8_readAll_5 : decode cX8_readAll 5 = .ok (.aload_n 0, 1) := by decide +kernel
theorem dX8_readAll_6 : decode cX8_readAll 6 = .ok (.iconst 1, 1) := by decide +kernel
theorem dX8_readAll_7 : decode cX8_readAll 7 = .ok (.putfield 121, 3) := by decide +kernel
theorem dX8_readAll_10 : decode cX8_readAll 10 = .ok (.aload_n 0, 1) := by decide +kernel
theorem dX8_readAll_11 : decode cX8_readAll 11 = .ok (.bipush 20, 2) := by decide +kernel
theorem dX8_readAll_13 : decode cX8_readAll 13 = .ok (.putfield 163, 3) := by decide +kernel
theorem dX8_readAll_16 : decode cX8_readAll 16 = .ok (.aload_n 0, 1) := by decide +kernel
theorem dX8_readAll_17 : decode cX8_readAll 17 = .ok (.iconst 2, 1) := by decide +kernel
theorem dX8_readAll_18 : decode cX8_readAll 18 = .ok (.putfield 160, 3) := by decide +kernel
theorem dX8_readAll_21 : decode cX8_readAll 21 = .ok (.iconst 1, 1) := by decide +kernel
theorem dX8_readAll_22 : decode cX8_readAll 22 = .ok (.istore_n 1, 1) := by decide +kernel
theorem dX8_readAll_23 : decode cX8_readAll 23 = .ok (.aload_n 0, 1) := by decide +kernel
theorem dX8_readAll_24 : decode cX8_readAll 24 = .ok (.invokevirtual 166, 3) := by decide +kernel
theorem dX8_readAll_27 : decode cX8_readAll 27 = .ok (.iload_n 1, 1) := by decide +kernel
theorem dX8_readAll_28 : decode cX8_readAll 28 = .ok (.bipush 10, 2) := by decide +kernel
theorem dX8_readAll_30 : decode cX8_readAll 30 = .ok (.if_icmp .ge 32, 3) := by decide +kernel
theorem dX8_readAll_33 : decode cX8_readAll 33 = .ok (.aload_n 0, 1) := by decide +kernel
theorem dX8_readAll_34 : decode cX8_readAll 34 = .ok (.bipush 59, 2) := by decide +kernel
theorem dX8_readAll_36 : decode cX8_readAll 36 = .ok (.invokevirtual 130, 3) := by decide +kernel
theorem dX8_readAll_39 : decode cX8_readAll 39 = .ok (.ifCond .eq 23, 3) := by decide +kernel
theorem dX8_readAll_42 : decode cX8_readAll 42 = .ok (.aload_n 0, 1) := by decide +kernel
theorem dX8_readAll_43 : decode cX8_readAll 43 = .ok (.dup, 1) := by decide +kernel
theorem dX8_readAll_44 : decode cX8_readAll 44 = .ok (.getfield 124, 3) := by decide +kernel
theorem dX8_readAll_47 : decode cX8_readAll 47 = .ok (.iconst 1, 1) := by decide +kernel
theorem dX8_readAll_48 : decode cX8_readAll 48 = .ok (.iadd, 1) := by decide +kernel
theorem dX8_readAll_49 : decode cX8_readAll 49 = .ok (.putfield 124, 3) := by decide +kernel
theorem dX8_readAll_52 : decode cX8_readAll 52 = .ok (.aload_n 0, 1) := by decide +kernel
theorem dX8_readAll_53 : decode cX8_readAll 53 = .ok (.invokevirtual 166, 3) := by decide +kernel
theorem dX8_readAll_56 : decode cX8_readAll 56 = .ok (.iinc 1 1, 3) := by decide +kernel
theorem dX8_readAll_59 : decode cX8_readAll 59 = .ok (.goto (-32), 3) := by decide +kernel
theorem dX8_readAll_62 : decode cX8_readAll 62 = .ok (.aload_n 0, 1) := by decide +kernel
theorem dX8_readAll_63 : decode cX8_readAll 63 = .ok (.getfield 121, 3) := by decide +kernel
theorem dX8_readAll_66 : decode cX8_readAll 66 = .ok (.ifCond .eq 18, 3) := by decide +kernel
theorem dX8_readAll_69 : decode cX8_readAll 69 = .ok (.aload_n 0, 1) := by decide +kernel
theorem dX8_readAll_70 : decode cX8_readAll 70 = .ok (.getfield 124, 3) := by decide +kernel
theorem dX8_readAll_73 : decode cX8_readAll 73 = .ok (.aload_n 0, 1) := by decide +kernel
theorem dX8_readAll_74 : decode cX8_readAll 74 = .ok (.getfield 127, 3) := by decide +kernel
theorem dX8_readAll_77 : decode cX8_readAll 77 = .ok (.if_icmp .ne 7, 3) := by decide +kernel
theorem dX8_readAll_80 : decode cX8_readAll 80 = .ok (.iconst 1, 1) := by decide +kernel
theorem dX8_readAll_81 : decode cX8_readAll 81 = .ok (.goto 4, 3) := by decide +kernel
theorem dX8_readAll_84 : decode cX8_readAll 84 = .ok (.iconst 0, 1) := by decide +kernel
theorem dX8_readAll_85 : decode cX8_readAll 85 = .ok (.ireturn, 1) := by decide +kernel
theorem dX8_readFor_0 : decode cX8_readFor 0 = .ok (.aload_n 0, 1) := by decide +kernel
theorem dX8_readFor_1 : decode cX8_readFor 1 = .ok (.getfield 37, 3) := by decide +kernel
theorem dX8_readFor_4 : decode cX8_readFor 4 = .ok (.iconst 0, 1) := by decide +kernel
theorem dX8_readFor_5 : decode cX8_readFor 5 = .ok (.iload_n 1, 1) := by decide +kernel
theorem dX8_readFor_6 : decode cX8_readFor 6 = .ok (.iastore, 1) := by decide +kernel
theorem dX8_readFor_7 : decode cX8_readFor 7 = .ok (.aload_n 0, 1) := by decide +kernel
theorem dX8_readFor_8 : decode cX8_readFor 8 = .ok (.getfield 37, 3) := by decide +kernel
theorem dX8_readFor_11 : decode cX8_readFor 11 = .ok (.iconst 1, 1) := by decide +kernel
theorem dX8_readFor_12 : decode cX8_readFor 12 = .ok (.aload_n 0, 1) := by decide +kernel
theorem dX8_readFor_13 : decode cX8_readFor 13 = .ok (.iload_n 1, 1) := by decide +kernel
theorem dX8_readFor_14 : decode cX8_readFor 14 = .ok (.iconst 0, 1) := by decide +kernel
theorem dX8_readFor_15 : decode cX8_readFor 15 = .ok (.invokevirtual 89, 3) := by decide +kernel
theorem dX8_readFor_18 : decode cX8_readFor 18 = .ok (.iastore, 1) := by decide +kernel
theorem dX8_readFor_19 : decode cX8_readFor 19 = .ok (.aload_n 0, 1) := by decide +kernel
theorem dX8_readFor_20 : decode cX8_readFor 20 = .ok (.getfield 37, 3) := by decide +kernel
theorem dX8_readFor_23 : decode cX8_readFor 23 = .ok (.iconst 2, 1) := by decide +kernel
theorem dX8_readFor_24 : decode cX8_readFor 24 = .ok (.aload_n 0, 1) := by decide +kernel
theorem dX8_readFor_25 : decode cX8_readFor 25 = .ok (.iload_n 1, 1) := by decide +kernel
theorem dX8_readFor_26 : decode cX8_readFor 26 = .ok (.iconst 1, 1) := by decide +kernel
theorem dX8_readFor_27 : decode cX8_readFor 27 = .ok (.invokevirtual 89, 3) := by decide +kernel
theorem dX8_readFor_30 : decode cX8_readFor 30 = .ok (.iastore, 1) := by decide +kernel
theorem dX8_readFor_31 : decode cX8_readFor 31 = .ok (.aload_n 0, 1) := by decide +kernel
theorem dX8_readFor_32 : decode cX8_readFor 32 = .ok (.getfield 37, 3) := by decide +kernel
theorem dX8_readFor_35 : decode cX8_readFor 35 = .ok (.iconst 3, 1) := by decide +kernel
theorem dX8_readFor_36 : decode cX8_readFor 36 = .ok (.aload_n 0, 1) := by decide +kernel
theorem dX8_readFor_37 : decode cX8_readFor 37 = .ok (.iload_n 1, 1) := by decide +kernel
theorem dX8_readFor_38 : decode cX8_readFor 38 = .ok (.iconst 2, 1) := by decide +kernel
theorem dX8_readFor_39 : decode cX8_readFor 39 = .ok (.invokevirtual 89, 3) := by decide +kernel
theorem dX8_readFor_42 : decode cX8_readFor 42 = .ok (.iastore, 1) := by decide +kernel
theorem dX8_readFor_43 : decode cX8_readFor 43 = .ok (.aload_n 0, 1) := by decide +kernel
theorem dX8_readFor_44 : decode cX8_readFor 44 = .ok (.getfield 37, 3) := by decide +kernel
theorem dX8_readFor_47 : decode cX8_readFor 47 = .ok (.iconst 4, 1) := by decide +kernel
theorem dX8_readFor_48 : decode cX8_readFor 48 = .ok (.iload_n 2, 1) := by decide +kernel
theorem dX8_readFor_49 : decode cX8_readFor 49 = .ok (.iastore, 1) := by decide +kernel
theorem dX8_readFor_50 : decode cX8_readFor 50 = .ok (.aload_n 0, 1) := by decide +kernel
theorem dX8_readFor_51 : decode cX8_readFor 51 = .ok (.getfield 37, 3) := by decide +kernel
theorem dX8_readFor_54 : decode cX8_readFor 54 = .ok (.iconst 5, 1) := by decide +kernel
theorem dX8_readFor_55 : decode cX8_readFor 55 = .ok (.aload_n 0, 1) := by decide +kernel
theorem dX8_readFor_56 : decode cX8_readFor 56 = .ok (.getfield 15, 3) := by decide +kernel
theorem dX8_readFor_59 : decode cX8_readFor 59 = .ok (.bipush 62, 2) := by decide +kernel
theorem dX8_readFor_61 : decode cX8_readFor 61 = .ok (.iaload, 1) := by decide +kernel
theorem dX8_readFor_62 : decode cX8_readFor 62 = .ok (.bipush 10, 2) := by decide +kernel
theorem dX8_readFor_64 : decode cX8_readFor 64 = .ok (.irem, 1) := by decide +kernel
theorem dX8_readFor_65 : decode cX8_readFor 65 = .ok (.iastore, 1) := by decide +kernel
theorem dX8_readFor_66 : decode cX8_readFor 66 = .ok (.aload_n 0, 1) := by decide +kernel
theorem dX8_readFor_67 : decode cX8_readFor 67 = .ok (.getfield 15, 3) := by decide +kernel
theorem dX8_readFor_70 : decode cX8_readFor 70 = .ok (.bipush 63, 2) := by decide +kernel
theorem dX8_readFor_72 : decode cX8_readFor 72 = .ok (.iaload, 1) := by decide +kernel
theorem dX8_readFor_73 : decode cX8_readFor 73 = .ok (.ifCond .ne 17, 3) := by decide +kernel
theorem dX8_readFor_76 : decode cX8_readFor 76 = .ok (.aload_n 0, 1) := by decide +kernel
theorem dX8_readFor_77 : decode cX8_readFor 77 = .ok (.bipush 20, 2) := by decide +kernel
theorem dX8_readFor_79 : decode cX8_readFor 79 = .ok (.putfield 163, 3) := by decide +kernel
theorem dX8_readFor_82 : decode cX8_readFor 82 = .ok (.aload_n 0, 1) := by decide +kernel
theorem dX8_readFor_83 : decode cX8_readFor 83 = .ok (.iconst 2, 1) := by decide +kernel
theorem dX8_readFor_84 : decode cX8_readFor 84 = .ok (.putfield 160, 3) := by decide +kernel
theorem dX8_readFor_87 : decode cX8_readFor 87 = .ok (.goto 65, 3) := by decide +kernel
theorem dX8_readFor_90 : decode cX8_readFor 90 = .ok (.aload_n 0, 1) := by decide +kernel
theorem dX8_readFor_91 : decode cX8_readFor 91 = .ok (.getfield 15, 3) := by decide +kernel
theorem dX8_readFor_94 : decode cX8_readFor 94 = .ok (.bipush 63, 2) := by decide +kernel
theorem dX8_readFor_96 : decode cX8_readFor 96 = .ok (.iaload, 1) := by decide +kernel
theorem dX8_readFor_97 : decode cX8_readFor 97 = .ok (.iconst 1, 1) := by decide +kernel
theorem dX8_readFor_98 : decode cX8_readFor 98 = .ok (.isub, 1) := by decide +kernel
theorem dX8_readFor_99 : decode cX8_readFor 99 = .ok (.istore_n 3, 1) := by decide +kernel
theorem dX8_readFor_100 : decode cX8_readFor 100 = .ok (.aload_n 0, 1) := by decide +kernel
theorem dX8_readFor_101 : decode cX8_readFor 101 = .ok (.aload_n 0, 1) := by decide +kernel
theorem dX8_readFor_102 : decode cX8_readFor 102 = .ok (.getfield 31, 3) := by decide +kernel
theorem dX8_readFor_105 : decode cX8_readFor 105 = .ok (.iload_n 3, 1) := by decide +kernel
theorem dX8_readFor_106 : decode cX8_readFor 106 = .ok (.iaload, 1) := by decide +kernel
theorem dX8_readFor_107 : decode cX8_readFor 107 = .ok (.putfield 127, 3) := by decide +kernel
theorem dX8_readFor_110 : decode cX8_readFor 110 = .ok (.iconst 0, 1) := by decide +kernel
theorem dX8_readFor_111 : decode cX8_readFor 111 = .ok (.istore 4, 2) := by decide +kernel
theorem dX8_readFor_113 : decode cX8_readFor 113 = .ok (.iload 4, 2) := by decide +kernel
theorem dX8_readFor_115 : decode cX8_readFor 115 = .ok (.aload_n 0, 1) := by decide +kernel
theorem dX8_readFor_116 : decode cX8_readFor 116 = .ok (.getfield 127, 3) := by decide +kernel
theorem dX8_readFor_119 : decode cX8_readFor 119 = .ok (.if_icmp .ge 28, 3) := by decide +kernel
theorem dX8_readFor_122 : decode cX8_readFor 122 = .ok (.aload_n 0, 1) := by decide +kernel
theorem dX8_readFor_123 : decode cX8_readFor 123 = .ok (.getfield 34, 3) := by decide +kernel
theorem dX8_readFor_126 : decode cX8_readFor 126 = .ok (.iload 4, 2) := by decide +kernel
theorem dX8_readFor_128 : decode cX8_readFor 128 = .ok (.aload_n 0, 1) := by decide +kernel
theorem dX8_readFor_129 : decode cX8_readFor 129 = .ok (.getfield 28, 3) := by decide +kernel
theorem dX8_readFor_132 : decode cX8_readFor 132 = .ok (.bipush 100, 2) := by decide +kernel
theorem dX8_readFor_134 : decode cX8_readFor 134 = .ok (.iload_n 3, 1) := by decide +kernel
theorem dX8_readFor_135 : decode cX8_readFor 135 = .ok (.imul, 1) := by decide +kernel
theorem dX8_readFor_136 : decode cX8_readFor 136 = .ok (.iload 4, 2) := by decide +kernel
theorem dX8_readFor_138 : decode cX8_readFor 138 = .ok (.iadd, 1) := by decide +kernel
theorem dX8_readFor_139 : decode cX8_readFor 139 = .ok (.iaload, 1) := by decide +kernel
theorem dX8_readFor_140 : decode cX8_readFor 140 = .ok (.iastore, 1) := by decide +kernel
theorem dX8_readFor_141 : decode cX8_readFor 141 = .ok (.iinc 4 1, 3) := by decide +kernel
theorem dX8_readFor_144 : decode cX8_readFor 144 = .ok (.goto (-31), 3) := by decide +kernel
theorem dX8_readFor_147 : decode cX8_readFor 147 = .ok (.aload_n 0, 1) := by decide +kernel
theorem dX8_readFor_148 : decode cX8_readFor 148 = .ok (.invokevirtual 169, 3) := by decide +kernel
theorem dX8_readFor_151 : decode cX8_readFor 151 = .ok (.pop, 1) := by decide +kernel
theorem dX8_readFor_152 : decode cX8_readFor 152 = .ok (.aload_n 0, 1) := by decide +kernel
theorem dX8_readFor_153 : decode cX8_readFor 153 = .ok (.dup, 1) := by decide +kernel
theorem dX8_readFor_154 : decode cX8_readFor 154 = .ok (.getfield 163, 3) := by decide +kernel
theorem dX8_readFor_157 : decode cX8_readFor 157 = .ok (.aload_n 0, 1) := by decide +kernel
theorem dX8_readFor_158 : decode cX8_readFor 158 = .ok (.getfield 160, 3) := by decide +kernel
theorem dX8_readFor_161 : decode cX8_readFor 161 = .ok (.iload_n 2, 1) := by decide +kernel
theorem dX8_readFor_162 : decode cX8_readFor 162 = .ok (.imul, 1) := by decide +kernel
theorem dX8_readFor_163 : decode cX8_readFor 163 = .ok (.isub, 1) := by decide +kernel
theorem dX8_readFor_164 : decode cX8_readFor 164 = .ok (.putfield 163, 3) := by decide +kernel
theorem dX8_readFor_167 : decode cX8_readFor 167 = .ok (.return_, 1) := by decide +kernel
theorem dX8_parish_0 : decode cX8_parish 0 = .ok (.aload_n 0, 1) := by decide +kernel
theorem dX8_parish_1 : decode cX8_parish 1 = .ok (.getfield 172, 3) := by decide +kernel
theorem dX8_parish_4 : decode cX8_parish 4 = .ok (.bipush 6, 2) := by decide +kernel
theorem dX8_parish_6 : decode cX8_parish 6 = .ok (.if_icmp .ne 6, 3) := by decide +kernel
theorem dX8_parish_9 : decode cX8_parish 9 = .ok (.bipush (-4), 2) := by decide +kernel
theorem dX8_parish_11 : decode cX8_parish 11 = .ok (.ireturn, 1) := by decide +kernel
theorem dX8_parish_12 : decode cX8_parish 12 = .ok (.aload_n 0, 1) := by decide +kernel
theorem dX8_parish_13 : decode cX8_parish 13 = .ok (.aload_n 0, 1) := by decide +kernel
theorem dX8_parish_14 : decode cX8_parish 14 = .ok (.getfield 117, 3) := by decide +kernel
theorem dX8_parish_17 : decode cX8_parish 17 = .ok (.putfield 127, 3) := by decide +kernel
theorem dX8_parish_20 : decode cX8_parish 20 = .ok (.iconst 0, 1) := by decide +kernel
theorem dX8_parish_21 : decode cX8_parish 21 = .ok (.istore_n 1, 1) := by decide +kernel
theorem dX8_parish_22 : decode cX8_parish 22 = .ok (.iload_n 1, 1) := by decide +kernel
theorem dX8_parish_23 : decode cX8_parish 23 = .ok (.aload_n 0, 1) := by decide +kernel
theorem dX8_parish_24 : decode cX8_parish 24 = .ok (.getfield 127, 3) := by decide +kernel
theorem dX8_parish_27 : decode cX8_parish 27 = .ok (.if_icmp .ge 21, 3) := by decide +kernel
theorem dX8_parish_30 : decode cX8_parish 30 = .ok (.aload_n 0, 1) := by decide +kernel
theorem dX8_parish_31 : decode cX8_parish 31 = .ok (.getfield 34, 3) := by decide +kernel
theorem dX8_parish_34 : decode cX8_parish 34 = .ok (.iload_n 1, 1) := by decide +kernel
theorem dX8_parish_35 : decode cX8_parish 35 = .ok (.aload_n 0, 1) := by decide +kernel
theorem dX8_parish_36 : decode cX8_parish 36 = .ok (.getfield 25, 3) := by decide +kernel
theorem dX8_parish_39 : decode cX8_parish 39 = .ok (.iload_n 1, 1) := by decide +kernel
theorem dX8_parish_40 : decode cX8_parish 40 = .ok (.iaload, 1) := by decide +kernel
theorem dX8_parish_41 : decode cX8_parish 41 = .ok (.iastore, 1) := by decide +kernel
theorem dX8_parish_42 : decode cX8_parish 42 = .ok (.iinc 1 1, 3) := by decide +kernel
theorem dX8_parish_45 : decode cX8_parish 45 = .ok (.goto (-23), 3) := by decide +kernel
theorem dX8_parish_48 : decode cX8_parish 48 = .ok (.aload_n 0, 1) := by decide +kernel
theorem dX8_parish_49 : decode cX8_parish 49 = .ok (.iconst 0, 1) := by decide +kernel
theorem dX8_parish_50 : decode cX8_parish 50 = .ok (.putfield 117, 3) := by decide +kernel
theorem dX8_parish_53 : decode cX8_parish 53 = .ok (.aload_n 0, 1) := by decide +kernel
theorem dX8_parish_54 : decode cX8_parish 54 = .ok (.invokevirtual 169, 3) := by decide +kernel
theorem dX8_parish_57 : decode cX8_parish 57 = .ok (.ifCond .ne 11, 3) := by decide +kernel
theorem dX8_parish_60 : decode cX8_parish 60 = .ok (.bipush (-10), 2) := by decide +kernel
theorem dX8_parish_62 : decode cX8_parish 62 = .ok (.aload_n 0, 1) := by decide +kernel
theorem dX8_parish_63 : decode cX8_parish 63 = .ok (.getfield 124, 3) := by decide +kernel
theorem dX8_parish_66 : decode cX8_parish 66 = .ok (.isub, 1) := by decide +kernel
theorem dX8_parish_67 : decode cX8_parish 67 = .ok (.ireturn, 1) := by decide +kernel
theorem dX8_parish_68 : decode cX8_parish 68 = .ok (.iconst 0, 1) := by decide +kernel
theorem dX8_parish_69 : decode cX8_parish 69 = .ok (.istore_n 1, 1) := by decide +kernel
theorem dX8_parish_70 : decode cX8_parish 70 = .ok (.iload_n 1, 1) := by decide +kernel
theorem dX8_parish_71 : decode cX8_parish 71 = .ok (.aload_n 0, 1) := by decide +kernel
theorem dX8_parish_72 : decode cX8_parish 72 = .ok (.getfield 127, 3) := by decide +kernel
theorem dX8_parish_75 : decode cX8_parish 75 = .ok (.if_icmp .ge 29, 3) := by decide +kernel
theorem dX8_parish_78 : decode cX8_parish 78 = .ok (.aload_n 0, 1) := by decide +kernel
theorem dX8_parish_79 : decode cX8_parish 79 = .ok (.getfield 28, 3) := by decide +kernel
theorem dX8_parish_82 : decode cX8_parish 82 = .ok (.bipush 100, 2) := by decide +kernel
theorem dX8_parish_84 : decode cX8_parish 84 = .ok (.aload_n 0, 1) := by decide +kernel
theorem dX8_parish_85 : decode cX8_parish 85 = .ok (.getfield 172, 3) := by decide +kernel
theorem dX8_parish_88 : decode cX8_parish 88 = .ok (.imul, 1) := by decide +kernel
theorem dX8_parish_89 : decode cX8_parish 89 = .ok (.iload_n 1, 1) := by decide +kernel
theorem dX8_parish_90 : decode cX8_parish 90 = .ok (.iadd, 1) := by decide +kernel
theorem dX8_parish_91 : decode cX8_parish 91 = .ok (.aload_n 0, 1) := by decide +kernel
theorem dX8_parish_92 : decode cX8_parish 92 = .ok (.getfield 34, 3) := by decide +kernel
theorem dX8_parish_95 : decode cX8_parish 95 = .ok (.iload_n 1, 1) := by decide +kernel
theorem dX8_parish_96 : decode cX8_parish 96 = .ok (.iaload, 1) := by decide +kernel
theorem dX8_parish_97 : decode cX8_parish 97 = .ok (.iastore, 1) := by decide +kernel
theorem dX8_parish_98 : decode cX8_parish 98 = .ok (.iinc 1 1, 3) := by decide +kernel
theorem dX8_parish_101 : decode cX8_parish 101 = .ok (.goto (-31), 3) := by decide +kernel
theorem dX8_parish_104 : decode cX8_parish 104 = .ok (.aload_n 0, 1) := by decide +kernel
theorem dX8_parish_105 : decode cX8_parish 105 = .ok (.getfield 31, 3) := by decide +kernel
theorem dX8_parish_108 : decode cX8_parish 108 = .ok (.aload_n 0, 1) := by decide +kernel
theorem dX8_parish_109 : decode cX8_parish 109 = .ok (.getfield 172, 3) := by decide +kernel
theorem dX8_parish_112 : decode cX8_parish 112 = .ok (.aload_n 0, 1) := by decide +kernel
theorem dX8_parish_113 : decode cX8_parish 113 = .ok (.getfield 127, 3) := by decide +kernel
theorem dX8_parish_116 : decode cX8_parish 116 = .ok (.iastore, 1) := by decide +kernel
theorem dX8_parish_117 : decode cX8_parish 117 = .ok (.aload_n 0, 1) := by decide +kernel
theorem dX8_parish_118 : decode cX8_parish 118 = .ok (.dup, 1) := by decide +kernel
theorem dX8_parish_119 : decode cX8_parish 119 = .ok (.getfield 172, 3) := by decide +kernel
theorem dX8_parish_122 : decode cX8_parish 122 = .ok (.iconst 1, 1) := by decide +kernel
theorem dX8_parish_123 : decode cX8_parish 123 = .ok (.iadd, 1) := by decide +kernel
theorem dX8_parish_124 : decode cX8_parish 124 = .ok (.putfield 172, 3) := by decide +kernel
theorem dX8_parish_127 : decode cX8_parish 127 = .ok (.aload_n 0, 1) := by decide +kernel
theorem dX8_parish_128 : decode cX8_parish 128 = .ok (.getfield 15, 3) := by decide +kernel
theorem dX8_parish_131 : decode cX8_parish 131 = .ok (.bipush 63, 2) := by decide +kernel
theorem dX8_parish_133 : decode cX8_parish 133 = .ok (.aload_n 0, 1) := by decide +kernel
theorem dX8_parish_134 : decode cX8_parish 134 = .ok (.getfield 172, 3) := by decide +kernel
theorem dX8_parish_137 : decode cX8_parish 137 = .ok (.iastore, 1) := by decide +kernel
theorem dX8_parish_138 : decode cX8_parish 138 = .ok (.aload_n 0, 1) := by decide +kernel
theorem dX8_parish_139 : decode cX8_parish 139 = .ok (.getfield 172, 3) := by decide +kernel
theorem dX8_parish_142 : decode cX8_parish 142 = .ok (.iconst 1, 1) := by decide +kernel
theorem dX8_parish_143 : decode cX8_parish 143 = .ok (.isub, 1) := by decide +kernel
theorem dX8_parish_144 : decode cX8_parish 144 = .ok (.ireturn, 1) := by decide +kernel
theorem dX8_rate_0 : decode cX8_rate 0 = .ok (.aload_n 0, 1) := by decide +kernel
theorem dX8_rate_1 : decode cX8_rate 1 = .ok (.iload_n 1, 1) := by decide +kernel
theorem dX8_rate_2 : decode cX8_rate 2 = .ok (.iload_n 2, 1) := by decide +kernel
theorem dX8_rate_3 : decode cX8_rate 3 = .ok (.invokevirtual 175, 3) := by decide +kernel
theorem dX8_rate_6 : decode cX8_rate 6 = .ok (.iload_n 2, 1) := by decide +kernel
theorem dX8_rate_7 : decode cX8_rate 7 = .ok (.iconst 5, 1) := by decide +kernel
theorem dX8_rate_8 : decode cX8_rate 8 = .ok (.if_icmp .lt 7, 3) := by decide +kernel
theorem dX8_rate_11 : decode cX8_rate 11 = .ok (.iconst 1, 1) := by decide +kernel
theorem dX8_rate_12 : decode cX8_rate 12 = .ok (.goto 7, 3) := by decide +kernel
theorem dX8_rate_15 : decode cX8_rate 15 = .ok (.aload_n 0, 1) := by decide +kernel
theorem dX8_rate_16 : decode cX8_rate 16 = .ok (.getfield 163, 3) := by decide +kernel
theorem dX8_rate_19 : decode cX8_rate 19 = .ok (.istore_n 3, 1) := by decide +kernel
theorem dX8_rate_20 : decode cX8_rate 20 = .ok (.aload_n 0, 1) := by decide +kernel
theorem dX8_rate_21 : decode cX8_rate 21 = .ok (.iload_n 1, 1) := by decide +kernel
theorem dX8_rate_22 : decode cX8_rate 22 = .ok (.iconst 0, 1) := by decide +kernel
theorem dX8_rate_23 : decode cX8_rate 23 = .ok (.invokevirtual 89, 3) := by decide +kernel
theorem dX8_rate_26 : decode cX8_rate 26 = .ok (.tableswitch 111 1 6 #[38, 50, 57, 59, 88, 97], 38) := by decide +kernel
theorem dX8_rate_64 : decode cX8_rate 64 = .ok (.aload_n 0, 1) := by decide +kernel
theorem dX8_rate_65 : decode cX8_rate 65 = .ok (.getfield 163, 3) := by decide +kernel
theorem dX8_rate_68 : decode cX8_rate 68 = .ok (.aload_n 0, 1) := by decide +kernel
theorem dX8_rate_69 : decode cX8_rate 69 = .ok (.iload_n 1, 1) := by decide +kernel
theorem dX8_rate_70 : decode cX8_rate 70 = .ok (.iconst 1, 1) := by decide +kernel
theorem dX8_rate_71 : decode cX8_rate 71 = .ok (.invokevirtual 89, 3) := by decide +kernel
theorem dX8_rate_74 : decode cX8_rate 74 = .ok (.iadd, 1) := by decide +kernel
theorem dX8_rate_75 : decode cX8_rate 75 = .ok (.ireturn, 1) := by decide +kernel
theorem dX8_rate_76 : decode cX8_rate 76 = .ok (.aload_n 0, 1) := by decide +kernel
theorem dX8_rate_77 : decode cX8_rate 77 = .ok (.getfield 163, 3) := by decide +kernel
theorem dX8_rate_80 : decode cX8_rate 80 = .ok (.iconst 2, 1) := by decide +kernel
theorem dX8_rate_81 : decode cX8_rate 81 = .ok (.idiv, 1) := by decide +kernel
theorem dX8_rate_82 : decode cX8_rate 82 = .ok (.ireturn, 1) := by decide +kernel
theorem dX8_rate_83 : decode cX8_rate 83 = .ok (.iload_n 3, 1) := by decide +kernel
theorem dX8_rate_84 : decode cX8_rate 84 = .ok (.ireturn, 1) := by decide +kernel
theorem dX8_rate_85 : decode cX8_rate 85 = .ok (.aload_n 0, 1) := by decide +kernel
theorem dX8_rate_86 : decode cX8_rate 86 = .ok (.getfield 15, 3) := by decide +kernel
theorem dX8_rate_89 : decode cX8_rate 89 = .ok (.bipush 62, 2) := by decide +kernel
theorem dX8_rate_91 : decode cX8_rate 91 = .ok (.iaload, 1) := by decide +kernel
theorem dX8_rate_92 : decode cX8_rate 92 = .ok (.bipush 7, 2) := by decide +kernel
theorem dX8_rate_94 : decode cX8_rate 94 = .ok (.irem, 1) := by decide +kernel
theorem dX8_rate_95 : decode cX8_rate 95 = .ok (.ifCond .ne 7, 3) := by decide +kernel
theorem dX8_rate_98 : decode cX8_rate 98 = .ok (.iconst 0, 1) := by decide +kernel
theorem dX8_rate_99 : decode cX8_rate 99 = .ok (.goto 14, 3) := by decide +kernel
theorem dX8_rate_102 : decode cX8_rate 102 = .ok (.aload_n 0, 1) := by decide +kernel
theorem dX8_rate_103 : decode cX8_rate 103 = .ok (.getfield 163, 3) := by decide +kernel
theorem dX8_rate_106 : decode cX8_rate 106 = .ok (.aload_n 0, 1) := by decide +kernel
theorem dX8_rate_107 : decode cX8_rate 107 = .ok (.iload_n 1, 1) := by decide +kernel
theorem dX8_rate_108 : decode cX8_rate 108 = .ok (.iconst 1, 1) := by decide +kernel
theorem dX8_rate_109 : decode cX8_rate 109 = .ok (.invokevirtual 89, 3) := by decide +kernel
theorem dX8_rate_112 : decode cX8_rate 112 = .ok (.iadd, 1) := by decide +kernel
theorem dX8_rate_113 : decode cX8_rate 113 = .ok (.ireturn, 1) := by decide +kernel
theorem dX8_rate_114 : decode cX8_rate 114 = .ok (.aload_n 0, 1) := by decide +kernel
theorem dX8_rate_115 : decode cX8_rate 115 = .ok (.getfield 163, 3) := by decide +kernel
theorem dX8_rate_118 : decode cX8_rate 118 = .ok (.iconst 2, 1) := by decide +kernel
theorem dX8_rate_119 : decode cX8_rate 119 = .ok (.idiv, 1) := by decide +kernel
theorem dX8_rate_120 : decode cX8_rate 120 = .ok (.iconst 5, 1) := by decide +kernel
theorem dX8_rate_121 : decode cX8_rate 121 = .ok (.iadd, 1) := by decide +kernel
theorem dX8_rate_122 : decode cX8_rate 122 = .ok (.ireturn, 1) := by decide +kernel
theorem dX8_rate_123 : decode cX8_rate 123 = .ok (.iload_n 3, 1) := by decide +kernel
theorem dX8_rate_124 : decode cX8_rate 124 = .ok (.aload_n 0, 1) := by decide +kernel
theorem dX8_rate_125 : decode cX8_rate 125 = .ok (.iload_n 1, 1) := by decide +kernel
theorem dX8_rate_126 : decode cX8_rate 126 = .ok (.bipush 6, 2) := by decide +kernel
theorem dX8_rate_128 : decode cX8_rate 128 = .ok (.iload_n 2, 1) := by decide +kernel
theorem dX8_rate_129 : decode cX8_rate 129 = .ok (.iconst 4, 1) := by decide +kernel
theorem dX8_rate_130 : decode cX8_rate 130 = .ok (.irem, 1) := by decide +kernel
theorem dX8_rate_131 : decode cX8_rate 131 = .ok (.iadd, 1) := by decide +kernel
theorem dX8_rate_132 : decode cX8_rate 132 = .ok (.invokevirtual 89, 3) := by decide +kernel
theorem dX8_rate_135 : decode cX8_rate 135 = .ok (.iadd, 1) := by decide +kernel
theorem dX8_rate_136 : decode cX8_rate 136 = .ok (.ireturn, 1) := by decide +kernel
theorem dX8_rate_137 : decode cX8_rate 137 = .ok (.aload_n 0, 1) := by decide +kernel
theorem dX8_rate_138 : decode cX8_rate 138 = .ok (.getfield 163, 3) := by decide +kernel
theorem dX8_rate_141 : decode cX8_rate 141 = .ok (.ireturn, 1) := by decide +kernel
theorem dX8_share_0 : decode cX8_share 0 = .ok (.iconst 0, 1) := by decide +kernel
theorem dX8_share_1 : decode cX8_share 1 = .ok (.istore_n 1, 1) := by decide +kernel
theorem dX8_share_2 : decode cX8_share 2 = .ok (.iconst (-1), 1) := by decide +kernel
theorem dX8_share_3 : decode cX8_share 3 = .ok (.istore_n 2, 1) := by decide +kernel
theorem dX8_share_4 : decode cX8_share 4 = .ok (.iconst 0, 1) := by decide +kernel
theorem dX8_share_5 : decode cX8_share 5 = .ok (.istore_n 3, 1) := by decide +kernel
theorem dX8_share_6 : decode cX8_share 6 = .ok (.iload_n 3, 1) := by decide +kernel
theorem dX8_share_7 : decode cX8_share 7 = .ok (.aload_n 0, 1) := by decide +kernel
theorem dX8_share_8 : decode cX8_share 8 = .ok (.getfield 15, 3) := by decide +kernel
theorem dX8_share_11 : decode cX8_share 11 = .ok (.bipush 60, 2) := by decide +kernel
theorem dX8_share_13 : decode cX8_share 13 = .ok (.iaload, 1) := by decide +kernel
theorem dX8_share_14 : decode cX8_share 14 = .ok (.if_icmp .ge 83, 3) := by decide +kernel
theorem dX8_share_17 : decode cX8_share 17 = .ok (.aload_n 0, 1) := by decide +kernel
theorem dX8_share_18 : decode cX8_share 18 = .ok (.getfield 53, 3) := by decide +kernel
theorem dX8_share_21 : decode cX8_share 21 = .ok (.iload_n 3, 1) := by decide +kernel
theorem dX8_share_22 : decode cX8_share 22 = .ok (.iconst 0, 1) := by decide +kernel
theorem dX8_share_23 : decode cX8_share 23 = .ok (.iastore, 1) := by decide +kernel
theorem dX8_share_24 : decode cX8_share 24 = .ok (.aload_n 0, 1) := by decide +kernel
theorem dX8_share_25 : decode cX8_share 25 = .ok (.getfield 50, 3) := by decide +kernel
theorem dX8_share_28 : decode cX8_share 28 = .ok (.iload_n 3, 1) := by decide +kernel
theorem dX8_share_29 : decode cX8_share 29 = .ok (.iconst 0, 1) := by decide +kernel
theorem dX8_share_30 : decode cX8_share 30 = .ok (.iastore, 1) := by decide +kernel
theorem dX8_share_31 : decode cX8_share 31 = .ok (.aload_n 0, 1) := by decide +kernel
theorem dX8_share_32 : decode cX8_share 32 = .ok (.iload_n 3, 1) := by decide +kernel
theorem dX8_share_33 : decode cX8_share 33 = .ok (.invokevirtual 179, 3) := by decide +kernel
theorem dX8_share_36 : decode cX8_share 36 = .ok (.ifCond .eq 55, 3) := by decide +kernel
theorem dX8_share_39 : decode cX8_share 39 = .ok (.aload_n 0, 1) := by decide +kernel
theorem dX8_share_40 : decode cX8_share 40 = .ok (.iload_n 3, 1) := by decide +kernel
theorem dX8_share_41 : decode cX8_share 41 = .ok (.aload_n 0, 1) := by decide +kernel
theorem dX8_share_42 : decode cX8_share 42 = .ok (.iload_n 3, 1) := by decide +kernel
theorem dX8_share_43 : decode cX8_share 43 = .ok (.iconst 3, 1) := by decide +kernel
theorem dX8_share_44 : decode cX8_share 44 = .ok (.invokevirtual 89, 3) := by decide +kernel
theorem dX8_share_47 : decode cX8_share 47 = .ok (.invokevirtual 111, 3) := by decide +kernel
theorem dX8_share_50 : decode cX8_share 50 = .ok (.istore 4, 2) := by decide +kernel
theorem dX8_share_52 : decode cX8_share 52 = .ok (.iload_n 2, 1) := by decide +kernel
theorem dX8_share_53 : decode cX8_share 53 = .ok (.iconst (-1), 1) := by decide +kernel
theorem dX8_share_54 : decode cX8_share 54 = .ok (.if_icmp .eq 14, 3) := by decide +kernel
theorem dX8_share_57 : decode cX8_share 57 = .ok (.iload 4, 2) := by decide +kernel
theorem dX8_share_59 : decode cX8_share 59 = .ok (.aload_n 0, 1) := by decide +kernel
theorem dX8_share_60 : decode cX8_share 60 = .ok (.getfield 50, 3) := by decide +kernel
theorem dX8_share_63 : decode cX8_share 63 = .ok (.iload_n 2, 1) := by decide +kernel
theorem dX8_share_64 : decode cX8_share 64 = .ok (.iaload, 1) := by decide +kernel
theorem dX8_share_65 : decode cX8_share 65 = .ok (.if_icmp .le 7, 3) := by decide +kernel
theorem dX8_share_68 : decode cX8_share 68 = .ok (.iload_n 3, 1) := by decide +kernel
theorem dX8_share_69 : decode cX8_share 69 = .ok (.goto 4, 3) := by decide +kernel
theorem dX8_share_72 : decode cX8_share 72 = .ok (.iload_n 2, 1) := by decide +kernel
theorem dX8_share_73 : decode cX8_share 73 = .ok (.istore_n 2, 1) := by decide +kernel
theorem dX8_share_74 : decode cX8_share 74 = .ok (.aload_n 0, 1) := by decide +kernel
theorem dX8_share_75 : decode cX8_share 75 = .ok (.getfield 50, 3) := by decide +kernel
theorem dX8_share_78 : decode cX8_share 78 = .ok (.iload_n 3, 1) := by decide +kernel
theorem dX8_share_79 : decode cX8_share 79 = .ok (.iload 4, 2) := by decide +kernel
theorem dX8_share_81 : decode cX8_share 81 = .ok (.iastore, 1) := by decide +kernel
theorem dX8_share_82 : decode cX8_share 82 = .ok (.iload_n 1, 1) := by decide +kernel
theorem dX8_share_83 : decode cX8_share 83 = .ok (.iconst 0, 1) := by decide +kernel
theorem dX8_share_84 : decode cX8_share 84 = .ok (.iload 4, 2) := by decide +kernel
theorem dX8_share_86 : decode cX8_share 86 = .ok (.invokestatic 182, 3) := by decide +kernel
theorem dX8_share_89 : decode cX8_share 89 = .ok (.iadd, 1) := by decide +kernel
theorem dX8_share_90 : decode cX8_share 90 = .ok (.istore_n 1, 1) := by decide +kernel
theorem dX8_share_91 : decode cX8_share 91 = .ok (.iinc 3 1, 3) := by decide +kernel
theorem dX8_share_94 : decode cX8_share 94 = .ok (.goto (-88), 3) := by decide +kernel
theorem dX8_share_97 : decode cX8_share 97 = .ok (.iload_n 1, 1) := by decide +kernel
theorem dX8_share_98 : decode cX8_share 98 = .ok (.ifCond .le 93, 3) := by decide +kernel
theorem dX8_share_101 : decode cX8_share 101 = .ok (.aload_n 0, 1) := by decide +kernel
theorem dX8_share_102 : decode cX8_share 102 = .ok (.getfield 15, 3) := by decide +kernel
theorem dX8_share_105 : decode cX8_share 105 = .ok (.bipush 61, 2) := by decide +kernel
theorem dX8_share_107 : decode cX8_share 107 = .ok (.iaload, 1) := by decide +kernel
theorem dX8_share_108 : decode cX8_share 108 = .ok (.istore_n 3, 1) := by decide +kernel
theorem dX8_share_109 : decode cX8_share 109 = .ok (.iconst 0, 1) := by decide +kernel
theorem dX8_share_110 : decode cX8_share 110 = .ok (.istore 4, 2) := by decide +kernel
theorem dX8_share_112 : decode cX8_share 112 = .ok (.iload 4, 2) := by decide +kernel
theorem dX8_share_114 : decode cX8_share 114 = .ok (.aload_n 0, 1) := by decide +kernel
theorem dX8_share_115 : decode cX8_share 115 = .ok (.getfield 15, 3) := by decide +kernel
theorem dX8_share_118 : decode cX8_share 118 = .ok (.bipush 60, 2) := by decide +kernel
theorem dX8_share_120 : decode cX8_share 120 = .ok (.iaload, 1) := by decide +kernel
theorem dX8_share_121 : decode cX8_share 121 = .ok (.if_icmp .ge 60, 3) := by decide +kernel
theorem dX8_share_124 : decode cX8_share 124 = .ok (.aload_n 0, 1) := by decide +kernel
theorem dX8_share_125 : decode cX8_share 125 = .ok (.getfield 53, 3) := by decide +kernel
theorem dX8_share_128 : decode cX8_share 128 = .ok (.iload 4, 2) := by decide +kernel
theorem dX8_share_130 : decode cX8_share 130 = .ok (.aload_n 0, 1) := by decide +kernel
theorem dX8_share_131 : decode cX8_share 131 = .ok (.getfield 15, 3) := by decide +kernel
theorem dX8_share_134 : decode cX8_share 134 = .ok (.bipush 61, 2) := by decide +kernel
theorem dX8_share_136 : decode cX8_share 136 = .ok (.iaload, 1) := by decide +kernel
theorem dX8_share_137 : decode cX8_share 137 = .ok (.iconst 0, 1) := by decide +kernel
theorem dX8_share_138 : decode cX8_share 138 = .ok (.aload_n 0, 1) := by decide +kernel
theorem dX8_share_139 : decode cX8_share 139 = .ok (.iload 4, 2) := by decide +kernel
theorem dX8_share_141 : decode cX8_share 141 = .ok (.invokevirtual 179, 3) := by decide +kernel
theorem dX8_share_144 : decode cX8_share 144 = .ok (.ifCond .eq 13, 3) := by decide +kernel
theorem dX8_share_147 : decode cX8_share 147 = .ok (.aload_n 0, 1) := by decide +kernel
theorem dX8_share_148 : decode cX8_share 148 = .ok (.getfield 50, 3) := by decide +kernel
theorem dX8_share_151 : decode cX8_share 151 = .ok (.iload 4, 2) := by decide +kernel
theorem dX8_share_153 : decode cX8_share 153 = .ok (.iaload, 1) := by decide +kernel
theorem dX8_share_154 : decode cX8_share 154 = .ok (.goto 4, 3) := by decide +kernel
theorem dX8_share_157 : decode cX8_share 157 = .ok (.iconst 0, 1) := by decide +kernel
theorem dX8_share_158 : decode cX8_share 158 = .ok (.invokestatic 182, 3) := by decide +kernel
theorem dX8_share_161 : decode cX8_share 161 = .ok (.imul, 1) := by decide +kernel
theorem dX8_share_162 : decode cX8_share 162 = .ok (.iload_n 1, 1) := by decide +kernel
theorem dX8_share_163 : decode cX8_share 163 = .ok (.idiv, 1) := by decide +kernel
theorem dX8_share_164 : decode cX8_share 164 = .ok (.iastore, 1) := by decide +kernel
theorem dX8_share_165 : decode cX8_share 165 = .ok (.iload_n 3, 1) := by decide +kernel
theorem dX8_share_166 : decode cX8_share 166 = .ok (.aload_n 0, 1) := by decide +kernel
theorem dX8_share_167 : decode cX8_share 167 = .ok (.getfield 53, 3) := by decide +kernel
theorem dX8_share_170 : decode cX8_share 170 = .ok (.iload 4, 2) := by decide +kernel
theorem dX8_share_172 : decode cX8_share 172 = .ok (.iaload, 1) := by decide +kernel
theorem dX8_share_173 : decode cX8_share 173 = .ok (.isub, 1) := by decide +kernel
theorem dX8_share_174 : decode cX8_share 174 = .ok (.istore_n 3, 1) := by decide +kernel
theorem dX8_share_175 : decode cX8_share 175 = .ok (.iinc 4 1, 3) := by decide +kernel
theorem dX8_share_178 : decode cX8_share 178 = .ok (.goto (-66), 3) := by decide +kernel
theorem dX8_share_181 : decode cX8_share 181 = .ok (.aload_n 0, 1) := by decide +kernel
theorem dX8_share_182 : decode cX8_share 182 = .ok (.getfield 53, 3) := by decide +kernel
theorem dX8_share_185 : decode cX8_share 185 = .ok (.iload_n 2, 1) := by decide +kernel
theorem dX8_share_186 : decode cX8_share 186 = .ok (.dup2, 1) := by decide +kernel
theorem dX8_share_187 : decode cX8_share 187 = .ok (.iaload, 1) := by decide +kernel
theorem dX8_share_188 : decode cX8_share 188 = .ok (.iload_n 3, 1) := by decide +kernel
theorem dX8_share_189 : decode cX8_share 189 = .ok (.iadd, 1) := by decide +kernel
theorem dX8_share_190 : decode cX8_share 190 = .ok (.iastore, 1) := by decide +kernel
theorem dX8_share_191 : decode cX8_share 191 = .ok (.return_, 1) := by decide +kernel
theorem dX8_worth_0 : decode cX8_worth 0 = .ok (.aload_n 0, 1) := by decide +kernel
theorem dX8_worth_1 : decode cX8_worth 1 = .ok (.iload_n 1, 1) := by decide +kernel
theorem dX8_worth_2 : decode cX8_worth 2 = .ok (.iconst 3, 1) := by decide +kernel
theorem dX8_worth_3 : decode cX8_worth 3 = .ok (.iload_n 2, 1) := by decide +kernel
theorem dX8_worth_4 : decode cX8_worth 4 = .ok (.invokevirtual 97, 3) := by decide +kernel
theorem dX8_worth_7 : decode cX8_worth 7 = .ok (.istore_n 3, 1) := by decide +kernel
theorem dX8_worth_8 : decode cX8_worth 8 = .ok (.aload_n 0, 1) := by decide +kernel
theorem dX8_worth_9 : decode cX8_worth 9 = .ok (.iload_n 1, 1) := by decide +kernel
theorem dX8_worth_10 : decode cX8_worth 10 = .ok (.iconst 4, 1) := by decide +kernel
theorem dX8_worth_11 : decode cX8_worth 11 = .ok (.iconst 0, 1) := by decide +kernel
theorem dX8_worth_12 : decode cX8_worth 12 = .ok (.invokevirtual 97, 3) := by decide +kernel
theorem dX8_worth_15 : decode cX8_worth 15 = .ok (.istore 4, 2) := by decide +kernel
theorem dX8_worth_17 : decode cX8_worth 17 = .ok (.aload_n 0, 1) := by decide +kernel
theorem dX8_worth_18 : decode cX8_worth 18 = .ok (.invokevirtual 104, 3) := by decide +kernel
theorem dX8_worth_21 : decode cX8_worth 21 = .ok (.aload_n 0, 1) := by decide +kernel
theorem dX8_worth_22 : decode cX8_worth 22 = .ok (.iload_n 1, 1) := by decide +kernel
theorem dX8_worth_23 : decode cX8_worth 23 = .ok (.iconst 3, 1) := by decide +kernel
theorem dX8_worth_24 : decode cX8_worth 24 = .ok (.iload_n 3, 1) := by decide +kernel
theorem dX8_worth_25 : decode cX8_worth 25 = .ok (.invokevirtual 97, 3) := by decide +kernel
theorem dX8_worth_28 : decode cX8_worth 28 = .ok (.pop, 1) := by decide +kernel
theorem dX8_worth_29 : decode cX8_worth 29 = .ok (.aload_n 0, 1) := by decide +kernel
theorem dX8_worth_30 : decode cX8_worth 30 = .ok (.iload_n 1, 1) := by decide +kernel
theorem dX8_worth_31 : decode cX8_worth 31 = .ok (.iconst 4, 1) := by decide +kernel
theorem dX8_worth_32 : decode cX8_worth 32 = .ok (.iload 4, 2) := by decide +kernel
theorem dX8_worth_34 : decode cX8_worth 34 = .ok (.invokevirtual 97, 3) := by decide +kernel
theorem dX8_worth_37 : decode cX8_worth 37 = .ok (.pop, 1) := by decide +kernel
theorem dX8_worth_38 : decode cX8_worth 38 = .ok (.aload_n 0, 1) := by decide +kernel
theorem dX8_worth_39 : decode cX8_worth 39 = .ok (.iload_n 1, 1) := by decide +kernel
theorem dX8_worth_40 : decode cX8_worth 40 = .ok (.iconst 2, 1) := by decide +kernel
theorem dX8_worth_41 : decode cX8_worth 41 = .ok (.invokevirtual 89, 3) := by decide +kernel
theorem dX8_worth_44 : decode cX8_worth 44 = .ok (.bipush 10, 2) := by decide +kernel
theorem dX8_worth_46 : decode cX8_worth 46 = .ok (.iload_n 2, 1) := by decide +kernel
theorem dX8_worth_47 : decode cX8_worth 47 = .ok (.isub, 1) := by decide +kernel
theorem dX8_worth_48 : decode cX8_worth 48 = .ok (.imul, 1) := by decide +kernel
theorem dX8_worth_49 : decode cX8_worth 49 = .ok (.aload_n 0, 1) := by decide +kernel
theorem dX8_worth_50 : decode cX8_worth 50 = .ok (.getfield 53, 3) := by decide +kernel
theorem dX8_worth_53 : decode cX8_worth 53 = .ok (.iload_n 1, 1) := by decide +kernel
theorem dX8_worth_54 : decode cX8_worth 54 = .ok (.iaload, 1) := by decide +kernel
theorem dX8_worth_55 : decode cX8_worth 55 = .ok (.isub, 1) := by decide +kernel
theorem dX8_worth_56 : decode cX8_worth 56 = .ok (.ireturn, 1) := by decide +kernel
theorem dX8_best_0 : decode cX8_best 0 = .ok (.iconst 0, 1) := by decide +kernel
theorem dX8_best_1 : decode cX8_best 1 = .ok (.istore_n 2, 1) := by decide +kernel
theorem dX8_best_2 : decode cX8_best 2 = .ok (.aload_n 0, 1) := by decide +kernel
theorem dX8_best_3 : decode cX8_best 3 = .ok (.iload_n 1, 1) := by decide +kernel
theorem dX8_best_4 : decode cX8_best 4 = .ok (.iconst 0, 1) := by decide +kernel
theorem dX8_best_5 : decode cX8_best 5 = .ok (.invokevirtual 114, 3) := by decide +kernel
theorem dX8_best_8 : decode cX8_best 8 = .ok (.istore_n 3, 1) := by decide +kernel
theorem dX8_best_9 : decode cX8_best 9 = .ok (.iconst 1, 1) := by decide +kernel
theorem dX8_best_10 : decode cX8_best 10 = .ok (.istore 4, 2) := by decide +kernel
theorem dX8_best_12 : decode cX8_best 12 = .ok (.iload 4, 2) := by decide +kernel
theorem dX8_best_14 : decode cX8_best 14 = .ok (.bipush 10, 2) := by decide +kernel
theorem dX8_best_16 : decode cX8_best 16 = .ok (.if_icmp .ge 38, 3) := by decide +kernel
theorem dX8_best_19 : decode cX8_best 19 = .ok (.aload_n 0, 1) := by decide +kernel
theorem dX8_best_20 : decode cX8_best 20 = .ok (.iload_n 1, 1) := by decide +kernel
theorem dX8_best_21 : decode cX8_best 21 = .ok (.iload 4, 2) := by decide +kernel
theorem dX8_best_23 : decode cX8_best 23 = .ok (.invokevirtual 114, 3) := by decide +kernel
theorem dX8_best_26 : decode cX8_best 26 = .ok (.istore 5, 2) := by decide +kernel
theorem dX8_best_28 : decode cX8_best 28 = .ok (.iload 5, 2) := by decide +kernel
theorem dX8_best_30 : decode cX8_best 30 = .ok (.iload_n 3, 1) := by decide +kernel
theorem dX8_best_31 : decode cX8_best 31 = .ok (.if_icmp .le 8, 3) := by decide +kernel
theorem dX8_best_34 : decode cX8_best 34 = .ok (.iload 4, 2) := by decide +kernel
theorem dX8_best_36 : decode cX8_best 36 = .ok (.goto 4, 3) := by decide +kernel
theorem dX8_best_39 : decode cX8_best 39 = .ok (.iload_n 2, 1) := by decide +kernel
theorem dX8_best_40 : decode cX8_best 40 = .ok (.istore_n 2, 1) := by decide +kernel
theorem dX8_best_41 : decode cX8_best 41 = .ok (.iload 5, 2) := by decide +kernel
theorem dX8_best_43 : decode cX8_best 43 = .ok (.iload_n 3, 1) := by decide +kernel
theorem dX8_best_44 : decode cX8_best 44 = .ok (.invokestatic 182, 3) := by decide +kernel
theorem dX8_best_47 : decode cX8_best 47 = .ok (.istore_n 3, 1) := by decide +kernel
theorem dX8_best_48 : decode cX8_best 48 = .ok (.iinc 4 1, 3) := by decide +kernel
theorem dX8_best_51 : decode cX8_best 51 = .ok (.goto (-39), 3) := by decide +kernel
theorem dX8_best_54 : decode cX8_best 54 = .ok (.iload_n 2, 1) := by decide +kernel
theorem dX8_best_55 : decode cX8_best 55 = .ok (.ireturn, 1) := by decide +kernel
theorem dX8_moves_0 : decode cX8_moves 0 = .ok (.iconst 0, 1) := by decide +kernel
theorem dX8_moves_1 : decode cX8_moves 1 = .ok (.istore_n 1, 1) := by decide +kernel
theorem dX8_moves_2 : decode cX8_moves 2 = .ok (.iconst 0, 1) := by decide +kernel
theorem dX8_moves_3 : decode cX8_moves 3 = .ok (.istore_n 2, 1) := by decide +kernel
theorem dX8_moves_4 : decode cX8_moves 4 = .ok (.iload_n 2, 1) := by decide +kernel
theorem dX8_moves_5 : decode cX8_moves 5 = .ok (.aload_n 0, 1) := by decide +kernel
theorem dX8_moves_6 : decode cX8_moves 6 = .ok (.getfield 15, 3) := by decide +kernel
theorem dX8_moves_9 : decode cX8_moves 9 = .ok (.bipush 60, 2) := by decide +kernel
theorem dX8_moves_11 : decode cX8_moves 11 = .ok (.iaload, 1) := by decide +kernel
theorem dX8_moves_12 : decode cX8_moves 12 = .ok (.if_icmp .ge 54, 3) := by decide +kernel
theorem dX8_moves_15 : decode cX8_moves 15 = .ok (.aload_n 0, 1) := by decide +kernel
theorem dX8_moves_16 : decode cX8_moves 16 = .ok (.iload_n 2, 1) := by decide +kernel
theorem dX8_moves_17 : decode cX8_moves 17 = .ok (.invokevirtual 179, 3) := by decide +kernel
theorem dX8_moves_20 : decode cX8_moves 20 = .ok (.ifCond .eq 40, 3) := by decide +kernel
theorem dX8_moves_23 : decode cX8_moves 23 = .ok (.aload_n 0, 1) := by decide +kernel
theorem dX8_moves_24 : decode cX8_moves 24 = .ok (.iload_n 2, 1) := by decide +kernel
theorem dX8_moves_25 : decode cX8_moves 25 = .ok (.invokevirtual 107, 3) := by decide +kernel
theorem dX8_moves_28 : decode cX8_moves 28 = .ok (.istore_n 3, 1) := by decide +kernel
theorem dX8_moves_29 : decode cX8_moves 29 = .ok (.aload_n 0, 1) := by decide +kernel
theorem dX8_moves_30 : decode cX8_moves 30 = .ok (.iload_n 2, 1) := by decide +kernel
theorem dX8_moves_31 : decode cX8_moves 31 = .ok (.iload_n 3, 1) := by decide +kernel
theorem dX8_moves_32 : decode cX8_moves 32 = .ok (.invokevirtual 114, 3) := by decide +kernel
theorem dX8_moves_35 : decode cX8_moves 35 = .ok (.aload_n 0, 1) := by decide +kernel
theorem dX8_moves_36 : decode cX8_moves 36 = .ok (.iload_n 2, 1) := by decide +kernel
theorem dX8_moves_37 : decode cX8_moves 37 = .ok (.aload_n 0, 1) := by decide +kernel
theorem dX8_moves_38 : decode cX8_moves 38 = .ok (.iload_n 2, 1) := by decide +kernel
theorem dX8_moves_39 : decode cX8_moves 39 = .ok (.iconst 3, 1) := by decide +kernel
theorem dX8_moves_40 : decode cX8_moves 40 = .ok (.invokevirtual 89, 3) := by decide +kernel
theorem dX8_moves_43 : decode cX8_moves 43 = .ok (.invokevirtual 114, 3) := by decide +kernel
theorem dX8_moves_46 : decode cX8_moves 46 = .ok (.if_icmp .le 14, 3) := by decide +kernel
theorem dX8_moves_49 : decode cX8_moves 49 = .ok (.aload_n 0, 1) := by decide +kernel
theorem dX8_moves_50 : decode cX8_moves 50 = .ok (.iload_n 2, 1) := by decide +kernel
theorem dX8_moves_51 : decode cX8_moves 51 = .ok (.iconst 3, 1) := by decide +kernel
theorem dX8_moves_52 : decode cX8_moves 52 = .ok (.iload_n 3, 1) := by decide +kernel
theorem dX8_moves_53 : decode cX8_moves 53 = .ok (.invokevirtual 97, 3) := by decide +kernel
theorem dX8_moves_56 : decode cX8_moves 56 = .ok (.pop, 1) := by decide +kernel
theorem dX8_moves_57 : decode cX8_moves 57 = .ok (.iinc 1 1, 3) := by decide +kernel
theorem dX8_moves_60 : decode cX8_moves 60 = .ok (.iinc 2 1, 3) := by decide +kernel
theorem dX8_moves_63 : decode cX8_moves 63 = .ok (.goto (-59), 3) := by decide +kernel
theorem dX8_moves_66 : decode cX8_moves 66 = .ok (.iload_n 1, 1) := by decide +kernel
theorem dX8_moves_67 : decode cX8_moves 67 = .ok (.ireturn, 1) := by decide +kernel
theorem dX8_day_0 : decode cX8_day 0 = .ok (.aload_n 0, 1) := by decide +kernel
theorem dX8_day_1 : decode cX8_day 1 = .ok (.invokevirtual 187, 3) := by decide +kernel
theorem dX8_day_4 : decode cX8_day 4 = .ok (.istore_n 2, 1) := by decide +kernel
theorem dX8_day_5 : decode cX8_day 5 = .ok (.aload_n 0, 1) := by decide +kernel
theorem dX8_day_6 : decode cX8_day 6 = .ok (.invokevirtual 104, 3) := by decide +kernel
theorem dX8_day_9 : decode cX8_day 9 = .ok (.iconst 0, 1) := by decide +kernel
theorem dX8_day_10 : decode cX8_day 10 = .ok (.istore_n 3, 1) := by decide +kernel
theorem dX8_day_11 : decode cX8_day 11 = .ok (.iload_n 3, 1) := by decide +kernel
theorem dX8_day_12 : decode cX8_day 12 = .ok (.aload_n 0, 1) := by decide +kernel
theorem dX8_day_13 : decode cX8_day 13 = .ok (.getfield 15, 3) := by decide +kernel
theorem dX8_day_16 : decode cX8_day 16 = .ok (.bipush 60, 2) := by decide +kernel
theorem dX8_day_18 : decode cX8_day 18 = .ok (.iaload, 1) := by decide +kernel
theorem dX8_day_19 : decode cX8_day 19 = .ok (.if_icmp .ge 47, 3) := by decide +kernel
theorem dX8_day_22 : decode cX8_day 22 = .ok (.aload_n 0, 1) := by decide +kernel
theorem dX8_day_23 : decode cX8_day 23 = .ok (.iload_n 3, 1) := by decide +kernel
theorem dX8_day_24 : decode cX8_day 24 = .ok (.iconst 5, 1) := by decide +kernel
theorem dX8_day_25 : decode cX8_day 25 = .ok (.invokevirtual 89, 3) := by decide +kernel
theorem dX8_day_28 : decode cX8_day 28 = .ok (.aload_n 0, 1) := by decide +kernel
theorem dX8_day_29 : decode cX8_day 29 = .ok (.getfield 53, 3) := by decide +kernel
theorem dX8_day_32 : decode cX8_day 32 = .ok (.iload_n 3, 1) := by decide +kernel
theorem dX8_day_33 : decode cX8_day 33 = .ok (.iaload, 1) := by decide +kernel
theorem dX8_day_34 : decode cX8_day 34 = .ok (.iadd, 1) := by decide +kernel
theorem dX8_day_35 : decode cX8_day 35 = .ok (.istore 4, 2) := by decide +kernel
theorem dX8_day_37 : decode cX8_day 37 = .ok (.aload_n 0, 1) := by decide +kernel
theorem dX8_day_38 : decode cX8_day 38 = .ok (.iload_n 3, 1) := by decide +kernel
theorem dX8_day_39 : decode cX8_day 39 = .ok (.iconst 5, 1) := by decide +kernel
theorem dX8_day_40 : decode cX8_day 40 = .ok (.iload_n 1, 1) := by decide +kernel
theorem dX8_day_41 : decode cX8_day 41 = .ok (.ifCond .eq 13, 3) := by decide +kernel
theorem dX8_day_44 : decode cX8_day 44 = .ok (.ldc 190, 2) := by decide +kernel
theorem dX8_day_46 : decode cX8_day 46 = .ok (.iload 4, 2) := by decide +kernel
theorem dX8_day_48 : decode cX8_day 48 = .ok (.invokestatic 191, 3) := by decide +kernel
theorem dX8_day_51 : decode cX8_day 51 = .ok (.goto 5, 3) := by decide +kernel
theorem dX8_day_54 : decode cX8_day 54 = .ok (.iload 4, 2) := by decide +kernel
theorem dX8_day_56 : decode cX8_day 56 = .ok (.invokevirtual 97, 3) := by decide +kernel
theorem dX8_day_59 : decode cX8_day 59 = .ok (.pop, 1) := by decide +kernel
theorem dX8_day_60 : decode cX8_day 60 = .ok (.iinc 3 1, 3) := by decide +kernel
theorem dX8_day_63 : decode cX8_day 63 = .ok (.goto (-52), 3) := by decide +kernel
theorem dX8_day_66 : decode cX8_day 66 = .ok (.aload_n 0, 1) := by decide +kernel
theorem dX8_day_67 : decode cX8_day 67 = .ok (.getfield 15, 3) := by decide +kernel
theorem dX8_day_70 : decode cX8_day 70 = .ok (.bipush 62, 2) := by decide +kernel
theorem dX8_day_72 : decode cX8_day 72 = .ok (.dup2, 1) := by decide +kernel
theorem dX8_day_73 : decode cX8_day 73 = .ok (.iaload, 1) := by decide +kernel
theorem dX8_day_74 : decode cX8_day 74 = .ok (.iconst 1, 1) := by decide +kernel
theorem dX8_day_75 : decode cX8_day 75 = .ok (.iadd, 1) := by decide +kernel
theorem dX8_day_76 : decode cX8_day 76 = .ok (.iastore, 1) := by decide +kernel
theorem dX8_day_77 : decode cX8_day 77 = .ok (.iload_n 2, 1) := by decide +kernel
theorem dX8_day_78 : decode cX8_day 78 = .ok (.ireturn, 1) := by decide +kernel
theorem dX8_still_0 : decode cX8_still 0 = .ok (.aload_n 0, 1) := by decide +kernel
theorem dX8_still_1 : decode cX8_still 1 = .ok (.iconst 0, 1) := by decide +kernel
theorem dX8_still_2 : decode cX8_still 2 = .ok (.invokevirtual 194, 3) := by decide +kernel
theorem dX8_still_5 : decode cX8_still 5 = .ok (.bipush (-5), 2) := by decide +kernel
theorem dX8_still_7 : decode cX8_still 7 = .ok (.istore_n 1, 1) := by decide +kernel
theorem dX8_still_8 : decode cX8_still 8 = .ok (.iconst 0, 1) := by decide +kernel
theorem dX8_still_9 : decode cX8_still 9 = .ok (.istore_n 2, 1) := by decide +kernel
theorem dX8_still_10 : decode cX8_still 10 = .ok (.iload_n 2, 1) := by decide +kernel
theorem dX8_still_11 : decode cX8_still 11 = .ok (.bipush 20, 2) := by decide +kernel
theorem dX8_still_13 : decode cX8_still 13 = .ok (.if_icmp .gt 30, 3) := by decide +kernel
theorem dX8_still_16 : decode cX8_still 16 = .ok (.iload_n 1, 1) := by decide +kernel
theorem dX8_still_17 : decode cX8_still 17 = .ok (.bipush (-5), 2) := by decide +kernel
theorem dX8_still_19 : decode cX8_still 19 = .ok (.if_icmp .ne 24, 3) := by decide +kernel
theorem dX8_still_22 : decode cX8_still 22 = .ok (.aload_n 0, 1) := by decide +kernel
theorem dX8_still_23 : decode cX8_still 23 = .ok (.iconst 0, 1) := by decide +kernel
theorem dX8_still_24 : decode cX8_still 24 = .ok (.invokevirtual 197, 3) := by decide +kernel
theorem dX8_still_27 : decode cX8_still 27 = .ok (.ifCond .ne 7, 3) := by decide +kernel
theorem dX8_still_30 : decode cX8_still 30 = .ok (.iload_n 2, 1) := by decide +kernel
theorem dX8_still_31 : decode cX8_still 31 = .ok (.goto 5, 3) := by decide +kernel
theorem dX8_still_34 : decode cX8_still 34 = .ok (.bipush (-5), 2) := by decide +kernel
theorem dX8_still_36 : decode cX8_still 36 = .ok (.istore_n 1, 1) := by decide +kernel
theorem dX8_still_37 : decode cX8_still 37 = .ok (.iinc 2 1, 3) := by decide +kernel
theorem dX8_still_40 : decode cX8_still 40 = .ok (.goto (-30), 3) := by decide +kernel
theorem dX8_still_43 : decode cX8_still 43 = .ok (.aload_n 0, 1) := by decide +kernel
theorem dX8_still_44 : decode cX8_still 44 = .ok (.iconst 0, 1) := by decide +kernel
theorem dX8_still_45 : decode cX8_still 45 = .ok (.invokevirtual 201, 3) := by decide +kernel
theorem dX8_still_48 : decode cX8_still 48 = .ok (.iload_n 1, 1) := by decide +kernel
theorem dX8_still_49 : decode cX8_still 49 = .ok (.ireturn, 1) := by decide +kernel
theorem dX8_gains_0 : decode cX8_gains 0 = .ok (.aload_n 0, 1) := by decide +kernel
theorem dX8_gains_1 : decode cX8_gains 1 = .ok (.iconst 0, 1) := by decide +kernel
theorem dX8_gains_2 : decode cX8_gains 2 = .ok (.invokevirtual 194, 3) := by decide +kernel
theorem dX8_gains_5 : decode cX8_gains 5 = .ok (.aload_n 0, 1) := by decide +kernel
theorem dX8_gains_6 : decode cX8_gains 6 = .ok (.invokevirtual 187, 3) := by decide +kernel
theorem dX8_gains_9 : decode cX8_gains 9 = .ok (.pop, 1) := by decide +kernel
theorem dX8_gains_10 : decode cX8_gains 10 = .ok (.iconst 0, 1) := by decide +kernel
theorem dX8_gains_11 : decode cX8_gains 11 = .ok (.istore_n 1, 1) := by decide +kernel
theorem dX8_gains_12 : decode cX8_gains 12 = .ok (.iconst 0, 1) := by decide +kernel
theorem dX8_gains_13 : decode cX8_gains 13 = .ok (.istore_n 2, 1) := by decide +kernel
theorem dX8_gains_14 : decode cX8_gains 14 = .ok (.iload_n 2, 1) := by decide +kernel
theorem dX8_gains_15 : decode cX8_gains 15 = .ok (.aload_n 0, 1) := by decide +kernel
theorem dX8_gains_16 : decode cX8_gains 16 = .ok (.getfield 15, 3) := by decide +kernel
theorem dX8_gains_19 : decode cX8_gains 19 = .ok (.bipush 60, 2) := by decide +kernel
theorem dX8_gains_21 : decode cX8_gains 21 = .ok (.iaload, 1) := by decide +kernel
theorem dX8_gains_22 : decode cX8_gains 22 = .ok (.if_icmp .ge 26, 3) := by decide +kernel
theorem dX8_gains_25 : decode cX8_gains 25 = .ok (.aload_n 0, 1) := by decide +kernel
theorem dX8_gains_26 : decode cX8_gains 26 = .ok (.getfield 56, 3) := by decide +kernel
theorem dX8_gains_29 : decode cX8_gains 29 = .ok (.iload_n 2, 1) := by decide +kernel
theorem dX8_gains_30 : decode cX8_gains 30 = .ok (.aload_n 0, 1) := by decide +kernel
theorem dX8_gains_31 : decode cX8_gains 31 = .ok (.iload_n 2, 1) := by decide +kernel
theorem dX8_gains_32 : decode cX8_gains 32 = .ok (.aload_n 0, 1) := by decide +kernel
theorem dX8_gains_33 : decode cX8_gains 33 = .ok (.iload_n 2, 1) := by decide +kernel
theorem dX8_gains_34 : decode cX8_gains 34 = .ok (.iconst 3, 1) := by decide +kernel
theorem dX8_gains_35 : decode cX8_gains 35 = .ok (.invokevirtual 89, 3) := by decide +kernel

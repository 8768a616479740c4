theorem dX8_gains_38 : decode cX8_gains 38 = .ok (.invokevirtual 114, 3) := by decide +kernel
theorem dX8_gains_41 : decode cX8_gains 41 = .ok (.iastore, 1) := by decide +kernel
theorem dX8_gains_42 : decode cX8_gains 42 = .ok (.iinc 2 1, 3) := by decide +kernel
theorem dX8_gains_45 : decode cX8_gains 45 = .ok (.goto (-31), 3) := by decide +kernel
theorem dX8_gains_48 : decode cX8_gains 48 = .ok (.aload_n 0, 1) := by decide +kernel
theorem dX8_gains_49 : decode cX8_gains 49 = .ok (.iconst 0, 1) := by decide +kernel
theorem dX8_gains_50 : decode cX8_gains 50 = .ok (.invokevirtual 201, 3) := by decide +kernel
theorem dX8_gains_53 : decode cX8_gains 53 = .ok (.iconst 0, 1) := by decide +kernel
theorem dX8_gains_54 : decode cX8_gains 54 = .ok (.istore_n 2, 1) := by decide +kernel
theorem dX8_gains_55 : decode cX8_gains 55 = .ok (.iload_n 2, 1) := by decide +kernel
theorem dX8_gains_56 : decode cX8_gains 56 = .ok (.aload_n 0, 1) := by decide +kernel
theorem dX8_gains_57 : decode cX8_gains 57 = .ok (.getfield 15, 3) := by decide +kernel
theorem dX8_gains_60 : decode cX8_gains 60 = .ok (.bipush 60, 2) := by decide +kernel
theorem dX8_gains_62 : decode cX8_gains 62 = .ok (.iaload, 1) := by decide +kernel
theorem dX8_gains_63 : decode cX8_gains 63 = .ok (.if_icmp .ge 47, 3) := by decide +kernel
theorem dX8_gains_66 : decode cX8_gains 66 = .ok (.iload_n 1, 1) := by decide +kernel
theorem dX8_gains_67 : decode cX8_gains 67 = .ok (.aload_n 0, 1) := by decide +kernel
theorem dX8_gains_68 : decode cX8_gains 68 = .ok (.iload_n 2, 1) := by decide +kernel
theorem dX8_gains_69 : decode cX8_gains 69 = .ok (.invokevirtual 179, 3) := by decide +kernel
theorem dX8_gains_72 : decode cX8_gains 72 = .ok (.ifCond .eq 29, 3) := by decide +kernel
theorem dX8_gains_75 : decode cX8_gains 75 = .ok (.aload_n 0, 1) := by decide +kernel
theorem dX8_gains_76 : decode cX8_gains 76 = .ok (.getfield 56, 3) := by decide +kernel
theorem dX8_gains_79 : decode cX8_gains 79 = .ok (.iload_n 2, 1) := by decide +kernel
theorem dX8_gains_80 : decode cX8_gains 80 = .ok (.iaload, 1) := by decide +kernel
theorem dX8_gains_81 : decode cX8_gains 81 = .ok (.aload_n 0, 1) := by decide +kernel
theorem dX8_gains_82 : decode cX8_gains 82 = .ok (.iload_n 2, 1) := by decide +kernel
theorem dX8_gains_83 : decode cX8_gains 83 = .ok (.aload_n 0, 1) := by decide +kernel
theorem dX8_gains_84 : decode cX8_gains 84 = .ok (.iload_n 2, 1) := by decide +kernel
theorem dX8_gains_85 : decode cX8_gains 85 = .ok (.iconst 3, 1) := by decide +kernel
theorem dX8_gains_86 : decode cX8_gains 86 = .ok (.invokevirtual 89, 3) := by decide +kernel
theorem dX8_gains_89 : decode cX8_gains 89 = .ok (.invokevirtual 114, 3) := by decide +kernel
theorem dX8_gains_92 : decode cX8_gains 92 = .ok (.if_icmp .le 9, 3) := by decide +kernel
theorem dX8_gains_95 : decode cX8_gains 95 = .ok (.iconst 1, 1) := by decide +kernel
theorem dX8_gains_96 : decode cX8_gains 96 = .ok (.iload_n 2, 1) := by decide +kernel
theorem dX8_gains_97 : decode cX8_gains 97 = .ok (.ishl, 1) := by decide +kernel
theorem dX8_gains_98 : decode cX8_gains 98 = .ok (.goto 4, 3) := by decide +kernel
theorem dX8_gains_101 : decode cX8_gains 101 = .ok (.iconst 0, 1) := by decide +kernel
theorem dX8_gains_102 : decode cX8_gains 102 = .ok (.ior, 1) := by decide +kernel
theorem dX8_gains_103 : decode cX8_gains 103 = .ok (.istore_n 1, 1) := by decide +kernel
theorem dX8_gains_104 : decode cX8_gains 104 = .ok (.iinc 2 1, 3) := by decide +kernel
theorem dX8_gains_107 : decode cX8_gains 107 = .ok (.goto (-52), 3) := by decide +kernel
theorem dX8_gains_110 : decode cX8_gains 110 = .ok (.iload_n 1, 1) := by decide +kernel
theorem dX8_gains_111 : decode cX8_gains 111 = .ok (.ireturn, 1) := by decide +kernel
theorem dX8_aways_0 : decode cX8_aways 0 = .ok (.iconst 0, 1) := by decide +kernel
theorem dX8_aways_1 : decode cX8_aways 1 = .ok (.istore_n 1, 1) := by decide +kernel
theorem dX8_aways_2 : decode cX8_aways 2 = .ok (.iconst 0, 1) := by decide +kernel
theorem dX8_aways_3 : decode cX8_aways 3 = .ok (.istore_n 2, 1) := by decide +kernel
theorem dX8_aways_4 : decode cX8_aways 4 = .ok (.iload_n 2, 1) := by decide +kernel
theorem dX8_aways_5 : decode cX8_aways 5 = .ok (.aload_n 0, 1) := by decide +kernel
theorem dX8_aways_6 : decode cX8_aways 6 = .ok (.getfield 15, 3) := by decide +kernel
theorem dX8_aways_9 : decode cX8_aways 9 = .ok (.bipush 60, 2) := by decide +kernel
theorem dX8_aways_11 : decode cX8_aways 11 = .ok (.iaload, 1) := by decide +kernel
theorem dX8_aways_12 : decode cX8_aways 12 = .ok (.if_icmp .ge 27, 3) := by decide +kernel
theorem dX8_aways_15 : decode cX8_aways 15 = .ok (.iload_n 1, 1) := by decide +kernel
theorem dX8_aways_16 : decode cX8_aways 16 = .ok (.aload_n 0, 1) := by decide +kernel
theorem dX8_aways_17 : decode cX8_aways 17 = .ok (.iload_n 2, 1) := by decide +kernel
theorem dX8_aways_18 : decode cX8_aways 18 = .ok (.invokevirtual 179, 3) := by decide +kernel
theorem dX8_aways_21 : decode cX8_aways 21 = .ok (.ifCond .eq 7, 3) := by decide +kernel
theorem dX8_aways_24 : decode cX8_aways 24 = .ok (.iconst 0, 1) := by decide +kernel
theorem dX8_aways_25 : decode cX8_aways 25 = .ok (.goto 6, 3) := by decide +kernel
theorem dX8_aways_28 : decode cX8_aways 28 = .ok (.iconst 1, 1) := by decide +kernel
theorem dX8_aways_29 : decode cX8_aways 29 = .ok (.iload_n 2, 1) := by decide +kernel
theorem dX8_aways_30 : decode cX8_aways 30 = .ok (.ishl, 1) := by decide +kernel
theorem dX8_aways_31 : decode cX8_aways 31 = .ok (.ior, 1) := by decide +kernel
theorem dX8_aways_32 : decode cX8_aways 32 = .ok (.istore_n 1, 1) := by decide +kernel
theorem dX8_aways_33 : decode cX8_aways 33 = .ok (.iinc 2 1, 3) := by decide +kernel
theorem dX8_aways_36 : decode cX8_aways 36 = .ok (.goto (-32), 3) := by decide +kernel
theorem dX8_aways_39 : decode cX8_aways 39 = .ok (.iload_n 1, 1) := by decide +kernel
theorem dX8_aways_40 : decode cX8_aways 40 = .ok (.ireturn, 1) := by decide +kernel
theorem dX8_told_0 : decode cX8_told 0 = .ok (.iload_n 1, 1) := by decide +kernel
theorem dX8_told_1 : decode cX8_told 1 = .ok (.tableswitch 101 0 7 #[47, 55, 66, 74, 79, 84, 89, 95], 47) := by decide +kernel
theorem dX8_told_48 : decode cX8_told 48 = .ok (.aload_n 0, 1) := by decide +kernel
theorem dX8_told_49 : decode cX8_told 49 = .ok (.getfield 15, 3) := by decide +kernel
theorem dX8_told_52 : decode cX8_told 52 = .ok (.bipush 62, 2) := by decide +kernel
theorem dX8_told_54 : decode cX8_told 54 = .ok (.iaload, 1) := by decide +kernel
theorem dX8_told_55 : decode cX8_told 55 = .ok (.ireturn, 1) := by decide +kernel
theorem dX8_told_56 : decode cX8_told 56 = .ok (.aload_n 0, 1) := by decide +kernel
theorem dX8_told_57 : decode cX8_told 57 = .ok (.iconst 0, 1) := by decide +kernel
theorem dX8_told_58 : decode cX8_told 58 = .ok (.iconst 0, 1) := by decide +kernel
theorem dX8_told_59 : decode cX8_told 59 = .ok (.invokevirtual 175, 3) := by decide +kernel
theorem dX8_told_62 : decode cX8_told 62 = .ok (.aload_n 0, 1) := by decide +kernel
theorem dX8_told_63 : decode cX8_told 63 = .ok (.getfield 160, 3) := by decide +kernel
theorem dX8_told_66 : decode cX8_told 66 = .ok (.ireturn, 1) := by decide +kernel
theorem dX8_told_67 : decode cX8_told 67 = .ok (.aload_n 0, 1) := by decide +kernel
theorem dX8_told_68 : decode cX8_told 68 = .ok (.getfield 15, 3) := by decide +kernel
theorem dX8_told_71 : decode cX8_told 71 = .ok (.bipush 61, 2) := by decide +kernel
theorem dX8_told_73 : decode cX8_told 73 = .ok (.iaload, 1) := by decide +kernel
theorem dX8_told_74 : decode cX8_told 74 = .ok (.ireturn, 1) := by decide +kernel
theorem dX8_told_75 : decode cX8_told 75 = .ok (.aload_n 0, 1) := by decide +kernel
theorem dX8_told_76 : decode cX8_told 76 = .ok (.invokevirtual 204, 3) := by decide +kernel
theorem dX8_told_79 : decode cX8_told 79 = .ok (.ireturn, 1) := by decide +kernel
theorem dX8_told_80 : decode cX8_told 80 = .ok (.aload_n 0, 1) := by decide +kernel
theorem dX8_told_81 : decode cX8_told 81 = .ok (.invokevirtual 207, 3) := by decide +kernel
theorem dX8_told_84 : decode cX8_told 84 = .ok (.ireturn, 1) := by decide +kernel
theorem dX8_told_85 : decode cX8_told 85 = .ok (.aload_n 0, 1) := by decide +kernel
theorem dX8_told_86 : decode cX8_told 86 = .ok (.invokevirtual 210, 3) := by decide +kernel
theorem dX8_told_89 : decode cX8_told 89 = .ok (.ireturn, 1) := by decide +kernel
theorem dX8_told_90 : decode cX8_told 90 = .ok (.aload_n 0, 1) := by decide +kernel
theorem dX8_told_91 : decode cX8_told 91 = .ok (.iconst 1, 1) := by decide +kernel
theorem dX8_told_92 : decode cX8_told 92 = .ok (.invokevirtual 213, 3) := by decide +kernel
theorem dX8_told_95 : decode cX8_told 95 = .ok (.ireturn, 1) := by decide +kernel
theorem dX8_told_96 : decode cX8_told 96 = .ok (.aload_n 0, 1) := by decide +kernel
theorem dX8_told_97 : decode cX8_told 97 = .ok (.iconst 0, 1) := by decide +kernel
theorem dX8_told_98 : decode cX8_told 98 = .ok (.invokevirtual 213, 3) := by decide +kernel
theorem dX8_told_101 : decode cX8_told 101 = .ok (.ireturn, 1) := by decide +kernel
theorem dX8_told_102 : decode cX8_told 102 = .ok (.iconst (-1), 1) := by decide +kernel
theorem dX8_told_103 : decode cX8_told 103 = .ok (.ireturn, 1) := by decide +kernel
theorem dX8_pass_0 : decode cX8_pass 0 = .ok (.iload_n 1, 1) := by decide +kernel
theorem dX8_pass_1 : decode cX8_pass 1 = .ok (.iconst 0, 1) := by decide +kernel
theorem dX8_pass_2 : decode cX8_pass 2 = .ok (.bipush 20, 2) := by decide +kernel
theorem dX8_pass_4 : decode cX8_pass 4 = .ok (.invokestatic 85, 3) := by decide +kernel
theorem dX8_pass_7 : decode cX8_pass 7 = .ok (.ifCond .ne 6, 3) := by decide +kernel
theorem dX8_pass_10 : decode cX8_pass 10 = .ok (.bipush (-2), 2) := by decide +kernel
theorem dX8_pass_12 : decode cX8_pass 12 = .ok (.ireturn, 1) := by decide +kernel
theorem dX8_pass_13 : decode cX8_pass 13 = .ok (.aload_n 0, 1) := by decide +kernel
theorem dX8_pass_14 : decode cX8_pass 14 = .ok (.getfield 15, 3) := by decide +kernel
theorem dX8_pass_17 : decode cX8_pass 17 = .ok (.bipush 62, 2) := by decide +kernel
theorem dX8_pass_19 : decode cX8_pass 19 = .ok (.iaload, 1) := by decide +kernel
theorem dX8_pass_20 : decode cX8_pass 20 = .ok (.iload_n 1, 1) := by decide +kernel
theorem dX8_pass_21 : decode cX8_pass 21 = .ok (.iadd, 1) := by decide +kernel
theorem dX8_pass_22 : decode cX8_pass 22 = .ok (.sipush 9999, 3) := by decide +kernel
theorem dX8_pass_25 : decode cX8_pass 25 = .ok (.if_icmp .le 6, 3) := by decide +kernel
theorem dX8_pass_28 : decode cX8_pass 28 = .ok (.bipush (-3), 2) := by decide +kernel
theorem dX8_pass_30 : decode cX8_pass 30 = .ok (.ireturn, 1) := by decide +kernel
theorem dX8_pass_31 : decode cX8_pass 31 = .ok (.iconst 0, 1) := by decide +kernel
theorem dX8_pass_32 : decode cX8_pass 32 = .ok (.istore_n 2, 1) := by decide +kernel
theorem dX8_pass_33 : decode cX8_pass 33 = .ok (.iload_n 2, 1) := by decide +kernel
theorem dX8_pass_34 : decode cX8_pass 34 = .ok (.iload_n 1, 1) := by decide +kernel
theorem dX8_pass_35 : decode cX8_pass 35 = .ok (.if_icmp .ge 15, 3) := by decide +kernel
theorem dX8_pass_38 : decode cX8_pass 38 = .ok (.aload_n 0, 1) := by decide +kernel
theorem dX8_pass_39 : decode cX8_pass 39 = .ok (.iconst 1, 1) := by decide +kernel
theorem dX8_pass_40 : decode cX8_pass 40 = .ok (.invokevirtual 197, 3) := by decide +kernel
theorem dX8_pass_43 : decode cX8_pass 43 = .ok (.pop, 1) := by decide +kernel
theorem dX8_pass_44 : decode cX8_pass 44 = .ok (.iinc 2 1, 3) := by decide +kernel
theorem dX8_pass_47 : decode cX8_pass 47 = .ok (.goto (-14), 3) := by decide +kernel
theorem dX8_pass_50 : decode cX8_pass 50 = .ok (.aload_n 0, 1) := by decide +kernel
theorem dX8_pass_51 : decode cX8_pass 51 = .ok (.getfield 15, 3) := by decide +kernel
theorem dX8_pass_54 : decode cX8_pass 54 = .ok (.bipush 62, 2) := by decide +kernel
theorem dX8_pass_56 : decode cX8_pass 56 = .ok (.iaload, 1) := by decide +kernel
theorem dX8_pass_57 : decode cX8_pass 57 = .ok (.ireturn, 1) := by decide +kernel
theorem dX8_on_0 : decode cX8_on 0 = .ok (.aload_n 0, 1) := by decide +kernel
theorem dX8_on_1 : decode cX8_on 1 = .ok (.iload_n 2, 1) := by decide +kernel
theorem dX8_on_2 : decode cX8_on 2 = .ok (.bipush 10, 2) := by decide +kernel
theorem dX8_on_4 : decode cX8_on 4 = .ok (.isub, 1) := by decide +kernel
theorem dX8_on_5 : decode cX8_on 5 = .ok (.invokevirtual 101, 3) := by decide +kernel
theorem dX8_on_8 : decode cX8_on 8 = .ok (.ifCond .ne 16, 3) := by decide +kernel
theorem dX8_on_11 : decode cX8_on 11 = .ok (.aload_n 0, 1) := by decide +kernel
theorem dX8_on_12 : decode cX8_on 12 = .ok (.iload_n 2, 1) := by decide +kernel
theorem dX8_on_13 : decode cX8_on 13 = .ok (.bipush 20, 2) := by decide +kernel
theorem dX8_on_15 : decode cX8_on 15 = .ok (.isub, 1) := by decide +kernel
theorem dX8_on_16 : decode cX8_on 16 = .ok (.invokevirtual 101, 3) := by decide +kernel
theorem dX8_on_19 : decode cX8_on 19 = .ok (.ifCond .ne 5, 3) := by decide +kernel
theorem dX8_on_22 : decode cX8_on 22 = .ok (.iconst (-1), 1) := by decide +kernel
theorem dX8_on_23 : decode cX8_on 23 = .ok (.ireturn, 1) := by decide +kernel
theorem dX8_on_24 : decode cX8_on 24 = .ok (.iload_n 1, 1) := by decide +kernel
theorem dX8_on_25 : decode cX8_on 25 = .ok (.iconst 0, 1) := by decide +kernel
theorem dX8_on_26 : decode cX8_on 26 = .ok (.bipush 20, 2) := by decide +kernel
theorem dX8_on_28 : decode cX8_on 28 = .ok (.invokestatic 85, 3) := by decide +kernel
theorem dX8_on_31 : decode cX8_on 31 = .ok (.ifCond .ne 6, 3) := by decide +kernel
theorem dX8_on_34 : decode cX8_on 34 = .ok (.bipush (-2), 2) := by decide +kernel
theorem dX8_on_36 : decode cX8_on 36 = .ok (.ireturn, 1) := by decide +kernel
theorem dX8_on_37 : decode cX8_on 37 = .ok (.aload_n 0, 1) := by decide +kernel
theorem dX8_on_38 : decode cX8_on 38 = .ok (.iconst 0, 1) := by decide +kernel
theorem dX8_on_39 : decode cX8_on 39 = .ok (.invokevirtual 194, 3) := by decide +kernel
theorem dX8_on_42 : decode cX8_on 42 = .ok (.iconst 0, 1) := by decide +kernel
theorem dX8_on_43 : decode cX8_on 43 = .ok (.istore_n 3, 1) := by decide +kernel
theorem dX8_on_44 : decode cX8_on 44 = .ok (.iload_n 3, 1) := by decide +kernel
theorem dX8_on_45 : decode cX8_on 45 = .ok (.iload_n 1, 1) := by decide +kernel
theorem dX8_on_46 : decode cX8_on 46 = .ok (.if_icmp .ge 15, 3) := by decide +kernel
theorem dX8_on_49 : decode cX8_on 49 = .ok (.aload_n 0, 1) := by decide +kernel
theorem dX8_on_50 : decode cX8_on 50 = .ok (.iconst 0, 1) := by decide +kernel
theorem dX8_on_51 : decode cX8_on 51 = .ok (.invokevirtual 197, 3) := by decide +kernel
theorem dX8_on_54 : decode cX8_on 54 = .ok (.pop, 1) := by decide +kernel
theorem dX8_on_55 : decode cX8_on 55 = .ok (.iinc 3 1, 3) := by decide +kernel
theorem dX8_on_58 : decode cX8_on 58 = .ok (.goto (-14), 3) := by decide +kernel
theorem dX8_on_61 : decode cX8_on 61 = .ok (.iload_n 2, 1) := by decide +kernel
theorem dX8_on_62 : decode cX8_on 62 = .ok (.bipush 20, 2) := by decide +kernel
theorem dX8_on_64 : decode cX8_on 64 = .ok (.if_icmp .ge 15, 3) := by decide +kernel
theorem dX8_on_67 : decode cX8_on 67 = .ok (.aload_n 0, 1) := by decide +kernel
theorem dX8_on_68 : decode cX8_on 68 = .ok (.iload_n 2, 1) := by decide +kernel
theorem dX8_on_69 : decode cX8_on 69 = .ok (.bipush 10, 2) := by decide +kernel
theorem dX8_on_71 : decode cX8_on 71 = .ok (.isub, 1) := by decide +kernel
theorem dX8_on_72 : decode cX8_on 72 = .ok (.iconst 3, 1) := by decide +kernel
theorem dX8_on_73 : decode cX8_on 73 = .ok (.invokevirtual 89, 3) := by decide +kernel
theorem dX8_on_76 : decode cX8_on 76 = .ok (.goto 12, 3) := by decide +kernel
theorem dX8_on_79 : decode cX8_on 79 = .ok (.aload_n 0, 1) := by decide +kernel
theorem dX8_on_80 : decode cX8_on 80 = .ok (.iload_n 2, 1) := by decide +kernel
theorem dX8_on_81 : decode cX8_on 81 = .ok (.bipush 20, 2) := by decide +kernel
theorem dX8_on_83 : decode cX8_on 83 = .ok (.isub, 1) := by decide +kernel
theorem dX8_on_84 : decode cX8_on 84 = .ok (.iconst 5, 1) := by decide +kernel
theorem dX8_on_85 : decode cX8_on 85 = .ok (.invokevirtual 89, 3) := by decide +kernel
theorem dX8_on_88 : decode cX8_on 88 = .ok (.istore_n 3, 1) := by decide +kernel
theorem dX8_on_89 : decode cX8_on 89 = .ok (.aload_n 0, 1) := by decide +kernel
theorem dX8_on_90 : decode cX8_on 90 = .ok (.iconst 0, 1) := by decide +kernel
theorem dX8_on_91 : decode cX8_on 91 = .ok (.invokevirtual 201, 3) := by decide +kernel
theorem dX8_on_94 : decode cX8_on 94 = .ok (.iload_n 3, 1) := by decide +kernel
theorem dX8_on_95 : decode cX8_on 95 = .ok (.ireturn, 1) := by decide +kernel
theorem dX8_many_0 : decode cX8_many 0 = .ok (.iconst 0, 1) := by decide +kernel
theorem dX8_many_1 : decode cX8_many 1 = .ok (.istore_n 1, 1) := by decide +kernel
theorem dX8_many_2 : decode cX8_many 2 = .ok (.iconst 0, 1) := by decide +kernel
theorem dX8_many_3 : decode cX8_many 3 = .ok (.istore_n 2, 1) := by decide +kernel
theorem dX8_many_4 : decode cX8_many 4 = .ok (.iload_n 2, 1) := by decide +kernel
theorem dX8_many_5 : decode cX8_many 5 = .ok (.bipush 6, 2) := by decide +kernel
theorem dX8_many_7 : decode cX8_many 7 = .ok (.if_icmp .ge 17, 3) := by decide +kernel
theorem dX8_many_10 : decode cX8_many 10 = .ok (.iload_n 1, 1) := by decide +kernel
theorem dX8_many_11 : decode cX8_many 11 = .ok (.iload_n 0, 1) := by decide +kernel
theorem dX8_many_12 : decode cX8_many 12 = .ok (.iload_n 2, 1) := by decide +kernel
theorem dX8_many_13 : decode cX8_many 13 = .ok (.ishr, 1) := by decide +kernel
theorem dX8_many_14 : decode cX8_many 14 = .ok (.iconst 1, 1) := by decide +kernel
theorem dX8_many_15 : decode cX8_many 15 = .ok (.iand, 1) := by decide +kernel
theorem dX8_many_16 : decode cX8_many 16 = .ok (.iadd, 1) := by decide +kernel
theorem dX8_many_17 : decode cX8_many 17 = .ok (.istore_n 1, 1) := by decide +kernel
theorem dX8_many_18 : decode cX8_many 18 = .ok (.iinc 2 1, 3) := by decide +kernel
theorem dX8_many_21 : decode cX8_many 21 = .ok (.goto (-17), 3) := by decide +kernel
theorem dX8_many_24 : decode cX8_many 24 = .ok (.iload_n 1, 1) := by decide +kernel
theorem dX8_many_25 : decode cX8_many 25 = .ok (.ireturn, 1) := by decide +kernel
theorem dX8_kept_0 : decode cX8_kept 0 = .ok (.aload_n 0, 1) := by decide +kernel
theorem dX8_kept_1 : decode cX8_kept 1 = .ok (.iload_n 1, 1) := by decide +kernel
theorem dX8_kept_2 : decode cX8_kept 2 = .ok (.invokevirtual 101, 3) := by decide +kernel
theorem dX8_kept_5 : decode cX8_kept 5 = .ok (.ifCond .ne 5, 3) := by decide +kernel
theorem dX8_kept_8 : decode cX8_kept 8 = .ok (.iconst (-1), 1) := by decide +kernel
theorem dX8_kept_9 : decode cX8_kept 9 = .ok (.ireturn, 1) := by decide +kernel
theorem dX8_kept_10 : decode cX8_kept 10 = .ok (.iload_n 2, 1) := by decide +kernel
theorem dX8_kept_11 : decode cX8_kept 11 = .ok (.iconst 0, 1) := by decide +kernel
theorem dX8_kept_12 : decode cX8_kept 12 = .ok (.sipush 999, 3) := by decide +kernel
theorem dX8_kept_15 : decode cX8_kept 15 = .ok (.invokestatic 85, 3) := by decide +kernel
theorem dX8_kept_18 : decode cX8_kept 18 = .ok (.ifCond .ne 6, 3) := by decide +kernel
theorem dX8_kept_21 : decode cX8_kept 21 = .ok (.bipush (-2), 2) := by decide +kernel
theorem dX8_kept_23 : decode cX8_kept 23 = .ok (.ireturn, 1) := by decide +kernel
theorem dX8_kept_24 : decode cX8_kept 24 = .ok (.bipush (-5), 2) := by decide +kernel
theorem dX8_kept_26 : decode cX8_kept 26 = .ok (.istore_n 3, 1) := by decide +kernel
theorem dX8_kept_27 : decode cX8_kept 27 = .ok (.iconst 0, 1) := by decide +kernel
theorem dX8_kept_28 : decode cX8_kept 28 = .ok (.istore 4, 2) := by decide +kernel
theorem dX8_kept_30 : decode cX8_kept 30 = .ok (.iload 4, 2) := by decide +kernel
theorem dX8_kept_32 : decode cX8_kept 32 = .ok (.iconst 1, 1) := by decide +kernel
theorem dX8_kept_33 : decode cX8_kept 33 = .ok (.aload_n 0, 1) := by decide +kernel
theorem dX8_kept_34 : decode cX8_kept 34 = .ok (.getfield 15, 3) := by decide +kernel
theorem dX8_kept_37 : decode cX8_kept 37 = .ok (.bipush 60, 2) := by decide +kernel
theorem dX8_kept_39 : decode cX8_kept 39 = .ok (.iaload, 1) := by decide +kernel
theorem dX8_kept_40 : decode cX8_kept 40 = .ok (.ishl, 1) := by decide +kernel
theorem dX8_kept_41 : decode cX8_kept 41 = .ok (.if_icmp .ge 126, 3) := by decide +kernel
theorem dX8_kept_44 : decode cX8_kept 44 = .ok (.aload_n 0, 1) := by decide +kernel
theorem dX8_kept_45 : decode cX8_kept 45 = .ok (.iload_n 1, 1) := by decide +kernel
theorem dX8_kept_46 : decode cX8_kept 46 = .ok (.invokevirtual 179, 3) := by decide +kernel
theorem dX8_kept_49 : decode cX8_kept 49 = .ok (.ifCond .eq 118, 3) := by decide +kernel
theorem dX8_kept_52 : decode cX8_kept 52 = .ok (.iload 4, 2) := by decide +kernel
theorem dX8_kept_54 : decode cX8_kept 54 = .ok (.iload_n 1, 1) := by decide +kernel
theorem dX8_kept_55 : decode cX8_kept 55 = .ok (.ishr, 1) := by decide +kernel
theorem dX8_kept_56 : decode cX8_kept 56 = .ok (.iconst 1, 1) := by decide +kernel
theorem dX8_kept_57 : decode cX8_kept 57 = .ok (.iand, 1) := by decide +kernel
theorem dX8_kept_58 : decode cX8_kept 58 = .ok (.ifCond .ne 103, 3) := by decide +kernel
theorem dX8_kept_61 : decode cX8_kept 61 = .ok (.iload_n 3, 1) := by decide +kernel
theorem dX8_kept_62 : decode cX8_kept 62 = .ok (.bipush (-5), 2) := by decide +kernel
theorem dX8_kept_64 : decode cX8_kept 64 = .ok (.if_icmp .eq 15, 3) := by decide +kernel
theorem dX8_kept_67 : decode cX8_kept 67 = .ok (.iload 4, 2) := by decide +kernel
theorem dX8_kept_69 : decode cX8_kept 69 = .ok (.invokestatic 216, 3) := by decide +kernel
theorem dX8_kept_72 : decode cX8_kept 72 = .ok (.iload_n 3, 1) := by decide +kernel
theorem dX8_kept_73 : decode cX8_kept 73 = .ok (.invokestatic 216, 3) := by decide +kernel
theorem dX8_kept_76 : decode cX8_kept 76 = .ok (.if_icmp .ge 85, 3) := by decide +kernel
theorem dX8_kept_79 : decode cX8_kept 79 = .ok (.aload_n 0, 1) := by decide +kernel
theorem dX8_kept_80 : decode cX8_kept 80 = .ok (.iconst 0, 1) := by decide +kernel
theorem dX8_kept_81 : decode cX8_kept 81 = .ok (.invokevirtual 194, 3) := by decide +kernel
theorem dX8_kept_84 : decode cX8_kept 84 = .ok (.iconst 0, 1) := by decide +kernel
theorem dX8_kept_85 : decode cX8_kept 85 = .ok (.istore 5, 2) := by decide +kernel
theorem dX8_kept_87 : decode cX8_kept 87 = .ok (.iload 5, 2) := by decide +kernel
theorem dX8_kept_89 : decode cX8_kept 89 = .ok (.aload_n 0, 1) := by decide +kernel
theorem dX8_kept_90 : decode cX8_kept 90 = .ok (.getfield 15, 3) := by decide +kernel
theorem dX8_kept_93 : decode cX8_kept 93 = .ok (.bipush 60, 2) := by decide +kernel
theorem dX8_kept_95 : decode cX8_kept 95 = .ok (.iaload, 1) := by decide +kernel
theorem dX8_kept_96 : decode cX8_kept 96 = .ok (.if_icmp .ge 39, 3) := by decide +kernel
theorem dX8_kept_99 : decode cX8_kept 99 = .ok (.aload_n 0, 1) := by decide +kernel
theorem dX8_kept_100 : decode cX8_kept 100 = .ok (.iload 5, 2) := by decide +kernel
theorem dX8_kept_102 : decode cX8_kept 102 = .ok (.iconst 4, 1) := by decide +kernel
theorem dX8_kept_103 : decode cX8_kept 103 = .ok (.iload 4, 2) := by decide +kernel
theorem dX8_kept_105 : decode cX8_kept 105 = .ok (.iload 5, 2) := by decide +kernel
theorem dX8_kept_107 : decode cX8_kept 107 = .ok (.ishr, 1) := by decide +kernel
theorem dX8_kept_108 : decode cX8_kept 108 = .ok (.iconst 1, 1) := by decide +kernel
theorem dX8_kept_109 : decode cX8_kept 109 = .ok (.iand, 1) := by decide +kernel
theorem dX8_kept_110 : decode cX8_kept 110 = .ok (.iconst 1, 1) := by decide +kernel
theorem dX8_kept_111 : decode cX8_kept 111 = .ok (.if_icmp .ne 7, 3) := by decide +kernel
theorem dX8_kept_114 : decode cX8_kept 114 = .ok (.iconst 1, 1) := by decide +kernel
theorem dX8_kept_115 : decode cX8_kept 115 = .ok (.goto 10, 3) := by decide +kernel
theorem dX8_kept_118 : decode cX8_kept 118 = .ok (.aload_n 0, 1) := by decide +kernel
theorem dX8_kept_119 : decode cX8_kept 119 = .ok (.iload 5, 2) := by decide +kernel
theorem dX8_kept_121 : decode cX8_kept 121 = .ok (.iconst 4, 1) := by decide +kernel
theorem dX8_kept_122 : decode cX8_kept 122 = .ok (.invokevirtual 89, 3) := by decide +kernel
theorem dX8_kept_125 : decode cX8_kept 125 = .ok (.invokevirtual 97, 3) := by decide +kernel
theorem dX8_kept_128 : decode cX8_kept 128 = .ok (.pop, 1) := by decide +kernel
theorem dX8_kept_129 : decode cX8_kept 129 = .ok (.iinc 5 1, 3) := by decide +kernel
theorem dX8_kept_132 : decode cX8_kept 132 = .ok (.goto (-45), 3) := by decide +kernel
theorem dX8_kept_135 : decode cX8_kept 135 = .ok (.aload_n 0, 1) := by decide +kernel
theorem dX8_kept_136 : decode cX8_kept 136 = .ok (.invokevirtual 104, 3) := by decide +kernel
theorem dX8_kept_139 : decode cX8_kept 139 = .ok (.aload_n 0, 1) := by decide +kernel
theorem dX8_kept_140 : decode cX8_kept 140 = .ok (.getfield 53, 3) := by decide +kernel
theorem dX8_kept_143 : decode cX8_kept 143 = .ok (.iload_n 1, 1) := by decide +kernel
theorem dX8_kept_144 : decode cX8_kept 144 = .ok (.iaload, 1) := by decide +kernel
theorem dX8_kept_145 : decode cX8_kept 145 = .ok (.iload_n 2, 1) := by decide +kernel
theorem dX8_kept_146 : decode cX8_kept 146 = .ok (.if_icmp .lt 8, 3) := by decide +kernel
theorem dX8_kept_149 : decode cX8_kept 149 = .ok (.iload 4, 2) := by decide +kernel
theorem dX8_kept_151 : decode cX8_kept 151 = .ok (.goto 4, 3) := by decide +kernel
theorem dX8_kept_154 : decode cX8_kept 154 = .ok (.iload_n 3, 1) := by decide +kernel
theorem dX8_kept_155 : decode cX8_kept 155 = .ok (.istore_n 3, 1) := by decide +kernel
theorem dX8_kept_156 : decode cX8_kept 156 = .ok (.aload_n 0, 1) := by decide +kernel
theorem dX8_kept_157 : decode cX8_kept 157 = .ok (.iconst 0, 1) := by decide +kernel
theorem dX8_kept_158 : decode cX8_kept 158 = .ok (.invokevirtual 201, 3) := by decide +kernel
theorem dX8_kept_161 : decode cX8_kept 161 = .ok (.iinc 4 1, 3) := by decide +kernel
theorem dX8_kept_164 : decode cX8_kept 164 = .ok (.goto (-134), 3) := by decide +kernel
theorem dX8_kept_167 : decode cX8_kept 167 = .ok (.iload_n 3, 1) := by decide +kernel
theorem dX8_kept_168 : decode cX8_kept 168 = .ok (.ireturn, 1) := by decide +kernel
theorem dX8_see_0 : decode cX8_see 0 = .ok (.iload_n 1, 1) := by decide +kernel
theorem dX8_see_1 : decode cX8_see 1 = .ok (.iconst (-1), 1) := by decide +kernel
theorem dX8_see_2 : decode cX8_see 2 = .ok (.if_icmp .ne 13, 3) := by decide +kernel
theorem dX8_see_5 : decode cX8_see 5 = .ok (.aload_n 0, 1) := by decide +kernel
theorem dX8_see_6 : decode cX8_see 6 = .ok (.getfield 15, 3) := by decide +kernel
theorem dX8_see_9 : decode cX8_see 9 = .ok (.bipush 64, 2) := by decide +kernel
theorem dX8_see_11 : decode cX8_see 11 = .ok (.iconst 0, 1) := by decide +kernel
theorem dX8_see_12 : decode cX8_see 12 = .ok (.iastore, 1) := by decide +kernel
theorem dX8_see_13 : decode cX8_see 13 = .ok (.iconst 0, 1) := by decide +kernel
theorem dX8_see_14 : decode cX8_see 14 = .ok (.ireturn, 1) := by decide +kernel
theorem dX8_see_15 : decode cX8_see 15 = .ok (.aload_n 0, 1) := by decide +kernel
theorem dX8_see_16 : decode cX8_see 16 = .ok (.iload_n 1, 1) := by decide +kernel
theorem dX8_see_17 : decode cX8_see 17 = .ok (.invokevirtual 101, 3) := by decide +kernel
theorem dX8_see_20 : decode cX8_see 20 = .ok (.ifCond .ne 5, 3) := by decide +kernel
theorem dX8_see_23 : decode cX8_see 23 = .ok (.iconst (-1), 1) := by decide +kernel
theorem dX8_see_24 : decode cX8_see 24 = .ok (.ireturn, 1) := by decide +kernel
theorem dX8_see_25 : decode cX8_see 25 = .ok (.iload_n 2, 1) := by decide +kernel
theorem dX8_see_26 : decode cX8_see 26 = .ok (.iconst 0, 1) := by decide +kernel
theorem dX8_see_27 : decode cX8_see 27 = .ok (.sipush 999, 3) := by decide +kernel
theorem dX8_see_30 : decode cX8_see 30 = .ok (.invokestatic 85, 3) := by decide +kernel
theorem dX8_see_33 : decode cX8_see 33 = .ok (.ifCond .ne 6, 3) := by decide +kernel
theorem dX8_see_36 : decode cX8_see 36 = .ok (.bipush (-2), 2) := by decide +kernel
theorem dX8_see_38 : decode cX8_see 38 = .ok (.ireturn, 1) := by decide +kernel
theorem dX8_see_39 : decode cX8_see 39 = .ok (.aload_n 0, 1) := by decide +kernel
theorem dX8_see_40 : decode cX8_see 40 = .ok (.getfield 15, 3) := by decide +kernel
theorem dX8_see_43 : decode cX8_see 43 = .ok (.bipush 64, 2) := by decide +kernel
theorem dX8_see_45 : decode cX8_see 45 = .ok (.iaload, 1) := by decide +kernel
theorem dX8_see_46 : decode cX8_see 46 = .ok (.iconst 5, 1) := by decide +kernel
theorem dX8_see_47 : decode cX8_see 47 = .ok (.if_icmp .ne 6, 3) := by decide +kernel
theorem dX8_see_50 : decode cX8_see 50 = .ok (.bipush (-4), 2) := by decide +kernel
theorem dX8_see_52 : decode cX8_see 52 = .ok (.ireturn, 1) := by decide +kernel
theorem dX8_see_53 : decode cX8_see 53 = .ok (.bipush 65, 2) := by decide +kernel
theorem dX8_see_55 : decode cX8_see 55 = .ok (.iconst 2, 1) := by decide +kernel
theorem dX8_see_56 : decode cX8_see 56 = .ok (.aload_n 0, 1) := by decide +kernel
theorem dX8_see_57 : decode cX8_see 57 = .ok (.getfield 15, 3) := by decide +kernel
theorem dX8_see_60 : decode cX8_see 60 = .ok (.bipush 64, 2) := by decide +kernel
theorem dX8_see_62 : decode cX8_see 62 = .ok (.iaload, 1) := by decide +kernel
theorem dX8_see_63 : decode cX8_see 63 = .ok (.imul, 1) := by decide +kernel
theorem dX8_see_64 : decode cX8_see 64 = .ok (.iadd, 1) := by decide +kernel
theorem dX8_see_65 : decode cX8_see 65 = .ok (.istore_n 3, 1) := by decide +kernel
theorem dX8_see_66 : decode cX8_see 66 = .ok (.aload_n 0, 1) := by decide +kernel
theorem dX8_see_67 : decode cX8_see 67 = .ok (.getfield 15, 3) := by decide +kernel
theorem dX8_see_70 : decode cX8_see 70 = .ok (.iload_n 3, 1) := by decide +kernel
theorem dX8_see_71 : decode cX8_see 71 = .ok (.iload_n 1, 1) := by decide +kernel
theorem dX8_see_72 : decode cX8_see 72 = .ok (.iastore, 1) := by decide +kernel
theorem dX8_see_73 : decode cX8_see 73 = .ok (.aload_n 0, 1) := by decide +kernel
theorem dX8_see_74 : decode cX8_see 74 = .ok (.getfield 15, 3) := by decide +kernel
theorem dX8_see_77 : decode cX8_see 77 = .ok (.iload_n 3, 1) := by decide +kernel
theorem dX8_see_78 : decode cX8_see 78 = .ok (.iconst 1, 1) := by decide +kernel
theorem dX8_see_79 : decode cX8_see 79 = .ok (.iadd, 1) := by decide +kernel
theorem dX8_see_80 : decode cX8_see 80 = .ok (.iload_n 2, 1) := by decide +kernel
theorem dX8_see_81 : decode cX8_see 81 = .ok (.iastore, 1) := by decide +kernel
theorem dX8_see_82 : decode cX8_see 82 = .ok (.aload_n 0, 1) := by decide +kernel
theorem dX8_see_83 : decode cX8_see 83 = .ok (.getfield 15, 3) := by decide +kernel
theorem dX8_see_86 : decode cX8_see 86 = .ok (.bipush 64, 2) := by decide +kernel
theorem dX8_see_88 : decode cX8_see 88 = .ok (.dup2, 1) := by decide +kernel
theorem dX8_see_89 : decode cX8_see 89 = .ok (.iaload, 1) := by decide +kernel
theorem dX8_see_90 : decode cX8_see 90 = .ok (.iconst 1, 1) := by decide +kernel
theorem dX8_see_91 : decode cX8_see 91 = .ok (.iadd, 1) := by decide +kernel
theorem dX8_see_92 : decode cX8_see 92 = .ok (.iastore, 1) := by decide +kernel
theorem dX8_see_93 : decode cX8_see 93 = .ok (.aload_n 0, 1) := by decide +kernel
theorem dX8_see_94 : decode cX8_see 94 = .ok (.getfield 15, 3) := by decide +kernel
theorem dX8_see_97 : decode cX8_see 97 = .ok (.bipush 64, 2) := by decide +kernel
theorem dX8_see_99 : decode cX8_see 99 = .ok (.iaload, 1) := by decide +kernel
theorem dX8_see_100 : decode cX8_see 100 = .ok (.ireturn, 1) := by decide +kernel
theorem dX8_isAllSeen_0 : decode cX8_isAllSeen 0 = .ok (.aload_n 0, 1) := by decide +kernel
theorem dX8_isAllSeen_1 : decode cX8_isAllSeen 1 = .ok (.invokevirtual 104, 3) := by decide +kernel
theorem dX8_isAllSeen_4 : decode cX8_isAllSeen 4 = .ok (.iconst 1, 1) := by decide +kernel
theorem dX8_isAllSeen_5 : decode cX8_isAllSeen 5 = .ok (.istore_n 1, 1) := by decide +kernel
theorem dX8_isAllSeen_6 : decode cX8_isAllSeen 6 = .ok (.iconst 0, 1) := by decide +kernel
theorem dX8_isAllSeen_7 : decode cX8_isAllSeen 7 = .ok (.istore_n 2, 1) := by decide +kernel
theorem dX8_isAllSeen_8 : decode cX8_isAllSeen 8 = .ok (.iload_n 2, 1) := by decide +kernel
theorem dX8_isAllSeen_9 : decode cX8_isAllSeen 9 = .ok (.aload_n 0, 1) := by decide +kernel
theorem dX8_isAllSeen_10 : decode cX8_isAllSeen 10 = .ok (.getfield 15, 3) := by decide +kernel
theorem dX8_isAllSeen_13 : decode cX8_isAllSeen 13 = .ok (.bipush 64, 2) := by decide +kernel
theorem dX8_isAllSeen_15 : decode cX8_isAllSeen 15 = .ok (.iaload, 1) := by decide +kernel
theorem dX8_isAllSeen_16 : decode cX8_isAllSeen 16 = .ok (.if_icmp .ge 48, 3) := by decide +kernel
theorem dX8_isAllSeen_19 : decode cX8_isAllSeen 19 = .ok (.bipush 65, 2) := by decide +kernel
theorem dX8_isAllSeen_21 : decode cX8_isAllSeen 21 = .ok (.iconst 2, 1) := by decide +kernel
theorem dX8_isAllSeen_22 : decode cX8_isAllSeen 22 = .ok (.iload_n 2, 1) := by decide +kernel
theorem dX8_isAllSeen_23 : decode cX8_isAllSeen 23 = .ok (.imul, 1) := by decide +kernel
theorem dX8_isAllSeen_24 : decode cX8_isAllSeen 24 = .ok (.iadd, 1) := by decide +kernel
theorem dX8_isAllSeen_25 : decode cX8_isAllSeen 25 = .ok (.istore_n 3, 1) := by decide +kernel
theorem dX8_isAllSeen_26 : decode cX8_isAllSeen 26 = .ok (.iload_n 1, 1) := by decide +kernel
theorem dX8_isAllSeen_27 : decode cX8_isAllSeen 27 = .ok (.ifCond .eq 29, 3) := by decide +kernel
theorem dX8_isAllSeen_30 : decode cX8_isAllSeen 30 = .ok (.aload_n 0, 1) := by decide +kernel
theorem dX8_isAllSeen_31 : decode cX8_isAllSeen 31 = .ok (.getfield 53, 3) := by decide +kernel
theorem dX8_isAllSeen_34 : decode cX8_isAllSeen 34 = .ok (.aload_n 0, 1) := by decide +kernel
theorem dX8_isAllSeen_35 : decode cX8_isAllSeen 35 = .ok (.getfield 15, 3) := by decide +kernel
theorem dX8_isAllSeen_38 : decode cX8_isAllSeen 38 = .ok (.iload_n 3, 1) := by decide +kernel
theorem dX8_isAllSeen_39 : decode cX8_isAllSeen 39 = .ok (.iaload, 1) := by decide +kernel
theorem dX8_isAllSeen_40 : decode cX8_isAllSeen 40 = .ok (.iaload, 1) := by decide +kernel
theorem dX8_isAllSeen_41 : decode cX8_isAllSeen 41 = .ok (.aload_n 0, 1) := by decide +kernel
theorem dX8_isAllSeen_42 : decode cX8_isAllSeen 42 = .ok (.getfield 15, 3) := by decide +kernel
theorem dX8_isAllSeen_45 : decode cX8_isAllSeen 45 = .ok (.iload_n 3, 1) := by decide +kernel
theorem dX8_isAllSeen_46 : decode cX8_isAllSeen 46 = .ok (.iconst 1, 1) := by decide +kernel
theorem dX8_isAllSeen_47 : decode cX8_isAllSeen 47 = .ok (.iadd, 1) := by decide +kernel
theorem dX8_isAllSeen_48 : decode cX8_isAllSeen 48 = .ok (.iaload, 1) := by decide +kernel
theorem dX8_isAllSeen_49 : decode cX8_isAllSeen 49 = .ok (.if_icmp .ne 7, 3) := by decide +kernel
theorem dX8_isAllSeen_52 : decode cX8_isAllSeen 52 = .ok (.iconst 1, 1) := by decide +kernel
theorem dX8_isAllSeen_53 : decode cX8_isAllSeen 53 = .ok (.goto 4, 3) := by decide +kernel
theorem dX8_isAllSeen_56 : decode cX8_isAllSeen 56 = .ok (.iconst 0, 1) := by decide +kernel
theorem dX8_isAllSeen_57 : decode cX8_isAllSeen 57 = .ok (.istore_n 1, 1) := by decide +kernel
theorem dX8_isAllSeen_58 : decode cX8_isAllSeen 58 = .ok (.iinc 2 1, 3) := by decide +kernel
theorem dX8_isAllSeen_61 : decode cX8_isAllSeen 61 = .ok (.goto (-53), 3) := by decide +kernel
theorem dX8_isAllSeen_64 : decode cX8_isAllSeen 64 = .ok (.iload_n 1, 1) := by decide +kernel
theorem dX8_isAllSeen_65 : decode cX8_isAllSeen 65 = .ok (.ireturn, 1) := by decide +kernel
theorem dX8_owed_0 : decode cX8_owed 0 = .ok (.aload_n 0, 1) := by decide +kernel
theorem dX8_owed_1 : decode cX8_owed 1 = .ok (.getfield 15, 3) := by decide +kernel
theorem dX8_owed_4 : decode cX8_owed 4 = .ok (.bipush 61, 2) := by decide +kernel
theorem dX8_owed_6 : decode cX8_owed 6 = .ok (.iaload, 1) := by decide +kernel
theorem dX8_owed_7 : decode cX8_owed 7 = .ok (.istore_n 2, 1) := by decide +kernel
theorem dX8_owed_8 : decode cX8_owed 8 = .ok (.iconst 0, 1) := by decide +kernel
theorem dX8_owed_9 : decode cX8_owed 9 = .ok (.istore_n 3, 1) := by decide +kernel
theorem dX8_owed_10 : decode cX8_owed 10 = .ok (.bipush (-5), 2) := by decide +kernel
theorem dX8_owed_12 : decode cX8_owed 12 = .ok (.istore 4, 2) := by decide +kernel
theorem dX8_owed_14 : decode cX8_owed 14 = .ok (.sipush 999, 3) := by decide +kernel
theorem dX8_owed_17 : decode cX8_owed 17 = .ok (.istore 5, 2) := by decide +kernel
theorem dX8_owed_19 : decode cX8_owed 19 = .ok (.iload 5, 2) := by decide +kernel
theorem dX8_owed_21 : decode cX8_owed 21 = .ok (.ifCond .lt 51, 3) := by decide +kernel
theorem dX8_owed_24 : decode cX8_owed 24 = .ok (.aload_n 0, 1) := by decide +kernel
theorem dX8_owed_25 : decode cX8_owed 25 = .ok (.getfield 15, 3) := by decide +kernel
theorem dX8_owed_28 : decode cX8_owed 28 = .ok (.bipush 61, 2) := by decide +kernel
theorem dX8_owed_30 : decode cX8_owed 30 = .ok (.iload 5, 2) := by decide +kernel
theorem dX8_owed_32 : decode cX8_owed 32 = .ok (.iastore, 1) := by decide +kernel
theorem dX8_owed_33 : decode cX8_owed 33 = .ok (.aload_n 0, 1) := by decide +kernel
theorem dX8_owed_34 : decode cX8_owed 34 = .ok (.invokevirtual 219, 3) := by decide +kernel
theorem dX8_owed_37 : decode cX8_owed 37 = .ok (.istore 6, 2) := by decide +kernel
theorem dX8_owed_39 : decode cX8_owed 39 = .ok (.iload_n 3, 1) := by decide +kernel
theorem dX8_owed_40 : decode cX8_owed 40 = .ok (.iload 6, 2) := by decide +kernel
theorem dX8_owed_42 : decode cX8_owed 42 = .ok (.ifCond .eq 7, 3) := by decide +kernel
theorem dX8_owed_45 : decode cX8_owed 45 = .ok (.iconst 1, 1) := by decide +kernel
theorem dX8_owed_46 : decode cX8_owed 46 = .ok (.goto 4, 3) := by decide +kernel
theorem dX8_owed_49 : decode cX8_owed 49 = .ok (.iconst 0, 1) := by decide +kernel
theorem dX8_owed_50 : decode cX8_owed 50 = .ok (.iadd, 1) := by decide +kernel
theorem dX8_owed_51 : decode cX8_owed 51 = .ok (.istore_n 3, 1) := by decide +kernel
theorem dX8_owed_52 : decode cX8_owed 52 = .ok (.iload 6, 2) := by decide +kernel
theorem dX8_owed_54 : decode cX8_owed 54 = .ok (.ifCond .eq 8, 3) := by decide +kernel
theorem dX8_owed_57 : decode cX8_owed 57 = .ok (.iload 5, 2) := by decide +kernel
theorem dX8_owed_59 : decode cX8_owed 59 = .ok (.goto 5, 3) := by decide +kernel
theorem dX8_owed_62 : decode cX8_owed 62 = .ok (.iload 4, 2) := by decide +kernel
theorem dX8_owed_64 : decode cX8_owed 64 = .ok (.istore 4, 2) := by decide +kernel
theorem dX8_owed_66 : decode cX8_owed 66 = .ok (.iinc 5 (-1), 3) := by decide +kernel
theorem dX8_owed_69 : decode cX8_owed 69 = .ok (.goto (-50), 3) := by decide +kernel
theorem dX8_owed_72 : decode cX8_owed 72 = .ok (.aload_n 0, 1) := by decide +kernel
theorem dX8_owed_73 : decode cX8_owed 73 = .ok (.getfield 15, 3) := by decide +kernel
theorem dX8_owed_76 : decode cX8_owed 76 = .ok (.bipush 61, 2) := by decide +kernel
theorem dX8_owed_78 : decode cX8_owed 78 = .ok (.iload_n 2, 1) := by decide +kernel
theorem dX8_owed_79 : decode cX8_owed 79 = .ok (.iastore, 1) := by decide +kernel
theorem dX8_owed_80 : decode cX8_owed 80 = .ok (.iload_n 1, 1) := by decide +kernel
theorem dX8_owed_81 : decode cX8_owed 81 = .ok (.ifCond .eq 7, 3) := by decide +kernel
theorem dX8_owed_84 : decode cX8_owed 84 = .ok (.iload_n 3, 1) := by decide +kernel
theorem dX8_owed_85 : decode cX8_owed 85 = .ok (.goto 5, 3) := by decide +kernel
theorem dX8_owed_88 : decode cX8_owed 88 = .ok (.iload 4, 2) := by decide +kernel
theorem dX8_owed_90 : decode cX8_owed 90 = .ok (.ireturn, 1) := by decide +kernel
theorem dX8_can_0 : decode cX8_can 0 = .ok (.aload_n 0, 1) := by decide +kernel
theorem dX8_can_1 : decode cX8_can 1 = .ok (.iload_n 1, 1) := by decide +kernel
theorem dX8_can_2 : decode cX8_can 2 = .ok (.invokevirtual 101, 3) := by decide +kernel
theorem dX8_can_5 : decode cX8_can 5 = .ok (.ifCond .eq 12, 3) := by decide +kernel
theorem dX8_can_8 : decode cX8_can 8 = .ok (.iload_n 2, 1) := by decide +kernel
theorem dX8_can_9 : decode cX8_can 9 = .ok (.iconst 0, 1) := by decide +kernel
theorem dX8_can_10 : decode cX8_can 10 = .ok (.iconst 1, 1) := by decide +kernel
theorem dX8_can_11 : decode cX8_can 11 = .ok (.invokestatic 85, 3) := by decide +kernel
theorem dX8_can_14 : decode cX8_can 14 = .ok (.ifCond .ne 5, 3) := by decide +kernel
theorem dX8_can_17 : decode cX8_can 17 = .ok (.iconst (-1), 1) := by decide +kernel
theorem dX8_can_18 : decode cX8_can 18 = .ok (.ireturn, 1) := by decide +kernel
theorem dX8_can_19 : decode cX8_can 19 = .ok (.aload_n 0, 1) := by decide +kernel
theorem dX8_can_20 : decode cX8_can 20 = .ok (.iload_n 1, 1) := by decide +kernel
theorem dX8_can_21 : decode cX8_can 21 = .ok (.iconst 1, 1) := by decide +kernel
theorem dX8_can_22 : decode cX8_can 22 = .ok (.invokevirtual 89, 3) := by decide +kernel
theorem dX8_can_25 : decode cX8_can 25 = .ok (.istore_n 3, 1) := by decide +kernel
theorem dX8_can_26 : decode cX8_can 26 = .ok (.iconst 0, 1) := by decide +kernel
theorem dX8_can_27 : decode cX8_can 27 = .ok (.istore 4, 2) := by decide +kernel
theorem dX8_can_29 : decode cX8_can 29 = .ok (.bipush (-5), 2) := by decide +kernel
theorem dX8_can_31 : decode cX8_can 31 = .ok (.istore 5, 2) := by decide +kernel
theorem dX8_can_33 : decode cX8_can 33 = .ok (.bipush 9, 2) := by decide +kernel
theorem dX8_can_35 : decode cX8_can 35 = .ok (.istore 6, 2) := by decide +kernel
theorem dX8_can_37 : decode cX8_can 37 = .ok (.iload 6, 2) := by decide +kernel
theorem dX8_can_39 : decode cX8_can 39 = .ok (.ifCond .lt 53, 3) := by decide +kernel
theorem dX8_can_42 : decode cX8_can 42 = .ok (.aload_n 0, 1) := by decide +kernel
theorem dX8_can_43 : decode cX8_can 43 = .ok (.iload_n 1, 1) := by decide +kernel
theorem dX8_can_44 : decode cX8_can 44 = .ok (.iconst 1, 1) := by decide +kernel
theorem dX8_can_45 : decode cX8_can 45 = .ok (.iload 6, 2) := by decide +kernel
theorem dX8_can_47 : decode cX8_can 47 = .ok (.invokevirtual 97, 3) := by decide +kernel
theorem dX8_can_50 : decode cX8_can 50 = .ok (.pop, 1) := by decide +kernel
theorem dX8_can_51 : decode cX8_can 51 = .ok (.aload_n 0, 1) := by decide +kernel
theorem dX8_can_52 : decode cX8_can 52 = .ok (.invokevirtual 219, 3) := by decide +kernel
theorem dX8_can_55 : decode cX8_can 55 = .ok (.istore 7, 2) := by decide +kernel
theorem dX8_can_57 : decode cX8_can 57 = .ok (.iload 4, 2) := by decide +kernel
theorem dX8_can_59 : decode cX8_can 59 = .ok (.iload 7, 2) := by decide +kernel
theorem dX8_can_61 : decode cX8_can 61 = .ok (.ifCond .eq 7, 3) := by decide +kernel
theorem dX8_can_64 : decode cX8_can 64 = .ok (.iconst 1, 1) := by decide +kernel
theorem dX8_can_65 : decode cX8_can 65 = .ok (.goto 4, 3) := by decide +kernel
theorem dX8_can_68 : decode cX8_can 68 = .ok (.iconst 0, 1) := by decide +kernel
theorem dX8_can_69 : decode cX8_can 69 = .ok (.iadd, 1) := by decide +kernel
theorem dX8_can_70 : decode cX8_can 70 = .ok (.istore 4, 2) := by decide +kernel
theorem dX8_can_72 : decode cX8_can 72 = .ok (.iload 7, 2) := by decide +kernel
theorem dX8_can_74 : decode cX8_can 74 = .ok (.ifCond .eq 8, 3) := by decide +kernel
theorem dX8_can_77 : decode cX8_can 77 = .ok (.iload 6, 2) := by decide +kernel
theorem dX8_can_79 : decode cX8_can 79 = .ok (.goto 5, 3) := by decide +kernel
theorem dX8_can_82 : decode cX8_can 82 = .ok (.iload 5, 2) := by decide +kernel
theorem dX8_can_84 : decode cX8_can 84 = .ok (.istore 5, 2) := by decide +kernel
theorem dX8_can_86 : decode cX8_can 86 = .ok (.iinc 6 (-1), 3) := by decide +kernel
theorem dX8_can_89 : decode cX8_can 89 = .ok (.goto (-52), 3) := by decide +kernel
theorem dX8_can_92 : decode cX8_can 92 = .ok (.aload_n 0, 1) := by decide +kernel
theorem dX8_can_93 : decode cX8_can 93 = .ok (.iload_n 1, 1) := by decide +kernel
theorem dX8_can_94 : decode cX8_can 94 = .ok (.iconst 1, 1) := by decide +kernel
theorem dX8_can_95 : decode cX8_can 95 = .ok (.iload_n 3, 1) := by decide +kernel
theorem dX8_can_96 : decode cX8_can 96 = .ok (.invokevirtual 97, 3) := by decide +kernel
theorem dX8_can_99 : decode cX8_can 99 = .ok (.pop, 1) := by decide +kernel
theorem dX8_can_100 : decode cX8_can 100 = .ok (.iload_n 2, 1) := by decide +kernel
theorem dX8_can_101 : decode cX8_can 101 = .ok (.ifCond .ne 8, 3) := by decide +kernel
theorem dX8_can_104 : decode cX8_can 104 = .ok (.iload 4, 2) := by decide +kernel
theorem dX8_can_106 : decode cX8_can 106 = .ok (.goto 5, 3) := by decide +kernel
theorem dX8_can_109 : decode cX8_can 109 = .ok (.iload 5, 2) := by decide +kernel
theorem dX8_can_111 : decode cX8_can 111 = .ok (.ireturn, 1) := by decide +kernel
theorem dX8_fraction_0 : decode cX8_fraction 0 = .ok (.lload_n 0, 1) := by decide +kernel
theorem dX8_fraction_1 : decode cX8_fraction 1 = .ok (.lstore 5, 2) := by decide +kernel
theorem dX8_fraction_3 : decode cX8_fraction 3 = .ok (.lload_n 2, 1) := by decide +kernel
theorem dX8_fraction_4 : decode cX8_fraction 4 = .ok (.lstore 7, 2) := by decide +kernel
theorem dX8_fraction_6 : decode cX8_fraction 6 = .ok (.lload 7, 2) := by decide +kernel
theorem dX8_fraction_8 : decode cX8_fraction 8 = .ok (.lconst 0, 1) := by decide +kernel
theorem dX8_fraction_9 : decode cX8_fraction 9 = .ok (.lcmp, 1) := by decide +kernel
theorem dX8_fraction_10 : decode cX8_fraction 10 = .ok (.ifCond .eq 21, 3) := by decide +kernel
theorem dX8_fraction_13 : decode cX8_fraction 13 = .ok (.lload 5, 2) := by decide +kernel
theorem dX8_fraction_15 : decode cX8_fraction 15 = .ok (.lload 7, 2) := by decide +kernel
theorem dX8_fraction_17 : decode cX8_fraction 17 = .ok (.lrem, 1) := by decide +kernel
theorem dX8_fraction_18 : decode cX8_fraction 18 = .ok (.lstore 9, 2) := by decide +kernel
theorem dX8_fraction_20 : decode cX8_fraction 20 = .ok (.lload 7, 2) := by decide +kernel
theorem dX8_fraction_22 : decode cX8_fraction 22 = .ok (.lstore 5, 2) := by decide +kernel
theorem dX8_fraction_24 : decode cX8_fraction 24 = .ok (.lload 9, 2) := by decide +kernel
theorem dX8_fraction_26 : decode cX8_fraction 26 = .ok (.lstore 7, 2) := by decide +kernel
theorem dX8_fraction_28 : decode cX8_fraction 28 = .ok (.goto (-22), 3) := by decide +kernel
theorem dX8_fraction_31 : decode cX8_fraction 31 = .ok (.iload 4, 2) := by decide +kernel
theorem dX8_fraction_33 : decode cX8_fraction 33 = .ok (.ifCond .ne 10, 3) := by decide +kernel
theorem dX8_fraction_36 : decode cX8_fraction 36 = .ok (.lload_n 0, 1) := by decide +kernel
theorem dX8_fraction_37 : decode cX8_fraction 37 = .ok (.lload 5, 2) := by decide +kernel
theorem dX8_fraction_39 : decode cX8_fraction 39 = .ok (.ldiv, 1) := by decide +kernel
theorem dX8_fraction_40 : decode cX8_fraction 40 = .ok (.goto 7, 3) := by decide +kernel
theorem dX8_fraction_43 : decode cX8_fraction 43 = .ok (.lload_n 2, 1) := by decide +kernel
theorem dX8_fraction_44 : decode cX8_fraction 44 = .ok (.lload 5, 2) := by decide +kernel
theorem dX8_fraction_46 : decode cX8_fraction 46 = .ok (.ldiv, 1) := by decide +kernel
theorem dX8_fraction_47 : decode cX8_fraction 47 = .ok (.lreturn, 1) := by decide +kernel
theorem dX8_odds_0 : decode cX8_odds 0 = .ok (.aload_n 0, 1) := by decide +kernel
theorem dX8_odds_1 : decode cX8_odds 1 = .ok (.iload_n 1, 1) := by decide +kernel
theorem dX8_odds_2 : decode cX8_odds 2 = .ok (.invokevirtual 101, 3) := by decide +kernel
theorem dX8_odds_5 : decode cX8_odds 5 = .ok (.ifCond .eq 20, 3) := by decide +kernel
theorem dX8_odds_8 : decode cX8_odds 8 = .ok (.iload_n 2, 1) := by decide +kernel
theorem dX8_odds_9 : decode cX8_odds 9 = .ok (.iconst 0, 1) := by decide +kernel
theorem dX8_odds_10 : decode cX8_odds 10 = .ok (.iconst 1, 1) := by decide +kernel
theorem dX8_odds_11 : decode cX8_odds 11 = .ok (.invokestatic 85, 3) := by decide +kernel
theorem dX8_odds_14 : decode cX8_odds 14 = .ok (.ifCond .eq 11, 3) := by decide +kernel
theorem dX8_odds_17 : decode cX8_odds 17 = .ok (.aload_n 0, 1) := by decide +kernel
theorem dX8_odds_18 : decode cX8_odds 18 = .ok (.iload_n 1, 1) := by decide +kernel
theorem dX8_odds_19 : decode cX8_odds 19 = .ok (.invokevirtual 179, 3) := by decide +kernel
theorem dX8_odds_22 : decode cX8_odds 22 = .ok (.ifCond .ne 7, 3) := by decide +kernel
theorem dX8_odds_25 : decode cX8_odds 25 = .ok (.ldc2_w 222, 3) := by decide +kernel
theorem dX8_odds_28 : decode cX8_odds 28 = .ok (.lreturn, 1) := by decide +kernel
theorem dX8_odds_29 : decode cX8_odds 29 = .ok (.aload_n 0, 1) := by decide +kernel
theorem dX8_odds_30 : decode cX8_odds 30 = .ok (.invokevirtual 104, 3) := by decide +kernel
theorem dX8_odds_33 : decode cX8_odds 33 = .ok (.aload_n 0, 1) := by decide +kernel
theorem dX8_odds_34 : decode cX8_odds 34 = .ok (.getfield 53, 3) := by decide +kernel
theorem dX8_odds_37 : decode cX8_odds 37 = .ok (.iload_n 1, 1) := by decide +kernel
theorem dX8_odds_38 : decode cX8_odds 38 = .ok (.iaload, 1) := by decide +kernel
theorem dX8_odds_39 : decode cX8_odds 39 = .ok (.istore_n 3, 1) := by decide +kernel
theorem dX8_odds_40 : decode cX8_odds 40 = .ok (.iconst 0, 1) := by decide +kernel
theorem dX8_odds_41 : decode cX8_odds 41 = .ok (.istore 4, 2) := by decide +kernel
theorem dX8_odds_43 : decode cX8_odds 43 = .ok (.iconst 0, 1) := by decide +kernel
theorem dX8_odds_44 : decode cX8_odds 44 = .ok (.istore 5, 2) := by decide +kernel
theorem dX8_odds_46 : decode cX8_odds 46 = .ok (.iconst 0, 1) := by decide +kernel
theorem dX8_odds_47 : decode cX8_odds 47 = .ok (.istore 6, 2) := by decide +kernel
theorem dX8_odds_49 : decode cX8_odds 49 = .ok (.iload 6, 2) := by decide +kernel
theorem dX8_odds_51 : decode cX8_odds 51 = .ok (.aload_n 0, 1) := by decide +kernel
theorem dX8_odds_52 : decode cX8_odds 52 = .ok (.getfield 15, 3) := by decide +kernel
theorem dX8_odds_55 : decode cX8_odds 55 = .ok (.bipush 60, 2) := by decide +kernel
theorem dX8_odds_57 : decode cX8_odds 57 = .ok (.iaload, 1) := by decide +kernel
theorem dX8_odds_58 : decode cX8_odds 58 = .ok (.if_icmp .ge 69, 3) := by decide +kernel
theorem dX8_odds_61 : decode cX8_odds 61 = .ok (.iload 6, 2) := by decide +kernel
theorem dX8_odds_63 : decode cX8_odds 63 = .ok (.iload_n 1, 1) := by decide +kernel
theorem dX8_odds_64 : decode cX8_odds 64 = .ok (.if_icmp .eq 57, 3) := by decide +kernel
theorem dX8_odds_67 : decode cX8_odds 67 = .ok (.aload_n 0, 1) := by decide +kernel
theorem dX8_odds_68 : decode cX8_odds 68 = .ok (.iload 6, 2) := by decide +kernel
theorem dX8_odds_70 : decode cX8_odds 70 = .ok (.invokevirtual 179, 3) := by decide +kernel
theorem dX8_odds_73 : decode cX8_odds 73 = .ok (.ifCond .eq 48, 3) := by decide +kernel
theorem dX8_odds_76 : decode cX8_odds 76 = .ok (.iinc 4 1, 3) := by decide +kernel
theorem dX8_odds_79 : decode cX8_odds 79 = .ok (.aload_n 0, 1) := by decide +kernel
theorem dX8_odds_80 : decode cX8_odds 80 = .ok (.iload 6, 2) := by decide +kernel
theorem dX8_odds_82 : decode cX8_odds 82 = .ok (.iconst 4, 1) := by decide +kernel
theorem dX8_odds_83 : decode cX8_odds 83 = .ok (.iconst 1, 1) := by decide +kernel
theorem dX8_odds_84 : decode cX8_odds 84 = .ok (.invokevirtual 97, 3) := by decide +kernel
theorem dX8_odds_87 : decode cX8_odds 87 = .ok (.pop, 1) := by decide +kernel
theorem dX8_odds_88 : decode cX8_odds 88 = .ok (.aload_n 0, 1) := by decide +kernel
theorem dX8_odds_89 : decode cX8_odds 89 = .ok (.invokevirtual 104, 3) := by decide +kernel
theorem dX8_odds_92 : decode cX8_odds 92 = .ok (.iload 5, 2) := by decide +kernel
theorem dX8_odds_94 : decode cX8_odds 94 = .ok (.aload_n 0, 1) := by decide +kernel
theorem dX8_odds_95 : decode cX8_odds 95 = .ok (.getfield 53, 3) := by decide +kernel
theorem dX8_odds_98 : decode cX8_odds 98 = .ok (.iload_n 1, 1) := by decide +kernel
theorem dX8_odds_99 : decode cX8_odds 99 = .ok (.iaload, 1) := by decide +kernel
theorem dX8_odds_100 : decode cX8_odds 100 = .ok (.iload_n 3, 1) := by decide +kernel
theorem dX8_odds_101 : decode cX8_odds 101 = .ok (.if_icmp .le 7, 3) := by decide +kernel
theorem dX8_odds_104 : decode cX8_odds 104 = .ok (.iconst 1, 1) := by decide +kernel
theorem dX8_odds_105 : decode cX8_odds 105 = .ok (.goto 4, 3) := by decide +kernel
theorem dX8_odds_108 : decode cX8_odds 108 = .ok (.iconst 0, 1) := by decide +kernel
theorem dX8_odds_109 : decode cX8_odds 109 = .ok (.iadd, 1) := by decide +kernel
theorem dX8_odds_110 : decode cX8_odds 110 = .ok (.istore 5, 2) := by decide +kernel
theorem dX8_odds_112 : decode cX8_odds 112 = .ok (.aload_n 0, 1) := by decide +kernel
theorem dX8_odds_113 : decode cX8_odds 113 = .ok (.iload 6, 2) := by decide +kernel
theorem dX8_odds_115 : decode cX8_odds 115 = .ok (.iconst 4, 1) := by decide +kernel
theorem dX8_odds_116 : decode cX8_odds 116 = .ok (.iconst 0, 1) := by decide +kernel
theorem dX8_odds_117 : decode cX8_odds 117 = .ok (.invokevirtual 97, 3) := by decide +kernel
theorem dX8_odds_120 : decode cX8_odds 120 = .ok (.pop, 1) := by decide +kernel
theorem dX8_odds_121 : decode cX8_odds 121 = .ok (.iinc 6 1, 3) := by decide +kernel
theorem dX8_odds_124 : decode cX8_odds 124 = .ok (.goto (-75), 3) := by decide +kernel
theorem dX8_odds_127 : decode cX8_odds 127 = .ok (.iload 4, 2) := by decide +kernel
theorem dX8_odds_129 : decode cX8_odds 129 = .ok (.ifCond .ne 9, 3) := by decide +kernel
theorem dX8_odds_132 : decode cX8_odds 132 = .ok (.ldc2_w 222, 3) := by decide +kernel
theorem dX8_odds_135 : decode cX8_odds 135 = .ok (.goto 13, 3) := by decide +kernel
theorem dX8_odds_138 : decode cX8_odds 138 = .ok (.iload 5, 2) := by decide +kernel
theorem dX8_odds_140 : decode cX8_odds 140 = .ok (.i2l, 1) := by decide +kernel
theorem dX8_odds_141 : decode cX8_odds 141 = .ok (.iload 4, 2) := by decide +kernel
theorem dX8_odds_143 : decode cX8_odds 143 = .ok (.i2l, 1) := by decide +kernel
theorem dX8_odds_144 : decode cX8_odds 144 = .ok (.iload_n 2, 1) := by decide +kernel
theorem dX8_odds_145 : decode cX8_odds 145 = .ok (.invokestatic 224, 3) := by decide +kernel
theorem dX8_odds_148 : decode cX8_odds 148 = .ok (.lreturn, 1) := by decide +kernel
theorem dX8_mean_0 : decode cX8_mean 0 = .ok (.aload_n 0, 1) := by decide +kernel
theorem dX8_mean_1 : decode cX8_mean 1 = .ok (.getfield 15, 3) := by decide +kernel
theorem dX8_mean_4 : decode cX8_mean 4 = .ok (.bipush 60, 2) := by decide +kernel
theorem dX8_mean_6 : decode cX8_mean 6 = .ok (.iaload, 1) := by decide +kernel
theorem dX8_mean_7 : decode cX8_mean 7 = .ok (.aload_n 0, 1) := by decide +kernel
theorem dX8_mean_8 : decode cX8_mean 8 = .ok (.invokevirtual 204, 3) := by decide +kernel
theorem dX8_mean_11 : decode cX8_mean 11 = .ok (.invokestatic 216, 3) := by decide +kernel
theorem dX8_mean_14 : decode cX8_mean 14 = .ok (.isub, 1) := by decide +kernel
theorem dX8_mean_15 : decode cX8_mean 15 = .ok (.istore_n 2, 1) := by decide +kernel
theorem dX8_mean_16 : decode cX8_mean 16 = .ok (.iload_n 1, 1) := by decide +kernel
theorem dX8_mean_17 : decode cX8_mean 17 = .ok (.iconst 0, 1) := by decide +kernel
theorem dX8_mean_18 : decode cX8_mean 18 = .ok (.iconst 1, 1) := by decide +kernel
theorem dX8_mean_19 : decode cX8_mean 19 = .ok (.invokestatic 85, 3) := by decide +kernel
theorem dX8_mean_22 : decode cX8_mean 22 = .ok (.ifCond .eq 24, 3) := by decide +kernel
theorem dX8_mean_25 : decode cX8_mean 25 = .ok (.iload_n 2, 1) := by decide +kernel
theorem dX8_mean_26 : decode cX8_mean 26 = .ok (.ifCond .le 20, 3) := by decide +kernel
theorem dX8_mean_29 : decode cX8_mean 29 = .ok (.aload_n 0, 1) := by decide +kernel
theorem dX8_mean_30 : decode cX8_mean 30 = .ok (.getfield 15, 3) := by decide +kernel
theorem dX8_mean_33 : decode cX8_mean 33 = .ok (.bipush 61, 2) := by decide +kernel
theorem dX8_mean_35 : decode cX8_mean 35 = .ok (.iaload, 1) := by decide +kernel
theorem dX8_mean_36 : decode cX8_mean 36 = .ok (.i2l, 1) := by decide +kernel
theorem dX8_mean_37 : decode cX8_mean 37 = .ok (.iload_n 2, 1) := by decide +kernel
theorem dX8_mean_38 : decode cX8_mean 38 = .ok (.i2l, 1) := by decide +kernel
theorem dX8_mean_39 : decode cX8_mean 39 = .ok (.iload_n 1, 1) := by decide +kernel
theorem dX8_mean_40 : decode cX8_mean 40 = .ok (.invokestatic 224, 3) := by decide +kernel
theorem dX8_mean_43 : decode cX8_mean 43 = .ok (.goto 6, 3) := by decide +kernel
theorem dX8_mean_46 : decode cX8_mean 46 = .ok (.ldc2_w 222, 3) := by decide +kernel
theorem dX8_mean_49 : decode cX8_mean 49 = .ok (.lreturn, 1) := by decide +kernel
theorem dX8_plan_0 : decode cX8_plan 0 = .ok (.iload_n 1, 1) := by decide +kernel
theorem dX8_plan_1 : decode cX8_plan 1 = .ok (.iconst (-1), 1) := by decide +kernel
theorem dX8_plan_2 : decode cX8_plan 2 = .ok (.if_icmp .ne 13, 3) := by decide +kernel
theorem dX8_plan_5 : decode cX8_plan 5 = .ok (.aload_n 0, 1) := by decide +kernel
theorem dX8_plan_6 : decode cX8_plan 6 = .ok (.getfield 15, 3) := by decide +kernel
theorem dX8_plan_9 : decode cX8_plan 9 = .ok (.bipush 75, 2) := by decide +kernel
theorem dX8_plan_11 : decode cX8_plan 11 = .ok (.iconst 0, 1) := by decide +kernel
theorem dX8_plan_12 : decode cX8_plan 12 = .ok (.iastore, 1) := by decide +kernel
theorem dX8_plan_13 : decode cX8_plan 13 = .ok (.iconst 0, 1) := by decide +kernel
theorem dX8_plan_14 : decode cX8_plan 14 = .ok (.ireturn, 1) := by decide +kernel
theorem dX8_plan_15 : decode cX8_plan 15 = .ok (.iload_n 1, 1) := by decide +kernel
theorem dX8_plan_16 : decode cX8_plan 16 = .ok (.iconst 0, 1) := by decide +kernel
theorem dX8_plan_17 : decode cX8_plan 17 = .ok (.iconst 3, 1) := by decide +kernel
theorem dX8_plan_18 : decode cX8_plan 18 = .ok (.invokestatic 85, 3) := by decide +kernel
theorem dX8_plan_21 : decode cX8_plan 21 = .ok (.ifCond .eq 15, 3) := by decide +kernel
theorem dX8_plan_24 : decode cX8_plan 24 = .ok (.iload_n 1, 1) := by decide +kernel
theorem dX8_plan_25 : decode cX8_plan 25 = .ok (.ifCond .le 13, 3) := by decide +kernel
theorem dX8_plan_28 : decode cX8_plan 28 = .ok (.aload_n 0, 1) := by decide +kernel
theorem dX8_plan_29 : decode cX8_plan 29 = .ok (.iload_n 2, 1) := by decide +kernel
theorem dX8_plan_30 : decode cX8_plan 30 = .ok (.invokevirtual 101, 3) := by decide +kernel
theorem dX8_plan_33 : decode cX8_plan 33 = .ok (.ifCond .ne 5, 3) := by decide +kernel
theorem dX8_plan_36 : decode cX8_plan 36 = .ok (.iconst (-1), 1) := by decide +kernel
theorem dX8_plan_37 : decode cX8_plan 37 = .ok (.ireturn, 1) := by decide +kernel
theorem dX8_plan_38 : decode cX8_plan 38 = .ok (.aload_n 0, 1) := by decide +kernel
theorem dX8_plan_39 : decode cX8_plan 39 = .ok (.getfield 15, 3) := by decide +kernel
theorem dX8_plan_42 : decode cX8_plan 42 = .ok (.bipush 75, 2) := by decide +kernel
theorem dX8_plan_44 : decode cX8_plan 44 = .ok (.iaload, 1) := by decide +kernel
theorem dX8_plan_45 : decode cX8_plan 45 = .ok (.bipush 8, 2) := by decide +kernel
theorem dX8_plan_47 : decode cX8_plan 47 = .ok (.if_icmp .ne 6, 3) := by decide +kernel
theorem dX8_plan_50 : decode cX8_plan 50 = .ok (.bipush (-4), 2) := by decide +kernel
theorem dX8_plan_52 : decode cX8_plan 52 = .ok (.ireturn, 1) := by decide +kernel
theorem dX8_plan_53 : decode cX8_plan 53 = .ok (.aload_n 0, 1) := by decide +kernel
theorem dX8_plan_54 : decode cX8_plan 54 = .ok (.getfield 15, 3) := by decide +kernel
theorem dX8_plan_57 : decode cX8_plan 57 = .ok (.bipush 76, 2) := by decide +kernel
theorem dX8_plan_59 : decode cX8_plan 59 = .ok (.iconst 2, 1) := by decide +kernel
theorem dX8_plan_60 : decode cX8_plan 60 = .ok (.aload_n 0, 1) := by decide +kernel
theorem dX8_plan_61 : decode cX8_plan 61 = .ok (.getfield 15, 3) := by decide +kernel
theorem dX8_plan_64 : decode cX8_plan 64 = .ok (.bipush 75, 2) := by decide +kernel
theorem dX8_plan_66 : decode cX8_plan 66 = .ok (.iaload, 1) := by decide +kernel
theorem dX8_plan_67 : decode cX8_plan 67 = .ok (.imul, 1) := by decide +kernel
theorem dX8_plan_68 : decode cX8_plan 68 = .ok (.iadd, 1) := by decide +kernel
theorem dX8_plan_69 : decode cX8_plan 69 = .ok (.iload_n 1, 1) := by decide +kernel
theorem dX8_plan_70 : decode cX8_plan 70 = .ok (.iastore, 1) := by decide +kernel
theorem dX8_plan_71 : decode cX8_plan 71 = .ok (.aload_n 0, 1) := by decide +kernel
theorem dX8_plan_72 : decode cX8_plan 72 = .ok (.getfield 15, 3) := by decide +kernel
theorem dX8_plan_75 : decode cX8_plan 75 = .ok (.bipush 77, 2) := by decide +kernel
theorem dX8_plan_77 : decode cX8_plan 77 = .ok (.iconst 2, 1) := by decide +kernel
theorem dX8_plan_78 : decode cX8_plan 78 = .ok (.aload_n 0, 1) := by decide +kernel
theorem dX8_plan_79 : decode cX8_plan 79 = .ok (.getfield 15, 3) := by decide +kernel
theorem dX8_plan_82 : decode cX8_plan 82 = .ok (.bipush 75, 2) := by decide +kernel
theorem dX8_plan_84 : decode cX8_plan 84 = .ok (.iaload, 1) := by decide +kernel
theorem dX8_plan_85 : decode cX8_plan 85 = .ok (.imul, 1) := by decide +kernel
theorem dX8_plan_86 : decode cX8_plan 86 = .ok (.iadd, 1) := by decide +kernel
theorem dX8_plan_87 : decode cX8_plan 87 = .ok (.iload_n 2, 1) := by decide +kernel
theorem dX8_plan_88 : decode cX8_plan 88 = .ok (.iastore, 1) := by decide +kernel
theorem dX8_plan_89 : decode cX8_plan 89 = .ok (.aload_n 0, 1) := by decide +kernel
theorem dX8_plan_90 : decode cX8_plan 90 = .ok (.getfield 15, 3) := by decide +kernel
theorem dX8_plan_93 : decode cX8_plan 93 = .ok (.bipush 75, 2) := by decide +kernel
theorem dX8_plan_95 : decode cX8_plan 95 = .ok (.dup2, 1) := by decide +kernel
theorem dX8_plan_96 : decode cX8_plan 96 = .ok (.iaload, 1) := by decide +kernel
theorem dX8_plan_97 : decode cX8_plan 97 = .ok (.iconst 1, 1) := by decide +kernel
theorem dX8_plan_98 : decode cX8_plan 98 = .ok (.iadd, 1) := by decide +kernel
theorem dX8_plan_99 : decode cX8_plan 99 = .ok (.iastore, 1) := by decide +kernel
theorem dX8_plan_100 : decode cX8_plan 100 = .ok (.aload_n 0, 1) := by decide +kernel
theorem dX8_plan_101 : decode cX8_plan 101 = .ok (.getfield 15, 3) := by decide +kernel
theorem dX8_plan_104 : decode cX8_plan 104 = .ok (.bipush 75, 2) := by decide +kernel
theorem dX8_plan_106 : decode cX8_plan 106 = .ok (.iaload, 1) := by decide +kernel
theorem dX8_plan_107 : decode cX8_plan 107 = .ok (.ireturn, 1) := by decide +kernel
theorem dX8_ends_0 : decode cX8_ends 0 = .ok (.iload_n 1, 1) := by decide +kernel
theorem dX8_ends_1 : decode cX8_ends 1 = .ok (.iconst 0, 1) := by decide +kernel
theorem dX8_ends_2 : decode cX8_ends 2 = .ok (.iconst 1, 1) := by decide +kernel
theorem dX8_ends_3 : decode cX8_ends 3 = .ok (.invokestatic 85, 3) := by decide +kernel
theorem dX8_ends_6 : decode cX8_ends 6 = .ok (.ifCond .ne 5, 3) := by decide +kernel
theorem dX8_ends_9 : decode cX8_ends 9 = .ok (.iconst (-1), 1) := by decide +kernel
theorem dX8_ends_10 : decode cX8_ends 10 = .ok (.ireturn, 1) := by decide +kernel
theorem dX8_ends_11 : decode cX8_ends 11 = .ok (.aload_n 0, 1) := by decide +kernel
theorem dX8_ends_12 : decode cX8_ends 12 = .ok (.iconst 0, 1) := by decide +kernel
theorem dX8_ends_13 : decode cX8_ends 13 = .ok (.invokevirtual 194, 3) := by decide +kernel
theorem dX8_ends_16 : decode cX8_ends 16 = .ok (.iconst 0, 1) := by decide +kernel
theorem dX8_ends_17 : decode cX8_ends 17 = .ok (.istore_n 2, 1) := by decide +kernel
theorem dX8_ends_18 : decode cX8_ends 18 = .ok (.iload_n 2, 1) := by decide +kernel
theorem dX8_ends_19 : decode cX8_ends 19 = .ok (.aload_n 0, 1) := by decide +kernel
theorem dX8_ends_20 : decode cX8_ends 20 = .ok (.getfield 15, 3) := by decide +kernel
theorem dX8_ends_23 : decode cX8_ends 23 = .ok (.bipush 75, 2) := by decide +kernel
theorem dX8_ends_25 : decode cX8_ends 25 = .ok (.iaload, 1) := by decide +kernel
theorem dX8_ends_26 : decode cX8_ends 26 = .ok (.if_icmp .ge 75, 3) := by decide +kernel
theorem dX8_ends_29 : decode cX8_ends 29 = .ok (.aload_n 0, 1) := by decide +kernel
theorem dX8_ends_30 : decode cX8_ends 30 = .ok (.getfield 15, 3) := by decide +kernel
theorem dX8_ends_33 : decode cX8_ends 33 = .ok (.bipush 76, 2) := by decide +kernel
theorem dX8_ends_35 : decode cX8_ends 35 = .ok (.iconst 2, 1) := by decide +kernel
theorem dX8_ends_36 : decode cX8_ends 36 = .ok (.iload_n 2, 1) := by decide +kernel
theorem dX8_ends_37 : decode cX8_ends 37 = .ok (.imul, 1) := by decide +kernel
theorem dX8_ends_38 : decode cX8_ends 38 = .ok (.iadd, 1) := by decide +kernel
theorem dX8_ends_39 : decode cX8_ends 39 = .ok (.iaload, 1) := by decide +kernel
theorem dX8_ends_40 : decode cX8_ends 40 = .ok (.istore_n 3, 1) := by decide +kernel
theorem dX8_ends_41 : decode cX8_ends 41 = .ok (.aload_n 0, 1) := by decide +kernel
theorem dX8_ends_42 : decode cX8_ends 42 = .ok (.getfield 15, 3) := by decide +kernel
theorem dX8_ends_45 : decode cX8_ends 45 = .ok (.bipush 77, 2) := by decide +kernel
theorem dX8_ends_47 : decode cX8_ends 47 = .ok (.iconst 2, 1) := by decide +kernel
theorem dX8_ends_48 : decode cX8_ends 48 = .ok (.iload_n 2, 1) := by decide +kernel
theorem dX8_ends_49 : decode cX8_ends 49 = .ok (.imul, 1) := by decide +kernel
theorem dX8_ends_50 : decode cX8_ends 50 = .ok (.iadd, 1) := by decide +kernel
theorem dX8_ends_51 : decode cX8_ends 51 = .ok (.iaload, 1) := by decide +kernel
theorem dX8_ends_52 : decode cX8_ends 52 = .ok (.istore 4, 2) := by decide +kernel
theorem dX8_ends_54 : decode cX8_ends 54 = .ok (.iload_n 3, 1) := by decide +kernel
theorem dX8_ends_55 : decode cX8_ends 55 = .ok (.ifCond .ne 12, 3) := by decide +kernel
theorem dX8_ends_58 : decode cX8_ends 58 = .ok (.aload_n 0, 1) := by decide +kernel
theorem dX8_ends_59 : decode cX8_ends 59 = .ok (.iconst 0, 1) := by decide +kernel
theorem dX8_ends_60 : decode cX8_ends 60 = .ok (.invokevirtual 197, 3) := by decide +kernel
theorem dX8_ends_63 : decode cX8_ends 63 = .ok (.pop, 1) := by decide +kernel
theorem dX8_ends_64 : decode cX8_ends 64 = .ok (.goto 31, 3) := by decide +kernel
theorem dX8_ends_67 : decode cX8_ends 67 = .ok (.iload_n 3, 1) := by decide +kernel
theorem dX8_ends_68 : decode cX8_ends 68 = .ok (.iconst 3, 1) := by decide +kernel
theorem dX8_ends_69 : decode cX8_ends 69 = .ok (.if_icmp .ne 15, 3) := by decide +kernel
theorem dX8_ends_72 : decode cX8_ends 72 = .ok (.aload_n 0, 1) := by decide +kernel
theorem dX8_ends_73 : decode cX8_ends 73 = .ok (.iload 4, 2) := by decide +kernel
theorem dX8_ends_75 : decode cX8_ends 75 = .ok (.iconst 3, 1) := by decide +kernel
theorem dX8_ends_76 : decode cX8_ends 76 = .ok (.iconst 0, 1) := by decide +kernel
theorem dX8_ends_77 : decode cX8_ends 77 = .ok (.invokevirtual 97, 3) := by decide +kernel
theorem dX8_ends_80 : decode cX8_ends 80 = .ok (.pop, 1) := by decide +kernel
theorem dX8_ends_81 : decode cX8_ends 81 = .ok (.goto 14, 3) := by decide +kernel
theorem dX8_ends_84 : decode cX8_ends 84 = .ok (.aload_n 0, 1) := by decide +kernel
theorem dX8_ends_85 : decode cX8_ends 85 = .ok (.iload 4, 2) := by decide +kernel
theorem dX8_ends_87 : decode cX8_ends 87 = .ok (.iconst 4, 1) := by decide +kernel
theorem dX8_ends_88 : decode cX8_ends 88 = .ok (.iconst 2, 1) := by decide +kernel
theorem dX8_ends_89 : decode cX8_ends 89 = .ok (.iload_n 3, 1) := by decide +kernel
theorem dX8_ends_90 : decode cX8_ends 90 = .ok (.isub, 1) := by decide +kernel
theorem dX8_ends_91 : decode cX8_ends 91 = .ok (.invokevirtual 97, 3) := by decide +kernel
theorem dX8_ends_94 : decode cX8_ends 94 = .ok (.pop, 1) := by decide +kernel
theorem dX8_ends_95 : decode cX8_ends 95 = .ok (.iinc 2 1, 3) := by decide +kernel
theorem dX8_ends_98 : decode cX8_ends 98 = .ok (.goto (-80), 3) := by decide +kernel
theorem dX8_ends_101 : decode cX8_ends 101 = .ok (.iconst 0, 1) := by decide +kernel
theorem dX8_ends_102 : decode cX8_ends 102 = .ok (.istore_n 2, 1) := by decide +kernel
theorem dX8_ends_103 : decode cX8_ends 103 = .ok (.iconst 0, 1) := by decide +kernel
theorem dX8_ends_104 : decode cX8_ends 104 = .ok (.istore_n 3, 1) := by decide +kernel
theorem dX8_ends_105 : decode cX8_ends 105 = .ok (.iload_n 3, 1) := by decide +kernel
theorem dX8_ends_106 : decode cX8_ends 106 = .ok (.aload_n 0, 1) := by decide +kernel
theorem dX8_ends_107 : decode cX8_ends 107 = .ok (.getfield 15, 3) := by decide +kernel
theorem dX8_ends_110 : decode cX8_ends 110 = .ok (.bipush 60, 2) := by decide +kernel
theorem dX8_ends_112 : decode cX8_ends 112 = .ok (.iaload, 1) := by decide +kernel
theorem dX8_ends_113 : decode cX8_ends 113 = .ok (.if_icmp .ge 26, 3) := by decide +kernel
theorem dX8_ends_116 : decode cX8_ends 116 = .ok (.iload_n 2, 1) := by decide +kernel
theorem dX8_ends_117 : decode cX8_ends 117 = .ok (.aload_n 0, 1) := by decide +kernel
theorem dX8_ends_118 : decode cX8_ends 118 = .ok (.iload_n 3, 1) := by decide +kernel
theorem dX8_ends_119 : decode cX8_ends 119 = .ok (.iload_n 1, 1) := by decide +kernel
theorem dX8_ends_120 : decode cX8_ends 120 = .ok (.ifCond .ne 7, 3) := by decide +kernel
theorem dX8_ends_123 : decode cX8_ends 123 = .ok (.iconst 5, 1) := by decide +kernel
theorem dX8_ends_124 : decode cX8_ends 124 = .ok (.goto 4, 3) := by decide +kernel
theorem dX8_ends_127 : decode cX8_ends 127 = .ok (.iconst 3, 1) := by decide +kernel
theorem dX8_ends_128 : decode cX8_ends 128 = .ok (.invokevirtual 89, 3) := by decide +kernel
theorem dX8_ends_131 : decode cX8_ends 131 = .ok (.iadd, 1) := by decide +kernel
theorem dX8_ends_132 : decode cX8_ends 132 = .ok (.istore_n 2, 1) := by decide +kernel
theorem dX8_ends_133 : decode cX8_ends 133 = .ok (.iinc 3 1, 3) := by decide +kernel
theorem dX8_ends_136 : decode cX8_ends 136 = .ok (.goto (-31), 3) := by decide +kernel
theorem dX8_ends_139 : decode cX8_ends 139 = .ok (.aload_n 0, 1) := by decide +kernel
theorem dX8_ends_140 : decode cX8_ends 140 = .ok (.iconst 0, 1) := by decide +kernel
theorem dX8_ends_141 : decode cX8_ends 141 = .ok (.invokevirtual 201, 3) := by decide +kernel
theorem dX8_ends_144 : decode cX8_ends 144 = .ok (.iload_n 2, 1) := by decide +kernel
theorem dX8_ends_145 : decode cX8_ends 145 = .ok (.ireturn, 1) := by decide +kernel
theorem dX8_book_0 : decode cX8_book 0 = .ok (.iload_n 1, 1) := by decide +kernel
theorem dX8_book_1 : decode cX8_book 1 = .ok (.iconst (-1), 1) := by decide +kernel
theorem dX8_book_2 : decode cX8_book 2 = .ok (.if_icmp .ne 13, 3) := by decide +kernel
theorem dX8_book_5 : decode cX8_book 5 = .ok (.aload_n 0, 1) := by decide +kernel
theorem dX8_book_6 : decode cX8_book 6 = .ok (.getfield 15, 3) := by decide +kernel
theorem dX8_book_9 : decode cX8_book 9 = .ok (.bipush 92, 2) := by decide +kernel
theorem dX8_book_11 : decode cX8_book 11 = .ok (.iconst 0, 1) := by decide +kernel
theorem dX8_book_12 : decode cX8_book 12 = .ok (.iastore, 1) := by decide +kernel
theorem dX8_book_13 : decode cX8_book 13 = .ok (.iconst 0, 1) := by decide +kernel
theorem dX8_book_14 : decode cX8_book 14 = .ok (.ireturn, 1) := by decide +kernel
theorem dX8_book_15 : decode cX8_book 15 = .ok (.aload_n 0, 1) := by decide +kernel
theorem dX8_book_16 : decode cX8_book 16 = .ok (.iload_n 1, 1) := by decide +kernel
theorem dX8_book_17 : decode cX8_book 17 = .ok (.invokevirtual 101, 3) := by decide +kernel
theorem dX8_book_20 : decode cX8_book 20 = .ok (.ifCond .eq 10, 3) := by decide +kernel
theorem dX8_book_23 : decode cX8_book 23 = .ok (.iload_n 2, 1) := by decide +kernel
theorem dX8_book_24 : decode cX8_book 24 = .ok (.invokestatic 93, 3) := by decide +kernel
theorem dX8_book_27 : decode cX8_book 27 = .ok (.ifCond .ne 5, 3) := by decide +kernel
theorem dX8_book_30 : decode cX8_book 30 = .ok (.iconst (-1), 1) := by decide +kernel
theorem dX8_book_31 : decode cX8_book 31 = .ok (.ireturn, 1) := by decide +kernel
theorem dX8_book_32 : decode cX8_book 32 = .ok (.aload_n 0, 1) := by decide +kernel
theorem dX8_book_33 : decode cX8_book 33 = .ok (.getfield 15, 3) := by decide +kernel
theorem dX8_book_36 : decode cX8_book 36 = .ok (.bipush 92, 2) := by decide +kernel
theorem dX8_book_38 : decode cX8_book 38 = .ok (.iaload, 1) := by decide +kernel
theorem dX8_book_39 : decode cX8_book 39 = .ok (.bipush 8, 2) := by decide +kernel
theorem dX8_book_41 : decode cX8_book 41 = .ok (.if_icmp .ne 6, 3) := by decide +kernel
theorem dX8_book_44 : decode cX8_book 44 = .ok (.bipush (-4), 2) := by decide +kernel
theorem dX8_book_46 : decode cX8_book 46 = .ok (.ireturn, 1) := by decide +kernel
theorem dX8_book_47 : decode cX8_book 47 = .ok (.aload_n 0, 1) := by decide +kernel
theorem dX8_book_48 : decode cX8_book 48 = .ok (.getfield 15, 3) := by decide +kernel
theorem dX8_book_51 : decode cX8_book 51 = .ok (.bipush 93, 2) := by decide +kernel
theorem dX8_book_53 : decode cX8_book 53 = .ok (.iconst 2, 1) := by decide +kernel
theorem dX8_book_54 : decode cX8_book 54 = .ok (.aload_n 0, 1) := by decide +kernel
theorem dX8_book_55 : decode cX8_book 55 = .ok (.getfield 15, 3) := by decide +kernel
theorem dX8_book_58 : decode cX8_book 58 = .ok (.bipush 92, 2) := by decide +kernel
theorem dX8_book_60 : decode cX8_book 60 = .ok (.iaload, 1) := by decide +kernel
theorem dX8_book_61 : decode cX8_book 61 = .ok (.imul, 1) := by decide +kernel
theorem dX8_book_62 : decode cX8_book 62 = .ok (.iadd, 1) := by decide +kernel
theorem dX8_book_63 : decode cX8_book 63 = .ok (.iload_n 1, 1) := by decide +kernel
theorem dX8_book_64 : decode cX8_book 64 = .ok (.iastore, 1) := by decide +kernel
theorem dX8_book_65 : decode cX8_book 65 = .ok (.aload_n 0, 1) := by decide +kernel
theorem dX8_book_66 : decode cX8_book 66 = .ok (.getfield 15, 3) := by decide +kernel
theorem dX8_book_69 : decode cX8_book 69 = .ok (.bipush 94, 2) := by decide +kernel
theorem dX8_book_71 : decode cX8_book 71 = .ok (.iconst 2, 1) := by decide +kernel
theorem dX8_book_72 : decode cX8_book 72 = .ok (.aload_n 0, 1) := by decide +kernel
theorem dX8_book_73 : decode cX8_book 73 = .ok (.getfield 15, 3) := by decide +kernel
theorem dX8_book_76 : decode cX8_book 76 = .ok (.bipush 92, 2) := by decide +kernel
theorem dX8_book_78 : decode cX8_book 78 = .ok (.iaload, 1) := by decide +kernel
theorem dX8_book_79 : decode cX8_book 79 = .ok (.imul, 1) := by decide +kernel
theorem dX8_book_80 : decode cX8_book 80 = .ok (.iadd, 1) := by decide +kernel
theorem dX8_book_81 : decode cX8_book 81 = .ok (.iload_n 2, 1) := by decide +kernel
theorem dX8_book_82 : decode cX8_book 82 = .ok (.iastore, 1) := by decide +kernel
theorem dX8_book_83 : decode cX8_book 83 = .ok (.aload_n 0, 1) := by decide +kernel
theorem dX8_book_84 : decode cX8_book 84 = .ok (.getfield 15, 3) := by decide +kernel
theorem dX8_book_87 : decode cX8_book 87 = .ok (.bipush 92, 2) := by decide +kernel
theorem dX8_book_89 : decode cX8_book 89 = .ok (.dup2, 1) := by decide +kernel
theorem dX8_book_90 : decode cX8_book 90 = .ok (.iaload, 1) := by decide +kernel
theorem dX8_book_91 : decode cX8_book 91 = .ok (.iconst 1, 1) := by decide +kernel
theorem dX8_book_92 : decode cX8_book 92 = .ok (.iadd, 1) := by decide +kernel
theorem dX8_book_93 : decode cX8_book 93 = .ok (.iastore, 1) := by decide +kernel
theorem dX8_book_94 : decode cX8_book 94 = .ok (.aload_n 0, 1) := by decide +kernel
theorem dX8_book_95 : decode cX8_book 95 = .ok (.getfield 15, 3) := by decide +kernel
theorem dX8_book_98 : decode cX8_book 98 = .ok (.bipush 92, 2) := by decide +kernel
theorem dX8_book_100 : decode cX8_book 100 = .ok (.iaload, 1) := by decide +kernel
theorem dX8_book_101 : decode cX8_book 101 = .ok (.ireturn, 1) := by decide +kernel
theorem dX8_looked_0 : decode cX8_looked 0 = .ok (.iconst 0, 1) := by decide +kernel
theorem dX8_looked_1 : decode cX8_looked 1 = .ok (.istore_n 1, 1) := by decide +kernel
theorem dX8_looked_2 : decode cX8_looked 2 = .ok (.iload_n 1, 1) := by decide +kernel
theorem dX8_looked_3 : decode cX8_looked 3 = .ok (.aload_n 0, 1) := by decide +kernel
theorem dX8_looked_4 : decode cX8_looked 4 = .ok (.getfield 15, 3) := by decide +kernel
theorem dX8_looked_7 : decode cX8_looked 7 = .ok (.bipush 92, 2) := by decide +kernel
theorem dX8_looked_9 : decode cX8_looked 9 = .ok (.iaload, 1) := by decide +kernel
theorem dX8_looked_10 : decode cX8_looked 10 = .ok (.if_icmp .ge 41, 3) := by decide +kernel
theorem dX8_looked_13 : decode cX8_looked 13 = .ok (.aload_n 0, 1) := by decide +kernel
theorem dX8_looked_14 : decode cX8_looked 14 = .ok (.aload_n 0, 1) := by decide +kernel
theorem dX8_looked_15 : decode cX8_looked 15 = .ok (.getfield 15, 3) := by decide +kernel
theorem dX8_looked_18 : decode cX8_looked 18 = .ok (.bipush 93, 2) := by decide +kernel
theorem dX8_looked_20 : decode cX8_looked 20 = .ok (.iconst 2, 1) := by decide +kernel
theorem dX8_looked_21 : decode cX8_looked 21 = .ok (.iload_n 1, 1) := by decide +kernel
theorem dX8_looked_22 : decode cX8_looked 22 = .ok (.imul, 1) := by decide +kernel
theorem dX8_looked_23 : decode cX8_looked 23 = .ok (.iadd, 1) := by decide +kernel
theorem dX8_looked_24 : decode cX8_looked 24 = .ok (.iaload, 1) := by decide +kernel
theorem dX8_looked_25 : decode cX8_looked 25 = .ok (.iconst 3, 1) := by decide +kernel
theorem dX8_looked_26 : decode cX8_looked 26 = .ok (.invokevirtual 89, 3) := by decide +kernel
theorem dX8_looked_29 : decode cX8_looked 29 = .ok (.aload_n 0, 1) := by decide +kernel
theorem dX8_looked_30 : decode cX8_looked 30 = .ok (.getfield 15, 3) := by decide +kernel
theorem dX8_looked_33 : decode cX8_looked 33 = .ok (.bipush 94, 2) := by decide +kernel
theorem dX8_looked_35 : decode cX8_looked 35 = .ok (.iconst 2, 1) := by decide +kernel
theorem dX8_looked_36 : decode cX8_looked 36 = .ok (.iload_n 1, 1) := by decide +kernel
theorem dX8_looked_37 : decode cX8_looked 37 = .ok (.imul, 1) := by decide +kernel
theorem dX8_looked_38 : decode cX8_looked 38 = .ok (.iadd, 1) := by decide +kernel
theorem dX8_looked_39 : decode cX8_looked 39 = .ok (.iaload, 1) := by decide +kernel
theorem dX8_looked_40 : decode cX8_looked 40 = .ok (.if_icmp .eq 5, 3) := by decide +kernel
theorem dX8_looked_43 : decode cX8_looked 43 = .ok (.iload_n 1, 1) := by decide +kernel
theorem dX8_looked_44 : decode cX8_looked 44 = .ok (.ireturn, 1) := by decide +kernel
theorem dX8_looked_45 : decode cX8_looked 45 = .ok (.iinc 1 1, 3) := by decide +kernel
theorem dX8_looked_48 : decode cX8_looked 48 = .ok (.goto (-46), 3) := by decide +kernel
theorem dX8_looked_51 : decode cX8_looked 51 = .ok (.bipush (-5), 2) := by decide +kernel
theorem dX8_looked_53 : decode cX8_looked 53 = .ok (.ireturn, 1) := by decide +kernel
theorem dX8_body_0 : decode cX8_body 0 = .ok (.aload_n 0, 1) := by decide +kernel
theorem dX8_body_1 : decode cX8_body 1 = .ok (.getfield 228, 3) := by decide +kernel
theorem dX8_body_4 : decode cX8_body 4 = .ok (.bipush 20, 2) := by decide +kernel
theorem dX8_body_6 : decode cX8_body 6 = .ok (.if_icmp .ge 13, 3) := by decide +kernel
theorem dX8_body_9 : decode cX8_body 9 = .ok (.aload_n 0, 1) := by decide +kernel
theorem dX8_body_10 : decode cX8_body 10 = .ok (.getfield 65, 3) := by decide +kernel
theorem dX8_body_13 : decode cX8_body 13 = .ok (.aload_n 0, 1) := by decide +kernel
theorem dX8_body_14 : decode cX8_body 14 = .ok (.getfield 228, 3) := by decide +kernel
theorem dX8_body_17 : decode cX8_body 17 = .ok (.iload_n 1, 1) := by decide +kernel
theorem dX8_body_18 : decode cX8_body 18 = .ok (.iastore, 1) := by decide +kernel
theorem dX8_body_19 : decode cX8_body 19 = .ok (.aload_n 0, 1) := by decide +kernel
theorem dX8_body_20 : decode cX8_body 20 = .ok (.dup, 1) := by decide +kernel
theorem dX8_body_21 : decode cX8_body 21 = .ok (.getfield 228, 3) := by decide +kernel
theorem dX8_body_24 : decode cX8_body 24 = .ok (.iconst 1, 1) := by decide +kernel
theorem dX8_body_25 : decode cX8_body 25 = .ok (.iadd, 1) := by decide +kernel
theorem dX8_body_26 : decode cX8_body 26 = .ok (.putfield 228, 3) := by decide +kernel
theorem dX8_body_29 : decode cX8_body 29 = .ok (.iload_n 1, 1) := by decide +kernel
theorem dX8_body_30 : decode cX8_body 30 = .ok (.ireturn, 1) := by decide +kernel
theorem dX8_all_0 : decode cX8_all 0 = .ok (.aload_n 0, 1) := by decide +kernel
theorem dX8_all_1 : decode cX8_all 1 = .ok (.aload_n 0, 1) := by decide +kernel
theorem dX8_all_2 : decode cX8_all 2 = .ok (.iload_n 1, 1) := by decide +kernel
theorem dX8_all_3 : decode cX8_all 3 = .ok (.iconst 0, 1) := by decide +kernel
theorem dX8_all_4 : decode cX8_all 4 = .ok (.invokevirtual 89, 3) := by decide +kernel
theorem dX8_all_7 : decode cX8_all 7 = .ok (.iload_n 1, 1) := by decide +kernel
theorem dX8_all_8 : decode cX8_all 8 = .ok (.iload_n 2, 1) := by decide +kernel
theorem dX8_all_9 : decode cX8_all 9 = .ok (.iload_n 3, 1) := by decide +kernel
theorem dX8_all_10 : decode cX8_all 10 = .ok (.invokevirtual 231, 3) := by decide +kernel
theorem dX8_all_13 : decode cX8_all 13 = .ok (.ireturn, 1) := by decide +kernel
theorem dX8_byKind_0 : decode cX8_byKind 0 = .ok (.iload_n 1, 1) := by decide +kernel
theorem dX8_byKind_1 : decode cX8_byKind 1 = .ok (.istore 5, 2) := by decide +kernel
theorem dX8_byKind_3 : decode cX8_byKind 3 = .ok (.aload_n 0, 1) := by decide +kernel
theorem dX8_byKind_4 : decode cX8_byKind 4 = .ok (.getfield 62, 3) := by decide +kernel
theorem dX8_byKind_7 : decode cX8_byKind 7 = .ok (.iconst 3, 1) := by decide +kernel
theorem dX8_byKind_8 : decode cX8_byKind 8 = .ok (.iload 5, 2) := by decide +kernel
theorem dX8_byKind_10 : decode cX8_byKind 10 = .ok (.imul, 1) := by decide +kernel
theorem dX8_byKind_11 : decode cX8_byKind 11 = .ok (.iload_n 3, 1) := by decide +kernel
theorem dX8_byKind_12 : decode cX8_byKind 12 = .ok (.iadd, 1) := by decide +kernel
theorem dX8_byKind_13 : decode cX8_byKind 13 = .ok (.iaload, 1) := by decide +kernel
theorem dX8_byKind_14 : decode cX8_byKind 14 = .ok (.ifCond .ne 15, 3) := by decide +kernel
theorem dX8_byKind_17 : decode cX8_byKind 17 = .ok (.aload_n 0, 1) := by decide +kernel
theorem dX8_byKind_18 : decode cX8_byKind 18 = .ok (.getfield 59, 3) := by decide +kernel
theorem dX8_byKind_21 : decode cX8_byKind 21 = .ok (.iload 5, 2) := by decide +kernel
theorem dX8_byKind_23 : decode cX8_byKind 23 = .ok (.iaload, 1) := by decide +kernel
theorem dX8_byKind_24 : decode cX8_byKind 24 = .ok (.istore 5, 2) := by decide +kernel
theorem dX8_byKind_26 : decode cX8_byKind 26 = .ok (.goto (-23), 3) := by decide +kernel
theorem dX8_byKind_29 : decode cX8_byKind 29 = .ok (.aload_n 0, 1) := by decide +kernel
theorem dX8_byKind_30 : decode cX8_byKind 30 = .ok (.getfield 59, 3) := by decide +kernel
theorem dX8_byKind_33 : decode cX8_byKind 33 = .ok (.iload 5, 2) := by decide +kernel
theorem dX8_byKind_35 : decode cX8_byKind 35 = .ok (.iaload, 1) := by decide +kernel
theorem dX8_byKind_36 : decode cX8_byKind 36 = .ok (.istore 6, 2) := by decide +kernel
theorem dX8_byKind_38 : decode cX8_byKind 38 = .ok (.aload_n 0, 1) := by decide +kernel
theorem dX8_byKind_39 : decode cX8_byKind 39 = .ok (.aload_n 0, 1) := by decide +kernel
theorem dX8_byKind_40 : decode cX8_byKind 40 = .ok (.getfield 62, 3) := by decide +kernel
theorem dX8_byKind_43 : decode cX8_byKind 43 = .ok (.iconst 3, 1) := by decide +kernel
theorem dX8_byKind_44 : decode cX8_byKind 44 = .ok (.iload 5, 2) := by decide +kernel
theorem dX8_byKind_46 : decode cX8_byKind 46 = .ok (.imul, 1) := by decide +kernel
theorem dX8_byKind_47 : decode cX8_byKind 47 = .ok (.iload_n 3, 1) := by decide +kernel
theorem dX8_byKind_48 : decode cX8_byKind 48 = .ok (.iadd, 1) := by decide +kernel
theorem dX8_byKind_49 : decode cX8_byKind 49 = .ok (.iaload, 1) := by decide +kernel
theorem dX8_byKind_50 : decode cX8_byKind 50 = .ok (.invokevirtual 235, 3) := by decide +kernel
theorem dX8_byKind_53 : decode cX8_byKind 53 = .ok (.lookupswitch 228 #[(10, 91), (11, 96), (12, 112), (20, 123), (30, 137), (40, 150), (50, 169), (51, 181), (60, 194), (70, 207)], 91) := by decide +kernel
theorem dX8_byKind_144 : decode cX8_byKind 144 = .ok (.iload 4, 2) := by decide +kernel
theorem dX8_byKind_146 : decode cX8_byKind 146 = .ok (.iload_n 2, 1) := by decide +kernel
theorem dX8_byKind_147 : decode cX8_byKind 147 = .ok (.iadd, 1) := by decide +kernel
theorem dX8_byKind_148 : decode cX8_byKind 148 = .ok (.ireturn, 1) := by decide +kernel
theorem dX8_byKind_149 : decode cX8_byKind 149 = .ok (.aload_n 0, 1) := by decide +kernel
theorem dX8_byKind_150 : decode cX8_byKind 150 = .ok (.iload_n 2, 1) := by decide +kernel
theorem dX8_byKind_151 : decode cX8_byKind 151 = .ok (.iconst 0, 1) := by decide +kernel
theorem dX8_byKind_152 : decode cX8_byKind 152 = .ok (.iload 4, 2) := by decide +kernel
theorem dX8_byKind_154 : decode cX8_byKind 154 = .ok (.invokevirtual 238, 3) := by decide +kernel
theorem dX8_byKind_157 : decode cX8_byKind 157 = .ok (.aload_n 0, 1) := by decide +kernel
theorem dX8_byKind_158 : decode cX8_byKind 158 = .ok (.iload_n 2, 1) := by decide +kernel
theorem dX8_byKind_159 : decode cX8_byKind 159 = .ok (.iconst 1, 1) := by decide +kernel
theorem dX8_byKind_160 : decode cX8_byKind 160 = .ok (.invokevirtual 89, 3) := by decide +kernel
theorem dX8_byKind_163 : decode cX8_byKind 163 = .ok (.isub, 1) := by decide +kernel
theorem dX8_byKind_164 : decode cX8_byKind 164 = .ok (.ireturn, 1) := by decide +kernel
theorem dX8_byKind_165 : decode cX8_byKind 165 = .ok (.aload_n 0, 1) := by decide +kernel
theorem dX8_byKind_166 : decode cX8_byKind 166 = .ok (.iload_n 2, 1) := by decide +kernel
theorem dX8_byKind_167 : decode cX8_byKind 167 = .ok (.iconst 1, 1) := by decide +kernel
theorem dX8_byKind_168 : decode cX8_byKind 168 = .ok (.iload 4, 2) := by decide +kernel
theorem dX8_byKind_170 : decode cX8_byKind 170 = .ok (.invokevirtual 238, 3) := by decide +kernel
theorem dX8_byKind_173 : decode cX8_byKind 173 = .ok (.iconst 2, 1) := by decide +kernel
theorem dX8_byKind_174 : decode cX8_byKind 174 = .ok (.imul, 1) := by decide +kernel
theorem dX8_byKind_175 : decode cX8_byKind 175 = .ok (.ireturn, 1) := by decide +kernel
theorem dX8_byKind_176 : decode cX8_byKind 176 = .ok (.aload_n 0, 1) := by decide +kernel
theorem dX8_byKind_177 : decode cX8_byKind 177 = .ok (.iload 6, 2) := by decide +kernel
theorem dX8_byKind_179 : decode cX8_byKind 179 = .ok (.iload_n 2, 1) := by decide +kernel
theorem dX8_byKind_180 : decode cX8_byKind 180 = .ok (.iconst 1, 1) := by decide +kernel
theorem dX8_byKind_181 : decode cX8_byKind 181 = .ok (.iload 4, 2) := by decide +kernel
theorem dX8_byKind_183 : decode cX8_byKind 183 = .ok (.invokevirtual 231, 3) := by decide +kernel
theorem dX8_byKind_186 : decode cX8_byKind 186 = .ok (.bipush 6, 2) := by decide +kernel
theorem dX8_byKind_188 : decode cX8_byKind 188 = .ok (.ixor, 1) := by decide +kernel
theorem dX8_byKind_189 : decode cX8_byKind 189 = .ok (.ireturn, 1) := by decide +kernel
theorem dX8_byKind_190 : decode cX8_byKind 190 = .ok (.aload_n 0, 1) := by decide +kernel
theorem dX8_byKind_191 : decode cX8_byKind 191 = .ok (.iload 6, 2) := by decide +kernel
theorem dX8_byKind_193 : decode cX8_byKind 193 = .ok (.iload_n 2, 1) := by decide +kernel
theorem dX8_byKind_194 : decode cX8_byKind 194 = .ok (.iconst 0, 1) := by decide +kernel
theorem dX8_byKind_195 : decode cX8_byKind 195 = .ok (.iload 4, 2) := by decide +kernel
theorem dX8_byKind_197 : decode cX8_byKind 197 = .ok (.iconst 3, 1) := by decide +kernel
theorem dX8_byKind_198 : decode cX8_byKind 198 = .ok (.imul, 1) := by decide +kernel
theorem dX8_byKind_199 : decode cX8_byKind 199 = .ok (.invokevirtual 231, 3) := by decide +kernel
theorem dX8_byKind_202 : decode cX8_byKind 202 = .ok (.ireturn, 1) := by decide +kernel
theorem dX8_byKind_203 : decode cX8_byKind 203 = .ok (.aload_n 0, 1) := by decide +kernel
theorem dX8_byKind_204 : decode cX8_byKind 204 = .ok (.iload 6, 2) := by decide +kernel
theorem dX8_byKind_206 : decode cX8_byKind 206 = .ok (.iload_n 2, 1) := by decide +kernel
theorem dX8_byKind_207 : decode cX8_byKind 207 = .ok (.iconst 2, 1) := by decide +kernel
theorem dX8_byKind_208 : decode cX8_byKind 208 = .ok (.iload 4, 2) := by decide +kernel
theorem dX8_byKind_210 : decode cX8_byKind 210 = .ok (.invokevirtual 231, 3) := by decide +kernel
theorem dX8_byKind_213 : decode cX8_byKind 213 = .ok (.aload_n 0, 1) := by decide +kernel
theorem dX8_byKind_214 : decode cX8_byKind 214 = .ok (.iload_n 2, 1) := by decide +kernel
theorem dX8_byKind_215 : decode cX8_byKind 215 = .ok (.iconst 1, 1) := by decide +kernel
theorem dX8_byKind_216 : decode cX8_byKind 216 = .ok (.iconst 1, 1) := by decide +kernel
theorem dX8_byKind_217 : decode cX8_byKind 217 = .ok (.invokevirtual 238, 3) := by decide +kernel
theorem dX8_byKind_220 : decode cX8_byKind 220 = .ok (.iadd, 1) := by decide +kernel
theorem dX8_byKind_221 : decode cX8_byKind 221 = .ok (.ireturn, 1) := by decide +kernel
theorem dX8_byKind_222 : decode cX8_byKind 222 = .ok (.aload_n 0, 1) := by decide +kernel
theorem dX8_byKind_223 : decode cX8_byKind 223 = .ok (.iload 6, 2) := by decide +kernel
theorem dX8_byKind_225 : decode cX8_byKind 225 = .ok (.iload_n 2, 1) := by decide +kernel
theorem dX8_byKind_226 : decode cX8_byKind 226 = .ok (.iconst 0, 1) := by decide +kernel
theorem dX8_byKind_227 : decode cX8_byKind 227 = .ok (.iload 4, 2) := by decide +kernel
theorem dX8_byKind_229 : decode cX8_byKind 229 = .ok (.invokevirtual 231, 3) := by decide +kernel
theorem dX8_byKind_232 : decode cX8_byKind 232 = .ok (.ineg, 1) := by decide +kernel
theorem dX8_byKind_233 : decode cX8_byKind 233 = .ok (.ireturn, 1) := by decide +kernel
theorem dX8_byKind_234 : decode cX8_byKind 234 = .ok (.aload_n 0, 1) := by decide +kernel
theorem dX8_byKind_235 : decode cX8_byKind 235 = .ok (.iload 6, 2) := by decide +kernel
theorem dX8_byKind_237 : decode cX8_byKind 237 = .ok (.iload_n 2, 1) := by decide +kernel
theorem dX8_byKind_238 : decode cX8_byKind 238 = .ok (.iconst 1, 1) := by decide +kernel
theorem dX8_byKind_239 : decode cX8_byKind 239 = .ok (.iload 4, 2) := by decide +kernel
theorem dX8_byKind_241 : decode cX8_byKind 241 = .ok (.iconst 1, 1) := by decide +kernel
theorem dX8_byKind_242 : decode cX8_byKind 242 = .ok (.iadd, 1) := by decide +kernel
theorem dX8_byKind_243 : decode cX8_byKind 243 = .ok (.invokevirtual 231, 3) := by decide +kernel
theorem dX8_byKind_246 : decode cX8_byKind 246 = .ok (.ireturn, 1) := by decide +kernel
theorem dX8_byKind_247 : decode cX8_byKind 247 = .ok (.aload_n 0, 1) := by decide +kernel
theorem dX8_byKind_248 : decode cX8_byKind 248 = .ok (.iload 6, 2) := by decide +kernel
theorem dX8_byKind_250 : decode cX8_byKind 250 = .ok (.iload_n 2, 1) := by decide +kernel
theorem dX8_byKind_251 : decode cX8_byKind 251 = .ok (.iconst 2, 1) := by decide +kernel
theorem dX8_byKind_252 : decode cX8_byKind 252 = .ok (.iload 4, 2) := by decide +kernel
theorem dX8_byKind_254 : decode cX8_byKind 254 = .ok (.iload_n 2, 1) := by decide +kernel
theorem dX8_byKind_255 : decode cX8_byKind 255 = .ok (.isub, 1) := by decide +kernel
theorem dX8_byKind_256 : decode cX8_byKind 256 = .ok (.invokevirtual 231, 3) := by decide +kernel
theorem dX8_byKind_259 : decode cX8_byKind 259 = .ok (.ireturn, 1) := by decide +kernel
theorem dX8_byKind_260 : decode cX8_byKind 260 = .ok (.aload_n 0, 1) := by decide +kernel
theorem dX8_byKind_261 : decode cX8_byKind 261 = .ok (.iload 6, 2) := by decide +kernel
theorem dX8_byKind_263 : decode cX8_byKind 263 = .ok (.iload_n 2, 1) := by decide +kernel
theorem dX8_byKind_264 : decode cX8_byKind 264 = .ok (.iconst 1, 1) := by decide +kernel
theorem dX8_byKind_265 : decode cX8_byKind 265 = .ok (.iload 4, 2) := by decide +kernel
theorem dX8_byKind_267 : decode cX8_byKind 267 = .ok (.invokevirtual 231, 3) := by decide +kernel
theorem dX8_byKind_270 : decode cX8_byKind 270 = .ok (.aload_n 0, 1) := by decide +kernel
theorem dX8_byKind_271 : decode cX8_byKind 271 = .ok (.iload 6, 2) := by decide +kernel
theorem dX8_byKind_273 : decode cX8_byKind 273 = .ok (.iload_n 2, 1) := by decide +kernel
theorem dX8_byKind_274 : decode cX8_byKind 274 = .ok (.iconst 0, 1) := by decide +kernel
theorem dX8_byKind_275 : decode cX8_byKind 275 = .ok (.iconst 2, 1) := by decide +kernel
theorem dX8_byKind_276 : decode cX8_byKind 276 = .ok (.invokevirtual 231, 3) := by decide +kernel
theorem dX8_byKind_279 : decode cX8_byKind 279 = .ok (.iadd, 1) := by decide +kernel
theorem dX8_byKind_280 : decode cX8_byKind 280 = .ok (.ireturn, 1) := by decide +kernel
theorem dX8_byKind_281 : decode cX8_byKind 281 = .ok (.aload_n 0, 1) := by decide +kernel
theorem dX8_byKind_282 : decode cX8_byKind 282 = .ok (.iload 6, 2) := by decide +kernel
theorem dX8_byKind_284 : decode cX8_byKind 284 = .ok (.iload_n 2, 1) := by decide +kernel
theorem dX8_byKind_285 : decode cX8_byKind 285 = .ok (.iconst 0, 1) := by decide +kernel
theorem dX8_byKind_286 : decode cX8_byKind 286 = .ok (.iload 4, 2) := by decide +kernel
theorem dX8_byKind_288 : decode cX8_byKind 288 = .ok (.invokevirtual 231, 3) := by decide +kernel
theorem dX8_byKind_291 : decode cX8_byKind 291 = .ok (.aload_n 0, 1) := by decide +kernel
theorem dX8_byKind_292 : decode cX8_byKind 292 = .ok (.iload_n 2, 1) := by decide +kernel
theorem dX8_byKind_293 : decode cX8_byKind 293 = .ok (.iconst 1, 1) := by decide +kernel
theorem dX8_byKind_294 : decode cX8_byKind 294 = .ok (.invokevirtual 89, 3) := by decide +kernel
theorem dX8_byKind_297 : decode cX8_byKind 297 = .ok (.ixor, 1) := by decide +kernel
theorem dX8_byKind_298 : decode cX8_byKind 298 = .ok (.ireturn, 1) := by decide +kernel
theorem dX8_act_0 : decode cX8_act 0 = .ok (.aload_n 0, 1) := by decide +kernel
theorem dX8_act_1 : decode cX8_act 1 = .ok (.iconst 0, 1) := by decide +kernel
theorem dX8_act_2 : decode cX8_act 2 = .ok (.putfield 228, 3) := by decide +kernel
theorem dX8_act_5 : decode cX8_act 5 = .ok (.aload_n 0, 1) := by decide +kernel
theorem dX8_act_6 : decode cX8_act 6 = .ok (.iload_n 1, 1) := by decide +kernel
theorem dX8_act_7 : decode cX8_act 7 = .ok (.invokevirtual 101, 3) := by decide +kernel
theorem dX8_act_10 : decode cX8_act 10 = .ok (.ifCond .eq 22, 3) := by decide +kernel
theorem dX8_act_13 : decode cX8_act 13 = .ok (.iload_n 2, 1) := by decide +kernel
theorem dX8_act_14 : decode cX8_act 14 = .ok (.iconst 0, 1) := by decide +kernel
theorem dX8_act_15 : decode cX8_act 15 = .ok (.iconst 2, 1) := by decide +kernel
theorem dX8_act_16 : decode cX8_act 16 = .ok (.invokestatic 85, 3) := by decide +kernel
theorem dX8_act_19 : decode cX8_act 19 = .ok (.ifCond .eq 13, 3) := by decide +kernel
theorem dX8_act_22 : decode cX8_act 22 = .ok (.aload_n 0, 1) := by decide +kernel
theorem dX8_act_23 : decode cX8_act 23 = .ok (.iload_n 1, 1) := by decide +kernel
theorem dX8_act_24 : decode cX8_act 24 = .ok (.iload_n 2, 1) := by decide +kernel
theorem dX8_act_25 : decode cX8_act 25 = .ok (.iload_n 3, 1) := by decide +kernel
theorem dX8_act_26 : decode cX8_act 26 = .ok (.invokevirtual 238, 3) := by decide +kernel
theorem dX8_act_29 : decode cX8_act 29 = .ok (.goto 4, 3) := by decide +kernel
theorem dX8_act_32 : decode cX8_act 32 = .ok (.iconst 0, 1) := by decide +kernel
theorem dX8_act_33 : decode cX8_act 33 = .ok (.ireturn, 1) := by decide +kernel
theorem dX8_trace_0 : decode cX8_trace 0 = .ok (.iload_n 1, 1) := by decide +kernel
theorem dX8_trace_1 : decode cX8_trace 1 = .ok (.iconst 0, 1) := by decide +kernel
theorem dX8_trace_2 : decode cX8_trace 2 = .ok (.bipush 20, 2) := by decide +kernel
theorem dX8_trace_4 : decode cX8_trace 4 = .ok (.aload_n 0, 1) := by decide +kernel
theorem dX8_trace_5 : decode cX8_trace 5 = .ok (.getfield 228, 3) := by decide +kernel
theorem dX8_trace_8 : decode cX8_trace 8 = .ok (.invokestatic 191, 3) := by decide +kernel
theorem dX8_trace_11 : decode cX8_trace 11 = .ok (.iconst 1, 1) := by decide +kernel
theorem dX8_trace_12 : decode cX8_trace 12 = .ok (.isub, 1) := by decide +kernel
theorem dX8_trace_13 : decode cX8_trace 13 = .ok (.invokestatic 85, 3) := by decide +kernel
theorem dX8_trace_16 : decode cX8_trace 16 = .ok (.ifCond .eq 12, 3) := by decide +kernel
theorem dX8_trace_19 : decode cX8_trace 19 = .ok (.aload_n 0, 1) := by decide +kernel
theorem dX8_trace_20 : decode cX8_trace 20 = .ok (.getfield 65, 3) := by decide +kernel
theorem dX8_trace_23 : decode cX8_trace 23 = .ok (.iload_n 1, 1) := by decide +kernel
theorem dX8_trace_24 : decode cX8_trace 24 = .ok (.iaload, 1) := by decide +kernel
theorem dX8_trace_25 : decode cX8_trace 25 = .ok (.goto 4, 3) := by decide +kernel
theorem dX8_trace_28 : decode cX8_trace 28 = .ok (.iconst (-1), 1) := by decide +kernel
theorem dX8_trace_29 : decode cX8_trace 29 = .ok (.ireturn, 1) := by decide +kernel
theorem dX8_taken_0 : decode cX8_taken 0 = .ok (.iload_n 2, 1) := by decide +kernel
theorem dX8_taken_1 : decode cX8_taken 1 = .ok (.iconst 0, 1) := by decide +kernel
theorem dX8_taken_2 : decode cX8_taken 2 = .ok (.bipush 6, 2) := by decide +kernel
theorem dX8_taken_4 : decode cX8_taken 4 = .ok (.invokestatic 85, 3) := by decide +kernel
theorem dX8_taken_7 : decode cX8_taken 7 = .ok (.ifCond .ne 6, 3) := by decide +kernel
theorem dX8_taken_10 : decode cX8_taken 10 = .ok (.bipush (-2), 2) := by decide +kernel
theorem dX8_taken_12 : decode cX8_taken 12 = .ok (.ireturn, 1) := by decide +kernel
theorem dX8_taken_13 : decode cX8_taken 13 = .ok (.aload_n 0, 1) := by decide +kernel
theorem dX8_taken_14 : decode cX8_taken 14 = .ok (.iload_n 1, 1) := by decide +kernel
theorem dX8_taken_15 : decode cX8_taken 15 = .ok (.invokevirtual 101, 3) := by decide +kernel
theorem dX8_taken_18 : decode cX8_taken 18 = .ok (.ifCond .ne 6, 3) := by decide +kernel
theorem dX8_taken_21 : decode cX8_taken 21 = .ok (.bipush (-11), 2) := by decide +kernel
theorem dX8_taken_23 : decode cX8_taken 23 = .ok (.ireturn, 1) := by decide +kernel
theorem dX8_taken_24 : decode cX8_taken 24 = .ok (.aload_n 0, 1) := by decide +kernel
theorem dX8_taken_25 : decode cX8_taken 25 = .ok (.iload_n 1, 1) := by decide +kernel
theorem dX8_taken_26 : decode cX8_taken 26 = .ok (.iconst 0, 1) := by decide +kernel
theorem dX8_taken_27 : decode cX8_taken 27 = .ok (.invokevirtual 89, 3) := by decide +kernel
theorem dX8_taken_30 : decode cX8_taken 30 = .ok (.istore_n 3, 1) := by decide +kernel
theorem dX8_taken_31 : decode cX8_taken 31 = .ok (.iload_n 3, 1) := by decide +kernel
theorem dX8_taken_32 : decode cX8_taken 32 = .ok (.iconst (-1), 1) := by decide +kernel
theorem dX8_taken_33 : decode cX8_taken 33 = .ok (.if_icmp .eq 18, 3) := by decide +kernel
theorem dX8_taken_36 : decode cX8_taken 36 = .ok (.iload_n 3, 1) := by decide +kernel
theorem dX8_taken_37 : decode cX8_taken 37 = .ok (.iload_n 2, 1) := by decide +kernel
theorem dX8_taken_38 : decode cX8_taken 38 = .ok (.if_icmp .eq 13, 3) := by decide +kernel
theorem dX8_taken_41 : decode cX8_taken 41 = .ok (.aload_n 0, 1) := by decide +kernel
theorem dX8_taken_42 : decode cX8_taken 42 = .ok (.getfield 59, 3) := by decide +kernel
theorem dX8_taken_45 : decode cX8_taken 45 = .ok (.iload_n 3, 1) := by decide +kernel
theorem dX8_taken_46 : decode cX8_taken 46 = .ok (.iaload, 1) := by decide +kernel
theorem dX8_taken_47 : decode cX8_taken 47 = .ok (.istore_n 3, 1) := by decide +kernel
theorem dX8_taken_48 : decode cX8_taken 48 = .ok (.goto (-17), 3) := by decide +kernel
theorem dX8_taken_51 : decode cX8_taken 51 = .ok (.iload_n 3, 1) := by decide +kernel
theorem dX8_taken_52 : decode cX8_taken 52 = .ok (.iload_n 2, 1) := by decide +kernel
theorem dX8_taken_53 : decode cX8_taken 53 = .ok (.if_icmp .ne 12, 3) := by decide +kernel
theorem dX8_taken_56 : decode cX8_taken 56 = .ok (.aload_n 0, 1) := by decide +kernel
theorem dX8_taken_57 : decode cX8_taken 57 = .ok (.iload_n 1, 1) := by decide +kernel
theorem dX8_taken_58 : decode cX8_taken 58 = .ok (.iconst 0, 1) := by decide +kernel
theorem dX8_taken_59 : decode cX8_taken 59 = .ok (.invokevirtual 89, 3) := by decide +kernel
theorem dX8_taken_62 : decode cX8_taken 62 = .ok (.goto 5, 3) := by decide +kernel
theorem dX8_taken_65 : decode cX8_taken 65 = .ok (.bipush (-12), 2) := by decide +kernel
theorem dX8_taken_67 : decode cX8_taken 67 = .ok (.ireturn, 1) := by decide +kernel
theorem dX8_count_0 : decode cX8_count 0 = .ok (.iload_n 1, 1) := by decide +kernel
theorem dX8_count_1 : decode cX8_count 1 = .ok (.tableswitch 90 0 6 #[43, 51, 56, 64, 72, 80, 85], 43) := by decide +kernel
theorem dX8_count_44 : decode cX8_count 44 = .ok (.aload_n 0, 1) := by decide +kernel
theorem dX8_count_45 : decode cX8_count 45 = .ok (.getfield 15, 3) := by decide +kernel
theorem dX8_count_48 : decode cX8_count 48 = .ok (.bipush 60, 2) := by decide +kernel
theorem dX8_count_50 : decode cX8_count 50 = .ok (.iaload, 1) := by decide +kernel
theorem dX8_count_51 : decode cX8_count 51 = .ok (.ireturn, 1) := by decide +kernel
theorem dX8_count_52 : decode cX8_count 52 = .ok (.aload_n 0, 1) := by decide +kernel
theorem dX8_count_53 : decode cX8_count 53 = .ok (.getfield 172, 3) := by decide +kernel
theorem dX8_count_56 : decode cX8_count 56 = .ok (.ireturn, 1) := by decide +kernel
theorem dX8_count_57 : decode cX8_count 57 = .ok (.aload_n 0, 1) := by decide +kernel
theorem dX8_count_58 : decode cX8_count 58 = .ok (.getfield 15, 3) := by decide +kernel
theorem dX8_count_61 : decode cX8_count 61 = .ok (.bipush 64, 2) := by decide +kernel
theorem dX8_count_63 : decode cX8_count 63 = .ok (.iaload, 1) := by decide +kernel
theorem dX8_count_64 : decode cX8_count 64 = .ok (.ireturn, 1) := by decide +kernel
theorem dX8_count_65 : decode cX8_count 65 = .ok (.aload_n 0, 1) := by decide +kernel
theorem dX8_count_66 : decode cX8_count 66 = .ok (.getfield 15, 3) := by decide +kernel
theorem dX8_count_69 : decode cX8_count 69 = .ok (.bipush 75, 2) := by decide +kernel
theorem dX8_count_71 : decode cX8_count 71 = .ok (.iaload, 1) := by decide +kernel
theorem dX8_count_72 : decode cX8_count 72 = .ok (.ireturn, 1) := by decide +kernel
theorem dX8_count_73 : decode cX8_count 73 = .ok (.aload_n 0, 1) := by decide +kernel
theorem dX8_count_74 : decode cX8_count 74 = .ok (.getfield 15, 3) := by decide +kernel
theorem dX8_count_77 : decode cX8_count 77 = .ok (.bipush 92, 2) := by decide +kernel
theorem dX8_count_79 : decode cX8_count 79 = .ok (.iaload, 1) := by decide +kernel
theorem dX8_count_80 : decode cX8_count 80 = .ok (.ireturn, 1) := by decide +kernel
theorem dX8_count_81 : decode cX8_count 81 = .ok (.aload_n 0, 1) := by decide +kernel
theorem dX8_count_82 : decode cX8_count 82 = .ok (.getfield 117, 3) := by decide +kernel
theorem dX8_count_85 : decode cX8_count 85 = .ok (.ireturn, 1) := by decide +kernel
theorem dX8_count_86 : decode cX8_count 86 = .ok (.aload_n 0, 1) := by decide +kernel
theorem dX8_count_87 : decode cX8_count 87 = .ok (.getfield 228, 3) := by decide +kernel
theorem dX8_count_90 : decode cX8_count 90 = .ok (.ireturn, 1) := by decide +kernel
theorem dX8_count_91 : decode cX8_count 91 = .ok (.bipush (-2), 2) := by decide +kernel
theorem dX8_count_93 : decode cX8_count 93 = .ok (.ireturn, 1) := by decide +kernel
theorem dX8_isTape_0 : decode cX8_isTape 0 = .ok (.iload_n 0, 1) := by decide +kernel
theorem dX8_isTape_1 : decode cX8_isTape 1 = .ok (.iconst 0, 1) := by decide +kernel
theorem dX8_isTape_2 : decode cX8_isTape 2 = .ok (.iconst 5, 1) := by decide +kernel
theorem dX8_isTape_3 : decode cX8_isTape 3 = .ok (.invokestatic 85, 3) := by decide +kernel
theorem dX8_isTape_6 : decode cX8_isTape 6 = .ok (.ireturn, 1) := by decide +kernel
theorem dX8_tape_0 : decode cX8_tape 0 = .ok (.iload_n 1, 1) := by decide +kernel
theorem dX8_tape_1 : decode cX8_tape 1 = .ok (.invokestatic 241, 3) := by decide +kernel
theorem dX8_tape_4 : decode cX8_tape 4 = .ok (.ifCond .ne 5, 3) := by decide +kernel
theorem dX8_tape_7 : decode cX8_tape 7 = .ok (.iconst (-1), 1) := by decide +kernel
theorem dX8_tape_8 : decode cX8_tape 8 = .ok (.ireturn, 1) := by decide +kernel
theorem dX8_tape_9 : decode cX8_tape 9 = .ok (.iload_n 2, 1) := by decide +kernel
theorem dX8_tape_10 : decode cX8_tape 10 = .ok (.iconst (-1), 1) := by decide +kernel
theorem dX8_tape_11 : decode cX8_tape 11 = .ok (.iconst 4, 1) := by decide +kernel
theorem dX8_tape_12 : decode cX8_tape 12 = .ok (.invokestatic 85, 3) := by decide +kernel
theorem dX8_tape_15 : decode cX8_tape 15 = .ok (.ifCond .eq 13, 3) := by decide +kernel
theorem dX8_tape_18 : decode cX8_tape 18 = .ok (.iload_n 2, 1) := by decide +kernel
theorem dX8_tape_19 : decode cX8_tape 19 = .ok (.ifCond .lt 12, 3) := by decide +kernel
theorem dX8_tape_22 : decode cX8_tape 22 = .ok (.iload_n 3, 1) := by decide +kernel
theorem dX8_tape_23 : decode cX8_tape 23 = .ok (.bipush 60, 2) := by decide +kernel
theorem dX8_tape_25 : decode cX8_tape 25 = .ok (.if_icmp .le 6, 3) := by decide +kernel
theorem dX8_tape_28 : decode cX8_tape 28 = .ok (.bipush (-2), 2) := by decide +kernel
theorem dX8_tape_30 : decode cX8_tape 30 = .ok (.ireturn, 1) := by decide +kernel
theorem dX8_tape_31 : decode cX8_tape 31 = .ok (.iload_n 2, 1) := by decide +kernel
theorem dX8_tape_32 : decode cX8_tape 32 = .ok (.ifCond .lt 10, 3) := by decide +kernel
theorem dX8_tape_35 : decode cX8_tape 35 = .ok (.iload_n 3, 1) := by decide +kernel
theorem dX8_tape_36 : decode cX8_tape 36 = .ok (.ifCond .ge 6, 3) := by decide +kernel
theorem dX8_tape_39 : decode cX8_tape 39 = .ok (.bipush (-14), 2) := by decide +kernel
theorem dX8_tape_41 : decode cX8_tape 41 = .ok (.ireturn, 1) := by decide +kernel
theorem dX8_tape_42 : decode cX8_tape 42 = .ok (.aload_n 0, 1) := by decide +kernel
theorem dX8_tape_43 : decode cX8_tape 43 = .ok (.getfield 68, 3) := by decide +kernel
theorem dX8_tape_46 : decode cX8_tape 46 = .ok (.iload_n 1, 1) := by decide +kernel
theorem dX8_tape_47 : decode cX8_tape 47 = .ok (.iload_n 2, 1) := by decide +kernel
theorem dX8_tape_48 : decode cX8_tape 48 = .ok (.iastore, 1) := by decide +kernel
theorem dX8_tape_49 : decode cX8_tape 49 = .ok (.aload_n 0, 1) := by decide +kernel
theorem dX8_tape_50 : decode cX8_tape 50 = .ok (.getfield 71, 3) := by decide +kernel
theorem dX8_tape_53 : decode cX8_tape 53 = .ok (.iload_n 1, 1) := by decide +kernel
theorem dX8_tape_54 : decode cX8_tape 54 = .ok (.iload_n 2, 1) := by decide +kernel
theorem dX8_tape_55 : decode cX8_tape 55 = .ok (.ifCond .ge 7, 3) := by decide +kernel
theorem dX8_tape_58 : decode cX8_tape 58 = .ok (.iconst 0, 1) := by decide +kernel
theorem dX8_tape_59 : decode cX8_tape 59 = .ok (.goto 4, 3) := by decide +kernel
theorem dX8_tape_62 : decode cX8_tape 62 = .ok (.iload_n 3, 1) := by decide +kernel
theorem dX8_tape_63 : decode cX8_tape 63 = .ok (.iastore, 1) := by decide +kernel
theorem dX8_tape_64 : decode cX8_tape 64 = .ok (.iconst 0, 1) := by decide +kernel
theorem dX8_tape_65 : decode cX8_tape 65 = .ok (.istore 4, 2) := by decide +kernel
theorem dX8_tape_67 : decode cX8_tape 67 = .ok (.iload 4, 2) := by decide +kernel
theorem dX8_tape_69 : decode cX8_tape 69 = .ok (.bipush 60, 2) := by decide +kernel
theorem dX8_tape_71 : decode cX8_tape 71 = .ok (.if_icmp .ge 22, 3) := by decide +kernel
theorem dX8_tape_74 : decode cX8_tape 74 = .ok (.aload_n 0, 1) := by decide +kernel
theorem dX8_tape_75 : decode cX8_tape 75 = .ok (.getfield 74, 3) := by decide +kernel
theorem dX8_tape_78 : decode cX8_tape 78 = .ok (.bipush 60, 2) := by decide +kernel
theorem dX8_tape_80 : decode cX8_tape 80 = .ok (.iload_n 1, 1) := by decide +kernel
theorem dX8_tape_81 : decode cX8_tape 81 = .ok (.imul, 1) := by decide +kernel
theorem dX8_tape_82 : decode cX8_tape 82 = .ok (.iload 4, 2) := by decide +kernel
theorem dX8_tape_84 : decode cX8_tape 84 = .ok (.iadd, 1) := by decide +kernel
theorem dX8_tape_85 : decode cX8_tape 85 = .ok (.lconst 0, 1) := by decide +kernel
theorem dX8_tape_86 : decode cX8_tape 86 = .ok (.lastore, 1) := by decide +kernel
theorem dX8_tape_87 : decode cX8_tape 87 = .ok (.iinc 4 1, 3) := by decide +kernel
theorem dX8_tape_90 : decode cX8_tape 90 = .ok (.goto (-23), 3) := by decide +kernel
theorem dX8_tape_93 : decode cX8_tape 93 = .ok (.iconst 1, 1) := by decide +kernel
theorem dX8_tape_94 : decode cX8_tape 94 = .ok (.ireturn, 1) := by decide +kernel
theorem dX8_item_0 : decode cX8_item 0 = .ok (.iload_n 1, 1) := by decide +kernel
theorem dX8_item_1 : decode cX8_item 1 = .ok (.invokestatic 241, 3) := by decide +kernel
theorem dX8_item_4 : decode cX8_item 4 = .ok (.ifCond .ne 5, 3) := by decide +kernel
theorem dX8_item_7 : decode cX8_item 7 = .ok (.iconst (-1), 1) := by decide +kernel
theorem dX8_item_8 : decode cX8_item 8 = .ok (.ireturn, 1) := by decide +kernel
theorem dX8_item_9 : decode cX8_item 9 = .ok (.aload_n 0, 1) := by decide +kernel
theorem dX8_item_10 : decode cX8_item 10 = .ok (.getfield 68, 3) := by decide +kernel
theorem dX8_item_13 : decode cX8_item 13 = .ok (.iload_n 1, 1) := by decide +kernel
theorem dX8_item_14 : decode cX8_item 14 = .ok (.iaload, 1) := by decide +kernel
theorem dX8_item_15 : decode cX8_item 15 = .ok (.ifCond .ge 6, 3) := by decide +kernel
theorem dX8_item_18 : decode cX8_item 18 = .ok (.bipush (-11), 2) := by decide +kernel
theorem dX8_item_20 : decode cX8_item 20 = .ok (.ireturn, 1) := by decide +kernel
theorem dX8_item_21 : decode cX8_item 21 = .ok (.iload_n 2, 1) := by decide +kernel
theorem dX8_item_22 : decode cX8_item 22 = .ok (.iconst 0, 1) := by decide +kernel
theorem dX8_item_23 : decode cX8_item 23 = .ok (.aload_n 0, 1) := by decide +kernel
theorem dX8_item_24 : decode cX8_item 24 = .ok (.getfield 71, 3) := by decide +kernel
theorem dX8_item_27 : decode cX8_item 27 = .ok (.iload_n 1, 1) := by decide +kernel
theorem dX8_item_28 : decode cX8_item 28 = .ok (.iaload, 1) := by decide +kernel
theorem dX8_item_29 : decode cX8_item 29 = .ok (.iconst 1, 1) := by decide +kernel
theorem dX8_item_30 : decode cX8_item 30 = .ok (.isub, 1) := by decide +kernel
theorem dX8_item_31 : decode cX8_item 31 = .ok (.invokestatic 85, 3) := by decide +kernel
theorem dX8_item_34 : decode cX8_item 34 = .ok (.ifCond .ne 6, 3) := by decide +kernel
theorem dX8_item_37 : decode cX8_item 37 = .ok (.bipush (-13), 2) := by decide +kernel
theorem dX8_item_39 : decode cX8_item 39 = .ok (.ireturn, 1) := by decide +kernel
theorem dX8_item_40 : decode cX8_item 40 = .ok (.aload_n 0, 1) := by decide +kernel
theorem dX8_item_41 : decode cX8_item 41 = .ok (.getfield 68, 3) := by decide +kernel
theorem dX8_item_44 : decode cX8_item 44 = .ok (.iload_n 1, 1) := by decide +kernel
theorem dX8_item_45 : decode cX8_item 45 = .ok (.iaload, 1) := by decide +kernel
theorem dX8_item_46 : decode cX8_item 46 = .ok (.istore 5, 2) := by decide +kernel
theorem dX8_item_48 : decode cX8_item 48 = .ok (.aload_n 0, 1) := by decide +kernel
theorem dX8_item_49 : decode cX8_item 49 = .ok (.getfield 74, 3) := by decide +kernel
theorem dX8_item_52 : decode cX8_item 52 = .ok (.bipush 60, 2) := by decide +kernel
theorem dX8_item_54 : decode cX8_item 54 = .ok (.iload_n 1, 1) := by decide +kernel
theorem dX8_item_55 : decode cX8_item 55 = .ok (.imul, 1) := by decide +kernel
theorem dX8_item_56 : decode cX8_item 56 = .ok (.iload_n 2, 1) := by decide +kernel
theorem dX8_item_57 : decode cX8_item 57 = .ok (.iadd, 1) := by decide +kernel
theorem dX8_item_58 : decode cX8_item 58 = .ok (.iload 5, 2) := by decide +kernel
theorem dX8_item_60 : decode cX8_item 60 = .ok (.ifCond .ne 10, 3) := by decide +kernel
theorem dX8_item_63 : decode cX8_item 63 = .ok (.lload_n 3, 1) := by decide +kernel
theorem dX8_item_64 : decode cX8_item 64 = .ok (.l2i, 1) := by decide +kernel
theorem dX8_item_65 : decode cX8_item 65 = .ok (.i2b, 1) := by decide +kernel
theorem dX8_item_66 : decode cX8_item 66 = .ok (.i2l, 1) := by decide +kernel
theorem dX8_item_67 : decode cX8_item 67 = .ok (.goto 49, 3) := by decide +kernel
theorem dX8_item_70 : decode cX8_item 70 = .ok (.iload 5, 2) := by decide +kernel
theorem dX8_item_72 : decode cX8_item 72 = .ok (.iconst 1, 1) := by decide +kernel
theorem dX8_item_73 : decode cX8_item 73 = .ok (.if_icmp .ne 10, 3) := by decide +kernel
theorem dX8_item_76 : decode cX8_item 76 = .ok (.lload_n 3, 1) := by decide +kernel
theorem dX8_item_77 : decode cX8_item 77 = .ok (.l2i, 1) := by decide +kernel
theorem dX8_item_78 : decode cX8_item 78 = .ok (.i2s, 1) := by decide +kernel
theorem dX8_item_79 : decode cX8_item 79 = .ok (.i2l, 1) := by decide +kernel
theorem dX8_item_80 : decode cX8_item 80 = .ok (.goto 36, 3) := by decide +kernel
theorem dX8_item_83 : decode cX8_item 83 = .ok (.iload 5, 2) := by decide +kernel
theorem dX8_item_85 : decode cX8_item 85 = .ok (.iconst 2, 1) := by decide +kernel
theorem dX8_item_86 : decode cX8_item 86 = .ok (.if_icmp .ne 9, 3) := by decide +kernel
theorem dX8_item_89 : decode cX8_item 89 = .ok (.lload_n 3, 1) := by decide +kernel
theorem dX8_item_90 : decode cX8_item 90 = .ok (.l2i, 1) := by decide +kernel
theorem dX8_item_91 : decode cX8_item 91 = .ok (.i2l, 1) := by decide +kernel
theorem dX8_item_92 : decode cX8_item 92 = .ok (.goto 24, 3) := by decide +kernel
theorem dX8_item_95 : decode cX8_item 95 = .ok (.iload 5, 2) := by decide +kernel
theorem dX8_item_97 : decode cX8_item 97 = .ok (.iconst 3, 1) := by decide +kernel
theorem dX8_item_98 : decode cX8_item 98 = .ok (.if_icmp .ne 7, 3) := by decide +kernel
theorem dX8_item_101 : decode cX8_item 101 = .ok (.lload_n 3, 1) := by decide +kernel
theorem dX8_item_102 : decode cX8_item 102 = .ok (.goto 14, 3) := by decide +kernel
theorem dX8_item_105 : decode cX8_item 105 = .ok (.lload_n 3, 1) := by decide +kernel
theorem dX8_item_106 : decode cX8_item 106 = .ok (.lconst 0, 1) := by decide +kernel
theorem dX8_item_107 : decode cX8_item 107 = .ok (.lcmp, 1) := by decide +kernel
theorem dX8_item_108 : decode cX8_item 108 = .ok (.ifCond .eq 7, 3) := by decide +kernel
theorem dX8_item_111 : decode cX8_item 111 = .ok (.lconst 1, 1) := by decide +kernel
theorem dX8_item_112 : decode cX8_item 112 = .ok (.goto 4, 3) := by decide +kernel
theorem dX8_item_115 : decode cX8_item 115 = .ok (.lconst 0, 1) := by decide +kernel
theorem dX8_item_116 : decode cX8_item 116 = .ok (.lastore, 1) := by decide +kernel
theorem dX8_item_117 : decode cX8_item 117 = .ok (.iconst 1, 1) := by decide +kernel
theorem dX8_item_118 : decode cX8_item 118 = .ok (.ireturn, 1) := by decide +kernel
theorem dX8_read_0 : decode cX8_read 0 = .ok (.iload_n 1, 1) := by decide +kernel
theorem dX8_read_1 : decode cX8_read 1 = .ok (.invokestatic 241, 3) := by decide +kernel
theorem dX8_read_4 : decode cX8_read 4 = .ok (.ifCond .eq 33, 3) := by decide +kernel
theorem dX8_read_7 : decode cX8_read 7 = .ok (.iload_n 2, 1) := by decide +kernel
theorem dX8_read_8 : decode cX8_read 8 = .ok (.iconst 0, 1) := by decide +kernel
theorem dX8_read_9 : decode cX8_read 9 = .ok (.aload_n 0, 1) := by decide +kernel
theorem dX8_read_10 : decode cX8_read 10 = .ok (.getfield 71, 3) := by decide +kernel
theorem dX8_read_13 : decode cX8_read 13 = .ok (.iload_n 1, 1) := by decide +kernel
theorem dX8_read_14 : decode cX8_read 14 = .ok (.iaload, 1) := by decide +kernel
theorem dX8_read_15 : decode cX8_read 15 = .ok (.iconst 1, 1) := by decide +kernel
theorem dX8_read_16 : decode cX8_read 16 = .ok (.isub, 1) := by decide +kernel
theorem dX8_read_17 : decode cX8_read 17 = .ok (.invokestatic 85, 3) := by decide +kernel
theorem dX8_read_20 : decode cX8_read 20 = .ok (.ifCond .eq 17, 3) := by decide +kernel
theorem dX8_read_23 : decode cX8_read 23 = .ok (.aload_n 0, 1) := by decide +kernel
theorem dX8_read_24 : decode cX8_read 24 = .ok (.getfield 74, 3) := by decide +kernel
theorem dX8_read_27 : decode cX8_read 27 = .ok (.bipush 60, 2) := by decide +kernel
theorem dX8_read_29 : decode cX8_read 29 = .ok (.iload_n 1, 1) := by decide +kernel
theorem dX8_read_30 : decode cX8_read 30 = .ok (.imul, 1) := by decide +kernel
theorem dX8_read_31 : decode cX8_read 31 = .ok (.iload_n 2, 1) := by decide +kernel
theorem dX8_read_32 : decode cX8_read 32 = .ok (.iadd, 1) := by decide +kernel
theorem dX8_read_33 : decode cX8_read 33 = .ok (.laload, 1) := by decide +kernel
theorem dX8_read_34 : decode cX8_read 34 = .ok (.goto 6, 3) := by decide +kernel
theorem dX8_read_37 : decode cX8_read 37 = .ok (.ldc2_w 222, 3) := by decide +kernel
theorem dX8_read_40 : decode cX8_read 40 = .ok (.lreturn, 1) := by decide +kernel
theorem dX8_shift_0 : decode cX8_shift 0 = .ok (.iload_n 1, 1) := by decide +kernel
theorem dX8_shift_1 : decode cX8_shift 1 = .ok (.invokestatic 241, 3) := by decide +kernel
theorem dX8_shift_4 : decode cX8_shift 4 = .ok (.ifCond .eq 10, 3) := by decide +kernel
theorem dX8_shift_7 : decode cX8_shift 7 = .ok (.iload_n 3, 1) := by decide +kernel
theorem dX8_shift_8 : decode cX8_shift 8 = .ok (.invokestatic 241, 3) := by decide +kernel
theorem dX8_shift_11 : decode cX8_shift 11 = .ok (.ifCond .ne 5, 3) := by decide +kernel
theorem dX8_shift_14 : decode cX8_shift 14 = .ok (.iconst (-1), 1) := by decide +kernel
theorem dX8_shift_15 : decode cX8_shift 15 = .ok (.ireturn, 1) := by decide +kernel
theorem dX8_shift_16 : decode cX8_shift 16 = .ok (.aload_n 0, 1) := by decide +kernel
theorem dX8_shift_17 : decode cX8_shift 17 = .ok (.getfield 68, 3) := by decide +kernel
theorem dX8_shift_20 : decode cX8_shift 20 = .ok (.iload_n 1, 1) := by decide +kernel
theorem dX8_shift_21 : decode cX8_shift 21 = .ok (.iaload, 1) := by decide +kernel
theorem dX8_shift_22 : decode cX8_shift 22 = .ok (.ifCond .lt 12, 3) := by decide +kernel
theorem dX8_shift_25 : decode cX8_shift 25 = .ok (.aload_n 0, 1) := by decide +kernel
theorem dX8_shift_26 : decode cX8_shift 26 = .ok (.getfield 68, 3) := by decide +kernel
theorem dX8_shift_29 : decode cX8_shift 29 = .ok (.iload_n 3, 1) := by decide +kernel
theorem dX8_shift_30 : decode cX8_shift 30 = .ok (.iaload, 1) := by decide +kernel
theorem dX8_shift_31 : decode cX8_shift 31 = .ok (.ifCond .ge 6, 3) := by decide +kernel
theorem dX8_shift_34 : decode cX8_shift 34 = .ok (.bipush (-11), 2) := by decide +kernel
theorem dX8_shift_36 : decode cX8_shift 36 = .ok (.ireturn, 1) := by decide +kernel
theorem dX8_shift_37 : decode cX8_shift 37 = .ok (.aload_n 0, 1) := by decide +kernel
theorem dX8_shift_38 : decode cX8_shift 38 = .ok (.getfield 68, 3) := by decide +kernel
theorem dX8_shift_41 : decode cX8_shift 41 = .ok (.iload_n 1, 1) := by decide +kernel
theorem dX8_shift_42 : decode cX8_shift 42 = .ok (.iaload, 1) := by decide +kernel
theorem dX8_shift_43 : decode cX8_shift 43 = .ok (.aload_n 0, 1) := by decide +kernel
theorem dX8_shift_44 : decode cX8_shift 44 = .ok (.getfield 68, 3) := by decide +kernel
theorem dX8_shift_47 : decode cX8_shift 47 = .ok (.iload_n 3, 1) := by decide +kernel
theorem dX8_shift_48 : decode cX8_shift 48 = .ok (.iaload, 1) := by decide +kernel
theorem dX8_shift_49 : decode cX8_shift 49 = .ok (.if_icmp .eq 6, 3) := by decide +kernel
theorem dX8_shift_52 : decode cX8_shift 52 = .ok (.bipush (-12), 2) := by decide +kernel
theorem dX8_shift_54 : decode cX8_shift 54 = .ok (.ireturn, 1) := by decide +kernel
theorem dX8_shift_55 : decode cX8_shift 55 = .ok (.iload 5, 2) := by decide +kernel
theorem dX8_shift_57 : decode cX8_shift 57 = .ok (.ifCond .lt 39, 3) := by decide +kernel
theorem dX8_shift_60 : decode cX8_shift 60 = .ok (.iload_n 2, 1) := by decide +kernel
theorem dX8_shift_61 : decode cX8_shift 61 = .ok (.ifCond .lt 35, 3) := by decide +kernel
theorem dX8_shift_64 : decode cX8_shift 64 = .ok (.iload 4, 2) := by decide +kernel
theorem dX8_shift_66 : decode cX8_shift 66 = .ok (.ifCond .lt 30, 3) := by decide +kernel
theorem dX8_shift_69 : decode cX8_shift 69 = .ok (.iload 5, 2) := by decide +kernel
theorem dX8_shift_71 : decode cX8_shift 71 = .ok (.aload_n 0, 1) := by decide +kernel
theorem dX8_shift_72 : decode cX8_shift 72 = .ok (.getfield 71, 3) := by decide +kernel
theorem dX8_shift_75 : decode cX8_shift 75 = .ok (.iload_n 1, 1) := by decide +kernel
theorem dX8_shift_76 : decode cX8_shift 76 = .ok (.iaload, 1) := by decide +kernel
theorem dX8_shift_77 : decode cX8_shift 77 = .ok (.iload_n 2, 1) := by decide +kernel
theorem dX8_shift_78 : decode cX8_shift 78 = .ok (.isub, 1) := by decide +kernel
theorem dX8_shift_79 : decode cX8_shift 79 = .ok (.if_icmp .gt 17, 3) := by decide +kernel
theorem dX8_shift_82 : decode cX8_shift 82 = .ok (.iload 5, 2) := by decide +kernel
theorem dX8_shift_84 : decode cX8_shift 84 = .ok (.aload_n 0, 1) := by decide +kernel
theorem dX8_shift_85 : decode cX8_shift 85 = .ok (.getfield 71, 3) := by decide +kernel
theorem dX8_shift_88 : decode cX8_shift 88 = .ok (.iload_n 3, 1) := by decide +kernel
theorem dX8_shift_89 : decode cX8_shift 89 = .ok (.iaload, 1) := by decide +kernel
theorem dX8_shift_90 : decode cX8_shift 90 = .ok (.iload 4, 2) := by decide +kernel
theorem dX8_shift_92 : decode cX8_shift 92 = .ok (.isub, 1) := by decide +kernel
theorem dX8_shift_93 : decode cX8_shift 93 = .ok (.if_icmp .le 6, 3) := by decide +kernel
theorem dX8_shift_96 : decode cX8_shift 96 = .ok (.bipush (-13), 2) := by decide +kernel
theorem dX8_shift_98 : decode cX8_shift 98 = .ok (.ireturn, 1) := by decide +kernel
theorem dX8_shift_99 : decode cX8_shift 99 = .ok (.iconst 0, 1) := by decide +kernel
theorem dX8_shift_100 : decode cX8_shift 100 = .ok (.istore 6, 2) := by decide +kernel
theorem dX8_shift_102 : decode cX8_shift 102 = .ok (.iload 6, 2) := by decide +kernel
theorem dX8_shift_104 : decode cX8_shift 104 = .ok (.iload 5, 2) := by decide +kernel
theorem dX8_shift_106 : decode cX8_shift 106 = .ok (.if_icmp .ge 30, 3) := by decide +kernel
theorem dX8_shift_109 : decode cX8_shift 109 = .ok (.aload_n 0, 1) := by decide +kernel
theorem dX8_shift_110 : decode cX8_shift 110 = .ok (.getfield 78, 3) := by decide +kernel
theorem dX8_shift_113 : decode cX8_shift 113 = .ok (.iload 6, 2) := by decide +kernel
theorem dX8_shift_115 : decode cX8_shift 115 = .ok (.aload_n 0, 1) := by decide +kernel
theorem dX8_shift_116 : decode cX8_shift 116 = .ok (.getfield 74, 3) := by decide +kernel
theorem dX8_shift_119 : decode cX8_shift 119 = .ok (.bipush 60, 2) := by decide +kernel
theorem dX8_shift_121 : decode cX8_shift 121 = .ok (.iload_n 1, 1) := by decide +kernel
theorem dX8_shift_122 : decode cX8_shift 122 = .ok (.imul, 1) := by decide +kernel
theorem dX8_shift_123 : decode cX8_shift 123 = .ok (.iload_n 2, 1) := by decide +kernel
theorem dX8_shift_124 : decode cX8_shift 124 = .ok (.iadd, 1) := by decide +kernel
theorem dX8_shift_125 : decode cX8_shift 125 = .ok (.iload 6, 2) := by decide +kernel
theorem dX8_shift_127 : decode cX8_shift 127 = .ok (.iadd, 1) := by decide +kernel
theorem dX8_shift_128 : decode cX8_shift 128 = .ok (.laload, 1) := by decide +kernel
theorem dX8_shift_129 : decode cX8_shift 129 = .ok (.lastore, 1) := by decide +kernel
theorem dX8_shift_130 : decode cX8_shift 130 = .ok (.iinc 6 1, 3) := by decide +kernel
theorem dX8_shift_133 : decode cX8_shift 133 = .ok (.goto (-31), 3) := by decide +kernel
theorem dX8_shift_136 : decode cX8_shift 136 = .ok (.iconst 0, 1) := by decide +kernel
theorem dX8_shift_137 : decode cX8_shift 137 = .ok (.istore 6, 2) := by decide +kernel
theorem dX8_shift_139 : decode cX8_shift 139 = .ok (.iload 6, 2) := by decide +kernel
theorem dX8_shift_141 : decode cX8_shift 141 = .ok (.iload 5, 2) := by decide +kernel
theorem dX8_shift_143 : decode cX8_shift 143 = .ok (.if_icmp .ge 31, 3) := by decide +kernel
theorem dX8_shift_146 : decode cX8_shift 146 = .ok (.aload_n 0, 1) := by decide +kernel
theorem dX8_shift_147 : decode cX8_shift 147 = .ok (.getfield 74, 3) := by decide +kernel
theorem dX8_shift_150 : decode cX8_shift 150 = .ok (.bipush 60, 2) := by decide +kernel
theorem dX8_shift_152 : decode cX8_shift 152 = .ok (.iload_n 3, 1) := by decide +kernel
theorem dX8_shift_153 : decode cX8_shift 153 = .ok (.imul, 1) := by decide +kernel
theorem dX8_shift_154 : decode cX8_shift 154 = .ok (.iload 4, 2) := by decide +kernel
theorem dX8_shift_156 : decode cX8_shift 156 = .ok (.iadd, 1) := by decide +kernel
theorem dX8_shift_157 : decode cX8_shift 157 = .ok (.iload 6, 2) := by decide +kernel
theorem dX8_shift_159 : decode cX8_shift 159 = .ok (.iadd, 1) := by decide +kernel
theorem dX8_shift_160 : decode cX8_shift 160 = .ok (.aload_n 0, 1) := by decide +kernel
theorem dX8_shift_161 : decode cX8_shift 161 = .ok (.getfield 78, 3) := by decide +kernel
theorem dX8_shift_164 : decode cX8_shift 164 = .ok (.iload 6, 2) := by decide +kernel
theorem dX8_shift_166 : decode cX8_shift 166 = .ok (.laload, 1) := by decide +kernel
theorem dX8_shift_167 : decode cX8_shift 167 = .ok (.lastore, 1) := by decide +kernel
theorem dX8_shift_168 : decode cX8_shift 168 = .ok (.iinc 6 1, 3) := by decide +kernel
theorem dX8_shift_171 : decode cX8_shift 171 = .ok (.goto (-32), 3) := by decide +kernel
theorem dX8_shift_174 : decode cX8_shift 174 = .ok (.iload 5, 2) := by decide +kernel
theorem dX8_shift_176 : decode cX8_shift 176 = .ok (.ireturn, 1) := by decide +kernel
theorem dX8_judge_0 : decode cX8_judge 0 = .ok (.iload_n 1, 1) := by decide +kernel
theorem dX8_judge_1 : decode cX8_judge 1 = .ok (.invokestatic 241, 3) := by decide +kernel
theorem dX8_judge_4 : decode cX8_judge 4 = .ok (.ifCond .ne 5, 3) := by decide +kernel
theorem dX8_judge_7 : decode cX8_judge 7 = .ok (.iconst (-1), 1) := by decide +kernel
theorem dX8_judge_8 : decode cX8_judge 8 = .ok (.ireturn, 1) := by decide +kernel
theorem dX8_judge_9 : decode cX8_judge 9 = .ok (.aload_n 0, 1) := by decide +kernel
theorem dX8_judge_10 : decode cX8_judge 10 = .ok (.getfield 68, 3) := by decide +kernel
theorem dX8_judge_13 : decode cX8_judge 13 = .ok (.iload_n 1, 1) := by decide +kernel
theorem dX8_judge_14 : decode cX8_judge 14 = .ok (.iaload, 1) := by decide +kernel
theorem dX8_judge_15 : decode cX8_judge 15 = .ok (.iconst (-1), 1) := by decide +kernel
theorem dX8_judge_16 : decode cX8_judge 16 = .ok (.if_icmp .eq 16, 3) := by decide +kernel
theorem dX8_judge_19 : decode cX8_judge 19 = .ok (.aload_n 0, 1) := by decide +kernel
theorem dX8_judge_20 : decode cX8_judge 20 = .ok (.getfield 68, 3) := by decide +kernel
theorem dX8_judge_23 : decode cX8_judge 23 = .ok (.iload_n 1, 1) := by decide +kernel
theorem dX8_judge_24 : decode cX8_judge 24 = .ok (.iaload, 1) := by decide +kernel
theorem dX8_judge_25 : decode cX8_judge 25 = .ok (.iconst 1, 1) := by decide +kernel
theorem dX8_judge_26 : decode cX8_judge 26 = .ok (.if_icmp .eq 6, 3) := by decide +kernel
theorem dX8_judge_29 : decode cX8_judge 29 = .ok (.bipush (-12), 2) := by decide +kernel
theorem dX8_judge_31 : decode cX8_judge 31 = .ok (.ireturn, 1) := by decide +kernel
theorem dX8_judge_32 : decode cX8_judge 32 = .ok (.aload_n 0, 1) := by decide +kernel
theorem dX8_judge_33 : decode cX8_judge 33 = .ok (.invokevirtual 104, 3) := by decide +kernel
theorem dX8_judge_36 : decode cX8_judge 36 = .ok (.iconst 0, 1) := by decide +kernel
theorem dX8_judge_37 : decode cX8_judge 37 = .ok (.istore_n 3, 1) := by decide +kernel
theorem dX8_judge_38 : decode cX8_judge 38 = .ok (.iload_n 3, 1) := by decide +kernel
theorem dX8_judge_39 : decode cX8_judge 39 = .ok (.aload_n 0, 1) := by decide +kernel
theorem dX8_judge_40 : decode cX8_judge 40 = .ok (.getfield 15, 3) := by decide +kernel
theorem dX8_judge_43 : decode cX8_judge 43 = .ok (.bipush 60, 2) := by decide +kernel
theorem dX8_judge_45 : decode cX8_judge 45 = .ok (.iaload, 1) := by decide +kernel
theorem dX8_judge_46 : decode cX8_judge 46 = .ok (.if_icmp .ge 64, 3) := by decide +kernel
theorem dX8_judge_49 : decode cX8_judge 49 = .ok (.iload_n 2, 1) := by decide +kernel
theorem dX8_judge_50 : decode cX8_judge 50 = .ok (.i2l, 1) := by decide +kernel
theorem dX8_judge_51 : decode cX8_judge 51 = .ok (.iload_n 3, 1) := by decide +kernel
theorem dX8_judge_52 : decode cX8_judge 52 = .ok (.i2l, 1) := by decide +kernel
theorem dX8_judge_53 : decode cX8_judge 53 = .ok (.ladd, 1) := by decide +kernel
theorem dX8_judge_54 : decode cX8_judge 54 = .ok (.lstore 4, 2) := by decide +kernel
theorem dX8_judge_56 : decode cX8_judge 56 = .ok (.iload_n 2, 1) := by decide +kernel
theorem dX8_judge_57 : decode cX8_judge 57 = .ok (.ifCond .lt 16, 3) := by decide +kernel
theorem dX8_judge_60 : decode cX8_judge 60 = .ok (.lload 4, 2) := by decide +kernel
theorem dX8_judge_62 : decode cX8_judge 62 = .ok (.aload_n 0, 1) := by decide +kernel
theorem dX8_judge_63 : decode cX8_judge 63 = .ok (.getfield 71, 3) := by decide +kernel
theorem dX8_judge_66 : decode cX8_judge 66 = .ok (.iload_n 1, 1) := by decide +kernel
theorem dX8_judge_67 : decode cX8_judge 67 = .ok (.iaload, 1) := by decide +kernel
theorem dX8_judge_68 : decode cX8_judge 68 = .ok (.i2l, 1) := by decide +kernel
theorem dX8_judge_69 : decode cX8_judge 69 = .ok (.lcmp, 1) := by decide +kernel
theorem dX8_judge_70 : decode cX8_judge 70 = .ok (.ifCond .lt 8, 3) := by decide +kernel
theorem dX8_judge_73 : decode cX8_judge 73 = .ok (.bipush 100, 2) := by decide +kernel
theorem dX8_judge_75 : decode cX8_judge 75 = .ok (.iload_n 3, 1) := by decide +kernel
theorem dX8_judge_76 : decode cX8_judge 76 = .ok (.iadd, 1) := by decide +kernel
theorem dX8_judge_77 : decode cX8_judge 77 = .ok (.ireturn, 1) := by decide +kernel
theorem dX8_judge_78 : decode cX8_judge 78 = .ok (.aload_n 0, 1) := by decide +kernel
theorem dX8_judge_79 : decode cX8_judge 79 = .ok (.getfield 74, 3) := by decide +kernel
theorem dX8_judge_82 : decode cX8_judge 82 = .ok (.bipush 60, 2) := by decide +kernel
theorem dX8_judge_84 : decode cX8_judge 84 = .ok (.iload_n 1, 1) := by decide +kernel
theorem dX8_judge_85 : decode cX8_judge 85 = .ok (.imul, 1) := by decide +kernel
theorem dX8_judge_86 : decode cX8_judge 86 = .ok (.lload 4, 2) := by decide +kernel
theorem dX8_judge_88 : decode cX8_judge 88 = .ok (.l2i, 1) := by decide +kernel
theorem dX8_judge_89 : decode cX8_judge 89 = .ok (.iadd, 1) := by decide +kernel
theorem dX8_judge_90 : decode cX8_judge 90 = .ok (.laload, 1) := by decide +kernel
theorem dX8_judge_91 : decode cX8_judge 91 = .ok (.aload_n 0, 1) := by decide +kernel
theorem dX8_judge_92 : decode cX8_judge 92 = .ok (.getfield 53, 3) := by decide +kernel
theorem dX8_judge_95 : decode cX8_judge 95 = .ok (.iload_n 3, 1) := by decide +kernel
theorem dX8_judge_96 : decode cX8_judge 96 = .ok (.iaload, 1) := by decide +kernel
theorem dX8_judge_97 : decode cX8_judge 97 = .ok (.i2l, 1) := by decide +kernel
theorem dX8_judge_98 : decode cX8_judge 98 = .ok (.lcmp, 1) := by decide +kernel
theorem dX8_judge_99 : decode cX8_judge 99 = .ok (.ifCond .eq 5, 3) := by decide +kernel
theorem dX8_judge_102 : decode cX8_judge 102 = .ok (.iload_n 3, 1) := by decide +kernel
theorem dX8_judge_103 : decode cX8_judge 103 = .ok (.ireturn, 1) := by decide +kernel
theorem dX8_judge_104 : decode cX8_judge 104 = .ok (.iinc 3 1, 3) := by decide +kernel
theorem dX8_judge_107 : decode cX8_judge 107 = .ok (.goto (-69), 3) := by decide +kernel
theorem dX8_judge_110 : decode cX8_judge 110 = .ok (.bipush (-5), 2) := by decide +kernel
theorem dX8_judge_112 : decode cX8_judge 112 = .ok (.ireturn, 1) := by decide +kernel
theorem dJ6_bitCount_0f7a4_0 : decode cJ6_bitCount_0f7a4 0 = .ok (.iload_n 0, 1) := by decide +kernel
theorem dJ6_bitCount_0f7a4_1 : decode cJ6_bitCount_0f7a4 1 = .ok (.iload_n 0, 1) := by decide +kernel
theorem dJ6_bitCount_0f7a4_2 : decode cJ6_bitCount_0f7a4 2 = .ok (.iconst 1, 1) := by decide +kernel
theorem dJ6_bitCount_0f7a4_3 : decode cJ6_bitCount_0f7a4 3 = .ok (.iushr, 1) := by decide +kernel
theorem dJ6_bitCount_0f7a4_4 : decode cJ6_bitCount_0f7a4 4 = .ok (.ldc_w 265, 3) := by decide +kernel
theorem dJ6_bitCount_0f7a4_7 : decode cJ6_bitCount_0f7a4 7 = .ok (.iand, 1) := by decide +kernel
theorem dJ6_bitCount_0f7a4_8 : decode cJ6_bitCount_0f7a4 8 = .ok (.isub, 1) := by decide +kernel
theorem dJ6_bitCount_0f7a4_9 : decode cJ6_bitCount_0f7a4 9 = .ok (.istore_n 0, 1) := by decide +kernel
theorem dJ6_bitCount_0f7a4_10 : decode cJ6_bitCount_0f7a4 10 = .ok (.iload_n 0, 1) := by decide +kernel
theorem dJ6_bitCount_0f7a4_11 : decode cJ6_bitCount_0f7a4 11 = .ok (.ldc_w 266, 3) := by decide +kernel
theorem dJ6_bitCount_0f7a4_14 : decode cJ6_bitCount_0f7a4 14 = .ok (.iand, 1) := by decide +kernel
theorem dJ6_bitCount_0f7a4_15 : decode cJ6_bitCount_0f7a4 15 = .ok (.iload_n 0, 1) := by decide +kernel
theorem dJ6_bitCount_0f7a4_16 : decode cJ6_bitCount_0f7a4 16 = .ok (.iconst 2, 1) := by decide +kernel
theorem dJ6_bitCount_0f7a4_17 : decode cJ6_bitCount_0f7a4 17 = .ok (.iushr, 1) := by decide +kernel
theorem dJ6_bitCount_0f7a4_18 : decode cJ6_bitCount_0f7a4 18 = .ok (.ldc_w 266, 3) := by decide +kernel
theorem dJ6_bitCount_0f7a4_21 : decode cJ6_bitCount_0f7a4 21 = .ok (.iand, 1) := by decide +kernel
theorem dJ6_bitCount_0f7a4_22 : decode cJ6_bitCount_0f7a4 22 = .ok (.iadd, 1) := by decide +kernel
theorem dJ6_bitCount_0f7a4_23 : decode cJ6_bitCount_0f7a4 23 = .ok (.istore_n 0, 1) := by decide +kernel
theorem dJ6_bitCount_0f7a4_24 : decode cJ6_bitCount_0f7a4 24 = .ok (.iload_n 0, 1) := by decide +kernel
theorem dJ6_bitCount_0f7a4_25 : decode cJ6_bitCount_0f7a4 25 = .ok (.iload_n 0, 1) := by decide +kernel
theorem dJ6_bitCount_0f7a4_26 : decode cJ6_bitCount_0f7a4 26 = .ok (.iconst 4, 1) := by decide +kernel
theorem dJ6_bitCount_0f7a4_27 : decode cJ6_bitCount_0f7a4 27 = .ok (.iushr, 1) := by decide +kernel
theorem dJ6_bitCount_0f7a4_28 : decode cJ6_bitCount_0f7a4 28 = .ok (.iadd, 1) := by decide +kernel
theorem dJ6_bitCount_0f7a4_29 : decode cJ6_bitCount_0f7a4 29 = .ok (.ldc_w 267, 3) := by decide +kernel
theorem dJ6_bitCount_0f7a4_32 : decode cJ6_bitCount_0f7a4 32 = .ok (.iand, 1) := by decide +kernel
theorem dJ6_bitCount_0f7a4_33 : decode cJ6_bitCount_0f7a4 33 = .ok (.istore_n 0, 1) := by decide +kernel
theorem dJ6_bitCount_0f7a4_34 : decode cJ6_bitCount_0f7a4 34 = .ok (.iload_n 0, 1) := by decide +kernel
theorem dJ6_bitCount_0f7a4_35 : decode cJ6_bitCount_0f7a4 35 = .ok (.iload_n 0, 1) := by decide +kernel
theorem dJ6_bitCount_0f7a4_36 : decode cJ6_bitCount_0f7a4 36 = .ok (.bipush 8, 2) := by decide +kernel
theorem dJ6_bitCount_0f7a4_38 : decode cJ6_bitCount_0f7a4 38 = .ok (.iushr, 1) := by decide +kernel
theorem dJ6_bitCount_0f7a4_39 : decode cJ6_bitCount_0f7a4 39 = .ok (.iadd, 1) := by decide +kernel
theorem dJ6_bitCount_0f7a4_40 : decode cJ6_bitCount_0f7a4 40 = .ok (.istore_n 0, 1) := by decide +kernel
theorem dJ6_bitCount_0f7a4_41 : decode cJ6_bitCount_0f7a4 41 = .ok (.iload_n 0, 1) := by decide +kernel
theorem dJ6_bitCount_0f7a4_42 : decode cJ6_bitCount_0f7a4 42 = .ok (.iload_n 0, 1) := by decide +kernel
theorem dJ6_bitCount_0f7a4_43 : decode cJ6_bitCount_0f7a4 43 = .ok (.bipush 16, 2) := by decide +kernel
theorem dJ6_bitCount_0f7a4_45 : decode cJ6_bitCount_0f7a4 45 = .ok (.iushr, 1) := by decide +kernel
theorem dJ6_bitCount_0f7a4_46 : decode cJ6_bitCount_0f7a4 46 = .ok (.iadd, 1) := by decide +kernel
theorem dJ6_bitCount_0f7a4_47 : decode cJ6_bitCount_0f7a4 47 = .ok (.istore_n 0, 1) := by decide +kernel
theorem dJ6_bitCount_0f7a4_48 : decode cJ6_bitCount_0f7a4 48 = .ok (.iload_n 0, 1) := by decide +kernel
theorem dJ6_bitCount_0f7a4_49 : decode cJ6_bitCount_0f7a4 49 = .ok (.bipush 63, 2) := by decide +kernel
theorem dJ6_bitCount_0f7a4_51 : decode cJ6_bitCount_0f7a4 51 = .ok (.iand, 1) := by decide +kernel
theorem dJ6_bitCount_0f7a4_52 : decode cJ6_bitCount_0f7a4 52 = .ok (.ireturn, 1) := by decide +kernel
theorem dJ9_max_7cf53_0 : decode cJ9_max_7cf53 0 = .ok (.iload_n 0, 1) := by decide +kernel
theorem dJ9_max_7cf53_1 : decode cJ9_max_7cf53 1 = .ok (.iload_n 1, 1) := by decide +kernel
theorem dJ9_max_7cf53_2 : decode cJ9_max_7cf53 2 = .ok (.if_icmp .lt 7, 3) := by decide +kernel
theorem dJ9_max_7cf53_5 : decode cJ9_max_7cf53 5 = .ok (.iload_n 0, 1) := by decide +kernel
theorem dJ9_max_7cf53_6 : decode cJ9_max_7cf53 6 = .ok (.goto 4, 3) := by decide +kernel
theorem dJ9_max_7cf53_9 : decode cJ9_max_7cf53 9 = .ok (.iload_n 1, 1) := by decide +kernel
theorem dJ9_max_7cf53_10 : decode cJ9_max_7cf53 10 = .ok (.ireturn, 1) := by decide +kernel
theorem dJ9_min_7cf53_0 : decode cJ9_min_7cf53 0 = .ok (.iload_n 0, 1) := by decide +kernel
theorem dJ9_min_7cf53_1 : decode cJ9_min_7cf53 1 = .ok (.iload_n 1, 1) := by decide +kernel
theorem dJ9_min_7cf53_2 : decode cJ9_min_7cf53 2 = .ok (.if_icmp .gt 7, 3) := by decide +kernel
theorem dJ9_min_7cf53_5 : decode cJ9_min_7cf53 5 = .ok (.iload_n 0, 1) := by decide +kernel
theorem dJ9_min_7cf53_6 : decode cJ9_min_7cf53 6 = .ok (.goto 4, 3) := by decide +kernel
theorem dJ9_min_7cf53_9 : decode cJ9_min_7cf53 9 = .ok (.iload_n 1, 1) := by decide +kernel
theorem dJ9_min_7cf53_10 : decode cJ9_min_7cf53 10 = .ok (.ireturn, 1) := by decide +kernel
theorem dJ0_length_8abf5_0 : decode cJ0_length_8abf5 0 = .ok (.aload_n 0, 1) := by decide +kernel
theorem dJ0_length_8abf5_1 : decode cJ0_length_8abf5 1 = .ok (.getfield 9, 3) := by decide +kernel
theorem dJ0_length_8abf5_4 : decode cJ0_length_8abf5 4 = .ok (.arraylength, 1) := by decide +kernel
theorem dJ0_length_8abf5_5 : decode cJ0_length_8abf5 5 = .ok (.aload_n 0, 1) := by decide +kernel
theorem dJ0_length_8abf5_6 : decode cJ0_length_8abf5 6 = .ok (.invokevirtual 335, 3) := by decide +kernel
theorem dJ0_length_8abf5_9 : decode cJ0_length_8abf5 9 = .ok (.ishr, 1) := by decide +kernel
theorem dJ0_length_8abf5_10 : decode cJ0_length_8abf5 10 = .ok (.ireturn, 1) := by decide +kernel
theorem dJ0_charAt_5068e_0 : decode cJ0_charAt_5068e 0 = .ok (.aload_n 0, 1) := by decide +kernel
theorem dJ0_charAt_5068e_1 : decode cJ0_charAt_5068e 1 = .ok (.invokevirtual 492, 3) := by decide +kernel
theorem dJ0_charAt_5068e_4 : decode cJ0_charAt_5068e 4 = .ok (.ifCond .eq 12, 3) := by decide +kernel
theorem dJ0_charAt_5068e_7 : decode cJ0_charAt_5068e 7 = .ok (.aload_n 0, 1) := by decide +kernel
theorem dJ0_charAt_5068e_8 : decode cJ0_charAt_5068e 8 = .ok (.getfield 9, 3) := by decide +kernel
theorem dJ0_charAt_5068e_11 : decode cJ0_charAt_5068e 11 = .ok (.iload_n 1, 1) := by decide +kernel
theorem dJ0_charAt_5068e_12 : decode cJ0_charAt_5068e 12 = .ok (.invokestatic 495, 3) := by decide +kernel
theorem dJ0_charAt_5068e_15 : decode cJ0_charAt_5068e 15 = .ok (.ireturn, 1) := by decide +kernel
theorem dJ0_charAt_5068e_16 : decode cJ0_charAt_5068e 16 = .ok (.aload_n 0, 1) := by decide +kernel
theorem dJ0_charAt_5068e_17 : decode cJ0_charAt_5068e 17 = .ok (.getfield 9, 3) := by decide +kernel
theorem dJ0_charAt_5068e_20 : decode cJ0_charAt_5068e 20 = .ok (.iload_n 1, 1) := by decide +kernel
theorem dJ0_charAt_5068e_21 : decode cJ0_charAt_5068e 21 = .ok (.invokestatic 498, 3) := by decide +kernel
theorem dJ0_charAt_5068e_24 : decode cJ0_charAt_5068e 24 = .ok (.ireturn, 1) := by decide +kernel
theorem dJ0_coder_7d493_0 : decode cJ0_coder_7d493 0 = .ok (.getstatic 38, 3) := by decide +kernel
theorem dJ0_coder_7d493_3 : decode cJ0_coder_7d493 3 = .ok (.ifCond .eq 10, 3) := by decide +kernel
theorem dJ0_coder_7d493_6 : decode cJ0_coder_7d493 6 = .ok (.aload_n 0, 1) := by decide +kernel
theorem dJ0_coder_7d493_7 : decode cJ0_coder_7d493 7 = .ok (.getfield 15, 3) := by decide +kernel
theorem dJ0_coder_7d493_10 : decode cJ0_coder_7d493 10 = .ok (.goto 4, 3) := by decide +kernel
theorem dJ0_coder_7d493_13 : decode cJ0_coder_7d493 13 = .ok (.iconst 1, 1) := by decide +kernel
theorem dJ0_coder_7d493_14 : decode cJ0_coder_7d493 14 = .ok (.ireturn, 1) := by decide +kernel
theorem dJ0_isLatin1_aae02_0 : decode cJ0_isLatin1_aae02 0 = .ok (.getstatic 38, 3) := by decide +kernel
theorem dJ0_isLatin1_aae02_3 : decode cJ0_isLatin1_aae02 3 = .ok (.ifCond .eq 14, 3) := by decide +kernel
theorem dJ0_isLatin1_aae02_6 : decode cJ0_isLatin1_aae02 6 = .ok (.aload_n 0, 1) := by decide +kernel
theorem dJ0_isLatin1_aae02_7 : decode cJ0_isLatin1_aae02 7 = .ok (.getfield 15, 3) := by decide +kernel
theorem dJ0_isLatin1_aae02_10 : decode cJ0_isLatin1_aae02 10 = .ok (.ifCond .ne 7, 3) := by decide +kernel
theorem dJ0_isLatin1_aae02_13 : decode cJ0_isLatin1_aae02 13 = .ok (.iconst 1, 1) := by decide +kernel
theorem dJ0_isLatin1_aae02_14 : decode cJ0_isLatin1_aae02 14 = .ok (.goto 4, 3) := by decide +kernel
theorem dJ0_isLatin1_aae02_17 : decode cJ0_isLatin1_aae02 17 = .ok (.iconst 0, 1) := by decide +kernel
theorem dJ0_isLatin1_aae02_18 : decode cJ0_isLatin1_aae02 18 = .ok (.ireturn, 1) := by decide +kernel
theorem dJ0_checkIndex_df160_0 : decode cJ0_checkIndex_df160 0 = .ok (.iload_n 0, 1) := by decide +kernel
theorem dJ0_checkIndex_df160_1 : decode cJ0_checkIndex_df160 1 = .ok (.iload_n 1, 1) := by decide +kernel
theorem dJ0_checkIndex_df160_2 : decode cJ0_checkIndex_df160 2 = .ok (.getstatic 1053, 3) := by decide +kernel
theorem dJ0_checkIndex_df160_5 : decode cJ0_checkIndex_df160 5 = .ok (.invokestatic 1059, 3) := by decide +kernel
theorem dJ0_checkIndex_df160_8 : decode cJ0_checkIndex_df160 8 = .ok (.pop, 1) := by decide +kernel
theorem dJ0_checkIndex_df160_9 : decode cJ0_checkIndex_df160 9 = .ok (.return_, 1) := by decide +kernel
theorem dJ1_charAt_3b067_0 : decode cJ1_charAt_3b067 0 = .ok (.iload_n 1, 1) := by decide +kernel
theorem dJ1_charAt_3b067_1 : decode cJ1_charAt_3b067 1 = .ok (.aload_n 0, 1) := by decide +kernel
theorem dJ1_charAt_3b067_2 : decode cJ1_charAt_3b067 2 = .ok (.arraylength, 1) := by decide +kernel
theorem dJ1_charAt_3b067_3 : decode cJ1_charAt_3b067 3 = .ok (.invokestatic 9, 3) := by decide +kernel
theorem dJ1_charAt_3b067_6 : decode cJ1_charAt_3b067 6 = .ok (.aload_n 0, 1) := by decide +kernel
theorem dJ1_charAt_3b067_7 : decode cJ1_charAt_3b067 7 = .ok (.iload_n 1, 1) := by decide +kernel
theorem dJ1_charAt_3b067_8 : decode cJ1_charAt_3b067 8 = .ok (.baload, 1) := by decide +kernel
theorem dJ1_charAt_3b067_9 : decode cJ1_charAt_3b067 9 = .ok (.sipush 255, 3) := by decide +kernel
theorem dJ1_charAt_3b067_12 : decode cJ1_charAt_3b067 12 = .ok (.iand, 1) := by decide +kernel
theorem dJ1_charAt_3b067_13 : decode cJ1_charAt_3b067 13 = .ok (.i2c, 1) := by decide +kernel
theorem dJ1_charAt_3b067_14 : decode cJ1_charAt_3b067 14 = .ok (.ireturn, 1) := by decide +kernel
theorem dJ2_getChar_3b067_0 : decode cJ2_getChar_3b067 0 = .ok (.getstatic 44, 3) := by decide +kernel
theorem dJ2_getChar_3b067_3 : decode cJ2_getChar_3b067 3 = .ok (.ifCond .ne 25, 3) := by decide +kernel
theorem dJ2_getChar_3b067_6 : decode cJ2_getChar_3b067 6 = .ok (.iload_n 1, 1) := by decide +kernel
theorem dJ2_getChar_3b067_7 : decode cJ2_getChar_3b067 7 = .ok (.ifCond .lt 11, 3) := by decide +kernel
theorem dJ2_getChar_3b067_10 : decode cJ2_getChar_3b067 10 = .ok (.iload_n 1, 1) := by decide +kernel
theorem dJ2_getChar_3b067_11 : decode cJ2_getChar_3b067 11 = .ok (.aload_n 0, 1) := by decide +kernel
theorem dJ2_getChar_3b067_12 : decode cJ2_getChar_3b067 12 = .ok (.invokestatic 48, 3) := by decide +kernel
theorem dJ2_getChar_3b067_15 : decode cJ2_getChar_3b067 15 = .ok (.if_icmp .lt 13, 3) := by decide +kernel
theorem dJ2_getChar_3b067_18 : decode cJ2_getChar_3b067 18 = .ok (.new 52, 3) := by decide +kernel
theorem dJ2_getChar_3b067_21 : decode cJ2_getChar_3b067 21 = .ok (.dup, 1) := by decide +kernel
theorem dJ2_getChar_3b067_22 : decode cJ2_getChar_3b067 22 = .ok (.ldc 54, 2) := by decide +kernel
theorem dJ2_getChar_3b067_24 : decode cJ2_getChar_3b067 24 = .ok (.invokespecial 56, 3) := by decide +kernel
theorem dJ2_getChar_3b067_27 : decode cJ2_getChar_3b067 27 = .ok (.athrow, 1) := by decide +kernel
theorem dJ2_getChar_3b067_28 : decode cJ2_getChar_3b067 28 = .ok (.iload_n 1, 1) := by decide +kernel
theorem dJ2_getChar_3b067_29 : decode cJ2_getChar_3b067 29 = .ok (.iconst 1, 1) := by decide +kernel
theorem dJ2_getChar_3b067_30 : decode cJ2_getChar_3b067 30 = .ok (.ishl, 1) := by decide +kernel
theorem dJ2_getChar_3b067_31 : decode cJ2_getChar_3b067 31 = .ok (.istore_n 1, 1) := by decide +kernel
theorem dJ2_getChar_3b067_32 : decode cJ2_getChar_3b067 32 = .ok (.aload_n 0, 1) := by decide +kernel
theorem dJ2_getChar_3b067_33 : decode cJ2_getChar_3b067 33 = .ok (.iload_n 1, 1) := by decide +kernel
theorem dJ2_getChar_3b067_34 : decode cJ2_getChar_3b067 34 = .ok (.iinc 1 1, 3) := by decide +kernel
theorem dJ2_getChar_3b067_37 : decode cJ2_getChar_3b067 37 = .ok (.baload, 1) := by decide +kernel
theorem dJ2_getChar_3b067_38 : decode cJ2_getChar_3b067 38 = .ok (.sipush 255, 3) := by decide +kernel
theorem dJ2_getChar_3b067_41 : decode cJ2_getChar_3b067 41 = .ok (.iand, 1) := by decide +kernel
theorem dJ2_getChar_3b067_42 : decode cJ2_getChar_3b067 42 = .ok (.getstatic 59, 3) := by decide +kernel
theorem dJ2_getChar_3b067_45 : decode cJ2_getChar_3b067 45 = .ok (.ishl, 1) := by decide +kernel
theorem dJ2_getChar_3b067_46 : decode cJ2_getChar_3b067 46 = .ok (.aload_n 0, 1) := by decide +kernel
theorem dJ2_getChar_3b067_47 : decode cJ2_getChar_3b067 47 = .ok (.iload_n 1, 1) := by decide +kernel
theorem dJ2_getChar_3b067_48 : decode cJ2_getChar_3b067 48 = .ok (.baload, 1) := by decide +kernel
theorem dJ2_getChar_3b067_49 : decode cJ2_getChar_3b067 49 = .ok (.sipush 255, 3) := by decide +kernel
theorem dJ2_getChar_3b067_52 : decode cJ2_getChar_3b067 52 = .ok (.iand, 1) := by decide +kernel
theorem dJ2_getChar_3b067_53 : decode cJ2_getChar_3b067 53 = .ok (.getstatic 63, 3) := by decide +kernel
theorem dJ2_getChar_3b067_56 : decode cJ2_getChar_3b067 56 = .ok (.ishl, 1) := by decide +kernel
theorem dJ2_getChar_3b067_57 : decode cJ2_getChar_3b067 57 = .ok (.ior, 1) := by decide +kernel
theorem dJ2_getChar_3b067_58 : decode cJ2_getChar_3b067 58 = .ok (.i2c, 1) := by decide +kernel
theorem dJ2_getChar_3b067_59 : decode cJ2_getChar_3b067 59 = .ok (.ireturn, 1) := by decide +kernel
theorem dJ2_length_9d52b_0 : decode cJ2_length_9d52b 0 = .ok (.aload_n 0, 1) := by decide +kernel
theorem dJ2_length_9d52b_1 : decode cJ2_length_9d52b 1 = .ok (.arraylength, 1) := by decide +kernel
theorem dJ2_length_9d52b_2 : decode cJ2_length_9d52b 2 = .ok (.iconst 1, 1) := by decide +kernel
theorem dJ2_length_9d52b_3 : decode cJ2_length_9d52b 3 = .ok (.ishr, 1) := by decide +kernel
theorem dJ2_length_9d52b_4 : decode cJ2_length_9d52b 4 = .ok (.ireturn, 1) := by decide +kernel
theorem dJ2_charAt_3b067_0 : decode cJ2_charAt_3b067 0 = .ok (.iload_n 1, 1) := by decide +kernel
theorem dJ2_charAt_3b067_1 : decode cJ2_charAt_3b067 1 = .ok (.aload_n 0, 1) := by decide +kernel
theorem dJ2_charAt_3b067_2 : decode cJ2_charAt_3b067 2 = .ok (.invokestatic 67, 3) := by decide +kernel
theorem dJ2_charAt_3b067_5 : decode cJ2_charAt_3b067 5 = .ok (.aload_n 0, 1) := by decide +kernel
theorem dJ2_charAt_3b067_6 : decode cJ2_charAt_3b067 6 = .ok (.iload_n 1, 1) := by decide +kernel
theorem dJ2_charAt_3b067_7 : decode cJ2_charAt_3b067 7 = .ok (.invokestatic 71, 3) := by decide +kernel
theorem dJ2_charAt_3b067_10 : decode cJ2_charAt_3b067 10 = .ok (.ireturn, 1) := by decide +kernel
theorem dJ2_checkIndex_2214a_0 : decode cJ2_checkIndex_2214a 0 = .ok (.iload_n 0, 1) := by decide +kernel
theorem dJ2_checkIndex_2214a_1 : decode cJ2_checkIndex_2214a 1 = .ok (.aload_n 1, 1) := by decide +kernel
theorem dJ2_checkIndex_2214a_2 : decode cJ2_checkIndex_2214a 2 = .ok (.invokestatic 48, 3) := by decide +kernel
theorem dJ2_checkIndex_2214a_5 : decode cJ2_checkIndex_2214a 5 = .ok (.invokestatic 414, 3) := by decide +kernel
theorem dJ2_checkIndex_2214a_8 : decode cJ2_checkIndex_2214a 8 = .ok (.return_, 1) := by decide +kernel
theorem dJ3_checkIndex_8e157_0 : decode cJ3_checkIndex_8e157 0 = .ok (.iload_n 0, 1) := by decide +kernel
theorem dJ3_checkIndex_8e157_1 : decode cJ3_checkIndex_8e157 1 = .ok (.ifCond .lt 8, 3) := by decide +kernel
theorem dJ3_checkIndex_8e157_4 : decode cJ3_checkIndex_8e157 4 = .ok (.iload_n 0, 1) := by decide +kernel
theorem dJ3_checkIndex_8e157_5 : decode cJ3_checkIndex_8e157 5 = .ok (.iload_n 1, 1) := by decide +kernel
theorem dJ3_checkIndex_8e157_6 : decode cJ3_checkIndex_8e157 6 = .ok (.if_icmp .lt 10, 3) := by decide +kernel
theorem dJ3_checkIndex_8e157_9 : decode cJ3_checkIndex_8e157 9 = .ok (.aload_n 2, 1) := by decide +kernel
theorem dJ3_checkIndex_8e157_10 : decode cJ3_checkIndex_8e157 10 = .ok (.iload_n 0, 1) := by decide +kernel
theorem dJ3_checkIndex_8e157_11 : decode cJ3_checkIndex_8e157 11 = .ok (.iload_n 1, 1) := by decide +kernel
theorem dJ3_checkIndex_8e157_12 : decode cJ3_checkIndex_8e157 12 = .ok (.invokestatic 95, 3) := by decide +kernel
theorem dJ3_checkIndex_8e157_15 : decode cJ3_checkIndex_8e157 15 = .ok (.athrow, 1) := by decide +kernel
theorem dJ3_checkIndex_8e157_16 : decode cJ3_checkIndex_8e157 16 = .ok (.iload_n 0, 1) := by decide +kernel
theorem dJ3_checkIndex_8e157_17 : decode cJ3_checkIndex_8e157 17 = .ok (.ireturn, 1) := by decide +kernel
theorem dL_law_0 : decode cL_law 0 = .ok (.new 7, 3) := by decide +kernel
theorem dL_law_3 : decode cL_law 3 = .ok (.dup, 1) := by decide +kernel
theorem dL_law_4 : decode cL_law 4 = .ok (.invokespecial 9, 3) := by decide +kernel
theorem dL_law_7 : decode cL_law 7 = .ok (.astore_n 1, 1) := by decide +kernel
theorem dL_law_8 : decode cL_law 8 = .ok (.new 10, 3) := by decide +kernel
theorem dL_law_11 : decode cL_law 11 = .ok (.dup, 1) := by decide +kernel
theorem dL_law_12 : decode cL_law 12 = .ok (.invokespecial 12, 3) := by decide +kernel
theorem dL_law_15 : decode cL_law 15 = .ok (.astore_n 2, 1) := by decide +kernel
theorem dL_law_16 : decode cL_law 16 = .ok (.iconst 0, 1) := by decide +kernel
theorem dL_law_17 : decode cL_law 17 = .ok (.istore_n 3, 1) := by decide +kernel
theorem dL_law_18 : decode cL_law 18 = .ok (.iload_n 3, 1) := by decide +kernel
theorem dL_law_19 : decode cL_law 19 = .ok (.aload_n 0, 1) := by decide +kernel
theorem dL_law_20 : decode cL_law 20 = .ok (.arraylength, 1) := by decide +kernel
theorem dL_law_21 : decode cL_law 21 = .ok (.bipush 6, 2) := by decide +kernel
theorem dL_law_23 : decode cL_law 23 = .ok (.isub, 1) := by decide +kernel
theorem dL_law_24 : decode cL_law 24 = .ok (.if_icmp .gt 1166, 3) := by decide +kernel
theorem dL_law_27 : decode cL_law 27 = .ok (.aload_n 0, 1) := by decide +kernel
theorem dL_law_28 : decode cL_law 28 = .ok (.iload_n 3, 1) := by decide +kernel
theorem dL_law_29 : decode cL_law 29 = .ok (.iaload, 1) := by decide +kernel
theorem dL_law_30 : decode cL_law 30 = .ok (.bipush 31, 2) := by decide +kernel
theorem dL_law_32 : decode cL_law 32 = .ok (.iand, 1) := by decide +kernel
theorem dL_law_33 : decode cL_law 33 = .ok (.tableswitch 1151 0 30 #[139, 192, 225, 268, 317, 340, 383, 406, 419, 442, 465, 498, 531, 564, 597, 631, 655, 688, 711, 744, 757, 790, 803, 816, 859, 882, 915, 938, 981, 1054, 1088], 139) := by decide +kernel
theorem dL_law_172 : decode cL_law 172 = .ok (.aload_n 1, 1) := by decide +kernel
theorem dL_law_173 : decode cL_law 173 = .ok (.aload_n 0, 1) := by decide +kernel
theorem dL_law_174 : decode cL_law 174 = .ok (.iload_n 3, 1) := by decide +kernel
theorem dL_law_175 : decode cL_law 175 = .ok (.iconst 1, 1) := by decide +kernel
theorem dL_law_176 : decode cL_law 176 = .ok (.iadd, 1) := by decide +kernel
theorem dL_law_177 : decode cL_law 177 = .ok (.iaload, 1) := by decide +kernel
theorem dL_law_178 : decode cL_law 178 = .ok (.aload_n 0, 1) := by decide +kernel
theorem dL_law_179 : decode cL_law 179 = .ok (.iload_n 3, 1) := by decide +kernel
theorem dL_law_180 : decode cL_law 180 = .ok (.iconst 2, 1) := by decide +kernel
theorem dL_law_181 : decode cL_law 181 = .ok (.iadd, 1) := by decide +kernel
theorem dL_law_182 : decode cL_law 182 = .ok (.iaload, 1) := by decide +kernel
theorem dL_law_183 : decode cL_law 183 = .ok (.aload_n 0, 1) := by decide +kernel
theorem dL_law_184 : decode cL_law 184 = .ok (.iload_n 3, 1) := by decide +kernel
theorem dL_law_185 : decode cL_law 185 = .ok (.iconst 3, 1) := by decide +kernel
theorem dL_law_186 : decode cL_law 186 = .ok (.iadd, 1) := by decide +kernel
theorem dL_law_187 : decode cL_law 187 = .ok (.iaload, 1) := by decide +kernel
theorem dL_law_188 : decode cL_law 188 = .ok (.aload_n 0, 1) := by decide +kernel
theorem dL_law_189 : decode cL_law 189 = .ok (.iload_n 3, 1) := by decide +kernel
theorem dL_law_190 : decode cL_law 190 = .ok (.iconst 4, 1) := by decide +kernel
theorem dL_law_191 : decode cL_law 191 = .ok (.iadd, 1) := by decide +kernel
theorem dL_law_192 : decode cL_law 192 = .ok (.iaload, 1) := by decide +kernel
theorem dL_law_193 : decode cL_law 193 = .ok (.invokevirtual 13, 3) := by decide +kernel
theorem dL_law_196 : decode cL_law 196 = .ok (.aload_n 2, 1) := by decide +kernel
theorem dL_law_197 : decode cL_law 197 = .ok (.aload_n 0, 1) := by decide +kernel
theorem dL_law_198 : decode cL_law 198 = .ok (.iload_n 3, 1) := by decide +kernel
theorem dL_law_199 : decode cL_law 199 = .ok (.iconst 1, 1) := by decide +kernel
theorem dL_law_200 : decode cL_law 200 = .ok (.iadd, 1) := by decide +kernel
theorem dL_law_201 : decode cL_law 201 = .ok (.iaload, 1) := by decide +kernel
theorem dL_law_202 : decode cL_law 202 = .ok (.aload_n 0, 1) := by decide +kernel
theorem dL_law_203 : decode cL_law 203 = .ok (.iload_n 3, 1) := by decide +kernel
theorem dL_law_204 : decode cL_law 204 = .ok (.iconst 2, 1) := by decide +kernel
theorem dL_law_205 : decode cL_law 205 = .ok (.iadd, 1) := by decide +kernel
theorem dL_law_206 : decode cL_law 206 = .ok (.iaload, 1) := by decide +kernel
theorem dL_law_207 : decode cL_law 207 = .ok (.aload_n 0, 1) := by decide +kernel
theorem dL_law_208 : decode cL_law 208 = .ok (.iload_n 3, 1) := by decide +kernel
theorem dL_law_209 : decode cL_law 209 = .ok (.iconst 3, 1) := by decide +kernel
theorem dL_law_210 : decode cL_law 210 = .ok (.iadd, 1) := by decide +kernel
theorem dL_law_211 : decode cL_law 211 = .ok (.iaload, 1) := by decide +kernel
theorem dL_law_212 : decode cL_law 212 = .ok (.aload_n 0, 1) := by decide +kernel
theorem dL_law_213 : decode cL_law 213 = .ok (.iload_n 3, 1) := by decide +kernel
theorem dL_law_214 : decode cL_law 214 = .ok (.iconst 4, 1) := by decide +kernel
theorem dL_law_215 : decode cL_law 215 = .ok (.iadd, 1) := by decide +kernel
theorem dL_law_216 : decode cL_law 216 = .ok (.iaload, 1) := by decide +kernel
theorem dL_law_217 : decode cL_law 217 = .ok (.invokevirtual 17, 3) := by decide +kernel
theorem dL_law_220 : decode cL_law 220 = .ok (.if_icmp .eq 964, 3) := by decide +kernel
theorem dL_law_223 : decode cL_law 223 = .ok (.iconst 0, 1) := by decide +kernel
theorem dL_law_224 : decode cL_law 224 = .ok (.ireturn, 1) := by decide +kernel
theorem dL_law_225 : decode cL_law 225 = .ok (.aload_n 1, 1) := by decide +kernel
theorem dL_law_226 : decode cL_law 226 = .ok (.aload_n 0, 1) := by decide +kernel
theorem dL_law_227 : decode cL_law 227 = .ok (.iload_n 3, 1) := by decide +kernel
theorem dL_law_228 : decode cL_law 228 = .ok (.iconst 1, 1) := by decide +kernel
theorem dL_law_229 : decode cL_law 229 = .ok (.iadd, 1) := by decide +kernel
theorem dL_law_230 : decode cL_law 230 = .ok (.iaload, 1) := by decide +kernel
theorem dL_law_231 : decode cL_law 231 = .ok (.aload_n 0, 1) := by decide +kernel
theorem dL_law_232 : decode cL_law 232 = .ok (.iload_n 3, 1) := by decide +kernel
theorem dL_law_233 : decode cL_law 233 = .ok (.iconst 2, 1) := by decide +kernel
theorem dL_law_234 : decode cL_law 234 = .ok (.iadd, 1) := by decide +kernel
theorem dL_law_235 : decode cL_law 235 = .ok (.iaload, 1) := by decide +kernel
theorem dL_law_236 : decode cL_law 236 = .ok (.invokevirtual 18, 3) := by decide +kernel
theorem dL_law_239 : decode cL_law 239 = .ok (.aload_n 2, 1) := by decide +kernel
theorem dL_law_240 : decode cL_law 240 = .ok (.aload_n 0, 1) := by decide +kernel
theorem dL_law_241 : decode cL_law 241 = .ok (.iload_n 3, 1) := by decide +kernel
theorem dL_law_242 : decode cL_law 242 = .ok (.iconst 1, 1) := by decide +kernel
theorem dL_law_243 : decode cL_law 243 = .ok (.iadd, 1) := by decide +kernel
theorem dL_law_244 : decode cL_law 244 = .ok (.iaload, 1) := by decide +kernel
theorem dL_law_245 : decode cL_law 245 = .ok (.aload_n 0, 1) := by decide +kernel
theorem dL_law_246 : decode cL_law 246 = .ok (.iload_n 3, 1) := by decide +kernel
theorem dL_law_247 : decode cL_law 247 = .ok (.iconst 2, 1) := by decide +kernel
theorem dL_law_248 : decode cL_law 248 = .ok (.iadd, 1) := by decide +kernel
theorem dL_law_249 : decode cL_law 249 = .ok (.iaload, 1) := by decide +kernel
theorem dL_law_250 : decode cL_law 250 = .ok (.invokevirtual 22, 3) := by decide +kernel
theorem dL_law_253 : decode cL_law 253 = .ok (.if_icmp .eq 931, 3) := by decide +kernel
theorem dL_law_256 : decode cL_law 256 = .ok (.iconst 0, 1) := by decide +kernel
theorem dL_law_257 : decode cL_law 257 = .ok (.ireturn, 1) := by decide +kernel
theorem dL_law_258 : decode cL_law 258 = .ok (.aload_n 1, 1) := by decide +kernel
theorem dL_law_259 : decode cL_law 259 = .ok (.aload_n 0, 1) := by decide +kernel
theorem dL_law_260 : decode cL_law 260 = .ok (.iload_n 3, 1) := by decide +kernel
theorem dL_law_261 : decode cL_law 261 = .ok (.iconst 1, 1) := by decide +kernel
theorem dL_law_262 : decode cL_law 262 = .ok (.iadd, 1) := by decide +kernel
theorem dL_law_263 : decode cL_law 263 = .ok (.iaload, 1) := by decide +kernel
theorem dL_law_264 : decode cL_law 264 = .ok (.aload_n 0, 1) := by decide +kernel
theorem dL_law_265 : decode cL_law 265 = .ok (.iload_n 3, 1) := by decide +kernel
theorem dL_law_266 : decode cL_law 266 = .ok (.iconst 2, 1) := by decide +kernel
theorem dL_law_267 : decode cL_law 267 = .ok (.iadd, 1) := by decide +kernel
theorem dL_law_268 : decode cL_law 268 = .ok (.iaload, 1) := by decide +kernel
theorem dL_law_269 : decode cL_law 269 = .ok (.aload_n 0, 1) := by decide +kernel
theorem dL_law_270 : decode cL_law 270 = .ok (.iload_n 3, 1) := by decide +kernel
theorem dL_law_271 : decode cL_law 271 = .ok (.iconst 3, 1) := by decide +kernel
theorem dL_law_272 : decode cL_law 272 = .ok (.iadd, 1) := by decide +kernel
theorem dL_law_273 : decode cL_law 273 = .ok (.iaload, 1) := by decide +kernel
theorem dL_law_274 : decode cL_law 274 = .ok (.invokevirtual 23, 3) := by decide +kernel
theorem dL_law_277 : decode cL_law 277 = .ok (.aload_n 2, 1) := by decide +kernel
theorem dL_law_278 : decode cL_law 278 = .ok (.aload_n 0, 1) := by decide +kernel
theorem dL_law_279 : decode cL_law 279 = .ok (.iload_n 3, 1) := by decide +kernel
theorem dL_law_280 : decode cL_law 280 = .ok (.iconst 1, 1) := by decide +kernel
theorem dL_law_281 : decode cL_law 281 = .ok (.iadd, 1) := by decide +kernel
theorem dL_law_282 : decode cL_law 282 = .ok (.iaload, 1) := by decide +kernel
theorem dL_law_283 : decode cL_law 283 = .ok (.aload_n 0, 1) := by decide +kernel
theorem dL_law_284 : decode cL_law 284 = .ok (.iload_n 3, 1) := by decide +kernel
theorem dL_law_285 : decode cL_law 285 = .ok (.iconst 2, 1) := by decide +kernel
theorem dL_law_286 : decode cL_law 286 = .ok (.iadd, 1) := by decide +kernel
theorem dL_law_287 : decode cL_law 287 = .ok (.iaload, 1) := by decide +kernel
theorem dL_law_288 : decode cL_law 288 = .ok (.aload_n 0, 1) := by decide +kernel
theorem dL_law_289 : decode cL_law 289 = .ok (.iload_n 3, 1) := by decide +kernel
theorem dL_law_290 : decode cL_law 290 = .ok (.iconst 3, 1) := by decide +kernel
theorem dL_law_291 : decode cL_law 291 = .ok (.iadd, 1) := by decide +kernel
theorem dL_law_292 : decode cL_law 292 = .ok (.iaload, 1) := by decide +kernel
theorem dL_law_293 : decode cL_law 293 = .ok (.invokevirtual 27, 3) := by decide +kernel
theorem dL_law_296 : decode cL_law 296 = .ok (.if_icmp .eq 888, 3) := by decide +kernel
theorem dL_law_299 : decode cL_law 299 = .ok (.iconst 0, 1) := by decide +kernel
theorem dL_law_300 : decode cL_law 300 = .ok (.ireturn, 1) := by decide +kernel
theorem dL_law_301 : decode cL_law 301 = .ok (.aload_n 1, 1) := by decide +kernel
theorem dL_law_302 : decode cL_law 302 = .ok (.aload_n 0, 1) := by decide +kernel
theorem dL_law_303 : decode cL_law 303 = .ok (.iload_n 3, 1) := by decide +kernel
theorem dL_law_304 : decode cL_law 304 = .ok (.iconst 1, 1) := by decide +kernel
theorem dL_law_305 : decode cL_law 305 = .ok (.iadd, 1) := by decide +kernel
theorem dL_law_306 : decode cL_law 306 = .ok (.iaload, 1) := by decide +kernel
theorem dL_law_307 : decode cL_law 307 = .ok (.aload_n 0, 1) := by decide +kernel
theorem dL_law_308 : decode cL_law 308 = .ok (.iload_n 3, 1) := by decide +kernel
theorem dL_law_309 : decode cL_law 309 = .ok (.iconst 2, 1) := by decide +kernel
theorem dL_law_310 : decode cL_law 310 = .ok (.iadd, 1) := by decide +kernel
theorem dL_law_311 : decode cL_law 311 = .ok (.iaload, 1) := by decide +kernel
theorem dL_law_312 : decode cL_law 312 = .ok (.ifCond .eq 7, 3) := by decide +kernel
theorem dL_law_315 : decode cL_law 315 = .ok (.iconst 1, 1) := by decide +kernel
theorem dL_law_316 : decode cL_law 316 = .ok (.goto 4, 3) := by decide +kernel
theorem dL_law_319 : decode cL_law 319 = .ok (.iconst 0, 1) := by decide +kernel
theorem dL_law_320 : decode cL_law 320 = .ok (.invokevirtual 28, 3) := by decide +kernel
theorem dL_law_323 : decode cL_law 323 = .ok (.aload_n 2, 1) := by decide +kernel
theorem dL_law_324 : decode cL_law 324 = .ok (.aload_n 0, 1) := by decide +kernel
theorem dL_law_325 : decode cL_law 325 = .ok (.iload_n 3, 1) := by decide +kernel
theorem dL_law_326 : decode cL_law 326 = .ok (.iconst 1, 1) := by decide +kernel
theorem dL_law_327 : decode cL_law 327 = .ok (.iadd, 1) := by decide +kernel
theorem dL_law_328 : decode cL_law 328 = .ok (.iaload, 1) := by decide +kernel
theorem dL_law_329 : decode cL_law 329 = .ok (.aload_n 0, 1) := by decide +kernel
theorem dL_law_330 : decode cL_law 330 = .ok (.iload_n 3, 1) := by decide +kernel
theorem dL_law_331 : decode cL_law 331 = .ok (.iconst 2, 1) := by decide +kernel
theorem dL_law_332 : decode cL_law 332 = .ok (.iadd, 1) := by decide +kernel
theorem dL_law_333 : decode cL_law 333 = .ok (.iaload, 1) := by decide +kernel
theorem dL_law_334 : decode cL_law 334 = .ok (.ifCond .eq 7, 3) := by decide +kernel
theorem dL_law_337 : decode cL_law 337 = .ok (.iconst 1, 1) := by decide +kernel
theorem dL_law_338 : decode cL_law 338 = .ok (.goto 4, 3) := by decide +kernel
theorem dL_law_341 : decode cL_law 341 = .ok (.iconst 0, 1) := by decide +kernel
theorem dL_law_342 : decode cL_law 342 = .ok (.invokevirtual 32, 3) := by decide +kernel
theorem dL_law_345 : decode cL_law 345 = .ok (.if_icmp .eq 839, 3) := by decide +kernel
theorem dL_law_348 : decode cL_law 348 = .ok (.iconst 0, 1) := by decide +kernel
theorem dL_law_349 : decode cL_law 349 = .ok (.ireturn, 1) := by decide +kernel
theorem dL_law_350 : decode cL_law 350 = .ok (.aload_n 1, 1) := by decide +kernel
theorem dL_law_351 : decode cL_law 351 = .ok (.aload_n 0, 1) := by decide +kernel
theorem dL_law_352 : decode cL_law 352 = .ok (.iload_n 3, 1) := by decide +kernel
theorem dL_law_353 : decode cL_law 353 = .ok (.iconst 1, 1) := by decide +kernel
theorem dL_law_354 : decode cL_law 354 = .ok (.iadd, 1) := by decide +kernel
theorem dL_law_355 : decode cL_law 355 = .ok (.iaload, 1) := by decide +kernel
theorem dL_law_356 : decode cL_law 356 = .ok (.invokevirtual 33, 3) := by decide +kernel
theorem dL_law_359 : decode cL_law 359 = .ok (.aload_n 2, 1) := by decide +kernel
theorem dL_law_360 : decode cL_law 360 = .ok (.aload_n 0, 1) := by decide +kernel
theorem dL_law_361 : decode cL_law 361 = .ok (.iload_n 3, 1) := by decide +kernel
theorem dL_law_362 : decode cL_law 362 = .ok (.iconst 1, 1) := by decide +kernel
theorem dL_law_363 : decode cL_law 363 = .ok (.iadd, 1) := by decide +kernel
theorem dL_law_364 : decode cL_law 364 = .ok (.iaload, 1) := by decide +kernel
theorem dL_law_365 : decode cL_law 365 = .ok (.invokevirtual 37, 3) := by decide +kernel
theorem dL_law_368 : decode cL_law 368 = .ok (.if_icmp .eq 816, 3) := by decide +kernel
theorem dL_law_371 : decode cL_law 371 = .ok (.iconst 0, 1) := by decide +kernel
theorem dL_law_372 : decode cL_law 372 = .ok (.ireturn, 1) := by decide +kernel
theorem dL_law_373 : decode cL_law 373 = .ok (.aload_n 1, 1) := by decide +kernel
theorem dL_law_374 : decode cL_law 374 = .ok (.aload_n 0, 1) := by decide +kernel
theorem dL_law_375 : decode cL_law 375 = .ok (.iload_n 3, 1) := by decide +kernel
theorem dL_law_376 : decode cL_law 376 = .ok (.iconst 1, 1) := by decide +kernel
theorem dL_law_377 : decode cL_law 377 = .ok (.iadd, 1) := by decide +kernel
theorem dL_law_378 : decode cL_law 378 = .ok (.iaload, 1) := by decide +kernel
theorem dL_law_379 : decode cL_law 379 = .ok (.aload_n 0, 1) := by decide +kernel
theorem dL_law_380 : decode cL_law 380 = .ok (.iload_n 3, 1) := by decide +kernel
theorem dL_law_381 : decode cL_law 381 = .ok (.iconst 2, 1) := by decide +kernel
theorem dL_law_382 : decode cL_law 382 = .ok (.iadd, 1) := by decide +kernel
theorem dL_law_383 : decode cL_law 383 = .ok (.iaload, 1) := by decide +kernel
theorem dL_law_384 : decode cL_law 384 = .ok (.aload_n 0, 1) := by decide +kernel
theorem dL_law_385 : decode cL_law 385 = .ok (.iload_n 3, 1) := by decide +kernel
theorem dL_law_386 : decode cL_law 386 = .ok (.iconst 3, 1) := by decide +kernel
theorem dL_law_387 : decode cL_law 387 = .ok (.iadd, 1) := by decide +kernel
theorem dL_law_388 : decode cL_law 388 = .ok (.iaload, 1) := by decide +kernel
theorem dL_law_389 : decode cL_law 389 = .ok (.invokevirtual 38, 3) := by decide +kernel
theorem dL_law_392 : decode cL_law 392 = .ok (.aload_n 2, 1) := by decide +kernel
theorem dL_law_393 : decode cL_law 393 = .ok (.aload_n 0, 1) := by decide +kernel
theorem dL_law_394 : decode cL_law 394 = .ok (.iload_n 3, 1) := by decide +kernel
theorem dL_law_395 : decode cL_law 395 = .ok (.iconst 1, 1) := by decide +kernel
theorem dL_law_396 : decode cL_law 396 = .ok (.iadd, 1) := by decide +kernel
theorem dL_law_397 : decode cL_law 397 = .ok (.iaload, 1) := by decide +kernel
theorem dL_law_398 : decode cL_law 398 = .ok (.aload_n 0, 1) := by decide +kernel
theorem dL_law_399 : decode cL_law 399 = .ok (.iload_n 3, 1) := by decide +kernel
theorem dL_law_400 : decode cL_law 400 = .ok (.iconst 2, 1) := by decide +kernel
theorem dL_law_401 : decode cL_law 401 = .ok (.iadd, 1) := by decide +kernel
theorem dL_law_402 : decode cL_law 402 = .ok (.iaload, 1) := by decide +kernel
theorem dL_law_403 : decode cL_law 403 = .ok (.aload_n 0, 1) := by decide +kernel
theorem dL_law_404 : decode cL_law 404 = .ok (.iload_n 3, 1) := by decide +kernel
theorem dL_law_405 : decode cL_law 405 = .ok (.iconst 3, 1) := by decide +kernel
theorem dL_law_406 : decode cL_law 406 = .ok (.iadd, 1) := by decide +kernel
theorem dL_law_407 : decode cL_law 407 = .ok (.iaload, 1) := by decide +kernel
theorem dL_law_408 : decode cL_law 408 = .ok (.invokevirtual 41, 3) := by decide +kernel
theorem dL_law_411 : decode cL_law 411 = .ok (.if_icmp .eq 773, 3) := by decide +kernel
theorem dL_law_414 : decode cL_law 414 = .ok (.iconst 0, 1) := by decide +kernel
theorem dL_law_415 : decode cL_law 415 = .ok (.ireturn, 1) := by decide +kernel
theorem dL_law_416 : decode cL_law 416 = .ok (.aload_n 1, 1) := by decide +kernel
theorem dL_law_417 : decode cL_law 417 = .ok (.aload_n 0, 1) := by decide +kernel
theorem dL_law_418 : decode cL_law 418 = .ok (.iload_n 3, 1) := by decide +kernel
theorem dL_law_419 : decode cL_law 419 = .ok (.iconst 1, 1) := by decide +kernel
theorem dL_law_420 : decode cL_law 420 = .ok (.iadd, 1) := by decide +kernel
theorem dL_law_421 : decode cL_law 421 = .ok (.iaload, 1) := by decide +kernel
theorem dL_law_422 : decode cL_law 422 = .ok (.invokevirtual 42, 3) := by decide +kernel
theorem dL_law_425 : decode cL_law 425 = .ok (.aload_n 2, 1) := by decide +kernel
theorem dL_law_426 : decode cL_law 426 = .ok (.aload_n 0, 1) := by decide +kernel
theorem dL_law_427 : decode cL_law 427 = .ok (.iload_n 3, 1) := by decide +kernel
theorem dL_law_428 : decode cL_law 428 = .ok (.iconst 1, 1) := by decide +kernel
theorem dL_law_429 : decode cL_law 429 = .ok (.iadd, 1) := by decide +kernel
theorem dL_law_430 : decode cL_law 430 = .ok (.iaload, 1) := by decide +kernel
theorem dL_law_431 : decode cL_law 431 = .ok (.invokevirtual 45, 3) := by decide +kernel
theorem dL_law_434 : decode cL_law 434 = .ok (.if_icmp .eq 750, 3) := by decide +kernel
theorem dL_law_437 : decode cL_law 437 = .ok (.iconst 0, 1) := by decide +kernel
theorem dL_law_438 : decode cL_law 438 = .ok (.ireturn, 1) := by decide +kernel
theorem dL_law_439 : decode cL_law 439 = .ok (.aload_n 1, 1) := by decide +kernel
theorem dL_law_440 : decode cL_law 440 = .ok (.invokevirtual 46, 3) := by decide +kernel
theorem dL_law_443 : decode cL_law 443 = .ok (.aload_n 2, 1) := by decide +kernel
theorem dL_law_444 : decode cL_law 444 = .ok (.invokevirtual 50, 3) := by decide +kernel
theorem dL_law_447 : decode cL_law 447 = .ok (.if_icmp .eq 737, 3) := by decide +kernel
theorem dL_law_450 : decode cL_law 450 = .ok (.iconst 0, 1) := by decide +kernel
theorem dL_law_451 : decode cL_law 451 = .ok (.ireturn, 1) := by decide +kernel
theorem dL_law_452 : decode cL_law 452 = .ok (.aload_n 1, 1) := by decide +kernel
theorem dL_law_453 : decode cL_law 453 = .ok (.aload_n 0, 1) := by decide +kernel
theorem dL_law_454 : decode cL_law 454 = .ok (.iload_n 3, 1) := by decide +kernel
theorem dL_law_455 : decode cL_law 455 = .ok (.iconst 1, 1) := by decide +kernel
theorem dL_law_456 : decode cL_law 456 = .ok (.iadd, 1) := by decide +kernel
theorem dL_law_457 : decode cL_law 457 = .ok (.iaload, 1) := by decide +kernel
theorem dL_law_458 : decode cL_law 458 = .ok (.invokevirtual 51, 3) := by decide +kernel
theorem dL_law_461 : decode cL_law 461 = .ok (.aload_n 2, 1) := by decide +kernel
theorem dL_law_462 : decode cL_law 462 = .ok (.aload_n 0, 1) := by decide +kernel
theorem dL_law_463 : decode cL_law 463 = .ok (.iload_n 3, 1) := by decide +kernel
theorem dL_law_464 : decode cL_law 464 = .ok (.iconst 1, 1) := by decide +kernel
theorem dL_law_465 : decode cL_law 465 = .ok (.iadd, 1) := by decide +kernel
theorem dL_law_466 : decode cL_law 466 = .ok (.iaload, 1) := by decide +kernel
theorem dL_law_467 : decode cL_law 467 = .ok (.invokevirtual 54, 3) := by decide +kernel
theorem dL_law_470 : decode cL_law 470 = .ok (.if_icmp .eq 714, 3) := by decide +kernel
theorem dL_law_473 : decode cL_law 473 = .ok (.iconst 0, 1) := by decide +kernel
theorem dL_law_474 : decode cL_law 474 = .ok (.ireturn, 1) := by decide +kernel
theorem dL_law_475 : decode cL_law 475 = .ok (.aload_n 1, 1) := by decide +kernel
theorem dL_law_476 : decode cL_law 476 = .ok (.aload_n 0, 1) := by decide +kernel
theorem dL_law_477 : decode cL_law 477 = .ok (.iload_n 3, 1) := by decide +kernel
theorem dL_law_478 : decode cL_law 478 = .ok (.iconst 1, 1) := by decide +kernel
theorem dL_law_479 : decode cL_law 479 = .ok (.iadd, 1) := by decide +kernel
theorem dL_law_480 : decode cL_law 480 = .ok (.iaload, 1) := by decide +kernel
theorem dL_law_481 : decode cL_law 481 = .ok (.invokevirtual 55, 3) := by decide +kernel
theorem dL_law_484 : decode cL_law 484 = .ok (.aload_n 2, 1) := by decide +kernel
theorem dL_law_485 : decode cL_law 485 = .ok (.aload_n 0, 1) := by decide +kernel
theorem dL_law_486 : decode cL_law 486 = .ok (.iload_n 3, 1) := by decide +kernel
theorem dL_law_487 : decode cL_law 487 = .ok (.iconst 1, 1) := by decide +kernel
theorem dL_law_488 : decode cL_law 488 = .ok (.iadd, 1) := by decide +kernel
theorem dL_law_489 : decode cL_law 489 = .ok (.iaload, 1) := by decide +kernel
theorem dL_law_490 : decode cL_law 490 = .ok (.invokevirtual 58, 3) := by decide +kernel
theorem dL_law_493 : decode cL_law 493 = .ok (.if_icmp .eq 691, 3) := by decide +kernel
theorem dL_law_496 : decode cL_law 496 = .ok (.iconst 0, 1) := by decide +kernel
theorem dL_law_497 : decode cL_law 497 = .ok (.ireturn, 1) := by decide +kernel
theorem dL_law_498 : decode cL_law 498 = .ok (.aload_n 1, 1) := by decide +kernel
theorem dL_law_499 : decode cL_law 499 = .ok (.aload_n 0, 1) := by decide +kernel
theorem dL_law_500 : decode cL_law 500 = .ok (.iload_n 3, 1) := by decide +kernel
theorem dL_law_501 : decode cL_law 501 = .ok (.iconst 1, 1) := by decide +kernel
theorem dL_law_502 : decode cL_law 502 = .ok (.iadd, 1) := by decide +kernel
theorem dL_law_503 : decode cL_law 503 = .ok (.iaload, 1) := by decide +kernel
theorem dL_law_504 : decode cL_law 504 = .ok (.aload_n 0, 1) := by decide +kernel
theorem dL_law_505 : decode cL_law 505 = .ok (.iload_n 3, 1) := by decide +kernel
theorem dL_law_506 : decode cL_law 506 = .ok (.iconst 2, 1) := by decide +kernel
theorem dL_law_507 : decode cL_law 507 = .ok (.iadd, 1) := by decide +kernel
theorem dL_law_508 : decode cL_law 508 = .ok (.iaload, 1) := by decide +kernel
theorem dL_law_509 : decode cL_law 509 = .ok (.invokevirtual 59, 3) := by decide +kernel
theorem dL_law_512 : decode cL_law 512 = .ok (.aload_n 2, 1) := by decide +kernel
theorem dL_law_513 : decode cL_law 513 = .ok (.aload_n 0, 1) := by decide +kernel
theorem dL_law_514 : decode cL_law 514 = .ok (.iload_n 3, 1) := by decide +kernel
theorem dL_law_515 : decode cL_law 515 = .ok (.iconst 1, 1) := by decide +kernel
theorem dL_law_516 : decode cL_law 516 = .ok (.iadd, 1) := by decide +kernel
theorem dL_law_517 : decode cL_law 517 = .ok (.iaload, 1) := by decide +kernel
theorem dL_law_518 : decode cL_law 518 = .ok (.aload_n 0, 1) := by decide +kernel
theorem dL_law_519 : decode cL_law 519 = .ok (.iload_n 3, 1) := by decide +kernel
theorem dL_law_520 : decode cL_law 520 = .ok (.iconst 2, 1) := by decide +kernel
theorem dL_law_521 : decode cL_law 521 = .ok (.iadd, 1) := by decide +kernel
theorem dL_law_522 : decode cL_law 522 = .ok (.iaload, 1) := by decide +kernel
theorem dL_law_523 : decode cL_law 523 = .ok (.invokevirtual 62, 3) := by decide +kernel
theorem dL_law_526 : decode cL_law 526 = .ok (.if_icmp .eq 658, 3) := by decide +kernel
theorem dL_law_529 : decode cL_law 529 = .ok (.iconst 0, 1) := by decide +kernel
theorem dL_law_530 : decode cL_law 530 = .ok (.ireturn, 1) := by decide +kernel
theorem dL_law_531 : decode cL_law 531 = .ok (.aload_n 1, 1) := by decide +kernel
theorem dL_law_532 : decode cL_law 532 = .ok (.aload_n 0, 1) := by decide +kernel
theorem dL_law_533 : decode cL_law 533 = .ok (.iload_n 3, 1) := by decide +kernel
theorem dL_law_534 : decode cL_law 534 = .ok (.iconst 1, 1) := by decide +kernel
theorem dL_law_535 : decode cL_law 535 = .ok (.iadd, 1) := by decide +kernel
theorem dL_law_536 : decode cL_law 536 = .ok (.iaload, 1) := by decide +kernel
theorem dL_law_537 : decode cL_law 537 = .ok (.aload_n 0, 1) := by decide +kernel
theorem dL_law_538 : decode cL_law 538 = .ok (.iload_n 3, 1) := by decide +kernel
theorem dL_law_539 : decode cL_law 539 = .ok (.iconst 2, 1) := by decide +kernel
theorem dL_law_540 : decode cL_law 540 = .ok (.iadd, 1) := by decide +kernel
theorem dL_law_541 : decode cL_law 541 = .ok (.iaload, 1) := by decide +kernel
theorem dL_law_542 : decode cL_law 542 = .ok (.invokevirtual 63, 3) := by decide +kernel
theorem dL_law_545 : decode cL_law 545 = .ok (.aload_n 2, 1) := by decide +kernel
theorem dL_law_546 : decode cL_law 546 = .ok (.aload_n 0, 1) := by decide +kernel
theorem dL_law_547 : decode cL_law 547 = .ok (.iload_n 3, 1) := by decide +kernel
theorem dL_law_548 : decode cL_law 548 = .ok (.iconst 1, 1) := by decide +kernel
theorem dL_law_549 : decode cL_law 549 = .ok (.iadd, 1) := by decide +kernel
theorem dL_law_550 : decode cL_law 550 = .ok (.iaload, 1) := by decide +kernel
theorem dL_law_551 : decode cL_law 551 = .ok (.aload_n 0, 1) := by decide +kernel
theorem dL_law_552 : decode cL_law 552 = .ok (.iload_n 3, 1) := by decide +kernel
theorem dL_law_553 : decode cL_law 553 = .ok (.iconst 2, 1) := by decide +kernel
theorem dL_law_554 : decode cL_law 554 = .ok (.iadd, 1) := by decide +kernel
theorem dL_law_555 : decode cL_law 555 = .ok (.iaload, 1) := by decide +kernel
theorem dL_law_556 : decode cL_law 556 = .ok (.invokevirtual 66, 3) := by decide +kernel
theorem dL_law_559 : decode cL_law 559 = .ok (.if_icmp .eq 625, 3) := by decide +kernel
theorem dL_law_562 : decode cL_law 562 = .ok (.iconst 0, 1) := by decide +kernel
theorem dL_law_563 : decode cL_law 563 = .ok (.ireturn, 1) := by decide +kernel
theorem dL_law_564 : decode cL_law 564 = .ok (.aload_n 1, 1) := by decide +kernel
theorem dL_law_565 : decode cL_law 565 = .ok (.aload_n 0, 1) := by decide +kernel
theorem dL_law_566 : decode cL_law 566 = .ok (.iload_n 3, 1) := by decide +kernel
theorem dL_law_567 : decode cL_law 567 = .ok (.iconst 1, 1) := by decide +kernel
theorem dL_law_568 : decode cL_law 568 = .ok (.iadd, 1) := by decide +kernel
theorem dL_law_569 : decode cL_law 569 = .ok (.iaload, 1) := by decide +kernel
theorem dL_law_570 : decode cL_law 570 = .ok (.aload_n 0, 1) := by decide +kernel
theorem dL_law_571 : decode cL_law 571 = .ok (.iload_n 3, 1) := by decide +kernel
theorem dL_law_572 : decode cL_law 572 = .ok (.iconst 2, 1) := by decide +kernel
theorem dL_law_573 : decode cL_law 573 = .ok (.iadd, 1) := by decide +kernel
theorem dL_law_574 : decode cL_law 574 = .ok (.iaload, 1) := by decide +kernel
theorem dL_law_575 : decode cL_law 575 = .ok (.invokevirtual 67, 3) := by decide +kernel
theorem dL_law_578 : decode cL_law 578 = .ok (.aload_n 2, 1) := by decide +kernel
theorem dL_law_579 : decode cL_law 579 = .ok (.aload_n 0, 1) := by decide +kernel
theorem dL_law_580 : decode cL_law 580 = .ok (.iload_n 3, 1) := by decide +kernel
theorem dL_law_581 : decode cL_law 581 = .ok (.iconst 1, 1) := by decide +kernel
theorem dL_law_582 : decode cL_law 582 = .ok (.iadd, 1) := by decide +kernel
theorem dL_law_583 : decode cL_law 583 = .ok (.iaload, 1) := by decide +kernel
theorem dL_law_584 : decode cL_law 584 = .ok (.aload_n 0, 1) := by decide +kernel
theorem dL_law_585 : decode cL_law 585 = .ok (.iload_n 3, 1) := by decide +kernel
theorem dL_law_586 : decode cL_law 586 = .ok (.iconst 2, 1) := by decide +kernel
theorem dL_law_587 : decode cL_law 587 = .ok (.iadd, 1) := by decide +kernel
theorem dL_law_588 : decode cL_law 588 = .ok (.iaload, 1) := by decide +kernel
theorem dL_law_589 : decode cL_law 589 = .ok (.invokevirtual 70, 3) := by decide +kernel
theorem dL_law_592 : decode cL_law 592 = .ok (.if_icmp .eq 592, 3) := by decide +kernel
theorem dL_law_595 : decode cL_law 595 = .ok (.iconst 0, 1) := by decide +kernel
theorem dL_law_596 : decode cL_law 596 = .ok (.ireturn, 1) := by decide +kernel
theorem dL_law_597 : decode cL_law 597 = .ok (.aload_n 1, 1) := by decide +kernel
theorem dL_law_598 : decode cL_law 598 = .ok (.aload_n 0, 1) := by decide +kernel
theorem dL_law_599 : decode cL_law 599 = .ok (.iload_n 3, 1) := by decide +kernel
theorem dL_law_600 : decode cL_law 600 = .ok (.iconst 1, 1) := by decide +kernel
theorem dL_law_601 : decode cL_law 601 = .ok (.iadd, 1) := by decide +kernel
theorem dL_law_602 : decode cL_law 602 = .ok (.iaload, 1) := by decide +kernel
theorem dL_law_603 : decode cL_law 603 = .ok (.aload_n 0, 1) := by decide +kernel
theorem dL_law_604 : decode cL_law 604 = .ok (.iload_n 3, 1) := by decide +kernel
theorem dL_law_605 : decode cL_law 605 = .ok (.iconst 2, 1) := by decide +kernel
theorem dL_law_606 : decode cL_law 606 = .ok (.iadd, 1) := by decide +kernel
theorem dL_law_607 : decode cL_law 607 = .ok (.iaload, 1) := by decide +kernel
theorem dL_law_608 : decode cL_law 608 = .ok (.invokevirtual 71, 3) := by decide +kernel
theorem dL_law_611 : decode cL_law 611 = .ok (.aload_n 2, 1) := by decide +kernel
theorem dL_law_612 : decode cL_law 612 = .ok (.aload_n 0, 1) := by decide +kernel
theorem dL_law_613 : decode cL_law 613 = .ok (.iload_n 3, 1) := by decide +kernel
theorem dL_law_614 : decode cL_law 614 = .ok (.iconst 1, 1) := by decide +kernel
theorem dL_law_615 : decode cL_law 615 = .ok (.iadd, 1) := by decide +kernel
theorem dL_law_616 : decode cL_law 616 = .ok (.iaload, 1) := by decide +kernel
theorem dL_law_617 : decode cL_law 617 = .ok (.aload_n 0, 1) := by decide +kernel
theorem dL_law_618 : decode cL_law 618 = .ok (.iload_n 3, 1) := by decide +kernel
theorem dL_law_619 : decode cL_law 619 = .ok (.iconst 2, 1) := by decide +kernel
theorem dL_law_620 : decode cL_law 620 = .ok (.iadd, 1) := by decide +kernel
theorem dL_law_621 : decode cL_law 621 = .ok (.iaload, 1) := by decide +kernel
theorem dL_law_622 : decode cL_law 622 = .ok (.invokevirtual 74, 3) := by decide +kernel
theorem dL_law_625 : decode cL_law 625 = .ok (.if_icmp .eq 559, 3) := by decide +kernel
theorem dL_law_628 : decode cL_law 628 = .ok (.iconst 0, 1) := by decide +kernel
theorem dL_law_629 : decode cL_law 629 = .ok (.ireturn, 1) := by decide +kernel
theorem dL_law_630 : decode cL_law 630 = .ok (.aload_n 1, 1) := by decide +kernel
theorem dL_law_631 : decode cL_law 631 = .ok (.aload_n 0, 1) := by decide +kernel
theorem dL_law_632 : decode cL_law 632 = .ok (.iload_n 3, 1) := by decide +kernel
theorem dL_law_633 : decode cL_law 633 = .ok (.iconst 1, 1) := by decide +kernel
theorem dL_law_634 : decode cL_law 634 = .ok (.iadd, 1) := by decide +kernel
theorem dL_law_635 : decode cL_law 635 = .ok (.iaload, 1) := by decide +kernel
theorem dL_law_636 : decode cL_law 636 = .ok (.aload_n 0, 1) := by decide +kernel
theorem dL_law_637 : decode cL_law 637 = .ok (.iload_n 3, 1) := by decide +kernel
theorem dL_law_638 : decode cL_law 638 = .ok (.iconst 2, 1) := by decide +kernel
theorem dL_law_639 : decode cL_law 639 = .ok (.iadd, 1) := by decide +kernel
theorem dL_law_640 : decode cL_law 640 = .ok (.iaload, 1) := by decide +kernel
theorem dL_law_641 : decode cL_law 641 = .ok (.invokevirtual 75, 3) := by decide +kernel
theorem dL_law_644 : decode cL_law 644 = .ok (.aload_n 2, 1) := by decide +kernel
theorem dL_law_645 : decode cL_law 645 = .ok (.aload_n 0, 1) := by decide +kernel
theorem dL_law_646 : decode cL_law 646 = .ok (.iload_n 3, 1) := by decide +kernel
theorem dL_law_647 : decode cL_law 647 = .ok (.iconst 1, 1) := by decide +kernel
theorem dL_law_648 : decode cL_law 648 = .ok (.iadd, 1) := by decide +kernel
theorem dL_law_649 : decode cL_law 649 = .ok (.iaload, 1) := by decide +kernel
theorem dL_law_650 : decode cL_law 650 = .ok (.aload_n 0, 1) := by decide +kernel
theorem dL_law_651 : decode cL_law 651 = .ok (.iload_n 3, 1) := by decide +kernel
theorem dL_law_652 : decode cL_law 652 = .ok (.iconst 2, 1) := by decide +kernel
theorem dL_law_653 : decode cL_law 653 = .ok (.iadd, 1) := by decide +kernel
theorem dL_law_654 : decode cL_law 654 = .ok (.iaload, 1) := by decide +kernel
theorem dL_law_655 : decode cL_law 655 = .ok (.invokevirtual 79, 3) := by decide +kernel
theorem dL_law_658 : decode cL_law 658 = .ok (.lcmp, 1) := by decide +kernel
theorem dL_law_659 : decode cL_law 659 = .ok (.ifCond .eq 525, 3) := by decide +kernel
theorem dL_law_662 : decode cL_law 662 = .ok (.iconst 0, 1) := by decide +kernel
theorem dL_law_663 : decode cL_law 663 = .ok (.ireturn, 1) := by decide +kernel
theorem dL_law_664 : decode cL_law 664 = .ok (.aload_n 1, 1) := by decide +kernel
theorem dL_law_665 : decode cL_law 665 = .ok (.aload_n 0, 1) := by decide +kernel
theorem dL_law_666 : decode cL_law 666 = .ok (.iload_n 3, 1) := by decide +kernel
theorem dL_law_667 : decode cL_law 667 = .ok (.iconst 1, 1) := by decide +kernel
theorem dL_law_668 : decode cL_law 668 = .ok (.iadd, 1) := by decide +kernel
theorem dL_law_669 : decode cL_law 669 = .ok (.iaload, 1) := by decide +kernel
theorem dL_law_670 : decode cL_law 670 = .ok (.invokevirtual 80, 3) := by decide +kernel
theorem dL_law_673 : decode cL_law 673 = .ok (.aload_n 2, 1) := by decide +kernel
theorem dL_law_674 : decode cL_law 674 = .ok (.aload_n 0, 1) := by decide +kernel
theorem dL_law_675 : decode cL_law 675 = .ok (.iload_n 3, 1) := by decide +kernel
theorem dL_law_676 : decode cL_law 676 = .ok (.iconst 1, 1) := by decide +kernel
theorem dL_law_677 : decode cL_law 677 = .ok (.iadd, 1) := by decide +kernel
theorem dL_law_678 : decode cL_law 678 = .ok (.iaload, 1) := by decide +kernel
theorem dL_law_679 : decode cL_law 679 = .ok (.invokevirtual 84, 3) := by decide +kernel
theorem dL_law_682 : decode cL_law 682 = .ok (.lcmp, 1) := by decide +kernel
theorem dL_law_683 : decode cL_law 683 = .ok (.ifCond .eq 501, 3) := by decide +kernel
theorem dL_law_686 : decode cL_law 686 = .ok (.iconst 0, 1) := by decide +kernel
theorem dL_law_687 : decode cL_law 687 = .ok (.ireturn, 1) := by decide +kernel
theorem dL_law_688 : decode cL_law 688 = .ok (.aload_n 1, 1) := by decide +kernel
theorem dL_law_689 : decode cL_law 689 = .ok (.aload_n 0, 1) := by decide +kernel
theorem dL_law_690 : decode cL_law 690 = .ok (.iload_n 3, 1) := by decide +kernel
theorem dL_law_691 : decode cL_law 691 = .ok (.iconst 1, 1) := by decide +kernel
theorem dL_law_692 : decode cL_law 692 = .ok (.iadd, 1) := by decide +kernel
theorem dL_law_693 : decode cL_law 693 = .ok (.iaload, 1) := by decide +kernel
theorem dL_law_694 : decode cL_law 694 = .ok (.aload_n 0, 1) := by decide +kernel
theorem dL_law_695 : decode cL_law 695 = .ok (.iload_n 3, 1) := by decide +kernel
theorem dL_law_696 : decode cL_law 696 = .ok (.iconst 2, 1) := by decide +kernel
theorem dL_law_697 : decode cL_law 697 = .ok (.iadd, 1) := by decide +kernel
theorem dL_law_698 : decode cL_law 698 = .ok (.iaload, 1) := by decide +kernel
theorem dL_law_699 : decode cL_law 699 = .ok (.invokevirtual 85, 3) := by decide +kernel
theorem dL_law_702 : decode cL_law 702 = .ok (.aload_n 2, 1) := by decide +kernel
theorem dL_law_703 : decode cL_law 703 = .ok (.aload_n 0, 1) := by decide +kernel
theorem dL_law_704 : decode cL_law 704 = .ok (.iload_n 3, 1) := by decide +kernel
theorem dL_law_705 : decode cL_law 705 = .ok (.iconst 1, 1) := by decide +kernel
theorem dL_law_706 : decode cL_law 706 = .ok (.iadd, 1) := by decide +kernel
theorem dL_law_707 : decode cL_law 707 = .ok (.iaload, 1) := by decide +kernel
theorem dL_law_708 : decode cL_law 708 = .ok (.aload_n 0, 1) := by decide +kernel
theorem dL_law_709 : decode cL_law 709 = .ok (.iload_n 3, 1) := by decide +kernel
theorem dL_law_710 : decode cL_law 710 = .ok (.iconst 2, 1) := by decide +kernel
theorem dL_law_711 : decode cL_law 711 = .ok (.iadd, 1) := by decide +kernel
theorem dL_law_712 : decode cL_law 712 = .ok (.iaload, 1) := by decide +kernel
theorem dL_law_713 : decode cL_law 713 = .ok (.invokevirtual 88, 3) := by decide +kernel
theorem dL_law_716 : decode cL_law 716 = .ok (.if_icmp .eq 468, 3) := by decide +kernel
theorem dL_law_719 : decode cL_law 719 = .ok (.iconst 0, 1) := by decide +kernel
theorem dL_law_720 : decode cL_law 720 = .ok (.ireturn, 1) := by decide +kernel
theorem dL_law_721 : decode cL_law 721 = .ok (.aload_n 1, 1) := by decide +kernel
theorem dL_law_722 : decode cL_law 722 = .ok (.aload_n 0, 1) := by decide +kernel
theorem dL_law_723 : decode cL_law 723 = .ok (.iload_n 3, 1) := by decide +kernel
theorem dL_law_724 : decode cL_law 724 = .ok (.iconst 1, 1) := by decide +kernel
theorem dL_law_725 : decode cL_law 725 = .ok (.iadd, 1) := by decide +kernel
theorem dL_law_726 : decode cL_law 726 = .ok (.iaload, 1) := by decide +kernel
theorem dL_law_727 : decode cL_law 727 = .ok (.invokevirtual 89, 3) := by decide +kernel
theorem dL_law_730 : decode cL_law 730 = .ok (.aload_n 2, 1) := by decide +kernel
theorem dL_law_731 : decode cL_law 731 = .ok (.aload_n 0, 1) := by decide +kernel
theorem dL_law_732 : decode cL_law 732 = .ok (.iload_n 3, 1) := by decide +kernel
theorem dL_law_733 : decode cL_law 733 = .ok (.iconst 1, 1) := by decide +kernel
theorem dL_law_734 : decode cL_law 734 = .ok (.iadd, 1) := by decide +kernel
theorem dL_law_735 : decode cL_law 735 = .ok (.iaload, 1) := by decide +kernel
theorem dL_law_736 : decode cL_law 736 = .ok (.invokevirtual 92, 3) := by decide +kernel
theorem dL_law_739 : decode cL_law 739 = .ok (.if_icmp .eq 445, 3) := by decide +kernel
theorem dL_law_742 : decode cL_law 742 = .ok (.iconst 0, 1) := by decide +kernel
theorem dL_law_743 : decode cL_law 743 = .ok (.ireturn, 1) := by decide +kernel
theorem dL_law_744 : decode cL_law 744 = .ok (.aload_n 1, 1) := by decide +kernel
theorem dL_law_745 : decode cL_law 745 = .ok (.aload_n 0, 1) := by decide +kernel
theorem dL_law_746 : decode cL_law 746 = .ok (.iload_n 3, 1) := by decide +kernel
theorem dL_law_747 : decode cL_law 747 = .ok (.iconst 1, 1) := by decide +kernel
theorem dL_law_748 : decode cL_law 748 = .ok (.iadd, 1) := by decide +kernel
theorem dL_law_749 : decode cL_law 749 = .ok (.iaload, 1) := by decide +kernel
theorem dL_law_750 : decode cL_law 750 = .ok (.aload_n 0, 1) := by decide +kernel
theorem dL_law_751 : decode cL_law 751 = .ok (.iload_n 3, 1) := by decide +kernel
theorem dL_law_752 : decode cL_law 752 = .ok (.iconst 2, 1) := by decide +kernel
theorem dL_law_753 : decode cL_law 753 = .ok (.iadd, 1) := by decide +kernel
theorem dL_law_754 : decode cL_law 754 = .ok (.iaload, 1) := by decide +kernel
theorem dL_law_755 : decode cL_law 755 = .ok (.invokevirtual 93, 3) := by decide +kernel
theorem dL_law_758 : decode cL_law 758 = .ok (.aload_n 2, 1) := by decide +kernel
theorem dL_law_759 : decode cL_law 759 = .ok (.aload_n 0, 1) := by decide +kernel
theorem dL_law_760 : decode cL_law 760 = .ok (.iload_n 3, 1) := by decide +kernel
theorem dL_law_761 : decode cL_law 761 = .ok (.iconst 1, 1) := by decide +kernel
theorem dL_law_762 : decode cL_law 762 = .ok (.iadd, 1) := by decide +kernel
theorem dL_law_763 : decode cL_law 763 = .ok (.iaload, 1) := by decide +kernel
theorem dL_law_764 : decode cL_law 764 = .ok (.aload_n 0, 1) := by decide +kernel
theorem dL_law_765 : decode cL_law 765 = .ok (.iload_n 3, 1) := by decide +kernel
theorem dL_law_766 : decode cL_law 766 = .ok (.iconst 2, 1) := by decide +kernel
theorem dL_law_767 : decode cL_law 767 = .ok (.iadd, 1) := by decide +kernel
theorem dL_law_768 : decode cL_law 768 = .ok (.iaload, 1) := by decide +kernel
theorem dL_law_769 : decode cL_law 769 = .ok (.invokevirtual 96, 3) := by decide +kernel
theorem dL_law_772 : decode cL_law 772 = .ok (.if_icmp .eq 412, 3) := by decide +kernel
theorem dL_law_775 : decode cL_law 775 = .ok (.iconst 0, 1) := by decide +kernel
theorem dL_law_776 : decode cL_law 776 = .ok (.ireturn, 1) := by decide +kernel
theorem dL_law_777 : decode cL_law 777 = .ok (.aload_n 1, 1) := by decide +kernel
theorem dL_law_778 : decode cL_law 778 = .ok (.invokevirtual 97, 3) := by decide +kernel
theorem dL_law_781 : decode cL_law 781 = .ok (.aload_n 2, 1) := by decide +kernel
theorem dL_law_782 : decode cL_law 782 = .ok (.invokevirtual 100, 3) := by decide +kernel
theorem dL_law_785 : decode cL_law 785 = .ok (.if_icmp .eq 399, 3) := by decide +kernel
theorem dL_law_788 : decode cL_law 788 = .ok (.iconst 0, 1) := by decide +kernel
theorem dL_law_789 : decode cL_law 789 = .ok (.ireturn, 1) := by decide +kernel
theorem dL_law_790 : decode cL_law 790 = .ok (.aload_n 1, 1) := by decide +kernel
theorem dL_law_791 : decode cL_law 791 = .ok (.aload_n 0, 1) := by decide +kernel
theorem dL_law_792 : decode cL_law 792 = .ok (.iload_n 3, 1) := by decide +kernel
theorem dL_law_793 : decode cL_law 793 = .ok (.iconst 1, 1) := by decide +kernel
theorem dL_law_794 : decode cL_law 794 = .ok (.iadd, 1) := by decide +kernel
theorem dL_law_795 : decode cL_law 795 = .ok (.iaload, 1) := by decide +kernel
theorem dL_law_796 : decode cL_law 796 = .ok (.aload_n 0, 1) := by decide +kernel
theorem dL_law_797 : decode cL_law 797 = .ok (.iload_n 3, 1) := by decide +kernel
theorem dL_law_798 : decode cL_law 798 = .ok (.iconst 2, 1) := by decide +kernel
theorem dL_law_799 : decode cL_law 799 = .ok (.iadd, 1) := by decide +kernel
theorem dL_law_800 : decode cL_law 800 = .ok (.iaload, 1) := by decide +kernel
theorem dL_law_801 : decode cL_law 801 = .ok (.invokevirtual 101, 3) := by decide +kernel
theorem dL_law_804 : decode cL_law 804 = .ok (.aload_n 2, 1) := by decide +kernel
theorem dL_law_805 : decode cL_law 805 = .ok (.aload_n 0, 1) := by decide +kernel
theorem dL_law_806 : decode cL_law 806 = .ok (.iload_n 3, 1) := by decide +kernel
theorem dL_law_807 : decode cL_law 807 = .ok (.iconst 1, 1) := by decide +kernel
theorem dL_law_808 : decode cL_law 808 = .ok (.iadd, 1) := by decide +kernel
theorem dL_law_809 : decode cL_law 809 = .ok (.iaload, 1) := by decide +kernel
theorem dL_law_810 : decode cL_law 810 = .ok (.aload_n 0, 1) := by decide +kernel
theorem dL_law_811 : decode cL_law 811 = .ok (.iload_n 3, 1) := by decide +kernel
theorem dL_law_812 : decode cL_law 812 = .ok (.iconst 2, 1) := by decide +kernel
theorem dL_law_813 : decode cL_law 813 = .ok (.iadd, 1) := by decide +kernel
theorem dL_law_814 : decode cL_law 814 = .ok (.iaload, 1) := by decide +kernel
theorem dL_law_815 : decode cL_law 815 = .ok (.invokevirtual 104, 3) := by decide +kernel
theorem dL_law_818 : decode cL_law 818 = .ok (.if_icmp .eq 366, 3) := by decide +kernel
theorem dL_law_821 : decode cL_law 821 = .ok (.iconst 0, 1) := by decide +kernel
theorem dL_law_822 : decode cL_law 822 = .ok (.ireturn, 1) := by decide +kernel
theorem dL_law_823 : decode cL_law 823 = .ok (.aload_n 1, 1) := by decide +kernel
theorem dL_law_824 : decode cL_law 824 = .ok (.invokevirtual 105, 3) := by decide +kernel
theorem dL_law_827 : decode cL_law 827 = .ok (.aload_n 2, 1) := by decide +kernel
theorem dL_law_828 : decode cL_law 828 = .ok (.invokevirtual 108, 3) := by decide +kernel
theorem dL_law_831 : decode cL_law 831 = .ok (.if_icmp .eq 353, 3) := by decide +kernel
theorem dL_law_834 : decode cL_law 834 = .ok (.iconst 0, 1) := by decide +kernel
theorem dL_law_835 : decode cL_law 835 = .ok (.ireturn, 1) := by decide +kernel
theorem dL_law_836 : decode cL_law 836 = .ok (.aload_n 1, 1) := by decide +kernel
theorem dL_law_837 : decode cL_law 837 = .ok (.invokevirtual 109, 3) := by decide +kernel
theorem dL_law_840 : decode cL_law 840 = .ok (.aload_n 2, 1) := by decide +kernel
theorem dL_law_841 : decode cL_law 841 = .ok (.invokevirtual 112, 3) := by decide +kernel
theorem dL_law_844 : decode cL_law 844 = .ok (.if_icmp .eq 340, 3) := by decide +kernel
theorem dL_law_847 : decode cL_law 847 = .ok (.iconst 0, 1) := by decide +kernel
theorem dL_law_848 : decode cL_law 848 = .ok (.ireturn, 1) := by decide +kernel
theorem dL_law_849 : decode cL_law 849 = .ok (.aload_n 1, 1) := by decide +kernel
theorem dL_law_850 : decode cL_law 850 = .ok (.aload_n 0, 1) := by decide +kernel
theorem dL_law_851 : decode cL_law 851 = .ok (.iload_n 3, 1) := by decide +kernel
theorem dL_law_852 : decode cL_law 852 = .ok (.iconst 1, 1) := by decide +kernel
theorem dL_law_853 : decode cL_law 853 = .ok (.iadd, 1) := by decide +kernel
theorem dL_law_854 : decode cL_law 854 = .ok (.iaload, 1) := by decide +kernel
theorem dL_law_855 : decode cL_law 855 = .ok (.aload_n 0, 1) := by decide +kernel
theorem dL_law_856 : decode cL_law 856 = .ok (.iload_n 3, 1) := by decide +kernel
theorem dL_law_857 : decode cL_law 857 = .ok (.iconst 2, 1) := by decide +kernel
theorem dL_law_858 : decode cL_law 858 = .ok (.iadd, 1) := by decide +kernel
theorem dL_law_859 : decode cL_law 859 = .ok (.iaload, 1) := by decide +kernel
theorem dL_law_860 : decode cL_law 860 = .ok (.aload_n 0, 1) := by decide +kernel
theorem dL_law_861 : decode cL_law 861 = .ok (.iload_n 3, 1) := by decide +kernel
theorem dL_law_862 : decode cL_law 862 = .ok (.iconst 3, 1) := by decide +kernel
theorem dL_law_863 : decode cL_law 863 = .ok (.iadd, 1) := by decide +kernel
theorem dL_law_864 : decode cL_law 864 = .ok (.iaload, 1) := by decide +kernel
theorem dL_law_865 : decode cL_law 865 = .ok (.invokevirtual 113, 3) := by decide +kernel
theorem dL_law_868 : decode cL_law 868 = .ok (.aload_n 2, 1) := by decide +kernel
theorem dL_law_869 : decode cL_law 869 = .ok (.aload_n 0, 1) := by decide +kernel
theorem dL_law_870 : decode cL_law 870 = .ok (.iload_n 3, 1) := by decide +kernel
theorem dL_law_871 : decode cL_law 871 = .ok (.iconst 1, 1) := by decide +kernel
theorem dL_law_872 : decode cL_law 872 = .ok (.iadd, 1) := by decide +kernel
theorem dL_law_873 : decode cL_law 873 = .ok (.iaload, 1) := by decide +kernel
theorem dL_law_874 : decode cL_law 874 = .ok (.aload_n 0, 1) := by decide +kernel
theorem dL_law_875 : decode cL_law 875 = .ok (.iload_n 3, 1) := by decide +kernel
theorem dL_law_876 : decode cL_law 876 = .ok (.iconst 2, 1) := by decide +kernel
theorem dL_law_877 : decode cL_law 877 = .ok (.iadd, 1) := by decide +kernel
theorem dL_law_878 : decode cL_law 878 = .ok (.iaload, 1) := by decide +kernel
theorem dL_law_879 : decode cL_law 879 = .ok (.aload_n 0, 1) := by decide +kernel
theorem dL_law_880 : decode cL_law 880 = .ok (.iload_n 3, 1) := by decide +kernel
theorem dL_law_881 : decode cL_law 881 = .ok (.iconst 3, 1) := by decide +kernel
theorem dL_law_882 : decode cL_law 882 = .ok (.iadd, 1) := by decide +kernel
theorem dL_law_883 : decode cL_law 883 = .ok (.iaload, 1) := by decide +kernel
theorem dL_law_884 : decode cL_law 884 = .ok (.invokevirtual 116, 3) := by decide +kernel
theorem dL_law_887 : decode cL_law 887 = .ok (.if_icmp .eq 297, 3) := by decide +kernel
theorem dL_law_890 : decode cL_law 890 = .ok (.iconst 0, 1) := by decide +kernel
theorem dL_law_891 : decode cL_law 891 = .ok (.ireturn, 1) := by decide +kernel
theorem dL_law_892 : decode cL_law 892 = .ok (.aload_n 1, 1) := by decide +kernel
theorem dL_law_893 : decode cL_law 893 = .ok (.aload_n 0, 1) := by decide +kernel
theorem dL_law_894 : decode cL_law 894 = .ok (.iload_n 3, 1) := by decide +kernel
theorem dL_law_895 : decode cL_law 895 = .ok (.iconst 1, 1) := by decide +kernel
theorem dL_law_896 : decode cL_law 896 = .ok (.iadd, 1) := by decide +kernel
theorem dL_law_897 : decode cL_law 897 = .ok (.iaload, 1) := by decide +kernel
theorem dL_law_898 : decode cL_law 898 = .ok (.invokevirtual 117, 3) := by decide +kernel
theorem dL_law_901 : decode cL_law 901 = .ok (.aload_n 2, 1) := by decide +kernel
theorem dL_law_902 : decode cL_law 902 = .ok (.aload_n 0, 1) := by decide +kernel
theorem dL_law_903 : decode cL_law 903 = .ok (.iload_n 3, 1) := by decide +kernel
theorem dL_law_904 : decode cL_law 904 = .ok (.iconst 1, 1) := by decide +kernel
theorem dL_law_905 : decode cL_law 905 = .ok (.iadd, 1) := by decide +kernel
theorem dL_law_906 : decode cL_law 906 = .ok (.iaload, 1) := by decide +kernel
theorem dL_law_907 : decode cL_law 907 = .ok (.invokevirtual 120, 3) := by decide +kernel
theorem dL_law_910 : decode cL_law 910 = .ok (.if_icmp .eq 274, 3) := by decide +kernel
theorem dL_law_913 : decode cL_law 913 = .ok (.iconst 0, 1) := by decide +kernel
theorem dL_law_914 : decode cL_law 914 = .ok (.ireturn, 1) := by decide +kernel
theorem dL_law_915 : decode cL_law 915 = .ok (.aload_n 1, 1) := by decide +kernel
theorem dL_law_916 : decode cL_law 916 = .ok (.aload_n 0, 1) := by decide +kernel
theorem dL_law_917 : decode cL_law 917 = .ok (.iload_n 3, 1) := by decide +kernel
theorem dL_law_918 : decode cL_law 918 = .ok (.iconst 1, 1) := by decide +kernel
theorem dL_law_919 : decode cL_law 919 = .ok (.iadd, 1) := by decide +kernel
theorem dL_law_920 : decode cL_law 920 = .ok (.iaload, 1) := by decide +kernel
theorem dL_law_921 : decode cL_law 921 = .ok (.aload_n 0, 1) := by decide +kernel
theorem dL_law_922 : decode cL_law 922 = .ok (.iload_n 3, 1) := by decide +kernel
theorem dL_law_923 : decode cL_law 923 = .ok (.iconst 2, 1) := by decide +kernel
theorem dL_law_924 : decode cL_law 924 = .ok (.iadd, 1) := by decide +kernel
theorem dL_law_925 : decode cL_law 925 = .ok (.iaload, 1) := by decide +kernel
theorem dL_law_926 : decode cL_law 926 = .ok (.invokevirtual 121, 3) := by decide +kernel
theorem dL_law_929 : decode cL_law 929 = .ok (.aload_n 2, 1) := by decide +kernel
theorem dL_law_930 : decode cL_law 930 = .ok (.aload_n 0, 1) := by decide +kernel
theorem dL_law_931 : decode cL_law 931 = .ok (.iload_n 3, 1) := by decide +kernel
theorem dL_law_932 : decode cL_law 932 = .ok (.iconst 1, 1) := by decide +kernel
theorem dL_law_933 : decode cL_law 933 = .ok (.iadd, 1) := by decide +kernel
theorem dL_law_934 : decode cL_law 934 = .ok (.iaload, 1) := by decide +kernel
theorem dL_law_935 : decode cL_law 935 = .ok (.aload_n 0, 1) := by decide +kernel
theorem dL_law_936 : decode cL_law 936 = .ok (.iload_n 3, 1) := by decide +kernel
theorem dL_law_937 : decode cL_law 937 = .ok (.iconst 2, 1) := by decide +kernel
theorem dL_law_938 : decode cL_law 938 = .ok (.iadd, 1) := by decide +kernel
theorem dL_law_939 : decode cL_law 939 = .ok (.iaload, 1) := by decide +kernel
theorem dL_law_940 : decode cL_law 940 = .ok (.invokevirtual 124, 3) := by decide +kernel
theorem dL_law_943 : decode cL_law 943 = .ok (.if_icmp .eq 241, 3) := by decide +kernel
theorem dL_law_946 : decode cL_law 946 = .ok (.iconst 0, 1) := by decide +kernel
theorem dL_law_947 : decode cL_law 947 = .ok (.ireturn, 1) := by decide +kernel
theorem dL_law_948 : decode cL_law 948 = .ok (.aload_n 1, 1) := by decide +kernel
theorem dL_law_949 : decode cL_law 949 = .ok (.aload_n 0, 1) := by decide +kernel
theorem dL_law_950 : decode cL_law 950 = .ok (.iload_n 3, 1) := by decide +kernel
theorem dL_law_951 : decode cL_law 951 = .ok (.iconst 1, 1) := by decide +kernel
theorem dL_law_952 : decode cL_law 952 = .ok (.iadd, 1) := by decide +kernel
theorem dL_law_953 : decode cL_law 953 = .ok (.iaload, 1) := by decide +kernel
theorem dL_law_954 : decode cL_law 954 = .ok (.invokevirtual 125, 3) := by decide +kernel
theorem dL_law_957 : decode cL_law 957 = .ok (.aload_n 2, 1) := by decide +kernel
theorem dL_law_958 : decode cL_law 958 = .ok (.aload_n 0, 1) := by decide +kernel
theorem dL_law_959 : decode cL_law 959 = .ok (.iload_n 3, 1) := by decide +kernel
theorem dL_law_960 : decode cL_law 960 = .ok (.iconst 1, 1) := by decide +kernel
theorem dL_law_961 : decode cL_law 961 = .ok (.iadd, 1) := by decide +kernel
theorem dL_law_962 : decode cL_law 962 = .ok (.iaload, 1) := by decide +kernel
theorem dL_law_963 : decode cL_law 963 = .ok (.invokevirtual 128, 3) := by decide +kernel
theorem dL_law_966 : decode cL_law 966 = .ok (.if_icmp .eq 218, 3) := by decide +kernel
theorem dL_law_969 : decode cL_law 969 = .ok (.iconst 0, 1) := by decide +kernel
theorem dL_law_970 : decode cL_law 970 = .ok (.ireturn, 1) := by decide +kernel
theorem dL_law_971 : decode cL_law 971 = .ok (.aload_n 1, 1) := by decide +kernel
theorem dL_law_972 : decode cL_law 972 = .ok (.aload_n 0, 1) := by decide +kernel
theorem dL_law_973 : decode cL_law 973 = .ok (.iload_n 3, 1) := by decide +kernel
theorem dL_law_974 : decode cL_law 974 = .ok (.iconst 1, 1) := by decide +kernel
theorem dL_law_975 : decode cL_law 975 = .ok (.iadd, 1) := by decide +kernel
theorem dL_law_976 : decode cL_law 976 = .ok (.iaload, 1) := by decide +kernel
theorem dL_law_977 : decode cL_law 977 = .ok (.aload_n 0, 1) := by decide +kernel
theorem dL_law_978 : decode cL_law 978 = .ok (.iload_n 3, 1) := by decide +kernel
theorem dL_law_979 : decode cL_law 979 = .ok (.iconst 2, 1) := by decide +kernel
theorem dL_law_980 : decode cL_law 980 = .ok (.iadd, 1) := by decide +kernel
theorem dL_law_981 : decode cL_law 981 = .ok (.iaload, 1) := by decide +kernel
theorem dL_law_982 : decode cL_law 982 = .ok (.aload_n 0, 1) := by decide +kernel
theorem dL_law_983 : decode cL_law 983 = .ok (.iload_n 3, 1) := by decide +kernel
theorem dL_law_984 : decode cL_law 984 = .ok (.iconst 3, 1) := by decide +kernel
theorem dL_law_985 : decode cL_law 985 = .ok (.iadd, 1) := by decide +kernel
theorem dL_law_986 : decode cL_law 986 = .ok (.iaload, 1) := by decide +kernel
theorem dL_law_987 : decode cL_law 987 = .ok (.invokevirtual 129, 3) := by decide +kernel
theorem dL_law_990 : decode cL_law 990 = .ok (.aload_n 2, 1) := by decide +kernel
theorem dL_law_991 : decode cL_law 991 = .ok (.aload_n 0, 1) := by decide +kernel
theorem dL_law_992 : decode cL_law 992 = .ok (.iload_n 3, 1) := by decide +kernel
theorem dL_law_993 : decode cL_law 993 = .ok (.iconst 1, 1) := by decide +kernel
theorem dL_law_994 : decode cL_law 994 = .ok (.iadd, 1) := by decide +kernel
theorem dL_law_995 : decode cL_law 995 = .ok (.iaload, 1) := by decide +kernel
theorem dL_law_996 : decode cL_law 996 = .ok (.aload_n 0, 1) := by decide +kernel
theorem dL_law_997 : decode cL_law 997 = .ok (.iload_n 3, 1) := by decide +kernel
theorem dL_law_998 : decode cL_law 998 = .ok (.iconst 2, 1) := by decide +kernel
theorem dL_law_999 : decode cL_law 999 = .ok (.iadd, 1) := by decide +kernel
theorem dL_law_1000 : decode cL_law 1000 = .ok (.iaload, 1) := by decide +kernel
theorem dL_law_1001 : decode cL_law 1001 = .ok (.aload_n 0, 1) := by decide +kernel
theorem dL_law_1002 : decode cL_law 1002 = .ok (.iload_n 3, 1) := by decide +kernel
theorem dL_law_1003 : decode cL_law 1003 = .ok (.iconst 3, 1) := by decide +kernel
theorem dL_law_1004 : decode cL_law 1004 = .ok (.iadd, 1) := by decide +kernel
theorem dL_law_1005 : decode cL_law 1005 = .ok (.iaload, 1) := by decide +kernel
theorem dL_law_1006 : decode cL_law 1006 = .ok (.invokevirtual 132, 3) := by decide +kernel
theorem dL_law_1009 : decode cL_law 1009 = .ok (.if_icmp .eq 175, 3) := by decide +kernel
theorem dL_law_1012 : decode cL_law 1012 = .ok (.iconst 0, 1) := by decide +kernel
theorem dL_law_1013 : decode cL_law 1013 = .ok (.ireturn, 1) := by decide +kernel
theorem dL_law_1014 : decode cL_law 1014 = .ok (.aload_n 1, 1) := by decide +kernel
theorem dL_law_1015 : decode cL_law 1015 = .ok (.aload_n 0, 1) := by decide +kernel
theorem dL_law_1016 : decode cL_law 1016 = .ok (.iload_n 3, 1) := by decide +kernel
theorem dL_law_1017 : decode cL_law 1017 = .ok (.iconst 1, 1) := by decide +kernel
theorem dL_law_1018 : decode cL_law 1018 = .ok (.iadd, 1) := by decide +kernel
theorem dL_law_1019 : decode cL_law 1019 = .ok (.iaload, 1) := by decide +kernel
theorem dL_law_1020 : decode cL_law 1020 = .ok (.aload_n 0, 1) := by decide +kernel
theorem dL_law_1021 : decode cL_law 1021 = .ok (.iload_n 3, 1) := by decide +kernel
theorem dL_law_1022 : decode cL_law 1022 = .ok (.iconst 2, 1) := by decide +kernel
theorem dL_law_1023 : decode cL_law 1023 = .ok (.iadd, 1) := by decide +kernel
theorem dL_law_1024 : decode cL_law 1024 = .ok (.iaload, 1) := by decide +kernel
theorem dL_law_1025 : decode cL_law 1025 = .ok (.aload_n 0, 1) := by decide +kernel
theorem dL_law_1026 : decode cL_law 1026 = .ok (.iload_n 3, 1) := by decide +kernel
theorem dL_law_1027 : decode cL_law 1027 = .ok (.iconst 3, 1) := by decide +kernel
theorem dL_law_1028 : decode cL_law 1028 = .ok (.iadd, 1) := by decide +kernel
theorem dL_law_1029 : decode cL_law 1029 = .ok (.iaload, 1) := by decide +kernel
theorem dL_law_1030 : decode cL_law 1030 = .ok (.i2l, 1) := by decide +kernel
theorem dL_law_1031 : decode cL_law 1031 = .ok (.bipush 32, 2) := by decide +kernel
theorem dL_law_1033 : decode cL_law 1033 = .ok (.lshl, 1) := by decide +kernel
theorem dL_law_1034 : decode cL_law 1034 = .ok (.aload_n 0, 1) := by decide +kernel
theorem dL_law_1035 : decode cL_law 1035 = .ok (.iload_n 3, 1) := by decide +kernel
theorem dL_law_1036 : decode cL_law 1036 = .ok (.iconst 4, 1) := by decide +kernel
theorem dL_law_1037 : decode cL_law 1037 = .ok (.iadd, 1) := by decide +kernel
theorem dL_law_1038 : decode cL_law 1038 = .ok (.iaload, 1) := by decide +kernel
theorem dL_law_1039 : decode cL_law 1039 = .ok (.i2l, 1) := by decide +kernel
theorem dL_law_1040 : decode cL_law 1040 = .ok (.ldc2_w 133, 3) := by decide +kernel
theorem dL_law_1043 : decode cL_law 1043 = .ok (.land, 1) := by decide +kernel
theorem dL_law_1044 : decode cL_law 1044 = .ok (.lor, 1) := by decide +kernel
theorem dL_law_1045 : decode cL_law 1045 = .ok (.invokevirtual 135, 3) := by decide +kernel
theorem dL_law_1048 : decode cL_law 1048 = .ok (.aload_n 2, 1) := by decide +kernel
theorem dL_law_1049 : decode cL_law 1049 = .ok (.aload_n 0, 1) := by decide +kernel
theorem dL_law_1050 : decode cL_law 1050 = .ok (.iload_n 3, 1) := by decide +kernel
theorem dL_law_1051 : decode cL_law 1051 = .ok (.iconst 1, 1) := by decide +kernel
theorem dL_law_1052 : decode cL_law 1052 = .ok (.iadd, 1) := by decide +kernel
theorem dL_law_1053 : decode cL_law 1053 = .ok (.iaload, 1) := by decide +kernel
theorem dL_law_1054 : decode cL_law 1054 = .ok (.aload_n 0, 1) := by decide +kernel
theorem dL_law_1055 : decode cL_law 1055 = .ok (.iload_n 3, 1) := by decide +kernel
theorem dL_law_1056 : decode cL_law 1056 = .ok (.iconst 2, 1) := by decide +kernel
theorem dL_law_1057 : decode cL_law 1057 = .ok (.iadd, 1) := by decide +kernel
theorem dL_law_1058 : decode cL_law 1058 = .ok (.iaload, 1) := by decide +kernel
theorem dL_law_1059 : decode cL_law 1059 = .ok (.aload_n 0, 1) := by decide +kernel
theorem dL_law_1060 : decode cL_law 1060 = .ok (.iload_n 3, 1) := by decide +kernel
theorem dL_law_1061 : decode cL_law 1061 = .ok (.iconst 3, 1) := by decide +kernel
theorem dL_law_1062 : decode cL_law 1062 = .ok (.iadd, 1) := by decide +kernel
theorem dL_law_1063 : decode cL_law 1063 = .ok (.iaload, 1) := by decide +kernel
theorem dL_law_1064 : decode cL_law 1064 = .ok (.i2l, 1) := by decide +kernel
theorem dL_law_1065 : decode cL_law 1065 = .ok (.bipush 32, 2) := by decide +kernel
theorem dL_law_1067 : decode cL_law 1067 = .ok (.lshl, 1) := by decide +kernel
theorem dL_law_1068 : decode cL_law 1068 = .ok (.aload_n 0, 1) := by decide +kernel
theorem dL_law_1069 : decode cL_law 1069 = .ok (.iload_n 3, 1) := by decide +kernel
theorem dL_law_1070 : decode cL_law 1070 = .ok (.iconst 4, 1) := by decide +kernel
theorem dL_law_1071 : decode cL_law 1071 = .ok (.iadd, 1) := by decide +kernel
theorem dL_law_1072 : decode cL_law 1072 = .ok (.iaload, 1) := by decide +kernel
theorem dL_law_1073 : decode cL_law 1073 = .ok (.i2l, 1) := by decide +kernel
theorem dL_law_1074 : decode cL_law 1074 = .ok (.ldc2_w 133, 3) := by decide +kernel
theorem dL_law_1077 : decode cL_law 1077 = .ok (.land, 1) := by decide +kernel
theorem dL_law_1078 : decode cL_law 1078 = .ok (.lor, 1) := by decide +kernel
theorem dL_law_1079 : decode cL_law 1079 = .ok (.invokevirtual 139, 3) := by decide +kernel
theorem dL_law_1082 : decode cL_law 1082 = .ok (.if_icmp .eq 102, 3) := by decide +kernel
theorem dL_law_1085 : decode cL_law 1085 = .ok (.iconst 0, 1) := by decide +kernel
theorem dL_law_1086 : decode cL_law 1086 = .ok (.ireturn, 1) := by decide +kernel
theorem dL_law_1087 : decode cL_law 1087 = .ok (.aload_n 1, 1) := by decide +kernel
theorem dL_law_1088 : decode cL_law 1088 = .ok (.aload_n 0, 1) := by decide +kernel
theorem dL_law_1089 : decode cL_law 1089 = .ok (.iload_n 3, 1) := by decide +kernel
theorem dL_law_1090 : decode cL_law 1090 = .ok (.iconst 1, 1) := by decide +kernel
theorem dL_law_1091 : decode cL_law 1091 = .ok (.iadd, 1) := by decide +kernel
theorem dL_law_1092 : decode cL_law 1092 = .ok (.iaload, 1) := by decide +kernel
theorem dL_law_1093 : decode cL_law 1093 = .ok (.aload_n 0, 1) := by decide +kernel
theorem dL_law_1094 : decode cL_law 1094 = .ok (.iload_n 3, 1) := by decide +kernel
theorem dL_law_1095 : decode cL_law 1095 = .ok (.iconst 2, 1) := by decide +kernel
theorem dL_law_1096 : decode cL_law 1096 = .ok (.iadd, 1) := by decide +kernel
theorem dL_law_1097 : decode cL_law 1097 = .ok (.iaload, 1) := by decide +kernel
theorem dL_law_1098 : decode cL_law 1098 = .ok (.invokevirtual 140, 3) := by decide +kernel
theorem dL_law_1101 : decode cL_law 1101 = .ok (.aload_n 2, 1) := by decide +kernel
theorem dL_law_1102 : decode cL_law 1102 = .ok (.aload_n 0, 1) := by decide +kernel
theorem dL_law_1103 : decode cL_law 1103 = .ok (.iload_n 3, 1) := by decide +kernel
theorem dL_law_1104 : decode cL_law 1104 = .ok (.iconst 1, 1) := by decide +kernel
theorem dL_law_1105 : decode cL_law 1105 = .ok (.iadd, 1) := by decide +kernel
theorem dL_law_1106 : decode cL_law 1106 = .ok (.iaload, 1) := by decide +kernel
theorem dL_law_1107 : decode cL_law 1107 = .ok (.aload_n 0, 1) := by decide +kernel
theorem dL_law_1108 : decode cL_law 1108 = .ok (.iload_n 3, 1) := by decide +kernel
theorem dL_law_1109 : decode cL_law 1109 = .ok (.iconst 2, 1) := by decide +kernel
theorem dL_law_1110 : decode cL_law 1110 = .ok (.iadd, 1) := by decide +kernel
theorem dL_law_1111 : decode cL_law 1111 = .ok (.iaload, 1) := by decide +kernel
theorem dL_law_1112 : decode cL_law 1112 = .ok (.invokevirtual 143, 3) := by decide +kernel
theorem dL_law_1115 : decode cL_law 1115 = .ok (.lcmp, 1) := by decide +kernel
theorem dL_law_1116 : decode cL_law 1116 = .ok (.ifCond .eq 68, 3) := by decide +kernel
theorem dL_law_1119 : decode cL_law 1119 = .ok (.iconst 0, 1) := by decide +kernel
theorem dL_law_1120 : decode cL_law 1120 = .ok (.ireturn, 1) := by decide +kernel
theorem dL_law_1121 : decode cL_law 1121 = .ok (.aload_n 1, 1) := by decide +kernel
theorem dL_law_1122 : decode cL_law 1122 = .ok (.aload_n 0, 1) := by decide +kernel
theorem dL_law_1123 : decode cL_law 1123 = .ok (.iload_n 3, 1) := by decide +kernel
theorem dL_law_1124 : decode cL_law 1124 = .ok (.iconst 1, 1) := by decide +kernel
theorem dL_law_1125 : decode cL_law 1125 = .ok (.iadd, 1) := by decide +kernel
theorem dL_law_1126 : decode cL_law 1126 = .ok (.iaload, 1) := by decide +kernel
theorem dL_law_1127 : decode cL_law 1127 = .ok (.aload_n 0, 1) := by decide +kernel
theorem dL_law_1128 : decode cL_law 1128 = .ok (.iload_n 3, 1) := by decide +kernel
theorem dL_law_1129 : decode cL_law 1129 = .ok (.iconst 2, 1) := by decide +kernel
theorem dL_law_1130 : decode cL_law 1130 = .ok (.iadd, 1) := by decide +kernel
theorem dL_law_1131 : decode cL_law 1131 = .ok (.iaload, 1) := by decide +kernel
theorem dL_law_1132 : decode cL_law 1132 = .ok (.aload_n 0, 1) := by decide +kernel
theorem dL_law_1133 : decode cL_law 1133 = .ok (.iload_n 3, 1) := by decide +kernel
theorem dL_law_1134 : decode cL_law 1134 = .ok (.iconst 3, 1) := by decide +kernel
theorem dL_law_1135 : decode cL_law 1135 = .ok (.iadd, 1) := by decide +kernel
theorem dL_law_1136 : decode cL_law 1136 = .ok (.iaload, 1) := by decide +kernel
theorem dL_law_1137 : decode cL_law 1137 = .ok (.aload_n 0, 1) := by decide +kernel
theorem dL_law_1138 : decode cL_law 1138 = .ok (.iload_n 3, 1) := by decide +kernel
theorem dL_law_1139 : decode cL_law 1139 = .ok (.iconst 4, 1) := by decide +kernel
theorem dL_law_1140 : decode cL_law 1140 = .ok (.iadd, 1) := by decide +kernel
theorem dL_law_1141 : decode cL_law 1141 = .ok (.iaload, 1) := by decide +kernel
theorem dL_law_1142 : decode cL_law 1142 = .ok (.aload_n 0, 1) := by decide +kernel
theorem dL_law_1143 : decode cL_law 1143 = .ok (.iload_n 3, 1) := by decide +kernel
theorem dL_law_1144 : decode cL_law 1144 = .ok (.iconst 5, 1) := by decide +kernel
theorem dL_law_1145 : decode cL_law 1145 = .ok (.iadd, 1) := by decide +kernel
theorem dL_law_1146 : decode cL_law 1146 = .ok (.iaload, 1) := by decide +kernel
theorem dL_law_1147 : decode cL_law 1147 = .ok (.invokevirtual 144, 3) := by decide +kernel
theorem dL_law_1150 : decode cL_law 1150 = .ok (.aload_n 2, 1) := by decide +kernel
theorem dL_law_1151 : decode cL_law 1151 = .ok (.aload_n 0, 1) := by decide +kernel
theorem dL_law_1152 : decode cL_law 1152 = .ok (.iload_n 3, 1) := by decide +kernel
theorem dL_law_1153 : decode cL_law 1153 = .ok (.iconst 1, 1) := by decide +kernel
theorem dL_law_1154 : decode cL_law 1154 = .ok (.iadd, 1) := by decide +kernel
theorem dL_law_1155 : decode cL_law 1155 = .ok (.iaload, 1) := by decide +kernel
theorem dL_law_1156 : decode cL_law 1156 = .ok (.aload_n 0, 1) := by decide +kernel
theorem dL_law_1157 : decode cL_law 1157 = .ok (.iload_n 3, 1) := by decide +kernel
theorem dL_law_1158 : decode cL_law 1158 = .ok (.iconst 2, 1) := by decide +kernel
theorem dL_law_1159 : decode cL_law 1159 = .ok (.iadd, 1) := by decide +kernel
theorem dL_law_1160 : decode cL_law 1160 = .ok (.iaload, 1) := by decide +kernel
theorem dL_law_1161 : decode cL_law 1161 = .ok (.aload_n 0, 1) := by decide +kernel
theorem dL_law_1162 : decode cL_law 1162 = .ok (.iload_n 3, 1) := by decide +kernel
theorem dL_law_1163 : decode cL_law 1163 = .ok (.iconst 3, 1) := by decide +kernel
theorem dL_law_1164 : decode cL_law 1164 = .ok (.iadd, 1) := by decide +kernel
theorem dL_law_1165 : decode cL_law 1165 = .ok (.iaload, 1) := by decide +kernel
theorem dL_law_1166 : decode cL_law 1166 = .ok (.aload_n 0, 1) := by decide +kernel
theorem dL_law_1167 : decode cL_law 1167 = .ok (.iload_n 3, 1) := by decide +kernel
theorem dL_law_1168 : decode cL_law 1168 = .ok (.iconst 4, 1) := by decide +kernel
theorem dL_law_1169 : decode cL_law 1169 = .ok (.iadd, 1) := by decide +kernel
theorem dL_law_1170 : decode cL_law 1170 = .ok (.iaload, 1) := by decide +kernel
theorem dL_law_1171 : decode cL_law 1171 = .ok (.aload_n 0, 1) := by decide +kernel
theorem dL_law_1172 : decode cL_law 1172 = .ok (.iload_n 3, 1) := by decide +kernel
theorem dL_law_1173 : decode cL_law 1173 = .ok (.iconst 5, 1) := by decide +kernel
theorem dL_law_1174 : decode cL_law 1174 = .ok (.iadd, 1) := by decide +kernel
theorem dL_law_1175 : decode cL_law 1175 = .ok (.iaload, 1) := by decide +kernel
theorem dL_law_1176 : decode cL_law 1176 = .ok (.invokevirtual 148, 3) := by decide +kernel
theorem dL_law_1179 : decode cL_law 1179 = .ok (.if_icmp .eq 5, 3) := by decide +kernel
theorem dL_law_1182 : decode cL_law 1182 = .ok (.iconst 0, 1) := by decide +kernel
theorem dL_law_1183 : decode cL_law 1183 = .ok (.ireturn, 1) := by decide +kernel
theorem dL_law_1184 : decode cL_law 1184 = .ok (.iinc 3 6, 3) := by decide +kernel
theorem dL_law_1187 : decode cL_law 1187 = .ok (.goto (-1169), 3) := by decide +kernel
theorem dL_law_1190 : decode cL_law 1190 = .ok (.iconst 1, 1) := by decide +kernel
theorem dL_law_1191 : decode cL_law 1191 = .ok (.ireturn, 1) := by decide +kernel

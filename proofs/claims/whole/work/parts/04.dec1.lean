theorem dX0_init_0 : decode cX0_init 0 = .ok (.aload_n 0, 1) := by decide +kernel
theorem dX0_init_1 : decode cX0_init 1 = .ok (.invokespecial 3, 3) := by decide +kernel
theorem dX0_init_4 : decode cX0_init 4 = .ok (.aload_n 0, 1) := by decide +kernel
theorem dX0_init_5 : decode cX0_init 5 = .ok (.bipush 7, 2) := by decide +kernel
theorem dX0_init_7 : decode cX0_init 7 = .ok (.bipush 8, 2) := by decide +kernel
theorem dX0_init_9 : decode cX0_init 9 = .ok (.multianewarray 9 2, 4) := by decide +kernel
theorem dX0_init_13 : decode cX0_init 13 = .ok (.putfield 11, 3) := by decide +kernel
theorem dX0_init_16 : decode cX0_init 16 = .ok (.aload_n 0, 1) := by decide +kernel
theorem dX0_init_17 : decode cX0_init 17 = .ok (.bipush 7, 2) := by decide +kernel
theorem dX0_init_19 : decode cX0_init 19 = .ok (.bipush 8, 2) := by decide +kernel
theorem dX0_init_21 : decode cX0_init 21 = .ok (.multianewarray 9 2, 4) := by decide +kernel
theorem dX0_init_25 : decode cX0_init 25 = .ok (.putfield 16, 3) := by decide +kernel
theorem dX0_init_28 : decode cX0_init 28 = .ok (.aload_n 0, 1) := by decide +kernel
theorem dX0_init_29 : decode cX0_init 29 = .ok (.iconst 0, 1) := by decide +kernel
theorem dX0_init_30 : decode cX0_init 30 = .ok (.putfield 19, 3) := by decide +kernel
theorem dX0_init_33 : decode cX0_init 33 = .ok (.aload_n 0, 1) := by decide +kernel
theorem dX0_init_34 : decode cX0_init 34 = .ok (.aload_n 1, 1) := by decide +kernel
theorem dX0_init_35 : decode cX0_init 35 = .ok (.putfield 23, 3) := by decide +kernel
theorem dX0_init_38 : decode cX0_init 38 = .ok (.return_, 1) := by decide +kernel
theorem dX0_forgetValues_0 : decode cX0_forgetValues 0 = .ok (.aload_n 0, 1) := by decide +kernel
theorem dX0_forgetValues_1 : decode cX0_forgetValues 1 = .ok (.iconst 0, 1) := by decide +kernel
theorem dX0_forgetValues_2 : decode cX0_forgetValues 2 = .ok (.putfield 19, 3) := by decide +kernel
theorem dX0_forgetValues_5 : decode cX0_forgetValues 5 = .ok (.return_, 1) := by decide +kernel
theorem dX0_worthOf_0 : decode cX0_worthOf 0 = .ok (.aload_n 0, 1) := by decide +kernel
theorem dX0_worthOf_1 : decode cX0_worthOf 1 = .ok (.getfield 11, 3) := by decide +kernel
theorem dX0_worthOf_4 : decode cX0_worthOf 4 = .ok (.iload_n 2, 1) := by decide +kernel
theorem dX0_worthOf_5 : decode cX0_worthOf 5 = .ok (.aaload, 1) := by decide +kernel
theorem dX0_worthOf_6 : decode cX0_worthOf 6 = .ok (.iload_n 1, 1) := by decide +kernel
theorem dX0_worthOf_7 : decode cX0_worthOf 7 = .ok (.iaload, 1) := by decide +kernel
theorem dX0_worthOf_8 : decode cX0_worthOf 8 = .ok (.ireturn, 1) := by decide +kernel
theorem dX0_solve_0 : decode cX0_solve 0 = .ok (.aload_n 0, 1) := by decide +kernel
theorem dX0_solve_1 : decode cX0_solve 1 = .ok (.getfield 19, 3) := by decide +kernel
theorem dX0_solve_4 : decode cX0_solve 4 = .ok (.ifCond .eq 4, 3) := by decide +kernel
theorem dX0_solve_7 : decode cX0_solve 7 = .ok (.return_, 1) := by decide +kernel
theorem dX0_solve_8 : decode cX0_solve 8 = .ok (.aload_n 0, 1) := by decide +kernel
theorem dX0_solve_9 : decode cX0_solve 9 = .ok (.iconst 1, 1) := by decide +kernel
theorem dX0_solve_10 : decode cX0_solve 10 = .ok (.putfield 19, 3) := by decide +kernel
theorem dX0_solve_13 : decode cX0_solve 13 = .ok (.iconst 0, 1) := by decide +kernel
theorem dX0_solve_14 : decode cX0_solve 14 = .ok (.istore_n 1, 1) := by decide +kernel
theorem dX0_solve_15 : decode cX0_solve 15 = .ok (.iload_n 1, 1) := by decide +kernel
theorem dX0_solve_16 : decode cX0_solve 16 = .ok (.bipush 6, 2) := by decide +kernel
theorem dX0_solve_18 : decode cX0_solve 18 = .ok (.if_icmp .gt 34, 3) := by decide +kernel
theorem dX0_solve_21 : decode cX0_solve 21 = .ok (.aload_n 0, 1) := by decide +kernel
theorem dX0_solve_22 : decode cX0_solve 22 = .ok (.getfield 11, 3) := by decide +kernel
theorem dX0_solve_25 : decode cX0_solve 25 = .ok (.iload_n 1, 1) := by decide +kernel
theorem dX0_solve_26 : decode cX0_solve 26 = .ok (.aaload, 1) := by decide +kernel
theorem dX0_solve_27 : decode cX0_solve 27 = .ok (.iconst (-1), 1) := by decide +kernel
theorem dX0_solve_28 : decode cX0_solve 28 = .ok (.invokestatic 27, 3) := by decide +kernel
theorem dX0_solve_31 : decode cX0_solve 31 = .ok (.aload_n 0, 1) := by decide +kernel
theorem dX0_solve_32 : decode cX0_solve 32 = .ok (.getfield 11, 3) := by decide +kernel
theorem dX0_solve_35 : decode cX0_solve 35 = .ok (.iload_n 1, 1) := by decide +kernel
theorem dX0_solve_36 : decode cX0_solve 36 = .ok (.aaload, 1) := by decide +kernel
theorem dX0_solve_37 : decode cX0_solve 37 = .ok (.aload_n 0, 1) := by decide +kernel
theorem dX0_solve_38 : decode cX0_solve 38 = .ok (.getfield 23, 3) := by decide +kernel
theorem dX0_solve_41 : decode cX0_solve 41 = .ok (.getfield 33, 3) := by decide +kernel
theorem dX0_solve_44 : decode cX0_solve 44 = .ok (.iconst 0, 1) := by decide +kernel
theorem dX0_solve_45 : decode cX0_solve 45 = .ok (.iastore, 1) := by decide +kernel
theorem dX0_solve_46 : decode cX0_solve 46 = .ok (.iinc 1 1, 3) := by decide +kernel
theorem dX0_solve_49 : decode cX0_solve 49 = .ok (.goto (-34), 3) := by decide +kernel
theorem dX0_solve_52 : decode cX0_solve 52 = .ok (.iconst 1, 1) := by decide +kernel
theorem dX0_solve_53 : decode cX0_solve 53 = .ok (.istore_n 1, 1) := by decide +kernel
theorem dX0_solve_54 : decode cX0_solve 54 = .ok (.iconst 1, 1) := by decide +kernel
theorem dX0_solve_55 : decode cX0_solve 55 = .ok (.istore_n 2, 1) := by decide +kernel
theorem dX0_solve_56 : decode cX0_solve 56 = .ok (.iload_n 2, 1) := by decide +kernel
theorem dX0_solve_57 : decode cX0_solve 57 = .ok (.bipush 64, 2) := by decide +kernel
theorem dX0_solve_59 : decode cX0_solve 59 = .ok (.if_icmp .gt 18, 3) := by decide +kernel
theorem dX0_solve_62 : decode cX0_solve 62 = .ok (.iload_n 1, 1) := by decide +kernel
theorem dX0_solve_63 : decode cX0_solve 63 = .ok (.ifCond .eq 14, 3) := by decide +kernel
theorem dX0_solve_66 : decode cX0_solve 66 = .ok (.aload_n 0, 1) := by decide +kernel
theorem dX0_solve_67 : decode cX0_solve 67 = .ok (.invokevirtual 39, 3) := by decide +kernel
theorem dX0_solve_70 : decode cX0_solve 70 = .ok (.istore_n 1, 1) := by decide +kernel
theorem dX0_solve_71 : decode cX0_solve 71 = .ok (.iinc 2 1, 3) := by decide +kernel
theorem dX0_solve_74 : decode cX0_solve 74 = .ok (.goto (-18), 3) := by decide +kernel
theorem dX0_solve_77 : decode cX0_solve 77 = .ok (.return_, 1) := by decide +kernel
theorem dX0_allowOneMoreStep_0 : decode cX0_allowOneMoreStep 0 = .ok (.iconst 0, 1) := by decide +kernel
theorem dX0_allowOneMoreStep_1 : decode cX0_allowOneMoreStep 1 = .ok (.istore_n 1, 1) := by decide +kernel
theorem dX0_allowOneMoreStep_2 : decode cX0_allowOneMoreStep 2 = .ok (.iload_n 1, 1) := by decide +kernel
theorem dX0_allowOneMoreStep_3 : decode cX0_allowOneMoreStep 3 = .ok (.bipush 6, 2) := by decide +kernel
theorem dX0_allowOneMoreStep_5 : decode cX0_allowOneMoreStep 5 = .ok (.if_icmp .gt 42, 3) := by decide +kernel
theorem dX0_allowOneMoreStep_8 : decode cX0_allowOneMoreStep 8 = .ok (.iconst 0, 1) := by decide +kernel
theorem dX0_allowOneMoreStep_9 : decode cX0_allowOneMoreStep 9 = .ok (.istore_n 2, 1) := by decide +kernel
theorem dX0_allowOneMoreStep_10 : decode cX0_allowOneMoreStep 10 = .ok (.iload_n 2, 1) := by decide +kernel
theorem dX0_allowOneMoreStep_11 : decode cX0_allowOneMoreStep 11 = .ok (.aload_n 0, 1) := by decide +kernel
theorem dX0_allowOneMoreStep_12 : decode cX0_allowOneMoreStep 12 = .ok (.getfield 23, 3) := by decide +kernel
theorem dX0_allowOneMoreStep_15 : decode cX0_allowOneMoreStep 15 = .ok (.getfield 43, 3) := by decide +kernel
theorem dX0_allowOneMoreStep_18 : decode cX0_allowOneMoreStep 18 = .ok (.if_icmp .ge 23, 3) := by decide +kernel
theorem dX0_allowOneMoreStep_21 : decode cX0_allowOneMoreStep 21 = .ok (.aload_n 0, 1) := by decide +kernel
theorem dX0_allowOneMoreStep_22 : decode cX0_allowOneMoreStep 22 = .ok (.getfield 16, 3) := by decide +kernel
theorem dX0_allowOneMoreStep_25 : decode cX0_allowOneMoreStep 25 = .ok (.iload_n 1, 1) := by decide +kernel
theorem dX0_allowOneMoreStep_26 : decode cX0_allowOneMoreStep 26 = .ok (.aaload, 1) := by decide +kernel
theorem dX0_allowOneMoreStep_27 : decode cX0_allowOneMoreStep 27 = .ok (.iload_n 2, 1) := by decide +kernel
theorem dX0_allowOneMoreStep_28 : decode cX0_allowOneMoreStep 28 = .ok (.aload_n 0, 1) := by decide +kernel
theorem dX0_allowOneMoreStep_29 : decode cX0_allowOneMoreStep 29 = .ok (.iload_n 2, 1) := by decide +kernel
theorem dX0_allowOneMoreStep_30 : decode cX0_allowOneMoreStep 30 = .ok (.iload_n 1, 1) := by decide +kernel
theorem dX0_allowOneMoreStep_31 : decode cX0_allowOneMoreStep 31 = .ok (.invokevirtual 46, 3) := by decide +kernel
theorem dX0_allowOneMoreStep_34 : decode cX0_allowOneMoreStep 34 = .ok (.iastore, 1) := by decide +kernel
theorem dX0_allowOneMoreStep_35 : decode cX0_allowOneMoreStep 35 = .ok (.iinc 2 1, 3) := by decide +kernel
theorem dX0_allowOneMoreStep_38 : decode cX0_allowOneMoreStep 38 = .ok (.goto (-28), 3) := by decide +kernel
theorem dX0_allowOneMoreStep_41 : decode cX0_allowOneMoreStep 41 = .ok (.iinc 1 1, 3) := by decide +kernel
theorem dX0_allowOneMoreStep_44 : decode cX0_allowOneMoreStep 44 = .ok (.goto (-42), 3) := by decide +kernel
theorem dX0_allowOneMoreStep_47 : decode cX0_allowOneMoreStep 47 = .ok (.iconst 0, 1) := by decide +kernel
theorem dX0_allowOneMoreStep_48 : decode cX0_allowOneMoreStep 48 = .ok (.istore_n 1, 1) := by decide +kernel
theorem dX0_allowOneMoreStep_49 : decode cX0_allowOneMoreStep 49 = .ok (.iconst 0, 1) := by decide +kernel
theorem dX0_allowOneMoreStep_50 : decode cX0_allowOneMoreStep 50 = .ok (.istore_n 2, 1) := by decide +kernel
theorem dX0_allowOneMoreStep_51 : decode cX0_allowOneMoreStep 51 = .ok (.iload_n 2, 1) := by decide +kernel
theorem dX0_allowOneMoreStep_52 : decode cX0_allowOneMoreStep 52 = .ok (.bipush 6, 2) := by decide +kernel
theorem dX0_allowOneMoreStep_54 : decode cX0_allowOneMoreStep 54 = .ok (.if_icmp .gt 73, 3) := by decide +kernel
theorem dX0_allowOneMoreStep_57 : decode cX0_allowOneMoreStep 57 = .ok (.iconst 0, 1) := by decide +kernel
theorem dX0_allowOneMoreStep_58 : decode cX0_allowOneMoreStep 58 = .ok (.istore_n 3, 1) := by decide +kernel
theorem dX0_allowOneMoreStep_59 : decode cX0_allowOneMoreStep 59 = .ok (.iload_n 3, 1) := by decide +kernel
theorem dX0_allowOneMoreStep_60 : decode cX0_allowOneMoreStep 60 = .ok (.aload_n 0, 1) := by decide +kernel
theorem dX0_allowOneMoreStep_61 : decode cX0_allowOneMoreStep 61 = .ok (.getfield 23, 3) := by decide +kernel
theorem dX0_allowOneMoreStep_64 : decode cX0_allowOneMoreStep 64 = .ok (.getfield 43, 3) := by decide +kernel
theorem dX0_allowOneMoreStep_67 : decode cX0_allowOneMoreStep 67 = .ok (.if_icmp .ge 54, 3) := by decide +kernel
theorem dX0_allowOneMoreStep_70 : decode cX0_allowOneMoreStep 70 = .ok (.iload_n 1, 1) := by decide +kernel
theorem dX0_allowOneMoreStep_71 : decode cX0_allowOneMoreStep 71 = .ok (.ifCond .ne 22, 3) := by decide +kernel
theorem dX0_allowOneMoreStep_74 : decode cX0_allowOneMoreStep 74 = .ok (.aload_n 0, 1) := by decide +kernel
theorem dX0_allowOneMoreStep_75 : decode cX0_allowOneMoreStep 75 = .ok (.getfield 11, 3) := by decide +kernel
theorem dX0_allowOneMoreStep_78 : decode cX0_allowOneMoreStep 78 = .ok (.iload_n 2, 1) := by decide +kernel
theorem dX0_allowOneMoreStep_79 : decode cX0_allowOneMoreStep 79 = .ok (.aaload, 1) := by decide +kernel
theorem dX0_allowOneMoreStep_80 : decode cX0_allowOneMoreStep 80 = .ok (.iload_n 3, 1) := by decide +kernel
theorem dX0_allowOneMoreStep_81 : decode cX0_allowOneMoreStep 81 = .ok (.iaload, 1) := by decide +kernel
theorem dX0_allowOneMoreStep_82 : decode cX0_allowOneMoreStep 82 = .ok (.aload_n 0, 1) := by decide +kernel
theorem dX0_allowOneMoreStep_83 : decode cX0_allowOneMoreStep 83 = .ok (.getfield 16, 3) := by decide +kernel
theorem dX0_allowOneMoreStep_86 : decode cX0_allowOneMoreStep 86 = .ok (.iload_n 2, 1) := by decide +kernel
theorem dX0_allowOneMoreStep_87 : decode cX0_allowOneMoreStep 87 = .ok (.aaload, 1) := by decide +kernel
theorem dX0_allowOneMoreStep_88 : decode cX0_allowOneMoreStep 88 = .ok (.iload_n 3, 1) := by decide +kernel
theorem dX0_allowOneMoreStep_89 : decode cX0_allowOneMoreStep 89 = .ok (.iaload, 1) := by decide +kernel
theorem dX0_allowOneMoreStep_90 : decode cX0_allowOneMoreStep 90 = .ok (.if_icmp .eq 7, 3) := by decide +kernel
theorem dX0_allowOneMoreStep_93 : decode cX0_allowOneMoreStep 93 = .ok (.iconst 1, 1) := by decide +kernel
theorem dX0_allowOneMoreStep_94 : decode cX0_allowOneMoreStep 94 = .ok (.goto 4, 3) := by decide +kernel
theorem dX0_allowOneMoreStep_97 : decode cX0_allowOneMoreStep 97 = .ok (.iconst 0, 1) := by decide +kernel
theorem dX0_allowOneMoreStep_98 : decode cX0_allowOneMoreStep 98 = .ok (.istore_n 1, 1) := by decide +kernel
theorem dX0_allowOneMoreStep_99 : decode cX0_allowOneMoreStep 99 = .ok (.aload_n 0, 1) := by decide +kernel
theorem dX0_allowOneMoreStep_100 : decode cX0_allowOneMoreStep 100 = .ok (.getfield 11, 3) := by decide +kernel
theorem dX0_allowOneMoreStep_103 : decode cX0_allowOneMoreStep 103 = .ok (.iload_n 2, 1) := by decide +kernel
theorem dX0_allowOneMoreStep_104 : decode cX0_allowOneMoreStep 104 = .ok (.aaload, 1) := by decide +kernel
theorem dX0_allowOneMoreStep_105 : decode cX0_allowOneMoreStep 105 = .ok (.iload_n 3, 1) := by decide +kernel
theorem dX0_allowOneMoreStep_106 : decode cX0_allowOneMoreStep 106 = .ok (.aload_n 0, 1) := by decide +kernel
theorem dX0_allowOneMoreStep_107 : decode cX0_allowOneMoreStep 107 = .ok (.getfield 16, 3) := by decide +kernel
theorem dX0_allowOneMoreStep_110 : decode cX0_allowOneMoreStep 110 = .ok (.iload_n 2, 1) := by decide +kernel
theorem dX0_allowOneMoreStep_111 : decode cX0_allowOneMoreStep 111 = .ok (.aaload, 1) := by decide +kernel
theorem dX0_allowOneMoreStep_112 : decode cX0_allowOneMoreStep 112 = .ok (.iload_n 3, 1) := by decide +kernel
theorem dX0_allowOneMoreStep_113 : decode cX0_allowOneMoreStep 113 = .ok (.iaload, 1) := by decide +kernel
theorem dX0_allowOneMoreStep_114 : decode cX0_allowOneMoreStep 114 = .ok (.iastore, 1) := by decide +kernel
theorem dX0_allowOneMoreStep_115 : decode cX0_allowOneMoreStep 115 = .ok (.iinc 3 1, 3) := by decide +kernel
theorem dX0_allowOneMoreStep_118 : decode cX0_allowOneMoreStep 118 = .ok (.goto (-59), 3) := by decide +kernel
theorem dX0_allowOneMoreStep_121 : decode cX0_allowOneMoreStep 121 = .ok (.iinc 2 1, 3) := by decide +kernel
theorem dX0_allowOneMoreStep_124 : decode cX0_allowOneMoreStep 124 = .ok (.goto (-73), 3) := by decide +kernel
theorem dX0_allowOneMoreStep_127 : decode cX0_allowOneMoreStep 127 = .ok (.iload_n 1, 1) := by decide +kernel
theorem dX0_allowOneMoreStep_128 : decode cX0_allowOneMoreStep 128 = .ok (.ireturn, 1) := by decide +kernel
theorem dX0_leastNumber_0 : decode cX0_leastNumber 0 = .ok (.iload_n 1, 1) := by decide +kernel
theorem dX0_leastNumber_1 : decode cX0_leastNumber 1 = .ok (.aload_n 0, 1) := by decide +kernel
theorem dX0_leastNumber_2 : decode cX0_leastNumber 2 = .ok (.getfield 23, 3) := by decide +kernel
theorem dX0_leastNumber_5 : decode cX0_leastNumber 5 = .ok (.getfield 33, 3) := by decide +kernel
theorem dX0_leastNumber_8 : decode cX0_leastNumber 8 = .ok (.if_icmp .ne 5, 3) := by decide +kernel
theorem dX0_leastNumber_11 : decode cX0_leastNumber 11 = .ok (.iconst 0, 1) := by decide +kernel
theorem dX0_leastNumber_12 : decode cX0_leastNumber 12 = .ok (.ireturn, 1) := by decide +kernel
theorem dX0_leastNumber_13 : decode cX0_leastNumber 13 = .ok (.aload_n 0, 1) := by decide +kernel
theorem dX0_leastNumber_14 : decode cX0_leastNumber 14 = .ok (.iload_n 1, 1) := by decide +kernel
theorem dX0_leastNumber_15 : decode cX0_leastNumber 15 = .ok (.iload_n 2, 1) := by decide +kernel
theorem dX0_leastNumber_16 : decode cX0_leastNumber 16 = .ok (.invokevirtual 50, 3) := by decide +kernel
theorem dX0_leastNumber_19 : decode cX0_leastNumber 19 = .ok (.istore_n 3, 1) := by decide +kernel
theorem dX0_leastNumber_20 : decode cX0_leastNumber 20 = .ok (.iload_n 3, 1) := by decide +kernel
theorem dX0_leastNumber_21 : decode cX0_leastNumber 21 = .ok (.iconst (-1), 1) := by decide +kernel
theorem dX0_leastNumber_22 : decode cX0_leastNumber 22 = .ok (.if_icmp .ne 7, 3) := by decide +kernel
theorem dX0_leastNumber_25 : decode cX0_leastNumber 25 = .ok (.iconst (-1), 1) := by decide +kernel
theorem dX0_leastNumber_26 : decode cX0_leastNumber 26 = .ok (.goto 9, 3) := by decide +kernel
theorem dX0_leastNumber_29 : decode cX0_leastNumber 29 = .ok (.aload_n 0, 1) := by decide +kernel
theorem dX0_leastNumber_30 : decode cX0_leastNumber 30 = .ok (.iload_n 3, 1) := by decide +kernel
theorem dX0_leastNumber_31 : decode cX0_leastNumber 31 = .ok (.iload_n 2, 1) := by decide +kernel
theorem dX0_leastNumber_32 : decode cX0_leastNumber 32 = .ok (.invokevirtual 53, 3) := by decide +kernel
theorem dX0_leastNumber_35 : decode cX0_leastNumber 35 = .ok (.ireturn, 1) := by decide +kernel
theorem dX0_bestArcOf_0 : decode cX0_bestArcOf 0 = .ok (.iconst (-1), 1) := by decide +kernel
theorem dX0_bestArcOf_1 : decode cX0_bestArcOf 1 = .ok (.istore_n 3, 1) := by decide +kernel
theorem dX0_bestArcOf_2 : decode cX0_bestArcOf 2 = .ok (.ldc 56, 2) := by decide +kernel
theorem dX0_bestArcOf_4 : decode cX0_bestArcOf 4 = .ok (.istore 4, 2) := by decide +kernel
theorem dX0_bestArcOf_6 : decode cX0_bestArcOf 6 = .ok (.iconst 0, 1) := by decide +kernel
theorem dX0_bestArcOf_7 : decode cX0_bestArcOf 7 = .ok (.istore 5, 2) := by decide +kernel
theorem dX0_bestArcOf_9 : decode cX0_bestArcOf 9 = .ok (.iload 5, 2) := by decide +kernel
theorem dX0_bestArcOf_11 : decode cX0_bestArcOf 11 = .ok (.aload_n 0, 1) := by decide +kernel
theorem dX0_bestArcOf_12 : decode cX0_bestArcOf 12 = .ok (.getfield 23, 3) := by decide +kernel
theorem dX0_bestArcOf_15 : decode cX0_bestArcOf 15 = .ok (.getfield 57, 3) := by decide +kernel
theorem dX0_bestArcOf_18 : decode cX0_bestArcOf 18 = .ok (.if_icmp .ge 63, 3) := by decide +kernel
theorem dX0_bestArcOf_21 : decode cX0_bestArcOf 21 = .ok (.iload_n 1, 1) := by decide +kernel
theorem dX0_bestArcOf_22 : decode cX0_bestArcOf 22 = .ok (.aload_n 0, 1) := by decide +kernel
theorem dX0_bestArcOf_23 : decode cX0_bestArcOf 23 = .ok (.getfield 23, 3) := by decide +kernel
theorem dX0_bestArcOf_26 : decode cX0_bestArcOf 26 = .ok (.getfield 33, 3) := by decide +kernel
theorem dX0_bestArcOf_29 : decode cX0_bestArcOf 29 = .ok (.if_icmp .eq 52, 3) := by decide +kernel
theorem dX0_bestArcOf_32 : decode cX0_bestArcOf 32 = .ok (.aload_n 0, 1) := by decide +kernel
theorem dX0_bestArcOf_33 : decode cX0_bestArcOf 33 = .ok (.getfield 23, 3) := by decide +kernel
theorem dX0_bestArcOf_36 : decode cX0_bestArcOf 36 = .ok (.getfield 60, 3) := by decide +kernel
theorem dX0_bestArcOf_39 : decode cX0_bestArcOf 39 = .ok (.iload 5, 2) := by decide +kernel
theorem dX0_bestArcOf_41 : decode cX0_bestArcOf 41 = .ok (.iaload, 1) := by decide +kernel
theorem dX0_bestArcOf_42 : decode cX0_bestArcOf 42 = .ok (.iload_n 1, 1) := by decide +kernel
theorem dX0_bestArcOf_43 : decode cX0_bestArcOf 43 = .ok (.if_icmp .ne 32, 3) := by decide +kernel
theorem dX0_bestArcOf_46 : decode cX0_bestArcOf 46 = .ok (.aload_n 0, 1) := by decide +kernel
theorem dX0_bestArcOf_47 : decode cX0_bestArcOf 47 = .ok (.iload 5, 2) := by decide +kernel
theorem dX0_bestArcOf_49 : decode cX0_bestArcOf 49 = .ok (.iload_n 2, 1) := by decide +kernel
theorem dX0_bestArcOf_50 : decode cX0_bestArcOf 50 = .ok (.invokevirtual 53, 3) := by decide +kernel
theorem dX0_bestArcOf_53 : decode cX0_bestArcOf 53 = .ok (.istore 6, 2) := by decide +kernel
theorem dX0_bestArcOf_55 : decode cX0_bestArcOf 55 = .ok (.iload 6, 2) := by decide +kernel
theorem dX0_bestArcOf_57 : decode cX0_bestArcOf 57 = .ok (.iconst (-1), 1) := by decide +kernel
theorem dX0_bestArcOf_58 : decode cX0_bestArcOf 58 = .ok (.if_icmp .eq 17, 3) := by decide +kernel
theorem dX0_bestArcOf_61 : decode cX0_bestArcOf 61 = .ok (.iload 6, 2) := by decide +kernel
theorem dX0_bestArcOf_63 : decode cX0_bestArcOf 63 = .ok (.iload 4, 2) := by decide +kernel
theorem dX0_bestArcOf_65 : decode cX0_bestArcOf 65 = .ok (.if_icmp .ge 10, 3) := by decide +kernel
theorem dX0_bestArcOf_68 : decode cX0_bestArcOf 68 = .ok (.iload 5, 2) := by decide +kernel
theorem dX0_bestArcOf_70 : decode cX0_bestArcOf 70 = .ok (.istore_n 3, 1) := by decide +kernel
theorem dX0_bestArcOf_71 : decode cX0_bestArcOf 71 = .ok (.iload 6, 2) := by decide +kernel
theorem dX0_bestArcOf_73 : decode cX0_bestArcOf 73 = .ok (.istore 4, 2) := by decide +kernel
theorem dX0_bestArcOf_75 : decode cX0_bestArcOf 75 = .ok (.iinc 5 1, 3) := by decide +kernel
theorem dX0_bestArcOf_78 : decode cX0_bestArcOf 78 = .ok (.goto (-69), 3) := by decide +kernel
theorem dX0_bestArcOf_81 : decode cX0_bestArcOf 81 = .ok (.iload_n 3, 1) := by decide +kernel
theorem dX0_bestArcOf_82 : decode cX0_bestArcOf 82 = .ok (.ireturn, 1) := by decide +kernel
theorem dX0_arcNumber_0 : decode cX0_arcNumber 0 = .ok (.aload_n 0, 1) := by decide +kernel
theorem dX0_arcNumber_1 : decode cX0_arcNumber 1 = .ok (.getfield 23, 3) := by decide +kernel
theorem dX0_arcNumber_4 : decode cX0_arcNumber 4 = .ok (.getfield 64, 3) := by decide +kernel
theorem dX0_arcNumber_7 : decode cX0_arcNumber 7 = .ok (.iload_n 1, 1) := by decide +kernel
theorem dX0_arcNumber_8 : decode cX0_arcNumber 8 = .ok (.iaload, 1) := by decide +kernel
theorem dX0_arcNumber_9 : decode cX0_arcNumber 9 = .ok (.istore_n 3, 1) := by decide +kernel
theorem dX0_arcNumber_10 : decode cX0_arcNumber 10 = .ok (.aload_n 0, 1) := by decide +kernel
theorem dX0_arcNumber_11 : decode cX0_arcNumber 11 = .ok (.getfield 23, 3) := by decide +kernel
theorem dX0_arcNumber_14 : decode cX0_arcNumber 14 = .ok (.getfield 67, 3) := by decide +kernel
theorem dX0_arcNumber_17 : decode cX0_arcNumber 17 = .ok (.iload_n 1, 1) := by decide +kernel
theorem dX0_arcNumber_18 : decode cX0_arcNumber 18 = .ok (.iaload, 1) := by decide +kernel
theorem dX0_arcNumber_19 : decode cX0_arcNumber 19 = .ok (.istore 4, 2) := by decide +kernel
theorem dX0_arcNumber_21 : decode cX0_arcNumber 21 = .ok (.aload_n 0, 1) := by decide +kernel
theorem dX0_arcNumber_22 : decode cX0_arcNumber 22 = .ok (.getfield 11, 3) := by decide +kernel
theorem dX0_arcNumber_25 : decode cX0_arcNumber 25 = .ok (.iload_n 2, 1) := by decide +kernel
theorem dX0_arcNumber_26 : decode cX0_arcNumber 26 = .ok (.aaload, 1) := by decide +kernel
theorem dX0_arcNumber_27 : decode cX0_arcNumber 27 = .ok (.iload_n 3, 1) := by decide +kernel
theorem dX0_arcNumber_28 : decode cX0_arcNumber 28 = .ok (.iaload, 1) := by decide +kernel
theorem dX0_arcNumber_29 : decode cX0_arcNumber 29 = .ok (.iconst (-1), 1) := by decide +kernel
theorem dX0_arcNumber_30 : decode cX0_arcNumber 30 = .ok (.if_icmp .ne 5, 3) := by decide +kernel
theorem dX0_arcNumber_33 : decode cX0_arcNumber 33 = .ok (.iconst (-1), 1) := by decide +kernel
theorem dX0_arcNumber_34 : decode cX0_arcNumber 34 = .ok (.ireturn, 1) := by decide +kernel
theorem dX0_arcNumber_35 : decode cX0_arcNumber 35 = .ok (.iload 4, 2) := by decide +kernel
theorem dX0_arcNumber_37 : decode cX0_arcNumber 37 = .ok (.aload_n 0, 1) := by decide +kernel
theorem dX0_arcNumber_38 : decode cX0_arcNumber 38 = .ok (.getfield 11, 3) := by decide +kernel
theorem dX0_arcNumber_41 : decode cX0_arcNumber 41 = .ok (.iload_n 2, 1) := by decide +kernel
theorem dX0_arcNumber_42 : decode cX0_arcNumber 42 = .ok (.aaload, 1) := by decide +kernel
theorem dX0_arcNumber_43 : decode cX0_arcNumber 43 = .ok (.iload_n 3, 1) := by decide +kernel
theorem dX0_arcNumber_44 : decode cX0_arcNumber 44 = .ok (.iaload, 1) := by decide +kernel
theorem dX0_arcNumber_45 : decode cX0_arcNumber 45 = .ok (.iadd, 1) := by decide +kernel
theorem dX0_arcNumber_46 : decode cX0_arcNumber 46 = .ok (.istore 5, 2) := by decide +kernel
theorem dX0_arcNumber_48 : decode cX0_arcNumber 48 = .ok (.iload_n 2, 1) := by decide +kernel
theorem dX0_arcNumber_49 : decode cX0_arcNumber 49 = .ok (.ifCond .ne 6, 3) := by decide +kernel
theorem dX0_arcNumber_52 : decode cX0_arcNumber 52 = .ok (.iload 5, 2) := by decide +kernel
theorem dX0_arcNumber_54 : decode cX0_arcNumber 54 = .ok (.ireturn, 1) := by decide +kernel
theorem dX0_arcNumber_55 : decode cX0_arcNumber 55 = .ok (.iload 4, 2) := by decide +kernel
theorem dX0_arcNumber_57 : decode cX0_arcNumber 57 = .ok (.aload_n 0, 1) := by decide +kernel
theorem dX0_arcNumber_58 : decode cX0_arcNumber 58 = .ok (.getfield 23, 3) := by decide +kernel
theorem dX0_arcNumber_61 : decode cX0_arcNumber 61 = .ok (.getfield 70, 3) := by decide +kernel
theorem dX0_arcNumber_64 : decode cX0_arcNumber 64 = .ok (.iload_n 1, 1) := by decide +kernel
theorem dX0_arcNumber_65 : decode cX0_arcNumber 65 = .ok (.iaload, 1) := by decide +kernel
theorem dX0_arcNumber_66 : decode cX0_arcNumber 66 = .ok (.iadd, 1) := by decide +kernel
theorem dX0_arcNumber_67 : decode cX0_arcNumber 67 = .ok (.aload_n 0, 1) := by decide +kernel
theorem dX0_arcNumber_68 : decode cX0_arcNumber 68 = .ok (.getfield 11, 3) := by decide +kernel
theorem dX0_arcNumber_71 : decode cX0_arcNumber 71 = .ok (.iload_n 2, 1) := by decide +kernel
theorem dX0_arcNumber_72 : decode cX0_arcNumber 72 = .ok (.iconst 1, 1) := by decide +kernel
theorem dX0_arcNumber_73 : decode cX0_arcNumber 73 = .ok (.isub, 1) := by decide +kernel
theorem dX0_arcNumber_74 : decode cX0_arcNumber 74 = .ok (.aaload, 1) := by decide +kernel
theorem dX0_arcNumber_75 : decode cX0_arcNumber 75 = .ok (.iload_n 3, 1) := by decide +kernel
theorem dX0_arcNumber_76 : decode cX0_arcNumber 76 = .ok (.iaload, 1) := by decide +kernel
theorem dX0_arcNumber_77 : decode cX0_arcNumber 77 = .ok (.iadd, 1) := by decide +kernel
theorem dX0_arcNumber_78 : decode cX0_arcNumber 78 = .ok (.istore 6, 2) := by decide +kernel
theorem dX0_arcNumber_80 : decode cX0_arcNumber 80 = .ok (.iload 6, 2) := by decide +kernel
theorem dX0_arcNumber_82 : decode cX0_arcNumber 82 = .ok (.iload 5, 2) := by decide +kernel
theorem dX0_arcNumber_84 : decode cX0_arcNumber 84 = .ok (.if_icmp .le 8, 3) := by decide +kernel
theorem dX0_arcNumber_87 : decode cX0_arcNumber 87 = .ok (.iload 6, 2) := by decide +kernel
theorem dX0_arcNumber_89 : decode cX0_arcNumber 89 = .ok (.goto 5, 3) := by decide +kernel
theorem dX0_arcNumber_92 : decode cX0_arcNumber 92 = .ok (.iload 5, 2) := by decide +kernel
theorem dX0_arcNumber_94 : decode cX0_arcNumber 94 = .ok (.ireturn, 1) := by decide +kernel
theorem dX1_init_0 : decode cX1_init 0 = .ok (.aload_n 0, 1) := by decide +kernel
theorem dX1_init_1 : decode cX1_init 1 = .ok (.invokespecial 3, 3) := by decide +kernel
theorem dX1_init_4 : decode cX1_init 4 = .ok (.aload_n 0, 1) := by decide +kernel
theorem dX1_init_5 : decode cX1_init 5 = .ok (.bipush 8, 2) := by decide +kernel
theorem dX1_init_7 : decode cX1_init 7 = .ok (.anewarray 9, 3) := by decide +kernel
theorem dX1_init_10 : decode cX1_init 10 = .ok (.putfield 11, 3) := by decide +kernel
theorem dX1_init_13 : decode cX1_init 13 = .ok (.aload_n 0, 1) := by decide +kernel
theorem dX1_init_14 : decode cX1_init 14 = .ok (.iconst 0, 1) := by decide +kernel
theorem dX1_init_15 : decode cX1_init 15 = .ok (.putfield 17, 3) := by decide +kernel
theorem dX1_init_18 : decode cX1_init 18 = .ok (.aload_n 0, 1) := by decide +kernel
theorem dX1_init_19 : decode cX1_init 19 = .ok (.iconst 0, 1) := by decide +kernel
theorem dX1_init_20 : decode cX1_init 20 = .ok (.putfield 21, 3) := by decide +kernel
theorem dX1_init_23 : decode cX1_init 23 = .ok (.iconst 0, 1) := by decide +kernel
theorem dX1_init_24 : decode cX1_init 24 = .ok (.istore_n 1, 1) := by decide +kernel
theorem dX1_init_25 : decode cX1_init 25 = .ok (.iload_n 1, 1) := by decide +kernel
theorem dX1_init_26 : decode cX1_init 26 = .ok (.bipush 8, 2) := by decide +kernel
theorem dX1_init_28 : decode cX1_init 28 = .ok (.if_icmp .ge 22, 3) := by decide +kernel
theorem dX1_init_31 : decode cX1_init 31 = .ok (.aload_n 0, 1) := by decide +kernel
theorem dX1_init_32 : decode cX1_init 32 = .ok (.getfield 11, 3) := by decide +kernel
theorem dX1_init_35 : decode cX1_init 35 = .ok (.iload_n 1, 1) := by decide +kernel
theorem dX1_init_36 : decode cX1_init 36 = .ok (.new 9, 3) := by decide +kernel
theorem dX1_init_39 : decode cX1_init 39 = .ok (.dup, 1) := by decide +kernel
theorem dX1_init_40 : decode cX1_init 40 = .ok (.invokespecial 24, 3) := by decide +kernel
theorem dX1_init_43 : decode cX1_init 43 = .ok (.aastore, 1) := by decide +kernel
theorem dX1_init_44 : decode cX1_init 44 = .ok (.iinc 1 1, 3) := by decide +kernel
theorem dX1_init_47 : decode cX1_init 47 = .ok (.goto (-22), 3) := by decide +kernel
theorem dX1_init_50 : decode cX1_init 50 = .ok (.return_, 1) := by decide +kernel
theorem dX1_keep_0 : decode cX1_keep 0 = .ok (.aload_n 0, 1) := by decide +kernel
theorem dX1_keep_1 : decode cX1_keep 1 = .ok (.getfield 11, 3) := by decide +kernel
theorem dX1_keep_4 : decode cX1_keep 4 = .ok (.aload_n 0, 1) := by decide +kernel
theorem dX1_keep_5 : decode cX1_keep 5 = .ok (.getfield 17, 3) := by decide +kernel
theorem dX1_keep_8 : decode cX1_keep 8 = .ok (.aaload, 1) := by decide +kernel
theorem dX1_keep_9 : decode cX1_keep 9 = .ok (.aload_n 1, 1) := by decide +kernel
theorem dX1_keep_10 : decode cX1_keep 10 = .ok (.invokevirtual 25, 3) := by decide +kernel
theorem dX1_keep_13 : decode cX1_keep 13 = .ok (.aload_n 0, 1) := by decide +kernel
theorem dX1_keep_14 : decode cX1_keep 14 = .ok (.aload_n 0, 1) := by decide +kernel
theorem dX1_keep_15 : decode cX1_keep 15 = .ok (.getfield 17, 3) := by decide +kernel
theorem dX1_keep_18 : decode cX1_keep 18 = .ok (.bipush 7, 2) := by decide +kernel
theorem dX1_keep_20 : decode cX1_keep 20 = .ok (.if_icmp .ne 7, 3) := by decide +kernel
theorem dX1_keep_23 : decode cX1_keep 23 = .ok (.iconst 0, 1) := by decide +kernel
theorem dX1_keep_24 : decode cX1_keep 24 = .ok (.goto 9, 3) := by decide +kernel
theorem dX1_keep_27 : decode cX1_keep 27 = .ok (.aload_n 0, 1) := by decide +kernel
theorem dX1_keep_28 : decode cX1_keep 28 = .ok (.getfield 17, 3) := by decide +kernel
theorem dX1_keep_31 : decode cX1_keep 31 = .ok (.iconst 1, 1) := by decide +kernel
theorem dX1_keep_32 : decode cX1_keep 32 = .ok (.iadd, 1) := by decide +kernel
theorem dX1_keep_33 : decode cX1_keep 33 = .ok (.putfield 17, 3) := by decide +kernel
theorem dX1_keep_36 : decode cX1_keep 36 = .ok (.aload_n 0, 1) := by decide +kernel
theorem dX1_keep_37 : decode cX1_keep 37 = .ok (.bipush 8, 2) := by decide +kernel
theorem dX1_keep_39 : decode cX1_keep 39 = .ok (.aload_n 0, 1) := by decide +kernel
theorem dX1_keep_40 : decode cX1_keep 40 = .ok (.getfield 21, 3) := by decide +kernel
theorem dX1_keep_43 : decode cX1_keep 43 = .ok (.iconst 1, 1) := by decide +kernel
theorem dX1_keep_44 : decode cX1_keep 44 = .ok (.iadd, 1) := by decide +kernel
theorem dX1_keep_45 : decode cX1_keep 45 = .ok (.invokestatic 29, 3) := by decide +kernel
theorem dX1_keep_48 : decode cX1_keep 48 = .ok (.putfield 21, 3) := by decide +kernel
theorem dX1_keep_51 : decode cX1_keep 51 = .ok (.return_, 1) := by decide +kernel
theorem dX1_takeBack_0 : decode cX1_takeBack 0 = .ok (.aload_n 0, 1) := by decide +kernel
theorem dX1_takeBack_1 : decode cX1_takeBack 1 = .ok (.getfield 21, 3) := by decide +kernel
theorem dX1_takeBack_4 : decode cX1_takeBack 4 = .ok (.ifCond .le 48, 3) := by decide +kernel
theorem dX1_takeBack_7 : decode cX1_takeBack 7 = .ok (.aload_n 0, 1) := by decide +kernel
theorem dX1_takeBack_8 : decode cX1_takeBack 8 = .ok (.aload_n 0, 1) := by decide +kernel
theorem dX1_takeBack_9 : decode cX1_takeBack 9 = .ok (.getfield 17, 3) := by decide +kernel
theorem dX1_takeBack_12 : decode cX1_takeBack 12 = .ok (.ifCond .ne 8, 3) := by decide +kernel
theorem dX1_takeBack_15 : decode cX1_takeBack 15 = .ok (.bipush 7, 2) := by decide +kernel
theorem dX1_takeBack_17 : decode cX1_takeBack 17 = .ok (.goto 9, 3) := by decide +kernel
theorem dX1_takeBack_20 : decode cX1_takeBack 20 = .ok (.aload_n 0, 1) := by decide +kernel
theorem dX1_takeBack_21 : decode cX1_takeBack 21 = .ok (.getfield 17, 3) := by decide +kernel
theorem dX1_takeBack_24 : decode cX1_takeBack 24 = .ok (.iconst 1, 1) := by decide +kernel
theorem dX1_takeBack_25 : decode cX1_takeBack 25 = .ok (.isub, 1) := by decide +kernel
theorem dX1_takeBack_26 : decode cX1_takeBack 26 = .ok (.putfield 17, 3) := by decide +kernel
theorem dX1_takeBack_29 : decode cX1_takeBack 29 = .ok (.aload_n 0, 1) := by decide +kernel
theorem dX1_takeBack_30 : decode cX1_takeBack 30 = .ok (.dup, 1) := by decide +kernel
theorem dX1_takeBack_31 : decode cX1_takeBack 31 = .ok (.getfield 21, 3) := by decide +kernel
theorem dX1_takeBack_34 : decode cX1_takeBack 34 = .ok (.iconst 1, 1) := by decide +kernel
theorem dX1_takeBack_35 : decode cX1_takeBack 35 = .ok (.isub, 1) := by decide +kernel
theorem dX1_takeBack_36 : decode cX1_takeBack 36 = .ok (.putfield 21, 3) := by decide +kernel
theorem dX1_takeBack_39 : decode cX1_takeBack 39 = .ok (.aload_n 1, 1) := by decide +kernel
theorem dX1_takeBack_40 : decode cX1_takeBack 40 = .ok (.aload_n 0, 1) := by decide +kernel
theorem dX1_takeBack_41 : decode cX1_takeBack 41 = .ok (.getfield 11, 3) := by decide +kernel
theorem dX1_takeBack_44 : decode cX1_takeBack 44 = .ok (.aload_n 0, 1) := by decide +kernel
theorem dX1_takeBack_45 : decode cX1_takeBack 45 = .ok (.getfield 17, 3) := by decide +kernel
theorem dX1_takeBack_48 : decode cX1_takeBack 48 = .ok (.aaload, 1) := by decide +kernel
theorem dX1_takeBack_49 : decode cX1_takeBack 49 = .ok (.invokevirtual 25, 3) := by decide +kernel
theorem dX1_takeBack_52 : decode cX1_takeBack 52 = .ok (.return_, 1) := by decide +kernel
theorem dX2_init_0 : decode cX2_init 0 = .ok (.aload_n 0, 1) := by decide +kernel
theorem dX2_init_1 : decode cX2_init 1 = .ok (.invokespecial 3, 3) := by decide +kernel
theorem dX2_init_4 : decode cX2_init 4 = .ok (.aload_n 0, 1) := by decide +kernel
theorem dX2_init_5 : decode cX2_init 5 = .ok (.bipush 21, 2) := by decide +kernel
theorem dX2_init_7 : decode cX2_init 7 = .ok (.newarray .int, 2) := by decide +kernel
theorem dX2_init_9 : decode cX2_init 9 = .ok (.putfield 9, 3) := by decide +kernel
theorem dX2_init_12 : decode cX2_init 12 = .ok (.aload_n 0, 1) := by decide +kernel
theorem dX2_init_13 : decode cX2_init 13 = .ok (.bipush 21, 2) := by decide +kernel
theorem dX2_init_15 : decode cX2_init 15 = .ok (.newarray .int, 2) := by decide +kernel
theorem dX2_init_17 : decode cX2_init 17 = .ok (.putfield 15, 3) := by decide +kernel
theorem dX2_init_20 : decode cX2_init 20 = .ok (.aload_n 0, 1) := by decide +kernel
theorem dX2_init_21 : decode cX2_init 21 = .ok (.bipush 21, 2) := by decide +kernel
theorem dX2_init_23 : decode cX2_init 23 = .ok (.newarray .int, 2) := by decide +kernel
theorem dX2_init_25 : decode cX2_init 25 = .ok (.putfield 18, 3) := by decide +kernel
theorem dX2_init_28 : decode cX2_init 28 = .ok (.return_, 1) := by decide +kernel
theorem dX2_begin_0 : decode cX2_begin 0 = .ok (.aload_n 0, 1) := by decide +kernel
theorem dX2_begin_1 : decode cX2_begin 1 = .ok (.iconst 0, 1) := by decide +kernel
theorem dX2_begin_2 : decode cX2_begin 2 = .ok (.putfield 21, 3) := by decide +kernel
theorem dX2_begin_5 : decode cX2_begin 5 = .ok (.aload_n 0, 1) := by decide +kernel
theorem dX2_begin_6 : decode cX2_begin 6 = .ok (.getfield 9, 3) := by decide +kernel
theorem dX2_begin_9 : decode cX2_begin 9 = .ok (.iconst 0, 1) := by decide +kernel
theorem dX2_begin_10 : decode cX2_begin 10 = .ok (.aload_n 1, 1) := by decide +kernel
theorem dX2_begin_11 : decode cX2_begin 11 = .ok (.getfield 25, 3) := by decide +kernel
theorem dX2_begin_14 : decode cX2_begin 14 = .ok (.iastore, 1) := by decide +kernel
theorem dX2_begin_15 : decode cX2_begin 15 = .ok (.aload_n 0, 1) := by decide +kernel
theorem dX2_begin_16 : decode cX2_begin 16 = .ok (.getfield 15, 3) := by decide +kernel
theorem dX2_begin_19 : decode cX2_begin 19 = .ok (.iconst 0, 1) := by decide +kernel
theorem dX2_begin_20 : decode cX2_begin 20 = .ok (.iconst 0, 1) := by decide +kernel
theorem dX2_begin_21 : decode cX2_begin 21 = .ok (.iastore, 1) := by decide +kernel
theorem dX2_begin_22 : decode cX2_begin 22 = .ok (.aload_n 0, 1) := by decide +kernel
theorem dX2_begin_23 : decode cX2_begin 23 = .ok (.getfield 18, 3) := by decide +kernel
theorem dX2_begin_26 : decode cX2_begin 26 = .ok (.iconst 0, 1) := by decide +kernel
theorem dX2_begin_27 : decode cX2_begin 27 = .ok (.aload_n 1, 1) := by decide +kernel
theorem dX2_begin_28 : decode cX2_begin 28 = .ok (.getfield 30, 3) := by decide +kernel
theorem dX2_begin_31 : decode cX2_begin 31 = .ok (.iastore, 1) := by decide +kernel
theorem dX2_begin_32 : decode cX2_begin 32 = .ok (.return_, 1) := by decide +kernel
theorem dX2_nodeNow_0 : decode cX2_nodeNow 0 = .ok (.aload_n 0, 1) := by decide +kernel
theorem dX2_nodeNow_1 : decode cX2_nodeNow 1 = .ok (.getfield 9, 3) := by decide +kernel
theorem dX2_nodeNow_4 : decode cX2_nodeNow 4 = .ok (.aload_n 0, 1) := by decide +kernel
theorem dX2_nodeNow_5 : decode cX2_nodeNow 5 = .ok (.getfield 21, 3) := by decide +kernel
theorem dX2_nodeNow_8 : decode cX2_nodeNow 8 = .ok (.iaload, 1) := by decide +kernel
theorem dX2_nodeNow_9 : decode cX2_nodeNow 9 = .ok (.ireturn, 1) := by decide +kernel
theorem dX2_timeNow_0 : decode cX2_timeNow 0 = .ok (.aload_n 0, 1) := by decide +kernel
theorem dX2_timeNow_1 : decode cX2_timeNow 1 = .ok (.getfield 15, 3) := by decide +kernel
theorem dX2_timeNow_4 : decode cX2_timeNow 4 = .ok (.aload_n 0, 1) := by decide +kernel
theorem dX2_timeNow_5 : decode cX2_timeNow 5 = .ok (.getfield 21, 3) := by decide +kernel
theorem dX2_timeNow_8 : decode cX2_timeNow 8 = .ok (.iaload, 1) := by decide +kernel
theorem dX2_timeNow_9 : decode cX2_timeNow 9 = .ok (.ireturn, 1) := by decide +kernel
theorem dX2_leftNow_0 : decode cX2_leftNow 0 = .ok (.aload_n 0, 1) := by decide +kernel
theorem dX2_leftNow_1 : decode cX2_leftNow 1 = .ok (.getfield 18, 3) := by decide +kernel
theorem dX2_leftNow_4 : decode cX2_leftNow 4 = .ok (.aload_n 0, 1) := by decide +kernel
theorem dX2_leftNow_5 : decode cX2_leftNow 5 = .ok (.getfield 21, 3) := by decide +kernel
theorem dX2_leftNow_8 : decode cX2_leftNow 8 = .ok (.iaload, 1) := by decide +kernel
theorem dX2_leftNow_9 : decode cX2_leftNow 9 = .ok (.ireturn, 1) := by decide +kernel
theorem dX2_canGo_0 : decode cX2_canGo 0 = .ok (.aload_n 0, 1) := by decide +kernel
theorem dX2_canGo_1 : decode cX2_canGo 1 = .ok (.getfield 21, 3) := by decide +kernel
theorem dX2_canGo_4 : decode cX2_canGo 4 = .ok (.bipush 20, 2) := by decide +kernel
theorem dX2_canGo_6 : decode cX2_canGo 6 = .ok (.if_icmp .ge 14, 3) := by decide +kernel
theorem dX2_canGo_9 : decode cX2_canGo 9 = .ok (.aload_n 0, 1) := by decide +kernel
theorem dX2_canGo_10 : decode cX2_canGo 10 = .ok (.invokevirtual 33, 3) := by decide +kernel
theorem dX2_canGo_13 : decode cX2_canGo 13 = .ok (.aload_n 1, 1) := by decide +kernel
theorem dX2_canGo_14 : decode cX2_canGo 14 = .ok (.getfield 37, 3) := by decide +kernel
theorem dX2_canGo_17 : decode cX2_canGo 17 = .ok (.if_icmp .ne 5, 3) := by decide +kernel
theorem dX2_canGo_20 : decode cX2_canGo 20 = .ok (.iconst 0, 1) := by decide +kernel
theorem dX2_canGo_21 : decode cX2_canGo 21 = .ok (.ireturn, 1) := by decide +kernel
theorem dX2_canGo_22 : decode cX2_canGo 22 = .ok (.aload_n 1, 1) := by decide +kernel
theorem dX2_canGo_23 : decode cX2_canGo 23 = .ok (.getfield 40, 3) := by decide +kernel
theorem dX2_canGo_26 : decode cX2_canGo 26 = .ok (.iload_n 2, 1) := by decide +kernel
theorem dX2_canGo_27 : decode cX2_canGo 27 = .ok (.iaload, 1) := by decide +kernel
theorem dX2_canGo_28 : decode cX2_canGo 28 = .ok (.aload_n 0, 1) := by decide +kernel
theorem dX2_canGo_29 : decode cX2_canGo 29 = .ok (.invokevirtual 33, 3) := by decide +kernel
theorem dX2_canGo_32 : decode cX2_canGo 32 = .ok (.if_icmp .ne 18, 3) := by decide +kernel
theorem dX2_canGo_35 : decode cX2_canGo 35 = .ok (.iload_n 3, 1) := by decide +kernel
theorem dX2_canGo_36 : decode cX2_canGo 36 = .ok (.ifCond .eq 10, 3) := by decide +kernel
theorem dX2_canGo_39 : decode cX2_canGo 39 = .ok (.aload_n 0, 1) := by decide +kernel
theorem dX2_canGo_40 : decode cX2_canGo 40 = .ok (.invokevirtual 43, 3) := by decide +kernel
theorem dX2_canGo_43 : decode cX2_canGo 43 = .ok (.ifCond .le 7, 3) := by decide +kernel
theorem dX2_canGo_46 : decode cX2_canGo 46 = .ok (.iconst 1, 1) := by decide +kernel
theorem dX2_canGo_47 : decode cX2_canGo 47 = .ok (.goto 4, 3) := by decide +kernel
theorem dX2_canGo_50 : decode cX2_canGo 50 = .ok (.iconst 0, 1) := by decide +kernel
theorem dX2_canGo_51 : decode cX2_canGo 51 = .ok (.ireturn, 1) := by decide +kernel
theorem dX2_go_0 : decode cX2_go 0 = .ok (.aload_n 0, 1) := by decide +kernel
theorem dX2_go_1 : decode cX2_go 1 = .ok (.getfield 21, 3) := by decide +kernel
theorem dX2_go_4 : decode cX2_go 4 = .ok (.bipush 20, 2) := by decide +kernel
theorem dX2_go_6 : decode cX2_go 6 = .ok (.if_icmp .ge 99, 3) := by decide +kernel
theorem dX2_go_9 : decode cX2_go 9 = .ok (.iload_n 3, 1) := by decide +kernel
theorem dX2_go_10 : decode cX2_go 10 = .ok (.ifCond .eq 12, 3) := by decide +kernel
theorem dX2_go_13 : decode cX2_go 13 = .ok (.aload_n 1, 1) := by decide +kernel
theorem dX2_go_14 : decode cX2_go 14 = .ok (.getfield 46, 3) := by decide +kernel
theorem dX2_go_17 : decode cX2_go 17 = .ok (.iload_n 2, 1) := by decide +kernel
theorem dX2_go_18 : decode cX2_go 18 = .ok (.iaload, 1) := by decide +kernel
theorem dX2_go_19 : decode cX2_go 19 = .ok (.goto 4, 3) := by decide +kernel
theorem dX2_go_22 : decode cX2_go 22 = .ok (.iconst 0, 1) := by decide +kernel
theorem dX2_go_23 : decode cX2_go 23 = .ok (.istore 4, 2) := by decide +kernel
theorem dX2_go_25 : decode cX2_go 25 = .ok (.aload_n 0, 1) := by decide +kernel
theorem dX2_go_26 : decode cX2_go 26 = .ok (.getfield 9, 3) := by decide +kernel
theorem dX2_go_29 : decode cX2_go 29 = .ok (.aload_n 0, 1) := by decide +kernel
theorem dX2_go_30 : decode cX2_go 30 = .ok (.getfield 21, 3) := by decide +kernel
theorem dX2_go_33 : decode cX2_go 33 = .ok (.iconst 1, 1) := by decide +kernel
theorem dX2_go_34 : decode cX2_go 34 = .ok (.iadd, 1) := by decide +kernel
theorem dX2_go_35 : decode cX2_go 35 = .ok (.aload_n 1, 1) := by decide +kernel
theorem dX2_go_36 : decode cX2_go 36 = .ok (.getfield 49, 3) := by decide +kernel
theorem dX2_go_39 : decode cX2_go 39 = .ok (.iload_n 2, 1) := by decide +kernel
theorem dX2_go_40 : decode cX2_go 40 = .ok (.iaload, 1) := by decide +kernel
theorem dX2_go_41 : decode cX2_go 41 = .ok (.iastore, 1) := by decide +kernel
theorem dX2_go_42 : decode cX2_go 42 = .ok (.aload_n 0, 1) := by decide +kernel
theorem dX2_go_43 : decode cX2_go 43 = .ok (.getfield 15, 3) := by decide +kernel
theorem dX2_go_46 : decode cX2_go 46 = .ok (.aload_n 0, 1) := by decide +kernel
theorem dX2_go_47 : decode cX2_go 47 = .ok (.getfield 21, 3) := by decide +kernel
theorem dX2_go_50 : decode cX2_go 50 = .ok (.iconst 1, 1) := by decide +kernel
theorem dX2_go_51 : decode cX2_go 51 = .ok (.iadd, 1) := by decide +kernel
theorem dX2_go_52 : decode cX2_go 52 = .ok (.aload_n 0, 1) := by decide +kernel
theorem dX2_go_53 : decode cX2_go 53 = .ok (.invokevirtual 52, 3) := by decide +kernel
theorem dX2_go_56 : decode cX2_go 56 = .ok (.aload_n 1, 1) := by decide +kernel
theorem dX2_go_57 : decode cX2_go 57 = .ok (.getfield 55, 3) := by decide +kernel
theorem dX2_go_60 : decode cX2_go 60 = .ok (.iload_n 2, 1) := by decide +kernel
theorem dX2_go_61 : decode cX2_go 61 = .ok (.iaload, 1) := by decide +kernel
theorem dX2_go_62 : decode cX2_go 62 = .ok (.iadd, 1) := by decide +kernel
theorem dX2_go_63 : decode cX2_go 63 = .ok (.iload 4, 2) := by decide +kernel
theorem dX2_go_65 : decode cX2_go 65 = .ok (.iadd, 1) := by decide +kernel
theorem dX2_go_66 : decode cX2_go 66 = .ok (.iastore, 1) := by decide +kernel
theorem dX2_go_67 : decode cX2_go 67 = .ok (.aload_n 0, 1) := by decide +kernel
theorem dX2_go_68 : decode cX2_go 68 = .ok (.getfield 18, 3) := by decide +kernel
theorem dX2_go_71 : decode cX2_go 71 = .ok (.aload_n 0, 1) := by decide +kernel
theorem dX2_go_72 : decode cX2_go 72 = .ok (.getfield 21, 3) := by decide +kernel
theorem dX2_go_75 : decode cX2_go 75 = .ok (.iconst 1, 1) := by decide +kernel
theorem dX2_go_76 : decode cX2_go 76 = .ok (.iadd, 1) := by decide +kernel
theorem dX2_go_77 : decode cX2_go 77 = .ok (.iload_n 3, 1) := by decide +kernel
theorem dX2_go_78 : decode cX2_go 78 = .ok (.ifCond .eq 12, 3) := by decide +kernel
theorem dX2_go_81 : decode cX2_go 81 = .ok (.aload_n 0, 1) := by decide +kernel
theorem dX2_go_82 : decode cX2_go 82 = .ok (.invokevirtual 43, 3) := by decide +kernel
theorem dX2_go_85 : decode cX2_go 85 = .ok (.iconst 1, 1) := by decide +kernel
theorem dX2_go_86 : decode cX2_go 86 = .ok (.isub, 1) := by decide +kernel
theorem dX2_go_87 : decode cX2_go 87 = .ok (.goto 7, 3) := by decide +kernel
theorem dX2_go_90 : decode cX2_go 90 = .ok (.aload_n 0, 1) := by decide +kernel
theorem dX2_go_91 : decode cX2_go 91 = .ok (.invokevirtual 43, 3) := by decide +kernel
theorem dX2_go_94 : decode cX2_go 94 = .ok (.iastore, 1) := by decide +kernel
theorem dX2_go_95 : decode cX2_go 95 = .ok (.aload_n 0, 1) := by decide +kernel
theorem dX2_go_96 : decode cX2_go 96 = .ok (.dup, 1) := by decide +kernel
theorem dX2_go_97 : decode cX2_go 97 = .ok (.getfield 21, 3) := by decide +kernel
theorem dX2_go_100 : decode cX2_go 100 = .ok (.iconst 1, 1) := by decide +kernel
theorem dX2_go_101 : decode cX2_go 101 = .ok (.iadd, 1) := by decide +kernel
theorem dX2_go_102 : decode cX2_go 102 = .ok (.putfield 21, 3) := by decide +kernel
theorem dX2_go_105 : decode cX2_go 105 = .ok (.return_, 1) := by decide +kernel
theorem dX2_copyFrom_0 : decode cX2_copyFrom 0 = .ok (.aload_n 0, 1) := by decide +kernel
theorem dX2_copyFrom_1 : decode cX2_copyFrom 1 = .ok (.aload_n 1, 1) := by decide +kernel
theorem dX2_copyFrom_2 : decode cX2_copyFrom 2 = .ok (.getfield 21, 3) := by decide +kernel
theorem dX2_copyFrom_5 : decode cX2_copyFrom 5 = .ok (.putfield 21, 3) := by decide +kernel
theorem dX2_copyFrom_8 : decode cX2_copyFrom 8 = .ok (.aload_n 1, 1) := by decide +kernel
theorem dX2_copyFrom_9 : decode cX2_copyFrom 9 = .ok (.getfield 9, 3) := by decide +kernel
theorem dX2_copyFrom_12 : decode cX2_copyFrom 12 = .ok (.iconst 0, 1) := by decide +kernel
theorem dX2_copyFrom_13 : decode cX2_copyFrom 13 = .ok (.aload_n 0, 1) := by decide +kernel
theorem dX2_copyFrom_14 : decode cX2_copyFrom 14 = .ok (.getfield 9, 3) := by decide +kernel
theorem dX2_copyFrom_17 : decode cX2_copyFrom 17 = .ok (.iconst 0, 1) := by decide +kernel
theorem dX2_copyFrom_18 : decode cX2_copyFrom 18 = .ok (.bipush 21, 2) := by decide +kernel
theorem dX2_copyFrom_20 : decode cX2_copyFrom 20 = .ok (.invokestatic 58, 3) := by decide +kernel
theorem dX2_copyFrom_23 : decode cX2_copyFrom 23 = .ok (.aload_n 1, 1) := by decide +kernel
theorem dX2_copyFrom_24 : decode cX2_copyFrom 24 = .ok (.getfield 15, 3) := by decide +kernel
theorem dX2_copyFrom_27 : decode cX2_copyFrom 27 = .ok (.iconst 0, 1) := by decide +kernel
theorem dX2_copyFrom_28 : decode cX2_copyFrom 28 = .ok (.aload_n 0, 1) := by decide +kernel
theorem dX2_copyFrom_29 : decode cX2_copyFrom 29 = .ok (.getfield 15, 3) := by decide +kernel
theorem dX2_copyFrom_32 : decode cX2_copyFrom 32 = .ok (.iconst 0, 1) := by decide +kernel
theorem dX2_copyFrom_33 : decode cX2_copyFrom 33 = .ok (.bipush 21, 2) := by decide +kernel
theorem dX2_copyFrom_35 : decode cX2_copyFrom 35 = .ok (.invokestatic 58, 3) := by decide +kernel
theorem dX2_copyFrom_38 : decode cX2_copyFrom 38 = .ok (.aload_n 1, 1) := by decide +kernel
theorem dX2_copyFrom_39 : decode cX2_copyFrom 39 = .ok (.getfield 18, 3) := by decide +kernel
theorem dX2_copyFrom_42 : decode cX2_copyFrom 42 = .ok (.iconst 0, 1) := by decide +kernel
theorem dX2_copyFrom_43 : decode cX2_copyFrom 43 = .ok (.aload_n 0, 1) := by decide +kernel
theorem dX2_copyFrom_44 : decode cX2_copyFrom 44 = .ok (.getfield 18, 3) := by decide +kernel
theorem dX2_copyFrom_47 : decode cX2_copyFrom 47 = .ok (.iconst 0, 1) := by decide +kernel
theorem dX2_copyFrom_48 : decode cX2_copyFrom 48 = .ok (.bipush 21, 2) := by decide +kernel
theorem dX2_copyFrom_50 : decode cX2_copyFrom 50 = .ok (.invokestatic 58, 3) := by decide +kernel
theorem dX2_copyFrom_53 : decode cX2_copyFrom 53 = .ok (.return_, 1) := by decide +kernel
theorem dX3_init_0 : decode cX3_init 0 = .ok (.aload_n 0, 1) := by decide +kernel
theorem dX3_init_1 : decode cX3_init 1 = .ok (.invokespecial 3, 3) := by decide +kernel
theorem dX3_init_4 : decode cX3_init 4 = .ok (.aload_n 0, 1) := by decide +kernel
theorem dX3_init_5 : decode cX3_init 5 = .ok (.bipush 8, 2) := by decide +kernel
theorem dX3_init_7 : decode cX3_init 7 = .ok (.newarray .int, 2) := by decide +kernel
theorem dX3_init_9 : decode cX3_init 9 = .ok (.putfield 9, 3) := by decide +kernel
theorem dX3_init_12 : decode cX3_init 12 = .ok (.aload_n 0, 1) := by decide +kernel
theorem dX3_init_13 : decode cX3_init 13 = .ok (.iconst (-1), 1) := by decide +kernel
theorem dX3_init_14 : decode cX3_init 14 = .ok (.putfield 15, 3) := by decide +kernel
theorem dX3_init_17 : decode cX3_init 17 = .ok (.aload_n 0, 1) := by decide +kernel
theorem dX3_init_18 : decode cX3_init 18 = .ok (.iconst 0, 1) := by decide +kernel
theorem dX3_init_19 : decode cX3_init 19 = .ok (.putfield 19, 3) := by decide +kernel
theorem dX3_init_22 : decode cX3_init 22 = .ok (.aload_n 0, 1) := by decide +kernel
theorem dX3_init_23 : decode cX3_init 23 = .ok (.aload_n 1, 1) := by decide +kernel
theorem dX3_init_24 : decode cX3_init 24 = .ok (.putfield 22, 3) := by decide +kernel
theorem dX3_init_27 : decode cX3_init 27 = .ok (.aload_n 0, 1) := by decide +kernel
theorem dX3_init_28 : decode cX3_init 28 = .ok (.aload_n 1, 1) := by decide +kernel
theorem dX3_init_29 : decode cX3_init 29 = .ok (.getfield 26, 3) := by decide +kernel
theorem dX3_init_32 : decode cX3_init 32 = .ok (.putfield 32, 3) := by decide +kernel
theorem dX3_init_35 : decode cX3_init 35 = .ok (.return_, 1) := by decide +kernel
theorem dX3_shortestCost_0 : decode cX3_shortestCost 0 = .ok (.aload_n 0, 1) := by decide +kernel
theorem dX3_shortestCost_1 : decode cX3_shortestCost 1 = .ok (.getfield 9, 3) := by decide +kernel
theorem dX3_shortestCost_4 : decode cX3_shortestCost 4 = .ok (.ldc 33, 2) := by decide +kernel
theorem dX3_shortestCost_6 : decode cX3_shortestCost 6 = .ok (.invokestatic 34, 3) := by decide +kernel
theorem dX3_shortestCost_9 : decode cX3_shortestCost 9 = .ok (.aload_n 0, 1) := by decide +kernel
theorem dX3_shortestCost_10 : decode cX3_shortestCost 10 = .ok (.getfield 9, 3) := by decide +kernel
theorem dX3_shortestCost_13 : decode cX3_shortestCost 13 = .ok (.aload_n 0, 1) := by decide +kernel
theorem dX3_shortestCost_14 : decode cX3_shortestCost 14 = .ok (.getfield 32, 3) := by decide +kernel
theorem dX3_shortestCost_17 : decode cX3_shortestCost 17 = .ok (.getfield 40, 3) := by decide +kernel
theorem dX3_shortestCost_20 : decode cX3_shortestCost 20 = .ok (.iconst 0, 1) := by decide +kernel
theorem dX3_shortestCost_21 : decode cX3_shortestCost 21 = .ok (.iastore, 1) := by decide +kernel
theorem dX3_shortestCost_22 : decode cX3_shortestCost 22 = .ok (.iconst 1, 1) := by decide +kernel
theorem dX3_shortestCost_23 : decode cX3_shortestCost 23 = .ok (.istore_n 2, 1) := by decide +kernel
theorem dX3_shortestCost_24 : decode cX3_shortestCost 24 = .ok (.iconst 0, 1) := by decide +kernel
theorem dX3_shortestCost_25 : decode cX3_shortestCost 25 = .ok (.istore_n 3, 1) := by decide +kernel
theorem dX3_shortestCost_26 : decode cX3_shortestCost 26 = .ok (.iload_n 3, 1) := by decide +kernel
theorem dX3_shortestCost_27 : decode cX3_shortestCost 27 = .ok (.bipush 8, 2) := by decide +kernel
theorem dX3_shortestCost_29 : decode cX3_shortestCost 29 = .ok (.if_icmp .ge 99, 3) := by decide +kernel
theorem dX3_shortestCost_32 : decode cX3_shortestCost 32 = .ok (.iload_n 2, 1) := by decide +kernel
theorem dX3_shortestCost_33 : decode cX3_shortestCost 33 = .ok (.ifCond .eq 95, 3) := by decide +kernel
theorem dX3_shortestCost_36 : decode cX3_shortestCost 36 = .ok (.iconst 0, 1) := by decide +kernel
theorem dX3_shortestCost_37 : decode cX3_shortestCost 37 = .ok (.istore_n 2, 1) := by decide +kernel
theorem dX3_shortestCost_38 : decode cX3_shortestCost 38 = .ok (.iconst 0, 1) := by decide +kernel
theorem dX3_shortestCost_39 : decode cX3_shortestCost 39 = .ok (.istore 4, 2) := by decide +kernel
theorem dX3_shortestCost_41 : decode cX3_shortestCost 41 = .ok (.iload 4, 2) := by decide +kernel
theorem dX3_shortestCost_43 : decode cX3_shortestCost 43 = .ok (.aload_n 0, 1) := by decide +kernel
theorem dX3_shortestCost_44 : decode cX3_shortestCost 44 = .ok (.getfield 32, 3) := by decide +kernel
theorem dX3_shortestCost_47 : decode cX3_shortestCost 47 = .ok (.getfield 45, 3) := by decide +kernel
theorem dX3_shortestCost_50 : decode cX3_shortestCost 50 = .ok (.if_icmp .ge 72, 3) := by decide +kernel
theorem dX3_shortestCost_53 : decode cX3_shortestCost 53 = .ok (.aload_n 0, 1) := by decide +kernel
theorem dX3_shortestCost_54 : decode cX3_shortestCost 54 = .ok (.getfield 32, 3) := by decide +kernel
theorem dX3_shortestCost_57 : decode cX3_shortestCost 57 = .ok (.getfield 48, 3) := by decide +kernel
theorem dX3_shortestCost_60 : decode cX3_shortestCost 60 = .ok (.iload 4, 2) := by decide +kernel
theorem dX3_shortestCost_62 : decode cX3_shortestCost 62 = .ok (.iaload, 1) := by decide +kernel
theorem dX3_shortestCost_63 : decode cX3_shortestCost 63 = .ok (.istore 5, 2) := by decide +kernel
theorem dX3_shortestCost_65 : decode cX3_shortestCost 65 = .ok (.aload_n 0, 1) := by decide +kernel
theorem dX3_shortestCost_66 : decode cX3_shortestCost 66 = .ok (.getfield 9, 3) := by decide +kernel
theorem dX3_shortestCost_69 : decode cX3_shortestCost 69 = .ok (.aload_n 0, 1) := by decide +kernel
theorem dX3_shortestCost_70 : decode cX3_shortestCost 70 = .ok (.getfield 32, 3) := by decide +kernel
theorem dX3_shortestCost_73 : decode cX3_shortestCost 73 = .ok (.getfield 51, 3) := by decide +kernel
theorem dX3_shortestCost_76 : decode cX3_shortestCost 76 = .ok (.iload 4, 2) := by decide +kernel
theorem dX3_shortestCost_78 : decode cX3_shortestCost 78 = .ok (.iaload, 1) := by decide +kernel
theorem dX3_shortestCost_79 : decode cX3_shortestCost 79 = .ok (.iaload, 1) := by decide +kernel
theorem dX3_shortestCost_80 : decode cX3_shortestCost 80 = .ok (.aload_n 0, 1) := by decide +kernel
theorem dX3_shortestCost_81 : decode cX3_shortestCost 81 = .ok (.getfield 32, 3) := by decide +kernel
theorem dX3_shortestCost_84 : decode cX3_shortestCost 84 = .ok (.iload 4, 2) := by decide +kernel
theorem dX3_shortestCost_86 : decode cX3_shortestCost 86 = .ok (.iload_n 1, 1) := by decide +kernel
theorem dX3_shortestCost_87 : decode cX3_shortestCost 87 = .ok (.invokevirtual 54, 3) := by decide +kernel
theorem dX3_shortestCost_90 : decode cX3_shortestCost 90 = .ok (.iadd, 1) := by decide +kernel
theorem dX3_shortestCost_91 : decode cX3_shortestCost 91 = .ok (.istore 6, 2) := by decide +kernel
theorem dX3_shortestCost_93 : decode cX3_shortestCost 93 = .ok (.iload 6, 2) := by decide +kernel
theorem dX3_shortestCost_95 : decode cX3_shortestCost 95 = .ok (.aload_n 0, 1) := by decide +kernel
theorem dX3_shortestCost_96 : decode cX3_shortestCost 96 = .ok (.getfield 9, 3) := by decide +kernel
theorem dX3_shortestCost_99 : decode cX3_shortestCost 99 = .ok (.iload 5, 2) := by decide +kernel
theorem dX3_shortestCost_101 : decode cX3_shortestCost 101 = .ok (.iaload, 1) := by decide +kernel
theorem dX3_shortestCost_102 : decode cX3_shortestCost 102 = .ok (.if_icmp .ge 14, 3) := by decide +kernel
theorem dX3_shortestCost_105 : decode cX3_shortestCost 105 = .ok (.aload_n 0, 1) := by decide +kernel
theorem dX3_shortestCost_106 : decode cX3_shortestCost 106 = .ok (.getfield 9, 3) := by decide +kernel
theorem dX3_shortestCost_109 : decode cX3_shortestCost 109 = .ok (.iload 5, 2) := by decide +kernel
theorem dX3_shortestCost_111 : decode cX3_shortestCost 111 = .ok (.iload 6, 2) := by decide +kernel
theorem dX3_shortestCost_113 : decode cX3_shortestCost 113 = .ok (.iastore, 1) := by decide +kernel
theorem dX3_shortestCost_114 : decode cX3_shortestCost 114 = .ok (.iconst 1, 1) := by decide +kernel
theorem dX3_shortestCost_115 : decode cX3_shortestCost 115 = .ok (.istore_n 2, 1) := by decide +kernel
theorem dX3_shortestCost_116 : decode cX3_shortestCost 116 = .ok (.iinc 4 1, 3) := by decide +kernel
theorem dX3_shortestCost_119 : decode cX3_shortestCost 119 = .ok (.goto (-78), 3) := by decide +kernel
theorem dX3_shortestCost_122 : decode cX3_shortestCost 122 = .ok (.iinc 3 1, 3) := by decide +kernel
theorem dX3_shortestCost_125 : decode cX3_shortestCost 125 = .ok (.goto (-99), 3) := by decide +kernel
theorem dX3_shortestCost_128 : decode cX3_shortestCost 128 = .ok (.aload_n 0, 1) := by decide +kernel
theorem dX3_shortestCost_129 : decode cX3_shortestCost 129 = .ok (.getfield 9, 3) := by decide +kernel
theorem dX3_shortestCost_132 : decode cX3_shortestCost 132 = .ok (.aload_n 0, 1) := by decide +kernel
theorem dX3_shortestCost_133 : decode cX3_shortestCost 133 = .ok (.getfield 32, 3) := by decide +kernel
theorem dX3_shortestCost_136 : decode cX3_shortestCost 136 = .ok (.getfield 58, 3) := by decide +kernel
theorem dX3_shortestCost_139 : decode cX3_shortestCost 139 = .ok (.iaload, 1) := by decide +kernel
theorem dX3_shortestCost_140 : decode cX3_shortestCost 140 = .ok (.istore_n 3, 1) := by decide +kernel
theorem dX3_shortestCost_141 : decode cX3_shortestCost 141 = .ok (.iload_n 3, 1) := by decide +kernel
theorem dX3_shortestCost_142 : decode cX3_shortestCost 142 = .ok (.ldc 33, 2) := by decide +kernel
theorem dX3_shortestCost_144 : decode cX3_shortestCost 144 = .ok (.if_icmp .ge 7, 3) := by decide +kernel
theorem dX3_shortestCost_147 : decode cX3_shortestCost 147 = .ok (.iload_n 3, 1) := by decide +kernel
theorem dX3_shortestCost_148 : decode cX3_shortestCost 148 = .ok (.goto 4, 3) := by decide +kernel
theorem dX3_shortestCost_151 : decode cX3_shortestCost 151 = .ok (.iconst (-1), 1) := by decide +kernel
theorem dX3_shortestCost_152 : decode cX3_shortestCost 152 = .ok (.ireturn, 1) := by decide +kernel
theorem dX3_leastToldCost_0 : decode cX3_leastToldCost 0 = .ok (.ldc 33, 2) := by decide +kernel
theorem dX3_leastToldCost_2 : decode cX3_leastToldCost 2 = .ok (.istore_n 2, 1) := by decide +kernel
theorem dX3_leastToldCost_3 : decode cX3_leastToldCost 3 = .ok (.iconst 0, 1) := by decide +kernel
theorem dX3_leastToldCost_4 : decode cX3_leastToldCost 4 = .ok (.istore_n 3, 1) := by decide +kernel
theorem dX3_leastToldCost_5 : decode cX3_leastToldCost 5 = .ok (.iload_n 3, 1) := by decide +kernel
theorem dX3_leastToldCost_6 : decode cX3_leastToldCost 6 = .ok (.aload_n 0, 1) := by decide +kernel
theorem dX3_leastToldCost_7 : decode cX3_leastToldCost 7 = .ok (.getfield 22, 3) := by decide +kernel
theorem dX3_leastToldCost_10 : decode cX3_leastToldCost 10 = .ok (.getfield 61, 3) := by decide +kernel
theorem dX3_leastToldCost_13 : decode cX3_leastToldCost 13 = .ok (.if_icmp .ge 31, 3) := by decide +kernel
theorem dX3_leastToldCost_16 : decode cX3_leastToldCost 16 = .ok (.iload_n 2, 1) := by decide +kernel
theorem dX3_leastToldCost_17 : decode cX3_leastToldCost 17 = .ok (.aload_n 0, 1) := by decide +kernel
theorem dX3_leastToldCost_18 : decode cX3_leastToldCost 18 = .ok (.getfield 32, 3) := by decide +kernel
theorem dX3_leastToldCost_21 : decode cX3_leastToldCost 21 = .ok (.aload_n 0, 1) := by decide +kernel
theorem dX3_leastToldCost_22 : decode cX3_leastToldCost 22 = .ok (.getfield 22, 3) := by decide +kernel
theorem dX3_leastToldCost_25 : decode cX3_leastToldCost 25 = .ok (.getfield 64, 3) := by decide +kernel
theorem dX3_leastToldCost_28 : decode cX3_leastToldCost 28 = .ok (.iload_n 3, 1) := by decide +kernel
theorem dX3_leastToldCost_29 : decode cX3_leastToldCost 29 = .ok (.aaload, 1) := by decide +kernel
theorem dX3_leastToldCost_30 : decode cX3_leastToldCost 30 = .ok (.iload_n 1, 1) := by decide +kernel
theorem dX3_leastToldCost_31 : decode cX3_leastToldCost 31 = .ok (.invokevirtual 68, 3) := by decide +kernel
theorem dX3_leastToldCost_34 : decode cX3_leastToldCost 34 = .ok (.invokestatic 72, 3) := by decide +kernel
theorem dX3_leastToldCost_37 : decode cX3_leastToldCost 37 = .ok (.istore_n 2, 1) := by decide +kernel
theorem dX3_leastToldCost_38 : decode cX3_leastToldCost 38 = .ok (.iinc 3 1, 3) := by decide +kernel
theorem dX3_leastToldCost_41 : decode cX3_leastToldCost 41 = .ok (.goto (-36), 3) := by decide +kernel
theorem dX3_leastToldCost_44 : decode cX3_leastToldCost 44 = .ok (.iload_n 2, 1) := by decide +kernel
theorem dX3_leastToldCost_45 : decode cX3_leastToldCost 45 = .ok (.ireturn, 1) := by decide +kernel
theorem dX3_regretOf_0 : decode cX3_regretOf 0 = .ok (.aload_n 0, 1) := by decide +kernel
theorem dX3_regretOf_1 : decode cX3_regretOf 1 = .ok (.aload_n 1, 1) := by decide +kernel
theorem dX3_regretOf_2 : decode cX3_regretOf 2 = .ok (.iconst 0, 1) := by decide +kernel
theorem dX3_regretOf_3 : decode cX3_regretOf 3 = .ok (.ldc 33, 2) := by decide +kernel
theorem dX3_regretOf_5 : decode cX3_regretOf 5 = .ok (.invokevirtual 77, 3) := by decide +kernel
theorem dX3_regretOf_8 : decode cX3_regretOf 8 = .ok (.aload_n 0, 1) := by decide +kernel
theorem dX3_regretOf_9 : decode cX3_regretOf 9 = .ok (.getfield 15, 3) := by decide +kernel
theorem dX3_regretOf_12 : decode cX3_regretOf 12 = .ok (.ireturn, 1) := by decide +kernel
theorem dX3_regretWitnessOf_0 : decode cX3_regretWitnessOf 0 = .ok (.aload_n 0, 1) := by decide +kernel
theorem dX3_regretWitnessOf_1 : decode cX3_regretWitnessOf 1 = .ok (.aload_n 1, 1) := by decide +kernel
theorem dX3_regretWitnessOf_2 : decode cX3_regretWitnessOf 2 = .ok (.iconst 0, 1) := by decide +kernel
theorem dX3_regretWitnessOf_3 : decode cX3_regretWitnessOf 3 = .ok (.ldc 33, 2) := by decide +kernel
theorem dX3_regretWitnessOf_5 : decode cX3_regretWitnessOf 5 = .ok (.invokevirtual 77, 3) := by decide +kernel
theorem dX3_regretWitnessOf_8 : decode cX3_regretWitnessOf 8 = .ok (.aload_n 0, 1) := by decide +kernel
theorem dX3_regretWitnessOf_9 : decode cX3_regretWitnessOf 9 = .ok (.getfield 19, 3) := by decide +kernel
theorem dX3_regretWitnessOf_12 : decode cX3_regretWitnessOf 12 = .ok (.ireturn, 1) := by decide +kernel
theorem dX3_toldRegretOf_0 : decode cX3_toldRegretOf 0 = .ok (.aload_n 0, 1) := by decide +kernel
theorem dX3_toldRegretOf_1 : decode cX3_toldRegretOf 1 = .ok (.aload_n 1, 1) := by decide +kernel
theorem dX3_toldRegretOf_2 : decode cX3_toldRegretOf 2 = .ok (.iconst 1, 1) := by decide +kernel
theorem dX3_toldRegretOf_3 : decode cX3_toldRegretOf 3 = .ok (.ldc 33, 2) := by decide +kernel
theorem dX3_toldRegretOf_5 : decode cX3_toldRegretOf 5 = .ok (.invokevirtual 77, 3) := by decide +kernel
theorem dX3_toldRegretOf_8 : decode cX3_toldRegretOf 8 = .ok (.aload_n 0, 1) := by decide +kernel
theorem dX3_toldRegretOf_9 : decode cX3_toldRegretOf 9 = .ok (.getfield 15, 3) := by decide +kernel
theorem dX3_toldRegretOf_12 : decode cX3_toldRegretOf 12 = .ok (.ireturn, 1) := by decide +kernel
theorem dX3_findGreatest_0 : decode cX3_findGreatest 0 = .ok (.aload_n 0, 1) := by decide +kernel
theorem dX3_findGreatest_1 : decode cX3_findGreatest 1 = .ok (.iconst (-1), 1) := by decide +kernel
theorem dX3_findGreatest_2 : decode cX3_findGreatest 2 = .ok (.putfield 15, 3) := by decide +kernel
theorem dX3_findGreatest_5 : decode cX3_findGreatest 5 = .ok (.aload_n 0, 1) := by decide +kernel
theorem dX3_findGreatest_6 : decode cX3_findGreatest 6 = .ok (.iconst 0, 1) := by decide +kernel
theorem dX3_findGreatest_7 : decode cX3_findGreatest 7 = .ok (.putfield 19, 3) := by decide +kernel
theorem dX3_findGreatest_10 : decode cX3_findGreatest 10 = .ok (.iconst 1, 1) := by decide +kernel
theorem dX3_findGreatest_11 : decode cX3_findGreatest 11 = .ok (.aload_n 1, 1) := by decide +kernel
theorem dX3_findGreatest_12 : decode cX3_findGreatest 12 = .ok (.getfield 81, 3) := by decide +kernel
theorem dX3_findGreatest_15 : decode cX3_findGreatest 15 = .ok (.ishl, 1) := by decide +kernel
theorem dX3_findGreatest_16 : decode cX3_findGreatest 16 = .ok (.iconst 1, 1) := by decide +kernel
theorem dX3_findGreatest_17 : decode cX3_findGreatest 17 = .ok (.isub, 1) := by decide +kernel
theorem dX3_findGreatest_18 : decode cX3_findGreatest 18 = .ok (.istore 4, 2) := by decide +kernel
theorem dX3_findGreatest_20 : decode cX3_findGreatest 20 = .ok (.iload 4, 2) := by decide +kernel
theorem dX3_findGreatest_22 : decode cX3_findGreatest 22 = .ok (.ifCond .lt 80, 3) := by decide +kernel
theorem dX3_findGreatest_25 : decode cX3_findGreatest 25 = .ok (.aload_n 0, 1) := by decide +kernel
theorem dX3_findGreatest_26 : decode cX3_findGreatest 26 = .ok (.getfield 15, 3) := by decide +kernel
theorem dX3_findGreatest_29 : decode cX3_findGreatest 29 = .ok (.iload_n 3, 1) := by decide +kernel
theorem dX3_findGreatest_30 : decode cX3_findGreatest 30 = .ok (.if_icmp .gt 72, 3) := by decide +kernel
theorem dX3_findGreatest_33 : decode cX3_findGreatest 33 = .ok (.iload 4, 2) := by decide +kernel
theorem dX3_findGreatest_35 : decode cX3_findGreatest 35 = .ok (.invokestatic 86, 3) := by decide +kernel
theorem dX3_findGreatest_38 : decode cX3_findGreatest 38 = .ok (.aload_n 0, 1) := by decide +kernel
theorem dX3_findGreatest_39 : decode cX3_findGreatest 39 = .ok (.getfield 32, 3) := by decide +kernel
theorem dX3_findGreatest_42 : decode cX3_findGreatest 42 = .ok (.getfield 92, 3) := by decide +kernel
theorem dX3_findGreatest_45 : decode cX3_findGreatest 45 = .ok (.if_icmp .gt 51, 3) := by decide +kernel
theorem dX3_findGreatest_48 : decode cX3_findGreatest 48 = .ok (.aload_n 1, 1) := by decide +kernel
theorem dX3_findGreatest_49 : decode cX3_findGreatest 49 = .ok (.iload 4, 2) := by decide +kernel
theorem dX3_findGreatest_51 : decode cX3_findGreatest 51 = .ok (.invokevirtual 95, 3) := by decide +kernel
theorem dX3_findGreatest_54 : decode cX3_findGreatest 54 = .ok (.istore 5, 2) := by decide +kernel
theorem dX3_findGreatest_56 : decode cX3_findGreatest 56 = .ok (.iload_n 2, 1) := by decide +kernel
theorem dX3_findGreatest_57 : decode cX3_findGreatest 57 = .ok (.ifCond .eq 12, 3) := by decide +kernel
theorem dX3_findGreatest_60 : decode cX3_findGreatest 60 = .ok (.aload_n 0, 1) := by decide +kernel
theorem dX3_findGreatest_61 : decode cX3_findGreatest 61 = .ok (.iload 5, 2) := by decide +kernel
theorem dX3_findGreatest_63 : decode cX3_findGreatest 63 = .ok (.invokevirtual 98, 3) := by decide +kernel
theorem dX3_findGreatest_66 : decode cX3_findGreatest 66 = .ok (.goto 9, 3) := by decide +kernel
theorem dX3_findGreatest_69 : decode cX3_findGreatest 69 = .ok (.aload_n 0, 1) := by decide +kernel
theorem dX3_findGreatest_70 : decode cX3_findGreatest 70 = .ok (.iload 5, 2) := by decide +kernel
theorem dX3_findGreatest_72 : decode cX3_findGreatest 72 = .ok (.invokevirtual 101, 3) := by decide +kernel
theorem dX3_findGreatest_75 : decode cX3_findGreatest 75 = .ok (.istore 6, 2) := by decide +kernel
theorem dX3_findGreatest_77 : decode cX3_findGreatest 77 = .ok (.aload_n 0, 1) := by decide +kernel
theorem dX3_findGreatest_78 : decode cX3_findGreatest 78 = .ok (.aload_n 0, 1) := by decide +kernel
theorem dX3_findGreatest_79 : decode cX3_findGreatest 79 = .ok (.getfield 32, 3) := by decide +kernel
theorem dX3_findGreatest_82 : decode cX3_findGreatest 82 = .ok (.aload_n 1, 1) := by decide +kernel
theorem dX3_findGreatest_83 : decode cX3_findGreatest 83 = .ok (.iload 5, 2) := by decide +kernel
theorem dX3_findGreatest_85 : decode cX3_findGreatest 85 = .ok (.invokevirtual 68, 3) := by decide +kernel
theorem dX3_findGreatest_88 : decode cX3_findGreatest 88 = .ok (.iload 6, 2) := by decide +kernel
theorem dX3_findGreatest_90 : decode cX3_findGreatest 90 = .ok (.isub, 1) := by decide +kernel
theorem dX3_findGreatest_91 : decode cX3_findGreatest 91 = .ok (.iload 5, 2) := by decide +kernel
theorem dX3_findGreatest_93 : decode cX3_findGreatest 93 = .ok (.invokevirtual 104, 3) := by decide +kernel
theorem dX3_findGreatest_96 : decode cX3_findGreatest 96 = .ok (.iinc 4 (-1), 3) := by decide +kernel
theorem dX3_findGreatest_99 : decode cX3_findGreatest 99 = .ok (.goto (-79), 3) := by decide +kernel
theorem dX3_findGreatest_102 : decode cX3_findGreatest 102 = .ok (.return_, 1) := by decide +kernel
theorem dX3_keepGreater_0 : decode cX3_keepGreater 0 = .ok (.iload_n 1, 1) := by decide +kernel
theorem dX3_keepGreater_1 : decode cX3_keepGreater 1 = .ok (.aload_n 0, 1) := by decide +kernel
theorem dX3_keepGreater_2 : decode cX3_keepGreater 2 = .ok (.getfield 15, 3) := by decide +kernel
theorem dX3_keepGreater_5 : decode cX3_keepGreater 5 = .ok (.if_icmp .gt 22, 3) := by decide +kernel
theorem dX3_keepGreater_8 : decode cX3_keepGreater 8 = .ok (.iload_n 1, 1) := by decide +kernel
theorem dX3_keepGreater_9 : decode cX3_keepGreater 9 = .ok (.aload_n 0, 1) := by decide +kernel
theorem dX3_keepGreater_10 : decode cX3_keepGreater 10 = .ok (.getfield 15, 3) := by decide +kernel
theorem dX3_keepGreater_13 : decode cX3_keepGreater 13 = .ok (.if_icmp .ne 24, 3) := by decide +kernel
theorem dX3_keepGreater_16 : decode cX3_keepGreater 16 = .ok (.iload_n 2, 1) := by decide +kernel
theorem dX3_keepGreater_17 : decode cX3_keepGreater 17 = .ok (.aload_n 0, 1) := by decide +kernel
theorem dX3_keepGreater_18 : decode cX3_keepGreater 18 = .ok (.getfield 19, 3) := by decide +kernel
theorem dX3_keepGreater_21 : decode cX3_keepGreater 21 = .ok (.invokestatic 108, 3) := by decide +kernel
theorem dX3_keepGreater_24 : decode cX3_keepGreater 24 = .ok (.ifCond .eq 13, 3) := by decide +kernel
theorem dX3_keepGreater_27 : decode cX3_keepGreater 27 = .ok (.aload_n 0, 1) := by decide +kernel
theorem dX3_keepGreater_28 : decode cX3_keepGreater 28 = .ok (.iload_n 1, 1) := by decide +kernel
theorem dX3_keepGreater_29 : decode cX3_keepGreater 29 = .ok (.putfield 15, 3) := by decide +kernel
theorem dX3_keepGreater_32 : decode cX3_keepGreater 32 = .ok (.aload_n 0, 1) := by decide +kernel
theorem dX3_keepGreater_33 : decode cX3_keepGreater 33 = .ok (.iload_n 2, 1) := by decide +kernel
theorem dX3_keepGreater_34 : decode cX3_keepGreater 34 = .ok (.putfield 19, 3) := by decide +kernel
theorem dX3_keepGreater_37 : decode cX3_keepGreater 37 = .ok (.return_, 1) := by decide +kernel
theorem dX3_isFirstOf_0 : decode cX3_isFirstOf 0 = .ok (.iload_n 0, 1) := by decide +kernel
theorem dX3_isFirstOf_1 : decode cX3_isFirstOf 1 = .ok (.invokestatic 86, 3) := by decide +kernel
theorem dX3_isFirstOf_4 : decode cX3_isFirstOf 4 = .ok (.istore_n 2, 1) := by decide +kernel
theorem dX3_isFirstOf_5 : decode cX3_isFirstOf 5 = .ok (.iload_n 1, 1) := by decide +kernel
theorem dX3_isFirstOf_6 : decode cX3_isFirstOf 6 = .ok (.invokestatic 86, 3) := by decide +kernel
theorem dX3_isFirstOf_9 : decode cX3_isFirstOf 9 = .ok (.istore_n 3, 1) := by decide +kernel
theorem dX3_isFirstOf_10 : decode cX3_isFirstOf 10 = .ok (.iload_n 2, 1) := by decide +kernel
theorem dX3_isFirstOf_11 : decode cX3_isFirstOf 11 = .ok (.iload_n 3, 1) := by decide +kernel
theorem dX3_isFirstOf_12 : decode cX3_isFirstOf 12 = .ok (.if_icmp .lt 13, 3) := by decide +kernel
theorem dX3_isFirstOf_15 : decode cX3_isFirstOf 15 = .ok (.iload_n 2, 1) := by decide +kernel
theorem dX3_isFirstOf_16 : decode cX3_isFirstOf 16 = .ok (.iload_n 3, 1) := by decide +kernel
theorem dX3_isFirstOf_17 : decode cX3_isFirstOf 17 = .ok (.if_icmp .ne 12, 3) := by decide +kernel
theorem dX3_isFirstOf_20 : decode cX3_isFirstOf 20 = .ok (.iload_n 0, 1) := by decide +kernel
theorem dX3_isFirstOf_21 : decode cX3_isFirstOf 21 = .ok (.iload_n 1, 1) := by decide +kernel
theorem dX3_isFirstOf_22 : decode cX3_isFirstOf 22 = .ok (.if_icmp .ge 7, 3) := by decide +kernel
theorem dX3_isFirstOf_25 : decode cX3_isFirstOf 25 = .ok (.iconst 1, 1) := by decide +kernel
theorem dX3_isFirstOf_26 : decode cX3_isFirstOf 26 = .ok (.goto 4, 3) := by decide +kernel
theorem dX3_isFirstOf_29 : decode cX3_isFirstOf 29 = .ok (.iconst 0, 1) := by decide +kernel
theorem dX3_isFirstOf_30 : decode cX3_isFirstOf 30 = .ok (.ireturn, 1) := by decide +kernel
theorem dX3_chooseTold_0 : decode cX3_chooseTold 0 = .ok (.iconst (-1), 1) := by decide +kernel
theorem dX3_chooseTold_1 : decode cX3_chooseTold 1 = .ok (.istore_n 1, 1) := by decide +kernel
theorem dX3_chooseTold_2 : decode cX3_chooseTold 2 = .ok (.ldc 33, 2) := by decide +kernel
theorem dX3_chooseTold_4 : decode cX3_chooseTold 4 = .ok (.istore_n 2, 1) := by decide +kernel
theorem dX3_chooseTold_5 : decode cX3_chooseTold 5 = .ok (.iconst 0, 1) := by decide +kernel
theorem dX3_chooseTold_6 : decode cX3_chooseTold 6 = .ok (.istore_n 3, 1) := by decide +kernel
theorem dX3_chooseTold_7 : decode cX3_chooseTold 7 = .ok (.iload_n 3, 1) := by decide +kernel
theorem dX3_chooseTold_8 : decode cX3_chooseTold 8 = .ok (.aload_n 0, 1) := by decide +kernel
theorem dX3_chooseTold_9 : decode cX3_chooseTold 9 = .ok (.getfield 22, 3) := by decide +kernel
theorem dX3_chooseTold_12 : decode cX3_chooseTold 12 = .ok (.getfield 61, 3) := by decide +kernel
theorem dX3_chooseTold_15 : decode cX3_chooseTold 15 = .ok (.if_icmp .ge 39, 3) := by decide +kernel
theorem dX3_chooseTold_18 : decode cX3_chooseTold 18 = .ok (.aload_n 0, 1) := by decide +kernel
theorem dX3_chooseTold_19 : decode cX3_chooseTold 19 = .ok (.aload_n 0, 1) := by decide +kernel
theorem dX3_chooseTold_20 : decode cX3_chooseTold 20 = .ok (.getfield 22, 3) := by decide +kernel
theorem dX3_chooseTold_23 : decode cX3_chooseTold 23 = .ok (.getfield 64, 3) := by decide +kernel
theorem dX3_chooseTold_26 : decode cX3_chooseTold 26 = .ok (.iload_n 3, 1) := by decide +kernel
theorem dX3_chooseTold_27 : decode cX3_chooseTold 27 = .ok (.aaload, 1) := by decide +kernel
theorem dX3_chooseTold_28 : decode cX3_chooseTold 28 = .ok (.iconst 1, 1) := by decide +kernel
theorem dX3_chooseTold_29 : decode cX3_chooseTold 29 = .ok (.iload_n 2, 1) := by decide +kernel
theorem dX3_chooseTold_30 : decode cX3_chooseTold 30 = .ok (.invokevirtual 77, 3) := by decide +kernel
theorem dX3_chooseTold_33 : decode cX3_chooseTold 33 = .ok (.aload_n 0, 1) := by decide +kernel
theorem dX3_chooseTold_34 : decode cX3_chooseTold 34 = .ok (.getfield 15, 3) := by decide +kernel
theorem dX3_chooseTold_37 : decode cX3_chooseTold 37 = .ok (.iload_n 2, 1) := by decide +kernel
theorem dX3_chooseTold_38 : decode cX3_chooseTold 38 = .ok (.if_icmp .ge 10, 3) := by decide +kernel
theorem dX3_chooseTold_41 : decode cX3_chooseTold 41 = .ok (.iload_n 3, 1) := by decide +kernel
theorem dX3_chooseTold_42 : decode cX3_chooseTold 42 = .ok (.istore_n 1, 1) := by decide +kernel
theorem dX3_chooseTold_43 : decode cX3_chooseTold 43 = .ok (.aload_n 0, 1) := by decide +kernel
theorem dX3_chooseTold_44 : decode cX3_chooseTold 44 = .ok (.getfield 15, 3) := by decide +kernel
theorem dX3_chooseTold_47 : decode cX3_chooseTold 47 = .ok (.istore_n 2, 1) := by decide +kernel
theorem dX3_chooseTold_48 : decode cX3_chooseTold 48 = .ok (.iinc 3 1, 3) := by decide +kernel
theorem dX3_chooseTold_51 : decode cX3_chooseTold 51 = .ok (.goto (-44), 3) := by decide +kernel
theorem dX3_chooseTold_54 : decode cX3_chooseTold 54 = .ok (.iload_n 1, 1) := by decide +kernel
theorem dX3_chooseTold_55 : decode cX3_chooseTold 55 = .ok (.ireturn, 1) := by decide +kernel
theorem dX3_isBeating_0 : decode cX3_isBeating 0 = .ok (.aload_n 0, 1) := by decide +kernel
theorem dX3_isBeating_1 : decode cX3_isBeating 1 = .ok (.getfield 32, 3) := by decide +kernel
theorem dX3_isBeating_4 : decode cX3_isBeating 4 = .ok (.aload_n 2, 1) := by decide +kernel
theorem dX3_isBeating_5 : decode cX3_isBeating 5 = .ok (.invokevirtual 112, 3) := by decide +kernel
theorem dX3_isBeating_8 : decode cX3_isBeating 8 = .ok (.istore_n 3, 1) := by decide +kernel
theorem dX3_isBeating_9 : decode cX3_isBeating 9 = .ok (.aload_n 0, 1) := by decide +kernel
theorem dX3_isBeating_10 : decode cX3_isBeating 10 = .ok (.getfield 32, 3) := by decide +kernel
theorem dX3_isBeating_13 : decode cX3_isBeating 13 = .ok (.aload_n 1, 1) := by decide +kernel
theorem dX3_isBeating_14 : decode cX3_isBeating 14 = .ok (.iload_n 3, 1) := by decide +kernel
theorem dX3_isBeating_15 : decode cX3_isBeating 15 = .ok (.invokevirtual 68, 3) := by decide +kernel
theorem dX3_isBeating_18 : decode cX3_isBeating 18 = .ok (.aload_n 0, 1) := by decide +kernel
theorem dX3_isBeating_19 : decode cX3_isBeating 19 = .ok (.getfield 32, 3) := by decide +kernel
theorem dX3_isBeating_22 : decode cX3_isBeating 22 = .ok (.aload_n 2, 1) := by decide +kernel
theorem dX3_isBeating_23 : decode cX3_isBeating 23 = .ok (.iload_n 3, 1) := by decide +kernel
theorem dX3_isBeating_24 : decode cX3_isBeating 24 = .ok (.invokevirtual 68, 3) := by decide +kernel
theorem dX3_isBeating_27 : decode cX3_isBeating 27 = .ok (.if_icmp .ge 7, 3) := by decide +kernel
theorem dX3_isBeating_30 : decode cX3_isBeating 30 = .ok (.iconst 1, 1) := by decide +kernel
theorem dX3_isBeating_31 : decode cX3_isBeating 31 = .ok (.goto 4, 3) := by decide +kernel
theorem dX3_isBeating_34 : decode cX3_isBeating 34 = .ok (.iconst 0, 1) := by decide +kernel
theorem dX3_isBeating_35 : decode cX3_isBeating 35 = .ok (.ireturn, 1) := by decide +kernel
theorem dX3_countBeating_0 : decode cX3_countBeating 0 = .ok (.iconst 0, 1) := by decide +kernel
theorem dX3_countBeating_1 : decode cX3_countBeating 1 = .ok (.istore_n 2, 1) := by decide +kernel
theorem dX3_countBeating_2 : decode cX3_countBeating 2 = .ok (.iconst 0, 1) := by decide +kernel
theorem dX3_countBeating_3 : decode cX3_countBeating 3 = .ok (.istore_n 3, 1) := by decide +kernel
theorem dX3_countBeating_4 : decode cX3_countBeating 4 = .ok (.iload_n 3, 1) := by decide +kernel
theorem dX3_countBeating_5 : decode cX3_countBeating 5 = .ok (.aload_n 0, 1) := by decide +kernel
theorem dX3_countBeating_6 : decode cX3_countBeating 6 = .ok (.getfield 22, 3) := by decide +kernel
theorem dX3_countBeating_9 : decode cX3_countBeating 9 = .ok (.getfield 61, 3) := by decide +kernel
theorem dX3_countBeating_12 : decode cX3_countBeating 12 = .ok (.if_icmp .ge 29, 3) := by decide +kernel
theorem dX3_countBeating_15 : decode cX3_countBeating 15 = .ok (.aload_n 0, 1) := by decide +kernel
theorem dX3_countBeating_16 : decode cX3_countBeating 16 = .ok (.aload_n 0, 1) := by decide +kernel
theorem dX3_countBeating_17 : decode cX3_countBeating 17 = .ok (.getfield 22, 3) := by decide +kernel
theorem dX3_countBeating_20 : decode cX3_countBeating 20 = .ok (.getfield 64, 3) := by decide +kernel
theorem dX3_countBeating_23 : decode cX3_countBeating 23 = .ok (.iload_n 3, 1) := by decide +kernel
theorem dX3_countBeating_24 : decode cX3_countBeating 24 = .ok (.aaload, 1) := by decide +kernel
theorem dX3_countBeating_25 : decode cX3_countBeating 25 = .ok (.aload_n 1, 1) := by decide +kernel
theorem dX3_countBeating_26 : decode cX3_countBeating 26 = .ok (.invokevirtual 116, 3) := by decide +kernel
theorem dX3_countBeating_29 : decode cX3_countBeating 29 = .ok (.ifCond .eq 6, 3) := by decide +kernel
theorem dX3_countBeating_32 : decode cX3_countBeating 32 = .ok (.iinc 2 1, 3) := by decide +kernel
theorem dX3_countBeating_35 : decode cX3_countBeating 35 = .ok (.iinc 3 1, 3) := by decide +kernel
theorem dX3_countBeating_38 : decode cX3_countBeating 38 = .ok (.goto (-34), 3) := by decide +kernel
theorem dX3_countBeating_41 : decode cX3_countBeating 41 = .ok (.iload_n 2, 1) := by decide +kernel
theorem dX3_countBeating_42 : decode cX3_countBeating 42 = .ok (.ireturn, 1) := by decide +kernel
theorem dX4_init_0 : decode cX4_init 0 = .ok (.aload_n 0, 1) := by decide +kernel
theorem dX4_init_1 : decode cX4_init 1 = .ok (.invokespecial 3, 3) := by decide +kernel
theorem dX4_init_4 : decode cX4_init 4 = .ok (.aload_n 0, 1) := by decide +kernel
theorem dX4_init_5 : decode cX4_init 5 = .ok (.bipush 16, 2) := by decide +kernel
theorem dX4_init_7 : decode cX4_init 7 = .ok (.newarray .int, 2) := by decide +kernel
theorem dX4_init_9 : decode cX4_init 9 = .ok (.putfield 9, 3) := by decide +kernel
theorem dX4_init_12 : decode cX4_init 12 = .ok (.aload_n 0, 1) := by decide +kernel
theorem dX4_init_13 : decode cX4_init 13 = .ok (.bipush 16, 2) := by decide +kernel
theorem dX4_init_15 : decode cX4_init 15 = .ok (.newarray .int, 2) := by decide +kernel
theorem dX4_init_17 : decode cX4_init 17 = .ok (.putfield 15, 3) := by decide +kernel
theorem dX4_init_20 : decode cX4_init 20 = .ok (.aload_n 0, 1) := by decide +kernel
theorem dX4_init_21 : decode cX4_init 21 = .ok (.bipush 16, 2) := by decide +kernel
theorem dX4_init_23 : decode cX4_init 23 = .ok (.newarray .int, 2) := by decide +kernel
theorem dX4_init_25 : decode cX4_init 25 = .ok (.putfield 18, 3) := by decide +kernel
theorem dX4_init_28 : decode cX4_init 28 = .ok (.aload_n 0, 1) := by decide +kernel
theorem dX4_init_29 : decode cX4_init 29 = .ok (.bipush 16, 2) := by decide +kernel
theorem dX4_init_31 : decode cX4_init 31 = .ok (.newarray .int, 2) := by decide +kernel
theorem dX4_init_33 : decode cX4_init 33 = .ok (.putfield 21, 3) := by decide +kernel
theorem dX4_init_36 : decode cX4_init 36 = .ok (.return_, 1) := by decide +kernel
theorem dX4_begin_0 : decode cX4_begin 0 = .ok (.aload_n 0, 1) := by decide +kernel
theorem dX4_begin_1 : decode cX4_begin 1 = .ok (.iload_n 1, 1) := by decide +kernel
theorem dX4_begin_2 : decode cX4_begin 2 = .ok (.putfield 24, 3) := by decide +kernel
theorem dX4_begin_5 : decode cX4_begin 5 = .ok (.aload_n 0, 1) := by decide +kernel
theorem dX4_begin_6 : decode cX4_begin 6 = .ok (.iload_n 2, 1) := by decide +kernel
theorem dX4_begin_7 : decode cX4_begin 7 = .ok (.putfield 28, 3) := by decide +kernel
theorem dX4_begin_10 : decode cX4_begin 10 = .ok (.aload_n 0, 1) := by decide +kernel
theorem dX4_begin_11 : decode cX4_begin 11 = .ok (.iload_n 3, 1) := by decide +kernel
theorem dX4_begin_12 : decode cX4_begin 12 = .ok (.putfield 31, 3) := by decide +kernel
theorem dX4_begin_15 : decode cX4_begin 15 = .ok (.aload_n 0, 1) := by decide +kernel
theorem dX4_begin_16 : decode cX4_begin 16 = .ok (.iconst 2, 1) := by decide +kernel
theorem dX4_begin_17 : decode cX4_begin 17 = .ok (.putfield 34, 3) := by decide +kernel
theorem dX4_begin_20 : decode cX4_begin 20 = .ok (.aload_n 0, 1) := by decide +kernel
theorem dX4_begin_21 : decode cX4_begin 21 = .ok (.iconst 0, 1) := by decide +kernel
theorem dX4_begin_22 : decode cX4_begin 22 = .ok (.putfield 37, 3) := by decide +kernel
theorem dX4_begin_25 : decode cX4_begin 25 = .ok (.return_, 1) := by decide +kernel
theorem dX4_addLast_0 : decode cX4_addLast 0 = .ok (.aload_n 0, 1) := by decide +kernel
theorem dX4_addLast_1 : decode cX4_addLast 1 = .ok (.getfield 37, 3) := by decide +kernel
theorem dX4_addLast_4 : decode cX4_addLast 4 = .ok (.bipush 16, 2) := by decide +kernel
theorem dX4_addLast_6 : decode cX4_addLast 6 = .ok (.if_icmp .ge 54, 3) := by decide +kernel
theorem dX4_addLast_9 : decode cX4_addLast 9 = .ok (.aload_n 0, 1) := by decide +kernel
theorem dX4_addLast_10 : decode cX4_addLast 10 = .ok (.getfield 9, 3) := by decide +kernel
theorem dX4_addLast_13 : decode cX4_addLast 13 = .ok (.aload_n 0, 1) := by decide +kernel
theorem dX4_addLast_14 : decode cX4_addLast 14 = .ok (.getfield 37, 3) := by decide +kernel
theorem dX4_addLast_17 : decode cX4_addLast 17 = .ok (.iload_n 1, 1) := by decide +kernel
theorem dX4_addLast_18 : decode cX4_addLast 18 = .ok (.iastore, 1) := by decide +kernel
theorem dX4_addLast_19 : decode cX4_addLast 19 = .ok (.aload_n 0, 1) := by decide +kernel
theorem dX4_addLast_20 : decode cX4_addLast 20 = .ok (.getfield 15, 3) := by decide +kernel
theorem dX4_addLast_23 : decode cX4_addLast 23 = .ok (.aload_n 0, 1) := by decide +kernel
theorem dX4_addLast_24 : decode cX4_addLast 24 = .ok (.getfield 37, 3) := by decide +kernel
theorem dX4_addLast_27 : decode cX4_addLast 27 = .ok (.iload_n 2, 1) := by decide +kernel
theorem dX4_addLast_28 : decode cX4_addLast 28 = .ok (.iastore, 1) := by decide +kernel
theorem dX4_addLast_29 : decode cX4_addLast 29 = .ok (.aload_n 0, 1) := by decide +kernel
theorem dX4_addLast_30 : decode cX4_addLast 30 = .ok (.getfield 18, 3) := by decide +kernel
theorem dX4_addLast_33 : decode cX4_addLast 33 = .ok (.aload_n 0, 1) := by decide +kernel
theorem dX4_addLast_34 : decode cX4_addLast 34 = .ok (.getfield 37, 3) := by decide +kernel
theorem dX4_addLast_37 : decode cX4_addLast 37 = .ok (.iload_n 3, 1) := by decide +kernel
theorem dX4_addLast_38 : decode cX4_addLast 38 = .ok (.iastore, 1) := by decide +kernel
theorem dX4_addLast_39 : decode cX4_addLast 39 = .ok (.aload_n 0, 1) := by decide +kernel
theorem dX4_addLast_40 : decode cX4_addLast 40 = .ok (.getfield 21, 3) := by decide +kernel
theorem dX4_addLast_43 : decode cX4_addLast 43 = .ok (.aload_n 0, 1) := by decide +kernel
theorem dX4_addLast_44 : decode cX4_addLast 44 = .ok (.getfield 37, 3) := by decide +kernel
theorem dX4_addLast_47 : decode cX4_addLast 47 = .ok (.iload 4, 2) := by decide +kernel
theorem dX4_addLast_49 : decode cX4_addLast 49 = .ok (.iastore, 1) := by decide +kernel
theorem dX4_addLast_50 : decode cX4_addLast 50 = .ok (.aload_n 0, 1) := by decide +kernel
theorem dX4_addLast_51 : decode cX4_addLast 51 = .ok (.dup, 1) := by decide +kernel
theorem dX4_addLast_52 : decode cX4_addLast 52 = .ok (.getfield 37, 3) := by decide +kernel
theorem dX4_addLast_55 : decode cX4_addLast 55 = .ok (.iconst 1, 1) := by decide +kernel
theorem dX4_addLast_56 : decode cX4_addLast 56 = .ok (.iadd, 1) := by decide +kernel
theorem dX4_addLast_57 : decode cX4_addLast 57 = .ok (.putfield 37, 3) := by decide +kernel
theorem dX4_addLast_60 : decode cX4_addLast 60 = .ok (.return_, 1) := by decide +kernel
theorem dX4_takeOut_0 : decode cX4_takeOut 0 = .ok (.iload_n 1, 1) := by decide +kernel
theorem dX4_takeOut_1 : decode cX4_takeOut 1 = .ok (.istore_n 2, 1) := by decide +kernel
theorem dX4_takeOut_2 : decode cX4_takeOut 2 = .ok (.iload_n 2, 1) := by decide +kernel
theorem dX4_takeOut_3 : decode cX4_takeOut 3 = .ok (.aload_n 0, 1) := by decide +kernel
theorem dX4_takeOut_4 : decode cX4_takeOut 4 = .ok (.getfield 37, 3) := by decide +kernel
theorem dX4_takeOut_7 : decode cX4_takeOut 7 = .ok (.iconst 1, 1) := by decide +kernel
theorem dX4_takeOut_8 : decode cX4_takeOut 8 = .ok (.isub, 1) := by decide +kernel
theorem dX4_takeOut_9 : decode cX4_takeOut 9 = .ok (.if_icmp .ge 65, 3) := by decide +kernel
theorem dX4_takeOut_12 : decode cX4_takeOut 12 = .ok (.aload_n 0, 1) := by decide +kernel
theorem dX4_takeOut_13 : decode cX4_takeOut 13 = .ok (.getfield 9, 3) := by decide +kernel
theorem dX4_takeOut_16 : decode cX4_takeOut 16 = .ok (.iload_n 2, 1) := by decide +kernel
theorem dX4_takeOut_17 : decode cX4_takeOut 17 = .ok (.aload_n 0, 1) := by decide +kernel
theorem dX4_takeOut_18 : decode cX4_takeOut 18 = .ok (.getfield 9, 3) := by decide +kernel
theorem dX4_takeOut_21 : decode cX4_takeOut 21 = .ok (.iload_n 2, 1) := by decide +kernel
theorem dX4_takeOut_22 : decode cX4_takeOut 22 = .ok (.iconst 1, 1) := by decide +kernel
theorem dX4_takeOut_23 : decode cX4_takeOut 23 = .ok (.iadd, 1) := by decide +kernel
theorem dX4_takeOut_24 : decode cX4_takeOut 24 = .ok (.iaload, 1) := by decide +kernel
theorem dX4_takeOut_25 : decode cX4_takeOut 25 = .ok (.iastore, 1) := by decide +kernel
theorem dX4_takeOut_26 : decode cX4_takeOut 26 = .ok (.aload_n 0, 1) := by decide +kernel
theorem dX4_takeOut_27 : decode cX4_takeOut 27 = .ok (.getfield 15, 3) := by decide +kernel
theorem dX4_takeOut_30 : decode cX4_takeOut 30 = .ok (.iload_n 2, 1) := by decide +kernel
theorem dX4_takeOut_31 : decode cX4_takeOut 31 = .ok (.aload_n 0, 1) := by decide +kernel
theorem dX4_takeOut_32 : decode cX4_takeOut 32 = .ok (.getfield 15, 3) := by decide +kernel
theorem dX4_takeOut_35 : decode cX4_takeOut 35 = .ok (.iload_n 2, 1) := by decide +kernel
theorem dX4_takeOut_36 : decode cX4_takeOut 36 = .ok (.iconst 1, 1) := by decide +kernel
theorem dX4_takeOut_37 : decode cX4_takeOut 37 = .ok (.iadd, 1) := by decide +kernel
theorem dX4_takeOut_38 : decode cX4_takeOut 38 = .ok (.iaload, 1) := by decide +kernel
theorem dX4_takeOut_39 : decode cX4_takeOut 39 = .ok (.iastore, 1) := by decide +kernel
theorem dX4_takeOut_40 : decode cX4_takeOut 40 = .ok (.aload_n 0, 1) := by decide +kernel
theorem dX4_takeOut_41 : decode cX4_takeOut 41 = .ok (.getfield 18, 3) := by decide +kernel
theorem dX4_takeOut_44 : decode cX4_takeOut 44 = .ok (.iload_n 2, 1) := by decide +kernel
theorem dX4_takeOut_45 : decode cX4_takeOut 45 = .ok (.aload_n 0, 1) := by decide +kernel
theorem dX4_takeOut_46 : decode cX4_takeOut 46 = .ok (.getfield 18, 3) := by decide +kernel
theorem dX4_takeOut_49 : decode cX4_takeOut 49 = .ok (.iload_n 2, 1) := by decide +kernel
theorem dX4_takeOut_50 : decode cX4_takeOut 50 = .ok (.iconst 1, 1) := by decide +kernel
theorem dX4_takeOut_51 : decode cX4_takeOut 51 = .ok (.iadd, 1) := by decide +kernel
theorem dX4_takeOut_52 : decode cX4_takeOut 52 = .ok (.iaload, 1) := by decide +kernel
theorem dX4_takeOut_53 : decode cX4_takeOut 53 = .ok (.iastore, 1) := by decide +kernel
theorem dX4_takeOut_54 : decode cX4_takeOut 54 = .ok (.aload_n 0, 1) := by decide +kernel
theorem dX4_takeOut_55 : decode cX4_takeOut 55 = .ok (.getfield 21, 3) := by decide +kernel
theorem dX4_takeOut_58 : decode cX4_takeOut 58 = .ok (.iload_n 2, 1) := by decide +kernel
theorem dX4_takeOut_59 : decode cX4_takeOut 59 = .ok (.aload_n 0, 1) := by decide +kernel
theorem dX4_takeOut_60 : decode cX4_takeOut 60 = .ok (.getfield 21, 3) := by decide +kernel
theorem dX4_takeOut_63 : decode cX4_takeOut 63 = .ok (.iload_n 2, 1) := by decide +kernel
theorem dX4_takeOut_64 : decode cX4_takeOut 64 = .ok (.iconst 1, 1) := by decide +kernel
theorem dX4_takeOut_65 : decode cX4_takeOut 65 = .ok (.iadd, 1) := by decide +kernel
theorem dX4_takeOut_66 : decode cX4_takeOut 66 = .ok (.iaload, 1) := by decide +kernel
theorem dX4_takeOut_67 : decode cX4_takeOut 67 = .ok (.iastore, 1) := by decide +kernel
theorem dX4_takeOut_68 : decode cX4_takeOut 68 = .ok (.iinc 2 1, 3) := by decide +kernel
theorem dX4_takeOut_71 : decode cX4_takeOut 71 = .ok (.goto (-69), 3) := by decide +kernel
theorem dX4_takeOut_74 : decode cX4_takeOut 74 = .ok (.aload_n 0, 1) := by decide +kernel
theorem dX4_takeOut_75 : decode cX4_takeOut 75 = .ok (.dup, 1) := by decide +kernel
theorem dX4_takeOut_76 : decode cX4_takeOut 76 = .ok (.getfield 37, 3) := by decide +kernel
theorem dX4_takeOut_79 : decode cX4_takeOut 79 = .ok (.iconst 1, 1) := by decide +kernel
theorem dX4_takeOut_80 : decode cX4_takeOut 80 = .ok (.isub, 1) := by decide +kernel
theorem dX4_takeOut_81 : decode cX4_takeOut 81 = .ok (.putfield 37, 3) := by decide +kernel
theorem dX4_takeOut_84 : decode cX4_takeOut 84 = .ok (.return_, 1) := by decide +kernel
theorem dX4_endOf_0 : decode cX4_endOf 0 = .ok (.aload_n 1, 1) := by decide +kernel
theorem dX4_endOf_1 : decode cX4_endOf 1 = .ok (.getfield 40, 3) := by decide +kernel
theorem dX4_endOf_4 : decode cX4_endOf 4 = .ok (.ifCond .ne 10, 3) := by decide +kernel
theorem dX4_endOf_7 : decode cX4_endOf 7 = .ok (.aload_n 0, 1) := by decide +kernel
theorem dX4_endOf_8 : decode cX4_endOf 8 = .ok (.getfield 28, 3) := by decide +kernel
theorem dX4_endOf_11 : decode cX4_endOf 11 = .ok (.goto 19, 3) := by decide +kernel
theorem dX4_endOf_14 : decode cX4_endOf 14 = .ok (.aload_n 0, 1) := by decide +kernel
theorem dX4_endOf_15 : decode cX4_endOf 15 = .ok (.getfield 15, 3) := by decide +kernel
theorem dX4_endOf_18 : decode cX4_endOf 18 = .ok (.aload_n 1, 1) := by decide +kernel
theorem dX4_endOf_19 : decode cX4_endOf 19 = .ok (.getfield 45, 3) := by decide +kernel
theorem dX4_endOf_22 : decode cX4_endOf 22 = .ok (.aload_n 1, 1) := by decide +kernel
theorem dX4_endOf_23 : decode cX4_endOf 23 = .ok (.getfield 40, 3) := by decide +kernel
theorem dX4_endOf_26 : decode cX4_endOf 26 = .ok (.iconst 1, 1) := by decide +kernel
theorem dX4_endOf_27 : decode cX4_endOf 27 = .ok (.isub, 1) := by decide +kernel
theorem dX4_endOf_28 : decode cX4_endOf 28 = .ok (.iaload, 1) := by decide +kernel
theorem dX4_endOf_29 : decode cX4_endOf 29 = .ok (.iaload, 1) := by decide +kernel
theorem dX4_endOf_30 : decode cX4_endOf 30 = .ok (.ireturn, 1) := by decide +kernel
theorem dX4_hasNode_0 : decode cX4_hasNode 0 = .ok (.iconst 0, 1) := by decide +kernel
theorem dX4_hasNode_1 : decode cX4_hasNode 1 = .ok (.istore_n 3, 1) := by decide +kernel
theorem dX4_hasNode_2 : decode cX4_hasNode 2 = .ok (.iload_n 3, 1) := by decide +kernel
theorem dX4_hasNode_3 : decode cX4_hasNode 3 = .ok (.aload_n 1, 1) := by decide +kernel
theorem dX4_hasNode_4 : decode cX4_hasNode 4 = .ok (.getfield 40, 3) := by decide +kernel
theorem dX4_hasNode_7 : decode cX4_hasNode 7 = .ok (.if_icmp .ge 26, 3) := by decide +kernel
theorem dX4_hasNode_10 : decode cX4_hasNode 10 = .ok (.aload_n 0, 1) := by decide +kernel
theorem dX4_hasNode_11 : decode cX4_hasNode 11 = .ok (.getfield 15, 3) := by decide +kernel
theorem dX4_hasNode_14 : decode cX4_hasNode 14 = .ok (.aload_n 1, 1) := by decide +kernel
theorem dX4_hasNode_15 : decode cX4_hasNode 15 = .ok (.getfield 45, 3) := by decide +kernel
theorem dX4_hasNode_18 : decode cX4_hasNode 18 = .ok (.iload_n 3, 1) := by decide +kernel
theorem dX4_hasNode_19 : decode cX4_hasNode 19 = .ok (.iaload, 1) := by decide +kernel
theorem dX4_hasNode_20 : decode cX4_hasNode 20 = .ok (.iaload, 1) := by decide +kernel
theorem dX4_hasNode_21 : decode cX4_hasNode 21 = .ok (.iload_n 2, 1) := by decide +kernel
theorem dX4_hasNode_22 : decode cX4_hasNode 22 = .ok (.if_icmp .ne 5, 3) := by decide +kernel
theorem dX4_hasNode_25 : decode cX4_hasNode 25 = .ok (.iconst 1, 1) := by decide +kernel
theorem dX4_hasNode_26 : decode cX4_hasNode 26 = .ok (.ireturn, 1) := by decide +kernel
theorem dX4_hasNode_27 : decode cX4_hasNode 27 = .ok (.iinc 3 1, 3) := by decide +kernel
theorem dX4_hasNode_30 : decode cX4_hasNode 30 = .ok (.goto (-28), 3) := by decide +kernel
theorem dX4_hasNode_33 : decode cX4_hasNode 33 = .ok (.iload_n 2, 1) := by decide +kernel
theorem dX4_hasNode_34 : decode cX4_hasNode 34 = .ok (.aload_n 0, 1) := by decide +kernel
theorem dX4_hasNode_35 : decode cX4_hasNode 35 = .ok (.getfield 28, 3) := by decide +kernel
theorem dX4_hasNode_38 : decode cX4_hasNode 38 = .ok (.if_icmp .ne 7, 3) := by decide +kernel
theorem dX4_hasNode_41 : decode cX4_hasNode 41 = .ok (.iconst 1, 1) := by decide +kernel
theorem dX4_hasNode_42 : decode cX4_hasNode 42 = .ok (.goto 4, 3) := by decide +kernel
theorem dX4_hasNode_45 : decode cX4_hasNode 45 = .ok (.iconst 0, 1) := by decide +kernel
theorem dX4_hasNode_46 : decode cX4_hasNode 46 = .ok (.ireturn, 1) := by decide +kernel
theorem dX4_canFollow_0 : decode cX4_canFollow 0 = .ok (.aload_n 0, 1) := by decide +kernel
theorem dX4_canFollow_1 : decode cX4_canFollow 1 = .ok (.aload_n 1, 1) := by decide +kernel
theorem dX4_canFollow_2 : decode cX4_canFollow 2 = .ok (.invokevirtual 47, 3) := by decide +kernel
theorem dX4_canFollow_5 : decode cX4_canFollow 5 = .ok (.istore_n 3, 1) := by decide +kernel
theorem dX4_canFollow_6 : decode cX4_canFollow 6 = .ok (.iload_n 3, 1) := by decide +kernel
theorem dX4_canFollow_7 : decode cX4_canFollow 7 = .ok (.aload_n 0, 1) := by decide +kernel
theorem dX4_canFollow_8 : decode cX4_canFollow 8 = .ok (.getfield 9, 3) := by decide +kernel
theorem dX4_canFollow_11 : decode cX4_canFollow 11 = .ok (.iload_n 2, 1) := by decide +kernel
theorem dX4_canFollow_12 : decode cX4_canFollow 12 = .ok (.iaload, 1) := by decide +kernel
theorem dX4_canFollow_13 : decode cX4_canFollow 13 = .ok (.if_icmp .ne 29, 3) := by decide +kernel
theorem dX4_canFollow_16 : decode cX4_canFollow 16 = .ok (.iload_n 3, 1) := by decide +kernel
theorem dX4_canFollow_17 : decode cX4_canFollow 17 = .ok (.aload_n 0, 1) := by decide +kernel
theorem dX4_canFollow_18 : decode cX4_canFollow 18 = .ok (.getfield 31, 3) := by decide +kernel
theorem dX4_canFollow_21 : decode cX4_canFollow 21 = .ok (.if_icmp .eq 21, 3) := by decide +kernel
theorem dX4_canFollow_24 : decode cX4_canFollow 24 = .ok (.aload_n 0, 1) := by decide +kernel
theorem dX4_canFollow_25 : decode cX4_canFollow 25 = .ok (.aload_n 1, 1) := by decide +kernel
theorem dX4_canFollow_26 : decode cX4_canFollow 26 = .ok (.aload_n 0, 1) := by decide +kernel
theorem dX4_canFollow_27 : decode cX4_canFollow 27 = .ok (.getfield 15, 3) := by decide +kernel
theorem dX4_canFollow_30 : decode cX4_canFollow 30 = .ok (.iload_n 2, 1) := by decide +kernel
theorem dX4_canFollow_31 : decode cX4_canFollow 31 = .ok (.iaload, 1) := by decide +kernel
theorem dX4_canFollow_32 : decode cX4_canFollow 32 = .ok (.invokevirtual 51, 3) := by decide +kernel
theorem dX4_canFollow_35 : decode cX4_canFollow 35 = .ok (.ifCond .ne 7, 3) := by decide +kernel
theorem dX4_canFollow_38 : decode cX4_canFollow 38 = .ok (.iconst 1, 1) := by decide +kernel
theorem dX4_canFollow_39 : decode cX4_canFollow 39 = .ok (.goto 4, 3) := by decide +kernel
theorem dX4_canFollow_42 : decode cX4_canFollow 42 = .ok (.iconst 0, 1) := by decide +kernel
theorem dX4_canFollow_43 : decode cX4_canFollow 43 = .ok (.ireturn, 1) := by decide +kernel
theorem dX4_arcCost_0 : decode cX4_arcCost 0 = .ok (.aload_n 0, 1) := by decide +kernel
theorem dX4_arcCost_1 : decode cX4_arcCost 1 = .ok (.getfield 18, 3) := by decide +kernel
theorem dX4_arcCost_4 : decode cX4_arcCost 4 = .ok (.iload_n 1, 1) := by decide +kernel
theorem dX4_arcCost_5 : decode cX4_arcCost 5 = .ok (.iaload, 1) := by decide +kernel
theorem dX4_arcCost_6 : decode cX4_arcCost 6 = .ok (.iload_n 2, 1) := by decide +kernel
theorem dX4_arcCost_7 : decode cX4_arcCost 7 = .ok (.iload_n 1, 1) := by decide +kernel
theorem dX4_arcCost_8 : decode cX4_arcCost 8 = .ok (.ishr, 1) := by decide +kernel
theorem dX4_arcCost_9 : decode cX4_arcCost 9 = .ok (.iconst 1, 1) := by decide +kernel
theorem dX4_arcCost_10 : decode cX4_arcCost 10 = .ok (.iand, 1) := by decide +kernel
theorem dX4_arcCost_11 : decode cX4_arcCost 11 = .ok (.aload_n 0, 1) := by decide +kernel
theorem dX4_arcCost_12 : decode cX4_arcCost 12 = .ok (.getfield 21, 3) := by decide +kernel
theorem dX4_arcCost_15 : decode cX4_arcCost 15 = .ok (.iload_n 1, 1) := by decide +kernel
theorem dX4_arcCost_16 : decode cX4_arcCost 16 = .ok (.iaload, 1) := by decide +kernel
theorem dX4_arcCost_17 : decode cX4_arcCost 17 = .ok (.imul, 1) := by decide +kernel
theorem dX4_arcCost_18 : decode cX4_arcCost 18 = .ok (.iadd, 1) := by decide +kernel
theorem dX4_arcCost_19 : decode cX4_arcCost 19 = .ok (.ireturn, 1) := by decide +kernel
theorem dX4_costAgainst_0 : decode cX4_costAgainst 0 = .ok (.iconst 0, 1) := by decide +kernel
theorem dX4_costAgainst_1 : decode cX4_costAgainst 1 = .ok (.istore_n 3, 1) := by decide +kernel
theorem dX4_costAgainst_2 : decode cX4_costAgainst 2 = .ok (.iconst 0, 1) := by decide +kernel
theorem dX4_costAgainst_3 : decode cX4_costAgainst 3 = .ok (.istore 4, 2) := by decide +kernel
theorem dX4_costAgainst_5 : decode cX4_costAgainst 5 = .ok (.iload 4, 2) := by decide +kernel
theorem dX4_costAgainst_7 : decode cX4_costAgainst 7 = .ok (.aload_n 1, 1) := by decide +kernel
theorem dX4_costAgainst_8 : decode cX4_costAgainst 8 = .ok (.getfield 40, 3) := by decide +kernel
theorem dX4_costAgainst_11 : decode cX4_costAgainst 11 = .ok (.if_icmp .ge 24, 3) := by decide +kernel
theorem dX4_costAgainst_14 : decode cX4_costAgainst 14 = .ok (.iload_n 3, 1) := by decide +kernel
theorem dX4_costAgainst_15 : decode cX4_costAgainst 15 = .ok (.aload_n 0, 1) := by decide +kernel
theorem dX4_costAgainst_16 : decode cX4_costAgainst 16 = .ok (.aload_n 1, 1) := by decide +kernel
theorem dX4_costAgainst_17 : decode cX4_costAgainst 17 = .ok (.getfield 45, 3) := by decide +kernel
theorem dX4_costAgainst_20 : decode cX4_costAgainst 20 = .ok (.iload 4, 2) := by decide +kernel
theorem dX4_costAgainst_22 : decode cX4_costAgainst 22 = .ok (.iaload, 1) := by decide +kernel
theorem dX4_costAgainst_23 : decode cX4_costAgainst 23 = .ok (.iload_n 2, 1) := by decide +kernel
theorem dX4_costAgainst_24 : decode cX4_costAgainst 24 = .ok (.invokevirtual 55, 3) := by decide +kernel
theorem dX4_costAgainst_27 : decode cX4_costAgainst 27 = .ok (.iadd, 1) := by decide +kernel
theorem dX4_costAgainst_28 : decode cX4_costAgainst 28 = .ok (.istore_n 3, 1) := by decide +kernel
theorem dX4_costAgainst_29 : decode cX4_costAgainst 29 = .ok (.iinc 4 1, 3) := by decide +kernel
theorem dX4_costAgainst_32 : decode cX4_costAgainst 32 = .ok (.goto (-27), 3) := by decide +kernel
theorem dX4_costAgainst_35 : decode cX4_costAgainst 35 = .ok (.iload_n 3, 1) := by decide +kernel
theorem dX4_costAgainst_36 : decode cX4_costAgainst 36 = .ok (.ireturn, 1) := by decide +kernel
theorem dX4_witnessOf_0 : decode cX4_witnessOf 0 = .ok (.iconst 0, 1) := by decide +kernel
theorem dX4_witnessOf_1 : decode cX4_witnessOf 1 = .ok (.istore_n 2, 1) := by decide +kernel
theorem dX4_witnessOf_2 : decode cX4_witnessOf 2 = .ok (.iconst 0, 1) := by decide +kernel
theorem dX4_witnessOf_3 : decode cX4_witnessOf 3 = .ok (.istore_n 3, 1) := by decide +kernel
theorem dX4_witnessOf_4 : decode cX4_witnessOf 4 = .ok (.iload_n 3, 1) := by decide +kernel
theorem dX4_witnessOf_5 : decode cX4_witnessOf 5 = .ok (.aload_n 0, 1) := by decide +kernel
theorem dX4_witnessOf_6 : decode cX4_witnessOf 6 = .ok (.getfield 34, 3) := by decide +kernel
theorem dX4_witnessOf_9 : decode cX4_witnessOf 9 = .ok (.if_icmp .ge 32, 3) := by decide +kernel
theorem dX4_witnessOf_12 : decode cX4_witnessOf 12 = .ok (.aload_n 0, 1) := by decide +kernel
theorem dX4_witnessOf_13 : decode cX4_witnessOf 13 = .ok (.aload_n 1, 1) := by decide +kernel
theorem dX4_witnessOf_14 : decode cX4_witnessOf 14 = .ok (.iload_n 2, 1) := by decide +kernel
theorem dX4_witnessOf_15 : decode cX4_witnessOf 15 = .ok (.invokevirtual 59, 3) := by decide +kernel
theorem dX4_witnessOf_18 : decode cX4_witnessOf 18 = .ok (.istore 4, 2) := by decide +kernel
theorem dX4_witnessOf_20 : decode cX4_witnessOf 20 = .ok (.iload 4, 2) := by decide +kernel
theorem dX4_witnessOf_22 : decode cX4_witnessOf 22 = .ok (.iconst (-1), 1) := by decide +kernel
theorem dX4_witnessOf_23 : decode cX4_witnessOf 23 = .ok (.if_icmp .ne 5, 3) := by decide +kernel
theorem dX4_witnessOf_26 : decode cX4_witnessOf 26 = .ok (.iload_n 2, 1) := by decide +kernel
theorem dX4_witnessOf_27 : decode cX4_witnessOf 27 = .ok (.ireturn, 1) := by decide +kernel
theorem dX4_witnessOf_28 : decode cX4_witnessOf 28 = .ok (.iload_n 2, 1) := by decide +kernel
theorem dX4_witnessOf_29 : decode cX4_witnessOf 29 = .ok (.iconst 1, 1) := by decide +kernel
theorem dX4_witnessOf_30 : decode cX4_witnessOf 30 = .ok (.iload 4, 2) := by decide +kernel
theorem dX4_witnessOf_32 : decode cX4_witnessOf 32 = .ok (.ishl, 1) := by decide +kernel
theorem dX4_witnessOf_33 : decode cX4_witnessOf 33 = .ok (.ior, 1) := by decide +kernel
theorem dX4_witnessOf_34 : decode cX4_witnessOf 34 = .ok (.istore_n 2, 1) := by decide +kernel
theorem dX4_witnessOf_35 : decode cX4_witnessOf 35 = .ok (.iinc 3 1, 3) := by decide +kernel
theorem dX4_witnessOf_38 : decode cX4_witnessOf 38 = .ok (.goto (-34), 3) := by decide +kernel
theorem dX4_witnessOf_41 : decode cX4_witnessOf 41 = .ok (.iload_n 2, 1) := by decide +kernel
theorem dX4_witnessOf_42 : decode cX4_witnessOf 42 = .ok (.ireturn, 1) := by decide +kernel
theorem dX4_worstArc_0 : decode cX4_worstArc 0 = .ok (.iconst (-1), 1) := by decide +kernel
theorem dX4_worstArc_1 : decode cX4_worstArc 1 = .ok (.istore_n 3, 1) := by decide +kernel
theorem dX4_worstArc_2 : decode cX4_worstArc 2 = .ok (.iconst 0, 1) := by decide +kernel
theorem dX4_worstArc_3 : decode cX4_worstArc 3 = .ok (.istore 4, 2) := by decide +kernel
theorem dX4_worstArc_5 : decode cX4_worstArc 5 = .ok (.iconst 0, 1) := by decide +kernel
theorem dX4_worstArc_6 : decode cX4_worstArc 6 = .ok (.istore 5, 2) := by decide +kernel
theorem dX4_worstArc_8 : decode cX4_worstArc 8 = .ok (.iload 5, 2) := by decide +kernel
theorem dX4_worstArc_10 : decode cX4_worstArc 10 = .ok (.aload_n 1, 1) := by decide +kernel
theorem dX4_worstArc_11 : decode cX4_worstArc 11 = .ok (.getfield 40, 3) := by decide +kernel
theorem dX4_worstArc_14 : decode cX4_worstArc 14 = .ok (.if_icmp .ge 67, 3) := by decide +kernel
theorem dX4_worstArc_17 : decode cX4_worstArc 17 = .ok (.aload_n 1, 1) := by decide +kernel
theorem dX4_worstArc_18 : decode cX4_worstArc 18 = .ok (.getfield 45, 3) := by decide +kernel
theorem dX4_worstArc_21 : decode cX4_worstArc 21 = .ok (.iload 5, 2) := by decide +kernel
theorem dX4_worstArc_23 : decode cX4_worstArc 23 = .ok (.iaload, 1) := by decide +kernel
theorem dX4_worstArc_24 : decode cX4_worstArc 24 = .ok (.istore 6, 2) := by decide +kernel
theorem dX4_worstArc_26 : decode cX4_worstArc 26 = .ok (.iload_n 2, 1) := by decide +kernel
theorem dX4_worstArc_27 : decode cX4_worstArc 27 = .ok (.iload 6, 2) := by decide +kernel
theorem dX4_worstArc_29 : decode cX4_worstArc 29 = .ok (.invokestatic 63, 3) := by decide +kernel
theorem dX4_worstArc_32 : decode cX4_worstArc 32 = .ok (.ifCond .eq 7, 3) := by decide +kernel
theorem dX4_worstArc_35 : decode cX4_worstArc 35 = .ok (.iconst 0, 1) := by decide +kernel
theorem dX4_worstArc_36 : decode cX4_worstArc 36 = .ok (.goto 10, 3) := by decide +kernel
theorem dX4_worstArc_39 : decode cX4_worstArc 39 = .ok (.aload_n 0, 1) := by decide +kernel
theorem dX4_worstArc_40 : decode cX4_worstArc 40 = .ok (.getfield 21, 3) := by decide +kernel
theorem dX4_worstArc_43 : decode cX4_worstArc 43 = .ok (.iload 6, 2) := by decide +kernel
theorem dX4_worstArc_45 : decode cX4_worstArc 45 = .ok (.iaload, 1) := by decide +kernel
theorem dX4_worstArc_46 : decode cX4_worstArc 46 = .ok (.istore 7, 2) := by decide +kernel
theorem dX4_worstArc_48 : decode cX4_worstArc 48 = .ok (.iload 7, 2) := by decide +kernel
theorem dX4_worstArc_50 : decode cX4_worstArc 50 = .ok (.iload 4, 2) := by decide +kernel
theorem dX4_worstArc_52 : decode cX4_worstArc 52 = .ok (.if_icmp .gt 16, 3) := by decide +kernel
theorem dX4_worstArc_55 : decode cX4_worstArc 55 = .ok (.iload 7, 2) := by decide +kernel
theorem dX4_worstArc_57 : decode cX4_worstArc 57 = .ok (.iload 4, 2) := by decide +kernel
theorem dX4_worstArc_59 : decode cX4_worstArc 59 = .ok (.if_icmp .ne 16, 3) := by decide +kernel
theorem dX4_worstArc_62 : decode cX4_worstArc 62 = .ok (.iload 6, 2) := by decide +kernel
theorem dX4_worstArc_64 : decode cX4_worstArc 64 = .ok (.iload_n 3, 1) := by decide +kernel
theorem dX4_worstArc_65 : decode cX4_worstArc 65 = .ok (.if_icmp .ge 10, 3) := by decide +kernel
theorem dX4_worstArc_68 : decode cX4_worstArc 68 = .ok (.iload 6, 2) := by decide +kernel
theorem dX4_worstArc_70 : decode cX4_worstArc 70 = .ok (.istore_n 3, 1) := by decide +kernel
theorem dX4_worstArc_71 : decode cX4_worstArc 71 = .ok (.iload 7, 2) := by decide +kernel
theorem dX4_worstArc_73 : decode cX4_worstArc 73 = .ok (.istore 4, 2) := by decide +kernel
theorem dX4_worstArc_75 : decode cX4_worstArc 75 = .ok (.iinc 5 1, 3) := by decide +kernel
theorem dX4_worstArc_78 : decode cX4_worstArc 78 = .ok (.goto (-70), 3) := by decide +kernel
theorem dX4_worstArc_81 : decode cX4_worstArc 81 = .ok (.iload_n 3, 1) := by decide +kernel
theorem dX4_worstArc_82 : decode cX4_worstArc 82 = .ok (.ireturn, 1) := by decide +kernel
theorem dX4_worstOf_0 : decode cX4_worstOf 0 = .ok (.aload_n 0, 1) := by decide +kernel
theorem dX4_worstOf_1 : decode cX4_worstOf 1 = .ok (.aload_n 1, 1) := by decide +kernel
theorem dX4_worstOf_2 : decode cX4_worstOf 2 = .ok (.aload_n 0, 1) := by decide +kernel
theorem dX4_worstOf_3 : decode cX4_worstOf 3 = .ok (.aload_n 1, 1) := by decide +kernel
theorem dX4_worstOf_4 : decode cX4_worstOf 4 = .ok (.invokevirtual 67, 3) := by decide +kernel
theorem dX4_worstOf_7 : decode cX4_worstOf 7 = .ok (.invokevirtual 70, 3) := by decide +kernel
theorem dX4_worstOf_10 : decode cX4_worstOf 10 = .ok (.ireturn, 1) := by decide +kernel
theorem dX4_copyFrom_0 : decode cX4_copyFrom 0 = .ok (.aload_n 0, 1) := by decide +kernel
theorem dX4_copyFrom_1 : decode cX4_copyFrom 1 = .ok (.aload_n 1, 1) := by decide +kernel
theorem dX4_copyFrom_2 : decode cX4_copyFrom 2 = .ok (.getfield 24, 3) := by decide +kernel
theorem dX4_copyFrom_5 : decode cX4_copyFrom 5 = .ok (.putfield 24, 3) := by decide +kernel
theorem dX4_copyFrom_8 : decode cX4_copyFrom 8 = .ok (.aload_n 0, 1) := by decide +kernel
theorem dX4_copyFrom_9 : decode cX4_copyFrom 9 = .ok (.aload_n 1, 1) := by decide +kernel
theorem dX4_copyFrom_10 : decode cX4_copyFrom 10 = .ok (.getfield 28, 3) := by decide +kernel
theorem dX4_copyFrom_13 : decode cX4_copyFrom 13 = .ok (.putfield 28, 3) := by decide +kernel
theorem dX4_copyFrom_16 : decode cX4_copyFrom 16 = .ok (.aload_n 0, 1) := by decide +kernel
theorem dX4_copyFrom_17 : decode cX4_copyFrom 17 = .ok (.aload_n 1, 1) := by decide +kernel
theorem dX4_copyFrom_18 : decode cX4_copyFrom 18 = .ok (.getfield 31, 3) := by decide +kernel
theorem dX4_copyFrom_21 : decode cX4_copyFrom 21 = .ok (.putfield 31, 3) := by decide +kernel
theorem dX4_copyFrom_24 : decode cX4_copyFrom 24 = .ok (.aload_n 0, 1) := by decide +kernel
theorem dX4_copyFrom_25 : decode cX4_copyFrom 25 = .ok (.aload_n 1, 1) := by decide +kernel
theorem dX4_copyFrom_26 : decode cX4_copyFrom 26 = .ok (.getfield 34, 3) := by decide +kernel
theorem dX4_copyFrom_29 : decode cX4_copyFrom 29 = .ok (.putfield 34, 3) := by decide +kernel
theorem dX4_copyFrom_32 : decode cX4_copyFrom 32 = .ok (.aload_n 0, 1) := by decide +kernel
theorem dX4_copyFrom_33 : decode cX4_copyFrom 33 = .ok (.aload_n 1, 1) := by decide +kernel
theorem dX4_copyFrom_34 : decode cX4_copyFrom 34 = .ok (.getfield 37, 3) := by decide +kernel
theorem dX4_copyFrom_37 : decode cX4_copyFrom 37 = .ok (.putfield 37, 3) := by decide +kernel
theorem dX4_copyFrom_40 : decode cX4_copyFrom 40 = .ok (.aload_n 1, 1) := by decide +kernel
theorem dX4_copyFrom_41 : decode cX4_copyFrom 41 = .ok (.getfield 9, 3) := by decide +kernel
theorem dX4_copyFrom_44 : decode cX4_copyFrom 44 = .ok (.iconst 0, 1) := by decide +kernel
theorem dX4_copyFrom_45 : decode cX4_copyFrom 45 = .ok (.aload_n 0, 1) := by decide +kernel
theorem dX4_copyFrom_46 : decode cX4_copyFrom 46 = .ok (.getfield 9, 3) := by decide +kernel
theorem dX4_copyFrom_49 : decode cX4_copyFrom 49 = .ok (.iconst 0, 1) := by decide +kernel
theorem dX4_copyFrom_50 : decode cX4_copyFrom 50 = .ok (.bipush 16, 2) := by decide +kernel
theorem dX4_copyFrom_52 : decode cX4_copyFrom 52 = .ok (.invokestatic 73, 3) := by decide +kernel
theorem dX4_copyFrom_55 : decode cX4_copyFrom 55 = .ok (.aload_n 1, 1) := by decide +kernel
theorem dX4_copyFrom_56 : decode cX4_copyFrom 56 = .ok (.getfield 15, 3) := by decide +kernel
theorem dX4_copyFrom_59 : decode cX4_copyFrom 59 = .ok (.iconst 0, 1) := by decide +kernel
theorem dX4_copyFrom_60 : decode cX4_copyFrom 60 = .ok (.aload_n 0, 1) := by decide +kernel
theorem dX4_copyFrom_61 : decode cX4_copyFrom 61 = .ok (.getfield 15, 3) := by decide +kernel
theorem dX4_copyFrom_64 : decode cX4_copyFrom 64 = .ok (.iconst 0, 1) := by decide +kernel
theorem dX4_copyFrom_65 : decode cX4_copyFrom 65 = .ok (.bipush 16, 2) := by decide +kernel
theorem dX4_copyFrom_67 : decode cX4_copyFrom 67 = .ok (.invokestatic 73, 3) := by decide +kernel
theorem dX4_copyFrom_70 : decode cX4_copyFrom 70 = .ok (.aload_n 1, 1) := by decide +kernel
theorem dX4_copyFrom_71 : decode cX4_copyFrom 71 = .ok (.getfield 18, 3) := by decide +kernel
theorem dX4_copyFrom_74 : decode cX4_copyFrom 74 = .ok (.iconst 0, 1) := by decide +kernel
theorem dX4_copyFrom_75 : decode cX4_copyFrom 75 = .ok (.aload_n 0, 1) := by decide +kernel
theorem dX4_copyFrom_76 : decode cX4_copyFrom 76 = .ok (.getfield 18, 3) := by decide +kernel
theorem dX4_copyFrom_79 : decode cX4_copyFrom 79 = .ok (.iconst 0, 1) := by decide +kernel
theorem dX4_copyFrom_80 : decode cX4_copyFrom 80 = .ok (.bipush 16, 2) := by decide +kernel
theorem dX4_copyFrom_82 : decode cX4_copyFrom 82 = .ok (.invokestatic 73, 3) := by decide +kernel
theorem dX4_copyFrom_85 : decode cX4_copyFrom 85 = .ok (.aload_n 1, 1) := by decide +kernel
theorem dX4_copyFrom_86 : decode cX4_copyFrom 86 = .ok (.getfield 21, 3) := by decide +kernel
theorem dX4_copyFrom_89 : decode cX4_copyFrom 89 = .ok (.iconst 0, 1) := by decide +kernel
theorem dX4_copyFrom_90 : decode cX4_copyFrom 90 = .ok (.aload_n 0, 1) := by decide +kernel
theorem dX4_copyFrom_91 : decode cX4_copyFrom 91 = .ok (.getfield 21, 3) := by decide +kernel
theorem dX4_copyFrom_94 : decode cX4_copyFrom 94 = .ok (.iconst 0, 1) := by decide +kernel
theorem dX4_copyFrom_95 : decode cX4_copyFrom 95 = .ok (.bipush 16, 2) := by decide +kernel
theorem dX4_copyFrom_97 : decode cX4_copyFrom 97 = .ok (.invokestatic 73, 3) := by decide +kernel
theorem dX4_copyFrom_100 : decode cX4_copyFrom 100 = .ok (.return_, 1) := by decide +kernel
theorem dX5_init_0 : decode cX5_init 0 = .ok (.aload_n 0, 1) := by decide +kernel
theorem dX5_init_1 : decode cX5_init 1 = .ok (.invokespecial 3, 3) := by decide +kernel
theorem dX5_init_4 : decode cX5_init 4 = .ok (.aload_n 0, 1) := by decide +kernel
theorem dX5_init_5 : decode cX5_init 5 = .ok (.bipush 7, 2) := by decide +kernel
theorem dX5_init_7 : decode cX5_init 7 = .ok (.newarray .int, 2) := by decide +kernel
theorem dX5_init_9 : decode cX5_init 9 = .ok (.putfield 9, 3) := by decide +kernel
theorem dX5_init_12 : decode cX5_init 12 = .ok (.aload_n 0, 1) := by decide +kernel
theorem dX5_init_13 : decode cX5_init 13 = .ok (.iconst 0, 1) := by decide +kernel
theorem dX5_init_14 : decode cX5_init 14 = .ok (.putfield 15, 3) := by decide +kernel
theorem dX5_init_17 : decode cX5_init 17 = .ok (.return_, 1) := by decide +kernel
theorem dX5_clear_0 : decode cX5_clear 0 = .ok (.aload_n 0, 1) := by decide +kernel
theorem dX5_clear_1 : decode cX5_clear 1 = .ok (.iconst 0, 1) := by decide +kernel
theorem dX5_clear_2 : decode cX5_clear 2 = .ok (.putfield 15, 3) := by decide +kernel
theorem dX5_clear_5 : decode cX5_clear 5 = .ok (.return_, 1) := by decide +kernel
theorem dX5_push_0 : decode cX5_push 0 = .ok (.aload_n 0, 1) := by decide +kernel
theorem dX5_push_1 : decode cX5_push 1 = .ok (.getfield 15, 3) := by decide +kernel
theorem dX5_push_4 : decode cX5_push 4 = .ok (.aload_n 0, 1) := by decide +kernel
theorem dX5_push_5 : decode cX5_push 5 = .ok (.getfield 9, 3) := by decide +kernel
theorem dX5_push_8 : decode cX5_push 8 = .ok (.arraylength, 1) := by decide +kernel
theorem dX5_push_9 : decode cX5_push 9 = .ok (.if_icmp .ge 23, 3) := by decide +kernel
theorem dX5_push_12 : decode cX5_push 12 = .ok (.aload_n 0, 1) := by decide +kernel
theorem dX5_push_13 : decode cX5_push 13 = .ok (.getfield 9, 3) := by decide +kernel
theorem dX5_push_16 : decode cX5_push 16 = .ok (.aload_n 0, 1) := by decide +kernel
theorem dX5_push_17 : decode cX5_push 17 = .ok (.getfield 15, 3) := by decide +kernel
theorem dX5_push_20 : decode cX5_push 20 = .ok (.iload_n 1, 1) := by decide +kernel
theorem dX5_push_21 : decode cX5_push 21 = .ok (.iastore, 1) := by decide +kernel
theorem dX5_push_22 : decode cX5_push 22 = .ok (.aload_n 0, 1) := by decide +kernel
theorem dX5_push_23 : decode cX5_push 23 = .ok (.dup, 1) := by decide +kernel
theorem dX5_push_24 : decode cX5_push 24 = .ok (.getfield 15, 3) := by decide +kernel
theorem dX5_push_27 : decode cX5_push 27 = .ok (.iconst 1, 1) := by decide +kernel
theorem dX5_push_28 : decode cX5_push 28 = .ok (.iadd, 1) := by decide +kernel
theorem dX5_push_29 : decode cX5_push 29 = .ok (.putfield 15, 3) := by decide +kernel
theorem dX5_push_32 : decode cX5_push 32 = .ok (.return_, 1) := by decide +kernel
theorem dX5_pop_0 : decode cX5_pop 0 = .ok (.aload_n 0, 1) := by decide +kernel
theorem dX5_pop_1 : decode cX5_pop 1 = .ok (.getfield 15, 3) := by decide +kernel
theorem dX5_pop_4 : decode cX5_pop 4 = .ok (.ifCond .ne 5, 3) := by decide +kernel
theorem dX5_pop_7 : decode cX5_pop 7 = .ok (.iconst (-1), 1) := by decide +kernel
theorem dX5_pop_8 : decode cX5_pop 8 = .ok (.ireturn, 1) := by decide +kernel
theorem dX5_pop_9 : decode cX5_pop 9 = .ok (.aload_n 0, 1) := by decide +kernel
theorem dX5_pop_10 : decode cX5_pop 10 = .ok (.dup, 1) := by decide +kernel
theorem dX5_pop_11 : decode cX5_pop 11 = .ok (.getfield 15, 3) := by decide +kernel
theorem dX5_pop_14 : decode cX5_pop 14 = .ok (.iconst 1, 1) := by decide +kernel
theorem dX5_pop_15 : decode cX5_pop 15 = .ok (.isub, 1) := by decide +kernel
theorem dX5_pop_16 : decode cX5_pop 16 = .ok (.putfield 15, 3) := by decide +kernel
theorem dX5_pop_19 : decode cX5_pop 19 = .ok (.aload_n 0, 1) := by decide +kernel
theorem dX5_pop_20 : decode cX5_pop 20 = .ok (.getfield 9, 3) := by decide +kernel
theorem dX5_pop_23 : decode cX5_pop 23 = .ok (.aload_n 0, 1) := by decide +kernel
theorem dX5_pop_24 : decode cX5_pop 24 = .ok (.getfield 15, 3) := by decide +kernel
theorem dX5_pop_27 : decode cX5_pop 27 = .ok (.iaload, 1) := by decide +kernel
theorem dX5_pop_28 : decode cX5_pop 28 = .ok (.ireturn, 1) := by decide +kernel
theorem dX5_hasArc_0 : decode cX5_hasArc 0 = .ok (.iconst 0, 1) := by decide +kernel
theorem dX5_hasArc_1 : decode cX5_hasArc 1 = .ok (.istore_n 2, 1) := by decide +kernel
theorem dX5_hasArc_2 : decode cX5_hasArc 2 = .ok (.iload_n 2, 1) := by decide +kernel
theorem dX5_hasArc_3 : decode cX5_hasArc 3 = .ok (.aload_n 0, 1) := by decide +kernel
theorem dX5_hasArc_4 : decode cX5_hasArc 4 = .ok (.getfield 15, 3) := by decide +kernel
theorem dX5_hasArc_7 : decode cX5_hasArc 7 = .ok (.if_icmp .ge 21, 3) := by decide +kernel
theorem dX5_hasArc_10 : decode cX5_hasArc 10 = .ok (.aload_n 0, 1) := by decide +kernel
theorem dX5_hasArc_11 : decode cX5_hasArc 11 = .ok (.getfield 9, 3) := by decide +kernel
theorem dX5_hasArc_14 : decode cX5_hasArc 14 = .ok (.iload_n 2, 1) := by decide +kernel
theorem dX5_hasArc_15 : decode cX5_hasArc 15 = .ok (.iaload, 1) := by decide +kernel
theorem dX5_hasArc_16 : decode cX5_hasArc 16 = .ok (.iload_n 1, 1) := by decide +kernel
theorem dX5_hasArc_17 : decode cX5_hasArc 17 = .ok (.if_icmp .ne 5, 3) := by decide +kernel
theorem dX5_hasArc_20 : decode cX5_hasArc 20 = .ok (.iconst 1, 1) := by decide +kernel
theorem dX5_hasArc_21 : decode cX5_hasArc 21 = .ok (.ireturn, 1) := by decide +kernel
theorem dX5_hasArc_22 : decode cX5_hasArc 22 = .ok (.iinc 2 1, 3) := by decide +kernel
theorem dX5_hasArc_25 : decode cX5_hasArc 25 = .ok (.goto (-23), 3) := by decide +kernel
theorem dX5_hasArc_28 : decode cX5_hasArc 28 = .ok (.iconst 0, 1) := by decide +kernel
theorem dX5_hasArc_29 : decode cX5_hasArc 29 = .ok (.ireturn, 1) := by decide +kernel
theorem dX5_isSame_0 : decode cX5_isSame 0 = .ok (.aload_n 0, 1) := by decide +kernel
theorem dX5_isSame_1 : decode cX5_isSame 1 = .ok (.getfield 15, 3) := by decide +kernel
theorem dX5_isSame_4 : decode cX5_isSame 4 = .ok (.aload_n 1, 1) := by decide +kernel
theorem dX5_isSame_5 : decode cX5_isSame 5 = .ok (.getfield 15, 3) := by decide +kernel
theorem dX5_isSame_8 : decode cX5_isSame 8 = .ok (.if_icmp .eq 5, 3) := by decide +kernel
theorem dX5_isSame_11 : decode cX5_isSame 11 = .ok (.iconst 0, 1) := by decide +kernel
theorem dX5_isSame_12 : decode cX5_isSame 12 = .ok (.ireturn, 1) := by decide +kernel
theorem dX5_isSame_13 : decode cX5_isSame 13 = .ok (.iconst 0, 1) := by decide +kernel
theorem dX5_isSame_14 : decode cX5_isSame 14 = .ok (.istore_n 2, 1) := by decide +kernel
theorem dX5_isSame_15 : decode cX5_isSame 15 = .ok (.iload_n 2, 1) := by decide +kernel
theorem dX5_isSame_16 : decode cX5_isSame 16 = .ok (.aload_n 0, 1) := by decide +kernel
theorem dX5_isSame_17 : decode cX5_isSame 17 = .ok (.getfield 15, 3) := by decide +kernel
theorem dX5_isSame_20 : decode cX5_isSame 20 = .ok (.if_icmp .ge 26, 3) := by decide +kernel
theorem dX5_isSame_23 : decode cX5_isSame 23 = .ok (.aload_n 0, 1) := by decide +kernel
theorem dX5_isSame_24 : decode cX5_isSame 24 = .ok (.getfield 9, 3) := by decide +kernel
theorem dX5_isSame_27 : decode cX5_isSame 27 = .ok (.iload_n 2, 1) := by decide +kernel
theorem dX5_isSame_28 : decode cX5_isSame 28 = .ok (.iaload, 1) := by decide +kernel
theorem dX5_isSame_29 : decode cX5_isSame 29 = .ok (.aload_n 1, 1) := by decide +kernel
theorem dX5_isSame_30 : decode cX5_isSame 30 = .ok (.getfield 9, 3) := by decide +kernel
theorem dX5_isSame_33 : decode cX5_isSame 33 = .ok (.iload_n 2, 1) := by decide +kernel
theorem dX5_isSame_34 : decode cX5_isSame 34 = .ok (.iaload, 1) := by decide +kernel
theorem dX5_isSame_35 : decode cX5_isSame 35 = .ok (.if_icmp .eq 5, 3) := by decide +kernel
theorem dX5_isSame_38 : decode cX5_isSame 38 = .ok (.iconst 0, 1) := by decide +kernel
theorem dX5_isSame_39 : decode cX5_isSame 39 = .ok (.ireturn, 1) := by decide +kernel
theorem dX5_isSame_40 : decode cX5_isSame 40 = .ok (.iinc 2 1, 3) := by decide +kernel
theorem dX5_isSame_43 : decode cX5_isSame 43 = .ok (.goto (-28), 3) := by decide +kernel
theorem dX5_isSame_46 : decode cX5_isSame 46 = .ok (.iconst 1, 1) := by decide +kernel
theorem dX5_isSame_47 : decode cX5_isSame 47 = .ok (.ireturn, 1) := by decide +kernel
theorem dX5_renumberBehind_0 : decode cX5_renumberBehind 0 = .ok (.iconst 0, 1) := by decide +kernel
theorem dX5_renumberBehind_1 : decode cX5_renumberBehind 1 = .ok (.istore_n 2, 1) := by decide +kernel
theorem dX5_renumberBehind_2 : decode cX5_renumberBehind 2 = .ok (.iload_n 2, 1) := by decide +kernel
theorem dX5_renumberBehind_3 : decode cX5_renumberBehind 3 = .ok (.aload_n 0, 1) := by decide +kernel
theorem dX5_renumberBehind_4 : decode cX5_renumberBehind 4 = .ok (.getfield 15, 3) := by decide +kernel
theorem dX5_renumberBehind_7 : decode cX5_renumberBehind 7 = .ok (.if_icmp .ge 29, 3) := by decide +kernel
theorem dX5_renumberBehind_10 : decode cX5_renumberBehind 10 = .ok (.aload_n 0, 1) := by decide +kernel
theorem dX5_renumberBehind_11 : decode cX5_renumberBehind 11 = .ok (.getfield 9, 3) := by decide +kernel
theorem dX5_renumberBehind_14 : decode cX5_renumberBehind 14 = .ok (.iload_n 2, 1) := by decide +kernel
theorem dX5_renumberBehind_15 : decode cX5_renumberBehind 15 = .ok (.iaload, 1) := by decide +kernel
theorem dX5_renumberBehind_16 : decode cX5_renumberBehind 16 = .ok (.iload_n 1, 1) := by decide +kernel
theorem dX5_renumberBehind_17 : decode cX5_renumberBehind 17 = .ok (.if_icmp .le 13, 3) := by decide +kernel
theorem dX5_renumberBehind_20 : decode cX5_renumberBehind 20 = .ok (.aload_n 0, 1) := by decide +kernel
theorem dX5_renumberBehind_21 : decode cX5_renumberBehind 21 = .ok (.getfield 9, 3) := by decide +kernel
theorem dX5_renumberBehind_24 : decode cX5_renumberBehind 24 = .ok (.iload_n 2, 1) := by decide +kernel
theorem dX5_renumberBehind_25 : decode cX5_renumberBehind 25 = .ok (.dup2, 1) := by decide +kernel
theorem dX5_renumberBehind_26 : decode cX5_renumberBehind 26 = .ok (.iaload, 1) := by decide +kernel
theorem dX5_renumberBehind_27 : decode cX5_renumberBehind 27 = .ok (.iconst 1, 1) := by decide +kernel
theorem dX5_renumberBehind_28 : decode cX5_renumberBehind 28 = .ok (.isub, 1) := by decide +kernel
theorem dX5_renumberBehind_29 : decode cX5_renumberBehind 29 = .ok (.iastore, 1) := by decide +kernel
theorem dX5_renumberBehind_30 : decode cX5_renumberBehind 30 = .ok (.iinc 2 1, 3) := by decide +kernel
theorem dX5_renumberBehind_33 : decode cX5_renumberBehind 33 = .ok (.goto (-31), 3) := by decide +kernel
theorem dX5_renumberBehind_36 : decode cX5_renumberBehind 36 = .ok (.return_, 1) := by decide +kernel
theorem dX5_delayAt_0 : decode cX5_delayAt 0 = .ok (.iconst 0, 1) := by decide +kernel
theorem dX5_delayAt_1 : decode cX5_delayAt 1 = .ok (.istore_n 2, 1) := by decide +kernel
theorem dX5_delayAt_2 : decode cX5_delayAt 2 = .ok (.iconst 0, 1) := by decide +kernel
theorem dX5_delayAt_3 : decode cX5_delayAt 3 = .ok (.istore_n 3, 1) := by decide +kernel
theorem dX5_delayAt_4 : decode cX5_delayAt 4 = .ok (.iload_n 3, 1) := by decide +kernel
theorem dX5_delayAt_5 : decode cX5_delayAt 5 = .ok (.aload_n 0, 1) := by decide +kernel
theorem dX5_delayAt_6 : decode cX5_delayAt 6 = .ok (.getfield 15, 3) := by decide +kernel
theorem dX5_delayAt_9 : decode cX5_delayAt 9 = .ok (.if_icmp .ge 28, 3) := by decide +kernel
theorem dX5_delayAt_12 : decode cX5_delayAt 12 = .ok (.iload_n 1, 1) := by decide +kernel
theorem dX5_delayAt_13 : decode cX5_delayAt 13 = .ok (.iload_n 3, 1) := by decide +kernel
theorem dX5_delayAt_14 : decode cX5_delayAt 14 = .ok (.invokestatic 19, 3) := by decide +kernel
theorem dX5_delayAt_17 : decode cX5_delayAt 17 = .ok (.ifCond .eq 14, 3) := by decide +kernel
theorem dX5_delayAt_20 : decode cX5_delayAt 20 = .ok (.iload_n 2, 1) := by decide +kernel
theorem dX5_delayAt_21 : decode cX5_delayAt 21 = .ok (.iconst 1, 1) := by decide +kernel
theorem dX5_delayAt_22 : decode cX5_delayAt 22 = .ok (.aload_n 0, 1) := by decide +kernel
theorem dX5_delayAt_23 : decode cX5_delayAt 23 = .ok (.getfield 9, 3) := by decide +kernel
theorem dX5_delayAt_26 : decode cX5_delayAt 26 = .ok (.iload_n 3, 1) := by decide +kernel
theorem dX5_delayAt_27 : decode cX5_delayAt 27 = .ok (.iaload, 1) := by decide +kernel
theorem dX5_delayAt_28 : decode cX5_delayAt 28 = .ok (.ishl, 1) := by decide +kernel
theorem dX5_delayAt_29 : decode cX5_delayAt 29 = .ok (.ior, 1) := by decide +kernel
theorem dX5_delayAt_30 : decode cX5_delayAt 30 = .ok (.istore_n 2, 1) := by decide +kernel
theorem dX5_delayAt_31 : decode cX5_delayAt 31 = .ok (.iinc 3 1, 3) := by decide +kernel
theorem dX5_delayAt_34 : decode cX5_delayAt 34 = .ok (.goto (-30), 3) := by decide +kernel
theorem dX5_delayAt_37 : decode cX5_delayAt 37 = .ok (.iload_n 2, 1) := by decide +kernel
theorem dX5_delayAt_38 : decode cX5_delayAt 38 = .ok (.ireturn, 1) := by decide +kernel
theorem dX5_copyFrom_0 : decode cX5_copyFrom 0 = .ok (.aload_n 1, 1) := by decide +kernel
theorem dX5_copyFrom_1 : decode cX5_copyFrom 1 = .ok (.getfield 9, 3) := by decide +kernel
theorem dX5_copyFrom_4 : decode cX5_copyFrom 4 = .ok (.iconst 0, 1) := by decide +kernel
theorem dX5_copyFrom_5 : decode cX5_copyFrom 5 = .ok (.aload_n 0, 1) := by decide +kernel
theorem dX5_copyFrom_6 : decode cX5_copyFrom 6 = .ok (.getfield 9, 3) := by decide +kernel
theorem dX5_copyFrom_9 : decode cX5_copyFrom 9 = .ok (.iconst 0, 1) := by decide +kernel
theorem dX5_copyFrom_10 : decode cX5_copyFrom 10 = .ok (.bipush 7, 2) := by decide +kernel
theorem dX5_copyFrom_12 : decode cX5_copyFrom 12 = .ok (.invokestatic 23, 3) := by decide +kernel
theorem dX5_copyFrom_15 : decode cX5_copyFrom 15 = .ok (.aload_n 0, 1) := by decide +kernel
theorem dX5_copyFrom_16 : decode cX5_copyFrom 16 = .ok (.aload_n 1, 1) := by decide +kernel
theorem dX5_copyFrom_17 : decode cX5_copyFrom 17 = .ok (.getfield 15, 3) := by decide +kernel
theorem dX5_copyFrom_20 : decode cX5_copyFrom 20 = .ok (.putfield 15, 3) := by decide +kernel
theorem dX5_copyFrom_23 : decode cX5_copyFrom 23 = .ok (.return_, 1) := by decide +kernel
theorem dX6_init_0 : decode cX6_init 0 = .ok (.aload_n 0, 1) := by decide +kernel
theorem dX6_init_1 : decode cX6_init 1 = .ok (.invokespecial 3, 3) := by decide +kernel
theorem dX6_init_4 : decode cX6_init 4 = .ok (.aload_n 0, 1) := by decide +kernel
theorem dX6_init_5 : decode cX6_init 5 = .ok (.new 9, 3) := by decide +kernel
theorem dX6_init_8 : decode cX6_init 8 = .ok (.dup, 1) := by decide +kernel
theorem dX6_init_9 : decode cX6_init 9 = .ok (.invokespecial 11, 3) := by decide +kernel
theorem dX6_init_12 : decode cX6_init 12 = .ok (.putfield 12, 3) := by decide +kernel
theorem dX6_init_15 : decode cX6_init 15 = .ok (.aload_n 0, 1) := by decide +kernel
theorem dX6_init_16 : decode cX6_init 16 = .ok (.new 9, 3) := by decide +kernel
theorem dX6_init_19 : decode cX6_init 19 = .ok (.dup, 1) := by decide +kernel
theorem dX6_init_20 : decode cX6_init 20 = .ok (.invokespecial 11, 3) := by decide +kernel
theorem dX6_init_23 : decode cX6_init 23 = .ok (.putfield 18, 3) := by decide +kernel
theorem dX6_init_26 : decode cX6_init 26 = .ok (.aload_n 0, 1) := by decide +kernel
theorem dX6_init_27 : decode cX6_init 27 = .ok (.iconst 0, 1) := by decide +kernel
theorem dX6_init_28 : decode cX6_init 28 = .ok (.putfield 21, 3) := by decide +kernel
theorem dX6_init_31 : decode cX6_init 31 = .ok (.aload_n 0, 1) := by decide +kernel
theorem dX6_init_32 : decode cX6_init 32 = .ok (.iconst 0, 1) := by decide +kernel
theorem dX6_init_33 : decode cX6_init 33 = .ok (.putfield 25, 3) := by decide +kernel
theorem dX6_init_36 : decode cX6_init 36 = .ok (.aload_n 0, 1) := by decide +kernel
theorem dX6_init_37 : decode cX6_init 37 = .ok (.ldc 28, 2) := by decide +kernel
theorem dX6_init_39 : decode cX6_init 39 = .ok (.putfield 29, 3) := by decide +kernel
theorem dX6_init_42 : decode cX6_init 42 = .ok (.aload_n 0, 1) := by decide +kernel
theorem dX6_init_43 : decode cX6_init 43 = .ok (.ldc 28, 2) := by decide +kernel
theorem dX6_init_45 : decode cX6_init 45 = .ok (.putfield 33, 3) := by decide +kernel
theorem dX6_init_48 : decode cX6_init 48 = .ok (.aload_n 0, 1) := by decide +kernel
theorem dX6_init_49 : decode cX6_init 49 = .ok (.ldc 28, 2) := by decide +kernel
theorem dX6_init_51 : decode cX6_init 51 = .ok (.putfield 36, 3) := by decide +kernel
theorem dX6_init_54 : decode cX6_init 54 = .ok (.aload_n 0, 1) := by decide +kernel
theorem dX6_init_55 : decode cX6_init 55 = .ok (.aload_n 1, 1) := by decide +kernel
theorem dX6_init_56 : decode cX6_init 56 = .ok (.putfield 39, 3) := by decide +kernel
theorem dX6_init_59 : decode cX6_init 59 = .ok (.aload_n 0, 1) := by decide +kernel
theorem dX6_init_60 : decode cX6_init 60 = .ok (.aload_n 2, 1) := by decide +kernel
theorem dX6_init_61 : decode cX6_init 61 = .ok (.putfield 43, 3) := by decide +kernel
theorem dX6_init_64 : decode cX6_init 64 = .ok (.aload_n 0, 1) := by decide +kernel
theorem dX6_init_65 : decode cX6_init 65 = .ok (.aload_n 3, 1) := by decide +kernel
theorem dX6_init_66 : decode cX6_init 66 = .ok (.putfield 47, 3) := by decide +kernel
theorem dX6_init_69 : decode cX6_init 69 = .ok (.return_, 1) := by decide +kernel
theorem dX6_forgetBest_0 : decode cX6_forgetBest 0 = .ok (.aload_n 0, 1) := by decide +kernel
theorem dX6_forgetBest_1 : decode cX6_forgetBest 1 = .ok (.iconst 0, 1) := by decide +kernel
theorem dX6_forgetBest_2 : decode cX6_forgetBest 2 = .ok (.putfield 21, 3) := by decide +kernel
theorem dX6_forgetBest_5 : decode cX6_forgetBest 5 = .ok (.aload_n 0, 1) := by decide +kernel
theorem dX6_forgetBest_6 : decode cX6_forgetBest 6 = .ok (.iconst 0, 1) := by decide +kernel
theorem dX6_forgetBest_7 : decode cX6_forgetBest 7 = .ok (.putfield 25, 3) := by decide +kernel
theorem dX6_forgetBest_10 : decode cX6_forgetBest 10 = .ok (.return_, 1) := by decide +kernel
theorem dX6_robustRoute_0 : decode cX6_robustRoute 0 = .ok (.aload_n 0, 1) := by decide +kernel
theorem dX6_robustRoute_1 : decode cX6_robustRoute 1 = .ok (.getfield 21, 3) := by decide +kernel
theorem dX6_robustRoute_4 : decode cX6_robustRoute 4 = .ok (.ifCond .ne 17, 3) := by decide +kernel
theorem dX6_robustRoute_7 : decode cX6_robustRoute 7 = .ok (.aload_n 0, 1) := by decide +kernel
theorem dX6_robustRoute_8 : decode cX6_robustRoute 8 = .ok (.aload_n 0, 1) := by decide +kernel
theorem dX6_robustRoute_9 : decode cX6_robustRoute 9 = .ok (.getfield 12, 3) := by decide +kernel
theorem dX6_robustRoute_12 : decode cX6_robustRoute 12 = .ok (.iconst 0, 1) := by decide +kernel
theorem dX6_robustRoute_13 : decode cX6_robustRoute 13 = .ok (.invokevirtual 51, 3) := by decide +kernel
theorem dX6_robustRoute_16 : decode cX6_robustRoute 16 = .ok (.aload_n 0, 1) := by decide +kernel
theorem dX6_robustRoute_17 : decode cX6_robustRoute 17 = .ok (.iconst 1, 1) := by decide +kernel
theorem dX6_robustRoute_18 : decode cX6_robustRoute 18 = .ok (.putfield 21, 3) := by decide +kernel
theorem dX6_robustRoute_21 : decode cX6_robustRoute 21 = .ok (.aload_n 0, 1) := by decide +kernel
theorem dX6_robustRoute_22 : decode cX6_robustRoute 22 = .ok (.getfield 12, 3) := by decide +kernel
theorem dX6_robustRoute_25 : decode cX6_robustRoute 25 = .ok (.areturn, 1) := by decide +kernel
theorem dX6_calmRoute_0 : decode cX6_calmRoute 0 = .ok (.aload_n 0, 1) := by decide +kernel
theorem dX6_calmRoute_1 : decode cX6_calmRoute 1 = .ok (.getfield 25, 3) := by decide +kernel
theorem dX6_calmRoute_4 : decode cX6_calmRoute 4 = .ok (.ifCond .ne 17, 3) := by decide +kernel
theorem dX6_calmRoute_7 : decode cX6_calmRoute 7 = .ok (.aload_n 0, 1) := by decide +kernel
theorem dX6_calmRoute_8 : decode cX6_calmRoute 8 = .ok (.aload_n 0, 1) := by decide +kernel
theorem dX6_calmRoute_9 : decode cX6_calmRoute 9 = .ok (.getfield 18, 3) := by decide +kernel
theorem dX6_calmRoute_12 : decode cX6_calmRoute 12 = .ok (.iconst 1, 1) := by decide +kernel
theorem dX6_calmRoute_13 : decode cX6_calmRoute 13 = .ok (.invokevirtual 51, 3) := by decide +kernel
theorem dX6_calmRoute_16 : decode cX6_calmRoute 16 = .ok (.aload_n 0, 1) := by decide +kernel
theorem dX6_calmRoute_17 : decode cX6_calmRoute 17 = .ok (.iconst 1, 1) := by decide +kernel
theorem dX6_calmRoute_18 : decode cX6_calmRoute 18 = .ok (.putfield 25, 3) := by decide +kernel
theorem dX6_calmRoute_21 : decode cX6_calmRoute 21 = .ok (.aload_n 0, 1) := by decide +kernel
theorem dX6_calmRoute_22 : decode cX6_calmRoute 22 = .ok (.getfield 18, 3) := by decide +kernel
theorem dX6_calmRoute_25 : decode cX6_calmRoute 25 = .ok (.areturn, 1) := by decide +kernel
theorem dX6_findBest_0 : decode cX6_findBest 0 = .ok (.aload_n 1, 1) := by decide +kernel
theorem dX6_findBest_1 : decode cX6_findBest 1 = .ok (.invokevirtual 55, 3) := by decide +kernel
theorem dX6_findBest_4 : decode cX6_findBest 4 = .ok (.aload_n 0, 1) := by decide +kernel
theorem dX6_findBest_5 : decode cX6_findBest 5 = .ok (.ldc 28, 2) := by decide +kernel
theorem dX6_findBest_7 : decode cX6_findBest 7 = .ok (.putfield 29, 3) := by decide +kernel
theorem dX6_findBest_10 : decode cX6_findBest 10 = .ok (.aload_n 0, 1) := by decide +kernel
theorem dX6_findBest_11 : decode cX6_findBest 11 = .ok (.ldc 28, 2) := by decide +kernel
theorem dX6_findBest_13 : decode cX6_findBest 13 = .ok (.putfield 33, 3) := by decide +kernel
theorem dX6_findBest_16 : decode cX6_findBest 16 = .ok (.aload_n 0, 1) := by decide +kernel
theorem dX6_findBest_17 : decode cX6_findBest 17 = .ok (.ldc 28, 2) := by decide +kernel
theorem dX6_findBest_19 : decode cX6_findBest 19 = .ok (.putfield 36, 3) := by decide +kernel
theorem dX6_findBest_22 : decode cX6_findBest 22 = .ok (.aload_n 0, 1) := by decide +kernel
theorem dX6_findBest_23 : decode cX6_findBest 23 = .ok (.getfield 43, 3) := by decide +kernel
theorem dX6_findBest_26 : decode cX6_findBest 26 = .ok (.invokevirtual 58, 3) := by decide +kernel
theorem dX6_findBest_29 : decode cX6_findBest 29 = .ok (.iconst 0, 1) := by decide +kernel
theorem dX6_findBest_30 : decode cX6_findBest 30 = .ok (.istore_n 3, 1) := by decide +kernel
theorem dX6_findBest_31 : decode cX6_findBest 31 = .ok (.iload_n 3, 1) := by decide +kernel
theorem dX6_findBest_32 : decode cX6_findBest 32 = .ok (.ldc 28, 2) := by decide +kernel
theorem dX6_findBest_34 : decode cX6_findBest 34 = .ok (.if_icmp .ge 90, 3) := by decide +kernel
theorem dX6_findBest_37 : decode cX6_findBest 37 = .ok (.aload_n 0, 1) := by decide +kernel
theorem dX6_findBest_38 : decode cX6_findBest 38 = .ok (.getfield 43, 3) := by decide +kernel
theorem dX6_findBest_41 : decode cX6_findBest 41 = .ok (.invokevirtual 63, 3) := by decide +kernel
theorem dX6_findBest_44 : decode cX6_findBest 44 = .ok (.ifCond .eq 80, 3) := by decide +kernel
theorem dX6_findBest_47 : decode cX6_findBest 47 = .ok (.iconst 0, 1) := by decide +kernel
theorem dX6_findBest_48 : decode cX6_findBest 48 = .ok (.istore 4, 2) := by decide +kernel
theorem dX6_findBest_50 : decode cX6_findBest 50 = .ok (.iload_n 2, 1) := by decide +kernel
theorem dX6_findBest_51 : decode cX6_findBest 51 = .ok (.ifCond .eq 31, 3) := by decide +kernel
theorem dX6_findBest_54 : decode cX6_findBest 54 = .ok (.aload_n 0, 1) := by decide +kernel
theorem dX6_findBest_55 : decode cX6_findBest 55 = .ok (.getfield 47, 3) := by decide +kernel
theorem dX6_findBest_58 : decode cX6_findBest 58 = .ok (.aload_n 0, 1) := by decide +kernel
theorem dX6_findBest_59 : decode cX6_findBest 59 = .ok (.getfield 43, 3) := by decide +kernel
theorem dX6_findBest_62 : decode cX6_findBest 62 = .ok (.getfield 67, 3) := by decide +kernel
theorem dX6_findBest_65 : decode cX6_findBest 65 = .ok (.iconst 0, 1) := by decide +kernel
theorem dX6_findBest_66 : decode cX6_findBest 66 = .ok (.aload_n 0, 1) := by decide +kernel
theorem dX6_findBest_67 : decode cX6_findBest 67 = .ok (.getfield 29, 3) := by decide +kernel
theorem dX6_findBest_70 : decode cX6_findBest 70 = .ok (.invokevirtual 70, 3) := by decide +kernel
theorem dX6_findBest_73 : decode cX6_findBest 73 = .ok (.aload_n 0, 1) := by decide +kernel
theorem dX6_findBest_74 : decode cX6_findBest 74 = .ok (.getfield 47, 3) := by decide +kernel
theorem dX6_findBest_77 : decode cX6_findBest 77 = .ok (.getfield 76, 3) := by decide +kernel
theorem dX6_findBest_80 : decode cX6_findBest 80 = .ok (.istore 4, 2) := by decide +kernel
theorem dX6_findBest_82 : decode cX6_findBest 82 = .ok (.aload_n 0, 1) := by decide +kernel
theorem dX6_findBest_83 : decode cX6_findBest 83 = .ok (.aload_n 1, 1) := by decide +kernel
theorem dX6_findBest_84 : decode cX6_findBest 84 = .ok (.iload 4, 2) := by decide +kernel
theorem dX6_findBest_86 : decode cX6_findBest 86 = .ok (.aload_n 0, 1) := by decide +kernel
theorem dX6_findBest_87 : decode cX6_findBest 87 = .ok (.getfield 39, 3) := by decide +kernel
theorem dX6_findBest_90 : decode cX6_findBest 90 = .ok (.aload_n 0, 1) := by decide +kernel
theorem dX6_findBest_91 : decode cX6_findBest 91 = .ok (.getfield 43, 3) := by decide +kernel
theorem dX6_findBest_94 : decode cX6_findBest 94 = .ok (.getfield 67, 3) := by decide +kernel
theorem dX6_findBest_97 : decode cX6_findBest 97 = .ok (.invokevirtual 79, 3) := by decide +kernel
theorem dX6_findBest_100 : decode cX6_findBest 100 = .ok (.aload_n 0, 1) := by decide +kernel
theorem dX6_findBest_101 : decode cX6_findBest 101 = .ok (.getfield 39, 3) := by decide +kernel
theorem dX6_findBest_104 : decode cX6_findBest 104 = .ok (.aload_n 0, 1) := by decide +kernel
theorem dX6_findBest_105 : decode cX6_findBest 105 = .ok (.getfield 43, 3) := by decide +kernel
theorem dX6_findBest_108 : decode cX6_findBest 108 = .ok (.getfield 67, 3) := by decide +kernel
theorem dX6_findBest_111 : decode cX6_findBest 111 = .ok (.iconst 0, 1) := by decide +kernel
theorem dX6_findBest_112 : decode cX6_findBest 112 = .ok (.invokevirtual 85, 3) := by decide +kernel
theorem dX6_findBest_115 : decode cX6_findBest 115 = .ok (.invokevirtual 89, 3) := by decide +kernel
theorem dX6_findBest_118 : decode cX6_findBest 118 = .ok (.iinc 3 1, 3) := by decide +kernel
theorem dX6_findBest_121 : decode cX6_findBest 121 = .ok (.goto (-90), 3) := by decide +kernel
theorem dX6_findBest_124 : decode cX6_findBest 124 = .ok (.return_, 1) := by decide +kernel
theorem dX6_keepBetter_0 : decode cX6_keepBetter 0 = .ok (.aload_n 1, 1) := by decide +kernel
theorem dX6_keepBetter_1 : decode cX6_keepBetter 1 = .ok (.getfield 93, 3) := by decide +kernel
theorem dX6_keepBetter_4 : decode cX6_keepBetter 4 = .ok (.ifCond .eq 15, 3) := by decide +kernel
theorem dX6_keepBetter_7 : decode cX6_keepBetter 7 = .ok (.aload_n 0, 1) := by decide +kernel
theorem dX6_keepBetter_8 : decode cX6_keepBetter 8 = .ok (.aload_n 1, 1) := by decide +kernel
theorem dX6_keepBetter_9 : decode cX6_keepBetter 9 = .ok (.iload_n 2, 1) := by decide +kernel
theorem dX6_keepBetter_10 : decode cX6_keepBetter 10 = .ok (.iload_n 3, 1) := by decide +kernel
theorem dX6_keepBetter_11 : decode cX6_keepBetter 11 = .ok (.iload 4, 2) := by decide +kernel
theorem dX6_keepBetter_13 : decode cX6_keepBetter 13 = .ok (.invokevirtual 96, 3) := by decide +kernel
theorem dX6_keepBetter_16 : decode cX6_keepBetter 16 = .ok (.ifCond .eq 30, 3) := by decide +kernel
theorem dX6_keepBetter_19 : decode cX6_keepBetter 19 = .ok (.aload_n 1, 1) := by decide +kernel
theorem dX6_keepBetter_20 : decode cX6_keepBetter 20 = .ok (.aload_n 0, 1) := by decide +kernel
theorem dX6_keepBetter_21 : decode cX6_keepBetter 21 = .ok (.getfield 43, 3) := by decide +kernel
theorem dX6_keepBetter_24 : decode cX6_keepBetter 24 = .ok (.getfield 67, 3) := by decide +kernel
theorem dX6_keepBetter_27 : decode cX6_keepBetter 27 = .ok (.invokevirtual 100, 3) := by decide +kernel
theorem dX6_keepBetter_30 : decode cX6_keepBetter 30 = .ok (.aload_n 0, 1) := by decide +kernel
theorem dX6_keepBetter_31 : decode cX6_keepBetter 31 = .ok (.iload_n 2, 1) := by decide +kernel
theorem dX6_keepBetter_32 : decode cX6_keepBetter 32 = .ok (.putfield 29, 3) := by decide +kernel
theorem dX6_keepBetter_35 : decode cX6_keepBetter 35 = .ok (.aload_n 0, 1) := by decide +kernel
theorem dX6_keepBetter_36 : decode cX6_keepBetter 36 = .ok (.iload_n 3, 1) := by decide +kernel
theorem dX6_keepBetter_37 : decode cX6_keepBetter 37 = .ok (.putfield 33, 3) := by decide +kernel
theorem dX6_keepBetter_40 : decode cX6_keepBetter 40 = .ok (.aload_n 0, 1) := by decide +kernel
theorem dX6_keepBetter_41 : decode cX6_keepBetter 41 = .ok (.iload 4, 2) := by decide +kernel
theorem dX6_keepBetter_43 : decode cX6_keepBetter 43 = .ok (.putfield 36, 3) := by decide +kernel
theorem dX6_keepBetter_46 : decode cX6_keepBetter 46 = .ok (.return_, 1) := by decide +kernel
theorem dX6_isBetter_0 : decode cX6_isBetter 0 = .ok (.iload_n 2, 1) := by decide +kernel
theorem dX6_isBetter_1 : decode cX6_isBetter 1 = .ok (.aload_n 0, 1) := by decide +kernel
theorem dX6_isBetter_2 : decode cX6_isBetter 2 = .ok (.getfield 29, 3) := by decide +kernel
theorem dX6_isBetter_5 : decode cX6_isBetter 5 = .ok (.if_icmp .eq 17, 3) := by decide +kernel
theorem dX6_isBetter_8 : decode cX6_isBetter 8 = .ok (.iload_n 2, 1) := by decide +kernel
theorem dX6_isBetter_9 : decode cX6_isBetter 9 = .ok (.aload_n 0, 1) := by decide +kernel
theorem dX6_isBetter_10 : decode cX6_isBetter 10 = .ok (.getfield 29, 3) := by decide +kernel
theorem dX6_isBetter_13 : decode cX6_isBetter 13 = .ok (.if_icmp .ge 7, 3) := by decide +kernel
theorem dX6_isBetter_16 : decode cX6_isBetter 16 = .ok (.iconst 1, 1) := by decide +kernel
theorem dX6_isBetter_17 : decode cX6_isBetter 17 = .ok (.goto 4, 3) := by decide +kernel
theorem dX6_isBetter_20 : decode cX6_isBetter 20 = .ok (.iconst 0, 1) := by decide +kernel
theorem dX6_isBetter_21 : decode cX6_isBetter 21 = .ok (.ireturn, 1) := by decide +kernel
theorem dX6_isBetter_22 : decode cX6_isBetter 22 = .ok (.iload_n 3, 1) := by decide +kernel
theorem dX6_isBetter_23 : decode cX6_isBetter 23 = .ok (.aload_n 0, 1) := by decide +kernel
theorem dX6_isBetter_24 : decode cX6_isBetter 24 = .ok (.getfield 33, 3) := by decide +kernel
theorem dX6_isBetter_27 : decode cX6_isBetter 27 = .ok (.if_icmp .eq 17, 3) := by decide +kernel
theorem dX6_isBetter_30 : decode cX6_isBetter 30 = .ok (.iload_n 3, 1) := by decide +kernel
theorem dX6_isBetter_31 : decode cX6_isBetter 31 = .ok (.aload_n 0, 1) := by decide +kernel
theorem dX6_isBetter_32 : decode cX6_isBetter 32 = .ok (.getfield 33, 3) := by decide +kernel
theorem dX6_isBetter_35 : decode cX6_isBetter 35 = .ok (.if_icmp .ge 7, 3) := by decide +kernel
theorem dX6_isBetter_38 : decode cX6_isBetter 38 = .ok (.iconst 1, 1) := by decide +kernel
theorem dX6_isBetter_39 : decode cX6_isBetter 39 = .ok (.goto 4, 3) := by decide +kernel
theorem dX6_isBetter_42 : decode cX6_isBetter 42 = .ok (.iconst 0, 1) := by decide +kernel
theorem dX6_isBetter_43 : decode cX6_isBetter 43 = .ok (.ireturn, 1) := by decide +kernel
theorem dX6_isBetter_44 : decode cX6_isBetter 44 = .ok (.iload 4, 2) := by decide +kernel
theorem dX6_isBetter_46 : decode cX6_isBetter 46 = .ok (.aload_n 0, 1) := by decide +kernel
theorem dX6_isBetter_47 : decode cX6_isBetter 47 = .ok (.getfield 36, 3) := by decide +kernel
theorem dX6_isBetter_50 : decode cX6_isBetter 50 = .ok (.if_icmp .eq 18, 3) := by decide +kernel
theorem dX6_isBetter_53 : decode cX6_isBetter 53 = .ok (.iload 4, 2) := by decide +kernel
theorem dX6_isBetter_55 : decode cX6_isBetter 55 = .ok (.aload_n 0, 1) := by decide +kernel
theorem dX6_isBetter_56 : decode cX6_isBetter 56 = .ok (.getfield 36, 3) := by decide +kernel
theorem dX6_isBetter_59 : decode cX6_isBetter 59 = .ok (.if_icmp .ge 7, 3) := by decide +kernel
theorem dX6_isBetter_62 : decode cX6_isBetter 62 = .ok (.iconst 1, 1) := by decide +kernel
theorem dX6_isBetter_63 : decode cX6_isBetter 63 = .ok (.goto 4, 3) := by decide +kernel
theorem dX6_isBetter_66 : decode cX6_isBetter 66 = .ok (.iconst 0, 1) := by decide +kernel
theorem dX6_isBetter_67 : decode cX6_isBetter 67 = .ok (.ireturn, 1) := by decide +kernel
theorem dX6_isBetter_68 : decode cX6_isBetter 68 = .ok (.aload_n 0, 1) := by decide +kernel
theorem dX6_isBetter_69 : decode cX6_isBetter 69 = .ok (.getfield 43, 3) := by decide +kernel
theorem dX6_isBetter_72 : decode cX6_isBetter 72 = .ok (.getfield 67, 3) := by decide +kernel
theorem dX6_isBetter_75 : decode cX6_isBetter 75 = .ok (.getfield 93, 3) := by decide +kernel
theorem dX6_isBetter_78 : decode cX6_isBetter 78 = .ok (.aload_n 1, 1) := by decide +kernel
theorem dX6_isBetter_79 : decode cX6_isBetter 79 = .ok (.getfield 93, 3) := by decide +kernel
theorem dX6_isBetter_82 : decode cX6_isBetter 82 = .ok (.if_icmp .ge 7, 3) := by decide +kernel
theorem dX6_isBetter_85 : decode cX6_isBetter 85 = .ok (.iconst 1, 1) := by decide +kernel
theorem dX6_isBetter_86 : decode cX6_isBetter 86 = .ok (.goto 4, 3) := by decide +kernel
theorem dX6_isBetter_89 : decode cX6_isBetter 89 = .ok (.iconst 0, 1) := by decide +kernel
theorem dX6_isBetter_90 : decode cX6_isBetter 90 = .ok (.ireturn, 1) := by decide +kernel
theorem dX7_init_0 : decode cX7_init 0 = .ok (.aload_n 0, 1) := by decide +kernel
theorem dX7_init_1 : decode cX7_init 1 = .ok (.invokespecial 3, 3) := by decide +kernel
theorem dX7_init_4 : decode cX7_init 4 = .ok (.aload_n 0, 1) := by decide +kernel
theorem dX7_init_5 : decode cX7_init 5 = .ok (.new 9, 3) := by decide +kernel
theorem dX7_init_8 : decode cX7_init 8 = .ok (.dup, 1) := by decide +kernel
theorem dX7_init_9 : decode cX7_init 9 = .ok (.invokespecial 11, 3) := by decide +kernel
theorem dX7_init_12 : decode cX7_init 12 = .ok (.putfield 12, 3) := by decide +kernel
theorem dX7_init_15 : decode cX7_init 15 = .ok (.aload_n 0, 1) := by decide +kernel
theorem dX7_init_16 : decode cX7_init 16 = .ok (.aload_n 1, 1) := by decide +kernel
theorem dX7_init_17 : decode cX7_init 17 = .ok (.putfield 18, 3) := by decide +kernel
theorem dX7_init_20 : decode cX7_init 20 = .ok (.return_, 1) := by decide +kernel
theorem dX7_begin_0 : decode cX7_begin 0 = .ok (.aload_n 0, 1) := by decide +kernel
theorem dX7_begin_1 : decode cX7_begin 1 = .ok (.getfield 12, 3) := by decide +kernel
theorem dX7_begin_4 : decode cX7_begin 4 = .ok (.invokevirtual 22, 3) := by decide +kernel
theorem dX7_begin_7 : decode cX7_begin 7 = .ok (.return_, 1) := by decide +kernel
theorem dX7_advance_0 : decode cX7_advance 0 = .ok (.aload_n 0, 1) := by decide +kernel
theorem dX7_advance_1 : decode cX7_advance 1 = .ok (.getfield 12, 3) := by decide +kernel
theorem dX7_advance_4 : decode cX7_advance 4 = .ok (.invokevirtual 25, 3) := by decide +kernel
theorem dX7_advance_7 : decode cX7_advance 7 = .ok (.iconst 1, 1) := by decide +kernel
theorem dX7_advance_8 : decode cX7_advance 8 = .ok (.iadd, 1) := by decide +kernel
theorem dX7_advance_9 : decode cX7_advance 9 = .ok (.istore_n 1, 1) := by decide +kernel
theorem dX7_advance_10 : decode cX7_advance 10 = .ok (.iconst 0, 1) := by decide +kernel
theorem dX7_advance_11 : decode cX7_advance 11 = .ok (.istore_n 2, 1) := by decide +kernel
theorem dX7_advance_12 : decode cX7_advance 12 = .ok (.iload_n 2, 1) := by decide +kernel
theorem dX7_advance_13 : decode cX7_advance 13 = .ok (.ldc 29, 2) := by decide +kernel
theorem dX7_advance_15 : decode cX7_advance 15 = .ok (.if_icmp .ge 78, 3) := by decide +kernel
theorem dX7_advance_18 : decode cX7_advance 18 = .ok (.aload_n 0, 1) := by decide +kernel
theorem dX7_advance_19 : decode cX7_advance 19 = .ok (.iload_n 1, 1) := by decide +kernel
theorem dX7_advance_20 : decode cX7_advance 20 = .ok (.invokevirtual 30, 3) := by decide +kernel
theorem dX7_advance_23 : decode cX7_advance 23 = .ok (.istore_n 3, 1) := by decide +kernel
theorem dX7_advance_24 : decode cX7_advance 24 = .ok (.iload_n 3, 1) := by decide +kernel
theorem dX7_advance_25 : decode cX7_advance 25 = .ok (.iconst (-1), 1) := by decide +kernel
theorem dX7_advance_26 : decode cX7_advance 26 = .ok (.if_icmp .eq 39, 3) := by decide +kernel
theorem dX7_advance_29 : decode cX7_advance 29 = .ok (.aload_n 0, 1) := by decide +kernel
theorem dX7_advance_30 : decode cX7_advance 30 = .ok (.getfield 12, 3) := by decide +kernel
theorem dX7_advance_33 : decode cX7_advance 33 = .ok (.iload_n 3, 1) := by decide +kernel
theorem dX7_advance_34 : decode cX7_advance 34 = .ok (.invokevirtual 34, 3) := by decide +kernel
theorem dX7_advance_37 : decode cX7_advance 37 = .ok (.aload_n 0, 1) := by decide +kernel
theorem dX7_advance_38 : decode cX7_advance 38 = .ok (.getfield 18, 3) := by decide +kernel
theorem dX7_advance_41 : decode cX7_advance 41 = .ok (.aload_n 0, 1) := by decide +kernel
theorem dX7_advance_42 : decode cX7_advance 42 = .ok (.getfield 12, 3) := by decide +kernel
theorem dX7_advance_45 : decode cX7_advance 45 = .ok (.invokevirtual 38, 3) := by decide +kernel
theorem dX7_advance_48 : decode cX7_advance 48 = .ok (.aload_n 0, 1) := by decide +kernel
theorem dX7_advance_49 : decode cX7_advance 49 = .ok (.getfield 18, 3) := by decide +kernel
theorem dX7_advance_52 : decode cX7_advance 52 = .ok (.getfield 44, 3) := by decide +kernel
theorem dX7_advance_55 : decode cX7_advance 55 = .ok (.if_icmp .ne 5, 3) := by decide +kernel
theorem dX7_advance_58 : decode cX7_advance 58 = .ok (.iconst 1, 1) := by decide +kernel
theorem dX7_advance_59 : decode cX7_advance 59 = .ok (.ireturn, 1) := by decide +kernel
theorem dX7_advance_60 : decode cX7_advance 60 = .ok (.iconst 0, 1) := by decide +kernel
theorem dX7_advance_61 : decode cX7_advance 61 = .ok (.istore_n 1, 1) := by decide +kernel
theorem dX7_advance_62 : decode cX7_advance 62 = .ok (.goto 25, 3) := by decide +kernel
theorem dX7_advance_65 : decode cX7_advance 65 = .ok (.aload_n 0, 1) := by decide +kernel
theorem dX7_advance_66 : decode cX7_advance 66 = .ok (.getfield 12, 3) := by decide +kernel
theorem dX7_advance_69 : decode cX7_advance 69 = .ok (.getfield 48, 3) := by decide +kernel
theorem dX7_advance_72 : decode cX7_advance 72 = .ok (.ifCond .ne 5, 3) := by decide +kernel
theorem dX7_advance_75 : decode cX7_advance 75 = .ok (.iconst 0, 1) := by decide +kernel
theorem dX7_advance_76 : decode cX7_advance 76 = .ok (.ireturn, 1) := by decide +kernel
theorem dX7_advance_77 : decode cX7_advance 77 = .ok (.aload_n 0, 1) := by decide +kernel
theorem dX7_advance_78 : decode cX7_advance 78 = .ok (.getfield 12, 3) := by decide +kernel
theorem dX7_advance_81 : decode cX7_advance 81 = .ok (.invokevirtual 25, 3) := by decide +kernel
theorem dX7_advance_84 : decode cX7_advance 84 = .ok (.iconst 1, 1) := by decide +kernel
theorem dX7_advance_85 : decode cX7_advance 85 = .ok (.iadd, 1) := by decide +kernel
theorem dX7_advance_86 : decode cX7_advance 86 = .ok (.istore_n 1, 1) := by decide +kernel
theorem dX7_advance_87 : decode cX7_advance 87 = .ok (.iinc 2 1, 3) := by decide +kernel
theorem dX7_advance_90 : decode cX7_advance 90 = .ok (.goto (-78), 3) := by decide +kernel
theorem dX7_advance_93 : decode cX7_advance 93 = .ok (.iconst 0, 1) := by decide +kernel
theorem dX7_advance_94 : decode cX7_advance 94 = .ok (.ireturn, 1) := by decide +kernel
theorem dX7_followerFrom_0 : decode cX7_followerFrom 0 = .ok (.iload_n 1, 1) := by decide +kernel
theorem dX7_followerFrom_1 : decode cX7_followerFrom 1 = .ok (.istore_n 2, 1) := by decide +kernel
theorem dX7_followerFrom_2 : decode cX7_followerFrom 2 = .ok (.iload_n 2, 1) := by decide +kernel
theorem dX7_followerFrom_3 : decode cX7_followerFrom 3 = .ok (.aload_n 0, 1) := by decide +kernel
theorem dX7_followerFrom_4 : decode cX7_followerFrom 4 = .ok (.getfield 18, 3) := by decide +kernel
theorem dX7_followerFrom_7 : decode cX7_followerFrom 7 = .ok (.getfield 51, 3) := by decide +kernel
theorem dX7_followerFrom_10 : decode cX7_followerFrom 10 = .ok (.if_icmp .ge 26, 3) := by decide +kernel
theorem dX7_followerFrom_13 : decode cX7_followerFrom 13 = .ok (.aload_n 0, 1) := by decide +kernel
theorem dX7_followerFrom_14 : decode cX7_followerFrom 14 = .ok (.getfield 18, 3) := by decide +kernel
theorem dX7_followerFrom_17 : decode cX7_followerFrom 17 = .ok (.aload_n 0, 1) := by decide +kernel
theorem dX7_followerFrom_18 : decode cX7_followerFrom 18 = .ok (.getfield 12, 3) := by decide +kernel
theorem dX7_followerFrom_21 : decode cX7_followerFrom 21 = .ok (.iload_n 2, 1) := by decide +kernel
theorem dX7_followerFrom_22 : decode cX7_followerFrom 22 = .ok (.invokevirtual 54, 3) := by decide +kernel
theorem dX7_followerFrom_25 : decode cX7_followerFrom 25 = .ok (.ifCond .eq 5, 3) := by decide +kernel
theorem dX7_followerFrom_28 : decode cX7_followerFrom 28 = .ok (.iload_n 2, 1) := by decide +kernel
theorem dX7_followerFrom_29 : decode cX7_followerFrom 29 = .ok (.ireturn, 1) := by decide +kernel
theorem dX7_followerFrom_30 : decode cX7_followerFrom 30 = .ok (.iinc 2 1, 3) := by decide +kernel
theorem dX7_followerFrom_33 : decode cX7_followerFrom 33 = .ok (.goto (-31), 3) := by decide +kernel
theorem dX7_followerFrom_36 : decode cX7_followerFrom 36 = .ok (.iconst (-1), 1) := by decide +kernel
theorem dX7_followerFrom_37 : decode cX7_followerFrom 37 = .ok (.ireturn, 1) := by decide +kernel
theorem dX7_countRoutes_0 : decode cX7_countRoutes 0 = .ok (.iconst 0, 1) := by decide +kernel
theorem dX7_countRoutes_1 : decode cX7_countRoutes 1 = .ok (.istore_n 1, 1) := by decide +kernel
theorem dX7_countRoutes_2 : decode cX7_countRoutes 2 = .ok (.aload_n 0, 1) := by decide +kernel
theorem dX7_countRoutes_3 : decode cX7_countRoutes 3 = .ok (.invokevirtual 58, 3) := by decide +kernel
theorem dX7_countRoutes_6 : decode cX7_countRoutes 6 = .ok (.iload_n 1, 1) := by decide +kernel
theorem dX7_countRoutes_7 : decode cX7_countRoutes 7 = .ok (.ldc 29, 2) := by decide +kernel
theorem dX7_countRoutes_9 : decode cX7_countRoutes 9 = .ok (.if_icmp .ge 16, 3) := by decide +kernel
theorem dX7_countRoutes_12 : decode cX7_countRoutes 12 = .ok (.aload_n 0, 1) := by decide +kernel
theorem dX7_countRoutes_13 : decode cX7_countRoutes 13 = .ok (.invokevirtual 61, 3) := by decide +kernel
theorem dX7_countRoutes_16 : decode cX7_countRoutes 16 = .ok (.ifCond .eq 9, 3) := by decide +kernel
theorem dX7_countRoutes_19 : decode cX7_countRoutes 19 = .ok (.iinc 1 1, 3) := by decide +kernel
theorem dX7_countRoutes_22 : decode cX7_countRoutes 22 = .ok (.goto (-16), 3) := by decide +kernel
theorem dX7_countRoutes_25 : decode cX7_countRoutes 25 = .ok (.iload_n 1, 1) := by decide +kernel
theorem dX7_countRoutes_26 : decode cX7_countRoutes 26 = .ok (.ireturn, 1) := by decide +kernel
theorem dX7_countWithin_0 : decode cX7_countWithin 0 = .ok (.iconst 0, 1) := by decide +kernel
theorem dX7_countWithin_1 : decode cX7_countWithin 1 = .ok (.istore_n 2, 1) := by decide +kernel
theorem dX7_countWithin_2 : decode cX7_countWithin 2 = .ok (.aload_n 0, 1) := by decide +kernel
theorem dX7_countWithin_3 : decode cX7_countWithin 3 = .ok (.invokevirtual 58, 3) := by decide +kernel
theorem dX7_countWithin_6 : decode cX7_countWithin 6 = .ok (.iconst 0, 1) := by decide +kernel
theorem dX7_countWithin_7 : decode cX7_countWithin 7 = .ok (.istore_n 3, 1) := by decide +kernel
theorem dX7_countWithin_8 : decode cX7_countWithin 8 = .ok (.iload_n 3, 1) := by decide +kernel
theorem dX7_countWithin_9 : decode cX7_countWithin 9 = .ok (.ldc 29, 2) := by decide +kernel
theorem dX7_countWithin_11 : decode cX7_countWithin 11 = .ok (.if_icmp .ge 34, 3) := by decide +kernel
theorem dX7_countWithin_14 : decode cX7_countWithin 14 = .ok (.aload_n 0, 1) := by decide +kernel
theorem dX7_countWithin_15 : decode cX7_countWithin 15 = .ok (.invokevirtual 61, 3) := by decide +kernel
theorem dX7_countWithin_18 : decode cX7_countWithin 18 = .ok (.ifCond .eq 27, 3) := by decide +kernel
theorem dX7_countWithin_21 : decode cX7_countWithin 21 = .ok (.aload_n 0, 1) := by decide +kernel
theorem dX7_countWithin_22 : decode cX7_countWithin 22 = .ok (.getfield 18, 3) := by decide +kernel
theorem dX7_countWithin_25 : decode cX7_countWithin 25 = .ok (.aload_n 0, 1) := by decide +kernel
theorem dX7_countWithin_26 : decode cX7_countWithin 26 = .ok (.getfield 12, 3) := by decide +kernel
theorem dX7_countWithin_29 : decode cX7_countWithin 29 = .ok (.invokevirtual 65, 3) := by decide +kernel
theorem dX7_countWithin_32 : decode cX7_countWithin 32 = .ok (.iload_n 1, 1) := by decide +kernel
theorem dX7_countWithin_33 : decode cX7_countWithin 33 = .ok (.if_icmp .gt 6, 3) := by decide +kernel
theorem dX7_countWithin_36 : decode cX7_countWithin 36 = .ok (.iinc 2 1, 3) := by decide +kernel
theorem dX7_countWithin_39 : decode cX7_countWithin 39 = .ok (.iinc 3 1, 3) := by decide +kernel
theorem dX7_countWithin_42 : decode cX7_countWithin 42 = .ok (.goto (-34), 3) := by decide +kernel
theorem dX7_countWithin_45 : decode cX7_countWithin 45 = .ok (.iload_n 2, 1) := by decide +kernel
theorem dX7_countWithin_46 : decode cX7_countWithin 46 = .ok (.ireturn, 1) := by decide +kernel
theorem dX8_init_0 : decode cX8_init 0 = .ok (.aload_n 0, 1) := by decide +kernel
theorem dX8_init_1 : decode cX8_init 1 = .ok (.invokespecial 3, 3) := by decide +kernel
theorem dX8_init_4 : decode cX8_init 4 = .ok (.aload_n 0, 1) := by decide +kernel
theorem dX8_init_5 : decode cX8_init 5 = .ok (.new 9, 3) := by decide +kernel
theorem dX8_init_8 : decode cX8_init 8 = .ok (.dup, 1) := by decide +kernel
theorem dX8_init_9 : decode cX8_init 9 = .ok (.invokespecial 11, 3) := by decide +kernel
theorem dX8_init_12 : decode cX8_init 12 = .ok (.putfield 12, 3) := by decide +kernel
theorem dX8_init_15 : decode cX8_init 15 = .ok (.aload_n 0, 1) := by decide +kernel
theorem dX8_init_16 : decode cX8_init 16 = .ok (.new 18, 3) := by decide +kernel
theorem dX8_init_19 : decode cX8_init 19 = .ok (.dup, 1) := by decide +kernel
theorem dX8_init_20 : decode cX8_init 20 = .ok (.invokespecial 20, 3) := by decide +kernel
theorem dX8_init_23 : decode cX8_init 23 = .ok (.putfield 21, 3) := by decide +kernel
theorem dX8_init_26 : decode cX8_init 26 = .ok (.aload_n 0, 1) := by decide +kernel
theorem dX8_init_27 : decode cX8_init 27 = .ok (.bipush 6, 2) := by decide +kernel
theorem dX8_init_29 : decode cX8_init 29 = .ok (.anewarray 18, 3) := by decide +kernel
theorem dX8_init_32 : decode cX8_init 32 = .ok (.putfield 25, 3) := by decide +kernel
theorem dX8_init_35 : decode cX8_init 35 = .ok (.iconst 0, 1) := by decide +kernel
theorem dX8_init_36 : decode cX8_init 36 = .ok (.istore_n 1, 1) := by decide +kernel
theorem dX8_init_37 : decode cX8_init 37 = .ok (.iload_n 1, 1) := by decide +kernel
theorem dX8_init_38 : decode cX8_init 38 = .ok (.bipush 6, 2) := by decide +kernel
theorem dX8_init_40 : decode cX8_init 40 = .ok (.if_icmp .ge 22, 3) := by decide +kernel
theorem dX8_init_43 : decode cX8_init 43 = .ok (.aload_n 0, 1) := by decide +kernel
theorem dX8_init_44 : decode cX8_init 44 = .ok (.getfield 25, 3) := by decide +kernel
theorem dX8_init_47 : decode cX8_init 47 = .ok (.iload_n 1, 1) := by decide +kernel
theorem dX8_init_48 : decode cX8_init 48 = .ok (.new 18, 3) := by decide +kernel
theorem dX8_init_51 : decode cX8_init 51 = .ok (.dup, 1) := by decide +kernel
theorem dX8_init_52 : decode cX8_init 52 = .ok (.invokespecial 20, 3) := by decide +kernel
theorem dX8_init_55 : decode cX8_init 55 = .ok (.aastore, 1) := by decide +kernel
theorem dX8_init_56 : decode cX8_init 56 = .ok (.iinc 1 1, 3) := by decide +kernel
theorem dX8_init_59 : decode cX8_init 59 = .ok (.goto (-22), 3) := by decide +kernel
theorem dX8_init_62 : decode cX8_init 62 = .ok (.aload_n 0, 1) := by decide +kernel
theorem dX8_init_63 : decode cX8_init 63 = .ok (.new 29, 3) := by decide +kernel
theorem dX8_init_66 : decode cX8_init 66 = .ok (.dup, 1) := by decide +kernel
theorem dX8_init_67 : decode cX8_init 67 = .ok (.invokespecial 31, 3) := by decide +kernel
theorem dX8_init_70 : decode cX8_init 70 = .ok (.putfield 32, 3) := by decide +kernel
theorem dX8_init_73 : decode cX8_init 73 = .ok (.return_, 1) := by decide +kernel
theorem dX8_begin_0 : decode cX8_begin 0 = .ok (.aload_n 0, 1) := by decide +kernel
theorem dX8_begin_1 : decode cX8_begin 1 = .ok (.getfield 12, 3) := by decide +kernel
theorem dX8_begin_4 : decode cX8_begin 4 = .ok (.iload_n 1, 1) := by decide +kernel
theorem dX8_begin_5 : decode cX8_begin 5 = .ok (.iload_n 2, 1) := by decide +kernel
theorem dX8_begin_6 : decode cX8_begin 6 = .ok (.iload_n 3, 1) := by decide +kernel
theorem dX8_begin_7 : decode cX8_begin 7 = .ok (.invokevirtual 36, 3) := by decide +kernel
theorem dX8_begin_10 : decode cX8_begin 10 = .ok (.aload_n 0, 1) := by decide +kernel
theorem dX8_begin_11 : decode cX8_begin 11 = .ok (.getfield 21, 3) := by decide +kernel
theorem dX8_begin_14 : decode cX8_begin 14 = .ok (.invokevirtual 40, 3) := by decide +kernel
theorem dX8_begin_17 : decode cX8_begin 17 = .ok (.aload_n 0, 1) := by decide +kernel
theorem dX8_begin_18 : decode cX8_begin 18 = .ok (.iconst 0, 1) := by decide +kernel
theorem dX8_begin_19 : decode cX8_begin 19 = .ok (.putfield 43, 3) := by decide +kernel
theorem dX8_begin_22 : decode cX8_begin 22 = .ok (.aload_n 0, 1) := by decide +kernel
theorem dX8_begin_23 : decode cX8_begin 23 = .ok (.getfield 32, 3) := by decide +kernel
theorem dX8_begin_26 : decode cX8_begin 26 = .ok (.aload_n 0, 1) := by decide +kernel
theorem dX8_begin_27 : decode cX8_begin 27 = .ok (.getfield 12, 3) := by decide +kernel
theorem dX8_begin_30 : decode cX8_begin 30 = .ok (.invokevirtual 47, 3) := by decide +kernel
theorem dX8_begin_33 : decode cX8_begin 33 = .ok (.return_, 1) := by decide +kernel
theorem dX8_wasTold_0 : decode cX8_wasTold 0 = .ok (.iconst 0, 1) := by decide +kernel
theorem dX8_wasTold_1 : decode cX8_wasTold 1 = .ok (.istore_n 2, 1) := by decide +kernel
theorem dX8_wasTold_2 : decode cX8_wasTold 2 = .ok (.iload_n 2, 1) := by decide +kernel
theorem dX8_wasTold_3 : decode cX8_wasTold 3 = .ok (.aload_n 0, 1) := by decide +kernel
theorem dX8_wasTold_4 : decode cX8_wasTold 4 = .ok (.getfield 43, 3) := by decide +kernel
theorem dX8_wasTold_7 : decode cX8_wasTold 7 = .ok (.if_icmp .ge 24, 3) := by decide +kernel
theorem dX8_wasTold_10 : decode cX8_wasTold 10 = .ok (.aload_n 0, 1) := by decide +kernel
theorem dX8_wasTold_11 : decode cX8_wasTold 11 = .ok (.getfield 25, 3) := by decide +kernel
theorem dX8_wasTold_14 : decode cX8_wasTold 14 = .ok (.iload_n 2, 1) := by decide +kernel
theorem dX8_wasTold_15 : decode cX8_wasTold 15 = .ok (.aaload, 1) := by decide +kernel
theorem dX8_wasTold_16 : decode cX8_wasTold 16 = .ok (.aload_n 1, 1) := by decide +kernel
theorem dX8_wasTold_17 : decode cX8_wasTold 17 = .ok (.invokevirtual 50, 3) := by decide +kernel
theorem dX8_wasTold_20 : decode cX8_wasTold 20 = .ok (.ifCond .eq 5, 3) := by decide +kernel
theorem dX8_wasTold_23 : decode cX8_wasTold 23 = .ok (.iconst 1, 1) := by decide +kernel
theorem dX8_wasTold_24 : decode cX8_wasTold 24 = .ok (.ireturn, 1) := by decide +kernel
theorem dX8_wasTold_25 : decode cX8_wasTold 25 = .ok (.iinc 2 1, 3) := by decide +kernel
theorem dX8_wasTold_28 : decode cX8_wasTold 28 = .ok (.goto (-26), 3) := by decide +kernel
theorem dX8_wasTold_31 : decode cX8_wasTold 31 = .ok (.iconst 0, 1) := by decide +kernel
theorem dX8_wasTold_32 : decode cX8_wasTold 32 = .ok (.ireturn, 1) := by decide +kernel
theorem dX8_usesArc_0 : decode cX8_usesArc 0 = .ok (.iconst 0, 1) := by decide +kernel
theorem dX8_usesArc_1 : decode cX8_usesArc 1 = .ok (.istore_n 2, 1) := by decide +kernel
theorem dX8_usesArc_2 : decode cX8_usesArc 2 = .ok (.iload_n 2, 1) := by decide +kernel
theorem dX8_usesArc_3 : decode cX8_usesArc 3 = .ok (.aload_n 0, 1) := by decide +kernel
theorem dX8_usesArc_4 : decode cX8_usesArc 4 = .ok (.getfield 43, 3) := by decide +kernel
theorem dX8_usesArc_7 : decode cX8_usesArc 7 = .ok (.if_icmp .ge 24, 3) := by decide +kernel
theorem dX8_usesArc_10 : decode cX8_usesArc 10 = .ok (.aload_n 0, 1) := by decide +kernel
theorem dX8_usesArc_11 : decode cX8_usesArc 11 = .ok (.getfield 25, 3) := by decide +kernel
theorem dX8_usesArc_14 : decode cX8_usesArc 14 = .ok (.iload_n 2, 1) := by decide +kernel
theorem dX8_usesArc_15 : decode cX8_usesArc 15 = .ok (.aaload, 1) := by decide +kernel
theorem dX8_usesArc_16 : decode cX8_usesArc 16 = .ok (.iload_n 1, 1) := by decide +kernel
theorem dX8_usesArc_17 : decode cX8_usesArc 17 = .ok (.invokevirtual 54, 3) := by decide +kernel
theorem dX8_usesArc_20 : decode cX8_usesArc 20 = .ok (.ifCond .eq 5, 3) := by decide +kernel
theorem dX8_usesArc_23 : decode cX8_usesArc 23 = .ok (.iconst 1, 1) := by decide +kernel
theorem dX8_usesArc_24 : decode cX8_usesArc 24 = .ok (.ireturn, 1) := by decide +kernel
theorem dX8_usesArc_25 : decode cX8_usesArc 25 = .ok (.iinc 2 1, 3) := by decide +kernel
theorem dX8_usesArc_28 : decode cX8_usesArc 28 = .ok (.goto (-26), 3) := by decide +kernel
theorem dX8_usesArc_31 : decode cX8_usesArc 31 = .ok (.aload_n 0, 1) := by decide +kernel
theorem dX8_usesArc_32 : decode cX8_usesArc 32 = .ok (.getfield 21, 3) := by decide +kernel
theorem dX8_usesArc_35 : decode cX8_usesArc 35 = .ok (.iload_n 1, 1) := by decide +kernel
theorem dX8_usesArc_36 : decode cX8_usesArc 36 = .ok (.invokevirtual 54, 3) := by decide +kernel
theorem dX8_usesArc_39 : decode cX8_usesArc 39 = .ok (.ireturn, 1) := by decide +kernel
theorem dX8_takeArcOut_0 : decode cX8_takeArcOut 0 = .ok (.aload_n 0, 1) := by decide +kernel
theorem dX8_takeArcOut_1 : decode cX8_takeArcOut 1 = .ok (.getfield 12, 3) := by decide +kernel
theorem dX8_takeArcOut_4 : decode cX8_takeArcOut 4 = .ok (.iload_n 1, 1) := by decide +kernel
theorem dX8_takeArcOut_5 : decode cX8_takeArcOut 5 = .ok (.invokevirtual 58, 3) := by decide +kernel
theorem dX8_takeArcOut_8 : decode cX8_takeArcOut 8 = .ok (.aload_n 0, 1) := by decide +kernel
theorem dX8_takeArcOut_9 : decode cX8_takeArcOut 9 = .ok (.getfield 21, 3) := by decide +kernel
theorem dX8_takeArcOut_12 : decode cX8_takeArcOut 12 = .ok (.iload_n 1, 1) := by decide +kernel
theorem dX8_takeArcOut_13 : decode cX8_takeArcOut 13 = .ok (.invokevirtual 62, 3) := by decide +kernel
theorem dX8_takeArcOut_16 : decode cX8_takeArcOut 16 = .ok (.iconst 0, 1) := by decide +kernel
theorem dX8_takeArcOut_17 : decode cX8_takeArcOut 17 = .ok (.istore_n 2, 1) := by decide +kernel
theorem dX8_takeArcOut_18 : decode cX8_takeArcOut 18 = .ok (.iload_n 2, 1) := by decide +kernel
theorem dX8_takeArcOut_19 : decode cX8_takeArcOut 19 = .ok (.aload_n 0, 1) := by decide +kernel
theorem dX8_takeArcOut_20 : decode cX8_takeArcOut 20 = .ok (.getfield 43, 3) := by decide +kernel
theorem dX8_takeArcOut_23 : decode cX8_takeArcOut 23 = .ok (.if_icmp .ge 19, 3) := by decide +kernel
theorem dX8_takeArcOut_26 : decode cX8_takeArcOut 26 = .ok (.aload_n 0, 1) := by decide +kernel
theorem dX8_takeArcOut_27 : decode cX8_takeArcOut 27 = .ok (.getfield 25, 3) := by decide +kernel
theorem dX8_takeArcOut_30 : decode cX8_takeArcOut 30 = .ok (.iload_n 2, 1) := by decide +kernel
theorem dX8_takeArcOut_31 : decode cX8_takeArcOut 31 = .ok (.aaload, 1) := by decide +kernel
theorem dX8_takeArcOut_32 : decode cX8_takeArcOut 32 = .ok (.iload_n 1, 1) := by decide +kernel
theorem dX8_takeArcOut_33 : decode cX8_takeArcOut 33 = .ok (.invokevirtual 62, 3) := by decide +kernel
theorem dX8_takeArcOut_36 : decode cX8_takeArcOut 36 = .ok (.iinc 2 1, 3) := by decide +kernel
theorem dX8_takeArcOut_39 : decode cX8_takeArcOut 39 = .ok (.goto (-21), 3) := by decide +kernel
theorem dX8_takeArcOut_42 : decode cX8_takeArcOut 42 = .ok (.return_, 1) := by decide +kernel
theorem dX8_addTold_0 : decode cX8_addTold 0 = .ok (.aload_n 0, 1) := by decide +kernel
theorem dX8_addTold_1 : decode cX8_addTold 1 = .ok (.getfield 43, 3) := by decide +kernel
theorem dX8_addTold_4 : decode cX8_addTold 4 = .ok (.bipush 6, 2) := by decide +kernel
theorem dX8_addTold_6 : decode cX8_addTold 6 = .ok (.if_icmp .ge 26, 3) := by decide +kernel
theorem dX8_addTold_9 : decode cX8_addTold 9 = .ok (.aload_n 0, 1) := by decide +kernel
theorem dX8_addTold_10 : decode cX8_addTold 10 = .ok (.getfield 25, 3) := by decide +kernel
theorem dX8_addTold_13 : decode cX8_addTold 13 = .ok (.aload_n 0, 1) := by decide +kernel
theorem dX8_addTold_14 : decode cX8_addTold 14 = .ok (.getfield 43, 3) := by decide +kernel
theorem dX8_addTold_17 : decode cX8_addTold 17 = .ok (.aaload, 1) := by decide +kernel
theorem dX8_addTold_18 : decode cX8_addTold 18 = .ok (.aload_n 1, 1) := by decide +kernel
theorem dX8_addTold_19 : decode cX8_addTold 19 = .ok (.invokevirtual 65, 3) := by decide +kernel
theorem dX8_addTold_22 : decode cX8_addTold 22 = .ok (.aload_n 0, 1) := by decide +kernel
theorem dX8_addTold_23 : decode cX8_addTold 23 = .ok (.dup, 1) := by decide +kernel
theorem dX8_addTold_24 : decode cX8_addTold 24 = .ok (.getfield 43, 3) := by decide +kernel
theorem dX8_addTold_27 : decode cX8_addTold 27 = .ok (.iconst 1, 1) := by decide +kernel
theorem dX8_addTold_28 : decode cX8_addTold 28 = .ok (.iadd, 1) := by decide +kernel
theorem dX8_addTold_29 : decode cX8_addTold 29 = .ok (.putfield 43, 3) := by decide +kernel
theorem dX8_addTold_32 : decode cX8_addTold 32 = .ok (.return_, 1) := by decide +kernel
theorem dX8_takeToldOut_0 : decode cX8_takeToldOut 0 = .ok (.iload_n 1, 1) := by decide +kernel
theorem dX8_takeToldOut_1 : decode cX8_takeToldOut 1 = .ok (.istore_n 2, 1) := by decide +kernel
theorem dX8_takeToldOut_2 : decode cX8_takeToldOut 2 = .ok (.iload_n 2, 1) := by decide +kernel
theorem dX8_takeToldOut_3 : decode cX8_takeToldOut 3 = .ok (.aload_n 0, 1) := by decide +kernel
theorem dX8_takeToldOut_4 : decode cX8_takeToldOut 4 = .ok (.getfield 43, 3) := by decide +kernel
theorem dX8_takeToldOut_7 : decode cX8_takeToldOut 7 = .ok (.iconst 1, 1) := by decide +kernel
theorem dX8_takeToldOut_8 : decode cX8_takeToldOut 8 = .ok (.isub, 1) := by decide +kernel
theorem dX8_takeToldOut_9 : decode cX8_takeToldOut 9 = .ok (.if_icmp .ge 26, 3) := by decide +kernel
theorem dX8_takeToldOut_12 : decode cX8_takeToldOut 12 = .ok (.aload_n 0, 1) := by decide +kernel
theorem dX8_takeToldOut_13 : decode cX8_takeToldOut 13 = .ok (.getfield 25, 3) := by decide +kernel
theorem dX8_takeToldOut_16 : decode cX8_takeToldOut 16 = .ok (.iload_n 2, 1) := by decide +kernel
theorem dX8_takeToldOut_17 : decode cX8_takeToldOut 17 = .ok (.aaload, 1) := by decide +kernel
theorem dX8_takeToldOut_18 : decode cX8_takeToldOut 18 = .ok (.aload_n 0, 1) := by decide +kernel
theorem dX8_takeToldOut_19 : decode cX8_takeToldOut 19 = .ok (.getfield 25, 3) := by decide +kernel
theorem dX8_takeToldOut_22 : decode cX8_takeToldOut 22 = .ok (.iload_n 2, 1) := by decide +kernel
theorem dX8_takeToldOut_23 : decode cX8_takeToldOut 23 = .ok (.iconst 1, 1) := by decide +kernel
theorem dX8_takeToldOut_24 : decode cX8_takeToldOut 24 = .ok (.iadd, 1) := by decide +kernel
theorem dX8_takeToldOut_25 : decode cX8_takeToldOut 25 = .ok (.aaload, 1) := by decide +kernel
theorem dX8_takeToldOut_26 : decode cX8_takeToldOut 26 = .ok (.invokevirtual 65, 3) := by decide +kernel
theorem dX8_takeToldOut_29 : decode cX8_takeToldOut 29 = .ok (.iinc 2 1, 3) := by decide +kernel
theorem dX8_takeToldOut_32 : decode cX8_takeToldOut 32 = .ok (.goto (-30), 3) := by decide +kernel
theorem dX8_takeToldOut_35 : decode cX8_takeToldOut 35 = .ok (.aload_n 0, 1) := by decide +kernel
theorem dX8_takeToldOut_36 : decode cX8_takeToldOut 36 = .ok (.dup, 1) := by decide +kernel
theorem dX8_takeToldOut_37 : decode cX8_takeToldOut 37 = .ok (.getfield 43, 3) := by decide +kernel
theorem dX8_takeToldOut_40 : decode cX8_takeToldOut 40 = .ok (.iconst 1, 1) := by decide +kernel
theorem dX8_takeToldOut_41 : decode cX8_takeToldOut 41 = .ok (.isub, 1) := by decide +kernel
theorem dX8_takeToldOut_42 : decode cX8_takeToldOut 42 = .ok (.putfield 43, 3) := by decide +kernel
theorem dX8_takeToldOut_45 : decode cX8_takeToldOut 45 = .ok (.return_, 1) := by decide +kernel
theorem dX8_copyFrom_0 : decode cX8_copyFrom 0 = .ok (.aload_n 0, 1) := by decide +kernel
theorem dX8_copyFrom_1 : decode cX8_copyFrom 1 = .ok (.getfield 12, 3) := by decide +kernel
theorem dX8_copyFrom_4 : decode cX8_copyFrom 4 = .ok (.aload_n 1, 1) := by decide +kernel
theorem dX8_copyFrom_5 : decode cX8_copyFrom 5 = .ok (.getfield 12, 3) := by decide +kernel
theorem dX8_copyFrom_8 : decode cX8_copyFrom 8 = .ok (.invokevirtual 69, 3) := by decide +kernel
theorem dX8_copyFrom_11 : decode cX8_copyFrom 11 = .ok (.aload_n 0, 1) := by decide +kernel
theorem dX8_copyFrom_12 : decode cX8_copyFrom 12 = .ok (.getfield 21, 3) := by decide +kernel
theorem dX8_copyFrom_15 : decode cX8_copyFrom 15 = .ok (.aload_n 1, 1) := by decide +kernel
theorem dX8_copyFrom_16 : decode cX8_copyFrom 16 = .ok (.getfield 21, 3) := by decide +kernel
theorem dX8_copyFrom_19 : decode cX8_copyFrom 19 = .ok (.invokevirtual 65, 3) := by decide +kernel
theorem dX8_copyFrom_22 : decode cX8_copyFrom 22 = .ok (.iconst 0, 1) := by decide +kernel
theorem dX8_copyFrom_23 : decode cX8_copyFrom 23 = .ok (.istore_n 2, 1) := by decide +kernel
theorem dX8_copyFrom_24 : decode cX8_copyFrom 24 = .ok (.iload_n 2, 1) := by decide +kernel
theorem dX8_copyFrom_25 : decode cX8_copyFrom 25 = .ok (.bipush 6, 2) := by decide +kernel
theorem dX8_copyFrom_27 : decode cX8_copyFrom 27 = .ok (.if_icmp .ge 24, 3) := by decide +kernel
theorem dX8_copyFrom_30 : decode cX8_copyFrom 30 = .ok (.aload_n 0, 1) := by decide +kernel
theorem dX8_copyFrom_31 : decode cX8_copyFrom 31 = .ok (.getfield 25, 3) := by decide +kernel
theorem dX8_copyFrom_34 : decode cX8_copyFrom 34 = .ok (.iload_n 2, 1) := by decide +kernel
theorem dX8_copyFrom_35 : decode cX8_copyFrom 35 = .ok (.aaload, 1) := by decide +kernel
theorem dX8_copyFrom_36 : decode cX8_copyFrom 36 = .ok (.aload_n 1, 1) := by decide +kernel
theorem dX8_copyFrom_37 : decode cX8_copyFrom 37 = .ok (.getfield 25, 3) := by decide +kernel
theorem dX8_copyFrom_40 : decode cX8_copyFrom 40 = .ok (.iload_n 2, 1) := by decide +kernel
theorem dX8_copyFrom_41 : decode cX8_copyFrom 41 = .ok (.aaload, 1) := by decide +kernel
theorem dX8_copyFrom_42 : decode cX8_copyFrom 42 = .ok (.invokevirtual 65, 3) := by decide +kernel
theorem dX8_copyFrom_45 : decode cX8_copyFrom 45 = .ok (.iinc 2 1, 3) := by decide +kernel
theorem dX8_copyFrom_48 : decode cX8_copyFrom 48 = .ok (.goto (-24), 3) := by decide +kernel
theorem dX8_copyFrom_51 : decode cX8_copyFrom 51 = .ok (.aload_n 0, 1) := by decide +kernel
theorem dX8_copyFrom_52 : decode cX8_copyFrom 52 = .ok (.aload_n 1, 1) := by decide +kernel
theorem dX8_copyFrom_53 : decode cX8_copyFrom 53 = .ok (.getfield 43, 3) := by decide +kernel
theorem dX8_copyFrom_56 : decode cX8_copyFrom 56 = .ok (.putfield 43, 3) := by decide +kernel
theorem dX8_copyFrom_59 : decode cX8_copyFrom 59 = .ok (.aload_n 0, 1) := by decide +kernel
theorem dX8_copyFrom_60 : decode cX8_copyFrom 60 = .ok (.getfield 32, 3) := by decide +kernel
theorem dX8_copyFrom_63 : decode cX8_copyFrom 63 = .ok (.aload_n 1, 1) := by decide +kernel
theorem dX8_copyFrom_64 : decode cX8_copyFrom 64 = .ok (.getfield 32, 3) := by decide +kernel
theorem dX8_copyFrom_67 : decode cX8_copyFrom 67 = .ok (.invokevirtual 71, 3) := by decide +kernel
theorem dX8_copyFrom_70 : decode cX8_copyFrom 70 = .ok (.return_, 1) := by decide +kernel
theorem dX9_init_0 : decode cX9_init 0 = .ok (.aload_n 0, 1) := by decide +kernel
theorem dX9_init_1 : decode cX9_init 1 = .ok (.invokespecial 3, 3) := by decide +kernel
theorem dX9_init_4 : decode cX9_init 4 = .ok (.aload_n 0, 1) := by decide +kernel
theorem dX9_init_5 : decode cX9_init 5 = .ok (.sipush 600, 3) := by decide +kernel
theorem dX9_init_8 : decode cX9_init 8 = .ok (.newarray .byte, 2) := by decide +kernel
theorem dX9_init_10 : decode cX9_init 10 = .ok (.putfield 9, 3) := by decide +kernel
theorem dX9_init_13 : decode cX9_init 13 = .ok (.aload_n 0, 1) := by decide +kernel
theorem dX9_init_14 : decode cX9_init 14 = .ok (.iconst 0, 1) := by decide +kernel
theorem dX9_init_15 : decode cX9_init 15 = .ok (.putfield 15, 3) := by decide +kernel
theorem dX9_init_18 : decode cX9_init 18 = .ok (.aload_n 0, 1) := by decide +kernel
theorem dX9_init_19 : decode cX9_init 19 = .ok (.iconst 0, 1) := by decide +kernel
theorem dX9_init_20 : decode cX9_init 20 = .ok (.putfield 19, 3) := by decide +kernel
theorem dX9_init_23 : decode cX9_init 23 = .ok (.aload_n 0, 1) := by decide +kernel
theorem dX9_init_24 : decode cX9_init 24 = .ok (.iconst 0, 1) := by decide +kernel
theorem dX9_init_25 : decode cX9_init 25 = .ok (.putfield 22, 3) := by decide +kernel
theorem dX9_init_28 : decode cX9_init 28 = .ok (.aload_n 0, 1) := by decide +kernel
theorem dX9_init_29 : decode cX9_init 29 = .ok (.iconst 0, 1) := by decide +kernel
theorem dX9_init_30 : decode cX9_init 30 = .ok (.putfield 25, 3) := by decide +kernel
theorem dX9_init_33 : decode cX9_init 33 = .ok (.aload_n 0, 1) := by decide +kernel
theorem dX9_init_34 : decode cX9_init 34 = .ok (.iconst (-1), 1) := by decide +kernel
theorem dX9_init_35 : decode cX9_init 35 = .ok (.putfield 28, 3) := by decide +kernel
theorem dX9_init_38 : decode cX9_init 38 = .ok (.return_, 1) := by decide +kernel
theorem dX9_addBytes_0 : decode cX9_addBytes 0 = .ok (.bipush 24, 2) := by decide +kernel
theorem dX9_addBytes_2 : decode cX9_addBytes 2 = .ok (.istore_n 2, 1) := by decide +kernel
theorem dX9_addBytes_3 : decode cX9_addBytes 3 = .ok (.iload_n 2, 1) := by decide +kernel
theorem dX9_addBytes_4 : decode cX9_addBytes 4 = .ok (.ifCond .lt 42, 3) := by decide +kernel
theorem dX9_addBytes_7 : decode cX9_addBytes 7 = .ok (.aload_n 0, 1) := by decide +kernel
theorem dX9_addBytes_8 : decode cX9_addBytes 8 = .ok (.getfield 15, 3) := by decide +kernel
theorem dX9_addBytes_11 : decode cX9_addBytes 11 = .ok (.sipush 600, 3) := by decide +kernel
theorem dX9_addBytes_14 : decode cX9_addBytes 14 = .ok (.if_icmp .ge 26, 3) := by decide +kernel
theorem dX9_addBytes_17 : decode cX9_addBytes 17 = .ok (.aload_n 0, 1) := by decide +kernel
theorem dX9_addBytes_18 : decode cX9_addBytes 18 = .ok (.getfield 9, 3) := by decide +kernel
theorem dX9_addBytes_21 : decode cX9_addBytes 21 = .ok (.aload_n 0, 1) := by decide +kernel
theorem dX9_addBytes_22 : decode cX9_addBytes 22 = .ok (.getfield 15, 3) := by decide +kernel
theorem dX9_addBytes_25 : decode cX9_addBytes 25 = .ok (.iload_n 1, 1) := by decide +kernel
theorem dX9_addBytes_26 : decode cX9_addBytes 26 = .ok (.iload_n 2, 1) := by decide +kernel
theorem dX9_addBytes_27 : decode cX9_addBytes 27 = .ok (.ishr, 1) := by decide +kernel
theorem dX9_addBytes_28 : decode cX9_addBytes 28 = .ok (.i2b, 1) := by decide +kernel
theorem dX9_addBytes_29 : decode cX9_addBytes 29 = .ok (.bastore, 1) := by decide +kernel
theorem dX9_addBytes_30 : decode cX9_addBytes 30 = .ok (.aload_n 0, 1) := by decide +kernel
theorem dX9_addBytes_31 : decode cX9_addBytes 31 = .ok (.dup, 1) := by decide +kernel
theorem dX9_addBytes_32 : decode cX9_addBytes 32 = .ok (.getfield 15, 3) := by decide +kernel
theorem dX9_addBytes_35 : decode cX9_addBytes 35 = .ok (.iconst 1, 1) := by decide +kernel
theorem dX9_addBytes_36 : decode cX9_addBytes 36 = .ok (.iadd, 1) := by decide +kernel
theorem dX9_addBytes_37 : decode cX9_addBytes 37 = .ok (.putfield 15, 3) := by decide +kernel
theorem dX9_addBytes_40 : decode cX9_addBytes 40 = .ok (.iinc 2 (-8), 3) := by decide +kernel
theorem dX9_addBytes_43 : decode cX9_addBytes 43 = .ok (.goto (-40), 3) := by decide +kernel
theorem dX9_addBytes_46 : decode cX9_addBytes 46 = .ok (.return_, 1) := by decide +kernel
theorem dX9_readNetwork_0 : decode cX9_readNetwork 0 = .ok (.aload_n 0, 1) := by decide +kernel
theorem dX9_readNetwork_1 : decode cX9_readNetwork 1 = .ok (.iload_n 1, 1) := by decide +kernel
theorem dX9_readNetwork_2 : decode cX9_readNetwork 2 = .ok (.aload_n 0, 1) := by decide +kernel
theorem dX9_readNetwork_3 : decode cX9_readNetwork 3 = .ok (.getfield 15, 3) := by decide +kernel
theorem dX9_readNetwork_6 : decode cX9_readNetwork 6 = .ok (.invokestatic 31, 3) := by decide +kernel
theorem dX9_readNetwork_9 : decode cX9_readNetwork 9 = .ok (.putfield 19, 3) := by decide +kernel
theorem dX9_readNetwork_12 : decode cX9_readNetwork 12 = .ok (.aload_n 0, 1) := by decide +kernel
theorem dX9_readNetwork_13 : decode cX9_readNetwork 13 = .ok (.iconst 0, 1) := by decide +kernel
theorem dX9_readNetwork_14 : decode cX9_readNetwork 14 = .ok (.putfield 22, 3) := by decide +kernel
theorem dX9_readNetwork_17 : decode cX9_readNetwork 17 = .ok (.aload_n 0, 1) := by decide +kernel
theorem dX9_readNetwork_18 : decode cX9_readNetwork 18 = .ok (.iconst (-1), 1) := by decide +kernel
theorem dX9_readNetwork_19 : decode cX9_readNetwork 19 = .ok (.putfield 28, 3) := by decide +kernel
theorem dX9_readNetwork_22 : decode cX9_readNetwork 22 = .ok (.aload_n 0, 1) := by decide +kernel
theorem dX9_readNetwork_23 : decode cX9_readNetwork 23 = .ok (.aload_n 2, 1) := by decide +kernel
theorem dX9_readNetwork_24 : decode cX9_readNetwork 24 = .ok (.invokevirtual 37, 3) := by decide +kernel
theorem dX9_readNetwork_27 : decode cX9_readNetwork 27 = .ok (.ifCond .ne 5, 3) := by decide +kernel
theorem dX9_readNetwork_30 : decode cX9_readNetwork 30 = .ok (.iconst 0, 1) := by decide +kernel
theorem dX9_readNetwork_31 : decode cX9_readNetwork 31 = .ok (.ireturn, 1) := by decide +kernel
theorem dX9_readNetwork_32 : decode cX9_readNetwork 32 = .ok (.aload_n 0, 1) := by decide +kernel
theorem dX9_readNetwork_33 : decode cX9_readNetwork 33 = .ok (.invokevirtual 41, 3) := by decide +kernel
theorem dX9_readNetwork_36 : decode cX9_readNetwork 36 = .ok (.iconst 0, 1) := by decide +kernel
theorem dX9_readNetwork_37 : decode cX9_readNetwork 37 = .ok (.istore_n 3, 1) := by decide +kernel
theorem dX9_readNetwork_38 : decode cX9_readNetwork 38 = .ok (.iload_n 3, 1) := by decide +kernel
theorem dX9_readNetwork_39 : decode cX9_readNetwork 39 = .ok (.sipush 600, 3) := by decide +kernel
theorem dX9_readNetwork_42 : decode cX9_readNetwork 42 = .ok (.if_icmp .ge 34, 3) := by decide +kernel
theorem dX9_readNetwork_45 : decode cX9_readNetwork 45 = .ok (.aload_n 0, 1) := by decide +kernel
theorem dX9_readNetwork_46 : decode cX9_readNetwork 46 = .ok (.getfield 22, 3) := by decide +kernel
theorem dX9_readNetwork_49 : decode cX9_readNetwork 49 = .ok (.aload_n 0, 1) := by decide +kernel
theorem dX9_readNetwork_50 : decode cX9_readNetwork 50 = .ok (.getfield 19, 3) := by decide +kernel
theorem dX9_readNetwork_53 : decode cX9_readNetwork 53 = .ok (.if_icmp .ge 23, 3) := by decide +kernel
theorem dX9_readNetwork_56 : decode cX9_readNetwork 56 = .ok (.aload_n 0, 1) := by decide +kernel
theorem dX9_readNetwork_57 : decode cX9_readNetwork 57 = .ok (.aload_n 2, 1) := by decide +kernel
theorem dX9_readNetwork_58 : decode cX9_readNetwork 58 = .ok (.invokevirtual 44, 3) := by decide +kernel
theorem dX9_readNetwork_61 : decode cX9_readNetwork 61 = .ok (.ifCond .ne 5, 3) := by decide +kernel
theorem dX9_readNetwork_64 : decode cX9_readNetwork 64 = .ok (.iconst 0, 1) := by decide +kernel
theorem dX9_readNetwork_65 : decode cX9_readNetwork 65 = .ok (.ireturn, 1) := by decide +kernel
theorem dX9_readNetwork_66 : decode cX9_readNetwork 66 = .ok (.aload_n 0, 1) := by decide +kernel
theorem dX9_readNetwork_67 : decode cX9_readNetwork 67 = .ok (.invokevirtual 41, 3) := by decide +kernel
theorem dX9_readNetwork_70 : decode cX9_readNetwork 70 = .ok (.iinc 3 1, 3) := by decide +kernel
theorem dX9_readNetwork_73 : decode cX9_readNetwork 73 = .ok (.goto (-35), 3) := by decide +kernel
theorem dX9_readNetwork_76 : decode cX9_readNetwork 76 = .ok (.aload_n 2, 1) := by decide +kernel
theorem dX9_readNetwork_77 : decode cX9_readNetwork 77 = .ok (.getfield 47, 3) := by decide +kernel
theorem dX9_readNetwork_80 : decode cX9_readNetwork 80 = .ok (.aload_n 2, 1) := by decide +kernel
theorem dX9_readNetwork_81 : decode cX9_readNetwork 81 = .ok (.getfield 53, 3) := by decide +kernel
theorem dX9_readNetwork_84 : decode cX9_readNetwork 84 = .ok (.invokevirtual 57, 3) := by decide +kernel
theorem dX9_readNetwork_87 : decode cX9_readNetwork 87 = .ok (.iconst 1, 1) := by decide +kernel
theorem dX9_readNetwork_88 : decode cX9_readNetwork 88 = .ok (.ireturn, 1) := by decide +kernel
theorem dX9_fail_0 : decode cX9_fail 0 = .ok (.aload_n 0, 1) := by decide +kernel
theorem dX9_fail_1 : decode cX9_fail 1 = .ok (.iload_n 1, 1) := by decide +kernel
theorem dX9_fail_2 : decode cX9_fail 2 = .ok (.putfield 25, 3) := by decide +kernel
theorem dX9_fail_5 : decode cX9_fail 5 = .ok (.aload_n 0, 1) := by decide +kernel
theorem dX9_fail_6 : decode cX9_fail 6 = .ok (.iload_n 2, 1) := by decide +kernel
theorem dX9_fail_7 : decode cX9_fail 7 = .ok (.putfield 28, 3) := by decide +kernel
theorem dX9_fail_10 : decode cX9_fail 10 = .ok (.iconst 0, 1) := by decide +kernel
theorem dX9_fail_11 : decode cX9_fail 11 = .ok (.ireturn, 1) := by decide +kernel
theorem dX9_peek_0 : decode cX9_peek 0 = .ok (.aload_n 0, 1) := by decide +kernel
theorem dX9_peek_1 : decode cX9_peek 1 = .ok (.getfield 22, 3) := by decide +kernel
theorem dX9_peek_4 : decode cX9_peek 4 = .ok (.aload_n 0, 1) := by decide +kernel
theorem dX9_peek_5 : decode cX9_peek 5 = .ok (.getfield 19, 3) := by decide +kernel
theorem dX9_peek_8 : decode cX9_peek 8 = .ok (.if_icmp .ge 15, 3) := by decide +kernel
theorem dX9_peek_11 : decode cX9_peek 11 = .ok (.aload_n 0, 1) := by decide +kernel
theorem dX9_peek_12 : decode cX9_peek 12 = .ok (.getfield 9, 3) := by decide +kernel
theorem dX9_peek_15 : decode cX9_peek 15 = .ok (.aload_n 0, 1) := by decide +kernel
theorem dX9_peek_16 : decode cX9_peek 16 = .ok (.getfield 22, 3) := by decide +kernel
theorem dX9_peek_19 : decode cX9_peek 19 = .ok (.baload, 1) := by decide +kernel
theorem dX9_peek_20 : decode cX9_peek 20 = .ok (.goto 4, 3) := by decide +kernel
theorem dX9_peek_23 : decode cX9_peek 23 = .ok (.iconst 0, 1) := by decide +kernel
theorem dX9_peek_24 : decode cX9_peek 24 = .ok (.ireturn, 1) := by decide +kernel
theorem dX9_skipSpaces_0 : decode cX9_skipSpaces 0 = .ok (.iconst 0, 1) := by decide +kernel
theorem dX9_skipSpaces_1 : decode cX9_skipSpaces 1 = .ok (.istore_n 1, 1) := by decide +kernel
theorem dX9_skipSpaces_2 : decode cX9_skipSpaces 2 = .ok (.iload_n 1, 1) := by decide +kernel
theorem dX9_skipSpaces_3 : decode cX9_skipSpaces 3 = .ok (.sipush 600, 3) := by decide +kernel
theorem dX9_skipSpaces_6 : decode cX9_skipSpaces 6 = .ok (.if_icmp .ge 28, 3) := by decide +kernel
theorem dX9_skipSpaces_9 : decode cX9_skipSpaces 9 = .ok (.aload_n 0, 1) := by decide +kernel
theorem dX9_skipSpaces_10 : decode cX9_skipSpaces 10 = .ok (.invokevirtual 63, 3) := by decide +kernel
theorem dX9_skipSpaces_13 : decode cX9_skipSpaces 13 = .ok (.bipush 32, 2) := by decide +kernel
theorem dX9_skipSpaces_15 : decode cX9_skipSpaces 15 = .ok (.if_icmp .ne 19, 3) := by decide +kernel
theorem dX9_skipSpaces_18 : decode cX9_skipSpaces 18 = .ok (.aload_n 0, 1) := by decide +kernel
theorem dX9_skipSpaces_19 : decode cX9_skipSpaces 19 = .ok (.dup, 1) := by decide +kernel
theorem dX9_skipSpaces_20 : decode cX9_skipSpaces 20 = .ok (.getfield 22, 3) := by decide +kernel
theorem dX9_skipSpaces_23 : decode cX9_skipSpaces 23 = .ok (.iconst 1, 1) := by decide +kernel
theorem dX9_skipSpaces_24 : decode cX9_skipSpaces 24 = .ok (.iadd, 1) := by decide +kernel
theorem dX9_skipSpaces_25 : decode cX9_skipSpaces 25 = .ok (.putfield 22, 3) := by decide +kernel
theorem dX9_skipSpaces_28 : decode cX9_skipSpaces 28 = .ok (.iinc 1 1, 3) := by decide +kernel
theorem dX9_skipSpaces_31 : decode cX9_skipSpaces 31 = .ok (.goto (-29), 3) := by decide +kernel
theorem dX9_skipSpaces_34 : decode cX9_skipSpaces 34 = .ok (.return_, 1) := by decide +kernel
theorem dX9_isAtDigit_0 : decode cX9_isAtDigit 0 = .ok (.aload_n 0, 1) := by decide +kernel
theorem dX9_isAtDigit_1 : decode cX9_isAtDigit 1 = .ok (.invokevirtual 63, 3) := by decide +kernel
theorem dX9_isAtDigit_4 : decode cX9_isAtDigit 4 = .ok (.bipush 48, 2) := by decide +kernel
theorem dX9_isAtDigit_6 : decode cX9_isAtDigit 6 = .ok (.if_icmp .lt 16, 3) := by decide +kernel
theorem dX9_isAtDigit_9 : decode cX9_isAtDigit 9 = .ok (.aload_n 0, 1) := by decide +kernel
theorem dX9_isAtDigit_10 : decode cX9_isAtDigit 10 = .ok (.invokevirtual 63, 3) := by decide +kernel
theorem dX9_isAtDigit_13 : decode cX9_isAtDigit 13 = .ok (.bipush 57, 2) := by decide +kernel
theorem dX9_isAtDigit_15 : decode cX9_isAtDigit 15 = .ok (.if_icmp .gt 7, 3) := by decide +kernel
theorem dX9_isAtDigit_18 : decode cX9_isAtDigit 18 = .ok (.iconst 1, 1) := by decide +kernel
theorem dX9_isAtDigit_19 : decode cX9_isAtDigit 19 = .ok (.goto 4, 3) := by decide +kernel
theorem dX9_isAtDigit_22 : decode cX9_isAtDigit 22 = .ok (.iconst 0, 1) := by decide +kernel
theorem dX9_isAtDigit_23 : decode cX9_isAtDigit 23 = .ok (.ireturn, 1) := by decide +kernel
theorem dX9_isAtLetter_0 : decode cX9_isAtLetter 0 = .ok (.aload_n 0, 1) := by decide +kernel
theorem dX9_isAtLetter_1 : decode cX9_isAtLetter 1 = .ok (.invokevirtual 63, 3) := by decide +kernel
theorem dX9_isAtLetter_4 : decode cX9_isAtLetter 4 = .ok (.bipush 97, 2) := by decide +kernel
theorem dX9_isAtLetter_6 : decode cX9_isAtLetter 6 = .ok (.if_icmp .lt 16, 3) := by decide +kernel
theorem dX9_isAtLetter_9 : decode cX9_isAtLetter 9 = .ok (.aload_n 0, 1) := by decide +kernel
theorem dX9_isAtLetter_10 : decode cX9_isAtLetter 10 = .ok (.invokevirtual 63, 3) := by decide +kernel
theorem dX9_isAtLetter_13 : decode cX9_isAtLetter 13 = .ok (.bipush 122, 2) := by decide +kernel
theorem dX9_isAtLetter_15 : decode cX9_isAtLetter 15 = .ok (.if_icmp .gt 7, 3) := by decide +kernel
theorem dX9_isAtLetter_18 : decode cX9_isAtLetter 18 = .ok (.iconst 1, 1) := by decide +kernel
theorem dX9_isAtLetter_19 : decode cX9_isAtLetter 19 = .ok (.goto 4, 3) := by decide +kernel
theorem dX9_isAtLetter_22 : decode cX9_isAtLetter 22 = .ok (.iconst 0, 1) := by decide +kernel
theorem dX9_isAtLetter_23 : decode cX9_isAtLetter 23 = .ok (.ireturn, 1) := by decide +kernel
theorem dX9_skipWord_0 : decode cX9_skipWord 0 = .ok (.iconst 0, 1) := by decide +kernel
theorem dX9_skipWord_1 : decode cX9_skipWord 1 = .ok (.istore_n 1, 1) := by decide +kernel
theorem dX9_skipWord_2 : decode cX9_skipWord 2 = .ok (.iload_n 1, 1) := by decide +kernel
theorem dX9_skipWord_3 : decode cX9_skipWord 3 = .ok (.sipush 600, 3) := by decide +kernel
theorem dX9_skipWord_6 : decode cX9_skipWord 6 = .ok (.if_icmp .ge 26, 3) := by decide +kernel
theorem dX9_skipWord_9 : decode cX9_skipWord 9 = .ok (.aload_n 0, 1) := by decide +kernel
theorem dX9_skipWord_10 : decode cX9_skipWord 10 = .ok (.invokevirtual 67, 3) := by decide +kernel
theorem dX9_skipWord_13 : decode cX9_skipWord 13 = .ok (.ifCond .eq 19, 3) := by decide +kernel
theorem dX9_skipWord_16 : decode cX9_skipWord 16 = .ok (.aload_n 0, 1) := by decide +kernel
theorem dX9_skipWord_17 : decode cX9_skipWord 17 = .ok (.dup, 1) := by decide +kernel
theorem dX9_skipWord_18 : decode cX9_skipWord 18 = .ok (.getfield 22, 3) := by decide +kernel
theorem dX9_skipWord_21 : decode cX9_skipWord 21 = .ok (.iconst 1, 1) := by decide +kernel
theorem dX9_skipWord_22 : decode cX9_skipWord 22 = .ok (.iadd, 1) := by decide +kernel
theorem dX9_skipWord_23 : decode cX9_skipWord 23 = .ok (.putfield 22, 3) := by decide +kernel
theorem dX9_skipWord_26 : decode cX9_skipWord 26 = .ok (.iinc 1 1, 3) := by decide +kernel
theorem dX9_skipWord_29 : decode cX9_skipWord 29 = .ok (.goto (-27), 3) := by decide +kernel
theorem dX9_skipWord_32 : decode cX9_skipWord 32 = .ok (.return_, 1) := by decide +kernel
theorem dX9_isWord_0 : decode cX9_isWord 0 = .ok (.aload_n 0, 1) := by decide +kernel
theorem dX9_isWord_1 : decode cX9_isWord 1 = .ok (.getfield 22, 3) := by decide +kernel
theorem dX9_isWord_4 : decode cX9_isWord 4 = .ok (.iload_n 1, 1) := by decide +kernel
theorem dX9_isWord_5 : decode cX9_isWord 5 = .ok (.isub, 1) := by decide +kernel
theorem dX9_isWord_6 : decode cX9_isWord 6 = .ok (.aload_n 2, 1) := by decide +kernel
theorem dX9_isWord_7 : decode cX9_isWord 7 = .ok (.invokevirtual 71, 3) := by decide +kernel
theorem dX9_isWord_10 : decode cX9_isWord 10 = .ok (.if_icmp .eq 5, 3) := by decide +kernel
theorem dX9_isWord_13 : decode cX9_isWord 13 = .ok (.iconst 0, 1) := by decide +kernel
theorem dX9_isWord_14 : decode cX9_isWord 14 = .ok (.ireturn, 1) := by decide +kernel
theorem dX9_isWord_15 : decode cX9_isWord 15 = .ok (.iconst 0, 1) := by decide +kernel
theorem dX9_isWord_16 : decode cX9_isWord 16 = .ok (.istore_n 3, 1) := by decide +kernel
theorem dX9_isWord_17 : decode cX9_isWord 17 = .ok (.iload_n 3, 1) := by decide +kernel
theorem dX9_isWord_18 : decode cX9_isWord 18 = .ok (.aload_n 2, 1) := by decide +kernel
theorem dX9_isWord_19 : decode cX9_isWord 19 = .ok (.invokevirtual 71, 3) := by decide +kernel
theorem dX9_isWord_22 : decode cX9_isWord 22 = .ok (.if_icmp .ge 27, 3) := by decide +kernel
theorem dX9_isWord_25 : decode cX9_isWord 25 = .ok (.aload_n 0, 1) := by decide +kernel
theorem dX9_isWord_26 : decode cX9_isWord 26 = .ok (.getfield 9, 3) := by decide +kernel
theorem dX9_isWord_29 : decode cX9_isWord 29 = .ok (.iload_n 1, 1) := by decide +kernel
theorem dX9_isWord_30 : decode cX9_isWord 30 = .ok (.iload_n 3, 1) := by decide +kernel
theorem dX9_isWord_31 : decode cX9_isWord 31 = .ok (.iadd, 1) := by decide +kernel
theorem dX9_isWord_32 : decode cX9_isWord 32 = .ok (.baload, 1) := by decide +kernel
theorem dX9_isWord_33 : decode cX9_isWord 33 = .ok (.aload_n 2, 1) := by decide +kernel
theorem dX9_isWord_34 : decode cX9_isWord 34 = .ok (.iload_n 3, 1) := by decide +kernel
theorem dX9_isWord_35 : decode cX9_isWord 35 = .ok (.invokevirtual 76, 3) := by decide +kernel
theorem dX9_isWord_38 : decode cX9_isWord 38 = .ok (.if_icmp .eq 5, 3) := by decide +kernel
theorem dX9_isWord_41 : decode cX9_isWord 41 = .ok (.iconst 0, 1) := by decide +kernel
theorem dX9_isWord_42 : decode cX9_isWord 42 = .ok (.ireturn, 1) := by decide +kernel
theorem dX9_isWord_43 : decode cX9_isWord 43 = .ok (.iinc 3 1, 3) := by decide +kernel
theorem dX9_isWord_46 : decode cX9_isWord 46 = .ok (.goto (-29), 3) := by decide +kernel
theorem dX9_isWord_49 : decode cX9_isWord 49 = .ok (.iconst 1, 1) := by decide +kernel
theorem dX9_isWord_50 : decode cX9_isWord 50 = .ok (.ireturn, 1) := by decide +kernel
theorem dX9_readNumber_0 : decode cX9_readNumber 0 = .ok (.aload_n 0, 1) := by decide +kernel
theorem dX9_readNumber_1 : decode cX9_readNumber 1 = .ok (.invokevirtual 41, 3) := by decide +kernel
theorem dX9_readNumber_4 : decode cX9_readNumber 4 = .ok (.aload_n 0, 1) := by decide +kernel
theorem dX9_readNumber_5 : decode cX9_readNumber 5 = .ok (.getfield 22, 3) := by decide +kernel
theorem dX9_readNumber_8 : decode cX9_readNumber 8 = .ok (.istore 4, 2) := by decide +kernel
theorem dX9_readNumber_10 : decode cX9_readNumber 10 = .ok (.aload_n 0, 1) := by decide +kernel
theorem dX9_readNumber_11 : decode cX9_readNumber 11 = .ok (.invokevirtual 80, 3) := by decide +kernel
theorem dX9_readNumber_14 : decode cX9_readNumber 14 = .ok (.ifCond .ne 14, 3) := by decide +kernel
theorem dX9_readNumber_17 : decode cX9_readNumber 17 = .ok (.aload_n 0, 1) := by decide +kernel
theorem dX9_readNumber_18 : decode cX9_readNumber 18 = .ok (.bipush (-2), 2) := by decide +kernel
theorem dX9_readNumber_20 : decode cX9_readNumber 20 = .ok (.iload 4, 2) := by decide +kernel
theorem dX9_readNumber_22 : decode cX9_readNumber 22 = .ok (.invokevirtual 83, 3) := by decide +kernel
theorem dX9_readNumber_25 : decode cX9_readNumber 25 = .ok (.pop, 1) := by decide +kernel
theorem dX9_readNumber_26 : decode cX9_readNumber 26 = .ok (.iconst (-1), 1) := by decide +kernel
theorem dX9_readNumber_27 : decode cX9_readNumber 27 = .ok (.ireturn, 1) := by decide +kernel
theorem dX9_readNumber_28 : decode cX9_readNumber 28 = .ok (.iconst 0, 1) := by decide +kernel
theorem dX9_readNumber_29 : decode cX9_readNumber 29 = .ok (.istore 5, 2) := by decide +kernel
theorem dX9_readNumber_31 : decode cX9_readNumber 31 = .ok (.iconst 0, 1) := by decide +kernel
theorem dX9_readNumber_32 : decode cX9_readNumber 32 = .ok (.istore 6, 2) := by decide +kernel
theorem dX9_readNumber_34 : decode cX9_readNumber 34 = .ok (.iload 6, 2) := by decide +kernel
theorem dX9_readNumber_36 : decode cX9_readNumber 36 = .ok (.sipush 600, 3) := by decide +kernel
theorem dX9_readNumber_39 : decode cX9_readNumber 39 = .ok (.if_icmp .ge 46, 3) := by decide +kernel
theorem dX9_readNumber_42 : decode cX9_readNumber 42 = .ok (.aload_n 0, 1) := by decide +kernel
theorem dX9_readNumber_43 : decode cX9_readNumber 43 = .ok (.invokevirtual 80, 3) := by decide +kernel
theorem dX9_readNumber_46 : decode cX9_readNumber 46 = .ok (.ifCond .eq 39, 3) := by decide +kernel
theorem dX9_readNumber_49 : decode cX9_readNumber 49 = .ok (.ldc 87, 2) := by decide +kernel
theorem dX9_readNumber_51 : decode cX9_readNumber 51 = .ok (.bipush 10, 2) := by decide +kernel
theorem dX9_readNumber_53 : decode cX9_readNumber 53 = .ok (.iload 5, 2) := by decide +kernel
theorem dX9_readNumber_55 : decode cX9_readNumber 55 = .ok (.imul, 1) := by decide +kernel
theorem dX9_readNumber_56 : decode cX9_readNumber 56 = .ok (.aload_n 0, 1) := by decide +kernel
theorem dX9_readNumber_57 : decode cX9_readNumber 57 = .ok (.invokevirtual 63, 3) := by decide +kernel
theorem dX9_readNumber_60 : decode cX9_readNumber 60 = .ok (.iadd, 1) := by decide +kernel
theorem dX9_readNumber_61 : decode cX9_readNumber 61 = .ok (.bipush 48, 2) := by decide +kernel
theorem dX9_readNumber_63 : decode cX9_readNumber 63 = .ok (.isub, 1) := by decide +kernel
theorem dX9_readNumber_64 : decode cX9_readNumber 64 = .ok (.invokestatic 31, 3) := by decide +kernel
theorem dX9_readNumber_67 : decode cX9_readNumber 67 = .ok (.istore 5, 2) := by decide +kernel
theorem dX9_readNumber_69 : decode cX9_readNumber 69 = .ok (.aload_n 0, 1) := by decide +kernel
theorem dX9_readNumber_70 : decode cX9_readNumber 70 = .ok (.dup, 1) := by decide +kernel
theorem dX9_readNumber_71 : decode cX9_readNumber 71 = .ok (.getfield 22, 3) := by decide +kernel
theorem dX9_readNumber_74 : decode cX9_readNumber 74 = .ok (.iconst 1, 1) := by decide +kernel
theorem dX9_readNumber_75 : decode cX9_readNumber 75 = .ok (.iadd, 1) := by decide +kernel
theorem dX9_readNumber_76 : decode cX9_readNumber 76 = .ok (.putfield 22, 3) := by decide +kernel
theorem dX9_readNumber_79 : decode cX9_readNumber 79 = .ok (.iinc 6 1, 3) := by decide +kernel
theorem dX9_readNumber_82 : decode cX9_readNumber 82 = .ok (.goto (-48), 3) := by decide +kernel
theorem dX9_readNumber_85 : decode cX9_readNumber 85 = .ok (.iload 5, 2) := by decide +kernel
theorem dX9_readNumber_87 : decode cX9_readNumber 87 = .ok (.iload_n 1, 1) := by decide +kernel
theorem dX9_readNumber_88 : decode cX9_readNumber 88 = .ok (.if_icmp .lt 15, 3) := by decide +kernel
theorem dX9_readNumber_91 : decode cX9_readNumber 91 = .ok (.iload 5, 2) := by decide +kernel
theorem dX9_readNumber_93 : decode cX9_readNumber 93 = .ok (.iload_n 2, 1) := by decide +kernel
theorem dX9_readNumber_94 : decode cX9_readNumber 94 = .ok (.if_icmp .gt 9, 3) := by decide +kernel
theorem dX9_readNumber_97 : decode cX9_readNumber 97 = .ok (.iload 5, 2) := by decide +kernel
theorem dX9_readNumber_99 : decode cX9_readNumber 99 = .ok (.iload_n 3, 1) := by decide +kernel
theorem dX9_readNumber_100 : decode cX9_readNumber 100 = .ok (.if_icmp .ne 14, 3) := by decide +kernel
theorem dX9_readNumber_103 : decode cX9_readNumber 103 = .ok (.aload_n 0, 1) := by decide +kernel
theorem dX9_readNumber_104 : decode cX9_readNumber 104 = .ok (.bipush (-3), 2) := by decide +kernel
theorem dX9_readNumber_106 : decode cX9_readNumber 106 = .ok (.iload 4, 2) := by decide +kernel
theorem dX9_readNumber_108 : decode cX9_readNumber 108 = .ok (.invokevirtual 83, 3) := by decide +kernel
theorem dX9_readNumber_111 : decode cX9_readNumber 111 = .ok (.pop, 1) := by decide +kernel
theorem dX9_readNumber_112 : decode cX9_readNumber 112 = .ok (.iconst (-1), 1) := by decide +kernel
theorem dX9_readNumber_113 : decode cX9_readNumber 113 = .ok (.ireturn, 1) := by decide +kernel
theorem dX9_readNumber_114 : decode cX9_readNumber 114 = .ok (.iload 5, 2) := by decide +kernel
theorem dX9_readNumber_116 : decode cX9_readNumber 116 = .ok (.ireturn, 1) := by decide +kernel
theorem dX9_readSemicolon_0 : decode cX9_readSemicolon 0 = .ok (.aload_n 0, 1) := by decide +kernel
theorem dX9_readSemicolon_1 : decode cX9_readSemicolon 1 = .ok (.invokevirtual 41, 3) := by decide +kernel
theorem dX9_readSemicolon_4 : decode cX9_readSemicolon 4 = .ok (.aload_n 0, 1) := by decide +kernel
theorem dX9_readSemicolon_5 : decode cX9_readSemicolon 5 = .ok (.invokevirtual 63, 3) := by decide +kernel
theorem dX9_readSemicolon_8 : decode cX9_readSemicolon 8 = .ok (.bipush 59, 2) := by decide +kernel
theorem dX9_readSemicolon_10 : decode cX9_readSemicolon 10 = .ok (.if_icmp .eq 14, 3) := by decide +kernel
theorem dX9_readSemicolon_13 : decode cX9_readSemicolon 13 = .ok (.aload_n 0, 1) := by decide +kernel
theorem dX9_readSemicolon_14 : decode cX9_readSemicolon 14 = .ok (.bipush (-2), 2) := by decide +kernel
theorem dX9_readSemicolon_16 : decode cX9_readSemicolon 16 = .ok (.aload_n 0, 1) := by decide +kernel
theorem dX9_readSemicolon_17 : decode cX9_readSemicolon 17 = .ok (.getfield 22, 3) := by decide +kernel
theorem dX9_readSemicolon_20 : decode cX9_readSemicolon 20 = .ok (.invokevirtual 83, 3) := by decide +kernel
theorem dX9_readSemicolon_23 : decode cX9_readSemicolon 23 = .ok (.ireturn, 1) := by decide +kernel
theorem dX9_readSemicolon_24 : decode cX9_readSemicolon 24 = .ok (.aload_n 0, 1) := by decide +kernel
theorem dX9_readSemicolon_25 : decode cX9_readSemicolon 25 = .ok (.dup, 1) := by decide +kernel
theorem dX9_readSemicolon_26 : decode cX9_readSemicolon 26 = .ok (.getfield 22, 3) := by decide +kernel
theorem dX9_readSemicolon_29 : decode cX9_readSemicolon 29 = .ok (.iconst 1, 1) := by decide +kernel
theorem dX9_readSemicolon_30 : decode cX9_readSemicolon 30 = .ok (.iadd, 1) := by decide +kernel
theorem dX9_readSemicolon_31 : decode cX9_readSemicolon 31 = .ok (.putfield 22, 3) := by decide +kernel
theorem dX9_readSemicolon_34 : decode cX9_readSemicolon 34 = .ok (.iconst 1, 1) := by decide +kernel
theorem dX9_readSemicolon_35 : decode cX9_readSemicolon 35 = .ok (.ireturn, 1) := by decide +kernel
theorem dX9_readHead_0 : decode cX9_readHead 0 = .ok (.aload_n 0, 1) := by decide +kernel
theorem dX9_readHead_1 : decode cX9_readHead 1 = .ok (.invokevirtual 41, 3) := by decide +kernel
theorem dX9_readHead_4 : decode cX9_readHead 4 = .ok (.aload_n 0, 1) := by decide +kernel
theorem dX9_readHead_5 : decode cX9_readHead 5 = .ok (.getfield 22, 3) := by decide +kernel
theorem dX9_readHead_8 : decode cX9_readHead 8 = .ok (.istore_n 2, 1) := by decide +kernel
theorem dX9_readHead_9 : decode cX9_readHead 9 = .ok (.aload_n 0, 1) := by decide +kernel
theorem dX9_readHead_10 : decode cX9_readHead 10 = .ok (.invokevirtual 88, 3) := by decide +kernel
theorem dX9_readHead_13 : decode cX9_readHead 13 = .ok (.aload_n 0, 1) := by decide +kernel
theorem dX9_readHead_14 : decode cX9_readHead 14 = .ok (.iload_n 2, 1) := by decide +kernel
theorem dX9_readHead_15 : decode cX9_readHead 15 = .ok (.ldc 91, 2) := by decide +kernel
theorem dX9_readHead_17 : decode cX9_readHead 17 = .ok (.invokevirtual 93, 3) := by decide +kernel
theorem dX9_readHead_20 : decode cX9_readHead 20 = .ok (.ifCond .ne 11, 3) := by decide +kernel
theorem dX9_readHead_23 : decode cX9_readHead 23 = .ok (.aload_n 0, 1) := by decide +kernel
theorem dX9_readHead_24 : decode cX9_readHead 24 = .ok (.bipush (-2), 2) := by decide +kernel
theorem dX9_readHead_26 : decode cX9_readHead 26 = .ok (.iload_n 2, 1) := by decide +kernel
theorem dX9_readHead_27 : decode cX9_readHead 27 = .ok (.invokevirtual 83, 3) := by decide +kernel
theorem dX9_readHead_30 : decode cX9_readHead 30 = .ok (.ireturn, 1) := by decide +kernel
theorem dX9_readHead_31 : decode cX9_readHead 31 = .ok (.aload_n 0, 1) := by decide +kernel
theorem dX9_readHead_32 : decode cX9_readHead 32 = .ok (.iconst 2, 1) := by decide +kernel
theorem dX9_readHead_33 : decode cX9_readHead 33 = .ok (.bipush 8, 2) := by decide +kernel
theorem dX9_readHead_35 : decode cX9_readHead 35 = .ok (.iconst (-1), 1) := by decide +kernel
theorem dX9_readHead_36 : decode cX9_readHead 36 = .ok (.invokevirtual 97, 3) := by decide +kernel
theorem dX9_readHead_39 : decode cX9_readHead 39 = .ok (.istore_n 3, 1) := by decide +kernel
theorem dX9_readHead_40 : decode cX9_readHead 40 = .ok (.iload_n 3, 1) := by decide +kernel
theorem dX9_readHead_41 : decode cX9_readHead 41 = .ok (.iconst (-1), 1) := by decide +kernel
theorem dX9_readHead_42 : decode cX9_readHead 42 = .ok (.if_icmp .ne 5, 3) := by decide +kernel
theorem dX9_readHead_45 : decode cX9_readHead 45 = .ok (.iconst 0, 1) := by decide +kernel
theorem dX9_readHead_46 : decode cX9_readHead 46 = .ok (.ireturn, 1) := by decide +kernel
theorem dX9_readHead_47 : decode cX9_readHead 47 = .ok (.aload_n 0, 1) := by decide +kernel
theorem dX9_readHead_48 : decode cX9_readHead 48 = .ok (.iconst 0, 1) := by decide +kernel
theorem dX9_readHead_49 : decode cX9_readHead 49 = .ok (.iload_n 3, 1) := by decide +kernel
theorem dX9_readHead_50 : decode cX9_readHead 50 = .ok (.iconst 1, 1) := by decide +kernel
theorem dX9_readHead_51 : decode cX9_readHead 51 = .ok (.isub, 1) := by decide +kernel
theorem dX9_readHead_52 : decode cX9_readHead 52 = .ok (.iconst (-1), 1) := by decide +kernel
theorem dX9_readHead_53 : decode cX9_readHead 53 = .ok (.invokevirtual 97, 3) := by decide +kernel
theorem dX9_readHead_56 : decode cX9_readHead 56 = .ok (.istore 4, 2) := by decide +kernel
theorem dX9_readHead_58 : decode cX9_readHead 58 = .ok (.iload 4, 2) := by decide +kernel
theorem dX9_readHead_60 : decode cX9_readHead 60 = .ok (.iconst (-1), 1) := by decide +kernel
theorem dX9_readHead_61 : decode cX9_readHead 61 = .ok (.if_icmp .ne 5, 3) := by decide +kernel
theorem dX9_readHead_64 : decode cX9_readHead 64 = .ok (.iconst 0, 1) := by decide +kernel
theorem dX9_readHead_65 : decode cX9_readHead 65 = .ok (.ireturn, 1) := by decide +kernel
theorem dX9_readHead_66 : decode cX9_readHead 66 = .ok (.aload_n 0, 1) := by decide +kernel
theorem dX9_readHead_67 : decode cX9_readHead 67 = .ok (.iconst 0, 1) := by decide +kernel
theorem dX9_readHead_68 : decode cX9_readHead 68 = .ok (.iload_n 3, 1) := by decide +kernel
theorem dX9_readHead_69 : decode cX9_readHead 69 = .ok (.iconst 1, 1) := by decide +kernel
theorem dX9_readHead_70 : decode cX9_readHead 70 = .ok (.isub, 1) := by decide +kernel
theorem dX9_readHead_71 : decode cX9_readHead 71 = .ok (.iload 4, 2) := by decide +kernel
theorem dX9_readHead_73 : decode cX9_readHead 73 = .ok (.invokevirtual 97, 3) := by decide +kernel
theorem dX9_readHead_76 : decode cX9_readHead 76 = .ok (.istore 5, 2) := by decide +kernel
theorem dX9_readHead_78 : decode cX9_readHead 78 = .ok (.iload 5, 2) := by decide +kernel
theorem dX9_readHead_80 : decode cX9_readHead 80 = .ok (.iconst (-1), 1) := by decide +kernel
theorem dX9_readHead_81 : decode cX9_readHead 81 = .ok (.if_icmp .ne 5, 3) := by decide +kernel
theorem dX9_readHead_84 : decode cX9_readHead 84 = .ok (.iconst 0, 1) := by decide +kernel
theorem dX9_readHead_85 : decode cX9_readHead 85 = .ok (.ireturn, 1) := by decide +kernel
theorem dX9_readHead_86 : decode cX9_readHead 86 = .ok (.aload_n 1, 1) := by decide +kernel
theorem dX9_readHead_87 : decode cX9_readHead 87 = .ok (.iload_n 3, 1) := by decide +kernel
theorem dX9_readHead_88 : decode cX9_readHead 88 = .ok (.iload 4, 2) := by decide +kernel
theorem dX9_readHead_90 : decode cX9_readHead 90 = .ok (.iload 5, 2) := by decide +kernel
theorem dX9_readHead_92 : decode cX9_readHead 92 = .ok (.invokevirtual 101, 3) := by decide +kernel
theorem dX9_readHead_95 : decode cX9_readHead 95 = .ok (.aload_n 0, 1) := by decide +kernel
theorem dX9_readHead_96 : decode cX9_readHead 96 = .ok (.invokevirtual 104, 3) := by decide +kernel
theorem dX9_readHead_99 : decode cX9_readHead 99 = .ok (.ireturn, 1) := by decide +kernel
theorem dX9_readStatement_0 : decode cX9_readStatement 0 = .ok (.aload_n 0, 1) := by decide +kernel
theorem dX9_readStatement_1 : decode cX9_readStatement 1 = .ok (.getfield 22, 3) := by decide +kernel
theorem dX9_readStatement_4 : decode cX9_readStatement 4 = .ok (.istore_n 2, 1) := by decide +kernel
theorem dX9_readStatement_5 : decode cX9_readStatement 5 = .ok (.aload_n 0, 1) := by decide +kernel
theorem dX9_readStatement_6 : decode cX9_readStatement 6 = .ok (.invokevirtual 88, 3) := by decide +kernel
theorem dX9_readStatement_9 : decode cX9_readStatement 9 = .ok (.aload_n 0, 1) := by decide +kernel
theorem dX9_readStatement_10 : decode cX9_readStatement 10 = .ok (.iload_n 2, 1) := by decide +kernel
theorem dX9_readStatement_11 : decode cX9_readStatement 11 = .ok (.ldc 107, 2) := by decide +kernel
theorem dX9_readStatement_13 : decode cX9_readStatement 13 = .ok (.invokevirtual 93, 3) := by decide +kernel
theorem dX9_readStatement_16 : decode cX9_readStatement 16 = .ok (.ifCond .eq 12, 3) := by decide +kernel
theorem dX9_readStatement_19 : decode cX9_readStatement 19 = .ok (.aload_n 0, 1) := by decide +kernel
theorem dX9_readStatement_20 : decode cX9_readStatement 20 = .ok (.aload_n 1, 1) := by decide +kernel
theorem dX9_readStatement_21 : decode cX9_readStatement 21 = .ok (.getfield 53, 3) := by decide +kernel
theorem dX9_readStatement_24 : decode cX9_readStatement 24 = .ok (.invokevirtual 109, 3) := by decide +kernel
theorem dX9_readStatement_27 : decode cX9_readStatement 27 = .ok (.ireturn, 1) := by decide +kernel
theorem dX9_readStatement_28 : decode cX9_readStatement 28 = .ok (.aload_n 0, 1) := by decide +kernel
theorem dX9_readStatement_29 : decode cX9_readStatement 29 = .ok (.iload_n 2, 1) := by decide +kernel
theorem dX9_readStatement_30 : decode cX9_readStatement 30 = .ok (.ldc 113, 2) := by decide +kernel
theorem dX9_readStatement_32 : decode cX9_readStatement 32 = .ok (.invokevirtual 93, 3) := by decide +kernel
theorem dX9_readStatement_35 : decode cX9_readStatement 35 = .ok (.ifCond .eq 34, 3) := by decide +kernel
theorem dX9_readStatement_38 : decode cX9_readStatement 38 = .ok (.aload_n 1, 1) := by decide +kernel
theorem dX9_readStatement_39 : decode cX9_readStatement 39 = .ok (.getfield 53, 3) := by decide +kernel
theorem dX9_readStatement_42 : decode cX9_readStatement 42 = .ok (.getfield 115, 3) := by decide +kernel
theorem dX9_readStatement_45 : decode cX9_readStatement 45 = .ok (.bipush 16, 2) := by decide +kernel
theorem dX9_readStatement_47 : decode cX9_readStatement 47 = .ok (.if_icmp .ge 14, 3) := by decide +kernel
theorem dX9_readStatement_50 : decode cX9_readStatement 50 = .ok (.aload_n 0, 1) := by decide +kernel
theorem dX9_readStatement_51 : decode cX9_readStatement 51 = .ok (.aload_n 1, 1) := by decide +kernel
theorem dX9_readStatement_52 : decode cX9_readStatement 52 = .ok (.getfield 53, 3) := by decide +kernel
theorem dX9_readStatement_55 : decode cX9_readStatement 55 = .ok (.invokevirtual 120, 3) := by decide +kernel
theorem dX9_readStatement_58 : decode cX9_readStatement 58 = .ok (.goto 10, 3) := by decide +kernel
theorem dX9_readStatement_61 : decode cX9_readStatement 61 = .ok (.aload_n 0, 1) := by decide +kernel
theorem dX9_readStatement_62 : decode cX9_readStatement 62 = .ok (.bipush (-4), 2) := by decide +kernel
theorem dX9_readStatement_64 : decode cX9_readStatement 64 = .ok (.iload_n 2, 1) := by decide +kernel
theorem dX9_readStatement_65 : decode cX9_readStatement 65 = .ok (.invokevirtual 83, 3) := by decide +kernel
theorem dX9_readStatement_68 : decode cX9_readStatement 68 = .ok (.ireturn, 1) := by decide +kernel
theorem dX9_readStatement_69 : decode cX9_readStatement 69 = .ok (.aload_n 0, 1) := by decide +kernel
theorem dX9_readStatement_70 : decode cX9_readStatement 70 = .ok (.iload_n 2, 1) := by decide +kernel
theorem dX9_readStatement_71 : decode cX9_readStatement 71 = .ok (.ldc 123, 2) := by decide +kernel
theorem dX9_readStatement_73 : decode cX9_readStatement 73 = .ok (.invokevirtual 93, 3) := by decide +kernel
theorem dX9_readStatement_76 : decode cX9_readStatement 76 = .ok (.ifCond .eq 28, 3) := by decide +kernel
theorem dX9_readStatement_79 : decode cX9_readStatement 79 = .ok (.aload_n 1, 1) := by decide +kernel
theorem dX9_readStatement_80 : decode cX9_readStatement 80 = .ok (.getfield 125, 3) := by decide +kernel
theorem dX9_readStatement_83 : decode cX9_readStatement 83 = .ok (.bipush 6, 2) := by decide +kernel
theorem dX9_readStatement_85 : decode cX9_readStatement 85 = .ok (.if_icmp .ge 11, 3) := by decide +kernel
theorem dX9_readStatement_88 : decode cX9_readStatement 88 = .ok (.aload_n 0, 1) := by decide +kernel
theorem dX9_readStatement_89 : decode cX9_readStatement 89 = .ok (.aload_n 1, 1) := by decide +kernel
theorem dX9_readStatement_90 : decode cX9_readStatement 90 = .ok (.invokevirtual 128, 3) := by decide +kernel
theorem dX9_readStatement_93 : decode cX9_readStatement 93 = .ok (.goto 10, 3) := by decide +kernel
theorem dX9_readStatement_96 : decode cX9_readStatement 96 = .ok (.aload_n 0, 1) := by decide +kernel
theorem dX9_readStatement_97 : decode cX9_readStatement 97 = .ok (.bipush (-4), 2) := by decide +kernel
theorem dX9_readStatement_99 : decode cX9_readStatement 99 = .ok (.iload_n 2, 1) := by decide +kernel
theorem dX9_readStatement_100 : decode cX9_readStatement 100 = .ok (.invokevirtual 83, 3) := by decide +kernel
theorem dX9_readStatement_103 : decode cX9_readStatement 103 = .ok (.ireturn, 1) := by decide +kernel
theorem dX9_readStatement_104 : decode cX9_readStatement 104 = .ok (.aload_n 0, 1) := by decide +kernel
theorem dX9_readStatement_105 : decode cX9_readStatement 105 = .ok (.bipush (-2), 2) := by decide +kernel
theorem dX9_readStatement_107 : decode cX9_readStatement 107 = .ok (.iload_n 2, 1) := by decide +kernel
theorem dX9_readStatement_108 : decode cX9_readStatement 108 = .ok (.invokevirtual 83, 3) := by decide +kernel
theorem dX9_readStatement_111 : decode cX9_readStatement 111 = .ok (.ireturn, 1) := by decide +kernel
theorem dX9_readBudget_0 : decode cX9_readBudget 0 = .ok (.aload_n 0, 1) := by decide +kernel
theorem dX9_readBudget_1 : decode cX9_readBudget 1 = .ok (.iconst 0, 1) := by decide +kernel
theorem dX9_readBudget_2 : decode cX9_readBudget 2 = .ok (.bipush 6, 2) := by decide +kernel
theorem dX9_readBudget_4 : decode cX9_readBudget 4 = .ok (.iconst (-1), 1) := by decide +kernel
theorem dX9_readBudget_5 : decode cX9_readBudget 5 = .ok (.invokevirtual 97, 3) := by decide +kernel
theorem dX9_readBudget_8 : decode cX9_readBudget 8 = .ok (.istore_n 2, 1) := by decide +kernel
theorem dX9_readBudget_9 : decode cX9_readBudget 9 = .ok (.iload_n 2, 1) := by decide +kernel
theorem dX9_readBudget_10 : decode cX9_readBudget 10 = .ok (.iconst (-1), 1) := by decide +kernel
theorem dX9_readBudget_11 : decode cX9_readBudget 11 = .ok (.if_icmp .ne 5, 3) := by decide +kernel
theorem dX9_readBudget_14 : decode cX9_readBudget 14 = .ok (.iconst 0, 1) := by decide +kernel
theorem dX9_readBudget_15 : decode cX9_readBudget 15 = .ok (.ireturn, 1) := by decide +kernel
theorem dX9_readBudget_16 : decode cX9_readBudget 16 = .ok (.aload_n 1, 1) := by decide +kernel
theorem dX9_readBudget_17 : decode cX9_readBudget 17 = .ok (.iload_n 2, 1) := by decide +kernel
theorem dX9_readBudget_18 : decode cX9_readBudget 18 = .ok (.putfield 131, 3) := by decide +kernel
theorem dX9_readBudget_21 : decode cX9_readBudget 21 = .ok (.aload_n 0, 1) := by decide +kernel
theorem dX9_readBudget_22 : decode cX9_readBudget 22 = .ok (.invokevirtual 104, 3) := by decide +kernel
theorem dX9_readBudget_25 : decode cX9_readBudget 25 = .ok (.ireturn, 1) := by decide +kernel
theorem dX9_readArc_0 : decode cX9_readArc 0 = .ok (.aload_n 0, 1) := by decide +kernel
theorem dX9_readArc_1 : decode cX9_readArc 1 = .ok (.iconst 0, 1) := by decide +kernel
theorem dX9_readArc_2 : decode cX9_readArc 2 = .ok (.aload_n 1, 1) := by decide +kernel
theorem dX9_readArc_3 : decode cX9_readArc 3 = .ok (.getfield 133, 3) := by decide +kernel
theorem dX9_readArc_6 : decode cX9_readArc 6 = .ok (.iconst 1, 1) := by decide +kernel
theorem dX9_readArc_7 : decode cX9_readArc 7 = .ok (.isub, 1) := by decide +kernel
theorem dX9_readArc_8 : decode cX9_readArc 8 = .ok (.iconst (-1), 1) := by decide +kernel
theorem dX9_readArc_9 : decode cX9_readArc 9 = .ok (.invokevirtual 97, 3) := by decide +kernel
theorem dX9_readArc_12 : decode cX9_readArc 12 = .ok (.istore_n 2, 1) := by decide +kernel
theorem dX9_readArc_13 : decode cX9_readArc 13 = .ok (.iload_n 2, 1) := by decide +kernel
theorem dX9_readArc_14 : decode cX9_readArc 14 = .ok (.iconst (-1), 1) := by decide +kernel
theorem dX9_readArc_15 : decode cX9_readArc 15 = .ok (.if_icmp .ne 5, 3) := by decide +kernel
theorem dX9_readArc_18 : decode cX9_readArc 18 = .ok (.iconst 0, 1) := by decide +kernel
theorem dX9_readArc_19 : decode cX9_readArc 19 = .ok (.ireturn, 1) := by decide +kernel
theorem dX9_readArc_20 : decode cX9_readArc 20 = .ok (.aload_n 0, 1) := by decide +kernel
theorem dX9_readArc_21 : decode cX9_readArc 21 = .ok (.iconst 0, 1) := by decide +kernel
theorem dX9_readArc_22 : decode cX9_readArc 22 = .ok (.aload_n 1, 1) := by decide +kernel
theorem dX9_readArc_23 : decode cX9_readArc 23 = .ok (.getfield 133, 3) := by decide +kernel
theorem dX9_readArc_26 : decode cX9_readArc 26 = .ok (.iconst 1, 1) := by decide +kernel
theorem dX9_readArc_27 : decode cX9_readArc 27 = .ok (.isub, 1) := by decide +kernel
theorem dX9_readArc_28 : decode cX9_readArc 28 = .ok (.iload_n 2, 1) := by decide +kernel
theorem dX9_readArc_29 : decode cX9_readArc 29 = .ok (.invokevirtual 97, 3) := by decide +kernel
theorem dX9_readArc_32 : decode cX9_readArc 32 = .ok (.istore_n 3, 1) := by decide +kernel
theorem dX9_readArc_33 : decode cX9_readArc 33 = .ok (.iload_n 3, 1) := by decide +kernel
theorem dX9_readArc_34 : decode cX9_readArc 34 = .ok (.iconst (-1), 1) := by decide +kernel
theorem dX9_readArc_35 : decode cX9_readArc 35 = .ok (.if_icmp .ne 5, 3) := by decide +kernel
theorem dX9_readArc_38 : decode cX9_readArc 38 = .ok (.iconst 0, 1) := by decide +kernel
theorem dX9_readArc_39 : decode cX9_readArc 39 = .ok (.ireturn, 1) := by decide +kernel
theorem dX9_readArc_40 : decode cX9_readArc 40 = .ok (.aload_n 0, 1) := by decide +kernel
theorem dX9_readArc_41 : decode cX9_readArc 41 = .ok (.iconst 0, 1) := by decide +kernel
theorem dX9_readArc_42 : decode cX9_readArc 42 = .ok (.bipush 99, 2) := by decide +kernel
theorem dX9_readArc_44 : decode cX9_readArc 44 = .ok (.iconst (-1), 1) := by decide +kernel
theorem dX9_readArc_45 : decode cX9_readArc 45 = .ok (.invokevirtual 97, 3) := by decide +kernel
theorem dX9_readArc_48 : decode cX9_readArc 48 = .ok (.istore 4, 2) := by decide +kernel
theorem dX9_readArc_50 : decode cX9_readArc 50 = .ok (.iload 4, 2) := by decide +kernel
theorem dX9_readArc_52 : decode cX9_readArc 52 = .ok (.iconst (-1), 1) := by decide +kernel
theorem dX9_readArc_53 : decode cX9_readArc 53 = .ok (.if_icmp .ne 5, 3) := by decide +kernel
theorem dX9_readArc_56 : decode cX9_readArc 56 = .ok (.iconst 0, 1) := by decide +kernel
theorem dX9_readArc_57 : decode cX9_readArc 57 = .ok (.ireturn, 1) := by decide +kernel
theorem dX9_readArc_58 : decode cX9_readArc 58 = .ok (.aload_n 0, 1) := by decide +kernel
theorem dX9_readArc_59 : decode cX9_readArc 59 = .ok (.iconst 0, 1) := by decide +kernel
theorem dX9_readArc_60 : decode cX9_readArc 60 = .ok (.bipush 99, 2) := by decide +kernel
theorem dX9_readArc_62 : decode cX9_readArc 62 = .ok (.iconst (-1), 1) := by decide +kernel
theorem dX9_readArc_63 : decode cX9_readArc 63 = .ok (.invokevirtual 97, 3) := by decide +kernel
theorem dX9_readArc_66 : decode cX9_readArc 66 = .ok (.istore 5, 2) := by decide +kernel
theorem dX9_readArc_68 : decode cX9_readArc 68 = .ok (.iload 5, 2) := by decide +kernel
theorem dX9_readArc_70 : decode cX9_readArc 70 = .ok (.iconst (-1), 1) := by decide +kernel
theorem dX9_readArc_71 : decode cX9_readArc 71 = .ok (.if_icmp .ne 5, 3) := by decide +kernel
theorem dX9_readArc_74 : decode cX9_readArc 74 = .ok (.iconst 0, 1) := by decide +kernel
theorem dX9_readArc_75 : decode cX9_readArc 75 = .ok (.ireturn, 1) := by decide +kernel
theorem dX9_readArc_76 : decode cX9_readArc 76 = .ok (.aload_n 1, 1) := by decide +kernel
theorem dX9_readArc_77 : decode cX9_readArc 77 = .ok (.iload_n 2, 1) := by decide +kernel
theorem dX9_readArc_78 : decode cX9_readArc 78 = .ok (.iload_n 3, 1) := by decide +kernel
theorem dX9_readArc_79 : decode cX9_readArc 79 = .ok (.iload 4, 2) := by decide +kernel
theorem dX9_readArc_81 : decode cX9_readArc 81 = .ok (.iload 5, 2) := by decide +kernel
theorem dX9_readArc_83 : decode cX9_readArc 83 = .ok (.invokevirtual 136, 3) := by decide +kernel
theorem dX9_readArc_86 : decode cX9_readArc 86 = .ok (.aload_n 0, 1) := by decide +kernel
theorem dX9_readArc_87 : decode cX9_readArc 87 = .ok (.invokevirtual 104, 3) := by decide +kernel
theorem dX9_readArc_90 : decode cX9_readArc 90 = .ok (.ireturn, 1) := by decide +kernel
theorem dX9_readRoute_0 : decode cX9_readRoute 0 = .ok (.aload_n 1, 1) := by decide +kernel
theorem dX9_readRoute_1 : decode cX9_readRoute 1 = .ok (.getfield 140, 3) := by decide +kernel
theorem dX9_readRoute_4 : decode cX9_readRoute 4 = .ok (.astore_n 2, 1) := by decide +kernel
theorem dX9_readRoute_5 : decode cX9_readRoute 5 = .ok (.aload_n 0, 1) := by decide +kernel
theorem dX9_readRoute_6 : decode cX9_readRoute 6 = .ok (.invokevirtual 41, 3) := by decide +kernel
theorem dX9_readRoute_9 : decode cX9_readRoute 9 = .ok (.iconst 0, 1) := by decide +kernel
theorem dX9_readRoute_10 : decode cX9_readRoute 10 = .ok (.istore_n 3, 1) := by decide +kernel
theorem dX9_readRoute_11 : decode cX9_readRoute 11 = .ok (.iload_n 3, 1) := by decide +kernel
theorem dX9_readRoute_12 : decode cX9_readRoute 12 = .ok (.sipush 600, 3) := by decide +kernel
theorem dX9_readRoute_15 : decode cX9_readRoute 15 = .ok (.if_icmp .ge 83, 3) := by decide +kernel
theorem dX9_readRoute_18 : decode cX9_readRoute 18 = .ok (.iload_n 3, 1) := by decide +kernel
theorem dX9_readRoute_19 : decode cX9_readRoute 19 = .ok (.ifCond .eq 10, 3) := by decide +kernel
theorem dX9_readRoute_22 : decode cX9_readRoute 22 = .ok (.aload_n 0, 1) := by decide +kernel
theorem dX9_readRoute_23 : decode cX9_readRoute 23 = .ok (.invokevirtual 80, 3) := by decide +kernel
theorem dX9_readRoute_26 : decode cX9_readRoute 26 = .ok (.ifCond .eq 72, 3) := by decide +kernel
theorem dX9_readRoute_29 : decode cX9_readRoute 29 = .ok (.aload_n 0, 1) := by decide +kernel
theorem dX9_readRoute_30 : decode cX9_readRoute 30 = .ok (.getfield 22, 3) := by decide +kernel
theorem dX9_readRoute_33 : decode cX9_readRoute 33 = .ok (.istore 4, 2) := by decide +kernel
theorem dX9_readRoute_35 : decode cX9_readRoute 35 = .ok (.aload_n 0, 1) := by decide +kernel
theorem dX9_readRoute_36 : decode cX9_readRoute 36 = .ok (.iconst 0, 1) := by decide +kernel
theorem dX9_readRoute_37 : decode cX9_readRoute 37 = .ok (.aload_n 1, 1) := by decide +kernel
theorem dX9_readRoute_38 : decode cX9_readRoute 38 = .ok (.getfield 53, 3) := by decide +kernel
theorem dX9_readRoute_41 : decode cX9_readRoute 41 = .ok (.getfield 115, 3) := by decide +kernel
theorem dX9_readRoute_44 : decode cX9_readRoute 44 = .ok (.iconst 1, 1) := by decide +kernel
theorem dX9_readRoute_45 : decode cX9_readRoute 45 = .ok (.isub, 1) := by decide +kernel
theorem dX9_readRoute_46 : decode cX9_readRoute 46 = .ok (.iconst (-1), 1) := by decide +kernel
theorem dX9_readRoute_47 : decode cX9_readRoute 47 = .ok (.invokevirtual 97, 3) := by decide +kernel
theorem dX9_readRoute_50 : decode cX9_readRoute 50 = .ok (.istore 5, 2) := by decide +kernel
theorem dX9_readRoute_52 : decode cX9_readRoute 52 = .ok (.iload 5, 2) := by decide +kernel
theorem dX9_readRoute_54 : decode cX9_readRoute 54 = .ok (.iconst (-1), 1) := by decide +kernel
theorem dX9_readRoute_55 : decode cX9_readRoute 55 = .ok (.if_icmp .ne 5, 3) := by decide +kernel
theorem dX9_readRoute_58 : decode cX9_readRoute 58 = .ok (.iconst 0, 1) := by decide +kernel
theorem dX9_readRoute_59 : decode cX9_readRoute 59 = .ok (.ireturn, 1) := by decide +kernel
theorem dX9_readRoute_60 : decode cX9_readRoute 60 = .ok (.aload_n 1, 1) := by decide +kernel
theorem dX9_readRoute_61 : decode cX9_readRoute 61 = .ok (.getfield 53, 3) := by decide +kernel
theorem dX9_readRoute_64 : decode cX9_readRoute 64 = .ok (.aload_n 2, 1) := by decide +kernel
theorem dX9_readRoute_65 : decode cX9_readRoute 65 = .ok (.iload 5, 2) := by decide +kernel
theorem dX9_readRoute_67 : decode cX9_readRoute 67 = .ok (.invokevirtual 144, 3) := by decide +kernel
theorem dX9_readRoute_70 : decode cX9_readRoute 70 = .ok (.ifCond .ne 12, 3) := by decide +kernel
theorem dX9_readRoute_73 : decode cX9_readRoute 73 = .ok (.aload_n 0, 1) := by decide +kernel
theorem dX9_readRoute_74 : decode cX9_readRoute 74 = .ok (.bipush (-3), 2) := by decide +kernel
theorem dX9_readRoute_76 : decode cX9_readRoute 76 = .ok (.iload 4, 2) := by decide +kernel
theorem dX9_readRoute_78 : decode cX9_readRoute 78 = .ok (.invokevirtual 83, 3) := by decide +kernel
theorem dX9_readRoute_81 : decode cX9_readRoute 81 = .ok (.ireturn, 1) := by decide +kernel
theorem dX9_readRoute_82 : decode cX9_readRoute 82 = .ok (.aload_n 2, 1) := by decide +kernel
theorem dX9_readRoute_83 : decode cX9_readRoute 83 = .ok (.iload 5, 2) := by decide +kernel
theorem dX9_readRoute_85 : decode cX9_readRoute 85 = .ok (.invokevirtual 148, 3) := by decide +kernel
theorem dX9_readRoute_88 : decode cX9_readRoute 88 = .ok (.aload_n 0, 1) := by decide +kernel
theorem dX9_readRoute_89 : decode cX9_readRoute 89 = .ok (.invokevirtual 41, 3) := by decide +kernel
theorem dX9_readRoute_92 : decode cX9_readRoute 92 = .ok (.iinc 3 1, 3) := by decide +kernel
theorem dX9_readRoute_95 : decode cX9_readRoute 95 = .ok (.goto (-84), 3) := by decide +kernel
theorem dX9_readRoute_98 : decode cX9_readRoute 98 = .ok (.aload_n 0, 1) := by decide +kernel
theorem dX9_readRoute_99 : decode cX9_readRoute 99 = .ok (.aload_n 1, 1) := by decide +kernel
theorem dX9_readRoute_100 : decode cX9_readRoute 100 = .ok (.aload_n 2, 1) := by decide +kernel
theorem dX9_readRoute_101 : decode cX9_readRoute 101 = .ok (.invokevirtual 154, 3) := by decide +kernel
theorem dX9_readRoute_104 : decode cX9_readRoute 104 = .ok (.ireturn, 1) := by decide +kernel
theorem dX9_readRouteEnd_0 : decode cX9_readRouteEnd 0 = .ok (.aload_n 0, 1) := by decide +kernel
theorem dX9_readRouteEnd_1 : decode cX9_readRouteEnd 1 = .ok (.invokevirtual 63, 3) := by decide +kernel
theorem dX9_readRouteEnd_4 : decode cX9_readRouteEnd 4 = .ok (.bipush 59, 2) := by decide +kernel
theorem dX9_readRouteEnd_6 : decode cX9_readRouteEnd 6 = .ok (.if_icmp .ne 21, 3) := by decide +kernel
theorem dX9_readRouteEnd_9 : decode cX9_readRouteEnd 9 = .ok (.aload_n 1, 1) := by decide +kernel
theorem dX9_readRouteEnd_10 : decode cX9_readRouteEnd 10 = .ok (.getfield 53, 3) := by decide +kernel
theorem dX9_readRouteEnd_13 : decode cX9_readRouteEnd 13 = .ok (.aload_n 2, 1) := by decide +kernel
theorem dX9_readRouteEnd_14 : decode cX9_readRouteEnd 14 = .ok (.invokevirtual 158, 3) := by decide +kernel
theorem dX9_readRouteEnd_17 : decode cX9_readRouteEnd 17 = .ok (.aload_n 1, 1) := by decide +kernel
theorem dX9_readRouteEnd_18 : decode cX9_readRouteEnd 18 = .ok (.getfield 53, 3) := by decide +kernel
theorem dX9_readRouteEnd_21 : decode cX9_readRouteEnd 21 = .ok (.getfield 162, 3) := by decide +kernel
theorem dX9_readRouteEnd_24 : decode cX9_readRouteEnd 24 = .ok (.if_icmp .eq 14, 3) := by decide +kernel
theorem dX9_readRouteEnd_27 : decode cX9_readRouteEnd 27 = .ok (.aload_n 0, 1) := by decide +kernel
theorem dX9_readRouteEnd_28 : decode cX9_readRouteEnd 28 = .ok (.bipush (-2), 2) := by decide +kernel
theorem dX9_readRouteEnd_30 : decode cX9_readRouteEnd 30 = .ok (.aload_n 0, 1) := by decide +kernel
theorem dX9_readRouteEnd_31 : decode cX9_readRouteEnd 31 = .ok (.getfield 22, 3) := by decide +kernel
theorem dX9_readRouteEnd_34 : decode cX9_readRouteEnd 34 = .ok (.invokevirtual 83, 3) := by decide +kernel
theorem dX9_readRouteEnd_37 : decode cX9_readRouteEnd 37 = .ok (.ireturn, 1) := by decide +kernel
theorem dX9_readRouteEnd_38 : decode cX9_readRouteEnd 38 = .ok (.aload_n 1, 1) := by decide +kernel
theorem dX9_readRouteEnd_39 : decode cX9_readRouteEnd 39 = .ok (.aload_n 2, 1) := by decide +kernel
theorem dX9_readRouteEnd_40 : decode cX9_readRouteEnd 40 = .ok (.invokevirtual 165, 3) := by decide +kernel
theorem dX9_readRouteEnd_43 : decode cX9_readRouteEnd 43 = .ok (.ifCond .eq 14, 3) := by decide +kernel
theorem dX9_readRouteEnd_46 : decode cX9_readRouteEnd 46 = .ok (.aload_n 0, 1) := by decide +kernel
theorem dX9_readRouteEnd_47 : decode cX9_readRouteEnd 47 = .ok (.bipush (-3), 2) := by decide +kernel
theorem dX9_readRouteEnd_49 : decode cX9_readRouteEnd 49 = .ok (.aload_n 0, 1) := by decide +kernel
theorem dX9_readRouteEnd_50 : decode cX9_readRouteEnd 50 = .ok (.getfield 22, 3) := by decide +kernel
theorem dX9_readRouteEnd_53 : decode cX9_readRouteEnd 53 = .ok (.invokevirtual 83, 3) := by decide +kernel
theorem dX9_readRouteEnd_56 : decode cX9_readRouteEnd 56 = .ok (.ireturn, 1) := by decide +kernel
theorem dX9_readRouteEnd_57 : decode cX9_readRouteEnd 57 = .ok (.aload_n 0, 1) := by decide +kernel
theorem dX9_readRouteEnd_58 : decode cX9_readRouteEnd 58 = .ok (.dup, 1) := by decide +kernel
theorem dX9_readRouteEnd_59 : decode cX9_readRouteEnd 59 = .ok (.getfield 22, 3) := by decide +kernel
theorem dX9_readRouteEnd_62 : decode cX9_readRouteEnd 62 = .ok (.iconst 1, 1) := by decide +kernel
theorem dX9_readRouteEnd_63 : decode cX9_readRouteEnd 63 = .ok (.iadd, 1) := by decide +kernel
theorem dX9_readRouteEnd_64 : decode cX9_readRouteEnd 64 = .ok (.putfield 22, 3) := by decide +kernel
theorem dX9_readRouteEnd_67 : decode cX9_readRouteEnd 67 = .ok (.aload_n 1, 1) := by decide +kernel
theorem dX9_readRouteEnd_68 : decode cX9_readRouteEnd 68 = .ok (.aload_n 2, 1) := by decide +kernel
theorem dX9_readRouteEnd_69 : decode cX9_readRouteEnd 69 = .ok (.invokevirtual 169, 3) := by decide +kernel
theorem dX9_readRouteEnd_72 : decode cX9_readRouteEnd 72 = .ok (.aload_n 2, 1) := by decide +kernel
theorem dX9_readRouteEnd_73 : decode cX9_readRouteEnd 73 = .ok (.invokevirtual 173, 3) := by decide +kernel
theorem dX9_readRouteEnd_76 : decode cX9_readRouteEnd 76 = .ok (.iconst 1, 1) := by decide +kernel
theorem dX9_readRouteEnd_77 : decode cX9_readRouteEnd 77 = .ok (.ireturn, 1) := by decide +kernel
theorem dX10_init_0 : decode cX10_init 0 = .ok (.aload_n 0, 1) := by decide +kernel
theorem dX10_init_1 : decode cX10_init 1 = .ok (.invokespecial 1, 3) := by decide +kernel
theorem dX10_init_4 : decode cX10_init 4 = .ok (.aload_n 0, 1) := by decide +kernel
theorem dX10_init_5 : decode cX10_init 5 = .ok (.new 7, 3) := by decide +kernel
theorem dX10_init_8 : decode cX10_init 8 = .ok (.dup, 1) := by decide +kernel
theorem dX10_init_9 : decode cX10_init 9 = .ok (.invokespecial 9, 3) := by decide +kernel
theorem dX10_init_12 : decode cX10_init 12 = .ok (.putfield 10, 3) := by decide +kernel
theorem dX10_init_15 : decode cX10_init 15 = .ok (.aload_n 0, 1) := by decide +kernel
theorem dX10_init_16 : decode cX10_init 16 = .ok (.getfield 10, 3) := by decide +kernel
theorem dX10_init_19 : decode cX10_init 19 = .ok (.iconst 2, 1) := by decide +kernel
theorem dX10_init_20 : decode cX10_init 20 = .ok (.iconst 0, 1) := by decide +kernel
theorem dX10_init_21 : decode cX10_init 21 = .ok (.iconst 1, 1) := by decide +kernel
theorem dX10_init_22 : decode cX10_init 22 = .ok (.invokevirtual 16, 3) := by decide +kernel
theorem dX10_init_25 : decode cX10_init 25 = .ok (.aload_n 0, 1) := by decide +kernel
theorem dX10_init_26 : decode cX10_init 26 = .ok (.new 20, 3) := by decide +kernel
theorem dX10_init_29 : decode cX10_init 29 = .ok (.dup, 1) := by decide +kernel
theorem dX10_init_30 : decode cX10_init 30 = .ok (.invokespecial 22, 3) := by decide +kernel
theorem dX10_init_33 : decode cX10_init 33 = .ok (.putfield 23, 3) := by decide +kernel
theorem dX10_init_36 : decode cX10_init 36 = .ok (.aload_n 0, 1) := by decide +kernel
theorem dX10_init_37 : decode cX10_init 37 = .ok (.new 27, 3) := by decide +kernel
theorem dX10_init_40 : decode cX10_init 40 = .ok (.dup, 1) := by decide +kernel
theorem dX10_init_41 : decode cX10_init 41 = .ok (.invokespecial 29, 3) := by decide +kernel
theorem dX10_init_44 : decode cX10_init 44 = .ok (.putfield 30, 3) := by decide +kernel
theorem dX10_init_47 : decode cX10_init 47 = .ok (.aload_n 0, 1) := by decide +kernel
theorem dX10_init_48 : decode cX10_init 48 = .ok (.new 7, 3) := by decide +kernel
theorem dX10_init_51 : decode cX10_init 51 = .ok (.dup, 1) := by decide +kernel
theorem dX10_init_52 : decode cX10_init 52 = .ok (.invokespecial 9, 3) := by decide +kernel
theorem dX10_init_55 : decode cX10_init 55 = .ok (.putfield 34, 3) := by decide +kernel
theorem dX10_init_58 : decode cX10_init 58 = .ok (.aload_n 0, 1) := by decide +kernel
theorem dX10_init_59 : decode cX10_init 59 = .ok (.new 37, 3) := by decide +kernel
theorem dX10_init_62 : decode cX10_init 62 = .ok (.dup, 1) := by decide +kernel
theorem dX10_init_63 : decode cX10_init 63 = .ok (.aload_n 0, 1) := by decide +kernel
theorem dX10_init_64 : decode cX10_init 64 = .ok (.getfield 10, 3) := by decide +kernel
theorem dX10_init_67 : decode cX10_init 67 = .ok (.getfield 39, 3) := by decide +kernel
theorem dX10_init_70 : decode cX10_init 70 = .ok (.invokespecial 43, 3) := by decide +kernel
theorem dX10_init_73 : decode cX10_init 73 = .ok (.putfield 46, 3) := by decide +kernel
theorem dX10_init_76 : decode cX10_init 76 = .ok (.aload_n 0, 1) := by decide +kernel
theorem dX10_init_77 : decode cX10_init 77 = .ok (.new 50, 3) := by decide +kernel
theorem dX10_init_80 : decode cX10_init 80 = .ok (.dup, 1) := by decide +kernel
theorem dX10_init_81 : decode cX10_init 81 = .ok (.aload_n 0, 1) := by decide +kernel
theorem dX10_init_82 : decode cX10_init 82 = .ok (.getfield 10, 3) := by decide +kernel
theorem dX10_init_85 : decode cX10_init 85 = .ok (.invokespecial 52, 3) := by decide +kernel
theorem dX10_init_88 : decode cX10_init 88 = .ok (.putfield 55, 3) := by decide +kernel
theorem dX10_init_91 : decode cX10_init 91 = .ok (.aload_n 0, 1) := by decide +kernel
theorem dX10_init_92 : decode cX10_init 92 = .ok (.new 59, 3) := by decide +kernel
theorem dX10_init_95 : decode cX10_init 95 = .ok (.dup, 1) := by decide +kernel
theorem dX10_init_96 : decode cX10_init 96 = .ok (.aload_n 0, 1) := by decide +kernel
theorem dX10_init_97 : decode cX10_init 97 = .ok (.getfield 10, 3) := by decide +kernel
theorem dX10_init_100 : decode cX10_init 100 = .ok (.getfield 39, 3) := by decide +kernel
theorem dX10_init_103 : decode cX10_init 103 = .ok (.aload_n 0, 1) := by decide +kernel
theorem dX10_init_104 : decode cX10_init 104 = .ok (.getfield 46, 3) := by decide +kernel
theorem dX10_init_107 : decode cX10_init 107 = .ok (.aload_n 0, 1) := by decide +kernel
theorem dX10_init_108 : decode cX10_init 108 = .ok (.getfield 55, 3) := by decide +kernel
theorem dX10_init_111 : decode cX10_init 111 = .ok (.invokespecial 61, 3) := by decide +kernel
theorem dX10_init_114 : decode cX10_init 114 = .ok (.putfield 64, 3) := by decide +kernel
theorem dX10_init_117 : decode cX10_init 117 = .ok (.aload_n 0, 1) := by decide +kernel
theorem dX10_init_118 : decode cX10_init 118 = .ok (.new 68, 3) := by decide +kernel
theorem dX10_init_121 : decode cX10_init 121 = .ok (.dup, 1) := by decide +kernel
theorem dX10_init_122 : decode cX10_init 122 = .ok (.aload_n 0, 1) := by decide +kernel
theorem dX10_init_123 : decode cX10_init 123 = .ok (.getfield 10, 3) := by decide +kernel
theorem dX10_init_126 : decode cX10_init 126 = .ok (.getfield 39, 3) := by decide +kernel
theorem dX10_init_129 : decode cX10_init 129 = .ok (.invokespecial 70, 3) := by decide +kernel
theorem dX10_init_132 : decode cX10_init 132 = .ok (.putfield 71, 3) := by decide +kernel
theorem dX10_init_135 : decode cX10_init 135 = .ok (.aload_n 0, 1) := by decide +kernel
theorem dX10_init_136 : decode cX10_init 136 = .ok (.bipush 15, 2) := by decide +kernel
theorem dX10_init_138 : decode cX10_init 138 = .ok (.newarray .byte, 2) := by decide +kernel
theorem dX10_init_140 : decode cX10_init 140 = .ok (.putfield 75, 3) := by decide +kernel
theorem dX10_init_143 : decode cX10_init 143 = .ok (.aload_n 0, 1) := by decide +kernel
theorem dX10_init_144 : decode cX10_init 144 = .ok (.iconst 0, 1) := by decide +kernel
theorem dX10_init_145 : decode cX10_init 145 = .ok (.putfield 79, 3) := by decide +kernel
theorem dX10_init_148 : decode cX10_init 148 = .ok (.return_, 1) := by decide +kernel
theorem dX10_append_0 : decode cX10_append 0 = .ok (.aload_n 0, 1) := by decide +kernel
theorem dX10_append_1 : decode cX10_append 1 = .ok (.getfield 30, 3) := by decide +kernel
theorem dX10_append_4 : decode cX10_append 4 = .ok (.getfield 83, 3) := by decide +kernel
theorem dX10_append_7 : decode cX10_append 7 = .ok (.bipush 20, 2) := by decide +kernel
theorem dX10_append_9 : decode cX10_append 9 = .ok (.iadd, 1) := by decide +kernel
theorem dX10_append_10 : decode cX10_append 10 = .ok (.sipush 600, 3) := by decide +kernel
theorem dX10_append_13 : decode cX10_append 13 = .ok (.if_icmp .le 13, 3) := by decide +kernel
theorem dX10_append_16 : decode cX10_append 16 = .ok (.new 86, 3) := by decide +kernel
theorem dX10_append_19 : decode cX10_append 19 = .ok (.dup, 1) := by decide +kernel
theorem dX10_append_20 : decode cX10_append 20 = .ok (.ldc 88, 2) := by decide +kernel
theorem dX10_append_22 : decode cX10_append 22 = .ok (.invokespecial 90, 3) := by decide +kernel
theorem dX10_append_25 : decode cX10_append 25 = .ok (.athrow, 1) := by decide +kernel
theorem dX10_append_26 : decode cX10_append 26 = .ok (.aload_n 0, 1) := by decide +kernel
theorem dX10_append_27 : decode cX10_append 27 = .ok (.getfield 30, 3) := by decide +kernel
theorem dX10_append_30 : decode cX10_append 30 = .ok (.iload_n 1, 1) := by decide +kernel
theorem dX10_append_31 : decode cX10_append 31 = .ok (.invokevirtual 93, 3) := by decide +kernel
theorem dX10_append_34 : decode cX10_append 34 = .ok (.aload_n 0, 1) := by decide +kernel
theorem dX10_append_35 : decode cX10_append 35 = .ok (.getfield 30, 3) := by decide +kernel
theorem dX10_append_38 : decode cX10_append 38 = .ok (.iload_n 2, 1) := by decide +kernel
theorem dX10_append_39 : decode cX10_append 39 = .ok (.invokevirtual 93, 3) := by decide +kernel
theorem dX10_append_42 : decode cX10_append 42 = .ok (.aload_n 0, 1) := by decide +kernel
theorem dX10_append_43 : decode cX10_append 43 = .ok (.getfield 30, 3) := by decide +kernel
theorem dX10_append_46 : decode cX10_append 46 = .ok (.iload_n 3, 1) := by decide +kernel
theorem dX10_append_47 : decode cX10_append 47 = .ok (.invokevirtual 93, 3) := by decide +kernel
theorem dX10_append_50 : decode cX10_append 50 = .ok (.aload_n 0, 1) := by decide +kernel
theorem dX10_append_51 : decode cX10_append 51 = .ok (.getfield 30, 3) := by decide +kernel
theorem dX10_append_54 : decode cX10_append 54 = .ok (.iload 4, 2) := by decide +kernel
theorem dX10_append_56 : decode cX10_append 56 = .ok (.invokevirtual 93, 3) := by decide +kernel
theorem dX10_append_59 : decode cX10_append 59 = .ok (.aload_n 0, 1) := by decide +kernel
theorem dX10_append_60 : decode cX10_append 60 = .ok (.getfield 30, 3) := by decide +kernel
theorem dX10_append_63 : decode cX10_append 63 = .ok (.iload 5, 2) := by decide +kernel
theorem dX10_append_65 : decode cX10_append 65 = .ok (.invokevirtual 93, 3) := by decide +kernel
theorem dX10_append_68 : decode cX10_append 68 = .ok (.aload_n 0, 1) := by decide +kernel
theorem dX10_append_69 : decode cX10_append 69 = .ok (.getfield 30, 3) := by decide +kernel
theorem dX10_append_72 : decode cX10_append 72 = .ok (.getfield 83, 3) := by decide +kernel
theorem dX10_append_75 : decode cX10_append 75 = .ok (.ireturn, 1) := by decide +kernel
theorem dX10_load_0 : decode cX10_load 0 = .ok (.iload_n 1, 1) := by decide +kernel
theorem dX10_load_1 : decode cX10_load 1 = .ok (.ifCond .lt 14, 3) := by decide +kernel
theorem dX10_load_4 : decode cX10_load 4 = .ok (.iload_n 1, 1) := by decide +kernel
theorem dX10_load_5 : decode cX10_load 5 = .ok (.aload_n 0, 1) := by decide +kernel
theorem dX10_load_6 : decode cX10_load 6 = .ok (.getfield 30, 3) := by decide +kernel
theorem dX10_load_9 : decode cX10_load 9 = .ok (.getfield 83, 3) := by decide +kernel
theorem dX10_load_12 : decode cX10_load 12 = .ok (.if_icmp .le 13, 3) := by decide +kernel
theorem dX10_load_15 : decode cX10_load 15 = .ok (.new 97, 3) := by decide +kernel
theorem dX10_load_18 : decode cX10_load 18 = .ok (.dup, 1) := by decide +kernel
theorem dX10_load_19 : decode cX10_load 19 = .ok (.ldc 99, 2) := by decide +kernel
theorem dX10_load_21 : decode cX10_load 21 = .ok (.invokespecial 101, 3) := by decide +kernel
theorem dX10_load_24 : decode cX10_load 24 = .ok (.athrow, 1) := by decide +kernel
theorem dX10_load_25 : decode cX10_load 25 = .ok (.aload_n 0, 1) := by decide +kernel
theorem dX10_load_26 : decode cX10_load 26 = .ok (.getfield 30, 3) := by decide +kernel
theorem dX10_load_29 : decode cX10_load 29 = .ok (.iload_n 1, 1) := by decide +kernel
theorem dX10_load_30 : decode cX10_load 30 = .ok (.aload_n 0, 1) := by decide +kernel
theorem dX10_load_31 : decode cX10_load 31 = .ok (.getfield 34, 3) := by decide +kernel
theorem dX10_load_34 : decode cX10_load 34 = .ok (.invokevirtual 102, 3) := by decide +kernel
theorem dX10_load_37 : decode cX10_load 37 = .ok (.istore_n 2, 1) := by decide +kernel
theorem dX10_load_38 : decode cX10_load 38 = .ok (.aload_n 0, 1) := by decide +kernel
theorem dX10_load_39 : decode cX10_load 39 = .ok (.getfield 30, 3) := by decide +kernel
theorem dX10_load_42 : decode cX10_load 42 = .ok (.iconst 0, 1) := by decide +kernel
theorem dX10_load_43 : decode cX10_load 43 = .ok (.putfield 83, 3) := by decide +kernel
theorem dX10_load_46 : decode cX10_load 46 = .ok (.iload_n 2, 1) := by decide +kernel
theorem dX10_load_47 : decode cX10_load 47 = .ok (.ifCond .ne 11, 3) := by decide +kernel
theorem dX10_load_50 : decode cX10_load 50 = .ok (.aload_n 0, 1) := by decide +kernel
theorem dX10_load_51 : decode cX10_load 51 = .ok (.getfield 30, 3) := by decide +kernel
theorem dX10_load_54 : decode cX10_load 54 = .ok (.getfield 106, 3) := by decide +kernel
theorem dX10_load_57 : decode cX10_load 57 = .ok (.ireturn, 1) := by decide +kernel
theorem dX10_load_58 : decode cX10_load 58 = .ok (.aload_n 0, 1) := by decide +kernel
theorem dX10_load_59 : decode cX10_load 59 = .ok (.invokevirtual 109, 3) := by decide +kernel
theorem dX10_load_62 : decode cX10_load 62 = .ok (.aload_n 0, 1) := by decide +kernel
theorem dX10_load_63 : decode cX10_load 63 = .ok (.getfield 10, 3) := by decide +kernel
theorem dX10_load_66 : decode cX10_load 66 = .ok (.aload_n 0, 1) := by decide +kernel
theorem dX10_load_67 : decode cX10_load 67 = .ok (.getfield 34, 3) := by decide +kernel
theorem dX10_load_70 : decode cX10_load 70 = .ok (.invokevirtual 112, 3) := by decide +kernel
theorem dX10_load_73 : decode cX10_load 73 = .ok (.aload_n 0, 1) := by decide +kernel
theorem dX10_load_74 : decode cX10_load 74 = .ok (.getfield 10, 3) := by decide +kernel
theorem dX10_load_77 : decode cX10_load 77 = .ok (.getfield 39, 3) := by decide +kernel
theorem dX10_load_80 : decode cX10_load 80 = .ok (.getfield 115, 3) := by decide +kernel
theorem dX10_load_83 : decode cX10_load 83 = .ok (.ireturn, 1) := by decide +kernel
theorem dX10_errorPosition_0 : decode cX10_errorPosition 0 = .ok (.aload_n 0, 1) := by decide +kernel
theorem dX10_errorPosition_1 : decode cX10_errorPosition 1 = .ok (.getfield 30, 3) := by decide +kernel
theorem dX10_errorPosition_4 : decode cX10_errorPosition 4 = .ok (.getfield 120, 3) := by decide +kernel
theorem dX10_errorPosition_7 : decode cX10_errorPosition 7 = .ok (.ireturn, 1) := by decide +kernel
theorem dX10_count_0 : decode cX10_count 0 = .ok (.iload_n 1, 1) := by decide +kernel
theorem dX10_count_1 : decode cX10_count 1 = .ok (.tableswitch 189 0 11 #[63, 74, 85, 96, 107, 118, 126, 137, 145, 156, 167, 178], 63) := by decide +kernel
theorem dX10_count_64 : decode cX10_count 64 = .ok (.aload_n 0, 1) := by decide +kernel
theorem dX10_count_65 : decode cX10_count 65 = .ok (.getfield 10, 3) := by decide +kernel
theorem dX10_count_68 : decode cX10_count 68 = .ok (.getfield 39, 3) := by decide +kernel
theorem dX10_count_71 : decode cX10_count 71 = .ok (.getfield 123, 3) := by decide +kernel
theorem dX10_count_74 : decode cX10_count 74 = .ok (.ireturn, 1) := by decide +kernel
theorem dX10_count_75 : decode cX10_count 75 = .ok (.aload_n 0, 1) := by decide +kernel
theorem dX10_count_76 : decode cX10_count 76 = .ok (.getfield 10, 3) := by decide +kernel
theorem dX10_count_79 : decode cX10_count 79 = .ok (.getfield 39, 3) := by decide +kernel
theorem dX10_count_82 : decode cX10_count 82 = .ok (.getfield 115, 3) := by decide +kernel
theorem dX10_count_85 : decode cX10_count 85 = .ok (.ireturn, 1) := by decide +kernel
theorem dX10_count_86 : decode cX10_count 86 = .ok (.aload_n 0, 1) := by decide +kernel
theorem dX10_count_87 : decode cX10_count 87 = .ok (.getfield 10, 3) := by decide +kernel
theorem dX10_count_90 : decode cX10_count 90 = .ok (.getfield 39, 3) := by decide +kernel
theorem dX10_count_93 : decode cX10_count 93 = .ok (.getfield 126, 3) := by decide +kernel
theorem dX10_count_96 : decode cX10_count 96 = .ok (.ireturn, 1) := by decide +kernel
theorem dX10_count_97 : decode cX10_count 97 = .ok (.aload_n 0, 1) := by decide +kernel
theorem dX10_count_98 : decode cX10_count 98 = .ok (.getfield 10, 3) := by decide +kernel
theorem dX10_count_101 : decode cX10_count 101 = .ok (.getfield 39, 3) := by decide +kernel
theorem dX10_count_104 : decode cX10_count 104 = .ok (.getfield 129, 3) := by decide +kernel
theorem dX10_count_107 : decode cX10_count 107 = .ok (.ireturn, 1) := by decide +kernel
theorem dX10_count_108 : decode cX10_count 108 = .ok (.aload_n 0, 1) := by decide +kernel
theorem dX10_count_109 : decode cX10_count 109 = .ok (.getfield 10, 3) := by decide +kernel
theorem dX10_count_112 : decode cX10_count 112 = .ok (.getfield 39, 3) := by decide +kernel
theorem dX10_count_115 : decode cX10_count 115 = .ok (.getfield 132, 3) := by decide +kernel
theorem dX10_count_118 : decode cX10_count 118 = .ok (.ireturn, 1) := by decide +kernel
theorem dX10_count_119 : decode cX10_count 119 = .ok (.aload_n 0, 1) := by decide +kernel
theorem dX10_count_120 : decode cX10_count 120 = .ok (.getfield 10, 3) := by decide +kernel
theorem dX10_count_123 : decode cX10_count 123 = .ok (.getfield 135, 3) := by decide +kernel
theorem dX10_count_126 : decode cX10_count 126 = .ok (.ireturn, 1) := by decide +kernel
theorem dX10_count_127 : decode cX10_count 127 = .ok (.aload_n 0, 1) := by decide +kernel
theorem dX10_count_128 : decode cX10_count 128 = .ok (.getfield 10, 3) := by decide +kernel
theorem dX10_count_131 : decode cX10_count 131 = .ok (.getfield 138, 3) := by decide +kernel
theorem dX10_count_134 : decode cX10_count 134 = .ok (.getfield 142, 3) := by decide +kernel
theorem dX10_count_137 : decode cX10_count 137 = .ok (.ireturn, 1) := by decide +kernel
theorem dX10_count_138 : decode cX10_count 138 = .ok (.aload_n 0, 1) := by decide +kernel
theorem dX10_count_139 : decode cX10_count 139 = .ok (.getfield 46, 3) := by decide +kernel
theorem dX10_count_142 : decode cX10_count 142 = .ok (.invokevirtual 147, 3) := by decide +kernel
theorem dX10_count_145 : decode cX10_count 145 = .ok (.ireturn, 1) := by decide +kernel
theorem dX10_count_146 : decode cX10_count 146 = .ok (.aload_n 0, 1) := by decide +kernel
theorem dX10_count_147 : decode cX10_count 147 = .ok (.getfield 10, 3) := by decide +kernel
theorem dX10_count_150 : decode cX10_count 150 = .ok (.getfield 151, 3) := by decide +kernel
theorem dX10_count_153 : decode cX10_count 153 = .ok (.invokevirtual 155, 3) := by decide +kernel
theorem dX10_count_156 : decode cX10_count 156 = .ok (.ireturn, 1) := by decide +kernel
theorem dX10_count_157 : decode cX10_count 157 = .ok (.aload_n 0, 1) := by decide +kernel
theorem dX10_count_158 : decode cX10_count 158 = .ok (.getfield 10, 3) := by decide +kernel
theorem dX10_count_161 : decode cX10_count 161 = .ok (.getfield 151, 3) := by decide +kernel
theorem dX10_count_164 : decode cX10_count 164 = .ok (.invokevirtual 160, 3) := by decide +kernel
theorem dX10_count_167 : decode cX10_count 167 = .ok (.ireturn, 1) := by decide +kernel
theorem dX10_count_168 : decode cX10_count 168 = .ok (.aload_n 0, 1) := by decide +kernel
theorem dX10_count_169 : decode cX10_count 169 = .ok (.getfield 10, 3) := by decide +kernel
theorem dX10_count_172 : decode cX10_count 172 = .ok (.getfield 151, 3) := by decide +kernel
theorem dX10_count_175 : decode cX10_count 175 = .ok (.invokevirtual 163, 3) := by decide +kernel
theorem dX10_count_178 : decode cX10_count 178 = .ok (.ireturn, 1) := by decide +kernel
theorem dX10_count_179 : decode cX10_count 179 = .ok (.aload_n 0, 1) := by decide +kernel
theorem dX10_count_180 : decode cX10_count 180 = .ok (.getfield 10, 3) := by decide +kernel
theorem dX10_count_183 : decode cX10_count 183 = .ok (.getfield 151, 3) := by decide +kernel
theorem dX10_count_186 : decode cX10_count 186 = .ok (.getfield 166, 3) := by decide +kernel
theorem dX10_count_189 : decode cX10_count 189 = .ok (.ireturn, 1) := by decide +kernel
theorem dX10_count_190 : decode cX10_count 190 = .ok (.new 97, 3) := by decide +kernel
theorem dX10_count_193 : decode cX10_count 193 = .ok (.dup, 1) := by decide +kernel
theorem dX10_count_194 : decode cX10_count 194 = .ok (.ldc 169, 2) := by decide +kernel
theorem dX10_count_196 : decode cX10_count 196 = .ok (.invokespecial 101, 3) := by decide +kernel
theorem dX10_count_199 : decode cX10_count 199 = .ok (.athrow, 1) := by decide +kernel
theorem dX10_arc_0 : decode cX10_arc 0 = .ok (.aload_n 0, 1) := by decide +kernel
theorem dX10_arc_1 : decode cX10_arc 1 = .ok (.iload_n 1, 1) := by decide +kernel
theorem dX10_arc_2 : decode cX10_arc 2 = .ok (.invokevirtual 171, 3) := by decide +kernel
theorem dX10_arc_5 : decode cX10_arc 5 = .ok (.iload_n 2, 1) := by decide +kernel
theorem dX10_arc_6 : decode cX10_arc 6 = .ok (.tableswitch 82 0 3 #[30, 43, 56, 69], 30) := by decide +kernel
theorem dX10_arc_36 : decode cX10_arc 36 = .ok (.aload_n 0, 1) := by decide +kernel
theorem dX10_arc_37 : decode cX10_arc 37 = .ok (.getfield 10, 3) := by decide +kernel
theorem dX10_arc_40 : decode cX10_arc 40 = .ok (.getfield 39, 3) := by decide +kernel
theorem dX10_arc_43 : decode cX10_arc 43 = .ok (.getfield 174, 3) := by decide +kernel
theorem dX10_arc_46 : decode cX10_arc 46 = .ok (.iload_n 1, 1) := by decide +kernel
theorem dX10_arc_47 : decode cX10_arc 47 = .ok (.iaload, 1) := by decide +kernel
theorem dX10_arc_48 : decode cX10_arc 48 = .ok (.ireturn, 1) := by decide +kernel
theorem dX10_arc_49 : decode cX10_arc 49 = .ok (.aload_n 0, 1) := by decide +kernel
theorem dX10_arc_50 : decode cX10_arc 50 = .ok (.getfield 10, 3) := by decide +kernel
theorem dX10_arc_53 : decode cX10_arc 53 = .ok (.getfield 39, 3) := by decide +kernel
theorem dX10_arc_56 : decode cX10_arc 56 = .ok (.getfield 178, 3) := by decide +kernel
theorem dX10_arc_59 : decode cX10_arc 59 = .ok (.iload_n 1, 1) := by decide +kernel
theorem dX10_arc_60 : decode cX10_arc 60 = .ok (.iaload, 1) := by decide +kernel
theorem dX10_arc_61 : decode cX10_arc 61 = .ok (.ireturn, 1) := by decide +kernel
theorem dX10_arc_62 : decode cX10_arc 62 = .ok (.aload_n 0, 1) := by decide +kernel
theorem dX10_arc_63 : decode cX10_arc 63 = .ok (.getfield 10, 3) := by decide +kernel
theorem dX10_arc_66 : decode cX10_arc 66 = .ok (.getfield 39, 3) := by decide +kernel
theorem dX10_arc_69 : decode cX10_arc 69 = .ok (.getfield 181, 3) := by decide +kernel
theorem dX10_arc_72 : decode cX10_arc 72 = .ok (.iload_n 1, 1) := by decide +kernel
theorem dX10_arc_73 : decode cX10_arc 73 = .ok (.iaload, 1) := by decide +kernel
theorem dX10_arc_74 : decode cX10_arc 74 = .ok (.ireturn, 1) := by decide +kernel
theorem dX10_arc_75 : decode cX10_arc 75 = .ok (.aload_n 0, 1) := by decide +kernel
theorem dX10_arc_76 : decode cX10_arc 76 = .ok (.getfield 10, 3) := by decide +kernel
theorem dX10_arc_79 : decode cX10_arc 79 = .ok (.getfield 39, 3) := by decide +kernel
theorem dX10_arc_82 : decode cX10_arc 82 = .ok (.getfield 184, 3) := by decide +kernel
theorem dX10_arc_85 : decode cX10_arc 85 = .ok (.iload_n 1, 1) := by decide +kernel
theorem dX10_arc_86 : decode cX10_arc 86 = .ok (.iaload, 1) := by decide +kernel
theorem dX10_arc_87 : decode cX10_arc 87 = .ok (.ireturn, 1) := by decide +kernel
theorem dX10_arc_88 : decode cX10_arc 88 = .ok (.new 97, 3) := by decide +kernel
theorem dX10_arc_91 : decode cX10_arc 91 = .ok (.dup, 1) := by decide +kernel
theorem dX10_arc_92 : decode cX10_arc 92 = .ok (.ldc 187, 2) := by decide +kernel
theorem dX10_arc_94 : decode cX10_arc 94 = .ok (.invokespecial 101, 3) := by decide +kernel
theorem dX10_arc_97 : decode cX10_arc 97 = .ok (.athrow, 1) := by decide +kernel
theorem dX10_addArc_0 : decode cX10_addArc 0 = .ok (.aload_n 0, 1) := by decide +kernel
theorem dX10_addArc_1 : decode cX10_addArc 1 = .ok (.iload_n 1, 1) := by decide +kernel
theorem dX10_addArc_2 : decode cX10_addArc 2 = .ok (.invokevirtual 189, 3) := by decide +kernel
theorem dX10_addArc_5 : decode cX10_addArc 5 = .ok (.aload_n 0, 1) := by decide +kernel
theorem dX10_addArc_6 : decode cX10_addArc 6 = .ok (.iload_n 2, 1) := by decide +kernel
theorem dX10_addArc_7 : decode cX10_addArc 7 = .ok (.invokevirtual 189, 3) := by decide +kernel
theorem dX10_addArc_10 : decode cX10_addArc 10 = .ok (.iload_n 1, 1) := by decide +kernel
theorem dX10_addArc_11 : decode cX10_addArc 11 = .ok (.iload_n 2, 1) := by decide +kernel
theorem dX10_addArc_12 : decode cX10_addArc 12 = .ok (.if_icmp .ne 13, 3) := by decide +kernel
theorem dX10_addArc_15 : decode cX10_addArc 15 = .ok (.new 97, 3) := by decide +kernel
theorem dX10_addArc_18 : decode cX10_addArc 18 = .ok (.dup, 1) := by decide +kernel
theorem dX10_addArc_19 : decode cX10_addArc 19 = .ok (.ldc 192, 2) := by decide +kernel
theorem dX10_addArc_21 : decode cX10_addArc 21 = .ok (.invokespecial 101, 3) := by decide +kernel
theorem dX10_addArc_24 : decode cX10_addArc 24 = .ok (.athrow, 1) := by decide +kernel
theorem dX10_addArc_25 : decode cX10_addArc 25 = .ok (.iload_n 3, 1) := by decide +kernel
theorem dX10_addArc_26 : decode cX10_addArc 26 = .ok (.iload 4, 2) := by decide +kernel
theorem dX10_addArc_28 : decode cX10_addArc 28 = .ok (.invokestatic 194, 3) := by decide +kernel
theorem dX10_addArc_31 : decode cX10_addArc 31 = .ok (.aload_n 0, 1) := by decide +kernel
theorem dX10_addArc_32 : decode cX10_addArc 32 = .ok (.getfield 10, 3) := by decide +kernel
theorem dX10_addArc_35 : decode cX10_addArc 35 = .ok (.getfield 39, 3) := by decide +kernel
theorem dX10_addArc_38 : decode cX10_addArc 38 = .ok (.getfield 115, 3) := by decide +kernel
theorem dX10_addArc_41 : decode cX10_addArc 41 = .ok (.bipush 16, 2) := by decide +kernel
theorem dX10_addArc_43 : decode cX10_addArc 43 = .ok (.if_icmp .lt 13, 3) := by decide +kernel
theorem dX10_addArc_46 : decode cX10_addArc 46 = .ok (.new 86, 3) := by decide +kernel
theorem dX10_addArc_49 : decode cX10_addArc 49 = .ok (.dup, 1) := by decide +kernel
theorem dX10_addArc_50 : decode cX10_addArc 50 = .ok (.ldc 198, 2) := by decide +kernel
theorem dX10_addArc_52 : decode cX10_addArc 52 = .ok (.invokespecial 90, 3) := by decide +kernel
theorem dX10_addArc_55 : decode cX10_addArc 55 = .ok (.athrow, 1) := by decide +kernel
theorem dX10_addArc_56 : decode cX10_addArc 56 = .ok (.aload_n 0, 1) := by decide +kernel
theorem dX10_addArc_57 : decode cX10_addArc 57 = .ok (.invokevirtual 109, 3) := by decide +kernel
theorem dX10_addArc_60 : decode cX10_addArc 60 = .ok (.aload_n 0, 1) := by decide +kernel
theorem dX10_addArc_61 : decode cX10_addArc 61 = .ok (.getfield 10, 3) := by decide +kernel
theorem dX10_addArc_64 : decode cX10_addArc 64 = .ok (.getfield 39, 3) := by decide +kernel
theorem dX10_addArc_67 : decode cX10_addArc 67 = .ok (.iload_n 1, 1) := by decide +kernel
theorem dX10_addArc_68 : decode cX10_addArc 68 = .ok (.iload_n 2, 1) := by decide +kernel
theorem dX10_addArc_69 : decode cX10_addArc 69 = .ok (.iload_n 3, 1) := by decide +kernel
theorem dX10_addArc_70 : decode cX10_addArc 70 = .ok (.iload 4, 2) := by decide +kernel
theorem dX10_addArc_72 : decode cX10_addArc 72 = .ok (.invokevirtual 200, 3) := by decide +kernel
theorem dX10_addArc_75 : decode cX10_addArc 75 = .ok (.aload_n 0, 1) := by decide +kernel
theorem dX10_addArc_76 : decode cX10_addArc 76 = .ok (.getfield 10, 3) := by decide +kernel
theorem dX10_addArc_79 : decode cX10_addArc 79 = .ok (.getfield 151, 3) := by decide +kernel
theorem dX10_addArc_82 : decode cX10_addArc 82 = .ok (.aload_n 0, 1) := by decide +kernel
theorem dX10_addArc_83 : decode cX10_addArc 83 = .ok (.getfield 10, 3) := by decide +kernel
theorem dX10_addArc_86 : decode cX10_addArc 86 = .ok (.getfield 39, 3) := by decide +kernel
theorem dX10_addArc_89 : decode cX10_addArc 89 = .ok (.invokevirtual 204, 3) := by decide +kernel
theorem dX10_addArc_92 : decode cX10_addArc 92 = .ok (.aload_n 0, 1) := by decide +kernel
theorem dX10_addArc_93 : decode cX10_addArc 93 = .ok (.getfield 10, 3) := by decide +kernel
theorem dX10_addArc_96 : decode cX10_addArc 96 = .ok (.getfield 39, 3) := by decide +kernel
theorem dX10_addArc_99 : decode cX10_addArc 99 = .ok (.getfield 115, 3) := by decide +kernel
theorem dX10_addArc_102 : decode cX10_addArc 102 = .ok (.iconst 1, 1) := by decide +kernel
theorem dX10_addArc_103 : decode cX10_addArc 103 = .ok (.isub, 1) := by decide +kernel
theorem dX10_addArc_104 : decode cX10_addArc 104 = .ok (.ireturn, 1) := by decide +kernel
theorem dX10_removeArc_0 : decode cX10_removeArc 0 = .ok (.aload_n 0, 1) := by decide +kernel
theorem dX10_removeArc_1 : decode cX10_removeArc 1 = .ok (.iload_n 1, 1) := by decide +kernel
theorem dX10_removeArc_2 : decode cX10_removeArc 2 = .ok (.invokevirtual 171, 3) := by decide +kernel
theorem dX10_removeArc_5 : decode cX10_removeArc 5 = .ok (.aload_n 0, 1) := by decide +kernel
theorem dX10_removeArc_6 : decode cX10_removeArc 6 = .ok (.getfield 10, 3) := by decide +kernel
theorem dX10_removeArc_9 : decode cX10_removeArc 9 = .ok (.iload_n 1, 1) := by decide +kernel
theorem dX10_removeArc_10 : decode cX10_removeArc 10 = .ok (.invokevirtual 206, 3) := by decide +kernel
theorem dX10_removeArc_13 : decode cX10_removeArc 13 = .ok (.ifCond .eq 13, 3) := by decide +kernel
theorem dX10_removeArc_16 : decode cX10_removeArc 16 = .ok (.new 86, 3) := by decide +kernel
theorem dX10_removeArc_19 : decode cX10_removeArc 19 = .ok (.dup, 1) := by decide +kernel
theorem dX10_removeArc_20 : decode cX10_removeArc 20 = .ok (.ldc 210, 2) := by decide +kernel
theorem dX10_removeArc_22 : decode cX10_removeArc 22 = .ok (.invokespecial 90, 3) := by decide +kernel
theorem dX10_removeArc_25 : decode cX10_removeArc 25 = .ok (.athrow, 1) := by decide +kernel
theorem dX10_removeArc_26 : decode cX10_removeArc 26 = .ok (.aload_n 0, 1) := by decide +kernel
theorem dX10_removeArc_27 : decode cX10_removeArc 27 = .ok (.invokevirtual 109, 3) := by decide +kernel
theorem dX10_removeArc_30 : decode cX10_removeArc 30 = .ok (.aload_n 0, 1) := by decide +kernel
theorem dX10_removeArc_31 : decode cX10_removeArc 31 = .ok (.getfield 10, 3) := by decide +kernel
theorem dX10_removeArc_34 : decode cX10_removeArc 34 = .ok (.iload_n 1, 1) := by decide +kernel
theorem dX10_removeArc_35 : decode cX10_removeArc 35 = .ok (.invokevirtual 212, 3) := by decide +kernel
theorem dX10_removeArc_38 : decode cX10_removeArc 38 = .ok (.aload_n 0, 1) := by decide +kernel
theorem dX10_removeArc_39 : decode cX10_removeArc 39 = .ok (.getfield 10, 3) := by decide +kernel
theorem dX10_removeArc_42 : decode cX10_removeArc 42 = .ok (.getfield 151, 3) := by decide +kernel
theorem dX10_removeArc_45 : decode cX10_removeArc 45 = .ok (.aload_n 0, 1) := by decide +kernel
theorem dX10_removeArc_46 : decode cX10_removeArc 46 = .ok (.getfield 10, 3) := by decide +kernel
theorem dX10_removeArc_49 : decode cX10_removeArc 49 = .ok (.getfield 39, 3) := by decide +kernel
theorem dX10_removeArc_52 : decode cX10_removeArc 52 = .ok (.invokevirtual 204, 3) := by decide +kernel
theorem dX10_removeArc_55 : decode cX10_removeArc 55 = .ok (.aload_n 0, 1) := by decide +kernel
theorem dX10_removeArc_56 : decode cX10_removeArc 56 = .ok (.getfield 10, 3) := by decide +kernel
theorem dX10_removeArc_59 : decode cX10_removeArc 59 = .ok (.getfield 39, 3) := by decide +kernel
theorem dX10_removeArc_62 : decode cX10_removeArc 62 = .ok (.getfield 115, 3) := by decide +kernel
theorem dX10_removeArc_65 : decode cX10_removeArc 65 = .ok (.ireturn, 1) := by decide +kernel
theorem dX10_setArc_0 : decode cX10_setArc 0 = .ok (.aload_n 0, 1) := by decide +kernel
theorem dX10_setArc_1 : decode cX10_setArc 1 = .ok (.iload_n 1, 1) := by decide +kernel
theorem dX10_setArc_2 : decode cX10_setArc 2 = .ok (.invokevirtual 171, 3) := by decide +kernel
theorem dX10_setArc_5 : decode cX10_setArc 5 = .ok (.iload_n 2, 1) := by decide +kernel
theorem dX10_setArc_6 : decode cX10_setArc 6 = .ok (.iload_n 3, 1) := by decide +kernel
theorem dX10_setArc_7 : decode cX10_setArc 7 = .ok (.invokestatic 194, 3) := by decide +kernel
theorem dX10_setArc_10 : decode cX10_setArc 10 = .ok (.bipush 100, 2) := by decide +kernel
theorem dX10_setArc_12 : decode cX10_setArc 12 = .ok (.aload_n 0, 1) := by decide +kernel
theorem dX10_setArc_13 : decode cX10_setArc 13 = .ok (.getfield 10, 3) := by decide +kernel
theorem dX10_setArc_16 : decode cX10_setArc 16 = .ok (.getfield 39, 3) := by decide +kernel
theorem dX10_setArc_19 : decode cX10_setArc 19 = .ok (.getfield 181, 3) := by decide +kernel
theorem dX10_setArc_22 : decode cX10_setArc 22 = .ok (.iload_n 1, 1) := by decide +kernel
theorem dX10_setArc_23 : decode cX10_setArc 23 = .ok (.iaload, 1) := by decide +kernel
theorem dX10_setArc_24 : decode cX10_setArc 24 = .ok (.imul, 1) := by decide +kernel
theorem dX10_setArc_25 : decode cX10_setArc 25 = .ok (.aload_n 0, 1) := by decide +kernel
theorem dX10_setArc_26 : decode cX10_setArc 26 = .ok (.getfield 10, 3) := by decide +kernel
theorem dX10_setArc_29 : decode cX10_setArc 29 = .ok (.getfield 39, 3) := by decide +kernel
theorem dX10_setArc_32 : decode cX10_setArc 32 = .ok (.getfield 184, 3) := by decide +kernel
theorem dX10_setArc_35 : decode cX10_setArc 35 = .ok (.iload_n 1, 1) := by decide +kernel
theorem dX10_setArc_36 : decode cX10_setArc 36 = .ok (.iaload, 1) := by decide +kernel
theorem dX10_setArc_37 : decode cX10_setArc 37 = .ok (.iadd, 1) := by decide +kernel
theorem dX10_setArc_38 : decode cX10_setArc 38 = .ok (.istore 4, 2) := by decide +kernel
theorem dX10_setArc_40 : decode cX10_setArc 40 = .ok (.aload_n 0, 1) := by decide +kernel
theorem dX10_setArc_41 : decode cX10_setArc 41 = .ok (.invokevirtual 109, 3) := by decide +kernel
theorem dX10_setArc_44 : decode cX10_setArc 44 = .ok (.aload_n 0, 1) := by decide +kernel
theorem dX10_setArc_45 : decode cX10_setArc 45 = .ok (.getfield 10, 3) := by decide +kernel
theorem dX10_setArc_48 : decode cX10_setArc 48 = .ok (.getfield 39, 3) := by decide +kernel
theorem dX10_setArc_51 : decode cX10_setArc 51 = .ok (.getfield 181, 3) := by decide +kernel
theorem dX10_setArc_54 : decode cX10_setArc 54 = .ok (.iload_n 1, 1) := by decide +kernel
theorem dX10_setArc_55 : decode cX10_setArc 55 = .ok (.iload_n 2, 1) := by decide +kernel
theorem dX10_setArc_56 : decode cX10_setArc 56 = .ok (.iastore, 1) := by decide +kernel
theorem dX10_setArc_57 : decode cX10_setArc 57 = .ok (.aload_n 0, 1) := by decide +kernel
theorem dX10_setArc_58 : decode cX10_setArc 58 = .ok (.getfield 10, 3) := by decide +kernel
theorem dX10_setArc_61 : decode cX10_setArc 61 = .ok (.getfield 39, 3) := by decide +kernel
theorem dX10_setArc_64 : decode cX10_setArc 64 = .ok (.getfield 184, 3) := by decide +kernel
theorem dX10_setArc_67 : decode cX10_setArc 67 = .ok (.iload_n 1, 1) := by decide +kernel
theorem dX10_setArc_68 : decode cX10_setArc 68 = .ok (.iload_n 3, 1) := by decide +kernel
theorem dX10_setArc_69 : decode cX10_setArc 69 = .ok (.iastore, 1) := by decide +kernel
theorem dX10_setArc_70 : decode cX10_setArc 70 = .ok (.aload_n 0, 1) := by decide +kernel
theorem dX10_setArc_71 : decode cX10_setArc 71 = .ok (.getfield 10, 3) := by decide +kernel
theorem dX10_setArc_74 : decode cX10_setArc 74 = .ok (.getfield 151, 3) := by decide +kernel
theorem dX10_setArc_77 : decode cX10_setArc 77 = .ok (.aload_n 0, 1) := by decide +kernel
theorem dX10_setArc_78 : decode cX10_setArc 78 = .ok (.getfield 10, 3) := by decide +kernel
theorem dX10_setArc_81 : decode cX10_setArc 81 = .ok (.getfield 39, 3) := by decide +kernel
theorem dX10_setArc_84 : decode cX10_setArc 84 = .ok (.invokevirtual 204, 3) := by decide +kernel
theorem dX10_setArc_87 : decode cX10_setArc 87 = .ok (.iload 4, 2) := by decide +kernel
theorem dX10_setArc_89 : decode cX10_setArc 89 = .ok (.ireturn, 1) := by decide +kernel
theorem dX10_setBudget_0 : decode cX10_setBudget 0 = .ok (.iload_n 1, 1) := by decide +kernel
theorem dX10_setBudget_1 : decode cX10_setBudget 1 = .ok (.invokestatic 215, 3) := by decide +kernel
theorem dX10_setBudget_4 : decode cX10_setBudget 4 = .ok (.aload_n 0, 1) := by decide +kernel
theorem dX10_setBudget_5 : decode cX10_setBudget 5 = .ok (.getfield 10, 3) := by decide +kernel
theorem dX10_setBudget_8 : decode cX10_setBudget 8 = .ok (.getfield 39, 3) := by decide +kernel
theorem dX10_setBudget_11 : decode cX10_setBudget 11 = .ok (.getfield 132, 3) := by decide +kernel
theorem dX10_setBudget_14 : decode cX10_setBudget 14 = .ok (.istore_n 2, 1) := by decide +kernel
theorem dX10_setBudget_15 : decode cX10_setBudget 15 = .ok (.aload_n 0, 1) := by decide +kernel
theorem dX10_setBudget_16 : decode cX10_setBudget 16 = .ok (.invokevirtual 109, 3) := by decide +kernel
theorem dX10_setBudget_19 : decode cX10_setBudget 19 = .ok (.aload_n 0, 1) := by decide +kernel
theorem dX10_setBudget_20 : decode cX10_setBudget 20 = .ok (.getfield 10, 3) := by decide +kernel
theorem dX10_setBudget_23 : decode cX10_setBudget 23 = .ok (.getfield 39, 3) := by decide +kernel
theorem dX10_setBudget_26 : decode cX10_setBudget 26 = .ok (.iload_n 1, 1) := by decide +kernel
theorem dX10_setBudget_27 : decode cX10_setBudget 27 = .ok (.putfield 132, 3) := by decide +kernel
theorem dX10_setBudget_30 : decode cX10_setBudget 30 = .ok (.aload_n 0, 1) := by decide +kernel
theorem dX10_setBudget_31 : decode cX10_setBudget 31 = .ok (.getfield 10, 3) := by decide +kernel
theorem dX10_setBudget_34 : decode cX10_setBudget 34 = .ok (.getfield 151, 3) := by decide +kernel
theorem dX10_setBudget_37 : decode cX10_setBudget 37 = .ok (.aload_n 0, 1) := by decide +kernel
theorem dX10_setBudget_38 : decode cX10_setBudget 38 = .ok (.getfield 10, 3) := by decide +kernel
theorem dX10_setBudget_41 : decode cX10_setBudget 41 = .ok (.getfield 39, 3) := by decide +kernel
theorem dX10_setBudget_44 : decode cX10_setBudget 44 = .ok (.invokevirtual 204, 3) := by decide +kernel
theorem dX10_setBudget_47 : decode cX10_setBudget 47 = .ok (.iload_n 2, 1) := by decide +kernel
theorem dX10_setBudget_48 : decode cX10_setBudget 48 = .ok (.ireturn, 1) := by decide +kernel
theorem dX10_draft_0 : decode cX10_draft 0 = .ok (.aload_n 0, 1) := by decide +kernel
theorem dX10_draft_1 : decode cX10_draft 1 = .ok (.iload_n 1, 1) := by decide +kernel
theorem dX10_draft_2 : decode cX10_draft 2 = .ok (.invokevirtual 171, 3) := by decide +kernel
theorem dX10_draft_5 : decode cX10_draft 5 = .ok (.aload_n 0, 1) := by decide +kernel
theorem dX10_draft_6 : decode cX10_draft 6 = .ok (.getfield 10, 3) := by decide +kernel
theorem dX10_draft_9 : decode cX10_draft 9 = .ok (.getfield 39, 3) := by decide +kernel
theorem dX10_draft_12 : decode cX10_draft 12 = .ok (.aload_n 0, 1) := by decide +kernel
theorem dX10_draft_13 : decode cX10_draft 13 = .ok (.getfield 10, 3) := by decide +kernel
theorem dX10_draft_16 : decode cX10_draft 16 = .ok (.getfield 138, 3) := by decide +kernel
theorem dX10_draft_19 : decode cX10_draft 19 = .ok (.iload_n 1, 1) := by decide +kernel
theorem dX10_draft_20 : decode cX10_draft 20 = .ok (.invokevirtual 218, 3) := by decide +kernel
theorem dX10_draft_23 : decode cX10_draft 23 = .ok (.ifCond .ne 13, 3) := by decide +kernel
theorem dX10_draft_26 : decode cX10_draft 26 = .ok (.new 86, 3) := by decide +kernel
theorem dX10_draft_29 : decode cX10_draft 29 = .ok (.dup, 1) := by decide +kernel
theorem dX10_draft_30 : decode cX10_draft 30 = .ok (.ldc 222, 2) := by decide +kernel
theorem dX10_draft_32 : decode cX10_draft 32 = .ok (.invokespecial 90, 3) := by decide +kernel
theorem dX10_draft_35 : decode cX10_draft 35 = .ok (.athrow, 1) := by decide +kernel
theorem dX10_draft_36 : decode cX10_draft 36 = .ok (.aload_n 0, 1) := by decide +kernel
theorem dX10_draft_37 : decode cX10_draft 37 = .ok (.invokevirtual 109, 3) := by decide +kernel
theorem dX10_draft_40 : decode cX10_draft 40 = .ok (.aload_n 0, 1) := by decide +kernel
theorem dX10_draft_41 : decode cX10_draft 41 = .ok (.getfield 10, 3) := by decide +kernel
theorem dX10_draft_44 : decode cX10_draft 44 = .ok (.getfield 138, 3) := by decide +kernel
theorem dX10_draft_47 : decode cX10_draft 47 = .ok (.iload_n 1, 1) := by decide +kernel
theorem dX10_draft_48 : decode cX10_draft 48 = .ok (.invokevirtual 224, 3) := by decide +kernel
theorem dX10_draft_51 : decode cX10_draft 51 = .ok (.aload_n 0, 1) := by decide +kernel
theorem dX10_draft_52 : decode cX10_draft 52 = .ok (.getfield 10, 3) := by decide +kernel
theorem dX10_draft_55 : decode cX10_draft 55 = .ok (.getfield 39, 3) := by decide +kernel
theorem dX10_draft_58 : decode cX10_draft 58 = .ok (.aload_n 0, 1) := by decide +kernel
theorem dX10_draft_59 : decode cX10_draft 59 = .ok (.getfield 10, 3) := by decide +kernel
theorem dX10_draft_62 : decode cX10_draft 62 = .ok (.getfield 138, 3) := by decide +kernel
theorem dX10_draft_65 : decode cX10_draft 65 = .ok (.invokevirtual 227, 3) := by decide +kernel
theorem dX10_draft_68 : decode cX10_draft 68 = .ok (.ireturn, 1) := by decide +kernel
theorem dX10_drop_0 : decode cX10_drop 0 = .ok (.aload_n 0, 1) := by decide +kernel
theorem dX10_drop_1 : decode cX10_drop 1 = .ok (.getfield 10, 3) := by decide +kernel
theorem dX10_drop_4 : decode cX10_drop 4 = .ok (.getfield 138, 3) := by decide +kernel
theorem dX10_drop_7 : decode cX10_drop 7 = .ok (.getfield 142, 3) := by decide +kernel
theorem dX10_drop_10 : decode cX10_drop 10 = .ok (.ifCond .ne 13, 3) := by decide +kernel
theorem dX10_drop_13 : decode cX10_drop 13 = .ok (.new 86, 3) := by decide +kernel
theorem dX10_drop_16 : decode cX10_drop 16 = .ok (.dup, 1) := by decide +kernel
theorem dX10_drop_17 : decode cX10_drop 17 = .ok (.ldc 231, 2) := by decide +kernel
theorem dX10_drop_19 : decode cX10_drop 19 = .ok (.invokespecial 90, 3) := by decide +kernel
theorem dX10_drop_22 : decode cX10_drop 22 = .ok (.athrow, 1) := by decide +kernel
theorem dX10_drop_23 : decode cX10_drop 23 = .ok (.aload_n 0, 1) := by decide +kernel
theorem dX10_drop_24 : decode cX10_drop 24 = .ok (.invokevirtual 109, 3) := by decide +kernel
theorem dX10_drop_27 : decode cX10_drop 27 = .ok (.aload_n 0, 1) := by decide +kernel
theorem dX10_drop_28 : decode cX10_drop 28 = .ok (.getfield 10, 3) := by decide +kernel
theorem dX10_drop_31 : decode cX10_drop 31 = .ok (.getfield 138, 3) := by decide +kernel
theorem dX10_drop_34 : decode cX10_drop 34 = .ok (.invokevirtual 233, 3) := by decide +kernel
theorem dX10_drop_37 : decode cX10_drop 37 = .ok (.pop, 1) := by decide +kernel
theorem dX10_drop_38 : decode cX10_drop 38 = .ok (.aload_n 0, 1) := by decide +kernel
theorem dX10_drop_39 : decode cX10_drop 39 = .ok (.getfield 10, 3) := by decide +kernel
theorem dX10_drop_42 : decode cX10_drop 42 = .ok (.getfield 138, 3) := by decide +kernel
theorem dX10_drop_45 : decode cX10_drop 45 = .ok (.getfield 142, 3) := by decide +kernel
theorem dX10_drop_48 : decode cX10_drop 48 = .ok (.ireturn, 1) := by decide +kernel
theorem dX10_reason_0 : decode cX10_reason 0 = .ok (.aload_n 0, 1) := by decide +kernel
theorem dX10_reason_1 : decode cX10_reason 1 = .ok (.getfield 10, 3) := by decide +kernel
theorem dX10_reason_4 : decode cX10_reason 4 = .ok (.getfield 39, 3) := by decide +kernel
theorem dX10_reason_7 : decode cX10_reason 7 = .ok (.aload_n 0, 1) := by decide +kernel
theorem dX10_reason_8 : decode cX10_reason 8 = .ok (.getfield 10, 3) := by decide +kernel
theorem dX10_reason_11 : decode cX10_reason 11 = .ok (.getfield 138, 3) := by decide +kernel
theorem dX10_reason_14 : decode cX10_reason 14 = .ok (.invokevirtual 227, 3) := by decide +kernel
theorem dX10_reason_17 : decode cX10_reason 17 = .ok (.aload_n 0, 1) := by decide +kernel
theorem dX10_reason_18 : decode cX10_reason 18 = .ok (.getfield 10, 3) := by decide +kernel
theorem dX10_reason_21 : decode cX10_reason 21 = .ok (.getfield 39, 3) := by decide +kernel
theorem dX10_reason_24 : decode cX10_reason 24 = .ok (.getfield 129, 3) := by decide +kernel
theorem dX10_reason_27 : decode cX10_reason 27 = .ok (.if_icmp .eq 5, 3) := by decide +kernel
theorem dX10_reason_30 : decode cX10_reason 30 = .ok (.iconst 1, 1) := by decide +kernel
theorem dX10_reason_31 : decode cX10_reason 31 = .ok (.ireturn, 1) := by decide +kernel
theorem dX10_reason_32 : decode cX10_reason 32 = .ok (.aload_n 0, 1) := by decide +kernel
theorem dX10_reason_33 : decode cX10_reason 33 = .ok (.getfield 10, 3) := by decide +kernel
theorem dX10_reason_36 : decode cX10_reason 36 = .ok (.aload_n 0, 1) := by decide +kernel
theorem dX10_reason_37 : decode cX10_reason 37 = .ok (.getfield 10, 3) := by decide +kernel
theorem dX10_reason_40 : decode cX10_reason 40 = .ok (.getfield 138, 3) := by decide +kernel
theorem dX10_reason_43 : decode cX10_reason 43 = .ok (.invokevirtual 236, 3) := by decide +kernel
theorem dX10_reason_46 : decode cX10_reason 46 = .ok (.ifCond .eq 5, 3) := by decide +kernel
theorem dX10_reason_49 : decode cX10_reason 49 = .ok (.iconst 2, 1) := by decide +kernel
theorem dX10_reason_50 : decode cX10_reason 50 = .ok (.ireturn, 1) := by decide +kernel
theorem dX10_reason_51 : decode cX10_reason 51 = .ok (.aload_n 0, 1) := by decide +kernel
theorem dX10_reason_52 : decode cX10_reason 52 = .ok (.getfield 10, 3) := by decide +kernel
theorem dX10_reason_55 : decode cX10_reason 55 = .ok (.getfield 135, 3) := by decide +kernel
theorem dX10_reason_58 : decode cX10_reason 58 = .ok (.bipush 6, 2) := by decide +kernel
theorem dX10_reason_60 : decode cX10_reason 60 = .ok (.if_icmp .lt 7, 3) := by decide +kernel
theorem dX10_reason_63 : decode cX10_reason 63 = .ok (.iconst 3, 1) := by decide +kernel
theorem dX10_reason_64 : decode cX10_reason 64 = .ok (.goto 4, 3) := by decide +kernel
theorem dX10_reason_67 : decode cX10_reason 67 = .ok (.iconst 0, 1) := by decide +kernel
theorem dX10_reason_68 : decode cX10_reason 68 = .ok (.ireturn, 1) := by decide +kernel
theorem dX10_tell_0 : decode cX10_tell 0 = .ok (.aload_n 0, 1) := by decide +kernel
theorem dX10_tell_1 : decode cX10_tell 1 = .ok (.invokevirtual 240, 3) := by decide +kernel
theorem dX10_tell_4 : decode cX10_tell 4 = .ok (.ifCond .eq 13, 3) := by decide +kernel
theorem dX10_tell_7 : decode cX10_tell 7 = .ok (.new 86, 3) := by decide +kernel
theorem dX10_tell_10 : decode cX10_tell 10 = .ok (.dup, 1) := by decide +kernel
theorem dX10_tell_11 : decode cX10_tell 11 = .ok (.ldc 243, 2) := by decide +kernel
theorem dX10_tell_13 : decode cX10_tell 13 = .ok (.invokespecial 90, 3) := by decide +kernel
theorem dX10_tell_16 : decode cX10_tell 16 = .ok (.athrow, 1) := by decide +kernel
theorem dX10_tell_17 : decode cX10_tell 17 = .ok (.aload_n 0, 1) := by decide +kernel
theorem dX10_tell_18 : decode cX10_tell 18 = .ok (.invokevirtual 109, 3) := by decide +kernel
theorem dX10_tell_21 : decode cX10_tell 21 = .ok (.aload_n 0, 1) := by decide +kernel
theorem dX10_tell_22 : decode cX10_tell 22 = .ok (.getfield 10, 3) := by decide +kernel
theorem dX10_tell_25 : decode cX10_tell 25 = .ok (.aload_n 0, 1) := by decide +kernel
theorem dX10_tell_26 : decode cX10_tell 26 = .ok (.getfield 10, 3) := by decide +kernel
theorem dX10_tell_29 : decode cX10_tell 29 = .ok (.getfield 138, 3) := by decide +kernel
theorem dX10_tell_32 : decode cX10_tell 32 = .ok (.invokevirtual 245, 3) := by decide +kernel
theorem dX10_tell_35 : decode cX10_tell 35 = .ok (.aload_n 0, 1) := by decide +kernel
theorem dX10_tell_36 : decode cX10_tell 36 = .ok (.getfield 10, 3) := by decide +kernel
theorem dX10_tell_39 : decode cX10_tell 39 = .ok (.getfield 138, 3) := by decide +kernel
theorem dX10_tell_42 : decode cX10_tell 42 = .ok (.invokevirtual 249, 3) := by decide +kernel
theorem dX10_tell_45 : decode cX10_tell 45 = .ok (.aload_n 0, 1) := by decide +kernel
theorem dX10_tell_46 : decode cX10_tell 46 = .ok (.getfield 10, 3) := by decide +kernel
theorem dX10_tell_49 : decode cX10_tell 49 = .ok (.getfield 135, 3) := by decide +kernel
theorem dX10_tell_52 : decode cX10_tell 52 = .ok (.iconst 1, 1) := by decide +kernel
theorem dX10_tell_53 : decode cX10_tell 53 = .ok (.isub, 1) := by decide +kernel
theorem dX10_tell_54 : decode cX10_tell 54 = .ok (.ireturn, 1) := by decide +kernel
theorem dX10_forget_0 : decode cX10_forget 0 = .ok (.aload_n 0, 1) := by decide +kernel
theorem dX10_forget_1 : decode cX10_forget 1 = .ok (.iload_n 1, 1) := by decide +kernel
theorem dX10_forget_2 : decode cX10_forget 2 = .ok (.invokevirtual 252, 3) := by decide +kernel
theorem dX10_forget_5 : decode cX10_forget 5 = .ok (.aload_n 0, 1) := by decide +kernel
theorem dX10_forget_6 : decode cX10_forget 6 = .ok (.invokevirtual 109, 3) := by decide +kernel
theorem dX10_forget_9 : decode cX10_forget 9 = .ok (.aload_n 0, 1) := by decide +kernel
theorem dX10_forget_10 : decode cX10_forget 10 = .ok (.getfield 10, 3) := by decide +kernel
theorem dX10_forget_13 : decode cX10_forget 13 = .ok (.iload_n 1, 1) := by decide +kernel
theorem dX10_forget_14 : decode cX10_forget 14 = .ok (.invokevirtual 255, 3) := by decide +kernel
theorem dX10_forget_17 : decode cX10_forget 17 = .ok (.aload_n 0, 1) := by decide +kernel
theorem dX10_forget_18 : decode cX10_forget 18 = .ok (.getfield 10, 3) := by decide +kernel
theorem dX10_forget_21 : decode cX10_forget 21 = .ok (.getfield 135, 3) := by decide +kernel
theorem dX10_forget_24 : decode cX10_forget 24 = .ok (.ireturn, 1) := by decide +kernel
theorem dX10_routeArc_0 : decode cX10_routeArc 0 = .ok (.aload_n 0, 1) := by decide +kernel
theorem dX10_routeArc_1 : decode cX10_routeArc 1 = .ok (.iload_n 1, 1) := by decide +kernel
theorem dX10_routeArc_2 : decode cX10_routeArc 2 = .ok (.invokevirtual 252, 3) := by decide +kernel
theorem dX10_routeArc_5 : decode cX10_routeArc 5 = .ok (.aload_n 0, 1) := by decide +kernel
theorem dX10_routeArc_6 : decode cX10_routeArc 6 = .ok (.getfield 10, 3) := by decide +kernel
theorem dX10_routeArc_9 : decode cX10_routeArc 9 = .ok (.getfield 258, 3) := by decide +kernel
theorem dX10_routeArc_12 : decode cX10_routeArc 12 = .ok (.iload_n 1, 1) := by decide +kernel
theorem dX10_routeArc_13 : decode cX10_routeArc 13 = .ok (.aaload, 1) := by decide +kernel
theorem dX10_routeArc_14 : decode cX10_routeArc 14 = .ok (.iload_n 2, 1) := by decide +kernel
theorem dX10_routeArc_15 : decode cX10_routeArc 15 = .ok (.invokestatic 262, 3) := by decide +kernel
theorem dX10_routeArc_18 : decode cX10_routeArc 18 = .ok (.ireturn, 1) := by decide +kernel
theorem dX10_route_0 : decode cX10_route 0 = .ok (.aload_n 0, 1) := by decide +kernel
theorem dX10_route_1 : decode cX10_route 1 = .ok (.iload_n 1, 1) := by decide +kernel
theorem dX10_route_2 : decode cX10_route 2 = .ok (.invokevirtual 252, 3) := by decide +kernel
theorem dX10_route_5 : decode cX10_route 5 = .ok (.iload_n 2, 1) := by decide +kernel
theorem dX10_route_6 : decode cX10_route 6 = .ok (.ifCond .lt 9, 3) := by decide +kernel
theorem dX10_route_9 : decode cX10_route 9 = .ok (.iload_n 2, 1) := by decide +kernel
theorem dX10_route_10 : decode cX10_route 10 = .ok (.bipush 7, 2) := by decide +kernel
theorem dX10_route_12 : decode cX10_route 12 = .ok (.if_icmp .le 14, 3) := by decide +kernel
theorem dX10_route_15 : decode cX10_route 15 = .ok (.new 97, 3) := by decide +kernel
theorem dX10_route_18 : decode cX10_route 18 = .ok (.dup, 1) := by decide +kernel
theorem dX10_route_19 : decode cX10_route 19 = .ok (.ldc_w 266, 3) := by decide +kernel
theorem dX10_route_22 : decode cX10_route 22 = .ok (.invokespecial 101, 3) := by decide +kernel
theorem dX10_route_25 : decode cX10_route 25 = .ok (.athrow, 1) := by decide +kernel
theorem dX10_route_26 : decode cX10_route 26 = .ok (.iload_n 2, 1) := by decide +kernel
theorem dX10_route_27 : decode cX10_route 27 = .ok (.bipush 6, 2) := by decide +kernel
theorem dX10_route_29 : decode cX10_route 29 = .ok (.if_icmp .ne 20, 3) := by decide +kernel
theorem dX10_route_32 : decode cX10_route 32 = .ok (.aload_n 0, 1) := by decide +kernel
theorem dX10_route_33 : decode cX10_route 33 = .ok (.getfield 55, 3) := by decide +kernel
theorem dX10_route_36 : decode cX10_route 36 = .ok (.aload_n 0, 1) := by decide +kernel
theorem dX10_route_37 : decode cX10_route 37 = .ok (.getfield 10, 3) := by decide +kernel
theorem dX10_route_40 : decode cX10_route 40 = .ok (.getfield 258, 3) := by decide +kernel
theorem dX10_route_43 : decode cX10_route 43 = .ok (.iload_n 1, 1) := by decide +kernel
theorem dX10_route_44 : decode cX10_route 44 = .ok (.aaload, 1) := by decide +kernel
theorem dX10_route_45 : decode cX10_route 45 = .ok (.invokevirtual 268, 3) := by decide +kernel
theorem dX10_route_48 : decode cX10_route 48 = .ok (.ireturn, 1) := by decide +kernel
theorem dX10_route_49 : decode cX10_route 49 = .ok (.iload_n 2, 1) := by decide +kernel
theorem dX10_route_50 : decode cX10_route 50 = .ok (.bipush 7, 2) := by decide +kernel
theorem dX10_route_52 : decode cX10_route 52 = .ok (.if_icmp .ne 20, 3) := by decide +kernel
theorem dX10_route_55 : decode cX10_route 55 = .ok (.aload_n 0, 1) := by decide +kernel
theorem dX10_route_56 : decode cX10_route 56 = .ok (.getfield 55, 3) := by decide +kernel
theorem dX10_route_59 : decode cX10_route 59 = .ok (.aload_n 0, 1) := by decide +kernel
theorem dX10_route_60 : decode cX10_route 60 = .ok (.getfield 10, 3) := by decide +kernel
theorem dX10_route_63 : decode cX10_route 63 = .ok (.getfield 258, 3) := by decide +kernel
theorem dX10_route_66 : decode cX10_route 66 = .ok (.iload_n 1, 1) := by decide +kernel
theorem dX10_route_67 : decode cX10_route 67 = .ok (.aaload, 1) := by decide +kernel
theorem dX10_route_68 : decode cX10_route 68 = .ok (.invokevirtual 271, 3) := by decide +kernel
theorem dX10_route_71 : decode cX10_route 71 = .ok (.ireturn, 1) := by decide +kernel
theorem dX10_route_72 : decode cX10_route 72 = .ok (.aload_n 0, 1) := by decide +kernel
theorem dX10_route_73 : decode cX10_route 73 = .ok (.aload_n 0, 1) := by decide +kernel
theorem dX10_route_74 : decode cX10_route 74 = .ok (.getfield 10, 3) := by decide +kernel
theorem dX10_route_77 : decode cX10_route 77 = .ok (.getfield 258, 3) := by decide +kernel
theorem dX10_route_80 : decode cX10_route 80 = .ok (.iload_n 1, 1) := by decide +kernel
theorem dX10_route_81 : decode cX10_route 81 = .ok (.aaload, 1) := by decide +kernel
theorem dX10_route_82 : decode cX10_route 82 = .ok (.iload_n 2, 1) := by decide +kernel
theorem dX10_route_83 : decode cX10_route 83 = .ok (.invokevirtual 274, 3) := by decide +kernel
theorem dX10_route_86 : decode cX10_route 86 = .ok (.ireturn, 1) := by decide +kernel
theorem dX10_cost_0 : decode cX10_cost 0 = .ok (.aload_n 0, 1) := by decide +kernel
theorem dX10_cost_1 : decode cX10_cost 1 = .ok (.iload_n 1, 1) := by decide +kernel
theorem dX10_cost_2 : decode cX10_cost 2 = .ok (.invokevirtual 252, 3) := by decide +kernel
theorem dX10_cost_5 : decode cX10_cost 5 = .ok (.aload_n 0, 1) := by decide +kernel
theorem dX10_cost_6 : decode cX10_cost 6 = .ok (.getfield 10, 3) := by decide +kernel
theorem dX10_cost_9 : decode cX10_cost 9 = .ok (.getfield 39, 3) := by decide +kernel
theorem dX10_cost_12 : decode cX10_cost 12 = .ok (.aload_n 0, 1) := by decide +kernel
theorem dX10_cost_13 : decode cX10_cost 13 = .ok (.getfield 10, 3) := by decide +kernel
theorem dX10_cost_16 : decode cX10_cost 16 = .ok (.getfield 258, 3) := by decide +kernel
theorem dX10_cost_19 : decode cX10_cost 19 = .ok (.iload_n 1, 1) := by decide +kernel
theorem dX10_cost_20 : decode cX10_cost 20 = .ok (.aaload, 1) := by decide +kernel
theorem dX10_cost_21 : decode cX10_cost 21 = .ok (.iload_n 2, 1) := by decide +kernel
theorem dX10_cost_22 : decode cX10_cost 22 = .ok (.invokevirtual 277, 3) := by decide +kernel
theorem dX10_cost_25 : decode cX10_cost 25 = .ok (.ireturn, 1) := by decide +kernel
theorem dX10_chosen_0 : decode cX10_chosen 0 = .ok (.aload_n 0, 1) := by decide +kernel
theorem dX10_chosen_1 : decode cX10_chosen 1 = .ok (.getfield 10, 3) := by decide +kernel
theorem dX10_chosen_4 : decode cX10_chosen 4 = .ok (.getfield 135, 3) := by decide +kernel
theorem dX10_chosen_7 : decode cX10_chosen 7 = .ok (.ifCond .ne 14, 3) := by decide +kernel
theorem dX10_chosen_10 : decode cX10_chosen 10 = .ok (.new 280, 3) := by decide +kernel
theorem dX10_chosen_13 : decode cX10_chosen 13 = .ok (.dup, 1) := by decide +kernel
theorem dX10_chosen_14 : decode cX10_chosen 14 = .ok (.ldc_w 282, 3) := by decide +kernel
theorem dX10_chosen_17 : decode cX10_chosen 17 = .ok (.invokespecial 284, 3) := by decide +kernel
theorem dX10_chosen_20 : decode cX10_chosen 20 = .ok (.athrow, 1) := by decide +kernel
theorem dX10_chosen_21 : decode cX10_chosen 21 = .ok (.aload_n 0, 1) := by decide +kernel
theorem dX10_chosen_22 : decode cX10_chosen 22 = .ok (.getfield 55, 3) := by decide +kernel
theorem dX10_chosen_25 : decode cX10_chosen 25 = .ok (.invokevirtual 285, 3) := by decide +kernel
theorem dX10_chosen_28 : decode cX10_chosen 28 = .ok (.ireturn, 1) := by decide +kernel
theorem dX10_beats_0 : decode cX10_beats 0 = .ok (.aload_n 0, 1) := by decide +kernel
theorem dX10_beats_1 : decode cX10_beats 1 = .ok (.iload_n 1, 1) := by decide +kernel
theorem dX10_beats_2 : decode cX10_beats 2 = .ok (.invokevirtual 252, 3) := by decide +kernel
theorem dX10_beats_5 : decode cX10_beats 5 = .ok (.aload_n 0, 1) := by decide +kernel
theorem dX10_beats_6 : decode cX10_beats 6 = .ok (.iload_n 2, 1) := by decide +kernel
theorem dX10_beats_7 : decode cX10_beats 7 = .ok (.invokevirtual 252, 3) := by decide +kernel
theorem dX10_beats_10 : decode cX10_beats 10 = .ok (.aload_n 0, 1) := by decide +kernel
theorem dX10_beats_11 : decode cX10_beats 11 = .ok (.getfield 55, 3) := by decide +kernel
theorem dX10_beats_14 : decode cX10_beats 14 = .ok (.aload_n 0, 1) := by decide +kernel
theorem dX10_beats_15 : decode cX10_beats 15 = .ok (.getfield 10, 3) := by decide +kernel
theorem dX10_beats_18 : decode cX10_beats 18 = .ok (.getfield 258, 3) := by decide +kernel
theorem dX10_beats_21 : decode cX10_beats 21 = .ok (.iload_n 1, 1) := by decide +kernel
theorem dX10_beats_22 : decode cX10_beats 22 = .ok (.aaload, 1) := by decide +kernel
theorem dX10_beats_23 : decode cX10_beats 23 = .ok (.aload_n 0, 1) := by decide +kernel
theorem dX10_beats_24 : decode cX10_beats 24 = .ok (.getfield 10, 3) := by decide +kernel
theorem dX10_beats_27 : decode cX10_beats 27 = .ok (.getfield 258, 3) := by decide +kernel
theorem dX10_beats_30 : decode cX10_beats 30 = .ok (.iload_n 2, 1) := by decide +kernel
theorem dX10_beats_31 : decode cX10_beats 31 = .ok (.aaload, 1) := by decide +kernel
theorem dX10_beats_32 : decode cX10_beats 32 = .ok (.invokevirtual 288, 3) := by decide +kernel
theorem dX10_beats_35 : decode cX10_beats 35 = .ok (.ireturn, 1) := by decide +kernel
theorem dX10_strain_0 : decode cX10_strain 0 = .ok (.aload_n 0, 1) := by decide +kernel
theorem dX10_strain_1 : decode cX10_strain 1 = .ok (.iload_n 1, 1) := by decide +kernel
theorem dX10_strain_2 : decode cX10_strain 2 = .ok (.invokevirtual 252, 3) := by decide +kernel
theorem dX10_strain_5 : decode cX10_strain 5 = .ok (.aload_n 0, 1) := by decide +kernel
theorem dX10_strain_6 : decode cX10_strain 6 = .ok (.getfield 10, 3) := by decide +kernel
theorem dX10_strain_9 : decode cX10_strain 9 = .ok (.getfield 39, 3) := by decide +kernel
theorem dX10_strain_12 : decode cX10_strain 12 = .ok (.aload_n 0, 1) := by decide +kernel
theorem dX10_strain_13 : decode cX10_strain 13 = .ok (.getfield 10, 3) := by decide +kernel
theorem dX10_strain_16 : decode cX10_strain 16 = .ok (.getfield 258, 3) := by decide +kernel
theorem dX10_strain_19 : decode cX10_strain 19 = .ok (.iload_n 1, 1) := by decide +kernel
theorem dX10_strain_20 : decode cX10_strain 20 = .ok (.aaload, 1) := by decide +kernel
theorem dX10_strain_21 : decode cX10_strain 21 = .ok (.iconst 0, 1) := by decide +kernel
theorem dX10_strain_22 : decode cX10_strain 22 = .ok (.invokevirtual 277, 3) := by decide +kernel
theorem dX10_strain_25 : decode cX10_strain 25 = .ok (.istore_n 2, 1) := by decide +kernel
theorem dX10_strain_26 : decode cX10_strain 26 = .ok (.iload_n 2, 1) := by decide +kernel
theorem dX10_strain_27 : decode cX10_strain 27 = .ok (.ifCond .ne 5, 3) := by decide +kernel
theorem dX10_strain_30 : decode cX10_strain 30 = .ok (.fconst 1, 1) := by decide +kernel
theorem dX10_strain_31 : decode cX10_strain 31 = .ok (.freturn, 1) := by decide +kernel
theorem dX10_strain_32 : decode cX10_strain 32 = .ok (.aload_n 0, 1) := by decide +kernel
theorem dX10_strain_33 : decode cX10_strain 33 = .ok (.getfield 10, 3) := by decide +kernel
theorem dX10_strain_36 : decode cX10_strain 36 = .ok (.getfield 39, 3) := by decide +kernel
theorem dX10_strain_39 : decode cX10_strain 39 = .ok (.aload_n 0, 1) := by decide +kernel
theorem dX10_strain_40 : decode cX10_strain 40 = .ok (.getfield 10, 3) := by decide +kernel
theorem dX10_strain_43 : decode cX10_strain 43 = .ok (.getfield 258, 3) := by decide +kernel
theorem dX10_strain_46 : decode cX10_strain 46 = .ok (.iload_n 1, 1) := by decide +kernel
theorem dX10_strain_47 : decode cX10_strain 47 = .ok (.aaload, 1) := by decide +kernel
theorem dX10_strain_48 : decode cX10_strain 48 = .ok (.invokevirtual 292, 3) := by decide +kernel
theorem dX10_strain_51 : decode cX10_strain 51 = .ok (.i2f, 1) := by decide +kernel
theorem dX10_strain_52 : decode cX10_strain 52 = .ok (.iload_n 2, 1) := by decide +kernel
theorem dX10_strain_53 : decode cX10_strain 53 = .ok (.i2f, 1) := by decide +kernel
theorem dX10_strain_54 : decode cX10_strain 54 = .ok (.fdiv, 1) := by decide +kernel
theorem dX10_strain_55 : decode cX10_strain 55 = .ok (.freturn, 1) := by decide +kernel
theorem dX10_shortest_0 : decode cX10_shortest 0 = .ok (.aload_n 0, 1) := by decide +kernel
theorem dX10_shortest_1 : decode cX10_shortest 1 = .ok (.getfield 55, 3) := by decide +kernel
theorem dX10_shortest_4 : decode cX10_shortest 4 = .ok (.iload_n 1, 1) := by decide +kernel
theorem dX10_shortest_5 : decode cX10_shortest 5 = .ok (.invokevirtual 295, 3) := by decide +kernel
theorem dX10_shortest_8 : decode cX10_shortest 8 = .ok (.istore_n 2, 1) := by decide +kernel
theorem dX10_shortest_9 : decode cX10_shortest 9 = .ok (.iload_n 2, 1) := by decide +kernel
theorem dX10_shortest_10 : decode cX10_shortest 10 = .ok (.iconst (-1), 1) := by decide +kernel
theorem dX10_shortest_11 : decode cX10_shortest 11 = .ok (.if_icmp .ne 14, 3) := by decide +kernel
theorem dX10_shortest_14 : decode cX10_shortest 14 = .ok (.new 280, 3) := by decide +kernel
theorem dX10_shortest_17 : decode cX10_shortest 17 = .ok (.dup, 1) := by decide +kernel
theorem dX10_shortest_18 : decode cX10_shortest 18 = .ok (.ldc_w 299, 3) := by decide +kernel
theorem dX10_shortest_21 : decode cX10_shortest 21 = .ok (.invokespecial 284, 3) := by decide +kernel
theorem dX10_shortest_24 : decode cX10_shortest 24 = .ok (.athrow, 1) := by decide +kernel
theorem dX10_shortest_25 : decode cX10_shortest 25 = .ok (.iload_n 2, 1) := by decide +kernel
theorem dX10_shortest_26 : decode cX10_shortest 26 = .ok (.ireturn, 1) := by decide +kernel
theorem dX10_robust_0 : decode cX10_robust 0 = .ok (.iload_n 1, 1) := by decide +kernel
theorem dX10_robust_1 : decode cX10_robust 1 = .ok (.invokestatic 301, 3) := by decide +kernel
theorem dX10_robust_4 : decode cX10_robust 4 = .ok (.aload_n 0, 1) := by decide +kernel
theorem dX10_robust_5 : decode cX10_robust 5 = .ok (.getfield 64, 3) := by decide +kernel
theorem dX10_robust_8 : decode cX10_robust 8 = .ok (.invokevirtual 304, 3) := by decide +kernel
theorem dX10_robust_11 : decode cX10_robust 11 = .ok (.astore_n 2, 1) := by decide +kernel
theorem dX10_robust_12 : decode cX10_robust 12 = .ok (.aload_n 2, 1) := by decide +kernel
theorem dX10_robust_13 : decode cX10_robust 13 = .ok (.invokestatic 308, 3) := by decide +kernel
theorem dX10_robust_16 : decode cX10_robust 16 = .ok (.aload_n 0, 1) := by decide +kernel
theorem dX10_robust_17 : decode cX10_robust 17 = .ok (.aload_n 2, 1) := by decide +kernel
theorem dX10_robust_18 : decode cX10_robust 18 = .ok (.iload_n 1, 1) := by decide +kernel
theorem dX10_robust_19 : decode cX10_robust 19 = .ok (.invokevirtual 274, 3) := by decide +kernel
theorem dX10_robust_22 : decode cX10_robust 22 = .ok (.ireturn, 1) := by decide +kernel
theorem dX10_calm_0 : decode cX10_calm 0 = .ok (.iload_n 1, 1) := by decide +kernel
theorem dX10_calm_1 : decode cX10_calm 1 = .ok (.invokestatic 301, 3) := by decide +kernel
theorem dX10_calm_4 : decode cX10_calm 4 = .ok (.aload_n 0, 1) := by decide +kernel
theorem dX10_calm_5 : decode cX10_calm 5 = .ok (.getfield 64, 3) := by decide +kernel
theorem dX10_calm_8 : decode cX10_calm 8 = .ok (.invokevirtual 311, 3) := by decide +kernel
theorem dX10_calm_11 : decode cX10_calm 11 = .ok (.astore_n 2, 1) := by decide +kernel
theorem dX10_calm_12 : decode cX10_calm 12 = .ok (.aload_n 2, 1) := by decide +kernel
theorem dX10_calm_13 : decode cX10_calm 13 = .ok (.invokestatic 308, 3) := by decide +kernel
theorem dX10_calm_16 : decode cX10_calm 16 = .ok (.aload_n 0, 1) := by decide +kernel
theorem dX10_calm_17 : decode cX10_calm 17 = .ok (.aload_n 2, 1) := by decide +kernel
theorem dX10_calm_18 : decode cX10_calm 18 = .ok (.iload_n 1, 1) := by decide +kernel
theorem dX10_calm_19 : decode cX10_calm 19 = .ok (.invokevirtual 274, 3) := by decide +kernel
theorem dX10_calm_22 : decode cX10_calm 22 = .ok (.ireturn, 1) := by decide +kernel
theorem dX10_bestArc_0 : decode cX10_bestArc 0 = .ok (.iload_n 1, 1) := by decide +kernel
theorem dX10_bestArc_1 : decode cX10_bestArc 1 = .ok (.ifCond .eq 13, 3) := by decide +kernel
theorem dX10_bestArc_4 : decode cX10_bestArc 4 = .ok (.aload_n 0, 1) := by decide +kernel
theorem dX10_bestArc_5 : decode cX10_bestArc 5 = .ok (.getfield 64, 3) := by decide +kernel
theorem dX10_bestArc_8 : decode cX10_bestArc 8 = .ok (.invokevirtual 311, 3) := by decide +kernel
theorem dX10_bestArc_11 : decode cX10_bestArc 11 = .ok (.goto 10, 3) := by decide +kernel
theorem dX10_bestArc_14 : decode cX10_bestArc 14 = .ok (.aload_n 0, 1) := by decide +kernel
theorem dX10_bestArc_15 : decode cX10_bestArc 15 = .ok (.getfield 64, 3) := by decide +kernel
theorem dX10_bestArc_18 : decode cX10_bestArc 18 = .ok (.invokevirtual 304, 3) := by decide +kernel
theorem dX10_bestArc_21 : decode cX10_bestArc 21 = .ok (.iload_n 2, 1) := by decide +kernel
theorem dX10_bestArc_22 : decode cX10_bestArc 22 = .ok (.invokestatic 262, 3) := by decide +kernel
theorem dX10_bestArc_25 : decode cX10_bestArc 25 = .ok (.ireturn, 1) := by decide +kernel
theorem dX10_within_0 : decode cX10_within 0 = .ok (.aload_n 0, 1) := by decide +kernel
theorem dX10_within_1 : decode cX10_within 1 = .ok (.getfield 46, 3) := by decide +kernel
theorem dX10_within_4 : decode cX10_within 4 = .ok (.iload_n 1, 1) := by decide +kernel
theorem dX10_within_5 : decode cX10_within 5 = .ok (.invokevirtual 314, 3) := by decide +kernel
theorem dX10_within_8 : decode cX10_within 8 = .ok (.ireturn, 1) := by decide +kernel
theorem dX10_value_0 : decode cX10_value 0 = .ok (.aload_n 0, 1) := by decide +kernel
theorem dX10_value_1 : decode cX10_value 1 = .ok (.iload_n 1, 1) := by decide +kernel
theorem dX10_value_2 : decode cX10_value 2 = .ok (.invokevirtual 189, 3) := by decide +kernel
theorem dX10_value_5 : decode cX10_value 5 = .ok (.iload_n 2, 1) := by decide +kernel
theorem dX10_value_6 : decode cX10_value 6 = .ok (.invokestatic 215, 3) := by decide +kernel
theorem dX10_value_9 : decode cX10_value 9 = .ok (.aload_n 0, 1) := by decide +kernel
theorem dX10_value_10 : decode cX10_value 10 = .ok (.getfield 71, 3) := by decide +kernel
theorem dX10_value_13 : decode cX10_value 13 = .ok (.invokevirtual 317, 3) := by decide +kernel
theorem dX10_value_16 : decode cX10_value 16 = .ok (.aload_n 0, 1) := by decide +kernel
theorem dX10_value_17 : decode cX10_value 17 = .ok (.getfield 71, 3) := by decide +kernel
theorem dX10_value_20 : decode cX10_value 20 = .ok (.iload_n 1, 1) := by decide +kernel
theorem dX10_value_21 : decode cX10_value 21 = .ok (.iload_n 2, 1) := by decide +kernel
theorem dX10_value_22 : decode cX10_value 22 = .ok (.invokevirtual 320, 3) := by decide +kernel
theorem dX10_value_25 : decode cX10_value 25 = .ok (.ireturn, 1) := by decide +kernel
theorem dX10_bestNext_0 : decode cX10_bestNext 0 = .ok (.aload_n 0, 1) := by decide +kernel
theorem dX10_bestNext_1 : decode cX10_bestNext 1 = .ok (.iload_n 1, 1) := by decide +kernel
theorem dX10_bestNext_2 : decode cX10_bestNext 2 = .ok (.invokevirtual 189, 3) := by decide +kernel
theorem dX10_bestNext_5 : decode cX10_bestNext 5 = .ok (.iload_n 2, 1) := by decide +kernel
theorem dX10_bestNext_6 : decode cX10_bestNext 6 = .ok (.invokestatic 215, 3) := by decide +kernel
theorem dX10_bestNext_9 : decode cX10_bestNext 9 = .ok (.aload_n 0, 1) := by decide +kernel
theorem dX10_bestNext_10 : decode cX10_bestNext 10 = .ok (.getfield 71, 3) := by decide +kernel
theorem dX10_bestNext_13 : decode cX10_bestNext 13 = .ok (.invokevirtual 317, 3) := by decide +kernel
theorem dX10_bestNext_16 : decode cX10_bestNext 16 = .ok (.aload_n 0, 1) := by decide +kernel
theorem dX10_bestNext_17 : decode cX10_bestNext 17 = .ok (.getfield 71, 3) := by decide +kernel
theorem dX10_bestNext_20 : decode cX10_bestNext 20 = .ok (.iload_n 1, 1) := by decide +kernel
theorem dX10_bestNext_21 : decode cX10_bestNext 21 = .ok (.iload_n 2, 1) := by decide +kernel
theorem dX10_bestNext_22 : decode cX10_bestNext 22 = .ok (.invokevirtual 324, 3) := by decide +kernel
theorem dX10_bestNext_25 : decode cX10_bestNext 25 = .ok (.ireturn, 1) := by decide +kernel
theorem dX10_step_0 : decode cX10_step 0 = .ok (.aload_n 0, 1) := by decide +kernel
theorem dX10_step_1 : decode cX10_step 1 = .ok (.iload_n 1, 1) := by decide +kernel
theorem dX10_step_2 : decode cX10_step 2 = .ok (.invokevirtual 171, 3) := by decide +kernel
theorem dX10_step_5 : decode cX10_step 5 = .ok (.aload_n 0, 1) := by decide +kernel
theorem dX10_step_6 : decode cX10_step 6 = .ok (.getfield 10, 3) := by decide +kernel
theorem dX10_step_9 : decode cX10_step 9 = .ok (.getfield 151, 3) := by decide +kernel
theorem dX10_step_12 : decode cX10_step 12 = .ok (.aload_n 0, 1) := by decide +kernel
theorem dX10_step_13 : decode cX10_step 13 = .ok (.getfield 10, 3) := by decide +kernel
theorem dX10_step_16 : decode cX10_step 16 = .ok (.getfield 39, 3) := by decide +kernel
theorem dX10_step_19 : decode cX10_step 19 = .ok (.iload_n 1, 1) := by decide +kernel
theorem dX10_step_20 : decode cX10_step 20 = .ok (.iload_n 2, 1) := by decide +kernel
theorem dX10_step_21 : decode cX10_step 21 = .ok (.invokevirtual 327, 3) := by decide +kernel
theorem dX10_step_24 : decode cX10_step 24 = .ok (.ifCond .ne 14, 3) := by decide +kernel
theorem dX10_step_27 : decode cX10_step 27 = .ok (.new 86, 3) := by decide +kernel
theorem dX10_step_30 : decode cX10_step 30 = .ok (.dup, 1) := by decide +kernel
theorem dX10_step_31 : decode cX10_step 31 = .ok (.ldc_w 331, 3) := by decide +kernel
theorem dX10_step_34 : decode cX10_step 34 = .ok (.invokespecial 90, 3) := by decide +kernel
theorem dX10_step_37 : decode cX10_step 37 = .ok (.athrow, 1) := by decide +kernel
theorem dX10_step_38 : decode cX10_step 38 = .ok (.aload_n 0, 1) := by decide +kernel
theorem dX10_step_39 : decode cX10_step 39 = .ok (.invokevirtual 109, 3) := by decide +kernel
theorem dX10_step_42 : decode cX10_step 42 = .ok (.aload_n 0, 1) := by decide +kernel
theorem dX10_step_43 : decode cX10_step 43 = .ok (.getfield 10, 3) := by decide +kernel
theorem dX10_step_46 : decode cX10_step 46 = .ok (.getfield 151, 3) := by decide +kernel
theorem dX10_step_49 : decode cX10_step 49 = .ok (.aload_n 0, 1) := by decide +kernel
theorem dX10_step_50 : decode cX10_step 50 = .ok (.getfield 10, 3) := by decide +kernel
theorem dX10_step_53 : decode cX10_step 53 = .ok (.getfield 39, 3) := by decide +kernel
theorem dX10_step_56 : decode cX10_step 56 = .ok (.iload_n 1, 1) := by decide +kernel
theorem dX10_step_57 : decode cX10_step 57 = .ok (.iload_n 2, 1) := by decide +kernel
theorem dX10_step_58 : decode cX10_step 58 = .ok (.invokevirtual 333, 3) := by decide +kernel
theorem dX10_step_61 : decode cX10_step 61 = .ok (.aload_n 0, 1) := by decide +kernel
theorem dX10_step_62 : decode cX10_step 62 = .ok (.getfield 10, 3) := by decide +kernel
theorem dX10_step_65 : decode cX10_step 65 = .ok (.getfield 151, 3) := by decide +kernel
theorem dX10_step_68 : decode cX10_step 68 = .ok (.invokevirtual 160, 3) := by decide +kernel
theorem dX10_step_71 : decode cX10_step 71 = .ok (.ireturn, 1) := by decide +kernel
theorem dX10_restart_0 : decode cX10_restart 0 = .ok (.aload_n 0, 1) := by decide +kernel
theorem dX10_restart_1 : decode cX10_restart 1 = .ok (.getfield 10, 3) := by decide +kernel
theorem dX10_restart_4 : decode cX10_restart 4 = .ok (.getfield 151, 3) := by decide +kernel
theorem dX10_restart_7 : decode cX10_restart 7 = .ok (.getfield 166, 3) := by decide +kernel
theorem dX10_restart_10 : decode cX10_restart 10 = .ok (.istore_n 1, 1) := by decide +kernel
theorem dX10_restart_11 : decode cX10_restart 11 = .ok (.aload_n 0, 1) := by decide +kernel
theorem dX10_restart_12 : decode cX10_restart 12 = .ok (.invokevirtual 109, 3) := by decide +kernel
theorem dX10_restart_15 : decode cX10_restart 15 = .ok (.aload_n 0, 1) := by decide +kernel
theorem dX10_restart_16 : decode cX10_restart 16 = .ok (.getfield 10, 3) := by decide +kernel
theorem dX10_restart_19 : decode cX10_restart 19 = .ok (.getfield 151, 3) := by decide +kernel
theorem dX10_restart_22 : decode cX10_restart 22 = .ok (.aload_n 0, 1) := by decide +kernel
theorem dX10_restart_23 : decode cX10_restart 23 = .ok (.getfield 10, 3) := by decide +kernel
theorem dX10_restart_26 : decode cX10_restart 26 = .ok (.getfield 39, 3) := by decide +kernel
theorem dX10_restart_29 : decode cX10_restart 29 = .ok (.invokevirtual 204, 3) := by decide +kernel
theorem dX10_restart_32 : decode cX10_restart 32 = .ok (.iload_n 1, 1) := by decide +kernel
theorem dX10_restart_33 : decode cX10_restart 33 = .ok (.ireturn, 1) := by decide +kernel
theorem dX10_promise_0 : decode cX10_promise 0 = .ok (.aload_n 0, 1) := by decide +kernel
theorem dX10_promise_1 : decode cX10_promise 1 = .ok (.aload_n 0, 1) := by decide +kernel
theorem dX10_promise_2 : decode cX10_promise 2 = .ok (.getfield 10, 3) := by decide +kernel
theorem dX10_promise_5 : decode cX10_promise 5 = .ok (.getfield 151, 3) := by decide +kernel
theorem dX10_promise_8 : decode cX10_promise 8 = .ok (.getfield 166, 3) := by decide +kernel
theorem dX10_promise_11 : decode cX10_promise 11 = .ok (.invokevirtual 337, 3) := by decide +kernel
theorem dX10_promise_14 : decode cX10_promise 14 = .ok (.ireturn, 1) := by decide +kernel
theorem dX10_grief_0 : decode cX10_grief 0 = .ok (.iload_n 1, 1) := by decide +kernel
theorem dX10_grief_1 : decode cX10_grief 1 = .ok (.ifCond .lt 17, 3) := by decide +kernel
theorem dX10_grief_4 : decode cX10_grief 4 = .ok (.iload_n 1, 1) := by decide +kernel
theorem dX10_grief_5 : decode cX10_grief 5 = .ok (.aload_n 0, 1) := by decide +kernel
theorem dX10_grief_6 : decode cX10_grief 6 = .ok (.getfield 10, 3) := by decide +kernel
theorem dX10_grief_9 : decode cX10_grief 9 = .ok (.getfield 151, 3) := by decide +kernel
theorem dX10_grief_12 : decode cX10_grief 12 = .ok (.getfield 166, 3) := by decide +kernel
theorem dX10_grief_15 : decode cX10_grief 15 = .ok (.if_icmp .lt 14, 3) := by decide +kernel
theorem dX10_grief_18 : decode cX10_grief 18 = .ok (.new 340, 3) := by decide +kernel
theorem dX10_grief_21 : decode cX10_grief 21 = .ok (.dup, 1) := by decide +kernel
theorem dX10_grief_22 : decode cX10_grief 22 = .ok (.ldc_w 342, 3) := by decide +kernel
theorem dX10_grief_25 : decode cX10_grief 25 = .ok (.invokespecial 344, 3) := by decide +kernel
theorem dX10_grief_28 : decode cX10_grief 28 = .ok (.athrow, 1) := by decide +kernel
theorem dX10_grief_29 : decode cX10_grief 29 = .ok (.aload_n 0, 1) := by decide +kernel
theorem dX10_grief_30 : decode cX10_grief 30 = .ok (.iload_n 1, 1) := by decide +kernel
theorem dX10_grief_31 : decode cX10_grief 31 = .ok (.invokevirtual 337, 3) := by decide +kernel
theorem dX10_grief_34 : decode cX10_grief 34 = .ok (.istore_n 2, 1) := by decide +kernel
theorem dX10_grief_35 : decode cX10_grief 35 = .ok (.aload_n 0, 1) := by decide +kernel
theorem dX10_grief_36 : decode cX10_grief 36 = .ok (.iload_n 1, 1) := by decide +kernel
theorem dX10_grief_37 : decode cX10_grief 37 = .ok (.iconst 1, 1) := by decide +kernel
theorem dX10_grief_38 : decode cX10_grief 38 = .ok (.iadd, 1) := by decide +kernel
theorem dX10_grief_39 : decode cX10_grief 39 = .ok (.invokevirtual 337, 3) := by decide +kernel
theorem dX10_grief_42 : decode cX10_grief 42 = .ok (.iload_n 2, 1) := by decide +kernel
theorem dX10_grief_43 : decode cX10_grief 43 = .ok (.isub, 1) := by decide +kernel
theorem dX10_grief_44 : decode cX10_grief 44 = .ok (.ireturn, 1) := by decide +kernel
theorem dX10_writeRoute_0 : decode cX10_writeRoute 0 = .ok (.aload_n 0, 1) := by decide +kernel
theorem dX10_writeRoute_1 : decode cX10_writeRoute 1 = .ok (.iload_n 1, 1) := by decide +kernel
theorem dX10_writeRoute_2 : decode cX10_writeRoute 2 = .ok (.invokevirtual 252, 3) := by decide +kernel
theorem dX10_writeRoute_5 : decode cX10_writeRoute 5 = .ok (.aload_n 0, 1) := by decide +kernel
theorem dX10_writeRoute_6 : decode cX10_writeRoute 6 = .ok (.getfield 10, 3) := by decide +kernel
theorem dX10_writeRoute_9 : decode cX10_writeRoute 9 = .ok (.getfield 258, 3) := by decide +kernel
theorem dX10_writeRoute_12 : decode cX10_writeRoute 12 = .ok (.iload_n 1, 1) := by decide +kernel
theorem dX10_writeRoute_13 : decode cX10_writeRoute 13 = .ok (.aaload, 1) := by decide +kernel
theorem dX10_writeRoute_14 : decode cX10_writeRoute 14 = .ok (.astore_n 2, 1) := by decide +kernel
theorem dX10_writeRoute_15 : decode cX10_writeRoute 15 = .ok (.aload_n 0, 1) := by decide +kernel
theorem dX10_writeRoute_16 : decode cX10_writeRoute 16 = .ok (.getfield 10, 3) := by decide +kernel
theorem dX10_writeRoute_19 : decode cX10_writeRoute 19 = .ok (.getfield 39, 3) := by decide +kernel
theorem dX10_writeRoute_22 : decode cX10_writeRoute 22 = .ok (.aload_n 2, 1) := by decide +kernel
theorem dX10_writeRoute_23 : decode cX10_writeRoute 23 = .ok (.invokevirtual 345, 3) := by decide +kernel
theorem dX10_writeRoute_26 : decode cX10_writeRoute 26 = .ok (.istore_n 3, 1) := by decide +kernel
theorem dX10_writeRoute_27 : decode cX10_writeRoute 27 = .ok (.aload_n 0, 1) := by decide +kernel
theorem dX10_writeRoute_28 : decode cX10_writeRoute 28 = .ok (.iconst 0, 1) := by decide +kernel
theorem dX10_writeRoute_29 : decode cX10_writeRoute 29 = .ok (.putfield 79, 3) := by decide +kernel
theorem dX10_writeRoute_32 : decode cX10_writeRoute 32 = .ok (.aload_n 0, 1) := by decide +kernel
theorem dX10_writeRoute_33 : decode cX10_writeRoute 33 = .ok (.bipush 48, 2) := by decide +kernel
theorem dX10_writeRoute_35 : decode cX10_writeRoute 35 = .ok (.aload_n 0, 1) := by decide +kernel
theorem dX10_writeRoute_36 : decode cX10_writeRoute 36 = .ok (.getfield 10, 3) := by decide +kernel
theorem dX10_writeRoute_39 : decode cX10_writeRoute 39 = .ok (.getfield 39, 3) := by decide +kernel
theorem dX10_writeRoute_42 : decode cX10_writeRoute 42 = .ok (.getfield 126, 3) := by decide +kernel
theorem dX10_writeRoute_45 : decode cX10_writeRoute 45 = .ok (.iadd, 1) := by decide +kernel
theorem dX10_writeRoute_46 : decode cX10_writeRoute 46 = .ok (.invokevirtual 348, 3) := by decide +kernel
theorem dX10_writeRoute_49 : decode cX10_writeRoute 49 = .ok (.iconst 0, 1) := by decide +kernel
theorem dX10_writeRoute_50 : decode cX10_writeRoute 50 = .ok (.istore 4, 2) := by decide +kernel
theorem dX10_writeRoute_52 : decode cX10_writeRoute 52 = .ok (.iload 4, 2) := by decide +kernel
theorem dX10_writeRoute_54 : decode cX10_writeRoute 54 = .ok (.aload_n 2, 1) := by decide +kernel
theorem dX10_writeRoute_55 : decode cX10_writeRoute 55 = .ok (.getfield 142, 3) := by decide +kernel
theorem dX10_writeRoute_58 : decode cX10_writeRoute 58 = .ok (.if_icmp .ge 58, 3) := by decide +kernel
theorem dX10_writeRoute_61 : decode cX10_writeRoute 61 = .ok (.aload_n 2, 1) := by decide +kernel
theorem dX10_writeRoute_62 : decode cX10_writeRoute 62 = .ok (.getfield 351, 3) := by decide +kernel
theorem dX10_writeRoute_65 : decode cX10_writeRoute 65 = .ok (.iload 4, 2) := by decide +kernel
theorem dX10_writeRoute_67 : decode cX10_writeRoute 67 = .ok (.iaload, 1) := by decide +kernel
theorem dX10_writeRoute_68 : decode cX10_writeRoute 68 = .ok (.istore 5, 2) := by decide +kernel
theorem dX10_writeRoute_70 : decode cX10_writeRoute 70 = .ok (.aload_n 0, 1) := by decide +kernel
theorem dX10_writeRoute_71 : decode cX10_writeRoute 71 = .ok (.iload_n 3, 1) := by decide +kernel
theorem dX10_writeRoute_72 : decode cX10_writeRoute 72 = .ok (.iload 5, 2) := by decide +kernel
theorem dX10_writeRoute_74 : decode cX10_writeRoute 74 = .ok (.invokestatic 353, 3) := by decide +kernel
theorem dX10_writeRoute_77 : decode cX10_writeRoute 77 = .ok (.ifCond .eq 8, 3) := by decide +kernel
theorem dX10_writeRoute_80 : decode cX10_writeRoute 80 = .ok (.bipush 43, 2) := by decide +kernel
theorem dX10_writeRoute_82 : decode cX10_writeRoute 82 = .ok (.goto 5, 3) := by decide +kernel
theorem dX10_writeRoute_85 : decode cX10_writeRoute 85 = .ok (.bipush 45, 2) := by decide +kernel
theorem dX10_writeRoute_87 : decode cX10_writeRoute 87 = .ok (.invokevirtual 348, 3) := by decide +kernel
theorem dX10_writeRoute_90 : decode cX10_writeRoute 90 = .ok (.aload_n 0, 1) := by decide +kernel
theorem dX10_writeRoute_91 : decode cX10_writeRoute 91 = .ok (.bipush 48, 2) := by decide +kernel
theorem dX10_writeRoute_93 : decode cX10_writeRoute 93 = .ok (.aload_n 0, 1) := by decide +kernel
theorem dX10_writeRoute_94 : decode cX10_writeRoute 94 = .ok (.getfield 10, 3) := by decide +kernel
theorem dX10_writeRoute_97 : decode cX10_writeRoute 97 = .ok (.getfield 39, 3) := by decide +kernel
theorem dX10_writeRoute_100 : decode cX10_writeRoute 100 = .ok (.getfield 178, 3) := by decide +kernel
theorem dX10_writeRoute_103 : decode cX10_writeRoute 103 = .ok (.iload 5, 2) := by decide +kernel
theorem dX10_writeRoute_105 : decode cX10_writeRoute 105 = .ok (.iaload, 1) := by decide +kernel
theorem dX10_writeRoute_106 : decode cX10_writeRoute 106 = .ok (.iadd, 1) := by decide +kernel
theorem dX10_writeRoute_107 : decode cX10_writeRoute 107 = .ok (.invokevirtual 348, 3) := by decide +kernel
theorem dX10_writeRoute_110 : decode cX10_writeRoute 110 = .ok (.iinc 4 1, 3) := by decide +kernel
theorem dX10_writeRoute_113 : decode cX10_writeRoute 113 = .ok (.goto (-61), 3) := by decide +kernel
theorem dX10_writeRoute_116 : decode cX10_writeRoute 116 = .ok (.aload_n 0, 1) := by decide +kernel
theorem dX10_writeRoute_117 : decode cX10_writeRoute 117 = .ok (.getfield 79, 3) := by decide +kernel
theorem dX10_writeRoute_120 : decode cX10_writeRoute 120 = .ok (.ireturn, 1) := by decide +kernel
theorem dX10_writtenByte_0 : decode cX10_writtenByte 0 = .ok (.iload_n 1, 1) := by decide +kernel
theorem dX10_writtenByte_1 : decode cX10_writtenByte 1 = .ok (.ifCond .lt 11, 3) := by decide +kernel
theorem dX10_writtenByte_4 : decode cX10_writtenByte 4 = .ok (.iload_n 1, 1) := by decide +kernel
theorem dX10_writtenByte_5 : decode cX10_writtenByte 5 = .ok (.aload_n 0, 1) := by decide +kernel
theorem dX10_writtenByte_6 : decode cX10_writtenByte 6 = .ok (.getfield 79, 3) := by decide +kernel
theorem dX10_writtenByte_9 : decode cX10_writtenByte 9 = .ok (.if_icmp .lt 14, 3) := by decide +kernel
theorem dX10_writtenByte_12 : decode cX10_writtenByte 12 = .ok (.new 340, 3) := by decide +kernel
theorem dX10_writtenByte_15 : decode cX10_writtenByte 15 = .ok (.dup, 1) := by decide +kernel
theorem dX10_writtenByte_16 : decode cX10_writtenByte 16 = .ok (.ldc_w 357, 3) := by decide +kernel
theorem dX10_writtenByte_19 : decode cX10_writtenByte 19 = .ok (.invokespecial 344, 3) := by decide +kernel
theorem dX10_writtenByte_22 : decode cX10_writtenByte 22 = .ok (.athrow, 1) := by decide +kernel
theorem dX10_writtenByte_23 : decode cX10_writtenByte 23 = .ok (.aload_n 0, 1) := by decide +kernel
theorem dX10_writtenByte_24 : decode cX10_writtenByte 24 = .ok (.getfield 75, 3) := by decide +kernel
theorem dX10_writtenByte_27 : decode cX10_writtenByte 27 = .ok (.iload_n 1, 1) := by decide +kernel
theorem dX10_writtenByte_28 : decode cX10_writtenByte 28 = .ok (.baload, 1) := by decide +kernel
theorem dX10_writtenByte_29 : decode cX10_writtenByte 29 = .ok (.ireturn, 1) := by decide +kernel
theorem dX10_undo_0 : decode cX10_undo 0 = .ok (.aload_n 0, 1) := by decide +kernel
theorem dX10_undo_1 : decode cX10_undo 1 = .ok (.getfield 23, 3) := by decide +kernel
theorem dX10_undo_4 : decode cX10_undo 4 = .ok (.getfield 359, 3) := by decide +kernel
theorem dX10_undo_7 : decode cX10_undo 7 = .ok (.ifCond .ne 14, 3) := by decide +kernel
theorem dX10_undo_10 : decode cX10_undo 10 = .ok (.new 86, 3) := by decide +kernel
theorem dX10_undo_13 : decode cX10_undo 13 = .ok (.dup, 1) := by decide +kernel
theorem dX10_undo_14 : decode cX10_undo 14 = .ok (.ldc_w 362, 3) := by decide +kernel
theorem dX10_undo_17 : decode cX10_undo 17 = .ok (.invokespecial 90, 3) := by decide +kernel
theorem dX10_undo_20 : decode cX10_undo 20 = .ok (.athrow, 1) := by decide +kernel
theorem dX10_undo_21 : decode cX10_undo 21 = .ok (.aload_n 0, 1) := by decide +kernel
theorem dX10_undo_22 : decode cX10_undo 22 = .ok (.getfield 23, 3) := by decide +kernel
theorem dX10_undo_25 : decode cX10_undo 25 = .ok (.aload_n 0, 1) := by decide +kernel
theorem dX10_undo_26 : decode cX10_undo 26 = .ok (.getfield 10, 3) := by decide +kernel
theorem dX10_undo_29 : decode cX10_undo 29 = .ok (.invokevirtual 364, 3) := by decide +kernel
theorem dX10_undo_32 : decode cX10_undo 32 = .ok (.aload_n 0, 1) := by decide +kernel
theorem dX10_undo_33 : decode cX10_undo 33 = .ok (.invokevirtual 367, 3) := by decide +kernel
theorem dX10_undo_36 : decode cX10_undo 36 = .ok (.aload_n 0, 1) := by decide +kernel
theorem dX10_undo_37 : decode cX10_undo 37 = .ok (.getfield 23, 3) := by decide +kernel
theorem dX10_undo_40 : decode cX10_undo 40 = .ok (.getfield 359, 3) := by decide +kernel
theorem dX10_undo_43 : decode cX10_undo 43 = .ok (.ireturn, 1) := by decide +kernel
theorem dX10_requireNode_0 : decode cX10_requireNode 0 = .ok (.iload_n 1, 1) := by decide +kernel
theorem dX10_requireNode_1 : decode cX10_requireNode 1 = .ok (.ifCond .lt 17, 3) := by decide +kernel
theorem dX10_requireNode_4 : decode cX10_requireNode 4 = .ok (.iload_n 1, 1) := by decide +kernel
theorem dX10_requireNode_5 : decode cX10_requireNode 5 = .ok (.aload_n 0, 1) := by decide +kernel
theorem dX10_requireNode_6 : decode cX10_requireNode 6 = .ok (.getfield 10, 3) := by decide +kernel
theorem dX10_requireNode_9 : decode cX10_requireNode 9 = .ok (.getfield 39, 3) := by decide +kernel
theorem dX10_requireNode_12 : decode cX10_requireNode 12 = .ok (.getfield 123, 3) := by decide +kernel
theorem dX10_requireNode_15 : decode cX10_requireNode 15 = .ok (.if_icmp .lt 14, 3) := by decide +kernel
theorem dX10_requireNode_18 : decode cX10_requireNode 18 = .ok (.new 340, 3) := by decide +kernel
theorem dX10_requireNode_21 : decode cX10_requireNode 21 = .ok (.dup, 1) := by decide +kernel
theorem dX10_requireNode_22 : decode cX10_requireNode 22 = .ok (.ldc_w 370, 3) := by decide +kernel
theorem dX10_requireNode_25 : decode cX10_requireNode 25 = .ok (.invokespecial 344, 3) := by decide +kernel
theorem dX10_requireNode_28 : decode cX10_requireNode 28 = .ok (.athrow, 1) := by decide +kernel
theorem dX10_requireNode_29 : decode cX10_requireNode 29 = .ok (.return_, 1) := by decide +kernel
theorem dX10_requireArc_0 : decode cX10_requireArc 0 = .ok (.iload_n 1, 1) := by decide +kernel
theorem dX10_requireArc_1 : decode cX10_requireArc 1 = .ok (.ifCond .lt 17, 3) := by decide +kernel
theorem dX10_requireArc_4 : decode cX10_requireArc 4 = .ok (.iload_n 1, 1) := by decide +kernel
theorem dX10_requireArc_5 : decode cX10_requireArc 5 = .ok (.aload_n 0, 1) := by decide +kernel
theorem dX10_requireArc_6 : decode cX10_requireArc 6 = .ok (.getfield 10, 3) := by decide +kernel
theorem dX10_requireArc_9 : decode cX10_requireArc 9 = .ok (.getfield 39, 3) := by decide +kernel
theorem dX10_requireArc_12 : decode cX10_requireArc 12 = .ok (.getfield 115, 3) := by decide +kernel
theorem dX10_requireArc_15 : decode cX10_requireArc 15 = .ok (.if_icmp .lt 14, 3) := by decide +kernel
theorem dX10_requireArc_18 : decode cX10_requireArc 18 = .ok (.new 340, 3) := by decide +kernel
theorem dX10_requireArc_21 : decode cX10_requireArc 21 = .ok (.dup, 1) := by decide +kernel
theorem dX10_requireArc_22 : decode cX10_requireArc 22 = .ok (.ldc_w 372, 3) := by decide +kernel
theorem dX10_requireArc_25 : decode cX10_requireArc 25 = .ok (.invokespecial 344, 3) := by decide +kernel
theorem dX10_requireArc_28 : decode cX10_requireArc 28 = .ok (.athrow, 1) := by decide +kernel
theorem dX10_requireArc_29 : decode cX10_requireArc 29 = .ok (.return_, 1) := by decide +kernel
theorem dX10_requireRoute_0 : decode cX10_requireRoute 0 = .ok (.iload_n 1, 1) := by decide +kernel
theorem dX10_requireRoute_1 : decode cX10_requireRoute 1 = .ok (.ifCond .lt 14, 3) := by decide +kernel
theorem dX10_requireRoute_4 : decode cX10_requireRoute 4 = .ok (.iload_n 1, 1) := by decide +kernel
theorem dX10_requireRoute_5 : decode cX10_requireRoute 5 = .ok (.aload_n 0, 1) := by decide +kernel
theorem dX10_requireRoute_6 : decode cX10_requireRoute 6 = .ok (.getfield 10, 3) := by decide +kernel
theorem dX10_requireRoute_9 : decode cX10_requireRoute 9 = .ok (.getfield 135, 3) := by decide +kernel
theorem dX10_requireRoute_12 : decode cX10_requireRoute 12 = .ok (.if_icmp .lt 14, 3) := by decide +kernel
theorem dX10_requireRoute_15 : decode cX10_requireRoute 15 = .ok (.new 340, 3) := by decide +kernel
theorem dX10_requireRoute_18 : decode cX10_requireRoute 18 = .ok (.dup, 1) := by decide +kernel
theorem dX10_requireRoute_19 : decode cX10_requireRoute 19 = .ok (.ldc_w 374, 3) := by decide +kernel
theorem dX10_requireRoute_22 : decode cX10_requireRoute 22 = .ok (.invokespecial 344, 3) := by decide +kernel
theorem dX10_requireRoute_25 : decode cX10_requireRoute 25 = .ok (.athrow, 1) := by decide +kernel
theorem dX10_requireRoute_26 : decode cX10_requireRoute 26 = .ok (.return_, 1) := by decide +kernel
theorem dX10_requireCosts_0 : decode cX10_requireCosts 0 = .ok (.iload_n 0, 1) := by decide +kernel
theorem dX10_requireCosts_1 : decode cX10_requireCosts 1 = .ok (.ifCond .lt 19, 3) := by decide +kernel
theorem dX10_requireCosts_4 : decode cX10_requireCosts 4 = .ok (.iload_n 0, 1) := by decide +kernel
theorem dX10_requireCosts_5 : decode cX10_requireCosts 5 = .ok (.bipush 99, 2) := by decide +kernel
theorem dX10_requireCosts_7 : decode cX10_requireCosts 7 = .ok (.if_icmp .gt 13, 3) := by decide +kernel
theorem dX10_requireCosts_10 : decode cX10_requireCosts 10 = .ok (.iload_n 1, 1) := by decide +kernel
theorem dX10_requireCosts_11 : decode cX10_requireCosts 11 = .ok (.ifCond .lt 9, 3) := by decide +kernel
theorem dX10_requireCosts_14 : decode cX10_requireCosts 14 = .ok (.iload_n 1, 1) := by decide +kernel
theorem dX10_requireCosts_15 : decode cX10_requireCosts 15 = .ok (.bipush 99, 2) := by decide +kernel
theorem dX10_requireCosts_17 : decode cX10_requireCosts 17 = .ok (.if_icmp .le 14, 3) := by decide +kernel
theorem dX10_requireCosts_20 : decode cX10_requireCosts 20 = .ok (.new 97, 3) := by decide +kernel
theorem dX10_requireCosts_23 : decode cX10_requireCosts 23 = .ok (.dup, 1) := by decide +kernel
theorem dX10_requireCosts_24 : decode cX10_requireCosts 24 = .ok (.ldc_w 376, 3) := by decide +kernel
theorem dX10_requireCosts_27 : decode cX10_requireCosts 27 = .ok (.invokespecial 101, 3) := by decide +kernel
theorem dX10_requireCosts_30 : decode cX10_requireCosts 30 = .ok (.athrow, 1) := by decide +kernel
theorem dX10_requireCosts_31 : decode cX10_requireCosts 31 = .ok (.return_, 1) := by decide +kernel
theorem dX10_requireBudget_0 : decode cX10_requireBudget 0 = .ok (.iload_n 0, 1) := by decide +kernel
theorem dX10_requireBudget_1 : decode cX10_requireBudget 1 = .ok (.ifCond .lt 9, 3) := by decide +kernel
theorem dX10_requireBudget_4 : decode cX10_requireBudget 4 = .ok (.iload_n 0, 1) := by decide +kernel
theorem dX10_requireBudget_5 : decode cX10_requireBudget 5 = .ok (.bipush 6, 2) := by decide +kernel
theorem dX10_requireBudget_7 : decode cX10_requireBudget 7 = .ok (.if_icmp .le 14, 3) := by decide +kernel
theorem dX10_requireBudget_10 : decode cX10_requireBudget 10 = .ok (.new 97, 3) := by decide +kernel
theorem dX10_requireBudget_13 : decode cX10_requireBudget 13 = .ok (.dup, 1) := by decide +kernel
theorem dX10_requireBudget_14 : decode cX10_requireBudget 14 = .ok (.ldc_w 378, 3) := by decide +kernel
theorem dX10_requireBudget_17 : decode cX10_requireBudget 17 = .ok (.invokespecial 101, 3) := by decide +kernel
theorem dX10_requireBudget_20 : decode cX10_requireBudget 20 = .ok (.athrow, 1) := by decide +kernel
theorem dX10_requireBudget_21 : decode cX10_requireBudget 21 = .ok (.return_, 1) := by decide +kernel
theorem dX10_requireRouteNumber_0 : decode cX10_requireRouteNumber 0 = .ok (.iload_n 0, 1) := by decide +kernel
theorem dX10_requireRouteNumber_1 : decode cX10_requireRouteNumber 1 = .ok (.ifCond .lt 8, 3) := by decide +kernel
theorem dX10_requireRouteNumber_4 : decode cX10_requireRouteNumber 4 = .ok (.iload_n 0, 1) := by decide +kernel
theorem dX10_requireRouteNumber_5 : decode cX10_requireRouteNumber 5 = .ok (.iconst 5, 1) := by decide +kernel
theorem dX10_requireRouteNumber_6 : decode cX10_requireRouteNumber 6 = .ok (.if_icmp .le 14, 3) := by decide +kernel
theorem dX10_requireRouteNumber_9 : decode cX10_requireRouteNumber 9 = .ok (.new 97, 3) := by decide +kernel
theorem dX10_requireRouteNumber_12 : decode cX10_requireRouteNumber 12 = .ok (.dup, 1) := by decide +kernel
theorem dX10_requireRouteNumber_13 : decode cX10_requireRouteNumber 13 = .ok (.ldc_w 380, 3) := by decide +kernel
theorem dX10_requireRouteNumber_16 : decode cX10_requireRouteNumber 16 = .ok (.invokespecial 101, 3) := by decide +kernel
theorem dX10_requireRouteNumber_19 : decode cX10_requireRouteNumber 19 = .ok (.athrow, 1) := by decide +kernel
theorem dX10_requireRouteNumber_20 : decode cX10_requireRouteNumber 20 = .ok (.return_, 1) := by decide +kernel
theorem dX10_requireSome_0 : decode cX10_requireSome 0 = .ok (.aload_n 0, 1) := by decide +kernel
theorem dX10_requireSome_1 : decode cX10_requireSome 1 = .ok (.getfield 142, 3) := by decide +kernel
theorem dX10_requireSome_4 : decode cX10_requireSome 4 = .ok (.ifCond .ne 14, 3) := by decide +kernel
theorem dX10_requireSome_7 : decode cX10_requireSome 7 = .ok (.new 280, 3) := by decide +kernel
theorem dX10_requireSome_10 : decode cX10_requireSome 10 = .ok (.dup, 1) := by decide +kernel
theorem dX10_requireSome_11 : decode cX10_requireSome 11 = .ok (.ldc_w 299, 3) := by decide +kernel
theorem dX10_requireSome_14 : decode cX10_requireSome 14 = .ok (.invokespecial 284, 3) := by decide +kernel
theorem dX10_requireSome_17 : decode cX10_requireSome 17 = .ok (.athrow, 1) := by decide +kernel
theorem dX10_requireSome_18 : decode cX10_requireSome 18 = .ok (.return_, 1) := by decide +kernel
theorem dX10_beginChange_0 : decode cX10_beginChange 0 = .ok (.aload_n 0, 1) := by decide +kernel
theorem dX10_beginChange_1 : decode cX10_beginChange 1 = .ok (.getfield 23, 3) := by decide +kernel
theorem dX10_beginChange_4 : decode cX10_beginChange 4 = .ok (.aload_n 0, 1) := by decide +kernel
theorem dX10_beginChange_5 : decode cX10_beginChange 5 = .ok (.getfield 10, 3) := by decide +kernel
theorem dX10_beginChange_8 : decode cX10_beginChange 8 = .ok (.invokevirtual 382, 3) := by decide +kernel
theorem dX10_beginChange_11 : decode cX10_beginChange 11 = .ok (.aload_n 0, 1) := by decide +kernel
theorem dX10_beginChange_12 : decode cX10_beginChange 12 = .ok (.invokevirtual 367, 3) := by decide +kernel
theorem dX10_beginChange_15 : decode cX10_beginChange 15 = .ok (.return_, 1) := by decide +kernel
theorem dX10_forgetResults_0 : decode cX10_forgetResults 0 = .ok (.aload_n 0, 1) := by decide +kernel
theorem dX10_forgetResults_1 : decode cX10_forgetResults 1 = .ok (.getfield 64, 3) := by decide +kernel
theorem dX10_forgetResults_4 : decode cX10_forgetResults 4 = .ok (.invokevirtual 385, 3) := by decide +kernel
theorem dX10_forgetResults_7 : decode cX10_forgetResults 7 = .ok (.aload_n 0, 1) := by decide +kernel
theorem dX10_forgetResults_8 : decode cX10_forgetResults 8 = .ok (.getfield 71, 3) := by decide +kernel
theorem dX10_forgetResults_11 : decode cX10_forgetResults 11 = .ok (.invokevirtual 388, 3) := by decide +kernel
theorem dX10_forgetResults_14 : decode cX10_forgetResults 14 = .ok (.return_, 1) := by decide +kernel
theorem dX10_arcAt_0 : decode cX10_arcAt 0 = .ok (.iload_n 1, 1) := by decide +kernel
theorem dX10_arcAt_1 : decode cX10_arcAt 1 = .ok (.ifCond .lt 11, 3) := by decide +kernel
theorem dX10_arcAt_4 : decode cX10_arcAt 4 = .ok (.iload_n 1, 1) := by decide +kernel
theorem dX10_arcAt_5 : decode cX10_arcAt 5 = .ok (.aload_n 0, 1) := by decide +kernel
theorem dX10_arcAt_6 : decode cX10_arcAt 6 = .ok (.getfield 142, 3) := by decide +kernel
theorem dX10_arcAt_9 : decode cX10_arcAt 9 = .ok (.if_icmp .lt 14, 3) := by decide +kernel
theorem dX10_arcAt_12 : decode cX10_arcAt 12 = .ok (.new 340, 3) := by decide +kernel
theorem dX10_arcAt_15 : decode cX10_arcAt 15 = .ok (.dup, 1) := by decide +kernel
theorem dX10_arcAt_16 : decode cX10_arcAt 16 = .ok (.ldc_w 391, 3) := by decide +kernel
theorem dX10_arcAt_19 : decode cX10_arcAt 19 = .ok (.invokespecial 344, 3) := by decide +kernel
theorem dX10_arcAt_22 : decode cX10_arcAt 22 = .ok (.athrow, 1) := by decide +kernel
theorem dX10_arcAt_23 : decode cX10_arcAt 23 = .ok (.aload_n 0, 1) := by decide +kernel
theorem dX10_arcAt_24 : decode cX10_arcAt 24 = .ok (.getfield 351, 3) := by decide +kernel
theorem dX10_arcAt_27 : decode cX10_arcAt 27 = .ok (.iload_n 1, 1) := by decide +kernel
theorem dX10_arcAt_28 : decode cX10_arcAt 28 = .ok (.iaload, 1) := by decide +kernel
theorem dX10_arcAt_29 : decode cX10_arcAt 29 = .ok (.ireturn, 1) := by decide +kernel
theorem dX10_numberOf_0 : decode cX10_numberOf 0 = .ok (.iload_n 2, 1) := by decide +kernel
theorem dX10_numberOf_1 : decode cX10_numberOf 1 = .ok (.tableswitch 86 0 4 #[35, 40, 53, 65, 77], 35) := by decide +kernel
theorem dX10_numberOf_36 : decode cX10_numberOf 36 = .ok (.aload_n 1, 1) := by decide +kernel
theorem dX10_numberOf_37 : decode cX10_numberOf 37 = .ok (.getfield 142, 3) := by decide +kernel
theorem dX10_numberOf_40 : decode cX10_numberOf 40 = .ok (.ireturn, 1) := by decide +kernel
theorem dX10_numberOf_41 : decode cX10_numberOf 41 = .ok (.aload_n 0, 1) := by decide +kernel
theorem dX10_numberOf_42 : decode cX10_numberOf 42 = .ok (.getfield 10, 3) := by decide +kernel
theorem dX10_numberOf_45 : decode cX10_numberOf 45 = .ok (.getfield 39, 3) := by decide +kernel
theorem dX10_numberOf_48 : decode cX10_numberOf 48 = .ok (.aload_n 1, 1) := by decide +kernel
theorem dX10_numberOf_49 : decode cX10_numberOf 49 = .ok (.iconst 0, 1) := by decide +kernel
theorem dX10_numberOf_50 : decode cX10_numberOf 50 = .ok (.invokevirtual 277, 3) := by decide +kernel
theorem dX10_numberOf_53 : decode cX10_numberOf 53 = .ok (.ireturn, 1) := by decide +kernel
theorem dX10_numberOf_54 : decode cX10_numberOf 54 = .ok (.aload_n 0, 1) := by decide +kernel
theorem dX10_numberOf_55 : decode cX10_numberOf 55 = .ok (.getfield 10, 3) := by decide +kernel
theorem dX10_numberOf_58 : decode cX10_numberOf 58 = .ok (.getfield 39, 3) := by decide +kernel
theorem dX10_numberOf_61 : decode cX10_numberOf 61 = .ok (.aload_n 1, 1) := by decide +kernel
theorem dX10_numberOf_62 : decode cX10_numberOf 62 = .ok (.invokevirtual 292, 3) := by decide +kernel
theorem dX10_numberOf_65 : decode cX10_numberOf 65 = .ok (.ireturn, 1) := by decide +kernel
theorem dX10_numberOf_66 : decode cX10_numberOf 66 = .ok (.aload_n 0, 1) := by decide +kernel
theorem dX10_numberOf_67 : decode cX10_numberOf 67 = .ok (.getfield 10, 3) := by decide +kernel
theorem dX10_numberOf_70 : decode cX10_numberOf 70 = .ok (.getfield 39, 3) := by decide +kernel
theorem dX10_numberOf_73 : decode cX10_numberOf 73 = .ok (.aload_n 1, 1) := by decide +kernel
theorem dX10_numberOf_74 : decode cX10_numberOf 74 = .ok (.invokevirtual 345, 3) := by decide +kernel
theorem dX10_numberOf_77 : decode cX10_numberOf 77 = .ok (.ireturn, 1) := by decide +kernel
theorem dX10_numberOf_78 : decode cX10_numberOf 78 = .ok (.aload_n 0, 1) := by decide +kernel
theorem dX10_numberOf_79 : decode cX10_numberOf 79 = .ok (.getfield 55, 3) := by decide +kernel
theorem dX10_numberOf_82 : decode cX10_numberOf 82 = .ok (.aload_n 1, 1) := by decide +kernel
theorem dX10_numberOf_83 : decode cX10_numberOf 83 = .ok (.invokevirtual 393, 3) := by decide +kernel
theorem dX10_numberOf_86 : decode cX10_numberOf 86 = .ok (.ireturn, 1) := by decide +kernel
theorem dX10_numberOf_87 : decode cX10_numberOf 87 = .ok (.aload_n 0, 1) := by decide +kernel
theorem dX10_numberOf_88 : decode cX10_numberOf 88 = .ok (.getfield 55, 3) := by decide +kernel
theorem dX10_numberOf_91 : decode cX10_numberOf 91 = .ok (.aload_n 1, 1) := by decide +kernel
theorem dX10_numberOf_92 : decode cX10_numberOf 92 = .ok (.invokevirtual 396, 3) := by decide +kernel
theorem dX10_numberOf_95 : decode cX10_numberOf 95 = .ok (.ireturn, 1) := by decide +kernel
theorem dX10_promiseBehind_0 : decode cX10_promiseBehind 0 = .ok (.aload_n 0, 1) := by decide +kernel
theorem dX10_promiseBehind_1 : decode cX10_promiseBehind 1 = .ok (.getfield 10, 3) := by decide +kernel
theorem dX10_promiseBehind_4 : decode cX10_promiseBehind 4 = .ok (.getfield 151, 3) := by decide +kernel
theorem dX10_promiseBehind_7 : decode cX10_promiseBehind 7 = .ok (.astore_n 2, 1) := by decide +kernel
theorem dX10_promiseBehind_8 : decode cX10_promiseBehind 8 = .ok (.aload_n 0, 1) := by decide +kernel
theorem dX10_promiseBehind_9 : decode cX10_promiseBehind 9 = .ok (.getfield 71, 3) := by decide +kernel
theorem dX10_promiseBehind_12 : decode cX10_promiseBehind 12 = .ok (.invokevirtual 317, 3) := by decide +kernel
theorem dX10_promiseBehind_15 : decode cX10_promiseBehind 15 = .ok (.aload_n 0, 1) := by decide +kernel
theorem dX10_promiseBehind_16 : decode cX10_promiseBehind 16 = .ok (.getfield 71, 3) := by decide +kernel
theorem dX10_promiseBehind_19 : decode cX10_promiseBehind 19 = .ok (.aload_n 2, 1) := by decide +kernel
theorem dX10_promiseBehind_20 : decode cX10_promiseBehind 20 = .ok (.getfield 399, 3) := by decide +kernel
theorem dX10_promiseBehind_23 : decode cX10_promiseBehind 23 = .ok (.iload_n 1, 1) := by decide +kernel
theorem dX10_promiseBehind_24 : decode cX10_promiseBehind 24 = .ok (.iaload, 1) := by decide +kernel
theorem dX10_promiseBehind_25 : decode cX10_promiseBehind 25 = .ok (.aload_n 2, 1) := by decide +kernel
theorem dX10_promiseBehind_26 : decode cX10_promiseBehind 26 = .ok (.getfield 402, 3) := by decide +kernel
theorem dX10_promiseBehind_29 : decode cX10_promiseBehind 29 = .ok (.iload_n 1, 1) := by decide +kernel
theorem dX10_promiseBehind_30 : decode cX10_promiseBehind 30 = .ok (.iaload, 1) := by decide +kernel
theorem dX10_promiseBehind_31 : decode cX10_promiseBehind 31 = .ok (.invokevirtual 320, 3) := by decide +kernel
theorem dX10_promiseBehind_34 : decode cX10_promiseBehind 34 = .ok (.istore_n 3, 1) := by decide +kernel
theorem dX10_promiseBehind_35 : decode cX10_promiseBehind 35 = .ok (.iload_n 3, 1) := by decide +kernel
theorem dX10_promiseBehind_36 : decode cX10_promiseBehind 36 = .ok (.iconst (-1), 1) := by decide +kernel
theorem dX10_promiseBehind_37 : decode cX10_promiseBehind 37 = .ok (.if_icmp .ne 14, 3) := by decide +kernel
theorem dX10_promiseBehind_40 : decode cX10_promiseBehind 40 = .ok (.new 280, 3) := by decide +kernel
theorem dX10_promiseBehind_43 : decode cX10_promiseBehind 43 = .ok (.dup, 1) := by decide +kernel
theorem dX10_promiseBehind_44 : decode cX10_promiseBehind 44 = .ok (.ldc_w 405, 3) := by decide +kernel
theorem dX10_promiseBehind_47 : decode cX10_promiseBehind 47 = .ok (.invokespecial 284, 3) := by decide +kernel
theorem dX10_promiseBehind_50 : decode cX10_promiseBehind 50 = .ok (.athrow, 1) := by decide +kernel
theorem dX10_promiseBehind_51 : decode cX10_promiseBehind 51 = .ok (.aload_n 2, 1) := by decide +kernel
theorem dX10_promiseBehind_52 : decode cX10_promiseBehind 52 = .ok (.getfield 407, 3) := by decide +kernel
theorem dX10_promiseBehind_55 : decode cX10_promiseBehind 55 = .ok (.iload_n 1, 1) := by decide +kernel
theorem dX10_promiseBehind_56 : decode cX10_promiseBehind 56 = .ok (.iaload, 1) := by decide +kernel
theorem dX10_promiseBehind_57 : decode cX10_promiseBehind 57 = .ok (.iload_n 3, 1) := by decide +kernel
theorem dX10_promiseBehind_58 : decode cX10_promiseBehind 58 = .ok (.iadd, 1) := by decide +kernel
theorem dX10_promiseBehind_59 : decode cX10_promiseBehind 59 = .ok (.ireturn, 1) := by decide +kernel
theorem dX10_writeByte_0 : decode cX10_writeByte 0 = .ok (.aload_n 0, 1) := by decide +kernel
theorem dX10_writeByte_1 : decode cX10_writeByte 1 = .ok (.getfield 79, 3) := by decide +kernel
theorem dX10_writeByte_4 : decode cX10_writeByte 4 = .ok (.aload_n 0, 1) := by decide +kernel
theorem dX10_writeByte_5 : decode cX10_writeByte 5 = .ok (.getfield 75, 3) := by decide +kernel
theorem dX10_writeByte_8 : decode cX10_writeByte 8 = .ok (.arraylength, 1) := by decide +kernel
theorem dX10_writeByte_9 : decode cX10_writeByte 9 = .ok (.if_icmp .ge 24, 3) := by decide +kernel
theorem dX10_writeByte_12 : decode cX10_writeByte 12 = .ok (.aload_n 0, 1) := by decide +kernel
theorem dX10_writeByte_13 : decode cX10_writeByte 13 = .ok (.getfield 75, 3) := by decide +kernel
theorem dX10_writeByte_16 : decode cX10_writeByte 16 = .ok (.aload_n 0, 1) := by decide +kernel
theorem dX10_writeByte_17 : decode cX10_writeByte 17 = .ok (.getfield 79, 3) := by decide +kernel
theorem dX10_writeByte_20 : decode cX10_writeByte 20 = .ok (.iload_n 1, 1) := by decide +kernel
theorem dX10_writeByte_21 : decode cX10_writeByte 21 = .ok (.i2b, 1) := by decide +kernel
theorem dX10_writeByte_22 : decode cX10_writeByte 22 = .ok (.bastore, 1) := by decide +kernel
theorem dX10_writeByte_23 : decode cX10_writeByte 23 = .ok (.aload_n 0, 1) := by decide +kernel
theorem dX10_writeByte_24 : decode cX10_writeByte 24 = .ok (.dup, 1) := by decide +kernel
theorem dX10_writeByte_25 : decode cX10_writeByte 25 = .ok (.getfield 79, 3) := by decide +kernel
theorem dX10_writeByte_28 : decode cX10_writeByte 28 = .ok (.iconst 1, 1) := by decide +kernel
theorem dX10_writeByte_29 : decode cX10_writeByte 29 = .ok (.iadd, 1) := by decide +kernel
theorem dX10_writeByte_30 : decode cX10_writeByte 30 = .ok (.putfield 79, 3) := by decide +kernel
theorem dX10_writeByte_33 : decode cX10_writeByte 33 = .ok (.return_, 1) := by decide +kernel
theorem dX10_isIn_0 : decode cX10_isIn 0 = .ok (.iload_n 0, 1) := by decide +kernel
theorem dX10_isIn_1 : decode cX10_isIn 1 = .ok (.iload_n 1, 1) := by decide +kernel
theorem dX10_isIn_2 : decode cX10_isIn 2 = .ok (.ishr, 1) := by decide +kernel
theorem dX10_isIn_3 : decode cX10_isIn 3 = .ok (.iconst 1, 1) := by decide +kernel
theorem dX10_isIn_4 : decode cX10_isIn 4 = .ok (.iand, 1) := by decide +kernel
theorem dX10_isIn_5 : decode cX10_isIn 5 = .ok (.iconst 1, 1) := by decide +kernel
theorem dX10_isIn_6 : decode cX10_isIn 6 = .ok (.if_icmp .ne 7, 3) := by decide +kernel
theorem dX10_isIn_9 : decode cX10_isIn 9 = .ok (.iconst 1, 1) := by decide +kernel
theorem dX10_isIn_10 : decode cX10_isIn 10 = .ok (.goto 4, 3) := by decide +kernel
theorem dX10_isIn_13 : decode cX10_isIn 13 = .ok (.iconst 0, 1) := by decide +kernel
theorem dX10_isIn_14 : decode cX10_isIn 14 = .ok (.ireturn, 1) := by decide +kernel
theorem dX11_init_0 : decode cX11_init 0 = .ok (.aload_n 0, 1) := by decide +kernel
theorem dX11_init_1 : decode cX11_init 1 = .ok (.invokespecial 1, 3) := by decide +kernel
theorem dX11_init_4 : decode cX11_init 4 = .ok (.aload_n 0, 1) := by decide +kernel
theorem dX11_init_5 : decode cX11_init 5 = .ok (.sipush 150, 3) := by decide +kernel
theorem dX11_init_8 : decode cX11_init 8 = .ok (.newarray .int, 2) := by decide +kernel
theorem dX11_init_10 : decode cX11_init 10 = .ok (.putfield 7, 3) := by decide +kernel
theorem dX11_init_13 : decode cX11_init 13 = .ok (.aload_n 0, 1) := by decide +kernel
theorem dX11_init_14 : decode cX11_init 14 = .ok (.sipush 150, 3) := by decide +kernel
theorem dX11_init_17 : decode cX11_init 17 = .ok (.newarray .int, 2) := by decide +kernel
theorem dX11_init_19 : decode cX11_init 19 = .ok (.putfield 13, 3) := by decide +kernel
theorem dX11_init_22 : decode cX11_init 22 = .ok (.aload_n 0, 1) := by decide +kernel
theorem dX11_init_23 : decode cX11_init 23 = .ok (.sipush 1200, 3) := by decide +kernel
theorem dX11_init_26 : decode cX11_init 26 = .ok (.newarray .int, 2) := by decide +kernel
theorem dX11_init_28 : decode cX11_init 28 = .ok (.putfield 16, 3) := by decide +kernel
theorem dX11_init_31 : decode cX11_init 31 = .ok (.aload_n 0, 1) := by decide +kernel
theorem dX11_init_32 : decode cX11_init 32 = .ok (.sipush 600, 3) := by decide +kernel
theorem dX11_init_35 : decode cX11_init 35 = .ok (.newarray .int, 2) := by decide +kernel
theorem dX11_init_37 : decode cX11_init 37 = .ok (.putfield 19, 3) := by decide +kernel
theorem dX11_init_40 : decode cX11_init 40 = .ok (.aload_n 0, 1) := by decide +kernel
theorem dX11_init_41 : decode cX11_init 41 = .ok (.iconst (-1), 1) := by decide +kernel
theorem dX11_init_42 : decode cX11_init 42 = .ok (.putfield 22, 3) := by decide +kernel
theorem dX11_init_45 : decode cX11_init 45 = .ok (.aload_n 0, 1) := by decide +kernel
theorem dX11_init_46 : decode cX11_init 46 = .ok (.bipush 8, 2) := by decide +kernel
theorem dX11_init_48 : decode cX11_init 48 = .ok (.newarray .int, 2) := by decide +kernel
theorem dX11_init_50 : decode cX11_init 50 = .ok (.putfield 26, 3) := by decide +kernel
theorem dX11_init_53 : decode cX11_init 53 = .ok (.aload_n 0, 1) := by decide +kernel
theorem dX11_init_54 : decode cX11_init 54 = .ok (.bipush 8, 2) := by decide +kernel
theorem dX11_init_56 : decode cX11_init 56 = .ok (.newarray .int, 2) := by decide +kernel
theorem dX11_init_58 : decode cX11_init 58 = .ok (.putfield 29, 3) := by decide +kernel
theorem dX11_init_61 : decode cX11_init 61 = .ok (.aload_n 0, 1) := by decide +kernel
theorem dX11_init_62 : decode cX11_init 62 = .ok (.bipush 8, 2) := by decide +kernel
theorem dX11_init_64 : decode cX11_init 64 = .ok (.newarray .int, 2) := by decide +kernel
theorem dX11_init_66 : decode cX11_init 66 = .ok (.putfield 32, 3) := by decide +kernel
theorem dX11_init_69 : decode cX11_init 69 = .ok (.aload_n 0, 1) := by decide +kernel
theorem dX11_init_70 : decode cX11_init 70 = .ok (.bipush 56, 2) := by decide +kernel
theorem dX11_init_72 : decode cX11_init 72 = .ok (.newarray .int, 2) := by decide +kernel
theorem dX11_init_74 : decode cX11_init 74 = .ok (.putfield 35, 3) := by decide +kernel
theorem dX11_init_77 : decode cX11_init 77 = .ok (.aload_n 0, 1) := by decide +kernel
theorem dX11_init_78 : decode cX11_init 78 = .ok (.bipush 56, 2) := by decide +kernel
theorem dX11_init_80 : decode cX11_init 80 = .ok (.newarray .int, 2) := by decide +kernel
theorem dX11_init_82 : decode cX11_init 82 = .ok (.putfield 38, 3) := by decide +kernel
theorem dX11_init_85 : decode cX11_init 85 = .ok (.aload_n 0, 1) := by decide +kernel
theorem dX11_init_86 : decode cX11_init 86 = .ok (.bipush 20, 2) := by decide +kernel
theorem dX11_init_88 : decode cX11_init 88 = .ok (.newarray .int, 2) := by decide +kernel
theorem dX11_init_90 : decode cX11_init 90 = .ok (.putfield 41, 3) := by decide +kernel
theorem dX11_init_93 : decode cX11_init 93 = .ok (.aload_n 0, 1) := by decide +kernel
theorem dX11_init_94 : decode cX11_init 94 = .ok (.iconst 2, 1) := by decide +kernel
theorem dX11_init_95 : decode cX11_init 95 = .ok (.iconst 0, 1) := by decide +kernel
theorem dX11_init_96 : decode cX11_init 96 = .ok (.iconst 1, 1) := by decide +kernel
theorem dX11_init_97 : decode cX11_init 97 = .ok (.invokevirtual 44, 3) := by decide +kernel
theorem dX11_init_100 : decode cX11_init 100 = .ok (.aload_n 0, 1) := by decide +kernel
theorem dX11_init_101 : decode cX11_init 101 = .ok (.aload_n 0, 1) := by decide +kernel
theorem dX11_init_102 : decode cX11_init 102 = .ok (.getfield 13, 3) := by decide +kernel
theorem dX11_init_105 : decode cX11_init 105 = .ok (.iconst 0, 1) := by decide +kernel
theorem dX11_init_106 : decode cX11_init 106 = .ok (.invokevirtual 48, 3) := by decide +kernel
theorem dX11_init_109 : decode cX11_init 109 = .ok (.return_, 1) := by decide +kernel
theorem dX11_begins_0 : decode cX11_begins 0 = .ok (.iconst 0, 1) := by decide +kernel
theorem dX11_begins_1 : decode cX11_begins 1 = .ok (.istore 4, 2) := by decide +kernel
theorem dX11_begins_3 : decode cX11_begins 3 = .ok (.iload 4, 2) := by decide +kernel
theorem dX11_begins_5 : decode cX11_begins 5 = .ok (.sipush 150, 3) := by decide +kernel
theorem dX11_begins_8 : decode cX11_begins 8 = .ok (.if_icmp .ge 17, 3) := by decide +kernel
theorem dX11_begins_11 : decode cX11_begins 11 = .ok (.aload_n 0, 1) := by decide +kernel
theorem dX11_begins_12 : decode cX11_begins 12 = .ok (.getfield 13, 3) := by decide +kernel
theorem dX11_begins_15 : decode cX11_begins 15 = .ok (.iload 4, 2) := by decide +kernel
theorem dX11_begins_17 : decode cX11_begins 17 = .ok (.iconst 0, 1) := by decide +kernel
theorem dX11_begins_18 : decode cX11_begins 18 = .ok (.iastore, 1) := by decide +kernel
theorem dX11_begins_19 : decode cX11_begins 19 = .ok (.iinc 4 1, 3) := by decide +kernel
theorem dX11_begins_22 : decode cX11_begins 22 = .ok (.goto (-19), 3) := by decide +kernel
theorem dX11_begins_25 : decode cX11_begins 25 = .ok (.aload_n 0, 1) := by decide +kernel
theorem dX11_begins_26 : decode cX11_begins 26 = .ok (.getfield 13, 3) := by decide +kernel
theorem dX11_begins_29 : decode cX11_begins 29 = .ok (.iconst 0, 1) := by decide +kernel
theorem dX11_begins_30 : decode cX11_begins 30 = .ok (.iload_n 1, 1) := by decide +kernel
theorem dX11_begins_31 : decode cX11_begins 31 = .ok (.iastore, 1) := by decide +kernel
theorem dX11_begins_32 : decode cX11_begins 32 = .ok (.aload_n 0, 1) := by decide +kernel
theorem dX11_begins_33 : decode cX11_begins 33 = .ok (.getfield 13, 3) := by decide +kernel
theorem dX11_begins_36 : decode cX11_begins 36 = .ok (.iconst 1, 1) := by decide +kernel
theorem dX11_begins_37 : decode cX11_begins 37 = .ok (.iload_n 2, 1) := by decide +kernel
theorem dX11_begins_38 : decode cX11_begins 38 = .ok (.iastore, 1) := by decide +kernel
theorem dX11_begins_39 : decode cX11_begins 39 = .ok (.aload_n 0, 1) := by decide +kernel
theorem dX11_begins_40 : decode cX11_begins 40 = .ok (.getfield 13, 3) := by decide +kernel
theorem dX11_begins_43 : decode cX11_begins 43 = .ok (.iconst 2, 1) := by decide +kernel
theorem dX11_begins_44 : decode cX11_begins 44 = .ok (.iload_n 3, 1) := by decide +kernel
theorem dX11_begins_45 : decode cX11_begins 45 = .ok (.iastore, 1) := by decide +kernel
theorem dX11_begins_46 : decode cX11_begins 46 = .ok (.aload_n 0, 1) := by decide +kernel
theorem dX11_begins_47 : decode cX11_begins 47 = .ok (.getfield 13, 3) := by decide +kernel
theorem dX11_begins_50 : decode cX11_begins 50 = .ok (.iconst 3, 1) := by decide +kernel
theorem dX11_begins_51 : decode cX11_begins 51 = .ok (.iconst 2, 1) := by decide +kernel
theorem dX11_begins_52 : decode cX11_begins 52 = .ok (.iastore, 1) := by decide +kernel
theorem dX11_begins_53 : decode cX11_begins 53 = .ok (.aload_n 0, 1) := by decide +kernel
theorem dX11_begins_54 : decode cX11_begins 54 = .ok (.getfield 13, 3) := by decide +kernel
theorem dX11_begins_57 : decode cX11_begins 57 = .ok (.invokestatic 52, 3) := by decide +kernel
theorem dX11_begins_60 : decode cX11_begins 60 = .ok (.return_, 1) := by decide +kernel
theorem dX11_setsOut_0 : decode cX11_setsOut 0 = .ok (.aload_n 0, 1) := by decide +kernel
theorem dX11_setsOut_1 : decode cX11_setsOut 1 = .ok (.bipush 126, 2) := by decide +kernel
theorem dX11_setsOut_3 : decode cX11_setsOut 3 = .ok (.aload_n 0, 1) := by decide +kernel
theorem dX11_setsOut_4 : decode cX11_setsOut 4 = .ok (.iconst 1, 1) := by decide +kernel
theorem dX11_setsOut_5 : decode cX11_setsOut 5 = .ok (.iaload, 1) := by decide +kernel
theorem dX11_setsOut_6 : decode cX11_setsOut 6 = .ok (.iastore, 1) := by decide +kernel
theorem dX11_setsOut_7 : decode cX11_setsOut 7 = .ok (.aload_n 0, 1) := by decide +kernel
theorem dX11_setsOut_8 : decode cX11_setsOut 8 = .ok (.bipush 127, 2) := by decide +kernel
theorem dX11_setsOut_10 : decode cX11_setsOut 10 = .ok (.iconst 0, 1) := by decide +kernel
theorem dX11_setsOut_11 : decode cX11_setsOut 11 = .ok (.iastore, 1) := by decide +kernel
theorem dX11_setsOut_12 : decode cX11_setsOut 12 = .ok (.aload_n 0, 1) := by decide +kernel
theorem dX11_setsOut_13 : decode cX11_setsOut 13 = .ok (.sipush 128, 3) := by decide +kernel
theorem dX11_setsOut_16 : decode cX11_setsOut 16 = .ok (.aload_n 0, 1) := by decide +kernel
theorem dX11_setsOut_17 : decode cX11_setsOut 17 = .ok (.iconst 3, 1) := by decide +kernel
theorem dX11_setsOut_18 : decode cX11_setsOut 18 = .ok (.iaload, 1) := by decide +kernel
theorem dX11_setsOut_19 : decode cX11_setsOut 19 = .ok (.iastore, 1) := by decide +kernel
theorem dX11_setsOut_20 : decode cX11_setsOut 20 = .ok (.aload_n 0, 1) := by decide +kernel
theorem dX11_setsOut_21 : decode cX11_setsOut 21 = .ok (.sipush 129, 3) := by decide +kernel
theorem dX11_setsOut_24 : decode cX11_setsOut 24 = .ok (.iconst 0, 1) := by decide +kernel
theorem dX11_setsOut_25 : decode cX11_setsOut 25 = .ok (.iastore, 1) := by decide +kernel
theorem dX11_setsOut_26 : decode cX11_setsOut 26 = .ok (.return_, 1) := by decide +kernel
theorem dX11_becomes_0 : decode cX11_becomes 0 = .ok (.iconst 0, 1) := by decide +kernel
theorem dX11_becomes_1 : decode cX11_becomes 1 = .ok (.istore_n 3, 1) := by decide +kernel
theorem dX11_becomes_2 : decode cX11_becomes 2 = .ok (.iload_n 3, 1) := by decide +kernel
theorem dX11_becomes_3 : decode cX11_becomes 3 = .ok (.sipush 150, 3) := by decide +kernel
theorem dX11_becomes_6 : decode cX11_becomes 6 = .ok (.if_icmp .ge 20, 3) := by decide +kernel
theorem dX11_becomes_9 : decode cX11_becomes 9 = .ok (.aload_n 0, 1) := by decide +kernel
theorem dX11_becomes_10 : decode cX11_becomes 10 = .ok (.getfield 7, 3) := by decide +kernel
theorem dX11_becomes_13 : decode cX11_becomes 13 = .ok (.iload_n 3, 1) := by decide +kernel
theorem dX11_becomes_14 : decode cX11_becomes 14 = .ok (.aload_n 1, 1) := by decide +kernel
theorem dX11_becomes_15 : decode cX11_becomes 15 = .ok (.iload_n 2, 1) := by decide +kernel
theorem dX11_becomes_16 : decode cX11_becomes 16 = .ok (.iload_n 3, 1) := by decide +kernel
theorem dX11_becomes_17 : decode cX11_becomes 17 = .ok (.iadd, 1) := by decide +kernel
theorem dX11_becomes_18 : decode cX11_becomes 18 = .ok (.iaload, 1) := by decide +kernel
theorem dX11_becomes_19 : decode cX11_becomes 19 = .ok (.iastore, 1) := by decide +kernel
theorem dX11_becomes_20 : decode cX11_becomes 20 = .ok (.iinc 3 1, 3) := by decide +kernel
theorem dX11_becomes_23 : decode cX11_becomes 23 = .ok (.goto (-21), 3) := by decide +kernel
theorem dX11_becomes_26 : decode cX11_becomes 26 = .ok (.return_, 1) := by decide +kernel
theorem dX11_thrown_0 : decode cX11_thrown 0 = .ok (.aload_n 0, 1) := by decide +kernel
theorem dX11_thrown_1 : decode cX11_thrown 1 = .ok (.getfield 56, 3) := by decide +kernel
theorem dX11_thrown_4 : decode cX11_thrown 4 = .ok (.ireturn, 1) := by decide +kernel
theorem dX11_isIn_0 : decode cX11_isIn 0 = .ok (.iload_n 0, 1) := by decide +kernel
theorem dX11_isIn_1 : decode cX11_isIn 1 = .ok (.iload_n 1, 1) := by decide +kernel
theorem dX11_isIn_2 : decode cX11_isIn 2 = .ok (.if_icmp .lt 12, 3) := by decide +kernel
theorem dX11_isIn_5 : decode cX11_isIn 5 = .ok (.iload_n 0, 1) := by decide +kernel
theorem dX11_isIn_6 : decode cX11_isIn 6 = .ok (.iload_n 2, 1) := by decide +kernel
theorem dX11_isIn_7 : decode cX11_isIn 7 = .ok (.if_icmp .gt 7, 3) := by decide +kernel
theorem dX11_isIn_10 : decode cX11_isIn 10 = .ok (.iconst 1, 1) := by decide +kernel
theorem dX11_isIn_11 : decode cX11_isIn 11 = .ok (.goto 4, 3) := by decide +kernel
theorem dX11_isIn_14 : decode cX11_isIn 14 = .ok (.iconst 0, 1) := by decide +kernel
theorem dX11_isIn_15 : decode cX11_isIn 15 = .ok (.ireturn, 1) := by decide +kernel
theorem dX11_has_0 : decode cX11_has 0 = .ok (.iload_n 0, 1) := by decide +kernel
theorem dX11_has_1 : decode cX11_has 1 = .ok (.iload_n 1, 1) := by decide +kernel
theorem dX11_has_2 : decode cX11_has 2 = .ok (.ishr, 1) := by decide +kernel
theorem dX11_has_3 : decode cX11_has 3 = .ok (.iconst 1, 1) := by decide +kernel
theorem dX11_has_4 : decode cX11_has 4 = .ok (.iand, 1) := by decide +kernel
theorem dX11_has_5 : decode cX11_has 5 = .ok (.iconst 1, 1) := by decide +kernel
theorem dX11_has_6 : decode cX11_has 6 = .ok (.if_icmp .ne 7, 3) := by decide +kernel
theorem dX11_has_9 : decode cX11_has 9 = .ok (.iconst 1, 1) := by decide +kernel
theorem dX11_has_10 : decode cX11_has 10 = .ok (.goto 4, 3) := by decide +kernel
theorem dX11_has_13 : decode cX11_has 13 = .ok (.iconst 0, 1) := by decide +kernel
theorem dX11_has_14 : decode cX11_has 14 = .ok (.ireturn, 1) := by decide +kernel
theorem dX11_bits_0 : decode cX11_bits 0 = .ok (.iconst 0, 1) := by decide +kernel
theorem dX11_bits_1 : decode cX11_bits 1 = .ok (.istore_n 1, 1) := by decide +kernel
theorem dX11_bits_2 : decode cX11_bits 2 = .ok (.iconst 0, 1) := by decide +kernel
theorem dX11_bits_3 : decode cX11_bits 3 = .ok (.istore_n 2, 1) := by decide +kernel
theorem dX11_bits_4 : decode cX11_bits 4 = .ok (.iload_n 2, 1) := by decide +kernel
theorem dX11_bits_5 : decode cX11_bits 5 = .ok (.bipush 16, 2) := by decide +kernel
theorem dX11_bits_7 : decode cX11_bits 7 = .ok (.if_icmp .ge 25, 3) := by decide +kernel
theorem dX11_bits_10 : decode cX11_bits 10 = .ok (.iload_n 1, 1) := by decide +kernel
theorem dX11_bits_11 : decode cX11_bits 11 = .ok (.iload_n 0, 1) := by decide +kernel
theorem dX11_bits_12 : decode cX11_bits 12 = .ok (.iload_n 2, 1) := by decide +kernel
theorem dX11_bits_13 : decode cX11_bits 13 = .ok (.invokestatic 59, 3) := by decide +kernel
theorem dX11_bits_16 : decode cX11_bits 16 = .ok (.ifCond .eq 7, 3) := by decide +kernel
theorem dX11_bits_19 : decode cX11_bits 19 = .ok (.iconst 1, 1) := by decide +kernel
theorem dX11_bits_20 : decode cX11_bits 20 = .ok (.goto 4, 3) := by decide +kernel
theorem dX11_bits_23 : decode cX11_bits 23 = .ok (.iconst 0, 1) := by decide +kernel
theorem dX11_bits_24 : decode cX11_bits 24 = .ok (.iadd, 1) := by decide +kernel
theorem dX11_bits_25 : decode cX11_bits 25 = .ok (.istore_n 1, 1) := by decide +kernel
theorem dX11_bits_26 : decode cX11_bits 26 = .ok (.iinc 2 1, 3) := by decide +kernel
theorem dX11_bits_29 : decode cX11_bits 29 = .ok (.goto (-25), 3) := by decide +kernel
theorem dX11_bits_32 : decode cX11_bits 32 = .ok (.iload_n 1, 1) := by decide +kernel
theorem dX11_bits_33 : decode cX11_bits 33 = .ok (.ireturn, 1) := by decide +kernel
theorem dX11_keeps_0 : decode cX11_keeps 0 = .ok (.aload_n 0, 1) := by decide +kernel
theorem dX11_keeps_1 : decode cX11_keeps 1 = .ok (.getfield 63, 3) := by decide +kernel
theorem dX11_keeps_4 : decode cX11_keeps 4 = .ok (.bipush 8, 2) := by decide +kernel
theorem dX11_keeps_6 : decode cX11_keeps 6 = .ok (.if_icmp .ne 44, 3) := by decide +kernel
theorem dX11_keeps_9 : decode cX11_keeps 9 = .ok (.iconst 0, 1) := by decide +kernel
theorem dX11_keeps_10 : decode cX11_keeps 10 = .ok (.istore_n 1, 1) := by decide +kernel
theorem dX11_keeps_11 : decode cX11_keeps 11 = .ok (.iload_n 1, 1) := by decide +kernel
theorem dX11_keeps_12 : decode cX11_keeps 12 = .ok (.sipush 1050, 3) := by decide +kernel
theorem dX11_keeps_15 : decode cX11_keeps 15 = .ok (.if_icmp .ge 25, 3) := by decide +kernel
theorem dX11_keeps_18 : decode cX11_keeps 18 = .ok (.aload_n 0, 1) := by decide +kernel
theorem dX11_keeps_19 : decode cX11_keeps 19 = .ok (.getfield 16, 3) := by decide +kernel
theorem dX11_keeps_22 : decode cX11_keeps 22 = .ok (.iload_n 1, 1) := by decide +kernel
theorem dX11_keeps_23 : decode cX11_keeps 23 = .ok (.aload_n 0, 1) := by decide +kernel
theorem dX11_keeps_24 : decode cX11_keeps 24 = .ok (.getfield 16, 3) := by decide +kernel
theorem dX11_keeps_27 : decode cX11_keeps 27 = .ok (.iload_n 1, 1) := by decide +kernel
theorem dX11_keeps_28 : decode cX11_keeps 28 = .ok (.sipush 150, 3) := by decide +kernel
theorem dX11_keeps_31 : decode cX11_keeps 31 = .ok (.iadd, 1) := by decide +kernel
theorem dX11_keeps_32 : decode cX11_keeps 32 = .ok (.iaload, 1) := by decide +kernel
theorem dX11_keeps_33 : decode cX11_keeps 33 = .ok (.iastore, 1) := by decide +kernel

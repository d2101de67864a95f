theorem dX11_keeps_34 : decode cX11_keeps 34 = .ok (.iinc 1 1, 3) := by decide +kernel
theorem dX11_keeps_37 : decode cX11_keeps 37 = .ok (.goto (-26), 3) := by decide +kernel
theorem dX11_keeps_40 : decode cX11_keeps 40 = .ok (.aload_n 0, 1) := by decide +kernel
theorem dX11_keeps_41 : decode cX11_keeps 41 = .ok (.dup, 1) := by decide +kernel
theorem dX11_keeps_42 : decode cX11_keeps 42 = .ok (.getfield 63, 3) := by decide +kernel
theorem dX11_keeps_45 : decode cX11_keeps 45 = .ok (.iconst 1, 1) := by decide +kernel
theorem dX11_keeps_46 : decode cX11_keeps 46 = .ok (.isub, 1) := by decide +kernel
theorem dX11_keeps_47 : decode cX11_keeps 47 = .ok (.putfield 63, 3) := by decide +kernel
theorem dX11_keeps_50 : decode cX11_keeps 50 = .ok (.iconst 0, 1) := by decide +kernel
theorem dX11_keeps_51 : decode cX11_keeps 51 = .ok (.istore_n 1, 1) := by decide +kernel
theorem dX11_keeps_52 : decode cX11_keeps 52 = .ok (.iload_n 1, 1) := by decide +kernel
theorem dX11_keeps_53 : decode cX11_keeps 53 = .ok (.sipush 150, 3) := by decide +kernel
theorem dX11_keeps_56 : decode cX11_keeps 56 = .ok (.if_icmp .ge 30, 3) := by decide +kernel
theorem dX11_keeps_59 : decode cX11_keeps 59 = .ok (.aload_n 0, 1) := by decide +kernel
theorem dX11_keeps_60 : decode cX11_keeps 60 = .ok (.getfield 16, 3) := by decide +kernel
theorem dX11_keeps_63 : decode cX11_keeps 63 = .ok (.sipush 150, 3) := by decide +kernel
theorem dX11_keeps_66 : decode cX11_keeps 66 = .ok (.aload_n 0, 1) := by decide +kernel
theorem dX11_keeps_67 : decode cX11_keeps 67 = .ok (.getfield 63, 3) := by decide +kernel
theorem dX11_keeps_70 : decode cX11_keeps 70 = .ok (.imul, 1) := by decide +kernel
theorem dX11_keeps_71 : decode cX11_keeps 71 = .ok (.iload_n 1, 1) := by decide +kernel
theorem dX11_keeps_72 : decode cX11_keeps 72 = .ok (.iadd, 1) := by decide +kernel
theorem dX11_keeps_73 : decode cX11_keeps 73 = .ok (.aload_n 0, 1) := by decide +kernel
theorem dX11_keeps_74 : decode cX11_keeps 74 = .ok (.getfield 7, 3) := by decide +kernel
theorem dX11_keeps_77 : decode cX11_keeps 77 = .ok (.iload_n 1, 1) := by decide +kernel
theorem dX11_keeps_78 : decode cX11_keeps 78 = .ok (.iaload, 1) := by decide +kernel
theorem dX11_keeps_79 : decode cX11_keeps 79 = .ok (.iastore, 1) := by decide +kernel
theorem dX11_keeps_80 : decode cX11_keeps 80 = .ok (.iinc 1 1, 3) := by decide +kernel
theorem dX11_keeps_83 : decode cX11_keeps 83 = .ok (.goto (-31), 3) := by decide +kernel
theorem dX11_keeps_86 : decode cX11_keeps 86 = .ok (.aload_n 0, 1) := by decide +kernel
theorem dX11_keeps_87 : decode cX11_keeps 87 = .ok (.dup, 1) := by decide +kernel
theorem dX11_keeps_88 : decode cX11_keeps 88 = .ok (.getfield 63, 3) := by decide +kernel
theorem dX11_keeps_91 : decode cX11_keeps 91 = .ok (.iconst 1, 1) := by decide +kernel
theorem dX11_keeps_92 : decode cX11_keeps 92 = .ok (.iadd, 1) := by decide +kernel
theorem dX11_keeps_93 : decode cX11_keeps 93 = .ok (.putfield 63, 3) := by decide +kernel
theorem dX11_keeps_96 : decode cX11_keeps 96 = .ok (.return_, 1) := by decide +kernel
theorem dX11_undo_0 : decode cX11_undo 0 = .ok (.aload_n 0, 1) := by decide +kernel
theorem dX11_undo_1 : decode cX11_undo 1 = .ok (.aload_n 0, 1) := by decide +kernel
theorem dX11_undo_2 : decode cX11_undo 2 = .ok (.getfield 63, 3) := by decide +kernel
theorem dX11_undo_5 : decode cX11_undo 5 = .ok (.ifCond .ne 7, 3) := by decide +kernel
theorem dX11_undo_8 : decode cX11_undo 8 = .ok (.iconst 1, 1) := by decide +kernel
theorem dX11_undo_9 : decode cX11_undo 9 = .ok (.goto 4, 3) := by decide +kernel
theorem dX11_undo_12 : decode cX11_undo 12 = .ok (.iconst 0, 1) := by decide +kernel
theorem dX11_undo_13 : decode cX11_undo 13 = .ok (.putfield 56, 3) := by decide +kernel
theorem dX11_undo_16 : decode cX11_undo 16 = .ok (.aload_n 0, 1) := by decide +kernel
theorem dX11_undo_17 : decode cX11_undo 17 = .ok (.getfield 56, 3) := by decide +kernel
theorem dX11_undo_20 : decode cX11_undo 20 = .ok (.ifCond .le 5, 3) := by decide +kernel
theorem dX11_undo_23 : decode cX11_undo 23 = .ok (.iconst 0, 1) := by decide +kernel
theorem dX11_undo_24 : decode cX11_undo 24 = .ok (.ireturn, 1) := by decide +kernel
theorem dX11_undo_25 : decode cX11_undo 25 = .ok (.aload_n 0, 1) := by decide +kernel
theorem dX11_undo_26 : decode cX11_undo 26 = .ok (.dup, 1) := by decide +kernel
theorem dX11_undo_27 : decode cX11_undo 27 = .ok (.getfield 63, 3) := by decide +kernel
theorem dX11_undo_30 : decode cX11_undo 30 = .ok (.iconst 1, 1) := by decide +kernel
theorem dX11_undo_31 : decode cX11_undo 31 = .ok (.isub, 1) := by decide +kernel
theorem dX11_undo_32 : decode cX11_undo 32 = .ok (.putfield 63, 3) := by decide +kernel
theorem dX11_undo_35 : decode cX11_undo 35 = .ok (.aload_n 0, 1) := by decide +kernel
theorem dX11_undo_36 : decode cX11_undo 36 = .ok (.aload_n 0, 1) := by decide +kernel
theorem dX11_undo_37 : decode cX11_undo 37 = .ok (.getfield 16, 3) := by decide +kernel
theorem dX11_undo_40 : decode cX11_undo 40 = .ok (.sipush 150, 3) := by decide +kernel
theorem dX11_undo_43 : decode cX11_undo 43 = .ok (.aload_n 0, 1) := by decide +kernel
theorem dX11_undo_44 : decode cX11_undo 44 = .ok (.getfield 63, 3) := by decide +kernel
theorem dX11_undo_47 : decode cX11_undo 47 = .ok (.imul, 1) := by decide +kernel
theorem dX11_undo_48 : decode cX11_undo 48 = .ok (.invokevirtual 48, 3) := by decide +kernel
theorem dX11_undo_51 : decode cX11_undo 51 = .ok (.aload_n 0, 1) := by decide +kernel
theorem dX11_undo_52 : decode cX11_undo 52 = .ok (.getfield 63, 3) := by decide +kernel
theorem dX11_undo_55 : decode cX11_undo 55 = .ok (.ireturn, 1) := by decide +kernel
theorem dX11_append_0 : decode cX11_append 0 = .ok (.aload_n 0, 1) := by decide +kernel
theorem dX11_append_1 : decode cX11_append 1 = .ok (.aload_n 0, 1) := by decide +kernel
theorem dX11_append_2 : decode cX11_append 2 = .ok (.getfield 66, 3) := by decide +kernel
theorem dX11_append_5 : decode cX11_append 5 = .ok (.bipush 20, 2) := by decide +kernel
theorem dX11_append_7 : decode cX11_append 7 = .ok (.iadd, 1) := by decide +kernel
theorem dX11_append_8 : decode cX11_append 8 = .ok (.sipush 600, 3) := by decide +kernel
theorem dX11_append_11 : decode cX11_append 11 = .ok (.if_icmp .le 7, 3) := by decide +kernel
theorem dX11_append_14 : decode cX11_append 14 = .ok (.iconst 1, 1) := by decide +kernel
theorem dX11_append_15 : decode cX11_append 15 = .ok (.goto 4, 3) := by decide +kernel
theorem dX11_append_18 : decode cX11_append 18 = .ok (.iconst 0, 1) := by decide +kernel
theorem dX11_append_19 : decode cX11_append 19 = .ok (.putfield 56, 3) := by decide +kernel
theorem dX11_append_22 : decode cX11_append 22 = .ok (.aload_n 0, 1) := by decide +kernel
theorem dX11_append_23 : decode cX11_append 23 = .ok (.getfield 56, 3) := by decide +kernel
theorem dX11_append_26 : decode cX11_append 26 = .ok (.ifCond .le 5, 3) := by decide +kernel
theorem dX11_append_29 : decode cX11_append 29 = .ok (.iconst 0, 1) := by decide +kernel
theorem dX11_append_30 : decode cX11_append 30 = .ok (.ireturn, 1) := by decide +kernel
theorem dX11_append_31 : decode cX11_append 31 = .ok (.iconst 0, 1) := by decide +kernel
theorem dX11_append_32 : decode cX11_append 32 = .ok (.istore 6, 2) := by decide +kernel
theorem dX11_append_34 : decode cX11_append 34 = .ok (.iload 6, 2) := by decide +kernel
theorem dX11_append_36 : decode cX11_append 36 = .ok (.bipush 20, 2) := by decide +kernel
theorem dX11_append_38 : decode cX11_append 38 = .ok (.if_icmp .ge 93, 3) := by decide +kernel
theorem dX11_append_41 : decode cX11_append 41 = .ok (.iload 6, 2) := by decide +kernel
theorem dX11_append_43 : decode cX11_append 43 = .ok (.iconst 4, 1) := by decide +kernel
theorem dX11_append_44 : decode cX11_append 44 = .ok (.if_icmp .ge 7, 3) := by decide +kernel
theorem dX11_append_47 : decode cX11_append 47 = .ok (.iload_n 1, 1) := by decide +kernel
theorem dX11_append_48 : decode cX11_append 48 = .ok (.goto 39, 3) := by decide +kernel
theorem dX11_append_51 : decode cX11_append 51 = .ok (.iload 6, 2) := by decide +kernel
theorem dX11_append_53 : decode cX11_append 53 = .ok (.bipush 8, 2) := by decide +kernel
theorem dX11_append_55 : decode cX11_append 55 = .ok (.if_icmp .ge 7, 3) := by decide +kernel
theorem dX11_append_58 : decode cX11_append 58 = .ok (.iload_n 2, 1) := by decide +kernel
theorem dX11_append_59 : decode cX11_append 59 = .ok (.goto 28, 3) := by decide +kernel
theorem dX11_append_62 : decode cX11_append 62 = .ok (.iload 6, 2) := by decide +kernel
theorem dX11_append_64 : decode cX11_append 64 = .ok (.bipush 12, 2) := by decide +kernel
theorem dX11_append_66 : decode cX11_append 66 = .ok (.if_icmp .ge 7, 3) := by decide +kernel
theorem dX11_append_69 : decode cX11_append 69 = .ok (.iload_n 3, 1) := by decide +kernel
theorem dX11_append_70 : decode cX11_append 70 = .ok (.goto 17, 3) := by decide +kernel
theorem dX11_append_73 : decode cX11_append 73 = .ok (.iload 6, 2) := by decide +kernel
theorem dX11_append_75 : decode cX11_append 75 = .ok (.bipush 16, 2) := by decide +kernel
theorem dX11_append_77 : decode cX11_append 77 = .ok (.if_icmp .ge 8, 3) := by decide +kernel
theorem dX11_append_80 : decode cX11_append 80 = .ok (.iload 4, 2) := by decide +kernel
theorem dX11_append_82 : decode cX11_append 82 = .ok (.goto 5, 3) := by decide +kernel
theorem dX11_append_85 : decode cX11_append 85 = .ok (.iload 5, 2) := by decide +kernel
theorem dX11_append_87 : decode cX11_append 87 = .ok (.istore 7, 2) := by decide +kernel
theorem dX11_append_89 : decode cX11_append 89 = .ok (.aload_n 0, 1) := by decide +kernel
theorem dX11_append_90 : decode cX11_append 90 = .ok (.getfield 19, 3) := by decide +kernel
theorem dX11_append_93 : decode cX11_append 93 = .ok (.aload_n 0, 1) := by decide +kernel
theorem dX11_append_94 : decode cX11_append 94 = .ok (.getfield 66, 3) := by decide +kernel
theorem dX11_append_97 : decode cX11_append 97 = .ok (.iload 7, 2) := by decide +kernel
theorem dX11_append_99 : decode cX11_append 99 = .ok (.bipush 24, 2) := by decide +kernel
theorem dX11_append_101 : decode cX11_append 101 = .ok (.bipush 8, 2) := by decide +kernel
theorem dX11_append_103 : decode cX11_append 103 = .ok (.iload 6, 2) := by decide +kernel
theorem dX11_append_105 : decode cX11_append 105 = .ok (.iconst 4, 1) := by decide +kernel
theorem dX11_append_106 : decode cX11_append 106 = .ok (.irem, 1) := by decide +kernel
theorem dX11_append_107 : decode cX11_append 107 = .ok (.imul, 1) := by decide +kernel
theorem dX11_append_108 : decode cX11_append 108 = .ok (.isub, 1) := by decide +kernel
theorem dX11_append_109 : decode cX11_append 109 = .ok (.ishr, 1) := by decide +kernel
theorem dX11_append_110 : decode cX11_append 110 = .ok (.sipush 255, 3) := by decide +kernel
theorem dX11_append_113 : decode cX11_append 113 = .ok (.iand, 1) := by decide +kernel
theorem dX11_append_114 : decode cX11_append 114 = .ok (.iastore, 1) := by decide +kernel
theorem dX11_append_115 : decode cX11_append 115 = .ok (.aload_n 0, 1) := by decide +kernel
theorem dX11_append_116 : decode cX11_append 116 = .ok (.dup, 1) := by decide +kernel
theorem dX11_append_117 : decode cX11_append 117 = .ok (.getfield 66, 3) := by decide +kernel
theorem dX11_append_120 : decode cX11_append 120 = .ok (.iconst 1, 1) := by decide +kernel
theorem dX11_append_121 : decode cX11_append 121 = .ok (.iadd, 1) := by decide +kernel
theorem dX11_append_122 : decode cX11_append 122 = .ok (.putfield 66, 3) := by decide +kernel
theorem dX11_append_125 : decode cX11_append 125 = .ok (.iinc 6 1, 3) := by decide +kernel
theorem dX11_append_128 : decode cX11_append 128 = .ok (.goto (-94), 3) := by decide +kernel
theorem dX11_append_131 : decode cX11_append 131 = .ok (.aload_n 0, 1) := by decide +kernel
theorem dX11_append_132 : decode cX11_append 132 = .ok (.getfield 66, 3) := by decide +kernel
theorem dX11_append_135 : decode cX11_append 135 = .ok (.ireturn, 1) := by decide +kernel
theorem dX11_see_0 : decode cX11_see 0 = .ok (.iload_n 1, 1) := by decide +kernel
theorem dX11_see_1 : decode cX11_see 1 = .ok (.aload_n 0, 1) := by decide +kernel
theorem dX11_see_2 : decode cX11_see 2 = .ok (.getfield 69, 3) := by decide +kernel
theorem dX11_see_5 : decode cX11_see 5 = .ok (.if_icmp .ge 12, 3) := by decide +kernel
theorem dX11_see_8 : decode cX11_see 8 = .ok (.aload_n 0, 1) := by decide +kernel
theorem dX11_see_9 : decode cX11_see 9 = .ok (.getfield 19, 3) := by decide +kernel
theorem dX11_see_12 : decode cX11_see 12 = .ok (.iload_n 1, 1) := by decide +kernel
theorem dX11_see_13 : decode cX11_see 13 = .ok (.iaload, 1) := by decide +kernel
theorem dX11_see_14 : decode cX11_see 14 = .ok (.goto 4, 3) := by decide +kernel
theorem dX11_see_17 : decode cX11_see 17 = .ok (.iconst (-1), 1) := by decide +kernel
theorem dX11_see_18 : decode cX11_see 18 = .ok (.ireturn, 1) := by decide +kernel
theorem dX11_isLetter_0 : decode cX11_isLetter 0 = .ok (.iload_n 0, 1) := by decide +kernel
theorem dX11_isLetter_1 : decode cX11_isLetter 1 = .ok (.bipush 97, 2) := by decide +kernel
theorem dX11_isLetter_3 : decode cX11_isLetter 3 = .ok (.bipush 122, 2) := by decide +kernel
theorem dX11_isLetter_5 : decode cX11_isLetter 5 = .ok (.invokestatic 72, 3) := by decide +kernel
theorem dX11_isLetter_8 : decode cX11_isLetter 8 = .ok (.ireturn, 1) := by decide +kernel
theorem dX11_isDigit_0 : decode cX11_isDigit 0 = .ok (.iload_n 0, 1) := by decide +kernel
theorem dX11_isDigit_1 : decode cX11_isDigit 1 = .ok (.bipush 48, 2) := by decide +kernel
theorem dX11_isDigit_3 : decode cX11_isDigit 3 = .ok (.bipush 57, 2) := by decide +kernel
theorem dX11_isDigit_5 : decode cX11_isDigit 5 = .ok (.invokestatic 72, 3) := by decide +kernel
theorem dX11_isDigit_8 : decode cX11_isDigit 8 = .ok (.ireturn, 1) := by decide +kernel
theorem dX11_next_0 : decode cX11_next 0 = .ok (.aload_n 0, 1) := by decide +kernel
theorem dX11_next_1 : decode cX11_next 1 = .ok (.aload_n 0, 1) := by decide +kernel
theorem dX11_next_2 : decode cX11_next 2 = .ok (.getfield 76, 3) := by decide +kernel
theorem dX11_next_5 : decode cX11_next 5 = .ok (.putfield 79, 3) := by decide +kernel
theorem dX11_next_8 : decode cX11_next 8 = .ok (.aload_n 0, 1) := by decide +kernel
theorem dX11_next_9 : decode cX11_next 9 = .ok (.aload_n 0, 1) := by decide +kernel
theorem dX11_next_10 : decode cX11_next 10 = .ok (.getfield 79, 3) := by decide +kernel
theorem dX11_next_13 : decode cX11_next 13 = .ok (.invokevirtual 82, 3) := by decide +kernel
theorem dX11_next_16 : decode cX11_next 16 = .ok (.bipush 32, 2) := by decide +kernel
theorem dX11_next_18 : decode cX11_next 18 = .ok (.if_icmp .ne 16, 3) := by decide +kernel
theorem dX11_next_21 : decode cX11_next 21 = .ok (.aload_n 0, 1) := by decide +kernel
theorem dX11_next_22 : decode cX11_next 22 = .ok (.dup, 1) := by decide +kernel
theorem dX11_next_23 : decode cX11_next 23 = .ok (.getfield 79, 3) := by decide +kernel
theorem dX11_next_26 : decode cX11_next 26 = .ok (.iconst 1, 1) := by decide +kernel
theorem dX11_next_27 : decode cX11_next 27 = .ok (.iadd, 1) := by decide +kernel
theorem dX11_next_28 : decode cX11_next 28 = .ok (.putfield 79, 3) := by decide +kernel
theorem dX11_next_31 : decode cX11_next 31 = .ok (.goto (-23), 3) := by decide +kernel
theorem dX11_next_34 : decode cX11_next 34 = .ok (.aload_n 0, 1) := by decide +kernel
theorem dX11_next_35 : decode cX11_next 35 = .ok (.aload_n 0, 1) := by decide +kernel
theorem dX11_next_36 : decode cX11_next 36 = .ok (.getfield 79, 3) := by decide +kernel
theorem dX11_next_39 : decode cX11_next 39 = .ok (.putfield 76, 3) := by decide +kernel
theorem dX11_next_42 : decode cX11_next 42 = .ok (.aload_n 0, 1) := by decide +kernel
theorem dX11_next_43 : decode cX11_next 43 = .ok (.getfield 79, 3) := by decide +kernel
theorem dX11_next_46 : decode cX11_next 46 = .ok (.aload_n 0, 1) := by decide +kernel
theorem dX11_next_47 : decode cX11_next 47 = .ok (.getfield 69, 3) := by decide +kernel
theorem dX11_next_50 : decode cX11_next 50 = .ok (.if_icmp .lt 11, 3) := by decide +kernel
theorem dX11_next_53 : decode cX11_next 53 = .ok (.aload_n 0, 1) := by decide +kernel
theorem dX11_next_54 : decode cX11_next 54 = .ok (.iconst 3, 1) := by decide +kernel
theorem dX11_next_55 : decode cX11_next 55 = .ok (.putfield 86, 3) := by decide +kernel
theorem dX11_next_58 : decode cX11_next 58 = .ok (.goto 154, 3) := by decide +kernel
theorem dX11_next_61 : decode cX11_next 61 = .ok (.aload_n 0, 1) := by decide +kernel
theorem dX11_next_62 : decode cX11_next 62 = .ok (.aload_n 0, 1) := by decide +kernel
theorem dX11_next_63 : decode cX11_next 63 = .ok (.getfield 79, 3) := by decide +kernel
theorem dX11_next_66 : decode cX11_next 66 = .ok (.invokevirtual 82, 3) := by decide +kernel
theorem dX11_next_69 : decode cX11_next 69 = .ok (.invokestatic 89, 3) := by decide +kernel
theorem dX11_next_72 : decode cX11_next 72 = .ok (.ifCond .eq 38, 3) := by decide +kernel
theorem dX11_next_75 : decode cX11_next 75 = .ok (.aload_n 0, 1) := by decide +kernel
theorem dX11_next_76 : decode cX11_next 76 = .ok (.aload_n 0, 1) := by decide +kernel
theorem dX11_next_77 : decode cX11_next 77 = .ok (.getfield 76, 3) := by decide +kernel
theorem dX11_next_80 : decode cX11_next 80 = .ok (.invokevirtual 82, 3) := by decide +kernel
theorem dX11_next_83 : decode cX11_next 83 = .ok (.invokestatic 89, 3) := by decide +kernel
theorem dX11_next_86 : decode cX11_next 86 = .ok (.ifCond .eq 16, 3) := by decide +kernel
theorem dX11_next_89 : decode cX11_next 89 = .ok (.aload_n 0, 1) := by decide +kernel
theorem dX11_next_90 : decode cX11_next 90 = .ok (.dup, 1) := by decide +kernel
theorem dX11_next_91 : decode cX11_next 91 = .ok (.getfield 76, 3) := by decide +kernel
theorem dX11_next_94 : decode cX11_next 94 = .ok (.iconst 1, 1) := by decide +kernel
theorem dX11_next_95 : decode cX11_next 95 = .ok (.iadd, 1) := by decide +kernel
theorem dX11_next_96 : decode cX11_next 96 = .ok (.putfield 76, 3) := by decide +kernel
theorem dX11_next_99 : decode cX11_next 99 = .ok (.goto (-24), 3) := by decide +kernel
theorem dX11_next_102 : decode cX11_next 102 = .ok (.aload_n 0, 1) := by decide +kernel
theorem dX11_next_103 : decode cX11_next 103 = .ok (.iconst 0, 1) := by decide +kernel
theorem dX11_next_104 : decode cX11_next 104 = .ok (.putfield 86, 3) := by decide +kernel
theorem dX11_next_107 : decode cX11_next 107 = .ok (.goto 105, 3) := by decide +kernel
theorem dX11_next_110 : decode cX11_next 110 = .ok (.aload_n 0, 1) := by decide +kernel
theorem dX11_next_111 : decode cX11_next 111 = .ok (.aload_n 0, 1) := by decide +kernel
theorem dX11_next_112 : decode cX11_next 112 = .ok (.getfield 79, 3) := by decide +kernel
theorem dX11_next_115 : decode cX11_next 115 = .ok (.invokevirtual 82, 3) := by decide +kernel
theorem dX11_next_118 : decode cX11_next 118 = .ok (.invokestatic 93, 3) := by decide +kernel
theorem dX11_next_121 : decode cX11_next 121 = .ok (.ifCond .eq 76, 3) := by decide +kernel
theorem dX11_next_124 : decode cX11_next 124 = .ok (.aload_n 0, 1) := by decide +kernel
theorem dX11_next_125 : decode cX11_next 125 = .ok (.iconst 0, 1) := by decide +kernel
theorem dX11_next_126 : decode cX11_next 126 = .ok (.putfield 96, 3) := by decide +kernel
theorem dX11_next_129 : decode cX11_next 129 = .ok (.aload_n 0, 1) := by decide +kernel
theorem dX11_next_130 : decode cX11_next 130 = .ok (.aload_n 0, 1) := by decide +kernel
theorem dX11_next_131 : decode cX11_next 131 = .ok (.getfield 76, 3) := by decide +kernel
theorem dX11_next_134 : decode cX11_next 134 = .ok (.invokevirtual 82, 3) := by decide +kernel
theorem dX11_next_137 : decode cX11_next 137 = .ok (.invokestatic 93, 3) := by decide +kernel
theorem dX11_next_140 : decode cX11_next 140 = .ok (.ifCond .eq 49, 3) := by decide +kernel
theorem dX11_next_143 : decode cX11_next 143 = .ok (.aload_n 0, 1) := by decide +kernel
theorem dX11_next_144 : decode cX11_next 144 = .ok (.getfield 96, 3) := by decide +kernel
theorem dX11_next_147 : decode cX11_next 147 = .ok (.sipush 1000, 3) := by decide +kernel
theorem dX11_next_150 : decode cX11_next 150 = .ok (.if_icmp .ge 26, 3) := by decide +kernel
theorem dX11_next_153 : decode cX11_next 153 = .ok (.aload_n 0, 1) := by decide +kernel
theorem dX11_next_154 : decode cX11_next 154 = .ok (.bipush 10, 2) := by decide +kernel
theorem dX11_next_156 : decode cX11_next 156 = .ok (.aload_n 0, 1) := by decide +kernel
theorem dX11_next_157 : decode cX11_next 157 = .ok (.getfield 96, 3) := by decide +kernel
theorem dX11_next_160 : decode cX11_next 160 = .ok (.imul, 1) := by decide +kernel
theorem dX11_next_161 : decode cX11_next 161 = .ok (.aload_n 0, 1) := by decide +kernel
theorem dX11_next_162 : decode cX11_next 162 = .ok (.aload_n 0, 1) := by decide +kernel
theorem dX11_next_163 : decode cX11_next 163 = .ok (.getfield 76, 3) := by decide +kernel
theorem dX11_next_166 : decode cX11_next 166 = .ok (.invokevirtual 82, 3) := by decide +kernel
theorem dX11_next_169 : decode cX11_next 169 = .ok (.iadd, 1) := by decide +kernel
theorem dX11_next_170 : decode cX11_next 170 = .ok (.bipush 48, 2) := by decide +kernel
theorem dX11_next_172 : decode cX11_next 172 = .ok (.isub, 1) := by decide +kernel
theorem dX11_next_173 : decode cX11_next 173 = .ok (.putfield 96, 3) := by decide +kernel
theorem dX11_next_176 : decode cX11_next 176 = .ok (.aload_n 0, 1) := by decide +kernel
theorem dX11_next_177 : decode cX11_next 177 = .ok (.dup, 1) := by decide +kernel
theorem dX11_next_178 : decode cX11_next 178 = .ok (.getfield 76, 3) := by decide +kernel
theorem dX11_next_181 : decode cX11_next 181 = .ok (.iconst 1, 1) := by decide +kernel
theorem dX11_next_182 : decode cX11_next 182 = .ok (.iadd, 1) := by decide +kernel
theorem dX11_next_183 : decode cX11_next 183 = .ok (.putfield 76, 3) := by decide +kernel
theorem dX11_next_186 : decode cX11_next 186 = .ok (.goto (-57), 3) := by decide +kernel
theorem dX11_next_189 : decode cX11_next 189 = .ok (.aload_n 0, 1) := by decide +kernel
theorem dX11_next_190 : decode cX11_next 190 = .ok (.iconst 1, 1) := by decide +kernel
theorem dX11_next_191 : decode cX11_next 191 = .ok (.putfield 86, 3) := by decide +kernel
theorem dX11_next_194 : decode cX11_next 194 = .ok (.goto 18, 3) := by decide +kernel
theorem dX11_next_197 : decode cX11_next 197 = .ok (.aload_n 0, 1) := by decide +kernel
theorem dX11_next_198 : decode cX11_next 198 = .ok (.dup, 1) := by decide +kernel
theorem dX11_next_199 : decode cX11_next 199 = .ok (.getfield 76, 3) := by decide +kernel
theorem dX11_next_202 : decode cX11_next 202 = .ok (.iconst 1, 1) := by decide +kernel
theorem dX11_next_203 : decode cX11_next 203 = .ok (.iadd, 1) := by decide +kernel
theorem dX11_next_204 : decode cX11_next 204 = .ok (.putfield 76, 3) := by decide +kernel
theorem dX11_next_207 : decode cX11_next 207 = .ok (.aload_n 0, 1) := by decide +kernel
theorem dX11_next_208 : decode cX11_next 208 = .ok (.iconst 2, 1) := by decide +kernel
theorem dX11_next_209 : decode cX11_next 209 = .ok (.putfield 86, 3) := by decide +kernel
theorem dX11_next_212 : decode cX11_next 212 = .ok (.return_, 1) := by decide +kernel
theorem dX11_isWord_0 : decode cX11_isWord 0 = .ok (.aload_n 0, 1) := by decide +kernel
theorem dX11_isWord_1 : decode cX11_isWord 1 = .ok (.getfield 99, 3) := by decide +kernel
theorem dX11_isWord_4 : decode cX11_isWord 4 = .ok (.ifCond .ne 26, 3) := by decide +kernel
theorem dX11_isWord_7 : decode cX11_isWord 7 = .ok (.aload_n 0, 1) := by decide +kernel
theorem dX11_isWord_8 : decode cX11_isWord 8 = .ok (.getfield 86, 3) := by decide +kernel
theorem dX11_isWord_11 : decode cX11_isWord 11 = .ok (.ifCond .ne 19, 3) := by decide +kernel
theorem dX11_isWord_14 : decode cX11_isWord 14 = .ok (.aload_n 0, 1) := by decide +kernel
theorem dX11_isWord_15 : decode cX11_isWord 15 = .ok (.getfield 76, 3) := by decide +kernel
theorem dX11_isWord_18 : decode cX11_isWord 18 = .ok (.aload_n 0, 1) := by decide +kernel
theorem dX11_isWord_19 : decode cX11_isWord 19 = .ok (.getfield 79, 3) := by decide +kernel
theorem dX11_isWord_22 : decode cX11_isWord 22 = .ok (.isub, 1) := by decide +kernel
theorem dX11_isWord_23 : decode cX11_isWord 23 = .ok (.aload_n 1, 1) := by decide +kernel
theorem dX11_isWord_24 : decode cX11_isWord 24 = .ok (.invokevirtual 102, 3) := by decide +kernel
theorem dX11_isWord_27 : decode cX11_isWord 27 = .ok (.if_icmp .eq 5, 3) := by decide +kernel
theorem dX11_isWord_30 : decode cX11_isWord 30 = .ok (.iconst 0, 1) := by decide +kernel
theorem dX11_isWord_31 : decode cX11_isWord 31 = .ok (.ireturn, 1) := by decide +kernel
theorem dX11_isWord_32 : decode cX11_isWord 32 = .ok (.iconst 0, 1) := by decide +kernel
theorem dX11_isWord_33 : decode cX11_isWord 33 = .ok (.istore_n 2, 1) := by decide +kernel
theorem dX11_isWord_34 : decode cX11_isWord 34 = .ok (.iload_n 2, 1) := by decide +kernel
theorem dX11_isWord_35 : decode cX11_isWord 35 = .ok (.aload_n 1, 1) := by decide +kernel
theorem dX11_isWord_36 : decode cX11_isWord 36 = .ok (.invokevirtual 102, 3) := by decide +kernel
theorem dX11_isWord_39 : decode cX11_isWord 39 = .ok (.if_icmp .ge 30, 3) := by decide +kernel
theorem dX11_isWord_42 : decode cX11_isWord 42 = .ok (.aload_n 0, 1) := by decide +kernel
theorem dX11_isWord_43 : decode cX11_isWord 43 = .ok (.getfield 19, 3) := by decide +kernel
theorem dX11_isWord_46 : decode cX11_isWord 46 = .ok (.aload_n 0, 1) := by decide +kernel
theorem dX11_isWord_47 : decode cX11_isWord 47 = .ok (.getfield 79, 3) := by decide +kernel
theorem dX11_isWord_50 : decode cX11_isWord 50 = .ok (.iload_n 2, 1) := by decide +kernel
theorem dX11_isWord_51 : decode cX11_isWord 51 = .ok (.iadd, 1) := by decide +kernel
theorem dX11_isWord_52 : decode cX11_isWord 52 = .ok (.iaload, 1) := by decide +kernel
theorem dX11_isWord_53 : decode cX11_isWord 53 = .ok (.aload_n 1, 1) := by decide +kernel
theorem dX11_isWord_54 : decode cX11_isWord 54 = .ok (.iload_n 2, 1) := by decide +kernel
theorem dX11_isWord_55 : decode cX11_isWord 55 = .ok (.invokevirtual 108, 3) := by decide +kernel
theorem dX11_isWord_58 : decode cX11_isWord 58 = .ok (.if_icmp .eq 5, 3) := by decide +kernel
theorem dX11_isWord_61 : decode cX11_isWord 61 = .ok (.iconst 0, 1) := by decide +kernel
theorem dX11_isWord_62 : decode cX11_isWord 62 = .ok (.ireturn, 1) := by decide +kernel
theorem dX11_isWord_63 : decode cX11_isWord 63 = .ok (.iinc 2 1, 3) := by decide +kernel
theorem dX11_isWord_66 : decode cX11_isWord 66 = .ok (.goto (-32), 3) := by decide +kernel
theorem dX11_isWord_69 : decode cX11_isWord 69 = .ok (.iconst 1, 1) := by decide +kernel
theorem dX11_isWord_70 : decode cX11_isWord 70 = .ok (.ireturn, 1) := by decide +kernel
theorem dX11_fails_0 : decode cX11_fails 0 = .ok (.aload_n 0, 1) := by decide +kernel
theorem dX11_fails_1 : decode cX11_fails 1 = .ok (.getfield 99, 3) := by decide +kernel
theorem dX11_fails_4 : decode cX11_fails 4 = .ok (.ifCond .eq 4, 3) := by decide +kernel
theorem dX11_fails_7 : decode cX11_fails 7 = .ok (.return_, 1) := by decide +kernel
theorem dX11_fails_8 : decode cX11_fails 8 = .ok (.aload_n 0, 1) := by decide +kernel
theorem dX11_fails_9 : decode cX11_fails 9 = .ok (.iload_n 1, 1) := by decide +kernel
theorem dX11_fails_10 : decode cX11_fails 10 = .ok (.putfield 99, 3) := by decide +kernel
theorem dX11_fails_13 : decode cX11_fails 13 = .ok (.aload_n 0, 1) := by decide +kernel
theorem dX11_fails_14 : decode cX11_fails 14 = .ok (.aload_n 0, 1) := by decide +kernel
theorem dX11_fails_15 : decode cX11_fails 15 = .ok (.getfield 79, 3) := by decide +kernel
theorem dX11_fails_18 : decode cX11_fails 18 = .ok (.putfield 112, 3) := by decide +kernel
theorem dX11_fails_21 : decode cX11_fails 21 = .ok (.return_, 1) := by decide +kernel
theorem dX11_isSemicolon_0 : decode cX11_isSemicolon 0 = .ok (.aload_n 0, 1) := by decide +kernel
theorem dX11_isSemicolon_1 : decode cX11_isSemicolon 1 = .ok (.getfield 99, 3) := by decide +kernel
theorem dX11_isSemicolon_4 : decode cX11_isSemicolon 4 = .ok (.ifCond .ne 28, 3) := by decide +kernel
theorem dX11_isSemicolon_7 : decode cX11_isSemicolon 7 = .ok (.aload_n 0, 1) := by decide +kernel
theorem dX11_isSemicolon_8 : decode cX11_isSemicolon 8 = .ok (.getfield 86, 3) := by decide +kernel
theorem dX11_isSemicolon_11 : decode cX11_isSemicolon 11 = .ok (.iconst 2, 1) := by decide +kernel
theorem dX11_isSemicolon_12 : decode cX11_isSemicolon 12 = .ok (.if_icmp .ne 20, 3) := by decide +kernel
theorem dX11_isSemicolon_15 : decode cX11_isSemicolon 15 = .ok (.aload_n 0, 1) := by decide +kernel
theorem dX11_isSemicolon_16 : decode cX11_isSemicolon 16 = .ok (.aload_n 0, 1) := by decide +kernel
theorem dX11_isSemicolon_17 : decode cX11_isSemicolon 17 = .ok (.getfield 79, 3) := by decide +kernel
theorem dX11_isSemicolon_20 : decode cX11_isSemicolon 20 = .ok (.invokevirtual 82, 3) := by decide +kernel
theorem dX11_isSemicolon_23 : decode cX11_isSemicolon 23 = .ok (.bipush 59, 2) := by decide +kernel
theorem dX11_isSemicolon_25 : decode cX11_isSemicolon 25 = .ok (.if_icmp .ne 7, 3) := by decide +kernel
theorem dX11_isSemicolon_28 : decode cX11_isSemicolon 28 = .ok (.iconst 1, 1) := by decide +kernel
theorem dX11_isSemicolon_29 : decode cX11_isSemicolon 29 = .ok (.goto 4, 3) := by decide +kernel
theorem dX11_isSemicolon_32 : decode cX11_isSemicolon 32 = .ok (.iconst 0, 1) := by decide +kernel
theorem dX11_isSemicolon_33 : decode cX11_isSemicolon 33 = .ok (.ireturn, 1) := by decide +kernel
theorem dX11_must_0 : decode cX11_must 0 = .ok (.iload_n 1, 1) := by decide +kernel
theorem dX11_must_1 : decode cX11_must 1 = .ok (.ifCond .ne 9, 3) := by decide +kernel
theorem dX11_must_4 : decode cX11_must 4 = .ok (.aload_n 0, 1) := by decide +kernel
theorem dX11_must_5 : decode cX11_must 5 = .ok (.bipush (-2), 2) := by decide +kernel
theorem dX11_must_7 : decode cX11_must 7 = .ok (.invokevirtual 115, 3) := by decide +kernel
theorem dX11_must_10 : decode cX11_must 10 = .ok (.aload_n 0, 1) := by decide +kernel
theorem dX11_must_11 : decode cX11_must 11 = .ok (.getfield 99, 3) := by decide +kernel
theorem dX11_must_14 : decode cX11_must 14 = .ok (.ifCond .ne 7, 3) := by decide +kernel
theorem dX11_must_17 : decode cX11_must 17 = .ok (.aload_n 0, 1) := by decide +kernel
theorem dX11_must_18 : decode cX11_must 18 = .ok (.invokevirtual 119, 3) := by decide +kernel
theorem dX11_must_21 : decode cX11_must 21 = .ok (.return_, 1) := by decide +kernel
theorem dX11_takes_0 : decode cX11_takes 0 = .ok (.aload_n 0, 1) := by decide +kernel
theorem dX11_takes_1 : decode cX11_takes 1 = .ok (.getfield 99, 3) := by decide +kernel
theorem dX11_takes_4 : decode cX11_takes 4 = .ok (.ifCond .ne 20, 3) := by decide +kernel
theorem dX11_takes_7 : decode cX11_takes 7 = .ok (.aload_n 0, 1) := by decide +kernel
theorem dX11_takes_8 : decode cX11_takes 8 = .ok (.getfield 86, 3) := by decide +kernel
theorem dX11_takes_11 : decode cX11_takes 11 = .ok (.iconst 1, 1) := by decide +kernel
theorem dX11_takes_12 : decode cX11_takes 12 = .ok (.if_icmp .eq 12, 3) := by decide +kernel
theorem dX11_takes_15 : decode cX11_takes 15 = .ok (.aload_n 0, 1) := by decide +kernel
theorem dX11_takes_16 : decode cX11_takes 16 = .ok (.bipush (-2), 2) := by decide +kernel
theorem dX11_takes_18 : decode cX11_takes 18 = .ok (.invokevirtual 115, 3) := by decide +kernel
theorem dX11_takes_21 : decode cX11_takes 21 = .ok (.goto 36, 3) := by decide +kernel
theorem dX11_takes_24 : decode cX11_takes 24 = .ok (.aload_n 0, 1) := by decide +kernel
theorem dX11_takes_25 : decode cX11_takes 25 = .ok (.getfield 99, 3) := by decide +kernel
theorem dX11_takes_28 : decode cX11_takes 28 = .ok (.ifCond .ne 29, 3) := by decide +kernel
theorem dX11_takes_31 : decode cX11_takes 31 = .ok (.aload_n 0, 1) := by decide +kernel
theorem dX11_takes_32 : decode cX11_takes 32 = .ok (.getfield 96, 3) := by decide +kernel
theorem dX11_takes_35 : decode cX11_takes 35 = .ok (.iload_n 1, 1) := by decide +kernel
theorem dX11_takes_36 : decode cX11_takes 36 = .ok (.iload_n 2, 1) := by decide +kernel
theorem dX11_takes_37 : decode cX11_takes 37 = .ok (.invokestatic 72, 3) := by decide +kernel
theorem dX11_takes_40 : decode cX11_takes 40 = .ok (.ifCond .eq 11, 3) := by decide +kernel
theorem dX11_takes_43 : decode cX11_takes 43 = .ok (.aload_n 0, 1) := by decide +kernel
theorem dX11_takes_44 : decode cX11_takes 44 = .ok (.getfield 96, 3) := by decide +kernel
theorem dX11_takes_47 : decode cX11_takes 47 = .ok (.iload_n 3, 1) := by decide +kernel
theorem dX11_takes_48 : decode cX11_takes 48 = .ok (.if_icmp .ne 9, 3) := by decide +kernel
theorem dX11_takes_51 : decode cX11_takes 51 = .ok (.aload_n 0, 1) := by decide +kernel
theorem dX11_takes_52 : decode cX11_takes 52 = .ok (.bipush (-3), 2) := by decide +kernel
theorem dX11_takes_54 : decode cX11_takes 54 = .ok (.invokevirtual 115, 3) := by decide +kernel
theorem dX11_takes_57 : decode cX11_takes 57 = .ok (.aload_n 0, 1) := by decide +kernel
theorem dX11_takes_58 : decode cX11_takes 58 = .ok (.getfield 99, 3) := by decide +kernel
theorem dX11_takes_61 : decode cX11_takes 61 = .ok (.ifCond .ne 10, 3) := by decide +kernel
theorem dX11_takes_64 : decode cX11_takes 64 = .ok (.aload_n 0, 1) := by decide +kernel
theorem dX11_takes_65 : decode cX11_takes 65 = .ok (.getfield 96, 3) := by decide +kernel
theorem dX11_takes_68 : decode cX11_takes 68 = .ok (.goto 4, 3) := by decide +kernel
theorem dX11_takes_71 : decode cX11_takes 71 = .ok (.iconst 0, 1) := by decide +kernel
theorem dX11_takes_72 : decode cX11_takes 72 = .ok (.istore 4, 2) := by decide +kernel
theorem dX11_takes_74 : decode cX11_takes 74 = .ok (.aload_n 0, 1) := by decide +kernel
theorem dX11_takes_75 : decode cX11_takes 75 = .ok (.getfield 99, 3) := by decide +kernel
theorem dX11_takes_78 : decode cX11_takes 78 = .ok (.ifCond .ne 7, 3) := by decide +kernel
theorem dX11_takes_81 : decode cX11_takes 81 = .ok (.aload_n 0, 1) := by decide +kernel
theorem dX11_takes_82 : decode cX11_takes 82 = .ok (.invokevirtual 119, 3) := by decide +kernel
theorem dX11_takes_85 : decode cX11_takes 85 = .ok (.iload 4, 2) := by decide +kernel
theorem dX11_takes_87 : decode cX11_takes 87 = .ok (.ireturn, 1) := by decide +kernel
theorem dX11_readsArc_0 : decode cX11_readsArc 0 = .ok (.aload_n 0, 1) := by decide +kernel
theorem dX11_readsArc_1 : decode cX11_readsArc 1 = .ok (.getfield 13, 3) := by decide +kernel
theorem dX11_readsArc_4 : decode cX11_readsArc 4 = .ok (.iconst 4, 1) := by decide +kernel
theorem dX11_readsArc_5 : decode cX11_readsArc 5 = .ok (.iaload, 1) := by decide +kernel
theorem dX11_readsArc_6 : decode cX11_readsArc 6 = .ok (.bipush 16, 2) := by decide +kernel
theorem dX11_readsArc_8 : decode cX11_readsArc 8 = .ok (.if_icmp .ne 9, 3) := by decide +kernel
theorem dX11_readsArc_11 : decode cX11_readsArc 11 = .ok (.aload_n 0, 1) := by decide +kernel
theorem dX11_readsArc_12 : decode cX11_readsArc 12 = .ok (.bipush (-4), 2) := by decide +kernel
theorem dX11_readsArc_14 : decode cX11_readsArc 14 = .ok (.invokevirtual 115, 3) := by decide +kernel
theorem dX11_readsArc_17 : decode cX11_readsArc 17 = .ok (.aload_n 0, 1) := by decide +kernel
theorem dX11_readsArc_18 : decode cX11_readsArc 18 = .ok (.iconst 1, 1) := by decide +kernel
theorem dX11_readsArc_19 : decode cX11_readsArc 19 = .ok (.invokevirtual 122, 3) := by decide +kernel
theorem dX11_readsArc_22 : decode cX11_readsArc 22 = .ok (.aload_n 0, 1) := by decide +kernel
theorem dX11_readsArc_23 : decode cX11_readsArc 23 = .ok (.iconst 0, 1) := by decide +kernel
theorem dX11_readsArc_24 : decode cX11_readsArc 24 = .ok (.aload_n 0, 1) := by decide +kernel
theorem dX11_readsArc_25 : decode cX11_readsArc 25 = .ok (.getfield 13, 3) := by decide +kernel
theorem dX11_readsArc_28 : decode cX11_readsArc 28 = .ok (.iconst 0, 1) := by decide +kernel
theorem dX11_readsArc_29 : decode cX11_readsArc 29 = .ok (.iaload, 1) := by decide +kernel
theorem dX11_readsArc_30 : decode cX11_readsArc 30 = .ok (.iconst 1, 1) := by decide +kernel
theorem dX11_readsArc_31 : decode cX11_readsArc 31 = .ok (.isub, 1) := by decide +kernel
theorem dX11_readsArc_32 : decode cX11_readsArc 32 = .ok (.iconst (-1), 1) := by decide +kernel
theorem dX11_readsArc_33 : decode cX11_readsArc 33 = .ok (.invokevirtual 126, 3) := by decide +kernel
theorem dX11_readsArc_36 : decode cX11_readsArc 36 = .ok (.istore_n 1, 1) := by decide +kernel
theorem dX11_readsArc_37 : decode cX11_readsArc 37 = .ok (.aload_n 0, 1) := by decide +kernel
theorem dX11_readsArc_38 : decode cX11_readsArc 38 = .ok (.iconst 0, 1) := by decide +kernel
theorem dX11_readsArc_39 : decode cX11_readsArc 39 = .ok (.aload_n 0, 1) := by decide +kernel
theorem dX11_readsArc_40 : decode cX11_readsArc 40 = .ok (.getfield 13, 3) := by decide +kernel
theorem dX11_readsArc_43 : decode cX11_readsArc 43 = .ok (.iconst 0, 1) := by decide +kernel
theorem dX11_readsArc_44 : decode cX11_readsArc 44 = .ok (.iaload, 1) := by decide +kernel
theorem dX11_readsArc_45 : decode cX11_readsArc 45 = .ok (.iconst 1, 1) := by decide +kernel
theorem dX11_readsArc_46 : decode cX11_readsArc 46 = .ok (.isub, 1) := by decide +kernel
theorem dX11_readsArc_47 : decode cX11_readsArc 47 = .ok (.iload_n 1, 1) := by decide +kernel
theorem dX11_readsArc_48 : decode cX11_readsArc 48 = .ok (.invokevirtual 126, 3) := by decide +kernel
theorem dX11_readsArc_51 : decode cX11_readsArc 51 = .ok (.istore_n 2, 1) := by decide +kernel
theorem dX11_readsArc_52 : decode cX11_readsArc 52 = .ok (.aload_n 0, 1) := by decide +kernel
theorem dX11_readsArc_53 : decode cX11_readsArc 53 = .ok (.iconst 0, 1) := by decide +kernel
theorem dX11_readsArc_54 : decode cX11_readsArc 54 = .ok (.bipush 99, 2) := by decide +kernel
theorem dX11_readsArc_56 : decode cX11_readsArc 56 = .ok (.iconst (-1), 1) := by decide +kernel
theorem dX11_readsArc_57 : decode cX11_readsArc 57 = .ok (.invokevirtual 126, 3) := by decide +kernel
theorem dX11_readsArc_60 : decode cX11_readsArc 60 = .ok (.istore_n 3, 1) := by decide +kernel
theorem dX11_readsArc_61 : decode cX11_readsArc 61 = .ok (.aload_n 0, 1) := by decide +kernel
theorem dX11_readsArc_62 : decode cX11_readsArc 62 = .ok (.iconst 0, 1) := by decide +kernel
theorem dX11_readsArc_63 : decode cX11_readsArc 63 = .ok (.bipush 99, 2) := by decide +kernel
theorem dX11_readsArc_65 : decode cX11_readsArc 65 = .ok (.iconst (-1), 1) := by decide +kernel
theorem dX11_readsArc_66 : decode cX11_readsArc 66 = .ok (.invokevirtual 126, 3) := by decide +kernel
theorem dX11_readsArc_69 : decode cX11_readsArc 69 = .ok (.istore 4, 2) := by decide +kernel
theorem dX11_readsArc_71 : decode cX11_readsArc 71 = .ok (.aload_n 0, 1) := by decide +kernel
theorem dX11_readsArc_72 : decode cX11_readsArc 72 = .ok (.getfield 99, 3) := by decide +kernel
theorem dX11_readsArc_75 : decode cX11_readsArc 75 = .ok (.ifCond .ne 15, 3) := by decide +kernel
theorem dX11_readsArc_78 : decode cX11_readsArc 78 = .ok (.aload_n 0, 1) := by decide +kernel
theorem dX11_readsArc_79 : decode cX11_readsArc 79 = .ok (.getfield 13, 3) := by decide +kernel
theorem dX11_readsArc_82 : decode cX11_readsArc 82 = .ok (.iload_n 1, 1) := by decide +kernel
theorem dX11_readsArc_83 : decode cX11_readsArc 83 = .ok (.iload_n 2, 1) := by decide +kernel
theorem dX11_readsArc_84 : decode cX11_readsArc 84 = .ok (.iload_n 3, 1) := by decide +kernel
theorem dX11_readsArc_85 : decode cX11_readsArc 85 = .ok (.iload 4, 2) := by decide +kernel
theorem dX11_readsArc_87 : decode cX11_readsArc 87 = .ok (.invokestatic 130, 3) := by decide +kernel
theorem dX11_readsArc_90 : decode cX11_readsArc 90 = .ok (.return_, 1) := by decide +kernel
theorem dX11_readsRoute_0 : decode cX11_readsRoute 0 = .ok (.aload_n 0, 1) := by decide +kernel
theorem dX11_readsRoute_1 : decode cX11_readsRoute 1 = .ok (.getfield 13, 3) := by decide +kernel
theorem dX11_readsRoute_4 : decode cX11_readsRoute 4 = .ok (.bipush 69, 2) := by decide +kernel
theorem dX11_readsRoute_6 : decode cX11_readsRoute 6 = .ok (.iaload, 1) := by decide +kernel
theorem dX11_readsRoute_7 : decode cX11_readsRoute 7 = .ok (.bipush 6, 2) := by decide +kernel
theorem dX11_readsRoute_9 : decode cX11_readsRoute 9 = .ok (.if_icmp .ne 9, 3) := by decide +kernel
theorem dX11_readsRoute_12 : decode cX11_readsRoute 12 = .ok (.aload_n 0, 1) := by decide +kernel
theorem dX11_readsRoute_13 : decode cX11_readsRoute 13 = .ok (.bipush (-4), 2) := by decide +kernel
theorem dX11_readsRoute_15 : decode cX11_readsRoute 15 = .ok (.invokevirtual 115, 3) := by decide +kernel
theorem dX11_readsRoute_18 : decode cX11_readsRoute 18 = .ok (.aload_n 0, 1) := by decide +kernel
theorem dX11_readsRoute_19 : decode cX11_readsRoute 19 = .ok (.iconst 1, 1) := by decide +kernel
theorem dX11_readsRoute_20 : decode cX11_readsRoute 20 = .ok (.invokevirtual 122, 3) := by decide +kernel
theorem dX11_readsRoute_23 : decode cX11_readsRoute 23 = .ok (.aload_n 0, 1) := by decide +kernel
theorem dX11_readsRoute_24 : decode cX11_readsRoute 24 = .ok (.getfield 13, 3) := by decide +kernel
theorem dX11_readsRoute_27 : decode cX11_readsRoute 27 = .ok (.bipush 118, 2) := by decide +kernel
theorem dX11_readsRoute_29 : decode cX11_readsRoute 29 = .ok (.iconst 0, 1) := by decide +kernel
theorem dX11_readsRoute_30 : decode cX11_readsRoute 30 = .ok (.iastore, 1) := by decide +kernel
theorem dX11_readsRoute_31 : decode cX11_readsRoute 31 = .ok (.aload_n 0, 1) := by decide +kernel
theorem dX11_readsRoute_32 : decode cX11_readsRoute 32 = .ok (.getfield 99, 3) := by decide +kernel
theorem dX11_readsRoute_35 : decode cX11_readsRoute 35 = .ok (.ifCond .ne 7, 3) := by decide +kernel
theorem dX11_readsRoute_38 : decode cX11_readsRoute 38 = .ok (.iconst 1, 1) := by decide +kernel
theorem dX11_readsRoute_39 : decode cX11_readsRoute 39 = .ok (.goto 4, 3) := by decide +kernel
theorem dX11_readsRoute_42 : decode cX11_readsRoute 42 = .ok (.iconst 0, 1) := by decide +kernel
theorem dX11_readsRoute_43 : decode cX11_readsRoute 43 = .ok (.istore_n 1, 1) := by decide +kernel
theorem dX11_readsRoute_44 : decode cX11_readsRoute 44 = .ok (.iload_n 1, 1) := by decide +kernel
theorem dX11_readsRoute_45 : decode cX11_readsRoute 45 = .ok (.ifCond .eq 73, 3) := by decide +kernel
theorem dX11_readsRoute_48 : decode cX11_readsRoute 48 = .ok (.aload_n 0, 1) := by decide +kernel
theorem dX11_readsRoute_49 : decode cX11_readsRoute 49 = .ok (.getfield 86, 3) := by decide +kernel
theorem dX11_readsRoute_52 : decode cX11_readsRoute 52 = .ok (.iconst 1, 1) := by decide +kernel
theorem dX11_readsRoute_53 : decode cX11_readsRoute 53 = .ok (.if_icmp .ne 23, 3) := by decide +kernel
theorem dX11_readsRoute_56 : decode cX11_readsRoute 56 = .ok (.aload_n 0, 1) := by decide +kernel
theorem dX11_readsRoute_57 : decode cX11_readsRoute 57 = .ok (.getfield 13, 3) := by decide +kernel
theorem dX11_readsRoute_60 : decode cX11_readsRoute 60 = .ok (.aload_n 0, 1) := by decide +kernel
theorem dX11_readsRoute_61 : decode cX11_readsRoute 61 = .ok (.getfield 96, 3) := by decide +kernel
theorem dX11_readsRoute_64 : decode cX11_readsRoute 64 = .ok (.invokestatic 134, 3) := by decide +kernel
theorem dX11_readsRoute_67 : decode cX11_readsRoute 67 = .ok (.ifCond .ne 9, 3) := by decide +kernel
theorem dX11_readsRoute_70 : decode cX11_readsRoute 70 = .ok (.aload_n 0, 1) := by decide +kernel
theorem dX11_readsRoute_71 : decode cX11_readsRoute 71 = .ok (.bipush (-3), 2) := by decide +kernel
theorem dX11_readsRoute_73 : decode cX11_readsRoute 73 = .ok (.invokevirtual 115, 3) := by decide +kernel
theorem dX11_readsRoute_76 : decode cX11_readsRoute 76 = .ok (.aload_n 0, 1) := by decide +kernel
theorem dX11_readsRoute_77 : decode cX11_readsRoute 77 = .ok (.iconst 0, 1) := by decide +kernel
theorem dX11_readsRoute_78 : decode cX11_readsRoute 78 = .ok (.bipush 16, 2) := by decide +kernel
theorem dX11_readsRoute_80 : decode cX11_readsRoute 80 = .ok (.iconst (-1), 1) := by decide +kernel
theorem dX11_readsRoute_81 : decode cX11_readsRoute 81 = .ok (.invokevirtual 126, 3) := by decide +kernel
theorem dX11_readsRoute_84 : decode cX11_readsRoute 84 = .ok (.istore_n 2, 1) := by decide +kernel
theorem dX11_readsRoute_85 : decode cX11_readsRoute 85 = .ok (.aload_n 0, 1) := by decide +kernel
theorem dX11_readsRoute_86 : decode cX11_readsRoute 86 = .ok (.getfield 99, 3) := by decide +kernel
theorem dX11_readsRoute_89 : decode cX11_readsRoute 89 = .ok (.ifCond .eq 4, 3) := by decide +kernel
theorem dX11_readsRoute_92 : decode cX11_readsRoute 92 = .ok (.return_, 1) := by decide +kernel
theorem dX11_readsRoute_93 : decode cX11_readsRoute 93 = .ok (.aload_n 0, 1) := by decide +kernel
theorem dX11_readsRoute_94 : decode cX11_readsRoute 94 = .ok (.getfield 13, 3) := by decide +kernel
theorem dX11_readsRoute_97 : decode cX11_readsRoute 97 = .ok (.iload_n 2, 1) := by decide +kernel
theorem dX11_readsRoute_98 : decode cX11_readsRoute 98 = .ok (.invokestatic 138, 3) := by decide +kernel
theorem dX11_readsRoute_101 : decode cX11_readsRoute 101 = .ok (.aload_n 0, 1) := by decide +kernel
theorem dX11_readsRoute_102 : decode cX11_readsRoute 102 = .ok (.getfield 86, 3) := by decide +kernel
theorem dX11_readsRoute_105 : decode cX11_readsRoute 105 = .ok (.iconst 1, 1) := by decide +kernel
theorem dX11_readsRoute_106 : decode cX11_readsRoute 106 = .ok (.if_icmp .ne 7, 3) := by decide +kernel
theorem dX11_readsRoute_109 : decode cX11_readsRoute 109 = .ok (.iconst 1, 1) := by decide +kernel
theorem dX11_readsRoute_110 : decode cX11_readsRoute 110 = .ok (.goto 4, 3) := by decide +kernel
theorem dX11_readsRoute_113 : decode cX11_readsRoute 113 = .ok (.iconst 0, 1) := by decide +kernel
theorem dX11_readsRoute_114 : decode cX11_readsRoute 114 = .ok (.istore_n 1, 1) := by decide +kernel
theorem dX11_readsRoute_115 : decode cX11_readsRoute 115 = .ok (.goto (-71), 3) := by decide +kernel
theorem dX11_readsRoute_118 : decode cX11_readsRoute 118 = .ok (.aload_n 0, 1) := by decide +kernel
theorem dX11_readsRoute_119 : decode cX11_readsRoute 119 = .ok (.invokevirtual 141, 3) := by decide +kernel
theorem dX11_readsRoute_122 : decode cX11_readsRoute 122 = .ok (.ifCond .eq 25, 3) := by decide +kernel
theorem dX11_readsRoute_125 : decode cX11_readsRoute 125 = .ok (.aload_n 0, 1) := by decide +kernel
theorem dX11_readsRoute_126 : decode cX11_readsRoute 126 = .ok (.getfield 13, 3) := by decide +kernel
theorem dX11_readsRoute_129 : decode cX11_readsRoute 129 = .ok (.invokestatic 145, 3) := by decide +kernel
theorem dX11_readsRoute_132 : decode cX11_readsRoute 132 = .ok (.aload_n 0, 1) := by decide +kernel
theorem dX11_readsRoute_133 : decode cX11_readsRoute 133 = .ok (.getfield 13, 3) := by decide +kernel
theorem dX11_readsRoute_136 : decode cX11_readsRoute 136 = .ok (.iconst 2, 1) := by decide +kernel
theorem dX11_readsRoute_137 : decode cX11_readsRoute 137 = .ok (.iaload, 1) := by decide +kernel
theorem dX11_readsRoute_138 : decode cX11_readsRoute 138 = .ok (.if_icmp .eq 9, 3) := by decide +kernel
theorem dX11_readsRoute_141 : decode cX11_readsRoute 141 = .ok (.aload_n 0, 1) := by decide +kernel
theorem dX11_readsRoute_142 : decode cX11_readsRoute 142 = .ok (.bipush (-2), 2) := by decide +kernel
theorem dX11_readsRoute_144 : decode cX11_readsRoute 144 = .ok (.invokevirtual 115, 3) := by decide +kernel
theorem dX11_readsRoute_147 : decode cX11_readsRoute 147 = .ok (.aload_n 0, 1) := by decide +kernel
theorem dX11_readsRoute_148 : decode cX11_readsRoute 148 = .ok (.invokevirtual 141, 3) := by decide +kernel
theorem dX11_readsRoute_151 : decode cX11_readsRoute 151 = .ok (.ifCond .eq 20, 3) := by decide +kernel
theorem dX11_readsRoute_154 : decode cX11_readsRoute 154 = .ok (.aload_n 0, 1) := by decide +kernel
theorem dX11_readsRoute_155 : decode cX11_readsRoute 155 = .ok (.getfield 13, 3) := by decide +kernel
theorem dX11_readsRoute_158 : decode cX11_readsRoute 158 = .ok (.invokestatic 149, 3) := by decide +kernel
theorem dX11_readsRoute_161 : decode cX11_readsRoute 161 = .ok (.iconst (-1), 1) := by decide +kernel
theorem dX11_readsRoute_162 : decode cX11_readsRoute 162 = .ok (.if_icmp .eq 9, 3) := by decide +kernel
theorem dX11_readsRoute_165 : decode cX11_readsRoute 165 = .ok (.aload_n 0, 1) := by decide +kernel
theorem dX11_readsRoute_166 : decode cX11_readsRoute 166 = .ok (.bipush (-3), 2) := by decide +kernel
theorem dX11_readsRoute_168 : decode cX11_readsRoute 168 = .ok (.invokevirtual 115, 3) := by decide +kernel
theorem dX11_readsRoute_171 : decode cX11_readsRoute 171 = .ok (.aload_n 0, 1) := by decide +kernel
theorem dX11_readsRoute_172 : decode cX11_readsRoute 172 = .ok (.invokevirtual 141, 3) := by decide +kernel
theorem dX11_readsRoute_175 : decode cX11_readsRoute 175 = .ok (.ifCond .eq 10, 3) := by decide +kernel
theorem dX11_readsRoute_178 : decode cX11_readsRoute 178 = .ok (.aload_n 0, 1) := by decide +kernel
theorem dX11_readsRoute_179 : decode cX11_readsRoute 179 = .ok (.getfield 13, 3) := by decide +kernel
theorem dX11_readsRoute_182 : decode cX11_readsRoute 182 = .ok (.invokestatic 152, 3) := by decide +kernel
theorem dX11_readsRoute_185 : decode cX11_readsRoute 185 = .ok (.return_, 1) := by decide +kernel
theorem dX11_readsStatement_0 : decode cX11_readsStatement 0 = .ok (.aload_n 0, 1) := by decide +kernel
theorem dX11_readsStatement_1 : decode cX11_readsStatement 1 = .ok (.ldc 155, 2) := by decide +kernel
theorem dX11_readsStatement_3 : decode cX11_readsStatement 3 = .ok (.invokevirtual 157, 3) := by decide +kernel
theorem dX11_readsStatement_6 : decode cX11_readsStatement 6 = .ok (.ifCond .eq 25, 3) := by decide +kernel
theorem dX11_readsStatement_9 : decode cX11_readsStatement 9 = .ok (.aload_n 0, 1) := by decide +kernel
theorem dX11_readsStatement_10 : decode cX11_readsStatement 10 = .ok (.iconst 1, 1) := by decide +kernel
theorem dX11_readsStatement_11 : decode cX11_readsStatement 11 = .ok (.invokevirtual 122, 3) := by decide +kernel
theorem dX11_readsStatement_14 : decode cX11_readsStatement 14 = .ok (.aload_n 0, 1) := by decide +kernel
theorem dX11_readsStatement_15 : decode cX11_readsStatement 15 = .ok (.getfield 13, 3) := by decide +kernel
theorem dX11_readsStatement_18 : decode cX11_readsStatement 18 = .ok (.iconst 3, 1) := by decide +kernel
theorem dX11_readsStatement_19 : decode cX11_readsStatement 19 = .ok (.aload_n 0, 1) := by decide +kernel
theorem dX11_readsStatement_20 : decode cX11_readsStatement 20 = .ok (.iconst 0, 1) := by decide +kernel
theorem dX11_readsStatement_21 : decode cX11_readsStatement 21 = .ok (.bipush 6, 2) := by decide +kernel
theorem dX11_readsStatement_23 : decode cX11_readsStatement 23 = .ok (.iconst (-1), 1) := by decide +kernel
theorem dX11_readsStatement_24 : decode cX11_readsStatement 24 = .ok (.invokevirtual 126, 3) := by decide +kernel
theorem dX11_readsStatement_27 : decode cX11_readsStatement 27 = .ok (.iastore, 1) := by decide +kernel
theorem dX11_readsStatement_28 : decode cX11_readsStatement 28 = .ok (.goto 41, 3) := by decide +kernel
theorem dX11_readsStatement_31 : decode cX11_readsStatement 31 = .ok (.aload_n 0, 1) := by decide +kernel
theorem dX11_readsStatement_32 : decode cX11_readsStatement 32 = .ok (.ldc 161, 2) := by decide +kernel
theorem dX11_readsStatement_34 : decode cX11_readsStatement 34 = .ok (.invokevirtual 157, 3) := by decide +kernel
theorem dX11_readsStatement_37 : decode cX11_readsStatement 37 = .ok (.ifCond .eq 10, 3) := by decide +kernel
theorem dX11_readsStatement_40 : decode cX11_readsStatement 40 = .ok (.aload_n 0, 1) := by decide +kernel
theorem dX11_readsStatement_41 : decode cX11_readsStatement 41 = .ok (.invokevirtual 163, 3) := by decide +kernel
theorem dX11_readsStatement_44 : decode cX11_readsStatement 44 = .ok (.goto 25, 3) := by decide +kernel
theorem dX11_readsStatement_47 : decode cX11_readsStatement 47 = .ok (.aload_n 0, 1) := by decide +kernel
theorem dX11_readsStatement_48 : decode cX11_readsStatement 48 = .ok (.ldc 166, 2) := by decide +kernel
theorem dX11_readsStatement_50 : decode cX11_readsStatement 50 = .ok (.invokevirtual 157, 3) := by decide +kernel
theorem dX11_readsStatement_53 : decode cX11_readsStatement 53 = .ok (.ifCond .eq 10, 3) := by decide +kernel
theorem dX11_readsStatement_56 : decode cX11_readsStatement 56 = .ok (.aload_n 0, 1) := by decide +kernel
theorem dX11_readsStatement_57 : decode cX11_readsStatement 57 = .ok (.invokevirtual 168, 3) := by decide +kernel
theorem dX11_readsStatement_60 : decode cX11_readsStatement 60 = .ok (.goto 9, 3) := by decide +kernel
theorem dX11_readsStatement_63 : decode cX11_readsStatement 63 = .ok (.aload_n 0, 1) := by decide +kernel
theorem dX11_readsStatement_64 : decode cX11_readsStatement 64 = .ok (.bipush (-2), 2) := by decide +kernel
theorem dX11_readsStatement_66 : decode cX11_readsStatement 66 = .ok (.invokevirtual 115, 3) := by decide +kernel
theorem dX11_readsStatement_69 : decode cX11_readsStatement 69 = .ok (.aload_n 0, 1) := by decide +kernel
theorem dX11_readsStatement_70 : decode cX11_readsStatement 70 = .ok (.aload_n 0, 1) := by decide +kernel
theorem dX11_readsStatement_71 : decode cX11_readsStatement 71 = .ok (.invokevirtual 141, 3) := by decide +kernel
theorem dX11_readsStatement_74 : decode cX11_readsStatement 74 = .ok (.invokevirtual 122, 3) := by decide +kernel
theorem dX11_readsStatement_77 : decode cX11_readsStatement 77 = .ok (.return_, 1) := by decide +kernel
theorem dX11_load_0 : decode cX11_load 0 = .ok (.aload_n 0, 1) := by decide +kernel
theorem dX11_load_1 : decode cX11_load 1 = .ok (.iload_n 1, 1) := by decide +kernel
theorem dX11_load_2 : decode cX11_load 2 = .ok (.iconst 0, 1) := by decide +kernel
theorem dX11_load_3 : decode cX11_load 3 = .ok (.aload_n 0, 1) := by decide +kernel
theorem dX11_load_4 : decode cX11_load 4 = .ok (.getfield 66, 3) := by decide +kernel
theorem dX11_load_7 : decode cX11_load 7 = .ok (.invokestatic 72, 3) := by decide +kernel
theorem dX11_load_10 : decode cX11_load 10 = .ok (.ifCond .eq 7, 3) := by decide +kernel
theorem dX11_load_13 : decode cX11_load 13 = .ok (.iconst 0, 1) := by decide +kernel
theorem dX11_load_14 : decode cX11_load 14 = .ok (.goto 4, 3) := by decide +kernel
theorem dX11_load_17 : decode cX11_load 17 = .ok (.iconst 1, 1) := by decide +kernel
theorem dX11_load_18 : decode cX11_load 18 = .ok (.putfield 56, 3) := by decide +kernel
theorem dX11_load_21 : decode cX11_load 21 = .ok (.aload_n 0, 1) := by decide +kernel
theorem dX11_load_22 : decode cX11_load 22 = .ok (.getfield 56, 3) := by decide +kernel
theorem dX11_load_25 : decode cX11_load 25 = .ok (.ifCond .le 5, 3) := by decide +kernel
theorem dX11_load_28 : decode cX11_load 28 = .ok (.iconst 0, 1) := by decide +kernel
theorem dX11_load_29 : decode cX11_load 29 = .ok (.ireturn, 1) := by decide +kernel
theorem dX11_load_30 : decode cX11_load 30 = .ok (.aload_n 0, 1) := by decide +kernel
theorem dX11_load_31 : decode cX11_load 31 = .ok (.iload_n 1, 1) := by decide +kernel
theorem dX11_load_32 : decode cX11_load 32 = .ok (.putfield 69, 3) := by decide +kernel
theorem dX11_load_35 : decode cX11_load 35 = .ok (.aload_n 0, 1) := by decide +kernel
theorem dX11_load_36 : decode cX11_load 36 = .ok (.iconst 0, 1) := by decide +kernel
theorem dX11_load_37 : decode cX11_load 37 = .ok (.putfield 66, 3) := by decide +kernel
theorem dX11_load_40 : decode cX11_load 40 = .ok (.aload_n 0, 1) := by decide +kernel
theorem dX11_load_41 : decode cX11_load 41 = .ok (.iconst 0, 1) := by decide +kernel
theorem dX11_load_42 : decode cX11_load 42 = .ok (.putfield 76, 3) := by decide +kernel
theorem dX11_load_45 : decode cX11_load 45 = .ok (.aload_n 0, 1) := by decide +kernel
theorem dX11_load_46 : decode cX11_load 46 = .ok (.iconst 0, 1) := by decide +kernel
theorem dX11_load_47 : decode cX11_load 47 = .ok (.putfield 99, 3) := by decide +kernel
theorem dX11_load_50 : decode cX11_load 50 = .ok (.aload_n 0, 1) := by decide +kernel
theorem dX11_load_51 : decode cX11_load 51 = .ok (.invokevirtual 119, 3) := by decide +kernel
theorem dX11_load_54 : decode cX11_load 54 = .ok (.aload_n 0, 1) := by decide +kernel
theorem dX11_load_55 : decode cX11_load 55 = .ok (.aload_n 0, 1) := by decide +kernel
theorem dX11_load_56 : decode cX11_load 56 = .ok (.ldc 171, 2) := by decide +kernel
theorem dX11_load_58 : decode cX11_load 58 = .ok (.invokevirtual 157, 3) := by decide +kernel
theorem dX11_load_61 : decode cX11_load 61 = .ok (.invokevirtual 122, 3) := by decide +kernel
theorem dX11_load_64 : decode cX11_load 64 = .ok (.aload_n 0, 1) := by decide +kernel
theorem dX11_load_65 : decode cX11_load 65 = .ok (.iconst 2, 1) := by decide +kernel
theorem dX11_load_66 : decode cX11_load 66 = .ok (.bipush 8, 2) := by decide +kernel
theorem dX11_load_68 : decode cX11_load 68 = .ok (.iconst (-1), 1) := by decide +kernel
theorem dX11_load_69 : decode cX11_load 69 = .ok (.invokevirtual 126, 3) := by decide +kernel
theorem dX11_load_72 : decode cX11_load 72 = .ok (.istore_n 2, 1) := by decide +kernel
theorem dX11_load_73 : decode cX11_load 73 = .ok (.aload_n 0, 1) := by decide +kernel
theorem dX11_load_74 : decode cX11_load 74 = .ok (.iconst 0, 1) := by decide +kernel
theorem dX11_load_75 : decode cX11_load 75 = .ok (.iload_n 2, 1) := by decide +kernel
theorem dX11_load_76 : decode cX11_load 76 = .ok (.iconst 1, 1) := by decide +kernel
theorem dX11_load_77 : decode cX11_load 77 = .ok (.isub, 1) := by decide +kernel
theorem dX11_load_78 : decode cX11_load 78 = .ok (.iconst (-1), 1) := by decide +kernel
theorem dX11_load_79 : decode cX11_load 79 = .ok (.invokevirtual 126, 3) := by decide +kernel
theorem dX11_load_82 : decode cX11_load 82 = .ok (.istore_n 3, 1) := by decide +kernel
theorem dX11_load_83 : decode cX11_load 83 = .ok (.aload_n 0, 1) := by decide +kernel
theorem dX11_load_84 : decode cX11_load 84 = .ok (.iload_n 2, 1) := by decide +kernel
theorem dX11_load_85 : decode cX11_load 85 = .ok (.iload_n 3, 1) := by decide +kernel
theorem dX11_load_86 : decode cX11_load 86 = .ok (.aload_n 0, 1) := by decide +kernel
theorem dX11_load_87 : decode cX11_load 87 = .ok (.iconst 0, 1) := by decide +kernel
theorem dX11_load_88 : decode cX11_load 88 = .ok (.iload_n 2, 1) := by decide +kernel
theorem dX11_load_89 : decode cX11_load 89 = .ok (.iconst 1, 1) := by decide +kernel
theorem dX11_load_90 : decode cX11_load 90 = .ok (.isub, 1) := by decide +kernel
theorem dX11_load_91 : decode cX11_load 91 = .ok (.iload_n 3, 1) := by decide +kernel
theorem dX11_load_92 : decode cX11_load 92 = .ok (.invokevirtual 126, 3) := by decide +kernel
theorem dX11_load_95 : decode cX11_load 95 = .ok (.invokevirtual 44, 3) := by decide +kernel
theorem dX11_load_98 : decode cX11_load 98 = .ok (.aload_n 0, 1) := by decide +kernel
theorem dX11_load_99 : decode cX11_load 99 = .ok (.aload_n 0, 1) := by decide +kernel
theorem dX11_load_100 : decode cX11_load 100 = .ok (.invokevirtual 141, 3) := by decide +kernel
theorem dX11_load_103 : decode cX11_load 103 = .ok (.invokevirtual 122, 3) := by decide +kernel
theorem dX11_load_106 : decode cX11_load 106 = .ok (.aload_n 0, 1) := by decide +kernel
theorem dX11_load_107 : decode cX11_load 107 = .ok (.getfield 99, 3) := by decide +kernel
theorem dX11_load_110 : decode cX11_load 110 = .ok (.ifCond .ne 18, 3) := by decide +kernel
theorem dX11_load_113 : decode cX11_load 113 = .ok (.aload_n 0, 1) := by decide +kernel
theorem dX11_load_114 : decode cX11_load 114 = .ok (.getfield 86, 3) := by decide +kernel
theorem dX11_load_117 : decode cX11_load 117 = .ok (.iconst 3, 1) := by decide +kernel
theorem dX11_load_118 : decode cX11_load 118 = .ok (.if_icmp .eq 10, 3) := by decide +kernel
theorem dX11_load_121 : decode cX11_load 121 = .ok (.aload_n 0, 1) := by decide +kernel
theorem dX11_load_122 : decode cX11_load 122 = .ok (.invokevirtual 173, 3) := by decide +kernel
theorem dX11_load_125 : decode cX11_load 125 = .ok (.goto (-19), 3) := by decide +kernel
theorem dX11_load_128 : decode cX11_load 128 = .ok (.aload_n 0, 1) := by decide +kernel
theorem dX11_load_129 : decode cX11_load 129 = .ok (.aload_n 0, 1) := by decide +kernel
theorem dX11_load_130 : decode cX11_load 130 = .ok (.getfield 99, 3) := by decide +kernel
theorem dX11_load_133 : decode cX11_load 133 = .ok (.ifCond .ne 7, 3) := by decide +kernel
theorem dX11_load_136 : decode cX11_load 136 = .ok (.iconst (-1), 1) := by decide +kernel
theorem dX11_load_137 : decode cX11_load 137 = .ok (.goto 7, 3) := by decide +kernel
theorem dX11_load_140 : decode cX11_load 140 = .ok (.aload_n 0, 1) := by decide +kernel
theorem dX11_load_141 : decode cX11_load 141 = .ok (.getfield 112, 3) := by decide +kernel
theorem dX11_load_144 : decode cX11_load 144 = .ok (.putfield 22, 3) := by decide +kernel
theorem dX11_load_147 : decode cX11_load 147 = .ok (.aload_n 0, 1) := by decide +kernel
theorem dX11_load_148 : decode cX11_load 148 = .ok (.getfield 99, 3) := by decide +kernel
theorem dX11_load_151 : decode cX11_load 151 = .ok (.ifCond .eq 8, 3) := by decide +kernel
theorem dX11_load_154 : decode cX11_load 154 = .ok (.aload_n 0, 1) := by decide +kernel
theorem dX11_load_155 : decode cX11_load 155 = .ok (.getfield 99, 3) := by decide +kernel
theorem dX11_load_158 : decode cX11_load 158 = .ok (.ireturn, 1) := by decide +kernel
theorem dX11_load_159 : decode cX11_load 159 = .ok (.aload_n 0, 1) := by decide +kernel
theorem dX11_load_160 : decode cX11_load 160 = .ok (.getfield 13, 3) := by decide +kernel
theorem dX11_load_163 : decode cX11_load 163 = .ok (.bipush 118, 2) := by decide +kernel
theorem dX11_load_165 : decode cX11_load 165 = .ok (.iconst 0, 1) := by decide +kernel
theorem dX11_load_166 : decode cX11_load 166 = .ok (.iastore, 1) := by decide +kernel
theorem dX11_load_167 : decode cX11_load 167 = .ok (.aload_n 0, 1) := by decide +kernel
theorem dX11_load_168 : decode cX11_load 168 = .ok (.getfield 13, 3) := by decide +kernel
theorem dX11_load_171 : decode cX11_load 171 = .ok (.invokestatic 52, 3) := by decide +kernel
theorem dX11_load_174 : decode cX11_load 174 = .ok (.aload_n 0, 1) := by decide +kernel
theorem dX11_load_175 : decode cX11_load 175 = .ok (.invokevirtual 176, 3) := by decide +kernel
theorem dX11_load_178 : decode cX11_load 178 = .ok (.aload_n 0, 1) := by decide +kernel
theorem dX11_load_179 : decode cX11_load 179 = .ok (.aload_n 0, 1) := by decide +kernel
theorem dX11_load_180 : decode cX11_load 180 = .ok (.getfield 13, 3) := by decide +kernel
theorem dX11_load_183 : decode cX11_load 183 = .ok (.iconst 0, 1) := by decide +kernel
theorem dX11_load_184 : decode cX11_load 184 = .ok (.invokevirtual 48, 3) := by decide +kernel
theorem dX11_load_187 : decode cX11_load 187 = .ok (.aload_n 0, 1) := by decide +kernel
theorem dX11_load_188 : decode cX11_load 188 = .ok (.getfield 7, 3) := by decide +kernel
theorem dX11_load_191 : decode cX11_load 191 = .ok (.iconst 4, 1) := by decide +kernel
theorem dX11_load_192 : decode cX11_load 192 = .ok (.iaload, 1) := by decide +kernel
theorem dX11_load_193 : decode cX11_load 193 = .ok (.ireturn, 1) := by decide +kernel
theorem dX11_errorPosition_0 : decode cX11_errorPosition 0 = .ok (.aload_n 0, 1) := by decide +kernel
theorem dX11_errorPosition_1 : decode cX11_errorPosition 1 = .ok (.iconst 0, 1) := by decide +kernel
theorem dX11_errorPosition_2 : decode cX11_errorPosition 2 = .ok (.putfield 56, 3) := by decide +kernel
theorem dX11_errorPosition_5 : decode cX11_errorPosition 5 = .ok (.aload_n 0, 1) := by decide +kernel
theorem dX11_errorPosition_6 : decode cX11_errorPosition 6 = .ok (.getfield 22, 3) := by decide +kernel
theorem dX11_errorPosition_9 : decode cX11_errorPosition 9 = .ok (.ireturn, 1) := by decide +kernel
theorem dX11_arcOf_0 : decode cX11_arcOf 0 = .ok (.aload_n 0, 1) := by decide +kernel
theorem dX11_arcOf_1 : decode cX11_arcOf 1 = .ok (.iconst 5, 1) := by decide +kernel
theorem dX11_arcOf_2 : decode cX11_arcOf 2 = .ok (.iconst 4, 1) := by decide +kernel
theorem dX11_arcOf_3 : decode cX11_arcOf 3 = .ok (.iload_n 1, 1) := by decide +kernel
theorem dX11_arcOf_4 : decode cX11_arcOf 4 = .ok (.imul, 1) := by decide +kernel
theorem dX11_arcOf_5 : decode cX11_arcOf 5 = .ok (.iadd, 1) := by decide +kernel
theorem dX11_arcOf_6 : decode cX11_arcOf 6 = .ok (.iload_n 2, 1) := by decide +kernel
theorem dX11_arcOf_7 : decode cX11_arcOf 7 = .ok (.iadd, 1) := by decide +kernel
theorem dX11_arcOf_8 : decode cX11_arcOf 8 = .ok (.iaload, 1) := by decide +kernel
theorem dX11_arcOf_9 : decode cX11_arcOf 9 = .ok (.ireturn, 1) := by decide +kernel
theorem dX11_of_0 : decode cX11_of 0 = .ok (.aload_n 0, 1) := by decide +kernel
theorem dX11_of_1 : decode cX11_of 1 = .ok (.getfield 7, 3) := by decide +kernel
theorem dX11_of_4 : decode cX11_of 4 = .ok (.iload_n 1, 1) := by decide +kernel
theorem dX11_of_5 : decode cX11_of 5 = .ok (.iload_n 2, 1) := by decide +kernel
theorem dX11_of_6 : decode cX11_of 6 = .ok (.invokestatic 179, 3) := by decide +kernel
theorem dX11_of_9 : decode cX11_of 9 = .ok (.ireturn, 1) := by decide +kernel
theorem dX11_isNode_0 : decode cX11_isNode 0 = .ok (.iload_n 1, 1) := by decide +kernel
theorem dX11_isNode_1 : decode cX11_isNode 1 = .ok (.iconst 0, 1) := by decide +kernel
theorem dX11_isNode_2 : decode cX11_isNode 2 = .ok (.aload_n 0, 1) := by decide +kernel
theorem dX11_isNode_3 : decode cX11_isNode 3 = .ok (.getfield 7, 3) := by decide +kernel
theorem dX11_isNode_6 : decode cX11_isNode 6 = .ok (.iconst 0, 1) := by decide +kernel
theorem dX11_isNode_7 : decode cX11_isNode 7 = .ok (.iaload, 1) := by decide +kernel
theorem dX11_isNode_8 : decode cX11_isNode 8 = .ok (.iconst 1, 1) := by decide +kernel
theorem dX11_isNode_9 : decode cX11_isNode 9 = .ok (.isub, 1) := by decide +kernel
theorem dX11_isNode_10 : decode cX11_isNode 10 = .ok (.invokestatic 72, 3) := by decide +kernel
theorem dX11_isNode_13 : decode cX11_isNode 13 = .ok (.ireturn, 1) := by decide +kernel
theorem dX11_isArc_0 : decode cX11_isArc 0 = .ok (.iload_n 1, 1) := by decide +kernel
theorem dX11_isArc_1 : decode cX11_isArc 1 = .ok (.iconst 0, 1) := by decide +kernel
theorem dX11_isArc_2 : decode cX11_isArc 2 = .ok (.aload_n 0, 1) := by decide +kernel
theorem dX11_isArc_3 : decode cX11_isArc 3 = .ok (.getfield 7, 3) := by decide +kernel
theorem dX11_isArc_6 : decode cX11_isArc 6 = .ok (.iconst 4, 1) := by decide +kernel
theorem dX11_isArc_7 : decode cX11_isArc 7 = .ok (.iaload, 1) := by decide +kernel
theorem dX11_isArc_8 : decode cX11_isArc 8 = .ok (.iconst 1, 1) := by decide +kernel
theorem dX11_isArc_9 : decode cX11_isArc 9 = .ok (.isub, 1) := by decide +kernel
theorem dX11_isArc_10 : decode cX11_isArc 10 = .ok (.invokestatic 72, 3) := by decide +kernel
theorem dX11_isArc_13 : decode cX11_isArc 13 = .ok (.ireturn, 1) := by decide +kernel
theorem dX11_isTold_0 : decode cX11_isTold 0 = .ok (.iload_n 1, 1) := by decide +kernel
theorem dX11_isTold_1 : decode cX11_isTold 1 = .ok (.iconst 0, 1) := by decide +kernel
theorem dX11_isTold_2 : decode cX11_isTold 2 = .ok (.aload_n 0, 1) := by decide +kernel
theorem dX11_isTold_3 : decode cX11_isTold 3 = .ok (.getfield 7, 3) := by decide +kernel
theorem dX11_isTold_6 : decode cX11_isTold 6 = .ok (.bipush 69, 2) := by decide +kernel
theorem dX11_isTold_8 : decode cX11_isTold 8 = .ok (.iaload, 1) := by decide +kernel
theorem dX11_isTold_9 : decode cX11_isTold 9 = .ok (.iconst 1, 1) := by decide +kernel
theorem dX11_isTold_10 : decode cX11_isTold 10 = .ok (.isub, 1) := by decide +kernel
theorem dX11_isTold_11 : decode cX11_isTold 11 = .ok (.invokestatic 72, 3) := by decide +kernel
theorem dX11_isTold_14 : decode cX11_isTold 14 = .ok (.ireturn, 1) := by decide +kernel
theorem dX11_addsArc_0 : decode cX11_addsArc 0 = .ok (.iconst 5, 1) := by decide +kernel
theorem dX11_addsArc_1 : decode cX11_addsArc 1 = .ok (.iconst 4, 1) := by decide +kernel
theorem dX11_addsArc_2 : decode cX11_addsArc 2 = .ok (.aload_n 0, 1) := by decide +kernel
theorem dX11_addsArc_3 : decode cX11_addsArc 3 = .ok (.iconst 4, 1) := by decide +kernel
theorem dX11_addsArc_4 : decode cX11_addsArc 4 = .ok (.iaload, 1) := by decide +kernel
theorem dX11_addsArc_5 : decode cX11_addsArc 5 = .ok (.imul, 1) := by decide +kernel
theorem dX11_addsArc_6 : decode cX11_addsArc 6 = .ok (.iadd, 1) := by decide +kernel
theorem dX11_addsArc_7 : decode cX11_addsArc 7 = .ok (.istore 5, 2) := by decide +kernel
theorem dX11_addsArc_9 : decode cX11_addsArc 9 = .ok (.aload_n 0, 1) := by decide +kernel
theorem dX11_addsArc_10 : decode cX11_addsArc 10 = .ok (.iload 5, 2) := by decide +kernel
theorem dX11_addsArc_12 : decode cX11_addsArc 12 = .ok (.iconst 0, 1) := by decide +kernel
theorem dX11_addsArc_13 : decode cX11_addsArc 13 = .ok (.iadd, 1) := by decide +kernel
theorem dX11_addsArc_14 : decode cX11_addsArc 14 = .ok (.iload_n 1, 1) := by decide +kernel
theorem dX11_addsArc_15 : decode cX11_addsArc 15 = .ok (.iastore, 1) := by decide +kernel
theorem dX11_addsArc_16 : decode cX11_addsArc 16 = .ok (.aload_n 0, 1) := by decide +kernel
theorem dX11_addsArc_17 : decode cX11_addsArc 17 = .ok (.iload 5, 2) := by decide +kernel
theorem dX11_addsArc_19 : decode cX11_addsArc 19 = .ok (.iconst 1, 1) := by decide +kernel
theorem dX11_addsArc_20 : decode cX11_addsArc 20 = .ok (.iadd, 1) := by decide +kernel
theorem dX11_addsArc_21 : decode cX11_addsArc 21 = .ok (.iload_n 2, 1) := by decide +kernel
theorem dX11_addsArc_22 : decode cX11_addsArc 22 = .ok (.iastore, 1) := by decide +kernel
theorem dX11_addsArc_23 : decode cX11_addsArc 23 = .ok (.aload_n 0, 1) := by decide +kernel
theorem dX11_addsArc_24 : decode cX11_addsArc 24 = .ok (.iload 5, 2) := by decide +kernel
theorem dX11_addsArc_26 : decode cX11_addsArc 26 = .ok (.iconst 2, 1) := by decide +kernel
theorem dX11_addsArc_27 : decode cX11_addsArc 27 = .ok (.iadd, 1) := by decide +kernel
theorem dX11_addsArc_28 : decode cX11_addsArc 28 = .ok (.iload_n 3, 1) := by decide +kernel
theorem dX11_addsArc_29 : decode cX11_addsArc 29 = .ok (.iastore, 1) := by decide +kernel
theorem dX11_addsArc_30 : decode cX11_addsArc 30 = .ok (.aload_n 0, 1) := by decide +kernel
theorem dX11_addsArc_31 : decode cX11_addsArc 31 = .ok (.iload 5, 2) := by decide +kernel
theorem dX11_addsArc_33 : decode cX11_addsArc 33 = .ok (.iconst 3, 1) := by decide +kernel
theorem dX11_addsArc_34 : decode cX11_addsArc 34 = .ok (.iadd, 1) := by decide +kernel
theorem dX11_addsArc_35 : decode cX11_addsArc 35 = .ok (.iload 4, 2) := by decide +kernel
theorem dX11_addsArc_37 : decode cX11_addsArc 37 = .ok (.iastore, 1) := by decide +kernel
theorem dX11_addsArc_38 : decode cX11_addsArc 38 = .ok (.aload_n 0, 1) := by decide +kernel
theorem dX11_addsArc_39 : decode cX11_addsArc 39 = .ok (.iconst 4, 1) := by decide +kernel
theorem dX11_addsArc_40 : decode cX11_addsArc 40 = .ok (.dup2, 1) := by decide +kernel
theorem dX11_addsArc_41 : decode cX11_addsArc 41 = .ok (.iaload, 1) := by decide +kernel
theorem dX11_addsArc_42 : decode cX11_addsArc 42 = .ok (.iconst 1, 1) := by decide +kernel
theorem dX11_addsArc_43 : decode cX11_addsArc 43 = .ok (.iadd, 1) := by decide +kernel
theorem dX11_addsArc_44 : decode cX11_addsArc 44 = .ok (.iastore, 1) := by decide +kernel
theorem dX11_addsArc_45 : decode cX11_addsArc 45 = .ok (.return_, 1) := by decide +kernel
theorem dX11_count_0 : decode cX11_count 0 = .ok (.aload_n 0, 1) := by decide +kernel
theorem dX11_count_1 : decode cX11_count 1 = .ok (.iload_n 1, 1) := by decide +kernel
theorem dX11_count_2 : decode cX11_count 2 = .ok (.iconst 0, 1) := by decide +kernel
theorem dX11_count_3 : decode cX11_count 3 = .ok (.bipush 11, 2) := by decide +kernel
theorem dX11_count_5 : decode cX11_count 5 = .ok (.invokestatic 72, 3) := by decide +kernel
theorem dX11_count_8 : decode cX11_count 8 = .ok (.ifCond .eq 7, 3) := by decide +kernel
theorem dX11_count_11 : decode cX11_count 11 = .ok (.iconst 0, 1) := by decide +kernel
theorem dX11_count_12 : decode cX11_count 12 = .ok (.goto 4, 3) := by decide +kernel
theorem dX11_count_15 : decode cX11_count 15 = .ok (.iconst 1, 1) := by decide +kernel
theorem dX11_count_16 : decode cX11_count 16 = .ok (.putfield 56, 3) := by decide +kernel
theorem dX11_count_19 : decode cX11_count 19 = .ok (.aload_n 0, 1) := by decide +kernel
theorem dX11_count_20 : decode cX11_count 20 = .ok (.getfield 56, 3) := by decide +kernel
theorem dX11_count_23 : decode cX11_count 23 = .ok (.ifCond .le 5, 3) := by decide +kernel
theorem dX11_count_26 : decode cX11_count 26 = .ok (.iconst 0, 1) := by decide +kernel
theorem dX11_count_27 : decode cX11_count 27 = .ok (.ireturn, 1) := by decide +kernel
theorem dX11_count_28 : decode cX11_count 28 = .ok (.iload_n 1, 1) := by decide +kernel
theorem dX11_count_29 : decode cX11_count 29 = .ok (.tableswitch 142 0 10 #[59, 66, 73, 80, 87, 94, 102, 110, 117, 125, 133], 59) := by decide +kernel
theorem dX11_count_88 : decode cX11_count 88 = .ok (.aload_n 0, 1) := by decide +kernel
theorem dX11_count_89 : decode cX11_count 89 = .ok (.getfield 7, 3) := by decide +kernel
theorem dX11_count_92 : decode cX11_count 92 = .ok (.iconst 0, 1) := by decide +kernel
theorem dX11_count_93 : decode cX11_count 93 = .ok (.iaload, 1) := by decide +kernel
theorem dX11_count_94 : decode cX11_count 94 = .ok (.ireturn, 1) := by decide +kernel
theorem dX11_count_95 : decode cX11_count 95 = .ok (.aload_n 0, 1) := by decide +kernel
theorem dX11_count_96 : decode cX11_count 96 = .ok (.getfield 7, 3) := by decide +kernel
theorem dX11_count_99 : decode cX11_count 99 = .ok (.iconst 4, 1) := by decide +kernel
theorem dX11_count_100 : decode cX11_count 100 = .ok (.iaload, 1) := by decide +kernel
theorem dX11_count_101 : decode cX11_count 101 = .ok (.ireturn, 1) := by decide +kernel
theorem dX11_count_102 : decode cX11_count 102 = .ok (.aload_n 0, 1) := by decide +kernel
theorem dX11_count_103 : decode cX11_count 103 = .ok (.getfield 7, 3) := by decide +kernel
theorem dX11_count_106 : decode cX11_count 106 = .ok (.iconst 1, 1) := by decide +kernel
theorem dX11_count_107 : decode cX11_count 107 = .ok (.iaload, 1) := by decide +kernel
theorem dX11_count_108 : decode cX11_count 108 = .ok (.ireturn, 1) := by decide +kernel
theorem dX11_count_109 : decode cX11_count 109 = .ok (.aload_n 0, 1) := by decide +kernel
theorem dX11_count_110 : decode cX11_count 110 = .ok (.getfield 7, 3) := by decide +kernel
theorem dX11_count_113 : decode cX11_count 113 = .ok (.iconst 2, 1) := by decide +kernel
theorem dX11_count_114 : decode cX11_count 114 = .ok (.iaload, 1) := by decide +kernel
theorem dX11_count_115 : decode cX11_count 115 = .ok (.ireturn, 1) := by decide +kernel
theorem dX11_count_116 : decode cX11_count 116 = .ok (.aload_n 0, 1) := by decide +kernel
theorem dX11_count_117 : decode cX11_count 117 = .ok (.getfield 7, 3) := by decide +kernel
theorem dX11_count_120 : decode cX11_count 120 = .ok (.iconst 3, 1) := by decide +kernel
theorem dX11_count_121 : decode cX11_count 121 = .ok (.iaload, 1) := by decide +kernel
theorem dX11_count_122 : decode cX11_count 122 = .ok (.ireturn, 1) := by decide +kernel
theorem dX11_count_123 : decode cX11_count 123 = .ok (.aload_n 0, 1) := by decide +kernel
theorem dX11_count_124 : decode cX11_count 124 = .ok (.getfield 7, 3) := by decide +kernel
theorem dX11_count_127 : decode cX11_count 127 = .ok (.bipush 69, 2) := by decide +kernel
theorem dX11_count_129 : decode cX11_count 129 = .ok (.iaload, 1) := by decide +kernel
theorem dX11_count_130 : decode cX11_count 130 = .ok (.ireturn, 1) := by decide +kernel
theorem dX11_count_131 : decode cX11_count 131 = .ok (.aload_n 0, 1) := by decide +kernel
theorem dX11_count_132 : decode cX11_count 132 = .ok (.getfield 7, 3) := by decide +kernel
theorem dX11_count_135 : decode cX11_count 135 = .ok (.bipush 118, 2) := by decide +kernel
theorem dX11_count_137 : decode cX11_count 137 = .ok (.iaload, 1) := by decide +kernel
theorem dX11_count_138 : decode cX11_count 138 = .ok (.ireturn, 1) := by decide +kernel
theorem dX11_count_139 : decode cX11_count 139 = .ok (.aload_n 0, 1) := by decide +kernel
theorem dX11_count_140 : decode cX11_count 140 = .ok (.iconst 0, 1) := by decide +kernel
theorem dX11_count_141 : decode cX11_count 141 = .ok (.iconst 0, 1) := by decide +kernel
theorem dX11_count_142 : decode cX11_count 142 = .ok (.invokevirtual 183, 3) := by decide +kernel
theorem dX11_count_145 : decode cX11_count 145 = .ok (.ireturn, 1) := by decide +kernel
theorem dX11_count_146 : decode cX11_count 146 = .ok (.aload_n 0, 1) := by decide +kernel
theorem dX11_count_147 : decode cX11_count 147 = .ok (.getfield 7, 3) := by decide +kernel
theorem dX11_count_150 : decode cX11_count 150 = .ok (.bipush 126, 2) := by decide +kernel
theorem dX11_count_152 : decode cX11_count 152 = .ok (.iaload, 1) := by decide +kernel
theorem dX11_count_153 : decode cX11_count 153 = .ok (.ireturn, 1) := by decide +kernel
theorem dX11_count_154 : decode cX11_count 154 = .ok (.aload_n 0, 1) := by decide +kernel
theorem dX11_count_155 : decode cX11_count 155 = .ok (.getfield 7, 3) := by decide +kernel
theorem dX11_count_158 : decode cX11_count 158 = .ok (.bipush 127, 2) := by decide +kernel
theorem dX11_count_160 : decode cX11_count 160 = .ok (.iaload, 1) := by decide +kernel
theorem dX11_count_161 : decode cX11_count 161 = .ok (.ireturn, 1) := by decide +kernel
theorem dX11_count_162 : decode cX11_count 162 = .ok (.aload_n 0, 1) := by decide +kernel
theorem dX11_count_163 : decode cX11_count 163 = .ok (.getfield 7, 3) := by decide +kernel
theorem dX11_count_166 : decode cX11_count 166 = .ok (.sipush 128, 3) := by decide +kernel
theorem dX11_count_169 : decode cX11_count 169 = .ok (.iaload, 1) := by decide +kernel
theorem dX11_count_170 : decode cX11_count 170 = .ok (.ireturn, 1) := by decide +kernel
theorem dX11_count_171 : decode cX11_count 171 = .ok (.aload_n 0, 1) := by decide +kernel
theorem dX11_count_172 : decode cX11_count 172 = .ok (.getfield 7, 3) := by decide +kernel
theorem dX11_count_175 : decode cX11_count 175 = .ok (.sipush 129, 3) := by decide +kernel
theorem dX11_count_178 : decode cX11_count 178 = .ok (.iaload, 1) := by decide +kernel
theorem dX11_count_179 : decode cX11_count 179 = .ok (.ireturn, 1) := by decide +kernel
theorem dX11_arc_0 : decode cX11_arc 0 = .ok (.aload_n 0, 1) := by decide +kernel
theorem dX11_arc_1 : decode cX11_arc 1 = .ok (.aload_n 0, 1) := by decide +kernel
theorem dX11_arc_2 : decode cX11_arc 2 = .ok (.iload_n 1, 1) := by decide +kernel
theorem dX11_arc_3 : decode cX11_arc 3 = .ok (.invokevirtual 187, 3) := by decide +kernel
theorem dX11_arc_6 : decode cX11_arc 6 = .ok (.ifCond .ne 7, 3) := by decide +kernel
theorem dX11_arc_9 : decode cX11_arc 9 = .ok (.iconst 1, 1) := by decide +kernel
theorem dX11_arc_10 : decode cX11_arc 10 = .ok (.goto 17, 3) := by decide +kernel
theorem dX11_arc_13 : decode cX11_arc 13 = .ok (.iload_n 2, 1) := by decide +kernel
theorem dX11_arc_14 : decode cX11_arc 14 = .ok (.iconst 0, 1) := by decide +kernel
theorem dX11_arc_15 : decode cX11_arc 15 = .ok (.iconst 3, 1) := by decide +kernel
theorem dX11_arc_16 : decode cX11_arc 16 = .ok (.invokestatic 72, 3) := by decide +kernel
theorem dX11_arc_19 : decode cX11_arc 19 = .ok (.ifCond .eq 7, 3) := by decide +kernel
theorem dX11_arc_22 : decode cX11_arc 22 = .ok (.iconst 0, 1) := by decide +kernel
theorem dX11_arc_23 : decode cX11_arc 23 = .ok (.goto 4, 3) := by decide +kernel
theorem dX11_arc_26 : decode cX11_arc 26 = .ok (.iconst 2, 1) := by decide +kernel
theorem dX11_arc_27 : decode cX11_arc 27 = .ok (.putfield 56, 3) := by decide +kernel
theorem dX11_arc_30 : decode cX11_arc 30 = .ok (.aload_n 0, 1) := by decide +kernel
theorem dX11_arc_31 : decode cX11_arc 31 = .ok (.getfield 56, 3) := by decide +kernel
theorem dX11_arc_34 : decode cX11_arc 34 = .ok (.ifCond .le 7, 3) := by decide +kernel
theorem dX11_arc_37 : decode cX11_arc 37 = .ok (.iconst 0, 1) := by decide +kernel
theorem dX11_arc_38 : decode cX11_arc 38 = .ok (.goto 9, 3) := by decide +kernel
theorem dX11_arc_41 : decode cX11_arc 41 = .ok (.aload_n 0, 1) := by decide +kernel
theorem dX11_arc_42 : decode cX11_arc 42 = .ok (.iload_n 1, 1) := by decide +kernel
theorem dX11_arc_43 : decode cX11_arc 43 = .ok (.iload_n 2, 1) := by decide +kernel
theorem dX11_arc_44 : decode cX11_arc 44 = .ok (.invokevirtual 190, 3) := by decide +kernel
theorem dX11_arc_47 : decode cX11_arc 47 = .ok (.ireturn, 1) := by decide +kernel
theorem dX11_addArc_0 : decode cX11_addArc 0 = .ok (.iload_n 1, 1) := by decide +kernel
theorem dX11_addArc_1 : decode cX11_addArc 1 = .ok (.iload_n 2, 1) := by decide +kernel
theorem dX11_addArc_2 : decode cX11_addArc 2 = .ok (.if_icmp .eq 28, 3) := by decide +kernel
theorem dX11_addArc_5 : decode cX11_addArc 5 = .ok (.iload_n 3, 1) := by decide +kernel
theorem dX11_addArc_6 : decode cX11_addArc 6 = .ok (.iconst 0, 1) := by decide +kernel
theorem dX11_addArc_7 : decode cX11_addArc 7 = .ok (.bipush 99, 2) := by decide +kernel
theorem dX11_addArc_9 : decode cX11_addArc 9 = .ok (.invokestatic 72, 3) := by decide +kernel
theorem dX11_addArc_12 : decode cX11_addArc 12 = .ok (.ifCond .eq 18, 3) := by decide +kernel
theorem dX11_addArc_15 : decode cX11_addArc 15 = .ok (.iload 4, 2) := by decide +kernel
theorem dX11_addArc_17 : decode cX11_addArc 17 = .ok (.iconst 0, 1) := by decide +kernel
theorem dX11_addArc_18 : decode cX11_addArc 18 = .ok (.bipush 99, 2) := by decide +kernel
theorem dX11_addArc_20 : decode cX11_addArc 20 = .ok (.invokestatic 72, 3) := by decide +kernel
theorem dX11_addArc_23 : decode cX11_addArc 23 = .ok (.ifCond .eq 7, 3) := by decide +kernel
theorem dX11_addArc_26 : decode cX11_addArc 26 = .ok (.iconst 1, 1) := by decide +kernel
theorem dX11_addArc_27 : decode cX11_addArc 27 = .ok (.goto 4, 3) := by decide +kernel
theorem dX11_addArc_30 : decode cX11_addArc 30 = .ok (.iconst 0, 1) := by decide +kernel
theorem dX11_addArc_31 : decode cX11_addArc 31 = .ok (.istore 5, 2) := by decide +kernel
theorem dX11_addArc_33 : decode cX11_addArc 33 = .ok (.aload_n 0, 1) := by decide +kernel
theorem dX11_addArc_34 : decode cX11_addArc 34 = .ok (.aload_n 0, 1) := by decide +kernel
theorem dX11_addArc_35 : decode cX11_addArc 35 = .ok (.iload_n 1, 1) := by decide +kernel
theorem dX11_addArc_36 : decode cX11_addArc 36 = .ok (.invokevirtual 193, 3) := by decide +kernel
theorem dX11_addArc_39 : decode cX11_addArc 39 = .ok (.ifCond .eq 11, 3) := by decide +kernel
theorem dX11_addArc_42 : decode cX11_addArc 42 = .ok (.aload_n 0, 1) := by decide +kernel
theorem dX11_addArc_43 : decode cX11_addArc 43 = .ok (.iload_n 2, 1) := by decide +kernel
theorem dX11_addArc_44 : decode cX11_addArc 44 = .ok (.invokevirtual 193, 3) := by decide +kernel
theorem dX11_addArc_47 : decode cX11_addArc 47 = .ok (.ifCond .ne 7, 3) := by decide +kernel
theorem dX11_addArc_50 : decode cX11_addArc 50 = .ok (.iconst 1, 1) := by decide +kernel
theorem dX11_addArc_51 : decode cX11_addArc 51 = .ok (.goto 28, 3) := by decide +kernel
theorem dX11_addArc_54 : decode cX11_addArc 54 = .ok (.iload 5, 2) := by decide +kernel
theorem dX11_addArc_56 : decode cX11_addArc 56 = .ok (.ifCond .ne 7, 3) := by decide +kernel
theorem dX11_addArc_59 : decode cX11_addArc 59 = .ok (.iconst 2, 1) := by decide +kernel
theorem dX11_addArc_60 : decode cX11_addArc 60 = .ok (.goto 19, 3) := by decide +kernel
theorem dX11_addArc_63 : decode cX11_addArc 63 = .ok (.aload_n 0, 1) := by decide +kernel
theorem dX11_addArc_64 : decode cX11_addArc 64 = .ok (.getfield 7, 3) := by decide +kernel
theorem dX11_addArc_67 : decode cX11_addArc 67 = .ok (.iconst 4, 1) := by decide +kernel
theorem dX11_addArc_68 : decode cX11_addArc 68 = .ok (.iaload, 1) := by decide +kernel
theorem dX11_addArc_69 : decode cX11_addArc 69 = .ok (.bipush 16, 2) := by decide +kernel
theorem dX11_addArc_71 : decode cX11_addArc 71 = .ok (.if_icmp .ne 7, 3) := by decide +kernel
theorem dX11_addArc_74 : decode cX11_addArc 74 = .ok (.iconst 3, 1) := by decide +kernel
theorem dX11_addArc_75 : decode cX11_addArc 75 = .ok (.goto 4, 3) := by decide +kernel
theorem dX11_addArc_78 : decode cX11_addArc 78 = .ok (.iconst 0, 1) := by decide +kernel
theorem dX11_addArc_79 : decode cX11_addArc 79 = .ok (.putfield 56, 3) := by decide +kernel
theorem dX11_addArc_82 : decode cX11_addArc 82 = .ok (.aload_n 0, 1) := by decide +kernel
theorem dX11_addArc_83 : decode cX11_addArc 83 = .ok (.getfield 56, 3) := by decide +kernel
theorem dX11_addArc_86 : decode cX11_addArc 86 = .ok (.ifCond .le 5, 3) := by decide +kernel
theorem dX11_addArc_89 : decode cX11_addArc 89 = .ok (.iconst 0, 1) := by decide +kernel
theorem dX11_addArc_90 : decode cX11_addArc 90 = .ok (.ireturn, 1) := by decide +kernel
theorem dX11_addArc_91 : decode cX11_addArc 91 = .ok (.aload_n 0, 1) := by decide +kernel
theorem dX11_addArc_92 : decode cX11_addArc 92 = .ok (.invokevirtual 176, 3) := by decide +kernel
theorem dX11_addArc_95 : decode cX11_addArc 95 = .ok (.aload_n 0, 1) := by decide +kernel
theorem dX11_addArc_96 : decode cX11_addArc 96 = .ok (.getfield 7, 3) := by decide +kernel
theorem dX11_addArc_99 : decode cX11_addArc 99 = .ok (.iload_n 1, 1) := by decide +kernel
theorem dX11_addArc_100 : decode cX11_addArc 100 = .ok (.iload_n 2, 1) := by decide +kernel
theorem dX11_addArc_101 : decode cX11_addArc 101 = .ok (.iload_n 3, 1) := by decide +kernel
theorem dX11_addArc_102 : decode cX11_addArc 102 = .ok (.iload 4, 2) := by decide +kernel
theorem dX11_addArc_104 : decode cX11_addArc 104 = .ok (.invokestatic 130, 3) := by decide +kernel
theorem dX11_addArc_107 : decode cX11_addArc 107 = .ok (.aload_n 0, 1) := by decide +kernel
theorem dX11_addArc_108 : decode cX11_addArc 108 = .ok (.getfield 7, 3) := by decide +kernel
theorem dX11_addArc_111 : decode cX11_addArc 111 = .ok (.invokestatic 52, 3) := by decide +kernel
theorem dX11_addArc_114 : decode cX11_addArc 114 = .ok (.aload_n 0, 1) := by decide +kernel
theorem dX11_addArc_115 : decode cX11_addArc 115 = .ok (.getfield 7, 3) := by decide +kernel
theorem dX11_addArc_118 : decode cX11_addArc 118 = .ok (.iconst 4, 1) := by decide +kernel
theorem dX11_addArc_119 : decode cX11_addArc 119 = .ok (.iaload, 1) := by decide +kernel
theorem dX11_addArc_120 : decode cX11_addArc 120 = .ok (.iconst 1, 1) := by decide +kernel
theorem dX11_addArc_121 : decode cX11_addArc 121 = .ok (.isub, 1) := by decide +kernel
theorem dX11_addArc_122 : decode cX11_addArc 122 = .ok (.ireturn, 1) := by decide +kernel
theorem dX11_uses_0 : decode cX11_uses 0 = .ok (.iconst 0, 1) := by decide +kernel
theorem dX11_uses_1 : decode cX11_uses 1 = .ok (.istore_n 3, 1) := by decide +kernel
theorem dX11_uses_2 : decode cX11_uses 2 = .ok (.iconst 0, 1) := by decide +kernel
theorem dX11_uses_3 : decode cX11_uses 3 = .ok (.istore 4, 2) := by decide +kernel
theorem dX11_uses_5 : decode cX11_uses 5 = .ok (.iload 4, 2) := by decide +kernel
theorem dX11_uses_7 : decode cX11_uses 7 = .ok (.bipush 6, 2) := by decide +kernel
theorem dX11_uses_9 : decode cX11_uses 9 = .ok (.if_icmp .gt 139, 3) := by decide +kernel
theorem dX11_uses_12 : decode cX11_uses 12 = .ok (.iload 4, 2) := by decide +kernel
theorem dX11_uses_14 : decode cX11_uses 14 = .ok (.bipush 6, 2) := by decide +kernel
theorem dX11_uses_16 : decode cX11_uses 16 = .ok (.if_icmp .ne 8, 3) := by decide +kernel
theorem dX11_uses_19 : decode cX11_uses 19 = .ok (.bipush 118, 2) := by decide +kernel
theorem dX11_uses_21 : decode cX11_uses 21 = .ok (.goto 11, 3) := by decide +kernel
theorem dX11_uses_24 : decode cX11_uses 24 = .ok (.bipush 70, 2) := by decide +kernel
theorem dX11_uses_26 : decode cX11_uses 26 = .ok (.bipush 8, 2) := by decide +kernel
theorem dX11_uses_28 : decode cX11_uses 28 = .ok (.iload 4, 2) := by decide +kernel
theorem dX11_uses_30 : decode cX11_uses 30 = .ok (.imul, 1) := by decide +kernel
theorem dX11_uses_31 : decode cX11_uses 31 = .ok (.iadd, 1) := by decide +kernel
theorem dX11_uses_32 : decode cX11_uses 32 = .ok (.istore 5, 2) := by decide +kernel
theorem dX11_uses_34 : decode cX11_uses 34 = .ok (.iload 4, 2) := by decide +kernel
theorem dX11_uses_36 : decode cX11_uses 36 = .ok (.aload_n 0, 1) := by decide +kernel
theorem dX11_uses_37 : decode cX11_uses 37 = .ok (.getfield 7, 3) := by decide +kernel
theorem dX11_uses_40 : decode cX11_uses 40 = .ok (.bipush 69, 2) := by decide +kernel
theorem dX11_uses_42 : decode cX11_uses 42 = .ok (.iaload, 1) := by decide +kernel
theorem dX11_uses_43 : decode cX11_uses 43 = .ok (.if_icmp .lt 10, 3) := by decide +kernel
theorem dX11_uses_46 : decode cX11_uses 46 = .ok (.iload 4, 2) := by decide +kernel
theorem dX11_uses_48 : decode cX11_uses 48 = .ok (.bipush 6, 2) := by decide +kernel
theorem dX11_uses_50 : decode cX11_uses 50 = .ok (.if_icmp .ne 13, 3) := by decide +kernel
theorem dX11_uses_53 : decode cX11_uses 53 = .ok (.aload_n 0, 1) := by decide +kernel
theorem dX11_uses_54 : decode cX11_uses 54 = .ok (.getfield 7, 3) := by decide +kernel
theorem dX11_uses_57 : decode cX11_uses 57 = .ok (.iload 5, 2) := by decide +kernel
theorem dX11_uses_59 : decode cX11_uses 59 = .ok (.iaload, 1) := by decide +kernel
theorem dX11_uses_60 : decode cX11_uses 60 = .ok (.goto 4, 3) := by decide +kernel
theorem dX11_uses_63 : decode cX11_uses 63 = .ok (.iconst 0, 1) := by decide +kernel
theorem dX11_uses_64 : decode cX11_uses 64 = .ok (.istore 6, 2) := by decide +kernel
theorem dX11_uses_66 : decode cX11_uses 66 = .ok (.iconst 1, 1) := by decide +kernel
theorem dX11_uses_67 : decode cX11_uses 67 = .ok (.istore 7, 2) := by decide +kernel
theorem dX11_uses_69 : decode cX11_uses 69 = .ok (.iload 7, 2) := by decide +kernel
theorem dX11_uses_71 : decode cX11_uses 71 = .ok (.iload 6, 2) := by decide +kernel
theorem dX11_uses_73 : decode cX11_uses 73 = .ok (.if_icmp .gt 69, 3) := by decide +kernel
theorem dX11_uses_76 : decode cX11_uses 76 = .ok (.iload_n 3, 1) := by decide +kernel
theorem dX11_uses_77 : decode cX11_uses 77 = .ok (.ifCond .ne 17, 3) := by decide +kernel
theorem dX11_uses_80 : decode cX11_uses 80 = .ok (.aload_n 0, 1) := by decide +kernel
theorem dX11_uses_81 : decode cX11_uses 81 = .ok (.getfield 7, 3) := by decide +kernel
theorem dX11_uses_84 : decode cX11_uses 84 = .ok (.iload 5, 2) := by decide +kernel
theorem dX11_uses_86 : decode cX11_uses 86 = .ok (.iload 7, 2) := by decide +kernel
theorem dX11_uses_88 : decode cX11_uses 88 = .ok (.iadd, 1) := by decide +kernel
theorem dX11_uses_89 : decode cX11_uses 89 = .ok (.iaload, 1) := by decide +kernel
theorem dX11_uses_90 : decode cX11_uses 90 = .ok (.iload_n 1, 1) := by decide +kernel
theorem dX11_uses_91 : decode cX11_uses 91 = .ok (.if_icmp .ne 7, 3) := by decide +kernel
theorem dX11_uses_94 : decode cX11_uses 94 = .ok (.iconst 1, 1) := by decide +kernel
theorem dX11_uses_95 : decode cX11_uses 95 = .ok (.goto 4, 3) := by decide +kernel
theorem dX11_uses_98 : decode cX11_uses 98 = .ok (.iconst 0, 1) := by decide +kernel
theorem dX11_uses_99 : decode cX11_uses 99 = .ok (.istore_n 3, 1) := by decide +kernel
theorem dX11_uses_100 : decode cX11_uses 100 = .ok (.aload_n 0, 1) := by decide +kernel
theorem dX11_uses_101 : decode cX11_uses 101 = .ok (.getfield 7, 3) := by decide +kernel
theorem dX11_uses_104 : decode cX11_uses 104 = .ok (.iload 5, 2) := by decide +kernel
theorem dX11_uses_106 : decode cX11_uses 106 = .ok (.iload 7, 2) := by decide +kernel
theorem dX11_uses_108 : decode cX11_uses 108 = .ok (.iadd, 1) := by decide +kernel
theorem dX11_uses_109 : decode cX11_uses 109 = .ok (.dup2, 1) := by decide +kernel
theorem dX11_uses_110 : decode cX11_uses 110 = .ok (.iaload, 1) := by decide +kernel
theorem dX11_uses_111 : decode cX11_uses 111 = .ok (.iload_n 2, 1) := by decide +kernel
theorem dX11_uses_112 : decode cX11_uses 112 = .ok (.ifCond .eq 21, 3) := by decide +kernel
theorem dX11_uses_115 : decode cX11_uses 115 = .ok (.aload_n 0, 1) := by decide +kernel
theorem dX11_uses_116 : decode cX11_uses 116 = .ok (.getfield 7, 3) := by decide +kernel
theorem dX11_uses_119 : decode cX11_uses 119 = .ok (.iload 5, 2) := by decide +kernel
theorem dX11_uses_121 : decode cX11_uses 121 = .ok (.iload 7, 2) := by decide +kernel
theorem dX11_uses_123 : decode cX11_uses 123 = .ok (.iadd, 1) := by decide +kernel
theorem dX11_uses_124 : decode cX11_uses 124 = .ok (.iaload, 1) := by decide +kernel
theorem dX11_uses_125 : decode cX11_uses 125 = .ok (.iload_n 1, 1) := by decide +kernel
theorem dX11_uses_126 : decode cX11_uses 126 = .ok (.if_icmp .le 7, 3) := by decide +kernel
theorem dX11_uses_129 : decode cX11_uses 129 = .ok (.iconst 1, 1) := by decide +kernel
theorem dX11_uses_130 : decode cX11_uses 130 = .ok (.goto 4, 3) := by decide +kernel
theorem dX11_uses_133 : decode cX11_uses 133 = .ok (.iconst 0, 1) := by decide +kernel
theorem dX11_uses_134 : decode cX11_uses 134 = .ok (.isub, 1) := by decide +kernel
theorem dX11_uses_135 : decode cX11_uses 135 = .ok (.iastore, 1) := by decide +kernel
theorem dX11_uses_136 : decode cX11_uses 136 = .ok (.iinc 7 1, 3) := by decide +kernel
theorem dX11_uses_139 : decode cX11_uses 139 = .ok (.goto (-70), 3) := by decide +kernel
theorem dX11_uses_142 : decode cX11_uses 142 = .ok (.iinc 4 1, 3) := by decide +kernel
theorem dX11_uses_145 : decode cX11_uses 145 = .ok (.goto (-140), 3) := by decide +kernel
theorem dX11_uses_148 : decode cX11_uses 148 = .ok (.iload_n 3, 1) := by decide +kernel
theorem dX11_uses_149 : decode cX11_uses 149 = .ok (.ireturn, 1) := by decide +kernel
theorem dX11_removeArc_0 : decode cX11_removeArc 0 = .ok (.aload_n 0, 1) := by decide +kernel
theorem dX11_removeArc_1 : decode cX11_removeArc 1 = .ok (.aload_n 0, 1) := by decide +kernel
theorem dX11_removeArc_2 : decode cX11_removeArc 2 = .ok (.iload_n 1, 1) := by decide +kernel
theorem dX11_removeArc_3 : decode cX11_removeArc 3 = .ok (.invokevirtual 187, 3) := by decide +kernel
theorem dX11_removeArc_6 : decode cX11_removeArc 6 = .ok (.ifCond .ne 7, 3) := by decide +kernel
theorem dX11_removeArc_9 : decode cX11_removeArc 9 = .ok (.iconst 1, 1) := by decide +kernel
theorem dX11_removeArc_10 : decode cX11_removeArc 10 = .ok (.goto 17, 3) := by decide +kernel
theorem dX11_removeArc_13 : decode cX11_removeArc 13 = .ok (.aload_n 0, 1) := by decide +kernel
theorem dX11_removeArc_14 : decode cX11_removeArc 14 = .ok (.iload_n 1, 1) := by decide +kernel
theorem dX11_removeArc_15 : decode cX11_removeArc 15 = .ok (.iconst 0, 1) := by decide +kernel
theorem dX11_removeArc_16 : decode cX11_removeArc 16 = .ok (.invokevirtual 196, 3) := by decide +kernel
theorem dX11_removeArc_19 : decode cX11_removeArc 19 = .ok (.ifCond .eq 7, 3) := by decide +kernel
theorem dX11_removeArc_22 : decode cX11_removeArc 22 = .ok (.iconst 2, 1) := by decide +kernel
theorem dX11_removeArc_23 : decode cX11_removeArc 23 = .ok (.goto 4, 3) := by decide +kernel
theorem dX11_removeArc_26 : decode cX11_removeArc 26 = .ok (.iconst 0, 1) := by decide +kernel
theorem dX11_removeArc_27 : decode cX11_removeArc 27 = .ok (.putfield 56, 3) := by decide +kernel
theorem dX11_removeArc_30 : decode cX11_removeArc 30 = .ok (.aload_n 0, 1) := by decide +kernel
theorem dX11_removeArc_31 : decode cX11_removeArc 31 = .ok (.getfield 56, 3) := by decide +kernel
theorem dX11_removeArc_34 : decode cX11_removeArc 34 = .ok (.ifCond .le 5, 3) := by decide +kernel
theorem dX11_removeArc_37 : decode cX11_removeArc 37 = .ok (.iconst 0, 1) := by decide +kernel
theorem dX11_removeArc_38 : decode cX11_removeArc 38 = .ok (.ireturn, 1) := by decide +kernel
theorem dX11_removeArc_39 : decode cX11_removeArc 39 = .ok (.aload_n 0, 1) := by decide +kernel
theorem dX11_removeArc_40 : decode cX11_removeArc 40 = .ok (.invokevirtual 176, 3) := by decide +kernel
theorem dX11_removeArc_43 : decode cX11_removeArc 43 = .ok (.aload_n 0, 1) := by decide +kernel
theorem dX11_removeArc_44 : decode cX11_removeArc 44 = .ok (.getfield 7, 3) := by decide +kernel
theorem dX11_removeArc_47 : decode cX11_removeArc 47 = .ok (.iconst 4, 1) := by decide +kernel
theorem dX11_removeArc_48 : decode cX11_removeArc 48 = .ok (.dup2, 1) := by decide +kernel
theorem dX11_removeArc_49 : decode cX11_removeArc 49 = .ok (.iaload, 1) := by decide +kernel
theorem dX11_removeArc_50 : decode cX11_removeArc 50 = .ok (.iconst 1, 1) := by decide +kernel
theorem dX11_removeArc_51 : decode cX11_removeArc 51 = .ok (.isub, 1) := by decide +kernel
theorem dX11_removeArc_52 : decode cX11_removeArc 52 = .ok (.iastore, 1) := by decide +kernel
theorem dX11_removeArc_53 : decode cX11_removeArc 53 = .ok (.iconst 5, 1) := by decide +kernel
theorem dX11_removeArc_54 : decode cX11_removeArc 54 = .ok (.iconst 4, 1) := by decide +kernel
theorem dX11_removeArc_55 : decode cX11_removeArc 55 = .ok (.iload_n 1, 1) := by decide +kernel
theorem dX11_removeArc_56 : decode cX11_removeArc 56 = .ok (.imul, 1) := by decide +kernel
theorem dX11_removeArc_57 : decode cX11_removeArc 57 = .ok (.iadd, 1) := by decide +kernel
theorem dX11_removeArc_58 : decode cX11_removeArc 58 = .ok (.istore_n 2, 1) := by decide +kernel
theorem dX11_removeArc_59 : decode cX11_removeArc 59 = .ok (.iload_n 2, 1) := by decide +kernel
theorem dX11_removeArc_60 : decode cX11_removeArc 60 = .ok (.iconst 5, 1) := by decide +kernel
theorem dX11_removeArc_61 : decode cX11_removeArc 61 = .ok (.iconst 4, 1) := by decide +kernel
theorem dX11_removeArc_62 : decode cX11_removeArc 62 = .ok (.aload_n 0, 1) := by decide +kernel
theorem dX11_removeArc_63 : decode cX11_removeArc 63 = .ok (.getfield 7, 3) := by decide +kernel
theorem dX11_removeArc_66 : decode cX11_removeArc 66 = .ok (.iconst 4, 1) := by decide +kernel
theorem dX11_removeArc_67 : decode cX11_removeArc 67 = .ok (.iaload, 1) := by decide +kernel
theorem dX11_removeArc_68 : decode cX11_removeArc 68 = .ok (.imul, 1) := by decide +kernel
theorem dX11_removeArc_69 : decode cX11_removeArc 69 = .ok (.iadd, 1) := by decide +kernel
theorem dX11_removeArc_70 : decode cX11_removeArc 70 = .ok (.if_icmp .ge 23, 3) := by decide +kernel
theorem dX11_removeArc_73 : decode cX11_removeArc 73 = .ok (.aload_n 0, 1) := by decide +kernel
theorem dX11_removeArc_74 : decode cX11_removeArc 74 = .ok (.getfield 7, 3) := by decide +kernel
theorem dX11_removeArc_77 : decode cX11_removeArc 77 = .ok (.iload_n 2, 1) := by decide +kernel
theorem dX11_removeArc_78 : decode cX11_removeArc 78 = .ok (.aload_n 0, 1) := by decide +kernel
theorem dX11_removeArc_79 : decode cX11_removeArc 79 = .ok (.getfield 7, 3) := by decide +kernel
theorem dX11_removeArc_82 : decode cX11_removeArc 82 = .ok (.iload_n 2, 1) := by decide +kernel
theorem dX11_removeArc_83 : decode cX11_removeArc 83 = .ok (.iconst 4, 1) := by decide +kernel
theorem dX11_removeArc_84 : decode cX11_removeArc 84 = .ok (.iadd, 1) := by decide +kernel
theorem dX11_removeArc_85 : decode cX11_removeArc 85 = .ok (.iaload, 1) := by decide +kernel
theorem dX11_removeArc_86 : decode cX11_removeArc 86 = .ok (.iastore, 1) := by decide +kernel
theorem dX11_removeArc_87 : decode cX11_removeArc 87 = .ok (.iinc 2 1, 3) := by decide +kernel
theorem dX11_removeArc_90 : decode cX11_removeArc 90 = .ok (.goto (-31), 3) := by decide +kernel
theorem dX11_removeArc_93 : decode cX11_removeArc 93 = .ok (.aload_n 0, 1) := by decide +kernel
theorem dX11_removeArc_94 : decode cX11_removeArc 94 = .ok (.iload_n 1, 1) := by decide +kernel
theorem dX11_removeArc_95 : decode cX11_removeArc 95 = .ok (.iconst 1, 1) := by decide +kernel
theorem dX11_removeArc_96 : decode cX11_removeArc 96 = .ok (.invokevirtual 196, 3) := by decide +kernel
theorem dX11_removeArc_99 : decode cX11_removeArc 99 = .ok (.istore_n 2, 1) := by decide +kernel
theorem dX11_removeArc_100 : decode cX11_removeArc 100 = .ok (.aload_n 0, 1) := by decide +kernel
theorem dX11_removeArc_101 : decode cX11_removeArc 101 = .ok (.getfield 7, 3) := by decide +kernel
theorem dX11_removeArc_104 : decode cX11_removeArc 104 = .ok (.invokestatic 52, 3) := by decide +kernel
theorem dX11_removeArc_107 : decode cX11_removeArc 107 = .ok (.aload_n 0, 1) := by decide +kernel
theorem dX11_removeArc_108 : decode cX11_removeArc 108 = .ok (.getfield 7, 3) := by decide +kernel
theorem dX11_removeArc_111 : decode cX11_removeArc 111 = .ok (.iconst 4, 1) := by decide +kernel
theorem dX11_removeArc_112 : decode cX11_removeArc 112 = .ok (.iaload, 1) := by decide +kernel
theorem dX11_removeArc_113 : decode cX11_removeArc 113 = .ok (.ireturn, 1) := by decide +kernel
theorem dX11_setArc_0 : decode cX11_setArc 0 = .ok (.aload_n 0, 1) := by decide +kernel
theorem dX11_setArc_1 : decode cX11_setArc 1 = .ok (.aload_n 0, 1) := by decide +kernel
theorem dX11_setArc_2 : decode cX11_setArc 2 = .ok (.iload_n 1, 1) := by decide +kernel
theorem dX11_setArc_3 : decode cX11_setArc 3 = .ok (.invokevirtual 187, 3) := by decide +kernel
theorem dX11_setArc_6 : decode cX11_setArc 6 = .ok (.ifCond .ne 7, 3) := by decide +kernel
theorem dX11_setArc_9 : decode cX11_setArc 9 = .ok (.iconst 1, 1) := by decide +kernel
theorem dX11_setArc_10 : decode cX11_setArc 10 = .ok (.goto 28, 3) := by decide +kernel
theorem dX11_setArc_13 : decode cX11_setArc 13 = .ok (.iload_n 2, 1) := by decide +kernel
theorem dX11_setArc_14 : decode cX11_setArc 14 = .ok (.iconst 0, 1) := by decide +kernel
theorem dX11_setArc_15 : decode cX11_setArc 15 = .ok (.bipush 99, 2) := by decide +kernel
theorem dX11_setArc_17 : decode cX11_setArc 17 = .ok (.invokestatic 72, 3) := by decide +kernel
theorem dX11_setArc_20 : decode cX11_setArc 20 = .ok (.ifCond .eq 17, 3) := by decide +kernel
theorem dX11_setArc_23 : decode cX11_setArc 23 = .ok (.iload_n 3, 1) := by decide +kernel
theorem dX11_setArc_24 : decode cX11_setArc 24 = .ok (.iconst 0, 1) := by decide +kernel
theorem dX11_setArc_25 : decode cX11_setArc 25 = .ok (.bipush 99, 2) := by decide +kernel
theorem dX11_setArc_27 : decode cX11_setArc 27 = .ok (.invokestatic 72, 3) := by decide +kernel
theorem dX11_setArc_30 : decode cX11_setArc 30 = .ok (.ifCond .eq 7, 3) := by decide +kernel
theorem dX11_setArc_33 : decode cX11_setArc 33 = .ok (.iconst 0, 1) := by decide +kernel
theorem dX11_setArc_34 : decode cX11_setArc 34 = .ok (.goto 4, 3) := by decide +kernel
theorem dX11_setArc_37 : decode cX11_setArc 37 = .ok (.iconst 2, 1) := by decide +kernel
theorem dX11_setArc_38 : decode cX11_setArc 38 = .ok (.putfield 56, 3) := by decide +kernel
theorem dX11_setArc_41 : decode cX11_setArc 41 = .ok (.aload_n 0, 1) := by decide +kernel
theorem dX11_setArc_42 : decode cX11_setArc 42 = .ok (.getfield 56, 3) := by decide +kernel
theorem dX11_setArc_45 : decode cX11_setArc 45 = .ok (.ifCond .le 5, 3) := by decide +kernel
theorem dX11_setArc_48 : decode cX11_setArc 48 = .ok (.iconst 0, 1) := by decide +kernel
theorem dX11_setArc_49 : decode cX11_setArc 49 = .ok (.ireturn, 1) := by decide +kernel
theorem dX11_setArc_50 : decode cX11_setArc 50 = .ok (.aload_n 0, 1) := by decide +kernel
theorem dX11_setArc_51 : decode cX11_setArc 51 = .ok (.invokevirtual 176, 3) := by decide +kernel
theorem dX11_setArc_54 : decode cX11_setArc 54 = .ok (.bipush 100, 2) := by decide +kernel
theorem dX11_setArc_56 : decode cX11_setArc 56 = .ok (.aload_n 0, 1) := by decide +kernel
theorem dX11_setArc_57 : decode cX11_setArc 57 = .ok (.iload_n 1, 1) := by decide +kernel
theorem dX11_setArc_58 : decode cX11_setArc 58 = .ok (.iconst 2, 1) := by decide +kernel
theorem dX11_setArc_59 : decode cX11_setArc 59 = .ok (.invokevirtual 190, 3) := by decide +kernel
theorem dX11_setArc_62 : decode cX11_setArc 62 = .ok (.imul, 1) := by decide +kernel
theorem dX11_setArc_63 : decode cX11_setArc 63 = .ok (.aload_n 0, 1) := by decide +kernel
theorem dX11_setArc_64 : decode cX11_setArc 64 = .ok (.iload_n 1, 1) := by decide +kernel
theorem dX11_setArc_65 : decode cX11_setArc 65 = .ok (.iconst 3, 1) := by decide +kernel
theorem dX11_setArc_66 : decode cX11_setArc 66 = .ok (.invokevirtual 190, 3) := by decide +kernel
theorem dX11_setArc_69 : decode cX11_setArc 69 = .ok (.iadd, 1) := by decide +kernel
theorem dX11_setArc_70 : decode cX11_setArc 70 = .ok (.istore 4, 2) := by decide +kernel
theorem dX11_setArc_72 : decode cX11_setArc 72 = .ok (.aload_n 0, 1) := by decide +kernel
theorem dX11_setArc_73 : decode cX11_setArc 73 = .ok (.getfield 7, 3) := by decide +kernel
theorem dX11_setArc_76 : decode cX11_setArc 76 = .ok (.iconst 5, 1) := by decide +kernel
theorem dX11_setArc_77 : decode cX11_setArc 77 = .ok (.iconst 4, 1) := by decide +kernel
theorem dX11_setArc_78 : decode cX11_setArc 78 = .ok (.iload_n 1, 1) := by decide +kernel
theorem dX11_setArc_79 : decode cX11_setArc 79 = .ok (.imul, 1) := by decide +kernel
theorem dX11_setArc_80 : decode cX11_setArc 80 = .ok (.iadd, 1) := by decide +kernel
theorem dX11_setArc_81 : decode cX11_setArc 81 = .ok (.iconst 2, 1) := by decide +kernel
theorem dX11_setArc_82 : decode cX11_setArc 82 = .ok (.iadd, 1) := by decide +kernel
theorem dX11_setArc_83 : decode cX11_setArc 83 = .ok (.iload_n 2, 1) := by decide +kernel
theorem dX11_setArc_84 : decode cX11_setArc 84 = .ok (.iastore, 1) := by decide +kernel
theorem dX11_setArc_85 : decode cX11_setArc 85 = .ok (.aload_n 0, 1) := by decide +kernel
theorem dX11_setArc_86 : decode cX11_setArc 86 = .ok (.getfield 7, 3) := by decide +kernel
theorem dX11_setArc_89 : decode cX11_setArc 89 = .ok (.iconst 5, 1) := by decide +kernel
theorem dX11_setArc_90 : decode cX11_setArc 90 = .ok (.iconst 4, 1) := by decide +kernel
theorem dX11_setArc_91 : decode cX11_setArc 91 = .ok (.iload_n 1, 1) := by decide +kernel
theorem dX11_setArc_92 : decode cX11_setArc 92 = .ok (.imul, 1) := by decide +kernel
theorem dX11_setArc_93 : decode cX11_setArc 93 = .ok (.iadd, 1) := by decide +kernel
theorem dX11_setArc_94 : decode cX11_setArc 94 = .ok (.iconst 3, 1) := by decide +kernel
theorem dX11_setArc_95 : decode cX11_setArc 95 = .ok (.iadd, 1) := by decide +kernel
theorem dX11_setArc_96 : decode cX11_setArc 96 = .ok (.iload_n 3, 1) := by decide +kernel
theorem dX11_setArc_97 : decode cX11_setArc 97 = .ok (.iastore, 1) := by decide +kernel
theorem dX11_setArc_98 : decode cX11_setArc 98 = .ok (.aload_n 0, 1) := by decide +kernel
theorem dX11_setArc_99 : decode cX11_setArc 99 = .ok (.getfield 7, 3) := by decide +kernel
theorem dX11_setArc_102 : decode cX11_setArc 102 = .ok (.invokestatic 52, 3) := by decide +kernel
theorem dX11_setArc_105 : decode cX11_setArc 105 = .ok (.iload 4, 2) := by decide +kernel
theorem dX11_setArc_107 : decode cX11_setArc 107 = .ok (.ireturn, 1) := by decide +kernel
theorem dX11_setBudget_0 : decode cX11_setBudget 0 = .ok (.aload_n 0, 1) := by decide +kernel
theorem dX11_setBudget_1 : decode cX11_setBudget 1 = .ok (.iload_n 1, 1) := by decide +kernel
theorem dX11_setBudget_2 : decode cX11_setBudget 2 = .ok (.iconst 0, 1) := by decide +kernel
theorem dX11_setBudget_3 : decode cX11_setBudget 3 = .ok (.bipush 6, 2) := by decide +kernel
theorem dX11_setBudget_5 : decode cX11_setBudget 5 = .ok (.invokestatic 72, 3) := by decide +kernel
theorem dX11_setBudget_8 : decode cX11_setBudget 8 = .ok (.ifCond .eq 7, 3) := by decide +kernel
theorem dX11_setBudget_11 : decode cX11_setBudget 11 = .ok (.iconst 0, 1) := by decide +kernel
theorem dX11_setBudget_12 : decode cX11_setBudget 12 = .ok (.goto 4, 3) := by decide +kernel
theorem dX11_setBudget_15 : decode cX11_setBudget 15 = .ok (.iconst 1, 1) := by decide +kernel
theorem dX11_setBudget_16 : decode cX11_setBudget 16 = .ok (.putfield 56, 3) := by decide +kernel
theorem dX11_setBudget_19 : decode cX11_setBudget 19 = .ok (.aload_n 0, 1) := by decide +kernel
theorem dX11_setBudget_20 : decode cX11_setBudget 20 = .ok (.getfield 56, 3) := by decide +kernel
theorem dX11_setBudget_23 : decode cX11_setBudget 23 = .ok (.ifCond .le 5, 3) := by decide +kernel
theorem dX11_setBudget_26 : decode cX11_setBudget 26 = .ok (.iconst 0, 1) := by decide +kernel
theorem dX11_setBudget_27 : decode cX11_setBudget 27 = .ok (.ireturn, 1) := by decide +kernel
theorem dX11_setBudget_28 : decode cX11_setBudget 28 = .ok (.aload_n 0, 1) := by decide +kernel
theorem dX11_setBudget_29 : decode cX11_setBudget 29 = .ok (.invokevirtual 176, 3) := by decide +kernel
theorem dX11_setBudget_32 : decode cX11_setBudget 32 = .ok (.aload_n 0, 1) := by decide +kernel
theorem dX11_setBudget_33 : decode cX11_setBudget 33 = .ok (.getfield 7, 3) := by decide +kernel
theorem dX11_setBudget_36 : decode cX11_setBudget 36 = .ok (.iconst 3, 1) := by decide +kernel
theorem dX11_setBudget_37 : decode cX11_setBudget 37 = .ok (.iaload, 1) := by decide +kernel
theorem dX11_setBudget_38 : decode cX11_setBudget 38 = .ok (.istore_n 2, 1) := by decide +kernel
theorem dX11_setBudget_39 : decode cX11_setBudget 39 = .ok (.aload_n 0, 1) := by decide +kernel
theorem dX11_setBudget_40 : decode cX11_setBudget 40 = .ok (.getfield 7, 3) := by decide +kernel
theorem dX11_setBudget_43 : decode cX11_setBudget 43 = .ok (.iconst 3, 1) := by decide +kernel
theorem dX11_setBudget_44 : decode cX11_setBudget 44 = .ok (.iload_n 1, 1) := by decide +kernel
theorem dX11_setBudget_45 : decode cX11_setBudget 45 = .ok (.iastore, 1) := by decide +kernel
theorem dX11_setBudget_46 : decode cX11_setBudget 46 = .ok (.aload_n 0, 1) := by decide +kernel
theorem dX11_setBudget_47 : decode cX11_setBudget 47 = .ok (.getfield 7, 3) := by decide +kernel
theorem dX11_setBudget_50 : decode cX11_setBudget 50 = .ok (.invokestatic 52, 3) := by decide +kernel
theorem dX11_setBudget_53 : decode cX11_setBudget 53 = .ok (.iload_n 2, 1) := by decide +kernel
theorem dX11_setBudget_54 : decode cX11_setBudget 54 = .ok (.ireturn, 1) := by decide +kernel
theorem dX11_draftEnd_0 : decode cX11_draftEnd 0 = .ok (.aload_n 0, 1) := by decide +kernel
theorem dX11_draftEnd_1 : decode cX11_draftEnd 1 = .ok (.bipush 118, 2) := by decide +kernel
theorem dX11_draftEnd_3 : decode cX11_draftEnd 3 = .ok (.iaload, 1) := by decide +kernel
theorem dX11_draftEnd_4 : decode cX11_draftEnd 4 = .ok (.ifCond .ne 9, 3) := by decide +kernel
theorem dX11_draftEnd_7 : decode cX11_draftEnd 7 = .ok (.aload_n 0, 1) := by decide +kernel
theorem dX11_draftEnd_8 : decode cX11_draftEnd 8 = .ok (.iconst 1, 1) := by decide +kernel
theorem dX11_draftEnd_9 : decode cX11_draftEnd 9 = .ok (.iaload, 1) := by decide +kernel
theorem dX11_draftEnd_10 : decode cX11_draftEnd 10 = .ok (.goto 17, 3) := by decide +kernel
theorem dX11_draftEnd_13 : decode cX11_draftEnd 13 = .ok (.aload_n 0, 1) := by decide +kernel
theorem dX11_draftEnd_14 : decode cX11_draftEnd 14 = .ok (.aload_n 0, 1) := by decide +kernel
theorem dX11_draftEnd_15 : decode cX11_draftEnd 15 = .ok (.bipush 118, 2) := by decide +kernel
theorem dX11_draftEnd_17 : decode cX11_draftEnd 17 = .ok (.aload_n 0, 1) := by decide +kernel
theorem dX11_draftEnd_18 : decode cX11_draftEnd 18 = .ok (.bipush 118, 2) := by decide +kernel
theorem dX11_draftEnd_20 : decode cX11_draftEnd 20 = .ok (.iaload, 1) := by decide +kernel
theorem dX11_draftEnd_21 : decode cX11_draftEnd 21 = .ok (.iadd, 1) := by decide +kernel
theorem dX11_draftEnd_22 : decode cX11_draftEnd 22 = .ok (.iaload, 1) := by decide +kernel
theorem dX11_draftEnd_23 : decode cX11_draftEnd 23 = .ok (.iconst 1, 1) := by decide +kernel
theorem dX11_draftEnd_24 : decode cX11_draftEnd 24 = .ok (.invokestatic 179, 3) := by decide +kernel
theorem dX11_draftEnd_27 : decode cX11_draftEnd 27 = .ok (.ireturn, 1) := by decide +kernel
theorem dX11_isOnDraft_0 : decode cX11_isOnDraft 0 = .ok (.iload_n 1, 1) := by decide +kernel
theorem dX11_isOnDraft_1 : decode cX11_isOnDraft 1 = .ok (.aload_n 0, 1) := by decide +kernel
theorem dX11_isOnDraft_2 : decode cX11_isOnDraft 2 = .ok (.iconst 1, 1) := by decide +kernel
theorem dX11_isOnDraft_3 : decode cX11_isOnDraft 3 = .ok (.iaload, 1) := by decide +kernel
theorem dX11_isOnDraft_4 : decode cX11_isOnDraft 4 = .ok (.if_icmp .ne 7, 3) := by decide +kernel
theorem dX11_isOnDraft_7 : decode cX11_isOnDraft 7 = .ok (.iconst 1, 1) := by decide +kernel
theorem dX11_isOnDraft_8 : decode cX11_isOnDraft 8 = .ok (.goto 4, 3) := by decide +kernel
theorem dX11_isOnDraft_11 : decode cX11_isOnDraft 11 = .ok (.iconst 0, 1) := by decide +kernel
theorem dX11_isOnDraft_12 : decode cX11_isOnDraft 12 = .ok (.istore_n 2, 1) := by decide +kernel
theorem dX11_isOnDraft_13 : decode cX11_isOnDraft 13 = .ok (.iconst 1, 1) := by decide +kernel
theorem dX11_isOnDraft_14 : decode cX11_isOnDraft 14 = .ok (.istore_n 3, 1) := by decide +kernel
theorem dX11_isOnDraft_15 : decode cX11_isOnDraft 15 = .ok (.iload_n 3, 1) := by decide +kernel
theorem dX11_isOnDraft_16 : decode cX11_isOnDraft 16 = .ok (.aload_n 0, 1) := by decide +kernel
theorem dX11_isOnDraft_17 : decode cX11_isOnDraft 17 = .ok (.bipush 118, 2) := by decide +kernel
theorem dX11_isOnDraft_19 : decode cX11_isOnDraft 19 = .ok (.iaload, 1) := by decide +kernel
theorem dX11_isOnDraft_20 : decode cX11_isOnDraft 20 = .ok (.if_icmp .gt 34, 3) := by decide +kernel
theorem dX11_isOnDraft_23 : decode cX11_isOnDraft 23 = .ok (.iload_n 2, 1) := by decide +kernel
theorem dX11_isOnDraft_24 : decode cX11_isOnDraft 24 = .ok (.ifCond .ne 18, 3) := by decide +kernel
theorem dX11_isOnDraft_27 : decode cX11_isOnDraft 27 = .ok (.aload_n 0, 1) := by decide +kernel
theorem dX11_isOnDraft_28 : decode cX11_isOnDraft 28 = .ok (.aload_n 0, 1) := by decide +kernel
theorem dX11_isOnDraft_29 : decode cX11_isOnDraft 29 = .ok (.bipush 118, 2) := by decide +kernel
theorem dX11_isOnDraft_31 : decode cX11_isOnDraft 31 = .ok (.iload_n 3, 1) := by decide +kernel
theorem dX11_isOnDraft_32 : decode cX11_isOnDraft 32 = .ok (.iadd, 1) := by decide +kernel
theorem dX11_isOnDraft_33 : decode cX11_isOnDraft 33 = .ok (.iaload, 1) := by decide +kernel
theorem dX11_isOnDraft_34 : decode cX11_isOnDraft 34 = .ok (.iconst 1, 1) := by decide +kernel
theorem dX11_isOnDraft_35 : decode cX11_isOnDraft 35 = .ok (.invokestatic 179, 3) := by decide +kernel
theorem dX11_isOnDraft_38 : decode cX11_isOnDraft 38 = .ok (.iload_n 1, 1) := by decide +kernel
theorem dX11_isOnDraft_39 : decode cX11_isOnDraft 39 = .ok (.if_icmp .ne 7, 3) := by decide +kernel
theorem dX11_isOnDraft_42 : decode cX11_isOnDraft 42 = .ok (.iconst 1, 1) := by decide +kernel
theorem dX11_isOnDraft_43 : decode cX11_isOnDraft 43 = .ok (.goto 4, 3) := by decide +kernel
theorem dX11_isOnDraft_46 : decode cX11_isOnDraft 46 = .ok (.iconst 0, 1) := by decide +kernel
theorem dX11_isOnDraft_47 : decode cX11_isOnDraft 47 = .ok (.istore_n 2, 1) := by decide +kernel
theorem dX11_isOnDraft_48 : decode cX11_isOnDraft 48 = .ok (.iinc 3 1, 3) := by decide +kernel
theorem dX11_isOnDraft_51 : decode cX11_isOnDraft 51 = .ok (.goto (-36), 3) := by decide +kernel
theorem dX11_isOnDraft_54 : decode cX11_isOnDraft 54 = .ok (.iload_n 2, 1) := by decide +kernel
theorem dX11_isOnDraft_55 : decode cX11_isOnDraft 55 = .ok (.ireturn, 1) := by decide +kernel
theorem dX11_canGo_0 : decode cX11_canGo 0 = .ok (.aload_n 0, 1) := by decide +kernel
theorem dX11_canGo_1 : decode cX11_canGo 1 = .ok (.invokestatic 145, 3) := by decide +kernel
theorem dX11_canGo_4 : decode cX11_canGo 4 = .ok (.istore_n 2, 1) := by decide +kernel
theorem dX11_canGo_5 : decode cX11_canGo 5 = .ok (.iload_n 1, 1) := by decide +kernel
theorem dX11_canGo_6 : decode cX11_canGo 6 = .ok (.iconst 0, 1) := by decide +kernel
theorem dX11_canGo_7 : decode cX11_canGo 7 = .ok (.aload_n 0, 1) := by decide +kernel
theorem dX11_canGo_8 : decode cX11_canGo 8 = .ok (.iconst 4, 1) := by decide +kernel
theorem dX11_canGo_9 : decode cX11_canGo 9 = .ok (.iaload, 1) := by decide +kernel
theorem dX11_canGo_10 : decode cX11_canGo 10 = .ok (.iconst 1, 1) := by decide +kernel
theorem dX11_canGo_11 : decode cX11_canGo 11 = .ok (.isub, 1) := by decide +kernel
theorem dX11_canGo_12 : decode cX11_canGo 12 = .ok (.invokestatic 72, 3) := by decide +kernel
theorem dX11_canGo_15 : decode cX11_canGo 15 = .ok (.ifCond .eq 37, 3) := by decide +kernel
theorem dX11_canGo_18 : decode cX11_canGo 18 = .ok (.iload_n 2, 1) := by decide +kernel
theorem dX11_canGo_19 : decode cX11_canGo 19 = .ok (.aload_n 0, 1) := by decide +kernel
theorem dX11_canGo_20 : decode cX11_canGo 20 = .ok (.iconst 2, 1) := by decide +kernel
theorem dX11_canGo_21 : decode cX11_canGo 21 = .ok (.iaload, 1) := by decide +kernel
theorem dX11_canGo_22 : decode cX11_canGo 22 = .ok (.if_icmp .eq 30, 3) := by decide +kernel
theorem dX11_canGo_25 : decode cX11_canGo 25 = .ok (.aload_n 0, 1) := by decide +kernel
theorem dX11_canGo_26 : decode cX11_canGo 26 = .ok (.iload_n 1, 1) := by decide +kernel
theorem dX11_canGo_27 : decode cX11_canGo 27 = .ok (.iconst 0, 1) := by decide +kernel
theorem dX11_canGo_28 : decode cX11_canGo 28 = .ok (.invokestatic 179, 3) := by decide +kernel
theorem dX11_canGo_31 : decode cX11_canGo 31 = .ok (.iload_n 2, 1) := by decide +kernel
theorem dX11_canGo_32 : decode cX11_canGo 32 = .ok (.if_icmp .ne 20, 3) := by decide +kernel
theorem dX11_canGo_35 : decode cX11_canGo 35 = .ok (.aload_n 0, 1) := by decide +kernel
theorem dX11_canGo_36 : decode cX11_canGo 36 = .ok (.aload_n 0, 1) := by decide +kernel
theorem dX11_canGo_37 : decode cX11_canGo 37 = .ok (.iload_n 1, 1) := by decide +kernel
theorem dX11_canGo_38 : decode cX11_canGo 38 = .ok (.iconst 1, 1) := by decide +kernel
theorem dX11_canGo_39 : decode cX11_canGo 39 = .ok (.invokestatic 179, 3) := by decide +kernel
theorem dX11_canGo_42 : decode cX11_canGo 42 = .ok (.invokestatic 200, 3) := by decide +kernel
theorem dX11_canGo_45 : decode cX11_canGo 45 = .ok (.ifCond .ne 7, 3) := by decide +kernel
theorem dX11_canGo_48 : decode cX11_canGo 48 = .ok (.iconst 1, 1) := by decide +kernel
theorem dX11_canGo_49 : decode cX11_canGo 49 = .ok (.goto 4, 3) := by decide +kernel
theorem dX11_canGo_52 : decode cX11_canGo 52 = .ok (.iconst 0, 1) := by decide +kernel
theorem dX11_canGo_53 : decode cX11_canGo 53 = .ok (.ireturn, 1) := by decide +kernel
theorem dX11_appendsTo_0 : decode cX11_appendsTo 0 = .ok (.aload_n 0, 1) := by decide +kernel
theorem dX11_appendsTo_1 : decode cX11_appendsTo 1 = .ok (.bipush 118, 2) := by decide +kernel
theorem dX11_appendsTo_3 : decode cX11_appendsTo 3 = .ok (.dup2, 1) := by decide +kernel
theorem dX11_appendsTo_4 : decode cX11_appendsTo 4 = .ok (.iaload, 1) := by decide +kernel
theorem dX11_appendsTo_5 : decode cX11_appendsTo 5 = .ok (.iconst 1, 1) := by decide +kernel
theorem dX11_appendsTo_6 : decode cX11_appendsTo 6 = .ok (.iadd, 1) := by decide +kernel
theorem dX11_appendsTo_7 : decode cX11_appendsTo 7 = .ok (.iastore, 1) := by decide +kernel
theorem dX11_appendsTo_8 : decode cX11_appendsTo 8 = .ok (.aload_n 0, 1) := by decide +kernel
theorem dX11_appendsTo_9 : decode cX11_appendsTo 9 = .ok (.bipush 118, 2) := by decide +kernel
theorem dX11_appendsTo_11 : decode cX11_appendsTo 11 = .ok (.aload_n 0, 1) := by decide +kernel
theorem dX11_appendsTo_12 : decode cX11_appendsTo 12 = .ok (.bipush 118, 2) := by decide +kernel
theorem dX11_appendsTo_14 : decode cX11_appendsTo 14 = .ok (.iaload, 1) := by decide +kernel
theorem dX11_appendsTo_15 : decode cX11_appendsTo 15 = .ok (.iadd, 1) := by decide +kernel
theorem dX11_appendsTo_16 : decode cX11_appendsTo 16 = .ok (.iload_n 1, 1) := by decide +kernel
theorem dX11_appendsTo_17 : decode cX11_appendsTo 17 = .ok (.iastore, 1) := by decide +kernel
theorem dX11_appendsTo_18 : decode cX11_appendsTo 18 = .ok (.return_, 1) := by decide +kernel
theorem dX11_toldAs_0 : decode cX11_toldAs 0 = .ok (.iconst 0, 1) := by decide +kernel
theorem dX11_toldAs_1 : decode cX11_toldAs 1 = .ok (.istore_n 1, 1) := by decide +kernel
theorem dX11_toldAs_2 : decode cX11_toldAs 2 = .ok (.iload_n 1, 1) := by decide +kernel
theorem dX11_toldAs_3 : decode cX11_toldAs 3 = .ok (.aload_n 0, 1) := by decide +kernel
theorem dX11_toldAs_4 : decode cX11_toldAs 4 = .ok (.bipush 69, 2) := by decide +kernel
theorem dX11_toldAs_6 : decode cX11_toldAs 6 = .ok (.iaload, 1) := by decide +kernel
theorem dX11_toldAs_7 : decode cX11_toldAs 7 = .ok (.if_icmp .ge 63, 3) := by decide +kernel
theorem dX11_toldAs_10 : decode cX11_toldAs 10 = .ok (.iconst 1, 1) := by decide +kernel
theorem dX11_toldAs_11 : decode cX11_toldAs 11 = .ok (.istore_n 2, 1) := by decide +kernel
theorem dX11_toldAs_12 : decode cX11_toldAs 12 = .ok (.iconst 0, 1) := by decide +kernel
theorem dX11_toldAs_13 : decode cX11_toldAs 13 = .ok (.istore_n 3, 1) := by decide +kernel
theorem dX11_toldAs_14 : decode cX11_toldAs 14 = .ok (.iload_n 3, 1) := by decide +kernel
theorem dX11_toldAs_15 : decode cX11_toldAs 15 = .ok (.aload_n 0, 1) := by decide +kernel
theorem dX11_toldAs_16 : decode cX11_toldAs 16 = .ok (.bipush 118, 2) := by decide +kernel
theorem dX11_toldAs_18 : decode cX11_toldAs 18 = .ok (.iaload, 1) := by decide +kernel
theorem dX11_toldAs_19 : decode cX11_toldAs 19 = .ok (.if_icmp .gt 39, 3) := by decide +kernel
theorem dX11_toldAs_22 : decode cX11_toldAs 22 = .ok (.iload_n 2, 1) := by decide +kernel
theorem dX11_toldAs_23 : decode cX11_toldAs 23 = .ok (.ifCond .eq 35, 3) := by decide +kernel
theorem dX11_toldAs_26 : decode cX11_toldAs 26 = .ok (.aload_n 0, 1) := by decide +kernel
theorem dX11_toldAs_27 : decode cX11_toldAs 27 = .ok (.bipush 70, 2) := by decide +kernel
theorem dX11_toldAs_29 : decode cX11_toldAs 29 = .ok (.bipush 8, 2) := by decide +kernel
theorem dX11_toldAs_31 : decode cX11_toldAs 31 = .ok (.iload_n 1, 1) := by decide +kernel
theorem dX11_toldAs_32 : decode cX11_toldAs 32 = .ok (.imul, 1) := by decide +kernel
theorem dX11_toldAs_33 : decode cX11_toldAs 33 = .ok (.iadd, 1) := by decide +kernel
theorem dX11_toldAs_34 : decode cX11_toldAs 34 = .ok (.iload_n 3, 1) := by decide +kernel
theorem dX11_toldAs_35 : decode cX11_toldAs 35 = .ok (.iadd, 1) := by decide +kernel
theorem dX11_toldAs_36 : decode cX11_toldAs 36 = .ok (.iaload, 1) := by decide +kernel
theorem dX11_toldAs_37 : decode cX11_toldAs 37 = .ok (.aload_n 0, 1) := by decide +kernel
theorem dX11_toldAs_38 : decode cX11_toldAs 38 = .ok (.bipush 118, 2) := by decide +kernel
theorem dX11_toldAs_40 : decode cX11_toldAs 40 = .ok (.iload_n 3, 1) := by decide +kernel
theorem dX11_toldAs_41 : decode cX11_toldAs 41 = .ok (.iadd, 1) := by decide +kernel
theorem dX11_toldAs_42 : decode cX11_toldAs 42 = .ok (.iaload, 1) := by decide +kernel
theorem dX11_toldAs_43 : decode cX11_toldAs 43 = .ok (.if_icmp .ne 7, 3) := by decide +kernel
theorem dX11_toldAs_46 : decode cX11_toldAs 46 = .ok (.iconst 1, 1) := by decide +kernel
theorem dX11_toldAs_47 : decode cX11_toldAs 47 = .ok (.goto 4, 3) := by decide +kernel
theorem dX11_toldAs_50 : decode cX11_toldAs 50 = .ok (.iconst 0, 1) := by decide +kernel
theorem dX11_toldAs_51 : decode cX11_toldAs 51 = .ok (.istore_n 2, 1) := by decide +kernel
theorem dX11_toldAs_52 : decode cX11_toldAs 52 = .ok (.iinc 3 1, 3) := by decide +kernel
theorem dX11_toldAs_55 : decode cX11_toldAs 55 = .ok (.goto (-41), 3) := by decide +kernel
theorem dX11_toldAs_58 : decode cX11_toldAs 58 = .ok (.iload_n 2, 1) := by decide +kernel
theorem dX11_toldAs_59 : decode cX11_toldAs 59 = .ok (.ifCond .eq 5, 3) := by decide +kernel
theorem dX11_toldAs_62 : decode cX11_toldAs 62 = .ok (.iload_n 1, 1) := by decide +kernel
theorem dX11_toldAs_63 : decode cX11_toldAs 63 = .ok (.ireturn, 1) := by decide +kernel
theorem dX11_toldAs_64 : decode cX11_toldAs 64 = .ok (.iinc 1 1, 3) := by decide +kernel
theorem dX11_toldAs_67 : decode cX11_toldAs 67 = .ok (.goto (-65), 3) := by decide +kernel
theorem dX11_toldAs_70 : decode cX11_toldAs 70 = .ok (.iconst (-1), 1) := by decide +kernel
theorem dX11_toldAs_71 : decode cX11_toldAs 71 = .ok (.ireturn, 1) := by decide +kernel
theorem dX11_tells_0 : decode cX11_tells 0 = .ok (.iconst 0, 1) := by decide +kernel
theorem dX11_tells_1 : decode cX11_tells 1 = .ok (.istore_n 1, 1) := by decide +kernel
theorem dX11_tells_2 : decode cX11_tells 2 = .ok (.iload_n 1, 1) := by decide +kernel
theorem dX11_tells_3 : decode cX11_tells 3 = .ok (.bipush 8, 2) := by decide +kernel
theorem dX11_tells_5 : decode cX11_tells 5 = .ok (.if_icmp .ge 29, 3) := by decide +kernel
theorem dX11_tells_8 : decode cX11_tells 8 = .ok (.aload_n 0, 1) := by decide +kernel
theorem dX11_tells_9 : decode cX11_tells 9 = .ok (.bipush 70, 2) := by decide +kernel
theorem dX11_tells_11 : decode cX11_tells 11 = .ok (.bipush 8, 2) := by decide +kernel
theorem dX11_tells_13 : decode cX11_tells 13 = .ok (.aload_n 0, 1) := by decide +kernel
theorem dX11_tells_14 : decode cX11_tells 14 = .ok (.bipush 69, 2) := by decide +kernel
theorem dX11_tells_16 : decode cX11_tells 16 = .ok (.iaload, 1) := by decide +kernel
theorem dX11_tells_17 : decode cX11_tells 17 = .ok (.imul, 1) := by decide +kernel
theorem dX11_tells_18 : decode cX11_tells 18 = .ok (.iadd, 1) := by decide +kernel
theorem dX11_tells_19 : decode cX11_tells 19 = .ok (.iload_n 1, 1) := by decide +kernel
theorem dX11_tells_20 : decode cX11_tells 20 = .ok (.iadd, 1) := by decide +kernel
theorem dX11_tells_21 : decode cX11_tells 21 = .ok (.aload_n 0, 1) := by decide +kernel
theorem dX11_tells_22 : decode cX11_tells 22 = .ok (.bipush 118, 2) := by decide +kernel
theorem dX11_tells_24 : decode cX11_tells 24 = .ok (.iload_n 1, 1) := by decide +kernel
theorem dX11_tells_25 : decode cX11_tells 25 = .ok (.iadd, 1) := by decide +kernel
theorem dX11_tells_26 : decode cX11_tells 26 = .ok (.iaload, 1) := by decide +kernel
theorem dX11_tells_27 : decode cX11_tells 27 = .ok (.iastore, 1) := by decide +kernel
theorem dX11_tells_28 : decode cX11_tells 28 = .ok (.iinc 1 1, 3) := by decide +kernel
theorem dX11_tells_31 : decode cX11_tells 31 = .ok (.goto (-29), 3) := by decide +kernel
theorem dX11_tells_34 : decode cX11_tells 34 = .ok (.aload_n 0, 1) := by decide +kernel
theorem dX11_tells_35 : decode cX11_tells 35 = .ok (.bipush 69, 2) := by decide +kernel
theorem dX11_tells_37 : decode cX11_tells 37 = .ok (.dup2, 1) := by decide +kernel
theorem dX11_tells_38 : decode cX11_tells 38 = .ok (.iaload, 1) := by decide +kernel
theorem dX11_tells_39 : decode cX11_tells 39 = .ok (.iconst 1, 1) := by decide +kernel
theorem dX11_tells_40 : decode cX11_tells 40 = .ok (.iadd, 1) := by decide +kernel
theorem dX11_tells_41 : decode cX11_tells 41 = .ok (.iastore, 1) := by decide +kernel
theorem dX11_tells_42 : decode cX11_tells 42 = .ok (.aload_n 0, 1) := by decide +kernel
theorem dX11_tells_43 : decode cX11_tells 43 = .ok (.bipush 118, 2) := by decide +kernel
theorem dX11_tells_45 : decode cX11_tells 45 = .ok (.iconst 0, 1) := by decide +kernel
theorem dX11_tells_46 : decode cX11_tells 46 = .ok (.iastore, 1) := by decide +kernel
theorem dX11_tells_47 : decode cX11_tells 47 = .ok (.return_, 1) := by decide +kernel
theorem dX11_draft_0 : decode cX11_draft 0 = .ok (.aload_n 0, 1) := by decide +kernel
theorem dX11_draft_1 : decode cX11_draft 1 = .ok (.aload_n 0, 1) := by decide +kernel
theorem dX11_draft_2 : decode cX11_draft 2 = .ok (.iload_n 1, 1) := by decide +kernel
theorem dX11_draft_3 : decode cX11_draft 3 = .ok (.invokevirtual 187, 3) := by decide +kernel
theorem dX11_draft_6 : decode cX11_draft 6 = .ok (.ifCond .ne 7, 3) := by decide +kernel
theorem dX11_draft_9 : decode cX11_draft 9 = .ok (.iconst 1, 1) := by decide +kernel
theorem dX11_draft_10 : decode cX11_draft 10 = .ok (.goto 19, 3) := by decide +kernel
theorem dX11_draft_13 : decode cX11_draft 13 = .ok (.aload_n 0, 1) := by decide +kernel
theorem dX11_draft_14 : decode cX11_draft 14 = .ok (.getfield 7, 3) := by decide +kernel
theorem dX11_draft_17 : decode cX11_draft 17 = .ok (.iload_n 1, 1) := by decide +kernel
theorem dX11_draft_18 : decode cX11_draft 18 = .ok (.invokestatic 134, 3) := by decide +kernel
theorem dX11_draft_21 : decode cX11_draft 21 = .ok (.ifCond .eq 7, 3) := by decide +kernel
theorem dX11_draft_24 : decode cX11_draft 24 = .ok (.iconst 0, 1) := by decide +kernel
theorem dX11_draft_25 : decode cX11_draft 25 = .ok (.goto 4, 3) := by decide +kernel
theorem dX11_draft_28 : decode cX11_draft 28 = .ok (.iconst 2, 1) := by decide +kernel
theorem dX11_draft_29 : decode cX11_draft 29 = .ok (.putfield 56, 3) := by decide +kernel
theorem dX11_draft_32 : decode cX11_draft 32 = .ok (.aload_n 0, 1) := by decide +kernel
theorem dX11_draft_33 : decode cX11_draft 33 = .ok (.getfield 56, 3) := by decide +kernel
theorem dX11_draft_36 : decode cX11_draft 36 = .ok (.ifCond .le 5, 3) := by decide +kernel
theorem dX11_draft_39 : decode cX11_draft 39 = .ok (.iconst 0, 1) := by decide +kernel
theorem dX11_draft_40 : decode cX11_draft 40 = .ok (.ireturn, 1) := by decide +kernel
theorem dX11_draft_41 : decode cX11_draft 41 = .ok (.aload_n 0, 1) := by decide +kernel
theorem dX11_draft_42 : decode cX11_draft 42 = .ok (.invokevirtual 176, 3) := by decide +kernel
theorem dX11_draft_45 : decode cX11_draft 45 = .ok (.aload_n 0, 1) := by decide +kernel
theorem dX11_draft_46 : decode cX11_draft 46 = .ok (.getfield 7, 3) := by decide +kernel
theorem dX11_draft_49 : decode cX11_draft 49 = .ok (.iload_n 1, 1) := by decide +kernel
theorem dX11_draft_50 : decode cX11_draft 50 = .ok (.invokestatic 138, 3) := by decide +kernel
theorem dX11_draft_53 : decode cX11_draft 53 = .ok (.aload_n 0, 1) := by decide +kernel
theorem dX11_draft_54 : decode cX11_draft 54 = .ok (.getfield 7, 3) := by decide +kernel
theorem dX11_draft_57 : decode cX11_draft 57 = .ok (.invokestatic 145, 3) := by decide +kernel
theorem dX11_draft_60 : decode cX11_draft 60 = .ok (.ireturn, 1) := by decide +kernel
theorem dX11_drop_0 : decode cX11_drop 0 = .ok (.aload_n 0, 1) := by decide +kernel
theorem dX11_drop_1 : decode cX11_drop 1 = .ok (.aload_n 0, 1) := by decide +kernel
theorem dX11_drop_2 : decode cX11_drop 2 = .ok (.getfield 7, 3) := by decide +kernel
theorem dX11_drop_5 : decode cX11_drop 5 = .ok (.bipush 118, 2) := by decide +kernel
theorem dX11_drop_7 : decode cX11_drop 7 = .ok (.iaload, 1) := by decide +kernel
theorem dX11_drop_8 : decode cX11_drop 8 = .ok (.ifCond .ne 7, 3) := by decide +kernel
theorem dX11_drop_11 : decode cX11_drop 11 = .ok (.iconst 1, 1) := by decide +kernel
theorem dX11_drop_12 : decode cX11_drop 12 = .ok (.goto 4, 3) := by decide +kernel
theorem dX11_drop_15 : decode cX11_drop 15 = .ok (.iconst 0, 1) := by decide +kernel
theorem dX11_drop_16 : decode cX11_drop 16 = .ok (.putfield 56, 3) := by decide +kernel
theorem dX11_drop_19 : decode cX11_drop 19 = .ok (.aload_n 0, 1) := by decide +kernel
theorem dX11_drop_20 : decode cX11_drop 20 = .ok (.getfield 56, 3) := by decide +kernel
theorem dX11_drop_23 : decode cX11_drop 23 = .ok (.ifCond .le 5, 3) := by decide +kernel
theorem dX11_drop_26 : decode cX11_drop 26 = .ok (.iconst 0, 1) := by decide +kernel
theorem dX11_drop_27 : decode cX11_drop 27 = .ok (.ireturn, 1) := by decide +kernel
theorem dX11_drop_28 : decode cX11_drop 28 = .ok (.aload_n 0, 1) := by decide +kernel
theorem dX11_drop_29 : decode cX11_drop 29 = .ok (.invokevirtual 176, 3) := by decide +kernel
theorem dX11_drop_32 : decode cX11_drop 32 = .ok (.aload_n 0, 1) := by decide +kernel
theorem dX11_drop_33 : decode cX11_drop 33 = .ok (.getfield 7, 3) := by decide +kernel
theorem dX11_drop_36 : decode cX11_drop 36 = .ok (.bipush 118, 2) := by decide +kernel
theorem dX11_drop_38 : decode cX11_drop 38 = .ok (.dup2, 1) := by decide +kernel
theorem dX11_drop_39 : decode cX11_drop 39 = .ok (.iaload, 1) := by decide +kernel
theorem dX11_drop_40 : decode cX11_drop 40 = .ok (.iconst 1, 1) := by decide +kernel
theorem dX11_drop_41 : decode cX11_drop 41 = .ok (.isub, 1) := by decide +kernel
theorem dX11_drop_42 : decode cX11_drop 42 = .ok (.iastore, 1) := by decide +kernel
theorem dX11_drop_43 : decode cX11_drop 43 = .ok (.aload_n 0, 1) := by decide +kernel
theorem dX11_drop_44 : decode cX11_drop 44 = .ok (.getfield 7, 3) := by decide +kernel
theorem dX11_drop_47 : decode cX11_drop 47 = .ok (.bipush 118, 2) := by decide +kernel
theorem dX11_drop_49 : decode cX11_drop 49 = .ok (.iaload, 1) := by decide +kernel
theorem dX11_drop_50 : decode cX11_drop 50 = .ok (.ireturn, 1) := by decide +kernel
theorem dX11_reasonNow_0 : decode cX11_reasonNow 0 = .ok (.aload_n 0, 1) := by decide +kernel
theorem dX11_reasonNow_1 : decode cX11_reasonNow 1 = .ok (.getfield 7, 3) := by decide +kernel
theorem dX11_reasonNow_4 : decode cX11_reasonNow 4 = .ok (.invokestatic 145, 3) := by decide +kernel
theorem dX11_reasonNow_7 : decode cX11_reasonNow 7 = .ok (.aload_n 0, 1) := by decide +kernel
theorem dX11_reasonNow_8 : decode cX11_reasonNow 8 = .ok (.getfield 7, 3) := by decide +kernel
theorem dX11_reasonNow_11 : decode cX11_reasonNow 11 = .ok (.iconst 2, 1) := by decide +kernel
theorem dX11_reasonNow_12 : decode cX11_reasonNow 12 = .ok (.iaload, 1) := by decide +kernel
theorem dX11_reasonNow_13 : decode cX11_reasonNow 13 = .ok (.if_icmp .eq 7, 3) := by decide +kernel
theorem dX11_reasonNow_16 : decode cX11_reasonNow 16 = .ok (.iconst 1, 1) := by decide +kernel
theorem dX11_reasonNow_17 : decode cX11_reasonNow 17 = .ok (.goto 35, 3) := by decide +kernel
theorem dX11_reasonNow_20 : decode cX11_reasonNow 20 = .ok (.aload_n 0, 1) := by decide +kernel
theorem dX11_reasonNow_21 : decode cX11_reasonNow 21 = .ok (.getfield 7, 3) := by decide +kernel
theorem dX11_reasonNow_24 : decode cX11_reasonNow 24 = .ok (.invokestatic 149, 3) := by decide +kernel
theorem dX11_reasonNow_27 : decode cX11_reasonNow 27 = .ok (.iconst (-1), 1) := by decide +kernel
theorem dX11_reasonNow_28 : decode cX11_reasonNow 28 = .ok (.if_icmp .eq 7, 3) := by decide +kernel
theorem dX11_reasonNow_31 : decode cX11_reasonNow 31 = .ok (.iconst 2, 1) := by decide +kernel
theorem dX11_reasonNow_32 : decode cX11_reasonNow 32 = .ok (.goto 20, 3) := by decide +kernel
theorem dX11_reasonNow_35 : decode cX11_reasonNow 35 = .ok (.aload_n 0, 1) := by decide +kernel
theorem dX11_reasonNow_36 : decode cX11_reasonNow 36 = .ok (.getfield 7, 3) := by decide +kernel
theorem dX11_reasonNow_39 : decode cX11_reasonNow 39 = .ok (.bipush 69, 2) := by decide +kernel
theorem dX11_reasonNow_41 : decode cX11_reasonNow 41 = .ok (.iaload, 1) := by decide +kernel
theorem dX11_reasonNow_42 : decode cX11_reasonNow 42 = .ok (.bipush 6, 2) := by decide +kernel
theorem dX11_reasonNow_44 : decode cX11_reasonNow 44 = .ok (.if_icmp .ne 7, 3) := by decide +kernel
theorem dX11_reasonNow_47 : decode cX11_reasonNow 47 = .ok (.iconst 3, 1) := by decide +kernel
theorem dX11_reasonNow_48 : decode cX11_reasonNow 48 = .ok (.goto 4, 3) := by decide +kernel
theorem dX11_reasonNow_51 : decode cX11_reasonNow 51 = .ok (.iconst 0, 1) := by decide +kernel
theorem dX11_reasonNow_52 : decode cX11_reasonNow 52 = .ok (.ireturn, 1) := by decide +kernel
theorem dX11_reason_0 : decode cX11_reason 0 = .ok (.aload_n 0, 1) := by decide +kernel
theorem dX11_reason_1 : decode cX11_reason 1 = .ok (.iconst 0, 1) := by decide +kernel
theorem dX11_reason_2 : decode cX11_reason 2 = .ok (.putfield 56, 3) := by decide +kernel
theorem dX11_reason_5 : decode cX11_reason 5 = .ok (.aload_n 0, 1) := by decide +kernel
theorem dX11_reason_6 : decode cX11_reason 6 = .ok (.invokevirtual 203, 3) := by decide +kernel
theorem dX11_reason_9 : decode cX11_reason 9 = .ok (.ireturn, 1) := by decide +kernel
theorem dX11_tell_0 : decode cX11_tell 0 = .ok (.aload_n 0, 1) := by decide +kernel
theorem dX11_tell_1 : decode cX11_tell 1 = .ok (.aload_n 0, 1) := by decide +kernel
theorem dX11_tell_2 : decode cX11_tell 2 = .ok (.invokevirtual 203, 3) := by decide +kernel
theorem dX11_tell_5 : decode cX11_tell 5 = .ok (.ifCond .le 7, 3) := by decide +kernel
theorem dX11_tell_8 : decode cX11_tell 8 = .ok (.iconst 1, 1) := by decide +kernel
theorem dX11_tell_9 : decode cX11_tell 9 = .ok (.goto 4, 3) := by decide +kernel
theorem dX11_tell_12 : decode cX11_tell 12 = .ok (.iconst 0, 1) := by decide +kernel
theorem dX11_tell_13 : decode cX11_tell 13 = .ok (.putfield 56, 3) := by decide +kernel
theorem dX11_tell_16 : decode cX11_tell 16 = .ok (.aload_n 0, 1) := by decide +kernel
theorem dX11_tell_17 : decode cX11_tell 17 = .ok (.getfield 56, 3) := by decide +kernel
theorem dX11_tell_20 : decode cX11_tell 20 = .ok (.ifCond .le 5, 3) := by decide +kernel
theorem dX11_tell_23 : decode cX11_tell 23 = .ok (.iconst 0, 1) := by decide +kernel
theorem dX11_tell_24 : decode cX11_tell 24 = .ok (.ireturn, 1) := by decide +kernel
theorem dX11_tell_25 : decode cX11_tell 25 = .ok (.aload_n 0, 1) := by decide +kernel
theorem dX11_tell_26 : decode cX11_tell 26 = .ok (.invokevirtual 176, 3) := by decide +kernel
theorem dX11_tell_29 : decode cX11_tell 29 = .ok (.aload_n 0, 1) := by decide +kernel
theorem dX11_tell_30 : decode cX11_tell 30 = .ok (.getfield 7, 3) := by decide +kernel
theorem dX11_tell_33 : decode cX11_tell 33 = .ok (.invokestatic 152, 3) := by decide +kernel
theorem dX11_tell_36 : decode cX11_tell 36 = .ok (.aload_n 0, 1) := by decide +kernel
theorem dX11_tell_37 : decode cX11_tell 37 = .ok (.getfield 7, 3) := by decide +kernel
theorem dX11_tell_40 : decode cX11_tell 40 = .ok (.bipush 69, 2) := by decide +kernel
theorem dX11_tell_42 : decode cX11_tell 42 = .ok (.iaload, 1) := by decide +kernel
theorem dX11_tell_43 : decode cX11_tell 43 = .ok (.iconst 1, 1) := by decide +kernel
theorem dX11_tell_44 : decode cX11_tell 44 = .ok (.isub, 1) := by decide +kernel
theorem dX11_tell_45 : decode cX11_tell 45 = .ok (.ireturn, 1) := by decide +kernel
theorem dX11_forget_0 : decode cX11_forget 0 = .ok (.aload_n 0, 1) := by decide +kernel
theorem dX11_forget_1 : decode cX11_forget 1 = .ok (.aload_n 0, 1) := by decide +kernel
theorem dX11_forget_2 : decode cX11_forget 2 = .ok (.iload_n 1, 1) := by decide +kernel
theorem dX11_forget_3 : decode cX11_forget 3 = .ok (.invokevirtual 206, 3) := by decide +kernel
theorem dX11_forget_6 : decode cX11_forget 6 = .ok (.ifCond .eq 7, 3) := by decide +kernel
theorem dX11_forget_9 : decode cX11_forget 9 = .ok (.iconst 0, 1) := by decide +kernel
theorem dX11_forget_10 : decode cX11_forget 10 = .ok (.goto 4, 3) := by decide +kernel
theorem dX11_forget_13 : decode cX11_forget 13 = .ok (.iconst 1, 1) := by decide +kernel
theorem dX11_forget_14 : decode cX11_forget 14 = .ok (.putfield 56, 3) := by decide +kernel
theorem dX11_forget_17 : decode cX11_forget 17 = .ok (.aload_n 0, 1) := by decide +kernel
theorem dX11_forget_18 : decode cX11_forget 18 = .ok (.getfield 56, 3) := by decide +kernel
theorem dX11_forget_21 : decode cX11_forget 21 = .ok (.ifCond .le 5, 3) := by decide +kernel
theorem dX11_forget_24 : decode cX11_forget 24 = .ok (.iconst 0, 1) := by decide +kernel
theorem dX11_forget_25 : decode cX11_forget 25 = .ok (.ireturn, 1) := by decide +kernel
theorem dX11_forget_26 : decode cX11_forget 26 = .ok (.aload_n 0, 1) := by decide +kernel
theorem dX11_forget_27 : decode cX11_forget 27 = .ok (.invokevirtual 176, 3) := by decide +kernel
theorem dX11_forget_30 : decode cX11_forget 30 = .ok (.aload_n 0, 1) := by decide +kernel
theorem dX11_forget_31 : decode cX11_forget 31 = .ok (.getfield 7, 3) := by decide +kernel
theorem dX11_forget_34 : decode cX11_forget 34 = .ok (.bipush 69, 2) := by decide +kernel
theorem dX11_forget_36 : decode cX11_forget 36 = .ok (.dup2, 1) := by decide +kernel
theorem dX11_forget_37 : decode cX11_forget 37 = .ok (.iaload, 1) := by decide +kernel
theorem dX11_forget_38 : decode cX11_forget 38 = .ok (.iconst 1, 1) := by decide +kernel
theorem dX11_forget_39 : decode cX11_forget 39 = .ok (.isub, 1) := by decide +kernel
theorem dX11_forget_40 : decode cX11_forget 40 = .ok (.iastore, 1) := by decide +kernel
theorem dX11_forget_41 : decode cX11_forget 41 = .ok (.bipush 70, 2) := by decide +kernel
theorem dX11_forget_43 : decode cX11_forget 43 = .ok (.bipush 8, 2) := by decide +kernel
theorem dX11_forget_45 : decode cX11_forget 45 = .ok (.iload_n 1, 1) := by decide +kernel
theorem dX11_forget_46 : decode cX11_forget 46 = .ok (.imul, 1) := by decide +kernel
theorem dX11_forget_47 : decode cX11_forget 47 = .ok (.iadd, 1) := by decide +kernel
theorem dX11_forget_48 : decode cX11_forget 48 = .ok (.istore_n 2, 1) := by decide +kernel
theorem dX11_forget_49 : decode cX11_forget 49 = .ok (.iload_n 2, 1) := by decide +kernel
theorem dX11_forget_50 : decode cX11_forget 50 = .ok (.bipush 70, 2) := by decide +kernel
theorem dX11_forget_52 : decode cX11_forget 52 = .ok (.bipush 8, 2) := by decide +kernel
theorem dX11_forget_54 : decode cX11_forget 54 = .ok (.aload_n 0, 1) := by decide +kernel
theorem dX11_forget_55 : decode cX11_forget 55 = .ok (.getfield 7, 3) := by decide +kernel
theorem dX11_forget_58 : decode cX11_forget 58 = .ok (.bipush 69, 2) := by decide +kernel
theorem dX11_forget_60 : decode cX11_forget 60 = .ok (.iaload, 1) := by decide +kernel
theorem dX11_forget_61 : decode cX11_forget 61 = .ok (.imul, 1) := by decide +kernel
theorem dX11_forget_62 : decode cX11_forget 62 = .ok (.iadd, 1) := by decide +kernel
theorem dX11_forget_63 : decode cX11_forget 63 = .ok (.if_icmp .ge 24, 3) := by decide +kernel
theorem dX11_forget_66 : decode cX11_forget 66 = .ok (.aload_n 0, 1) := by decide +kernel
theorem dX11_forget_67 : decode cX11_forget 67 = .ok (.getfield 7, 3) := by decide +kernel
theorem dX11_forget_70 : decode cX11_forget 70 = .ok (.iload_n 2, 1) := by decide +kernel
theorem dX11_forget_71 : decode cX11_forget 71 = .ok (.aload_n 0, 1) := by decide +kernel
theorem dX11_forget_72 : decode cX11_forget 72 = .ok (.getfield 7, 3) := by decide +kernel
theorem dX11_forget_75 : decode cX11_forget 75 = .ok (.iload_n 2, 1) := by decide +kernel
theorem dX11_forget_76 : decode cX11_forget 76 = .ok (.bipush 8, 2) := by decide +kernel
theorem dX11_forget_78 : decode cX11_forget 78 = .ok (.iadd, 1) := by decide +kernel
theorem dX11_forget_79 : decode cX11_forget 79 = .ok (.iaload, 1) := by decide +kernel
theorem dX11_forget_80 : decode cX11_forget 80 = .ok (.iastore, 1) := by decide +kernel
theorem dX11_forget_81 : decode cX11_forget 81 = .ok (.iinc 2 1, 3) := by decide +kernel
theorem dX11_forget_84 : decode cX11_forget 84 = .ok (.goto (-35), 3) := by decide +kernel
theorem dX11_forget_87 : decode cX11_forget 87 = .ok (.aload_n 0, 1) := by decide +kernel
theorem dX11_forget_88 : decode cX11_forget 88 = .ok (.getfield 7, 3) := by decide +kernel
theorem dX11_forget_91 : decode cX11_forget 91 = .ok (.bipush 69, 2) := by decide +kernel
theorem dX11_forget_93 : decode cX11_forget 93 = .ok (.iaload, 1) := by decide +kernel
theorem dX11_forget_94 : decode cX11_forget 94 = .ok (.ireturn, 1) := by decide +kernel
theorem dX11_routeArc_0 : decode cX11_routeArc 0 = .ok (.aload_n 0, 1) := by decide +kernel
theorem dX11_routeArc_1 : decode cX11_routeArc 1 = .ok (.aload_n 0, 1) := by decide +kernel
theorem dX11_routeArc_2 : decode cX11_routeArc 2 = .ok (.iload_n 1, 1) := by decide +kernel
theorem dX11_routeArc_3 : decode cX11_routeArc 3 = .ok (.invokevirtual 206, 3) := by decide +kernel
theorem dX11_routeArc_6 : decode cX11_routeArc 6 = .ok (.ifCond .eq 29, 3) := by decide +kernel
theorem dX11_routeArc_9 : decode cX11_routeArc 9 = .ok (.iload_n 2, 1) := by decide +kernel
theorem dX11_routeArc_10 : decode cX11_routeArc 10 = .ok (.iconst 0, 1) := by decide +kernel
theorem dX11_routeArc_11 : decode cX11_routeArc 11 = .ok (.aload_n 0, 1) := by decide +kernel
theorem dX11_routeArc_12 : decode cX11_routeArc 12 = .ok (.getfield 7, 3) := by decide +kernel
theorem dX11_routeArc_15 : decode cX11_routeArc 15 = .ok (.bipush 70, 2) := by decide +kernel
theorem dX11_routeArc_17 : decode cX11_routeArc 17 = .ok (.bipush 8, 2) := by decide +kernel
theorem dX11_routeArc_19 : decode cX11_routeArc 19 = .ok (.iload_n 1, 1) := by decide +kernel
theorem dX11_routeArc_20 : decode cX11_routeArc 20 = .ok (.imul, 1) := by decide +kernel
theorem dX11_routeArc_21 : decode cX11_routeArc 21 = .ok (.iadd, 1) := by decide +kernel
theorem dX11_routeArc_22 : decode cX11_routeArc 22 = .ok (.iaload, 1) := by decide +kernel
theorem dX11_routeArc_23 : decode cX11_routeArc 23 = .ok (.iconst 1, 1) := by decide +kernel
theorem dX11_routeArc_24 : decode cX11_routeArc 24 = .ok (.isub, 1) := by decide +kernel
theorem dX11_routeArc_25 : decode cX11_routeArc 25 = .ok (.invokestatic 72, 3) := by decide +kernel
theorem dX11_routeArc_28 : decode cX11_routeArc 28 = .ok (.ifCond .eq 7, 3) := by decide +kernel
theorem dX11_routeArc_31 : decode cX11_routeArc 31 = .ok (.iconst 0, 1) := by decide +kernel
theorem dX11_routeArc_32 : decode cX11_routeArc 32 = .ok (.goto 4, 3) := by decide +kernel
theorem dX11_routeArc_35 : decode cX11_routeArc 35 = .ok (.iconst 1, 1) := by decide +kernel
theorem dX11_routeArc_36 : decode cX11_routeArc 36 = .ok (.putfield 56, 3) := by decide +kernel
theorem dX11_routeArc_39 : decode cX11_routeArc 39 = .ok (.aload_n 0, 1) := by decide +kernel
theorem dX11_routeArc_40 : decode cX11_routeArc 40 = .ok (.getfield 56, 3) := by decide +kernel
theorem dX11_routeArc_43 : decode cX11_routeArc 43 = .ok (.ifCond .le 7, 3) := by decide +kernel
theorem dX11_routeArc_46 : decode cX11_routeArc 46 = .ok (.iconst 0, 1) := by decide +kernel
theorem dX11_routeArc_47 : decode cX11_routeArc 47 = .ok (.goto 19, 3) := by decide +kernel
theorem dX11_routeArc_50 : decode cX11_routeArc 50 = .ok (.aload_n 0, 1) := by decide +kernel
theorem dX11_routeArc_51 : decode cX11_routeArc 51 = .ok (.getfield 7, 3) := by decide +kernel
theorem dX11_routeArc_54 : decode cX11_routeArc 54 = .ok (.bipush 70, 2) := by decide +kernel
theorem dX11_routeArc_56 : decode cX11_routeArc 56 = .ok (.bipush 8, 2) := by decide +kernel
theorem dX11_routeArc_58 : decode cX11_routeArc 58 = .ok (.iload_n 1, 1) := by decide +kernel
theorem dX11_routeArc_59 : decode cX11_routeArc 59 = .ok (.imul, 1) := by decide +kernel
theorem dX11_routeArc_60 : decode cX11_routeArc 60 = .ok (.iadd, 1) := by decide +kernel
theorem dX11_routeArc_61 : decode cX11_routeArc 61 = .ok (.iconst 1, 1) := by decide +kernel
theorem dX11_routeArc_62 : decode cX11_routeArc 62 = .ok (.iadd, 1) := by decide +kernel
theorem dX11_routeArc_63 : decode cX11_routeArc 63 = .ok (.iload_n 2, 1) := by decide +kernel
theorem dX11_routeArc_64 : decode cX11_routeArc 64 = .ok (.iadd, 1) := by decide +kernel
theorem dX11_routeArc_65 : decode cX11_routeArc 65 = .ok (.iaload, 1) := by decide +kernel
theorem dX11_routeArc_66 : decode cX11_routeArc 66 = .ok (.ireturn, 1) := by decide +kernel
theorem dX11_toldArcs_0 : decode cX11_toldArcs 0 = .ok (.iconst 0, 1) := by decide +kernel
theorem dX11_toldArcs_1 : decode cX11_toldArcs 1 = .ok (.istore_n 2, 1) := by decide +kernel
theorem dX11_toldArcs_2 : decode cX11_toldArcs 2 = .ok (.iconst 1, 1) := by decide +kernel
theorem dX11_toldArcs_3 : decode cX11_toldArcs 3 = .ok (.istore_n 3, 1) := by decide +kernel
theorem dX11_toldArcs_4 : decode cX11_toldArcs 4 = .ok (.iload_n 3, 1) := by decide +kernel
theorem dX11_toldArcs_5 : decode cX11_toldArcs 5 = .ok (.aload_n 0, 1) := by decide +kernel
theorem dX11_toldArcs_6 : decode cX11_toldArcs 6 = .ok (.getfield 7, 3) := by decide +kernel
theorem dX11_toldArcs_9 : decode cX11_toldArcs 9 = .ok (.bipush 70, 2) := by decide +kernel
theorem dX11_toldArcs_11 : decode cX11_toldArcs 11 = .ok (.bipush 8, 2) := by decide +kernel
theorem dX11_toldArcs_13 : decode cX11_toldArcs 13 = .ok (.iload_n 1, 1) := by decide +kernel
theorem dX11_toldArcs_14 : decode cX11_toldArcs 14 = .ok (.imul, 1) := by decide +kernel
theorem dX11_toldArcs_15 : decode cX11_toldArcs 15 = .ok (.iadd, 1) := by decide +kernel
theorem dX11_toldArcs_16 : decode cX11_toldArcs 16 = .ok (.iaload, 1) := by decide +kernel
theorem dX11_toldArcs_17 : decode cX11_toldArcs 17 = .ok (.if_icmp .gt 28, 3) := by decide +kernel
theorem dX11_toldArcs_20 : decode cX11_toldArcs 20 = .ok (.iload_n 2, 1) := by decide +kernel
theorem dX11_toldArcs_21 : decode cX11_toldArcs 21 = .ok (.iconst 1, 1) := by decide +kernel
theorem dX11_toldArcs_22 : decode cX11_toldArcs 22 = .ok (.aload_n 0, 1) := by decide +kernel
theorem dX11_toldArcs_23 : decode cX11_toldArcs 23 = .ok (.getfield 7, 3) := by decide +kernel
theorem dX11_toldArcs_26 : decode cX11_toldArcs 26 = .ok (.bipush 70, 2) := by decide +kernel
theorem dX11_toldArcs_28 : decode cX11_toldArcs 28 = .ok (.bipush 8, 2) := by decide +kernel
theorem dX11_toldArcs_30 : decode cX11_toldArcs 30 = .ok (.iload_n 1, 1) := by decide +kernel
theorem dX11_toldArcs_31 : decode cX11_toldArcs 31 = .ok (.imul, 1) := by decide +kernel
theorem dX11_toldArcs_32 : decode cX11_toldArcs 32 = .ok (.iadd, 1) := by decide +kernel
theorem dX11_toldArcs_33 : decode cX11_toldArcs 33 = .ok (.iload_n 3, 1) := by decide +kernel
theorem dX11_toldArcs_34 : decode cX11_toldArcs 34 = .ok (.iadd, 1) := by decide +kernel
theorem dX11_toldArcs_35 : decode cX11_toldArcs 35 = .ok (.iaload, 1) := by decide +kernel
theorem dX11_toldArcs_36 : decode cX11_toldArcs 36 = .ok (.ishl, 1) := by decide +kernel
theorem dX11_toldArcs_37 : decode cX11_toldArcs 37 = .ok (.ior, 1) := by decide +kernel
theorem dX11_toldArcs_38 : decode cX11_toldArcs 38 = .ok (.istore_n 2, 1) := by decide +kernel
theorem dX11_toldArcs_39 : decode cX11_toldArcs 39 = .ok (.iinc 3 1, 3) := by decide +kernel
theorem dX11_toldArcs_42 : decode cX11_toldArcs 42 = .ok (.goto (-38), 3) := by decide +kernel
theorem dX11_toldArcs_45 : decode cX11_toldArcs 45 = .ok (.iload_n 2, 1) := by decide +kernel
theorem dX11_toldArcs_46 : decode cX11_toldArcs 46 = .ok (.ireturn, 1) := by decide +kernel
theorem dX11_costOf_0 : decode cX11_costOf 0 = .ok (.iconst 0, 1) := by decide +kernel
theorem dX11_costOf_1 : decode cX11_costOf 1 = .ok (.istore_n 3, 1) := by decide +kernel
theorem dX11_costOf_2 : decode cX11_costOf 2 = .ok (.iconst 0, 1) := by decide +kernel
theorem dX11_costOf_3 : decode cX11_costOf 3 = .ok (.istore 4, 2) := by decide +kernel
theorem dX11_costOf_5 : decode cX11_costOf 5 = .ok (.iload 4, 2) := by decide +kernel
theorem dX11_costOf_7 : decode cX11_costOf 7 = .ok (.aload_n 0, 1) := by decide +kernel
theorem dX11_costOf_8 : decode cX11_costOf 8 = .ok (.getfield 7, 3) := by decide +kernel
theorem dX11_costOf_11 : decode cX11_costOf 11 = .ok (.iconst 4, 1) := by decide +kernel
theorem dX11_costOf_12 : decode cX11_costOf 12 = .ok (.iaload, 1) := by decide +kernel
theorem dX11_costOf_13 : decode cX11_costOf 13 = .ok (.if_icmp .ge 53, 3) := by decide +kernel
theorem dX11_costOf_16 : decode cX11_costOf 16 = .ok (.iload_n 3, 1) := by decide +kernel
theorem dX11_costOf_17 : decode cX11_costOf 17 = .ok (.iload_n 1, 1) := by decide +kernel
theorem dX11_costOf_18 : decode cX11_costOf 18 = .ok (.iload 4, 2) := by decide +kernel
theorem dX11_costOf_20 : decode cX11_costOf 20 = .ok (.invokestatic 59, 3) := by decide +kernel
theorem dX11_costOf_23 : decode cX11_costOf 23 = .ok (.ifCond .ne 7, 3) := by decide +kernel
theorem dX11_costOf_26 : decode cX11_costOf 26 = .ok (.iconst 0, 1) := by decide +kernel
theorem dX11_costOf_27 : decode cX11_costOf 27 = .ok (.goto 31, 3) := by decide +kernel
theorem dX11_costOf_30 : decode cX11_costOf 30 = .ok (.aload_n 0, 1) := by decide +kernel
theorem dX11_costOf_31 : decode cX11_costOf 31 = .ok (.iload 4, 2) := by decide +kernel
theorem dX11_costOf_33 : decode cX11_costOf 33 = .ok (.iconst 2, 1) := by decide +kernel
theorem dX11_costOf_34 : decode cX11_costOf 34 = .ok (.invokevirtual 190, 3) := by decide +kernel
theorem dX11_costOf_37 : decode cX11_costOf 37 = .ok (.iload_n 2, 1) := by decide +kernel
theorem dX11_costOf_38 : decode cX11_costOf 38 = .ok (.iload 4, 2) := by decide +kernel
theorem dX11_costOf_40 : decode cX11_costOf 40 = .ok (.invokestatic 59, 3) := by decide +kernel
theorem dX11_costOf_43 : decode cX11_costOf 43 = .ok (.ifCond .eq 13, 3) := by decide +kernel
theorem dX11_costOf_46 : decode cX11_costOf 46 = .ok (.aload_n 0, 1) := by decide +kernel
theorem dX11_costOf_47 : decode cX11_costOf 47 = .ok (.iload 4, 2) := by decide +kernel
theorem dX11_costOf_49 : decode cX11_costOf 49 = .ok (.iconst 3, 1) := by decide +kernel
theorem dX11_costOf_50 : decode cX11_costOf 50 = .ok (.invokevirtual 190, 3) := by decide +kernel
theorem dX11_costOf_53 : decode cX11_costOf 53 = .ok (.goto 4, 3) := by decide +kernel
theorem dX11_costOf_56 : decode cX11_costOf 56 = .ok (.iconst 0, 1) := by decide +kernel
theorem dX11_costOf_57 : decode cX11_costOf 57 = .ok (.iadd, 1) := by decide +kernel
theorem dX11_costOf_58 : decode cX11_costOf 58 = .ok (.iadd, 1) := by decide +kernel
theorem dX11_costOf_59 : decode cX11_costOf 59 = .ok (.istore_n 3, 1) := by decide +kernel
theorem dX11_costOf_60 : decode cX11_costOf 60 = .ok (.iinc 4 1, 3) := by decide +kernel
theorem dX11_costOf_63 : decode cX11_costOf 63 = .ok (.goto (-58), 3) := by decide +kernel
theorem dX11_costOf_66 : decode cX11_costOf 66 = .ok (.iload_n 3, 1) := by decide +kernel
theorem dX11_costOf_67 : decode cX11_costOf 67 = .ok (.ireturn, 1) := by decide +kernel
theorem dX11_witnessOf_0 : decode cX11_witnessOf 0 = .ok (.iconst 0, 1) := by decide +kernel
theorem dX11_witnessOf_1 : decode cX11_witnessOf 1 = .ok (.istore_n 2, 1) := by decide +kernel
theorem dX11_witnessOf_2 : decode cX11_witnessOf 2 = .ok (.iconst 0, 1) := by decide +kernel
theorem dX11_witnessOf_3 : decode cX11_witnessOf 3 = .ok (.istore_n 3, 1) := by decide +kernel
theorem dX11_witnessOf_4 : decode cX11_witnessOf 4 = .ok (.iload_n 3, 1) := by decide +kernel
theorem dX11_witnessOf_5 : decode cX11_witnessOf 5 = .ok (.aload_n 0, 1) := by decide +kernel
theorem dX11_witnessOf_6 : decode cX11_witnessOf 6 = .ok (.getfield 7, 3) := by decide +kernel
theorem dX11_witnessOf_9 : decode cX11_witnessOf 9 = .ok (.iconst 3, 1) := by decide +kernel
theorem dX11_witnessOf_10 : decode cX11_witnessOf 10 = .ok (.iaload, 1) := by decide +kernel
theorem dX11_witnessOf_11 : decode cX11_witnessOf 11 = .ok (.if_icmp .ge 102, 3) := by decide +kernel
theorem dX11_witnessOf_14 : decode cX11_witnessOf 14 = .ok (.iconst (-1), 1) := by decide +kernel
theorem dX11_witnessOf_15 : decode cX11_witnessOf 15 = .ok (.istore 4, 2) := by decide +kernel
theorem dX11_witnessOf_17 : decode cX11_witnessOf 17 = .ok (.iconst 0, 1) := by decide +kernel
theorem dX11_witnessOf_18 : decode cX11_witnessOf 18 = .ok (.istore 5, 2) := by decide +kernel
theorem dX11_witnessOf_20 : decode cX11_witnessOf 20 = .ok (.iload 5, 2) := by decide +kernel
theorem dX11_witnessOf_22 : decode cX11_witnessOf 22 = .ok (.aload_n 0, 1) := by decide +kernel
theorem dX11_witnessOf_23 : decode cX11_witnessOf 23 = .ok (.getfield 7, 3) := by decide +kernel
theorem dX11_witnessOf_26 : decode cX11_witnessOf 26 = .ok (.iconst 4, 1) := by decide +kernel
theorem dX11_witnessOf_27 : decode cX11_witnessOf 27 = .ok (.iaload, 1) := by decide +kernel
theorem dX11_witnessOf_28 : decode cX11_witnessOf 28 = .ok (.if_icmp .ge 62, 3) := by decide +kernel
theorem dX11_witnessOf_31 : decode cX11_witnessOf 31 = .ok (.iload_n 1, 1) := by decide +kernel
theorem dX11_witnessOf_32 : decode cX11_witnessOf 32 = .ok (.iload_n 2, 1) := by decide +kernel
theorem dX11_witnessOf_33 : decode cX11_witnessOf 33 = .ok (.iconst (-1), 1) := by decide +kernel
theorem dX11_witnessOf_34 : decode cX11_witnessOf 34 = .ok (.ixor, 1) := by decide +kernel
theorem dX11_witnessOf_35 : decode cX11_witnessOf 35 = .ok (.iand, 1) := by decide +kernel
theorem dX11_witnessOf_36 : decode cX11_witnessOf 36 = .ok (.iload 5, 2) := by decide +kernel
theorem dX11_witnessOf_38 : decode cX11_witnessOf 38 = .ok (.invokestatic 59, 3) := by decide +kernel
theorem dX11_witnessOf_41 : decode cX11_witnessOf 41 = .ok (.ifCond .eq 43, 3) := by decide +kernel
theorem dX11_witnessOf_44 : decode cX11_witnessOf 44 = .ok (.aload_n 0, 1) := by decide +kernel
theorem dX11_witnessOf_45 : decode cX11_witnessOf 45 = .ok (.iload 5, 2) := by decide +kernel
theorem dX11_witnessOf_47 : decode cX11_witnessOf 47 = .ok (.iconst 3, 1) := by decide +kernel
theorem dX11_witnessOf_48 : decode cX11_witnessOf 48 = .ok (.invokevirtual 190, 3) := by decide +kernel
theorem dX11_witnessOf_51 : decode cX11_witnessOf 51 = .ok (.ifCond .ne 6, 3) := by decide +kernel
theorem dX11_witnessOf_54 : decode cX11_witnessOf 54 = .ok (.goto 30, 3) := by decide +kernel
theorem dX11_witnessOf_57 : decode cX11_witnessOf 57 = .ok (.iload 4, 2) := by decide +kernel
theorem dX11_witnessOf_59 : decode cX11_witnessOf 59 = .ok (.iconst (-1), 1) := by decide +kernel
theorem dX11_witnessOf_60 : decode cX11_witnessOf 60 = .ok (.if_icmp .eq 20, 3) := by decide +kernel
theorem dX11_witnessOf_63 : decode cX11_witnessOf 63 = .ok (.aload_n 0, 1) := by decide +kernel
theorem dX11_witnessOf_64 : decode cX11_witnessOf 64 = .ok (.iload 5, 2) := by decide +kernel
theorem dX11_witnessOf_66 : decode cX11_witnessOf 66 = .ok (.iconst 3, 1) := by decide +kernel
theorem dX11_witnessOf_67 : decode cX11_witnessOf 67 = .ok (.invokevirtual 190, 3) := by decide +kernel
theorem dX11_witnessOf_70 : decode cX11_witnessOf 70 = .ok (.aload_n 0, 1) := by decide +kernel
theorem dX11_witnessOf_71 : decode cX11_witnessOf 71 = .ok (.iload 4, 2) := by decide +kernel
theorem dX11_witnessOf_73 : decode cX11_witnessOf 73 = .ok (.iconst 3, 1) := by decide +kernel
theorem dX11_witnessOf_74 : decode cX11_witnessOf 74 = .ok (.invokevirtual 190, 3) := by decide +kernel
theorem dX11_witnessOf_77 : decode cX11_witnessOf 77 = .ok (.if_icmp .le 7, 3) := by decide +kernel
theorem dX11_witnessOf_80 : decode cX11_witnessOf 80 = .ok (.iload 5, 2) := by decide +kernel
theorem dX11_witnessOf_82 : decode cX11_witnessOf 82 = .ok (.istore 4, 2) := by decide +kernel
theorem dX11_witnessOf_84 : decode cX11_witnessOf 84 = .ok (.iinc 5 1, 3) := by decide +kernel
theorem dX11_witnessOf_87 : decode cX11_witnessOf 87 = .ok (.goto (-67), 3) := by decide +kernel
theorem dX11_witnessOf_90 : decode cX11_witnessOf 90 = .ok (.iload_n 2, 1) := by decide +kernel
theorem dX11_witnessOf_91 : decode cX11_witnessOf 91 = .ok (.iload 4, 2) := by decide +kernel
theorem dX11_witnessOf_93 : decode cX11_witnessOf 93 = .ok (.iconst (-1), 1) := by decide +kernel
theorem dX11_witnessOf_94 : decode cX11_witnessOf 94 = .ok (.if_icmp .ne 7, 3) := by decide +kernel
theorem dX11_witnessOf_97 : decode cX11_witnessOf 97 = .ok (.iconst 0, 1) := by decide +kernel
theorem dX11_witnessOf_98 : decode cX11_witnessOf 98 = .ok (.goto 7, 3) := by decide +kernel
theorem dX11_witnessOf_101 : decode cX11_witnessOf 101 = .ok (.iconst 1, 1) := by decide +kernel
theorem dX11_witnessOf_102 : decode cX11_witnessOf 102 = .ok (.iload 4, 2) := by decide +kernel
theorem dX11_witnessOf_104 : decode cX11_witnessOf 104 = .ok (.ishl, 1) := by decide +kernel
theorem dX11_witnessOf_105 : decode cX11_witnessOf 105 = .ok (.ior, 1) := by decide +kernel
theorem dX11_witnessOf_106 : decode cX11_witnessOf 106 = .ok (.istore_n 2, 1) := by decide +kernel
theorem dX11_witnessOf_107 : decode cX11_witnessOf 107 = .ok (.iinc 3 1, 3) := by decide +kernel
theorem dX11_witnessOf_110 : decode cX11_witnessOf 110 = .ok (.goto (-106), 3) := by decide +kernel
theorem dX11_witnessOf_113 : decode cX11_witnessOf 113 = .ok (.iload_n 2, 1) := by decide +kernel
theorem dX11_witnessOf_114 : decode cX11_witnessOf 114 = .ok (.ireturn, 1) := by decide +kernel
theorem dX11_worstOf_0 : decode cX11_worstOf 0 = .ok (.aload_n 0, 1) := by decide +kernel
theorem dX11_worstOf_1 : decode cX11_worstOf 1 = .ok (.iload_n 1, 1) := by decide +kernel
theorem dX11_worstOf_2 : decode cX11_worstOf 2 = .ok (.aload_n 0, 1) := by decide +kernel
theorem dX11_worstOf_3 : decode cX11_worstOf 3 = .ok (.iload_n 1, 1) := by decide +kernel
theorem dX11_worstOf_4 : decode cX11_worstOf 4 = .ok (.invokevirtual 209, 3) := by decide +kernel
theorem dX11_worstOf_7 : decode cX11_worstOf 7 = .ok (.invokevirtual 212, 3) := by decide +kernel
theorem dX11_worstOf_10 : decode cX11_worstOf 10 = .ok (.ireturn, 1) := by decide +kernel
theorem dX11_shortestBy_0 : decode cX11_shortestBy 0 = .ok (.iconst 0, 1) := by decide +kernel
theorem dX11_shortestBy_1 : decode cX11_shortestBy 1 = .ok (.istore_n 2, 1) := by decide +kernel
theorem dX11_shortestBy_2 : decode cX11_shortestBy 2 = .ok (.iload_n 2, 1) := by decide +kernel
theorem dX11_shortestBy_3 : decode cX11_shortestBy 3 = .ok (.aload_n 0, 1) := by decide +kernel
theorem dX11_shortestBy_4 : decode cX11_shortestBy 4 = .ok (.getfield 7, 3) := by decide +kernel
theorem dX11_shortestBy_7 : decode cX11_shortestBy 7 = .ok (.iconst 0, 1) := by decide +kernel
theorem dX11_shortestBy_8 : decode cX11_shortestBy 8 = .ok (.iaload, 1) := by decide +kernel
theorem dX11_shortestBy_9 : decode cX11_shortestBy 9 = .ok (.if_icmp .ge 31, 3) := by decide +kernel
theorem dX11_shortestBy_12 : decode cX11_shortestBy 12 = .ok (.aload_n 0, 1) := by decide +kernel
theorem dX11_shortestBy_13 : decode cX11_shortestBy 13 = .ok (.getfield 26, 3) := by decide +kernel
theorem dX11_shortestBy_16 : decode cX11_shortestBy 16 = .ok (.iload_n 2, 1) := by decide +kernel
theorem dX11_shortestBy_17 : decode cX11_shortestBy 17 = .ok (.iload_n 2, 1) := by decide +kernel
theorem dX11_shortestBy_18 : decode cX11_shortestBy 18 = .ok (.aload_n 0, 1) := by decide +kernel
theorem dX11_shortestBy_19 : decode cX11_shortestBy 19 = .ok (.getfield 7, 3) := by decide +kernel
theorem dX11_shortestBy_22 : decode cX11_shortestBy 22 = .ok (.iconst 1, 1) := by decide +kernel
theorem dX11_shortestBy_23 : decode cX11_shortestBy 23 = .ok (.iaload, 1) := by decide +kernel
theorem dX11_shortestBy_24 : decode cX11_shortestBy 24 = .ok (.if_icmp .ne 7, 3) := by decide +kernel
theorem dX11_shortestBy_27 : decode cX11_shortestBy 27 = .ok (.iconst 0, 1) := by decide +kernel
theorem dX11_shortestBy_28 : decode cX11_shortestBy 28 = .ok (.goto 5, 3) := by decide +kernel
theorem dX11_shortestBy_31 : decode cX11_shortestBy 31 = .ok (.ldc 215, 2) := by decide +kernel
theorem dX11_shortestBy_33 : decode cX11_shortestBy 33 = .ok (.iastore, 1) := by decide +kernel
theorem dX11_shortestBy_34 : decode cX11_shortestBy 34 = .ok (.iinc 2 1, 3) := by decide +kernel
theorem dX11_shortestBy_37 : decode cX11_shortestBy 37 = .ok (.goto (-35), 3) := by decide +kernel
theorem dX11_shortestBy_40 : decode cX11_shortestBy 40 = .ok (.iconst 1, 1) := by decide +kernel
theorem dX11_shortestBy_41 : decode cX11_shortestBy 41 = .ok (.istore_n 2, 1) := by decide +kernel
theorem dX11_shortestBy_42 : decode cX11_shortestBy 42 = .ok (.iload_n 2, 1) := by decide +kernel
theorem dX11_shortestBy_43 : decode cX11_shortestBy 43 = .ok (.aload_n 0, 1) := by decide +kernel
theorem dX11_shortestBy_44 : decode cX11_shortestBy 44 = .ok (.getfield 7, 3) := by decide +kernel
theorem dX11_shortestBy_47 : decode cX11_shortestBy 47 = .ok (.iconst 0, 1) := by decide +kernel
theorem dX11_shortestBy_48 : decode cX11_shortestBy 48 = .ok (.iaload, 1) := by decide +kernel
theorem dX11_shortestBy_49 : decode cX11_shortestBy 49 = .ok (.if_icmp .ge 95, 3) := by decide +kernel
theorem dX11_shortestBy_52 : decode cX11_shortestBy 52 = .ok (.iconst 0, 1) := by decide +kernel
theorem dX11_shortestBy_53 : decode cX11_shortestBy 53 = .ok (.istore_n 3, 1) := by decide +kernel
theorem dX11_shortestBy_54 : decode cX11_shortestBy 54 = .ok (.iload_n 3, 1) := by decide +kernel
theorem dX11_shortestBy_55 : decode cX11_shortestBy 55 = .ok (.aload_n 0, 1) := by decide +kernel
theorem dX11_shortestBy_56 : decode cX11_shortestBy 56 = .ok (.getfield 7, 3) := by decide +kernel
theorem dX11_shortestBy_59 : decode cX11_shortestBy 59 = .ok (.iconst 4, 1) := by decide +kernel
theorem dX11_shortestBy_60 : decode cX11_shortestBy 60 = .ok (.iaload, 1) := by decide +kernel
theorem dX11_shortestBy_61 : decode cX11_shortestBy 61 = .ok (.if_icmp .ge 77, 3) := by decide +kernel
theorem dX11_shortestBy_64 : decode cX11_shortestBy 64 = .ok (.aload_n 0, 1) := by decide +kernel
theorem dX11_shortestBy_65 : decode cX11_shortestBy 65 = .ok (.getfield 26, 3) := by decide +kernel
theorem dX11_shortestBy_68 : decode cX11_shortestBy 68 = .ok (.aload_n 0, 1) := by decide +kernel
theorem dX11_shortestBy_69 : decode cX11_shortestBy 69 = .ok (.iload_n 3, 1) := by decide +kernel
theorem dX11_shortestBy_70 : decode cX11_shortestBy 70 = .ok (.iconst 0, 1) := by decide +kernel
theorem dX11_shortestBy_71 : decode cX11_shortestBy 71 = .ok (.invokevirtual 190, 3) := by decide +kernel
theorem dX11_shortestBy_74 : decode cX11_shortestBy 74 = .ok (.iaload, 1) := by decide +kernel
theorem dX11_shortestBy_75 : decode cX11_shortestBy 75 = .ok (.aload_n 0, 1) := by decide +kernel
theorem dX11_shortestBy_76 : decode cX11_shortestBy 76 = .ok (.iload_n 3, 1) := by decide +kernel
theorem dX11_shortestBy_77 : decode cX11_shortestBy 77 = .ok (.iconst 2, 1) := by decide +kernel
theorem dX11_shortestBy_78 : decode cX11_shortestBy 78 = .ok (.invokevirtual 190, 3) := by decide +kernel
theorem dX11_shortestBy_81 : decode cX11_shortestBy 81 = .ok (.iadd, 1) := by decide +kernel
theorem dX11_shortestBy_82 : decode cX11_shortestBy 82 = .ok (.iload_n 1, 1) := by decide +kernel
theorem dX11_shortestBy_83 : decode cX11_shortestBy 83 = .ok (.iload_n 3, 1) := by decide +kernel
theorem dX11_shortestBy_84 : decode cX11_shortestBy 84 = .ok (.invokestatic 59, 3) := by decide +kernel
theorem dX11_shortestBy_87 : decode cX11_shortestBy 87 = .ok (.ifCond .eq 12, 3) := by decide +kernel
theorem dX11_shortestBy_90 : decode cX11_shortestBy 90 = .ok (.aload_n 0, 1) := by decide +kernel
theorem dX11_shortestBy_91 : decode cX11_shortestBy 91 = .ok (.iload_n 3, 1) := by decide +kernel
theorem dX11_shortestBy_92 : decode cX11_shortestBy 92 = .ok (.iconst 3, 1) := by decide +kernel
theorem dX11_shortestBy_93 : decode cX11_shortestBy 93 = .ok (.invokevirtual 190, 3) := by decide +kernel
theorem dX11_shortestBy_96 : decode cX11_shortestBy 96 = .ok (.goto 4, 3) := by decide +kernel
theorem dX11_shortestBy_99 : decode cX11_shortestBy 99 = .ok (.iconst 0, 1) := by decide +kernel
theorem dX11_shortestBy_100 : decode cX11_shortestBy 100 = .ok (.iadd, 1) := by decide +kernel
theorem dX11_shortestBy_101 : decode cX11_shortestBy 101 = .ok (.istore 4, 2) := by decide +kernel
theorem dX11_shortestBy_103 : decode cX11_shortestBy 103 = .ok (.iload 4, 2) := by decide +kernel
theorem dX11_shortestBy_105 : decode cX11_shortestBy 105 = .ok (.aload_n 0, 1) := by decide +kernel
theorem dX11_shortestBy_106 : decode cX11_shortestBy 106 = .ok (.getfield 26, 3) := by decide +kernel
theorem dX11_shortestBy_109 : decode cX11_shortestBy 109 = .ok (.aload_n 0, 1) := by decide +kernel
theorem dX11_shortestBy_110 : decode cX11_shortestBy 110 = .ok (.iload_n 3, 1) := by decide +kernel
theorem dX11_shortestBy_111 : decode cX11_shortestBy 111 = .ok (.iconst 1, 1) := by decide +kernel
theorem dX11_shortestBy_112 : decode cX11_shortestBy 112 = .ok (.invokevirtual 190, 3) := by decide +kernel
theorem dX11_shortestBy_115 : decode cX11_shortestBy 115 = .ok (.iaload, 1) := by decide +kernel
theorem dX11_shortestBy_116 : decode cX11_shortestBy 116 = .ok (.if_icmp .ge 16, 3) := by decide +kernel
theorem dX11_shortestBy_119 : decode cX11_shortestBy 119 = .ok (.aload_n 0, 1) := by decide +kernel
theorem dX11_shortestBy_120 : decode cX11_shortestBy 120 = .ok (.getfield 26, 3) := by decide +kernel
theorem dX11_shortestBy_123 : decode cX11_shortestBy 123 = .ok (.aload_n 0, 1) := by decide +kernel
theorem dX11_shortestBy_124 : decode cX11_shortestBy 124 = .ok (.iload_n 3, 1) := by decide +kernel
theorem dX11_shortestBy_125 : decode cX11_shortestBy 125 = .ok (.iconst 1, 1) := by decide +kernel
theorem dX11_shortestBy_126 : decode cX11_shortestBy 126 = .ok (.invokevirtual 190, 3) := by decide +kernel
theorem dX11_shortestBy_129 : decode cX11_shortestBy 129 = .ok (.iload 4, 2) := by decide +kernel
theorem dX11_shortestBy_131 : decode cX11_shortestBy 131 = .ok (.iastore, 1) := by decide +kernel
theorem dX11_shortestBy_132 : decode cX11_shortestBy 132 = .ok (.iinc 3 1, 3) := by decide +kernel
theorem dX11_shortestBy_135 : decode cX11_shortestBy 135 = .ok (.goto (-81), 3) := by decide +kernel
theorem dX11_shortestBy_138 : decode cX11_shortestBy 138 = .ok (.iinc 2 1, 3) := by decide +kernel
theorem dX11_shortestBy_141 : decode cX11_shortestBy 141 = .ok (.goto (-99), 3) := by decide +kernel
theorem dX11_shortestBy_144 : decode cX11_shortestBy 144 = .ok (.aload_n 0, 1) := by decide +kernel
theorem dX11_shortestBy_145 : decode cX11_shortestBy 145 = .ok (.getfield 26, 3) := by decide +kernel
theorem dX11_shortestBy_148 : decode cX11_shortestBy 148 = .ok (.aload_n 0, 1) := by decide +kernel
theorem dX11_shortestBy_149 : decode cX11_shortestBy 149 = .ok (.getfield 7, 3) := by decide +kernel
theorem dX11_shortestBy_152 : decode cX11_shortestBy 152 = .ok (.iconst 2, 1) := by decide +kernel
theorem dX11_shortestBy_153 : decode cX11_shortestBy 153 = .ok (.iaload, 1) := by decide +kernel
theorem dX11_shortestBy_154 : decode cX11_shortestBy 154 = .ok (.iaload, 1) := by decide +kernel
theorem dX11_shortestBy_155 : decode cX11_shortestBy 155 = .ok (.ireturn, 1) := by decide +kernel
theorem dX11_leastTold_0 : decode cX11_leastTold 0 = .ok (.ldc 215, 2) := by decide +kernel
theorem dX11_leastTold_2 : decode cX11_leastTold 2 = .ok (.istore_n 2, 1) := by decide +kernel
theorem dX11_leastTold_3 : decode cX11_leastTold 3 = .ok (.iconst 0, 1) := by decide +kernel
theorem dX11_leastTold_4 : decode cX11_leastTold 4 = .ok (.istore_n 3, 1) := by decide +kernel
theorem dX11_leastTold_5 : decode cX11_leastTold 5 = .ok (.iload_n 3, 1) := by decide +kernel
theorem dX11_leastTold_6 : decode cX11_leastTold 6 = .ok (.aload_n 0, 1) := by decide +kernel
theorem dX11_leastTold_7 : decode cX11_leastTold 7 = .ok (.getfield 7, 3) := by decide +kernel
theorem dX11_leastTold_10 : decode cX11_leastTold 10 = .ok (.bipush 69, 2) := by decide +kernel
theorem dX11_leastTold_12 : decode cX11_leastTold 12 = .ok (.iaload, 1) := by decide +kernel
theorem dX11_leastTold_13 : decode cX11_leastTold 13 = .ok (.if_icmp .ge 38, 3) := by decide +kernel
theorem dX11_leastTold_16 : decode cX11_leastTold 16 = .ok (.aload_n 0, 1) := by decide +kernel
theorem dX11_leastTold_17 : decode cX11_leastTold 17 = .ok (.aload_n 0, 1) := by decide +kernel
theorem dX11_leastTold_18 : decode cX11_leastTold 18 = .ok (.iload_n 3, 1) := by decide +kernel
theorem dX11_leastTold_19 : decode cX11_leastTold 19 = .ok (.invokevirtual 216, 3) := by decide +kernel
theorem dX11_leastTold_22 : decode cX11_leastTold 22 = .ok (.iload_n 1, 1) := by decide +kernel
theorem dX11_leastTold_23 : decode cX11_leastTold 23 = .ok (.invokevirtual 212, 3) := by decide +kernel
theorem dX11_leastTold_26 : decode cX11_leastTold 26 = .ok (.iload_n 2, 1) := by decide +kernel
theorem dX11_leastTold_27 : decode cX11_leastTold 27 = .ok (.if_icmp .ge 16, 3) := by decide +kernel
theorem dX11_leastTold_30 : decode cX11_leastTold 30 = .ok (.aload_n 0, 1) := by decide +kernel
theorem dX11_leastTold_31 : decode cX11_leastTold 31 = .ok (.aload_n 0, 1) := by decide +kernel
theorem dX11_leastTold_32 : decode cX11_leastTold 32 = .ok (.iload_n 3, 1) := by decide +kernel
theorem dX11_leastTold_33 : decode cX11_leastTold 33 = .ok (.invokevirtual 216, 3) := by decide +kernel
theorem dX11_leastTold_36 : decode cX11_leastTold 36 = .ok (.iload_n 1, 1) := by decide +kernel
theorem dX11_leastTold_37 : decode cX11_leastTold 37 = .ok (.invokevirtual 212, 3) := by decide +kernel
theorem dX11_leastTold_40 : decode cX11_leastTold 40 = .ok (.goto 4, 3) := by decide +kernel
theorem dX11_leastTold_43 : decode cX11_leastTold 43 = .ok (.iload_n 2, 1) := by decide +kernel
theorem dX11_leastTold_44 : decode cX11_leastTold 44 = .ok (.istore_n 2, 1) := by decide +kernel
theorem dX11_leastTold_45 : decode cX11_leastTold 45 = .ok (.iinc 3 1, 3) := by decide +kernel
theorem dX11_leastTold_48 : decode cX11_leastTold 48 = .ok (.goto (-43), 3) := by decide +kernel
theorem dX11_leastTold_51 : decode cX11_leastTold 51 = .ok (.iload_n 2, 1) := by decide +kernel
theorem dX11_leastTold_52 : decode cX11_leastTold 52 = .ok (.ireturn, 1) := by decide +kernel
theorem dX11_regretOf_0 : decode cX11_regretOf 0 = .ok (.iconst (-1), 1) := by decide +kernel
theorem dX11_regretOf_1 : decode cX11_regretOf 1 = .ok (.istore_n 3, 1) := by decide +kernel
theorem dX11_regretOf_2 : decode cX11_regretOf 2 = .ok (.aload_n 0, 1) := by decide +kernel
theorem dX11_regretOf_3 : decode cX11_regretOf 3 = .ok (.iconst 0, 1) := by decide +kernel
theorem dX11_regretOf_4 : decode cX11_regretOf 4 = .ok (.putfield 219, 3) := by decide +kernel
theorem dX11_regretOf_7 : decode cX11_regretOf 7 = .ok (.iconst 0, 1) := by decide +kernel
theorem dX11_regretOf_8 : decode cX11_regretOf 8 = .ok (.istore 4, 2) := by decide +kernel
theorem dX11_regretOf_10 : decode cX11_regretOf 10 = .ok (.iload 4, 2) := by decide +kernel
theorem dX11_regretOf_12 : decode cX11_regretOf 12 = .ok (.iload_n 1, 1) := by decide +kernel
theorem dX11_regretOf_13 : decode cX11_regretOf 13 = .ok (.if_icmp .gt 103, 3) := by decide +kernel
theorem dX11_regretOf_16 : decode cX11_regretOf 16 = .ok (.iload 4, 2) := by decide +kernel
theorem dX11_regretOf_18 : decode cX11_regretOf 18 = .ok (.iload_n 1, 1) := by decide +kernel
theorem dX11_regretOf_19 : decode cX11_regretOf 19 = .ok (.iconst (-1), 1) := by decide +kernel
theorem dX11_regretOf_20 : decode cX11_regretOf 20 = .ok (.ixor, 1) := by decide +kernel
theorem dX11_regretOf_21 : decode cX11_regretOf 21 = .ok (.iand, 1) := by decide +kernel
theorem dX11_regretOf_22 : decode cX11_regretOf 22 = .ok (.ifCond .ne 88, 3) := by decide +kernel
theorem dX11_regretOf_25 : decode cX11_regretOf 25 = .ok (.iload 4, 2) := by decide +kernel
theorem dX11_regretOf_27 : decode cX11_regretOf 27 = .ok (.invokestatic 222, 3) := by decide +kernel
theorem dX11_regretOf_30 : decode cX11_regretOf 30 = .ok (.aload_n 0, 1) := by decide +kernel
theorem dX11_regretOf_31 : decode cX11_regretOf 31 = .ok (.getfield 7, 3) := by decide +kernel
theorem dX11_regretOf_34 : decode cX11_regretOf 34 = .ok (.iconst 3, 1) := by decide +kernel
theorem dX11_regretOf_35 : decode cX11_regretOf 35 = .ok (.iaload, 1) := by decide +kernel
theorem dX11_regretOf_36 : decode cX11_regretOf 36 = .ok (.if_icmp .le 6, 3) := by decide +kernel
theorem dX11_regretOf_39 : decode cX11_regretOf 39 = .ok (.goto 71, 3) := by decide +kernel
theorem dX11_regretOf_42 : decode cX11_regretOf 42 = .ok (.aload_n 0, 1) := by decide +kernel
theorem dX11_regretOf_43 : decode cX11_regretOf 43 = .ok (.iload_n 1, 1) := by decide +kernel
theorem dX11_regretOf_44 : decode cX11_regretOf 44 = .ok (.iload 4, 2) := by decide +kernel
theorem dX11_regretOf_46 : decode cX11_regretOf 46 = .ok (.invokevirtual 212, 3) := by decide +kernel
theorem dX11_regretOf_49 : decode cX11_regretOf 49 = .ok (.iload_n 2, 1) := by decide +kernel
theorem dX11_regretOf_50 : decode cX11_regretOf 50 = .ok (.ifCond .eq 12, 3) := by decide +kernel
theorem dX11_regretOf_53 : decode cX11_regretOf 53 = .ok (.aload_n 0, 1) := by decide +kernel
theorem dX11_regretOf_54 : decode cX11_regretOf 54 = .ok (.iload 4, 2) := by decide +kernel
theorem dX11_regretOf_56 : decode cX11_regretOf 56 = .ok (.invokevirtual 225, 3) := by decide +kernel
theorem dX11_regretOf_59 : decode cX11_regretOf 59 = .ok (.goto 9, 3) := by decide +kernel
theorem dX11_regretOf_62 : decode cX11_regretOf 62 = .ok (.aload_n 0, 1) := by decide +kernel
theorem dX11_regretOf_63 : decode cX11_regretOf 63 = .ok (.iload 4, 2) := by decide +kernel
theorem dX11_regretOf_65 : decode cX11_regretOf 65 = .ok (.invokevirtual 228, 3) := by decide +kernel
theorem dX11_regretOf_68 : decode cX11_regretOf 68 = .ok (.isub, 1) := by decide +kernel
theorem dX11_regretOf_69 : decode cX11_regretOf 69 = .ok (.istore 5, 2) := by decide +kernel
theorem dX11_regretOf_71 : decode cX11_regretOf 71 = .ok (.iload 5, 2) := by decide +kernel
theorem dX11_regretOf_73 : decode cX11_regretOf 73 = .ok (.iload_n 3, 1) := by decide +kernel
theorem dX11_regretOf_74 : decode cX11_regretOf 74 = .ok (.if_icmp .lt 36, 3) := by decide +kernel
theorem dX11_regretOf_77 : decode cX11_regretOf 77 = .ok (.iload 5, 2) := by decide +kernel
theorem dX11_regretOf_79 : decode cX11_regretOf 79 = .ok (.iload_n 3, 1) := by decide +kernel
theorem dX11_regretOf_80 : decode cX11_regretOf 80 = .ok (.if_icmp .ne 21, 3) := by decide +kernel
theorem dX11_regretOf_83 : decode cX11_regretOf 83 = .ok (.iload 4, 2) := by decide +kernel
theorem dX11_regretOf_85 : decode cX11_regretOf 85 = .ok (.invokestatic 222, 3) := by decide +kernel
theorem dX11_regretOf_88 : decode cX11_regretOf 88 = .ok (.aload_n 0, 1) := by decide +kernel
theorem dX11_regretOf_89 : decode cX11_regretOf 89 = .ok (.getfield 219, 3) := by decide +kernel
theorem dX11_regretOf_92 : decode cX11_regretOf 92 = .ok (.invokestatic 222, 3) := by decide +kernel
theorem dX11_regretOf_95 : decode cX11_regretOf 95 = .ok (.if_icmp .lt 6, 3) := by decide +kernel
theorem dX11_regretOf_98 : decode cX11_regretOf 98 = .ok (.goto 12, 3) := by decide +kernel
theorem dX11_regretOf_101 : decode cX11_regretOf 101 = .ok (.iload 5, 2) := by decide +kernel
theorem dX11_regretOf_103 : decode cX11_regretOf 103 = .ok (.istore_n 3, 1) := by decide +kernel
theorem dX11_regretOf_104 : decode cX11_regretOf 104 = .ok (.aload_n 0, 1) := by decide +kernel
theorem dX11_regretOf_105 : decode cX11_regretOf 105 = .ok (.iload 4, 2) := by decide +kernel
theorem dX11_regretOf_107 : decode cX11_regretOf 107 = .ok (.putfield 219, 3) := by decide +kernel
theorem dX11_regretOf_110 : decode cX11_regretOf 110 = .ok (.iinc 4 1, 3) := by decide +kernel
theorem dX11_regretOf_113 : decode cX11_regretOf 113 = .ok (.goto (-103), 3) := by decide +kernel
theorem dX11_regretOf_116 : decode cX11_regretOf 116 = .ok (.iload_n 3, 1) := by decide +kernel
theorem dX11_regretOf_117 : decode cX11_regretOf 117 = .ok (.ireturn, 1) := by decide +kernel
theorem dX11_numberOf_0 : decode cX11_numberOf 0 = .ok (.iload_n 2, 1) := by decide +kernel
theorem dX11_numberOf_1 : decode cX11_numberOf 1 = .ok (.tableswitch 66 0 4 #[35, 40, 47, 53, 59], 35) := by decide +kernel
theorem dX11_numberOf_36 : decode cX11_numberOf 36 = .ok (.iload_n 1, 1) := by decide +kernel
theorem dX11_numberOf_37 : decode cX11_numberOf 37 = .ok (.invokestatic 222, 3) := by decide +kernel
theorem dX11_numberOf_40 : decode cX11_numberOf 40 = .ok (.ireturn, 1) := by decide +kernel
theorem dX11_numberOf_41 : decode cX11_numberOf 41 = .ok (.aload_n 0, 1) := by decide +kernel
theorem dX11_numberOf_42 : decode cX11_numberOf 42 = .ok (.iload_n 1, 1) := by decide +kernel
theorem dX11_numberOf_43 : decode cX11_numberOf 43 = .ok (.iconst 0, 1) := by decide +kernel
theorem dX11_numberOf_44 : decode cX11_numberOf 44 = .ok (.invokevirtual 212, 3) := by decide +kernel
theorem dX11_numberOf_47 : decode cX11_numberOf 47 = .ok (.ireturn, 1) := by decide +kernel
theorem dX11_numberOf_48 : decode cX11_numberOf 48 = .ok (.aload_n 0, 1) := by decide +kernel
theorem dX11_numberOf_49 : decode cX11_numberOf 49 = .ok (.iload_n 1, 1) := by decide +kernel
theorem dX11_numberOf_50 : decode cX11_numberOf 50 = .ok (.invokevirtual 231, 3) := by decide +kernel
theorem dX11_numberOf_53 : decode cX11_numberOf 53 = .ok (.ireturn, 1) := by decide +kernel
theorem dX11_numberOf_54 : decode cX11_numberOf 54 = .ok (.aload_n 0, 1) := by decide +kernel
theorem dX11_numberOf_55 : decode cX11_numberOf 55 = .ok (.iload_n 1, 1) := by decide +kernel
theorem dX11_numberOf_56 : decode cX11_numberOf 56 = .ok (.invokevirtual 209, 3) := by decide +kernel
theorem dX11_numberOf_59 : decode cX11_numberOf 59 = .ok (.ireturn, 1) := by decide +kernel
theorem dX11_numberOf_60 : decode cX11_numberOf 60 = .ok (.aload_n 0, 1) := by decide +kernel
theorem dX11_numberOf_61 : decode cX11_numberOf 61 = .ok (.iload_n 1, 1) := by decide +kernel
theorem dX11_numberOf_62 : decode cX11_numberOf 62 = .ok (.iconst 0, 1) := by decide +kernel
theorem dX11_numberOf_63 : decode cX11_numberOf 63 = .ok (.invokevirtual 234, 3) := by decide +kernel
theorem dX11_numberOf_66 : decode cX11_numberOf 66 = .ok (.ireturn, 1) := by decide +kernel
theorem dX11_numberOf_67 : decode cX11_numberOf 67 = .ok (.aload_n 0, 1) := by decide +kernel
theorem dX11_numberOf_68 : decode cX11_numberOf 68 = .ok (.iload_n 1, 1) := by decide +kernel
theorem dX11_numberOf_69 : decode cX11_numberOf 69 = .ok (.iconst 0, 1) := by decide +kernel
theorem dX11_numberOf_70 : decode cX11_numberOf 70 = .ok (.invokevirtual 234, 3) := by decide +kernel
theorem dX11_numberOf_73 : decode cX11_numberOf 73 = .ok (.iconst (-1), 1) := by decide +kernel
theorem dX11_numberOf_74 : decode cX11_numberOf 74 = .ok (.if_icmp .ne 7, 3) := by decide +kernel
theorem dX11_numberOf_77 : decode cX11_numberOf 77 = .ok (.iconst (-1), 1) := by decide +kernel
theorem dX11_numberOf_78 : decode cX11_numberOf 78 = .ok (.goto 7, 3) := by decide +kernel
theorem dX11_numberOf_81 : decode cX11_numberOf 81 = .ok (.aload_n 0, 1) := by decide +kernel
theorem dX11_numberOf_82 : decode cX11_numberOf 82 = .ok (.getfield 219, 3) := by decide +kernel
theorem dX11_numberOf_85 : decode cX11_numberOf 85 = .ok (.ireturn, 1) := by decide +kernel
theorem dX11_isBeaten_0 : decode cX11_isBeaten 0 = .ok (.aload_n 0, 1) := by decide +kernel
theorem dX11_isBeaten_1 : decode cX11_isBeaten 1 = .ok (.iload_n 1, 1) := by decide +kernel
theorem dX11_isBeaten_2 : decode cX11_isBeaten 2 = .ok (.invokevirtual 216, 3) := by decide +kernel
theorem dX11_isBeaten_5 : decode cX11_isBeaten 5 = .ok (.istore_n 3, 1) := by decide +kernel
theorem dX11_isBeaten_6 : decode cX11_isBeaten 6 = .ok (.iload_n 1, 1) := by decide +kernel
theorem dX11_isBeaten_7 : decode cX11_isBeaten 7 = .ok (.iload_n 2, 1) := by decide +kernel
theorem dX11_isBeaten_8 : decode cX11_isBeaten 8 = .ok (.if_icmp .eq 29, 3) := by decide +kernel
theorem dX11_isBeaten_11 : decode cX11_isBeaten 11 = .ok (.aload_n 0, 1) := by decide +kernel
theorem dX11_isBeaten_12 : decode cX11_isBeaten 12 = .ok (.aload_n 0, 1) := by decide +kernel
theorem dX11_isBeaten_13 : decode cX11_isBeaten 13 = .ok (.iload_n 2, 1) := by decide +kernel
theorem dX11_isBeaten_14 : decode cX11_isBeaten 14 = .ok (.invokevirtual 216, 3) := by decide +kernel
theorem dX11_isBeaten_17 : decode cX11_isBeaten 17 = .ok (.aload_n 0, 1) := by decide +kernel
theorem dX11_isBeaten_18 : decode cX11_isBeaten 18 = .ok (.iload_n 3, 1) := by decide +kernel
theorem dX11_isBeaten_19 : decode cX11_isBeaten 19 = .ok (.invokevirtual 209, 3) := by decide +kernel
theorem dX11_isBeaten_22 : decode cX11_isBeaten 22 = .ok (.invokevirtual 212, 3) := by decide +kernel
theorem dX11_isBeaten_25 : decode cX11_isBeaten 25 = .ok (.aload_n 0, 1) := by decide +kernel
theorem dX11_isBeaten_26 : decode cX11_isBeaten 26 = .ok (.iload_n 3, 1) := by decide +kernel
theorem dX11_isBeaten_27 : decode cX11_isBeaten 27 = .ok (.invokevirtual 231, 3) := by decide +kernel
theorem dX11_isBeaten_30 : decode cX11_isBeaten 30 = .ok (.if_icmp .ge 7, 3) := by decide +kernel
theorem dX11_isBeaten_33 : decode cX11_isBeaten 33 = .ok (.iconst 1, 1) := by decide +kernel
theorem dX11_isBeaten_34 : decode cX11_isBeaten 34 = .ok (.goto 4, 3) := by decide +kernel
theorem dX11_isBeaten_37 : decode cX11_isBeaten 37 = .ok (.iconst 0, 1) := by decide +kernel
theorem dX11_isBeaten_38 : decode cX11_isBeaten 38 = .ok (.ireturn, 1) := by decide +kernel
theorem dX11_beatenBy_0 : decode cX11_beatenBy 0 = .ok (.iconst 0, 1) := by decide +kernel
theorem dX11_beatenBy_1 : decode cX11_beatenBy 1 = .ok (.istore_n 2, 1) := by decide +kernel
theorem dX11_beatenBy_2 : decode cX11_beatenBy 2 = .ok (.iconst 0, 1) := by decide +kernel
theorem dX11_beatenBy_3 : decode cX11_beatenBy 3 = .ok (.istore_n 3, 1) := by decide +kernel
theorem dX11_beatenBy_4 : decode cX11_beatenBy 4 = .ok (.iload_n 3, 1) := by decide +kernel
theorem dX11_beatenBy_5 : decode cX11_beatenBy 5 = .ok (.aload_n 0, 1) := by decide +kernel
theorem dX11_beatenBy_6 : decode cX11_beatenBy 6 = .ok (.getfield 7, 3) := by decide +kernel
theorem dX11_beatenBy_9 : decode cX11_beatenBy 9 = .ok (.bipush 69, 2) := by decide +kernel
theorem dX11_beatenBy_11 : decode cX11_beatenBy 11 = .ok (.iaload, 1) := by decide +kernel
theorem dX11_beatenBy_12 : decode cX11_beatenBy 12 = .ok (.if_icmp .ge 26, 3) := by decide +kernel
theorem dX11_beatenBy_15 : decode cX11_beatenBy 15 = .ok (.iload_n 2, 1) := by decide +kernel
theorem dX11_beatenBy_16 : decode cX11_beatenBy 16 = .ok (.aload_n 0, 1) := by decide +kernel
theorem dX11_beatenBy_17 : decode cX11_beatenBy 17 = .ok (.iload_n 1, 1) := by decide +kernel
theorem dX11_beatenBy_18 : decode cX11_beatenBy 18 = .ok (.iload_n 3, 1) := by decide +kernel
theorem dX11_beatenBy_19 : decode cX11_beatenBy 19 = .ok (.invokevirtual 238, 3) := by decide +kernel
theorem dX11_beatenBy_22 : decode cX11_beatenBy 22 = .ok (.ifCond .eq 7, 3) := by decide +kernel
theorem dX11_beatenBy_25 : decode cX11_beatenBy 25 = .ok (.iconst 1, 1) := by decide +kernel
theorem dX11_beatenBy_26 : decode cX11_beatenBy 26 = .ok (.goto 4, 3) := by decide +kernel
theorem dX11_beatenBy_29 : decode cX11_beatenBy 29 = .ok (.iconst 0, 1) := by decide +kernel
theorem dX11_beatenBy_30 : decode cX11_beatenBy 30 = .ok (.iadd, 1) := by decide +kernel
theorem dX11_beatenBy_31 : decode cX11_beatenBy 31 = .ok (.istore_n 2, 1) := by decide +kernel
theorem dX11_beatenBy_32 : decode cX11_beatenBy 32 = .ok (.iinc 3 1, 3) := by decide +kernel
theorem dX11_beatenBy_35 : decode cX11_beatenBy 35 = .ok (.goto (-31), 3) := by decide +kernel
theorem dX11_beatenBy_38 : decode cX11_beatenBy 38 = .ok (.iload_n 2, 1) := by decide +kernel
theorem dX11_beatenBy_39 : decode cX11_beatenBy 39 = .ok (.ireturn, 1) := by decide +kernel
theorem dX11_route_0 : decode cX11_route 0 = .ok (.aload_n 0, 1) := by decide +kernel
theorem dX11_route_1 : decode cX11_route 1 = .ok (.aload_n 0, 1) := by decide +kernel
theorem dX11_route_2 : decode cX11_route 2 = .ok (.iload_n 1, 1) := by decide +kernel
theorem dX11_route_3 : decode cX11_route 3 = .ok (.invokevirtual 206, 3) := by decide +kernel
theorem dX11_route_6 : decode cX11_route 6 = .ok (.ifCond .ne 7, 3) := by decide +kernel
theorem dX11_route_9 : decode cX11_route 9 = .ok (.iconst 1, 1) := by decide +kernel
theorem dX11_route_10 : decode cX11_route 10 = .ok (.goto 18, 3) := by decide +kernel
theorem dX11_route_13 : decode cX11_route 13 = .ok (.iload_n 2, 1) := by decide +kernel
theorem dX11_route_14 : decode cX11_route 14 = .ok (.iconst 0, 1) := by decide +kernel
theorem dX11_route_15 : decode cX11_route 15 = .ok (.bipush 7, 2) := by decide +kernel
theorem dX11_route_17 : decode cX11_route 17 = .ok (.invokestatic 72, 3) := by decide +kernel
theorem dX11_route_20 : decode cX11_route 20 = .ok (.ifCond .eq 7, 3) := by decide +kernel
theorem dX11_route_23 : decode cX11_route 23 = .ok (.iconst 0, 1) := by decide +kernel
theorem dX11_route_24 : decode cX11_route 24 = .ok (.goto 4, 3) := by decide +kernel
theorem dX11_route_27 : decode cX11_route 27 = .ok (.iconst 2, 1) := by decide +kernel
theorem dX11_route_28 : decode cX11_route 28 = .ok (.putfield 56, 3) := by decide +kernel
theorem dX11_route_31 : decode cX11_route 31 = .ok (.aload_n 0, 1) := by decide +kernel
theorem dX11_route_32 : decode cX11_route 32 = .ok (.getfield 56, 3) := by decide +kernel
theorem dX11_route_35 : decode cX11_route 35 = .ok (.ifCond .le 5, 3) := by decide +kernel
theorem dX11_route_38 : decode cX11_route 38 = .ok (.iconst 0, 1) := by decide +kernel
theorem dX11_route_39 : decode cX11_route 39 = .ok (.ireturn, 1) := by decide +kernel
theorem dX11_route_40 : decode cX11_route 40 = .ok (.iload_n 2, 1) := by decide +kernel
theorem dX11_route_41 : decode cX11_route 41 = .ok (.bipush 6, 2) := by decide +kernel
theorem dX11_route_43 : decode cX11_route 43 = .ok (.if_icmp .ne 16, 3) := by decide +kernel
theorem dX11_route_46 : decode cX11_route 46 = .ok (.aload_n 0, 1) := by decide +kernel
theorem dX11_route_47 : decode cX11_route 47 = .ok (.aload_n 0, 1) := by decide +kernel
theorem dX11_route_48 : decode cX11_route 48 = .ok (.iload_n 1, 1) := by decide +kernel
theorem dX11_route_49 : decode cX11_route 49 = .ok (.invokevirtual 216, 3) := by decide +kernel
theorem dX11_route_52 : decode cX11_route 52 = .ok (.iconst 1, 1) := by decide +kernel
theorem dX11_route_53 : decode cX11_route 53 = .ok (.invokevirtual 234, 3) := by decide +kernel
theorem dX11_route_56 : decode cX11_route 56 = .ok (.goto 27, 3) := by decide +kernel
theorem dX11_route_59 : decode cX11_route 59 = .ok (.iload_n 2, 1) := by decide +kernel
theorem dX11_route_60 : decode cX11_route 60 = .ok (.bipush 7, 2) := by decide +kernel
theorem dX11_route_62 : decode cX11_route 62 = .ok (.if_icmp .ne 11, 3) := by decide +kernel
theorem dX11_route_65 : decode cX11_route 65 = .ok (.aload_n 0, 1) := by decide +kernel
theorem dX11_route_66 : decode cX11_route 66 = .ok (.iload_n 1, 1) := by decide +kernel
theorem dX11_route_67 : decode cX11_route 67 = .ok (.invokevirtual 241, 3) := by decide +kernel
theorem dX11_route_70 : decode cX11_route 70 = .ok (.goto 13, 3) := by decide +kernel
theorem dX11_route_73 : decode cX11_route 73 = .ok (.aload_n 0, 1) := by decide +kernel
theorem dX11_route_74 : decode cX11_route 74 = .ok (.aload_n 0, 1) := by decide +kernel
theorem dX11_route_75 : decode cX11_route 75 = .ok (.iload_n 1, 1) := by decide +kernel
theorem dX11_route_76 : decode cX11_route 76 = .ok (.invokevirtual 216, 3) := by decide +kernel
theorem dX11_route_79 : decode cX11_route 79 = .ok (.iload_n 2, 1) := by decide +kernel
theorem dX11_route_80 : decode cX11_route 80 = .ok (.invokevirtual 244, 3) := by decide +kernel
theorem dX11_route_83 : decode cX11_route 83 = .ok (.ireturn, 1) := by decide +kernel
theorem dX11_cost_0 : decode cX11_cost 0 = .ok (.aload_n 0, 1) := by decide +kernel
theorem dX11_cost_1 : decode cX11_cost 1 = .ok (.aload_n 0, 1) := by decide +kernel
theorem dX11_cost_2 : decode cX11_cost 2 = .ok (.iload_n 1, 1) := by decide +kernel
theorem dX11_cost_3 : decode cX11_cost 3 = .ok (.invokevirtual 206, 3) := by decide +kernel
theorem dX11_cost_6 : decode cX11_cost 6 = .ok (.ifCond .eq 7, 3) := by decide +kernel
theorem dX11_cost_9 : decode cX11_cost 9 = .ok (.iconst 0, 1) := by decide +kernel
theorem dX11_cost_10 : decode cX11_cost 10 = .ok (.goto 4, 3) := by decide +kernel
theorem dX11_cost_13 : decode cX11_cost 13 = .ok (.iconst 1, 1) := by decide +kernel
theorem dX11_cost_14 : decode cX11_cost 14 = .ok (.putfield 56, 3) := by decide +kernel
theorem dX11_cost_17 : decode cX11_cost 17 = .ok (.aload_n 0, 1) := by decide +kernel
theorem dX11_cost_18 : decode cX11_cost 18 = .ok (.getfield 56, 3) := by decide +kernel
theorem dX11_cost_21 : decode cX11_cost 21 = .ok (.ifCond .le 7, 3) := by decide +kernel
theorem dX11_cost_24 : decode cX11_cost 24 = .ok (.iconst 0, 1) := by decide +kernel
theorem dX11_cost_25 : decode cX11_cost 25 = .ok (.goto 13, 3) := by decide +kernel
theorem dX11_cost_28 : decode cX11_cost 28 = .ok (.aload_n 0, 1) := by decide +kernel
theorem dX11_cost_29 : decode cX11_cost 29 = .ok (.aload_n 0, 1) := by decide +kernel
theorem dX11_cost_30 : decode cX11_cost 30 = .ok (.iload_n 1, 1) := by decide +kernel
theorem dX11_cost_31 : decode cX11_cost 31 = .ok (.invokevirtual 216, 3) := by decide +kernel
theorem dX11_cost_34 : decode cX11_cost 34 = .ok (.iload_n 2, 1) := by decide +kernel
theorem dX11_cost_35 : decode cX11_cost 35 = .ok (.invokevirtual 212, 3) := by decide +kernel
theorem dX11_cost_38 : decode cX11_cost 38 = .ok (.ireturn, 1) := by decide +kernel
theorem dX11_chosen_0 : decode cX11_chosen 0 = .ok (.aload_n 0, 1) := by decide +kernel
theorem dX11_chosen_1 : decode cX11_chosen 1 = .ok (.aload_n 0, 1) := by decide +kernel
theorem dX11_chosen_2 : decode cX11_chosen 2 = .ok (.getfield 7, 3) := by decide +kernel
theorem dX11_chosen_5 : decode cX11_chosen 5 = .ok (.bipush 69, 2) := by decide +kernel
theorem dX11_chosen_7 : decode cX11_chosen 7 = .ok (.iaload, 1) := by decide +kernel
theorem dX11_chosen_8 : decode cX11_chosen 8 = .ok (.ifCond .ne 7, 3) := by decide +kernel
theorem dX11_chosen_11 : decode cX11_chosen 11 = .ok (.iconst 1, 1) := by decide +kernel
theorem dX11_chosen_12 : decode cX11_chosen 12 = .ok (.goto 4, 3) := by decide +kernel
theorem dX11_chosen_15 : decode cX11_chosen 15 = .ok (.iconst 0, 1) := by decide +kernel
theorem dX11_chosen_16 : decode cX11_chosen 16 = .ok (.putfield 56, 3) := by decide +kernel
theorem dX11_chosen_19 : decode cX11_chosen 19 = .ok (.iconst 0, 1) := by decide +kernel
theorem dX11_chosen_20 : decode cX11_chosen 20 = .ok (.istore_n 1, 1) := by decide +kernel
theorem dX11_chosen_21 : decode cX11_chosen 21 = .ok (.ldc 215, 2) := by decide +kernel
theorem dX11_chosen_23 : decode cX11_chosen 23 = .ok (.istore_n 2, 1) := by decide +kernel
theorem dX11_chosen_24 : decode cX11_chosen 24 = .ok (.iconst 0, 1) := by decide +kernel
theorem dX11_chosen_25 : decode cX11_chosen 25 = .ok (.istore_n 3, 1) := by decide +kernel
theorem dX11_chosen_26 : decode cX11_chosen 26 = .ok (.iload_n 3, 1) := by decide +kernel
theorem dX11_chosen_27 : decode cX11_chosen 27 = .ok (.aload_n 0, 1) := by decide +kernel
theorem dX11_chosen_28 : decode cX11_chosen 28 = .ok (.getfield 7, 3) := by decide +kernel
theorem dX11_chosen_31 : decode cX11_chosen 31 = .ok (.bipush 69, 2) := by decide +kernel
theorem dX11_chosen_33 : decode cX11_chosen 33 = .ok (.iaload, 1) := by decide +kernel
theorem dX11_chosen_34 : decode cX11_chosen 34 = .ok (.if_icmp .ge 35, 3) := by decide +kernel
theorem dX11_chosen_37 : decode cX11_chosen 37 = .ok (.aload_n 0, 1) := by decide +kernel
theorem dX11_chosen_38 : decode cX11_chosen 38 = .ok (.aload_n 0, 1) := by decide +kernel
theorem dX11_chosen_39 : decode cX11_chosen 39 = .ok (.iload_n 3, 1) := by decide +kernel
theorem dX11_chosen_40 : decode cX11_chosen 40 = .ok (.invokevirtual 216, 3) := by decide +kernel
theorem dX11_chosen_43 : decode cX11_chosen 43 = .ok (.iconst 1, 1) := by decide +kernel
theorem dX11_chosen_44 : decode cX11_chosen 44 = .ok (.invokevirtual 234, 3) := by decide +kernel
theorem dX11_chosen_47 : decode cX11_chosen 47 = .ok (.istore 4, 2) := by decide +kernel
theorem dX11_chosen_49 : decode cX11_chosen 49 = .ok (.iload 4, 2) := by decide +kernel
theorem dX11_chosen_51 : decode cX11_chosen 51 = .ok (.iload_n 2, 1) := by decide +kernel
theorem dX11_chosen_52 : decode cX11_chosen 52 = .ok (.if_icmp .lt 6, 3) := by decide +kernel
theorem dX11_chosen_55 : decode cX11_chosen 55 = .ok (.goto 8, 3) := by decide +kernel
theorem dX11_chosen_58 : decode cX11_chosen 58 = .ok (.iload_n 3, 1) := by decide +kernel
theorem dX11_chosen_59 : decode cX11_chosen 59 = .ok (.istore_n 1, 1) := by decide +kernel
theorem dX11_chosen_60 : decode cX11_chosen 60 = .ok (.iload 4, 2) := by decide +kernel
theorem dX11_chosen_62 : decode cX11_chosen 62 = .ok (.istore_n 2, 1) := by decide +kernel
theorem dX11_chosen_63 : decode cX11_chosen 63 = .ok (.iinc 3 1, 3) := by decide +kernel
theorem dX11_chosen_66 : decode cX11_chosen 66 = .ok (.goto (-40), 3) := by decide +kernel
theorem dX11_chosen_69 : decode cX11_chosen 69 = .ok (.iload_n 1, 1) := by decide +kernel
theorem dX11_chosen_70 : decode cX11_chosen 70 = .ok (.ireturn, 1) := by decide +kernel
theorem dX11_beats_0 : decode cX11_beats 0 = .ok (.aload_n 0, 1) := by decide +kernel
theorem dX11_beats_1 : decode cX11_beats 1 = .ok (.aload_n 0, 1) := by decide +kernel
theorem dX11_beats_2 : decode cX11_beats 2 = .ok (.iload_n 1, 1) := by decide +kernel
theorem dX11_beats_3 : decode cX11_beats 3 = .ok (.invokevirtual 206, 3) := by decide +kernel
theorem dX11_beats_6 : decode cX11_beats 6 = .ok (.ifCond .eq 15, 3) := by decide +kernel
theorem dX11_beats_9 : decode cX11_beats 9 = .ok (.aload_n 0, 1) := by decide +kernel
theorem dX11_beats_10 : decode cX11_beats 10 = .ok (.iload_n 2, 1) := by decide +kernel
theorem dX11_beats_11 : decode cX11_beats 11 = .ok (.invokevirtual 206, 3) := by decide +kernel
theorem dX11_beats_14 : decode cX11_beats 14 = .ok (.ifCond .eq 7, 3) := by decide +kernel
theorem dX11_beats_17 : decode cX11_beats 17 = .ok (.iconst 0, 1) := by decide +kernel
theorem dX11_beats_18 : decode cX11_beats 18 = .ok (.goto 4, 3) := by decide +kernel
theorem dX11_beats_21 : decode cX11_beats 21 = .ok (.iconst 1, 1) := by decide +kernel
theorem dX11_beats_22 : decode cX11_beats 22 = .ok (.putfield 56, 3) := by decide +kernel
theorem dX11_beats_25 : decode cX11_beats 25 = .ok (.aload_n 0, 1) := by decide +kernel
theorem dX11_beats_26 : decode cX11_beats 26 = .ok (.getfield 56, 3) := by decide +kernel
theorem dX11_beats_29 : decode cX11_beats 29 = .ok (.ifCond .ne 16, 3) := by decide +kernel
theorem dX11_beats_32 : decode cX11_beats 32 = .ok (.aload_n 0, 1) := by decide +kernel
theorem dX11_beats_33 : decode cX11_beats 33 = .ok (.iload_n 2, 1) := by decide +kernel
theorem dX11_beats_34 : decode cX11_beats 34 = .ok (.iload_n 1, 1) := by decide +kernel
theorem dX11_beats_35 : decode cX11_beats 35 = .ok (.invokevirtual 238, 3) := by decide +kernel
theorem dX11_beats_38 : decode cX11_beats 38 = .ok (.ifCond .eq 7, 3) := by decide +kernel
theorem dX11_beats_41 : decode cX11_beats 41 = .ok (.iconst 1, 1) := by decide +kernel
theorem dX11_beats_42 : decode cX11_beats 42 = .ok (.goto 4, 3) := by decide +kernel
theorem dX11_beats_45 : decode cX11_beats 45 = .ok (.iconst 0, 1) := by decide +kernel
theorem dX11_beats_46 : decode cX11_beats 46 = .ok (.ireturn, 1) := by decide +kernel
theorem dX11_strain_0 : decode cX11_strain 0 = .ok (.aload_n 0, 1) := by decide +kernel
theorem dX11_strain_1 : decode cX11_strain 1 = .ok (.aload_n 0, 1) := by decide +kernel
theorem dX11_strain_2 : decode cX11_strain 2 = .ok (.iload_n 1, 1) := by decide +kernel
theorem dX11_strain_3 : decode cX11_strain 3 = .ok (.invokevirtual 206, 3) := by decide +kernel
theorem dX11_strain_6 : decode cX11_strain 6 = .ok (.ifCond .eq 7, 3) := by decide +kernel
theorem dX11_strain_9 : decode cX11_strain 9 = .ok (.iconst 0, 1) := by decide +kernel
theorem dX11_strain_10 : decode cX11_strain 10 = .ok (.goto 4, 3) := by decide +kernel
theorem dX11_strain_13 : decode cX11_strain 13 = .ok (.iconst 1, 1) := by decide +kernel
theorem dX11_strain_14 : decode cX11_strain 14 = .ok (.putfield 56, 3) := by decide +kernel
theorem dX11_strain_17 : decode cX11_strain 17 = .ok (.aload_n 0, 1) := by decide +kernel
theorem dX11_strain_18 : decode cX11_strain 18 = .ok (.getfield 56, 3) := by decide +kernel
theorem dX11_strain_21 : decode cX11_strain 21 = .ok (.ifCond .le 5, 3) := by decide +kernel
theorem dX11_strain_24 : decode cX11_strain 24 = .ok (.fconst 0, 1) := by decide +kernel
theorem dX11_strain_25 : decode cX11_strain 25 = .ok (.freturn, 1) := by decide +kernel
theorem dX11_strain_26 : decode cX11_strain 26 = .ok (.aload_n 0, 1) := by decide +kernel
theorem dX11_strain_27 : decode cX11_strain 27 = .ok (.aload_n 0, 1) := by decide +kernel
theorem dX11_strain_28 : decode cX11_strain 28 = .ok (.iload_n 1, 1) := by decide +kernel
theorem dX11_strain_29 : decode cX11_strain 29 = .ok (.invokevirtual 216, 3) := by decide +kernel
theorem dX11_strain_32 : decode cX11_strain 32 = .ok (.iconst 0, 1) := by decide +kernel
theorem dX11_strain_33 : decode cX11_strain 33 = .ok (.invokevirtual 212, 3) := by decide +kernel
theorem dX11_strain_36 : decode cX11_strain 36 = .ok (.istore_n 2, 1) := by decide +kernel
theorem dX11_strain_37 : decode cX11_strain 37 = .ok (.iload_n 2, 1) := by decide +kernel
theorem dX11_strain_38 : decode cX11_strain 38 = .ok (.ifCond .ne 7, 3) := by decide +kernel
theorem dX11_strain_41 : decode cX11_strain 41 = .ok (.fconst 1, 1) := by decide +kernel
theorem dX11_strain_42 : decode cX11_strain 42 = .ok (.goto 16, 3) := by decide +kernel
theorem dX11_strain_45 : decode cX11_strain 45 = .ok (.aload_n 0, 1) := by decide +kernel
theorem dX11_strain_46 : decode cX11_strain 46 = .ok (.aload_n 0, 1) := by decide +kernel
theorem dX11_strain_47 : decode cX11_strain 47 = .ok (.iload_n 1, 1) := by decide +kernel
theorem dX11_strain_48 : decode cX11_strain 48 = .ok (.invokevirtual 216, 3) := by decide +kernel
theorem dX11_strain_51 : decode cX11_strain 51 = .ok (.invokevirtual 231, 3) := by decide +kernel
theorem dX11_strain_54 : decode cX11_strain 54 = .ok (.i2f, 1) := by decide +kernel
theorem dX11_strain_55 : decode cX11_strain 55 = .ok (.iload_n 2, 1) := by decide +kernel
theorem dX11_strain_56 : decode cX11_strain 56 = .ok (.i2f, 1) := by decide +kernel
theorem dX11_strain_57 : decode cX11_strain 57 = .ok (.fdiv, 1) := by decide +kernel
theorem dX11_strain_58 : decode cX11_strain 58 = .ok (.freturn, 1) := by decide +kernel
theorem dX11_shortest_0 : decode cX11_shortest 0 = .ok (.aload_n 0, 1) := by decide +kernel
theorem dX11_shortest_1 : decode cX11_shortest 1 = .ok (.iload_n 1, 1) := by decide +kernel
theorem dX11_shortest_2 : decode cX11_shortest 2 = .ok (.invokevirtual 228, 3) := by decide +kernel
theorem dX11_shortest_5 : decode cX11_shortest 5 = .ok (.istore_n 2, 1) := by decide +kernel
theorem dX11_shortest_6 : decode cX11_shortest 6 = .ok (.aload_n 0, 1) := by decide +kernel
theorem dX11_shortest_7 : decode cX11_shortest 7 = .ok (.iload_n 2, 1) := by decide +kernel
theorem dX11_shortest_8 : decode cX11_shortest 8 = .ok (.ldc 215, 2) := by decide +kernel
theorem dX11_shortest_10 : decode cX11_shortest 10 = .ok (.if_icmp .lt 7, 3) := by decide +kernel
theorem dX11_shortest_13 : decode cX11_shortest 13 = .ok (.iconst 1, 1) := by decide +kernel
theorem dX11_shortest_14 : decode cX11_shortest 14 = .ok (.goto 4, 3) := by decide +kernel
theorem dX11_shortest_17 : decode cX11_shortest 17 = .ok (.iconst 0, 1) := by decide +kernel
theorem dX11_shortest_18 : decode cX11_shortest 18 = .ok (.putfield 56, 3) := by decide +kernel
theorem dX11_shortest_21 : decode cX11_shortest 21 = .ok (.aload_n 0, 1) := by decide +kernel
theorem dX11_shortest_22 : decode cX11_shortest 22 = .ok (.getfield 56, 3) := by decide +kernel
theorem dX11_shortest_25 : decode cX11_shortest 25 = .ok (.ifCond .le 7, 3) := by decide +kernel
theorem dX11_shortest_28 : decode cX11_shortest 28 = .ok (.iconst 0, 1) := by decide +kernel
theorem dX11_shortest_29 : decode cX11_shortest 29 = .ok (.goto 4, 3) := by decide +kernel
theorem dX11_shortest_32 : decode cX11_shortest 32 = .ok (.iload_n 2, 1) := by decide +kernel
theorem dX11_shortest_33 : decode cX11_shortest 33 = .ok (.ireturn, 1) := by decide +kernel
theorem dX11_meets_0 : decode cX11_meets 0 = .ok (.iconst 0, 1) := by decide +kernel
theorem dX11_meets_1 : decode cX11_meets 1 = .ok (.istore 4, 2) := by decide +kernel
theorem dX11_meets_3 : decode cX11_meets 3 = .ok (.iconst 0, 1) := by decide +kernel
theorem dX11_meets_4 : decode cX11_meets 4 = .ok (.istore 5, 2) := by decide +kernel
theorem dX11_meets_6 : decode cX11_meets 6 = .ok (.iload 5, 2) := by decide +kernel
theorem dX11_meets_8 : decode cX11_meets 8 = .ok (.iload_n 3, 1) := by decide +kernel
theorem dX11_meets_9 : decode cX11_meets 9 = .ok (.if_icmp .ge 23, 3) := by decide +kernel
theorem dX11_meets_12 : decode cX11_meets 12 = .ok (.iload 4, 2) := by decide +kernel
theorem dX11_meets_14 : decode cX11_meets 14 = .ok (.iconst 1, 1) := by decide +kernel
theorem dX11_meets_15 : decode cX11_meets 15 = .ok (.aload_n 0, 1) := by decide +kernel
theorem dX11_meets_16 : decode cX11_meets 16 = .ok (.getfield 29, 3) := by decide +kernel
theorem dX11_meets_19 : decode cX11_meets 19 = .ok (.iload 5, 2) := by decide +kernel
theorem dX11_meets_21 : decode cX11_meets 21 = .ok (.iaload, 1) := by decide +kernel
theorem dX11_meets_22 : decode cX11_meets 22 = .ok (.ishl, 1) := by decide +kernel
theorem dX11_meets_23 : decode cX11_meets 23 = .ok (.ior, 1) := by decide +kernel
theorem dX11_meets_24 : decode cX11_meets 24 = .ok (.istore 4, 2) := by decide +kernel
theorem dX11_meets_26 : decode cX11_meets 26 = .ok (.iinc 5 1, 3) := by decide +kernel
theorem dX11_meets_29 : decode cX11_meets 29 = .ok (.goto (-23), 3) := by decide +kernel
theorem dX11_meets_32 : decode cX11_meets 32 = .ok (.iload_n 1, 1) := by decide +kernel
theorem dX11_meets_33 : decode cX11_meets 33 = .ok (.iconst 1, 1) := by decide +kernel
theorem dX11_meets_34 : decode cX11_meets 34 = .ok (.if_icmp .gt 32, 3) := by decide +kernel
theorem dX11_meets_37 : decode cX11_meets 37 = .ok (.aload_n 0, 1) := by decide +kernel
theorem dX11_meets_38 : decode cX11_meets 38 = .ok (.dup, 1) := by decide +kernel
theorem dX11_meets_39 : decode cX11_meets 39 = .ok (.getfield 247, 3) := by decide +kernel
theorem dX11_meets_42 : decode cX11_meets 42 = .ok (.iload_n 1, 1) := by decide +kernel
theorem dX11_meets_43 : decode cX11_meets 43 = .ok (.ifCond .eq 13, 3) := by decide +kernel
theorem dX11_meets_46 : decode cX11_meets 46 = .ok (.aload_n 0, 1) := by decide +kernel
theorem dX11_meets_47 : decode cX11_meets 47 = .ok (.iload 4, 2) := by decide +kernel
theorem dX11_meets_49 : decode cX11_meets 49 = .ok (.invokevirtual 231, 3) := by decide +kernel
theorem dX11_meets_52 : decode cX11_meets 52 = .ok (.iload_n 2, 1) := by decide +kernel
theorem dX11_meets_53 : decode cX11_meets 53 = .ok (.if_icmp .gt 7, 3) := by decide +kernel
theorem dX11_meets_56 : decode cX11_meets 56 = .ok (.iconst 1, 1) := by decide +kernel
theorem dX11_meets_57 : decode cX11_meets 57 = .ok (.goto 4, 3) := by decide +kernel
theorem dX11_meets_60 : decode cX11_meets 60 = .ok (.iconst 0, 1) := by decide +kernel
theorem dX11_meets_61 : decode cX11_meets 61 = .ok (.iadd, 1) := by decide +kernel
theorem dX11_meets_62 : decode cX11_meets 62 = .ok (.putfield 247, 3) := by decide +kernel
theorem dX11_meets_65 : decode cX11_meets 65 = .ok (.return_, 1) := by decide +kernel
theorem dX11_meets_66 : decode cX11_meets 66 = .ok (.iload_n 1, 1) := by decide +kernel
theorem dX11_meets_67 : decode cX11_meets 67 = .ok (.iconst 3, 1) := by decide +kernel
theorem dX11_meets_68 : decode cX11_meets 68 = .ok (.if_icmp .ne 13, 3) := by decide +kernel
theorem dX11_meets_71 : decode cX11_meets 71 = .ok (.aload_n 0, 1) := by decide +kernel
theorem dX11_meets_72 : decode cX11_meets 72 = .ok (.iload 4, 2) := by decide +kernel
theorem dX11_meets_74 : decode cX11_meets 74 = .ok (.iconst 0, 1) := by decide +kernel
theorem dX11_meets_75 : decode cX11_meets 75 = .ok (.invokevirtual 234, 3) := by decide +kernel
theorem dX11_meets_78 : decode cX11_meets 78 = .ok (.goto 4, 3) := by decide +kernel
theorem dX11_meets_81 : decode cX11_meets 81 = .ok (.iconst 0, 1) := by decide +kernel
theorem dX11_meets_82 : decode cX11_meets 82 = .ok (.istore 5, 2) := by decide +kernel
theorem dX11_meets_84 : decode cX11_meets 84 = .ok (.aload_n 0, 1) := by decide +kernel
theorem dX11_meets_85 : decode cX11_meets 85 = .ok (.iload 4, 2) := by decide +kernel
theorem dX11_meets_87 : decode cX11_meets 87 = .ok (.invokevirtual 231, 3) := by decide +kernel
theorem dX11_meets_90 : decode cX11_meets 90 = .ok (.istore 6, 2) := by decide +kernel
theorem dX11_meets_92 : decode cX11_meets 92 = .ok (.aload_n 0, 1) := by decide +kernel
theorem dX11_meets_93 : decode cX11_meets 93 = .ok (.iload 4, 2) := by decide +kernel
theorem dX11_meets_95 : decode cX11_meets 95 = .ok (.iconst 0, 1) := by decide +kernel
theorem dX11_meets_96 : decode cX11_meets 96 = .ok (.invokevirtual 212, 3) := by decide +kernel
theorem dX11_meets_99 : decode cX11_meets 99 = .ok (.istore 7, 2) := by decide +kernel
theorem dX11_meets_101 : decode cX11_meets 101 = .ok (.iload 5, 2) := by decide +kernel
theorem dX11_meets_103 : decode cX11_meets 103 = .ok (.aload_n 0, 1) := by decide +kernel
theorem dX11_meets_104 : decode cX11_meets 104 = .ok (.getfield 250, 3) := by decide +kernel
theorem dX11_meets_107 : decode cX11_meets 107 = .ok (.isub, 1) := by decide +kernel
theorem dX11_meets_108 : decode cX11_meets 108 = .ok (.istore 8, 2) := by decide +kernel
theorem dX11_meets_110 : decode cX11_meets 110 = .ok (.iload 8, 2) := by decide +kernel
theorem dX11_meets_112 : decode cX11_meets 112 = .ok (.ifCond .ne 13, 3) := by decide +kernel
theorem dX11_meets_115 : decode cX11_meets 115 = .ok (.iload 6, 2) := by decide +kernel
theorem dX11_meets_117 : decode cX11_meets 117 = .ok (.aload_n 0, 1) := by decide +kernel
theorem dX11_meets_118 : decode cX11_meets 118 = .ok (.getfield 253, 3) := by decide +kernel
theorem dX11_meets_121 : decode cX11_meets 121 = .ok (.isub, 1) := by decide +kernel
theorem dX11_meets_122 : decode cX11_meets 122 = .ok (.goto 5, 3) := by decide +kernel
theorem dX11_meets_125 : decode cX11_meets 125 = .ok (.iload 8, 2) := by decide +kernel
theorem dX11_meets_127 : decode cX11_meets 127 = .ok (.istore 8, 2) := by decide +kernel
theorem dX11_meets_129 : decode cX11_meets 129 = .ok (.iload 8, 2) := by decide +kernel
theorem dX11_meets_131 : decode cX11_meets 131 = .ok (.ifCond .ne 13, 3) := by decide +kernel
theorem dX11_meets_134 : decode cX11_meets 134 = .ok (.iload 7, 2) := by decide +kernel
theorem dX11_meets_136 : decode cX11_meets 136 = .ok (.aload_n 0, 1) := by decide +kernel
theorem dX11_meets_137 : decode cX11_meets 137 = .ok (.getfield 256, 3) := by decide +kernel
theorem dX11_meets_140 : decode cX11_meets 140 = .ok (.isub, 1) := by decide +kernel
theorem dX11_meets_141 : decode cX11_meets 141 = .ok (.goto 5, 3) := by decide +kernel
theorem dX11_meets_144 : decode cX11_meets 144 = .ok (.iload 8, 2) := by decide +kernel
theorem dX11_meets_146 : decode cX11_meets 146 = .ok (.istore 8, 2) := by decide +kernel
theorem dX11_meets_148 : decode cX11_meets 148 = .ok (.iload 8, 2) := by decide +kernel
theorem dX11_meets_150 : decode cX11_meets 150 = .ok (.ifCond .ne 12, 3) := by decide +kernel
theorem dX11_meets_153 : decode cX11_meets 153 = .ok (.iload_n 3, 1) := by decide +kernel
theorem dX11_meets_154 : decode cX11_meets 154 = .ok (.aload_n 0, 1) := by decide +kernel
theorem dX11_meets_155 : decode cX11_meets 155 = .ok (.getfield 259, 3) := by decide +kernel
theorem dX11_meets_158 : decode cX11_meets 158 = .ok (.isub, 1) := by decide +kernel
theorem dX11_meets_159 : decode cX11_meets 159 = .ok (.goto 5, 3) := by decide +kernel
theorem dX11_meets_162 : decode cX11_meets 162 = .ok (.iload 8, 2) := by decide +kernel
theorem dX11_meets_164 : decode cX11_meets 164 = .ok (.istore 8, 2) := by decide +kernel
theorem dX11_meets_166 : decode cX11_meets 166 = .ok (.aload_n 0, 1) := by decide +kernel
theorem dX11_meets_167 : decode cX11_meets 167 = .ok (.getfield 247, 3) := by decide +kernel
theorem dX11_meets_170 : decode cX11_meets 170 = .ok (.ifCond .le 9, 3) := by decide +kernel
theorem dX11_meets_173 : decode cX11_meets 173 = .ok (.iload 8, 2) := by decide +kernel
theorem dX11_meets_175 : decode cX11_meets 175 = .ok (.ifCond .lt 4, 3) := by decide +kernel
theorem dX11_meets_178 : decode cX11_meets 178 = .ok (.return_, 1) := by decide +kernel
theorem dX11_meets_179 : decode cX11_meets 179 = .ok (.aload_n 0, 1) := by decide +kernel
theorem dX11_meets_180 : decode cX11_meets 180 = .ok (.iconst 1, 1) := by decide +kernel
theorem dX11_meets_181 : decode cX11_meets 181 = .ok (.putfield 247, 3) := by decide +kernel
theorem dX11_meets_184 : decode cX11_meets 184 = .ok (.aload_n 0, 1) := by decide +kernel
theorem dX11_meets_185 : decode cX11_meets 185 = .ok (.iload 5, 2) := by decide +kernel
theorem dX11_meets_187 : decode cX11_meets 187 = .ok (.putfield 250, 3) := by decide +kernel
theorem dX11_meets_190 : decode cX11_meets 190 = .ok (.aload_n 0, 1) := by decide +kernel
theorem dX11_meets_191 : decode cX11_meets 191 = .ok (.iload 6, 2) := by decide +kernel
theorem dX11_meets_193 : decode cX11_meets 193 = .ok (.putfield 253, 3) := by decide +kernel
theorem dX11_meets_196 : decode cX11_meets 196 = .ok (.aload_n 0, 1) := by decide +kernel
theorem dX11_meets_197 : decode cX11_meets 197 = .ok (.iload 7, 2) := by decide +kernel
theorem dX11_meets_199 : decode cX11_meets 199 = .ok (.putfield 256, 3) := by decide +kernel
theorem dX11_meets_202 : decode cX11_meets 202 = .ok (.aload_n 0, 1) := by decide +kernel
theorem dX11_meets_203 : decode cX11_meets 203 = .ok (.iload_n 3, 1) := by decide +kernel
theorem dX11_meets_204 : decode cX11_meets 204 = .ok (.putfield 259, 3) := by decide +kernel
theorem dX11_meets_207 : decode cX11_meets 207 = .ok (.iconst 0, 1) := by decide +kernel
theorem dX11_meets_208 : decode cX11_meets 208 = .ok (.istore 9, 2) := by decide +kernel
theorem dX11_meets_210 : decode cX11_meets 210 = .ok (.iload 9, 2) := by decide +kernel
theorem dX11_meets_212 : decode cX11_meets 212 = .ok (.iload_n 3, 1) := by decide +kernel
theorem dX11_meets_213 : decode cX11_meets 213 = .ok (.if_icmp .ge 23, 3) := by decide +kernel
theorem dX11_meets_216 : decode cX11_meets 216 = .ok (.aload_n 0, 1) := by decide +kernel
theorem dX11_meets_217 : decode cX11_meets 217 = .ok (.getfield 32, 3) := by decide +kernel
theorem dX11_meets_220 : decode cX11_meets 220 = .ok (.iload 9, 2) := by decide +kernel
theorem dX11_meets_222 : decode cX11_meets 222 = .ok (.aload_n 0, 1) := by decide +kernel
theorem dX11_meets_223 : decode cX11_meets 223 = .ok (.getfield 29, 3) := by decide +kernel
theorem dX11_meets_226 : decode cX11_meets 226 = .ok (.iload 9, 2) := by decide +kernel
theorem dX11_meets_228 : decode cX11_meets 228 = .ok (.iaload, 1) := by decide +kernel
theorem dX11_meets_229 : decode cX11_meets 229 = .ok (.iastore, 1) := by decide +kernel
theorem dX11_meets_230 : decode cX11_meets 230 = .ok (.iinc 9 1, 3) := by decide +kernel
theorem dX11_meets_233 : decode cX11_meets 233 = .ok (.goto (-23), 3) := by decide +kernel
theorem dX11_meets_236 : decode cX11_meets 236 = .ok (.return_, 1) := by decide +kernel
theorem dX11_walks_0 : decode cX11_walks 0 = .ok (.iload_n 3, 1) := by decide +kernel
theorem dX11_walks_1 : decode cX11_walks 1 = .ok (.aload_n 0, 1) := by decide +kernel
theorem dX11_walks_2 : decode cX11_walks 2 = .ok (.getfield 7, 3) := by decide +kernel
theorem dX11_walks_5 : decode cX11_walks 5 = .ok (.iconst 2, 1) := by decide +kernel
theorem dX11_walks_6 : decode cX11_walks 6 = .ok (.iaload, 1) := by decide +kernel
theorem dX11_walks_7 : decode cX11_walks 7 = .ok (.if_icmp .ne 12, 3) := by decide +kernel
theorem dX11_walks_10 : decode cX11_walks 10 = .ok (.aload_n 0, 1) := by decide +kernel
theorem dX11_walks_11 : decode cX11_walks 11 = .ok (.iload_n 1, 1) := by decide +kernel
theorem dX11_walks_12 : decode cX11_walks 12 = .ok (.iload_n 2, 1) := by decide +kernel
theorem dX11_walks_13 : decode cX11_walks 13 = .ok (.iload 5, 2) := by decide +kernel
theorem dX11_walks_15 : decode cX11_walks 15 = .ok (.invokevirtual 262, 3) := by decide +kernel
theorem dX11_walks_18 : decode cX11_walks 18 = .ok (.return_, 1) := by decide +kernel
theorem dX11_walks_19 : decode cX11_walks 19 = .ok (.iconst 0, 1) := by decide +kernel
theorem dX11_walks_20 : decode cX11_walks 20 = .ok (.istore 6, 2) := by decide +kernel
theorem dX11_walks_22 : decode cX11_walks 22 = .ok (.iload 6, 2) := by decide +kernel
theorem dX11_walks_24 : decode cX11_walks 24 = .ok (.aload_n 0, 1) := by decide +kernel
theorem dX11_walks_25 : decode cX11_walks 25 = .ok (.getfield 7, 3) := by decide +kernel
theorem dX11_walks_28 : decode cX11_walks 28 = .ok (.iconst 4, 1) := by decide +kernel
theorem dX11_walks_29 : decode cX11_walks 29 = .ok (.iaload, 1) := by decide +kernel
theorem dX11_walks_30 : decode cX11_walks 30 = .ok (.if_icmp .ge 76, 3) := by decide +kernel
theorem dX11_walks_33 : decode cX11_walks 33 = .ok (.aload_n 0, 1) := by decide +kernel
theorem dX11_walks_34 : decode cX11_walks 34 = .ok (.iload 6, 2) := by decide +kernel
theorem dX11_walks_36 : decode cX11_walks 36 = .ok (.iconst 0, 1) := by decide +kernel
theorem dX11_walks_37 : decode cX11_walks 37 = .ok (.invokevirtual 190, 3) := by decide +kernel
theorem dX11_walks_40 : decode cX11_walks 40 = .ok (.iload_n 3, 1) := by decide +kernel
theorem dX11_walks_41 : decode cX11_walks 41 = .ok (.if_icmp .ne 59, 3) := by decide +kernel
theorem dX11_walks_44 : decode cX11_walks 44 = .ok (.iload 4, 2) := by decide +kernel
theorem dX11_walks_46 : decode cX11_walks 46 = .ok (.aload_n 0, 1) := by decide +kernel
theorem dX11_walks_47 : decode cX11_walks 47 = .ok (.iload 6, 2) := by decide +kernel
theorem dX11_walks_49 : decode cX11_walks 49 = .ok (.iconst 1, 1) := by decide +kernel
theorem dX11_walks_50 : decode cX11_walks 50 = .ok (.invokevirtual 190, 3) := by decide +kernel
theorem dX11_walks_53 : decode cX11_walks 53 = .ok (.invokestatic 59, 3) := by decide +kernel
theorem dX11_walks_56 : decode cX11_walks 56 = .ok (.ifCond .eq 6, 3) := by decide +kernel
theorem dX11_walks_59 : decode cX11_walks 59 = .ok (.goto 41, 3) := by decide +kernel
theorem dX11_walks_62 : decode cX11_walks 62 = .ok (.aload_n 0, 1) := by decide +kernel
theorem dX11_walks_63 : decode cX11_walks 63 = .ok (.getfield 29, 3) := by decide +kernel
theorem dX11_walks_66 : decode cX11_walks 66 = .ok (.iload 5, 2) := by decide +kernel
theorem dX11_walks_68 : decode cX11_walks 68 = .ok (.iload 6, 2) := by decide +kernel
theorem dX11_walks_70 : decode cX11_walks 70 = .ok (.iastore, 1) := by decide +kernel
theorem dX11_walks_71 : decode cX11_walks 71 = .ok (.aload_n 0, 1) := by decide +kernel
theorem dX11_walks_72 : decode cX11_walks 72 = .ok (.iload_n 1, 1) := by decide +kernel
theorem dX11_walks_73 : decode cX11_walks 73 = .ok (.iload_n 2, 1) := by decide +kernel
theorem dX11_walks_74 : decode cX11_walks 74 = .ok (.aload_n 0, 1) := by decide +kernel
theorem dX11_walks_75 : decode cX11_walks 75 = .ok (.iload 6, 2) := by decide +kernel
theorem dX11_walks_77 : decode cX11_walks 77 = .ok (.iconst 1, 1) := by decide +kernel
theorem dX11_walks_78 : decode cX11_walks 78 = .ok (.invokevirtual 190, 3) := by decide +kernel
theorem dX11_walks_81 : decode cX11_walks 81 = .ok (.iload 4, 2) := by decide +kernel
theorem dX11_walks_83 : decode cX11_walks 83 = .ok (.iconst 1, 1) := by decide +kernel
theorem dX11_walks_84 : decode cX11_walks 84 = .ok (.aload_n 0, 1) := by decide +kernel
theorem dX11_walks_85 : decode cX11_walks 85 = .ok (.iload 6, 2) := by decide +kernel
theorem dX11_walks_87 : decode cX11_walks 87 = .ok (.iconst 1, 1) := by decide +kernel
theorem dX11_walks_88 : decode cX11_walks 88 = .ok (.invokevirtual 190, 3) := by decide +kernel
theorem dX11_walks_91 : decode cX11_walks 91 = .ok (.ishl, 1) := by decide +kernel
theorem dX11_walks_92 : decode cX11_walks 92 = .ok (.ior, 1) := by decide +kernel
theorem dX11_walks_93 : decode cX11_walks 93 = .ok (.iload 5, 2) := by decide +kernel
theorem dX11_walks_95 : decode cX11_walks 95 = .ok (.iconst 1, 1) := by decide +kernel
theorem dX11_walks_96 : decode cX11_walks 96 = .ok (.iadd, 1) := by decide +kernel
theorem dX11_walks_97 : decode cX11_walks 97 = .ok (.invokevirtual 265, 3) := by decide +kernel
theorem dX11_walks_100 : decode cX11_walks 100 = .ok (.iinc 6 1, 3) := by decide +kernel
theorem dX11_walks_103 : decode cX11_walks 103 = .ok (.goto (-81), 3) := by decide +kernel
theorem dX11_walks_106 : decode cX11_walks 106 = .ok (.return_, 1) := by decide +kernel
theorem dX11_walksAll_0 : decode cX11_walksAll 0 = .ok (.aload_n 0, 1) := by decide +kernel
theorem dX11_walksAll_1 : decode cX11_walksAll 1 = .ok (.iconst 0, 1) := by decide +kernel
theorem dX11_walksAll_2 : decode cX11_walksAll 2 = .ok (.putfield 247, 3) := by decide +kernel
theorem dX11_walksAll_5 : decode cX11_walksAll 5 = .ok (.aload_n 0, 1) := by decide +kernel
theorem dX11_walksAll_6 : decode cX11_walksAll 6 = .ok (.iconst 0, 1) := by decide +kernel
theorem dX11_walksAll_7 : decode cX11_walksAll 7 = .ok (.putfield 259, 3) := by decide +kernel
theorem dX11_walksAll_10 : decode cX11_walksAll 10 = .ok (.aload_n 0, 1) := by decide +kernel
theorem dX11_walksAll_11 : decode cX11_walksAll 11 = .ok (.iload_n 1, 1) := by decide +kernel
theorem dX11_walksAll_12 : decode cX11_walksAll 12 = .ok (.iload_n 2, 1) := by decide +kernel
theorem dX11_walksAll_13 : decode cX11_walksAll 13 = .ok (.aload_n 0, 1) := by decide +kernel
theorem dX11_walksAll_14 : decode cX11_walksAll 14 = .ok (.getfield 7, 3) := by decide +kernel
theorem dX11_walksAll_17 : decode cX11_walksAll 17 = .ok (.iconst 1, 1) := by decide +kernel
theorem dX11_walksAll_18 : decode cX11_walksAll 18 = .ok (.iaload, 1) := by decide +kernel
theorem dX11_walksAll_19 : decode cX11_walksAll 19 = .ok (.iconst 1, 1) := by decide +kernel
theorem dX11_walksAll_20 : decode cX11_walksAll 20 = .ok (.aload_n 0, 1) := by decide +kernel
theorem dX11_walksAll_21 : decode cX11_walksAll 21 = .ok (.getfield 7, 3) := by decide +kernel
theorem dX11_walksAll_24 : decode cX11_walksAll 24 = .ok (.iconst 1, 1) := by decide +kernel
theorem dX11_walksAll_25 : decode cX11_walksAll 25 = .ok (.iaload, 1) := by decide +kernel
theorem dX11_walksAll_26 : decode cX11_walksAll 26 = .ok (.ishl, 1) := by decide +kernel
theorem dX11_walksAll_27 : decode cX11_walksAll 27 = .ok (.iconst 0, 1) := by decide +kernel
theorem dX11_walksAll_28 : decode cX11_walksAll 28 = .ok (.invokevirtual 265, 3) := by decide +kernel
theorem dX11_walksAll_31 : decode cX11_walksAll 31 = .ok (.aload_n 0, 1) := by decide +kernel
theorem dX11_walksAll_32 : decode cX11_walksAll 32 = .ok (.getfield 247, 3) := by decide +kernel
theorem dX11_walksAll_35 : decode cX11_walksAll 35 = .ok (.ireturn, 1) := by decide +kernel
theorem dX11_bestOf_0 : decode cX11_bestOf 0 = .ok (.aload_n 0, 1) := by decide +kernel
theorem dX11_bestOf_1 : decode cX11_bestOf 1 = .ok (.iload_n 2, 1) := by decide +kernel
theorem dX11_bestOf_2 : decode cX11_bestOf 2 = .ok (.iconst 0, 1) := by decide +kernel
theorem dX11_bestOf_3 : decode cX11_bestOf 3 = .ok (.iconst 5, 1) := by decide +kernel
theorem dX11_bestOf_4 : decode cX11_bestOf 4 = .ok (.invokestatic 72, 3) := by decide +kernel
theorem dX11_bestOf_7 : decode cX11_bestOf 7 = .ok (.ifCond .ne 7, 3) := by decide +kernel
theorem dX11_bestOf_10 : decode cX11_bestOf 10 = .ok (.iconst 1, 1) := by decide +kernel
theorem dX11_bestOf_11 : decode cX11_bestOf 11 = .ok (.goto 17, 3) := by decide +kernel
theorem dX11_bestOf_14 : decode cX11_bestOf 14 = .ok (.aload_n 0, 1) := by decide +kernel
theorem dX11_bestOf_15 : decode cX11_bestOf 15 = .ok (.iload_n 1, 1) := by decide +kernel
theorem dX11_bestOf_16 : decode cX11_bestOf 16 = .ok (.iconst 0, 1) := by decide +kernel
theorem dX11_bestOf_17 : decode cX11_bestOf 17 = .ok (.invokevirtual 183, 3) := by decide +kernel
theorem dX11_bestOf_20 : decode cX11_bestOf 20 = .ok (.ifCond .ne 7, 3) := by decide +kernel
theorem dX11_bestOf_23 : decode cX11_bestOf 23 = .ok (.iconst 2, 1) := by decide +kernel
theorem dX11_bestOf_24 : decode cX11_bestOf 24 = .ok (.goto 4, 3) := by decide +kernel
theorem dX11_bestOf_27 : decode cX11_bestOf 27 = .ok (.iconst 0, 1) := by decide +kernel
theorem dX11_bestOf_28 : decode cX11_bestOf 28 = .ok (.putfield 56, 3) := by decide +kernel
theorem dX11_bestOf_31 : decode cX11_bestOf 31 = .ok (.aload_n 0, 1) := by decide +kernel
theorem dX11_bestOf_32 : decode cX11_bestOf 32 = .ok (.getfield 56, 3) := by decide +kernel
theorem dX11_bestOf_35 : decode cX11_bestOf 35 = .ok (.ifCond .le 5, 3) := by decide +kernel
theorem dX11_bestOf_38 : decode cX11_bestOf 38 = .ok (.iconst 0, 1) := by decide +kernel
theorem dX11_bestOf_39 : decode cX11_bestOf 39 = .ok (.ireturn, 1) := by decide +kernel
theorem dX11_bestOf_40 : decode cX11_bestOf 40 = .ok (.iconst 0, 1) := by decide +kernel
theorem dX11_bestOf_41 : decode cX11_bestOf 41 = .ok (.istore_n 3, 1) := by decide +kernel
theorem dX11_bestOf_42 : decode cX11_bestOf 42 = .ok (.iconst 0, 1) := by decide +kernel
theorem dX11_bestOf_43 : decode cX11_bestOf 43 = .ok (.istore 4, 2) := by decide +kernel
theorem dX11_bestOf_45 : decode cX11_bestOf 45 = .ok (.iload 4, 2) := by decide +kernel
theorem dX11_bestOf_47 : decode cX11_bestOf 47 = .ok (.aload_n 0, 1) := by decide +kernel
theorem dX11_bestOf_48 : decode cX11_bestOf 48 = .ok (.getfield 259, 3) := by decide +kernel
theorem dX11_bestOf_51 : decode cX11_bestOf 51 = .ok (.if_icmp .ge 21, 3) := by decide +kernel
theorem dX11_bestOf_54 : decode cX11_bestOf 54 = .ok (.iload_n 3, 1) := by decide +kernel
theorem dX11_bestOf_55 : decode cX11_bestOf 55 = .ok (.iconst 1, 1) := by decide +kernel
theorem dX11_bestOf_56 : decode cX11_bestOf 56 = .ok (.aload_n 0, 1) := by decide +kernel
theorem dX11_bestOf_57 : decode cX11_bestOf 57 = .ok (.getfield 32, 3) := by decide +kernel
theorem dX11_bestOf_60 : decode cX11_bestOf 60 = .ok (.iload 4, 2) := by decide +kernel
theorem dX11_bestOf_62 : decode cX11_bestOf 62 = .ok (.iaload, 1) := by decide +kernel
theorem dX11_bestOf_63 : decode cX11_bestOf 63 = .ok (.ishl, 1) := by decide +kernel
theorem dX11_bestOf_64 : decode cX11_bestOf 64 = .ok (.ior, 1) := by decide +kernel
theorem dX11_bestOf_65 : decode cX11_bestOf 65 = .ok (.istore_n 3, 1) := by decide +kernel
theorem dX11_bestOf_66 : decode cX11_bestOf 66 = .ok (.iinc 4 1, 3) := by decide +kernel
theorem dX11_bestOf_69 : decode cX11_bestOf 69 = .ok (.goto (-24), 3) := by decide +kernel
theorem dX11_bestOf_72 : decode cX11_bestOf 72 = .ok (.aload_n 0, 1) := by decide +kernel
theorem dX11_bestOf_73 : decode cX11_bestOf 73 = .ok (.iload_n 3, 1) := by decide +kernel
theorem dX11_bestOf_74 : decode cX11_bestOf 74 = .ok (.iload_n 2, 1) := by decide +kernel
theorem dX11_bestOf_75 : decode cX11_bestOf 75 = .ok (.invokevirtual 244, 3) := by decide +kernel
theorem dX11_bestOf_78 : decode cX11_bestOf 78 = .ok (.ireturn, 1) := by decide +kernel
theorem dX11_robust_0 : decode cX11_robust 0 = .ok (.aload_n 0, 1) := by decide +kernel
theorem dX11_robust_1 : decode cX11_robust 1 = .ok (.iconst 2, 1) := by decide +kernel
theorem dX11_robust_2 : decode cX11_robust 2 = .ok (.iload_n 1, 1) := by decide +kernel
theorem dX11_robust_3 : decode cX11_robust 3 = .ok (.invokevirtual 269, 3) := by decide +kernel
theorem dX11_robust_6 : decode cX11_robust 6 = .ok (.ireturn, 1) := by decide +kernel
theorem dX11_calm_0 : decode cX11_calm 0 = .ok (.aload_n 0, 1) := by decide +kernel
theorem dX11_calm_1 : decode cX11_calm 1 = .ok (.iconst 3, 1) := by decide +kernel
theorem dX11_calm_2 : decode cX11_calm 2 = .ok (.iload_n 1, 1) := by decide +kernel
theorem dX11_calm_3 : decode cX11_calm 3 = .ok (.invokevirtual 269, 3) := by decide +kernel
theorem dX11_calm_6 : decode cX11_calm 6 = .ok (.ireturn, 1) := by decide +kernel
theorem dX11_bestArc_0 : decode cX11_bestArc 0 = .ok (.aload_n 0, 1) := by decide +kernel
theorem dX11_bestArc_1 : decode cX11_bestArc 1 = .ok (.iload_n 1, 1) := by decide +kernel
theorem dX11_bestArc_2 : decode cX11_bestArc 2 = .ok (.ifCond .eq 7, 3) := by decide +kernel
theorem dX11_bestArc_5 : decode cX11_bestArc 5 = .ok (.iconst 3, 1) := by decide +kernel
theorem dX11_bestArc_6 : decode cX11_bestArc 6 = .ok (.goto 4, 3) := by decide +kernel
theorem dX11_bestArc_9 : decode cX11_bestArc 9 = .ok (.iconst 2, 1) := by decide +kernel
theorem dX11_bestArc_10 : decode cX11_bestArc 10 = .ok (.iconst 0, 1) := by decide +kernel
theorem dX11_bestArc_11 : decode cX11_bestArc 11 = .ok (.invokevirtual 183, 3) := by decide +kernel
theorem dX11_bestArc_14 : decode cX11_bestArc 14 = .ok (.ifCond .ne 7, 3) := by decide +kernel
theorem dX11_bestArc_17 : decode cX11_bestArc 17 = .ok (.iconst 0, 1) := by decide +kernel
theorem dX11_bestArc_18 : decode cX11_bestArc 18 = .ok (.goto 7, 3) := by decide +kernel
theorem dX11_bestArc_21 : decode cX11_bestArc 21 = .ok (.aload_n 0, 1) := by decide +kernel
theorem dX11_bestArc_22 : decode cX11_bestArc 22 = .ok (.getfield 259, 3) := by decide +kernel
theorem dX11_bestArc_25 : decode cX11_bestArc 25 = .ok (.istore_n 3, 1) := by decide +kernel
theorem dX11_bestArc_26 : decode cX11_bestArc 26 = .ok (.aload_n 0, 1) := by decide +kernel
theorem dX11_bestArc_27 : decode cX11_bestArc 27 = .ok (.iload_n 2, 1) := by decide +kernel
theorem dX11_bestArc_28 : decode cX11_bestArc 28 = .ok (.iconst 0, 1) := by decide +kernel
theorem dX11_bestArc_29 : decode cX11_bestArc 29 = .ok (.iload_n 3, 1) := by decide +kernel
theorem dX11_bestArc_30 : decode cX11_bestArc 30 = .ok (.iconst 1, 1) := by decide +kernel
theorem dX11_bestArc_31 : decode cX11_bestArc 31 = .ok (.isub, 1) := by decide +kernel
theorem dX11_bestArc_32 : decode cX11_bestArc 32 = .ok (.invokestatic 72, 3) := by decide +kernel
theorem dX11_bestArc_35 : decode cX11_bestArc 35 = .ok (.ifCond .eq 7, 3) := by decide +kernel
theorem dX11_bestArc_38 : decode cX11_bestArc 38 = .ok (.iconst 0, 1) := by decide +kernel
theorem dX11_bestArc_39 : decode cX11_bestArc 39 = .ok (.goto 4, 3) := by decide +kernel
theorem dX11_bestArc_42 : decode cX11_bestArc 42 = .ok (.iconst 1, 1) := by decide +kernel
theorem dX11_bestArc_43 : decode cX11_bestArc 43 = .ok (.putfield 56, 3) := by decide +kernel
theorem dX11_bestArc_46 : decode cX11_bestArc 46 = .ok (.aload_n 0, 1) := by decide +kernel
theorem dX11_bestArc_47 : decode cX11_bestArc 47 = .ok (.getfield 56, 3) := by decide +kernel
theorem dX11_bestArc_50 : decode cX11_bestArc 50 = .ok (.ifCond .le 7, 3) := by decide +kernel
theorem dX11_bestArc_53 : decode cX11_bestArc 53 = .ok (.iconst 0, 1) := by decide +kernel
theorem dX11_bestArc_54 : decode cX11_bestArc 54 = .ok (.goto 9, 3) := by decide +kernel
theorem dX11_bestArc_57 : decode cX11_bestArc 57 = .ok (.aload_n 0, 1) := by decide +kernel
theorem dX11_bestArc_58 : decode cX11_bestArc 58 = .ok (.getfield 32, 3) := by decide +kernel
theorem dX11_bestArc_61 : decode cX11_bestArc 61 = .ok (.iload_n 2, 1) := by decide +kernel
theorem dX11_bestArc_62 : decode cX11_bestArc 62 = .ok (.iaload, 1) := by decide +kernel
theorem dX11_bestArc_63 : decode cX11_bestArc 63 = .ok (.ireturn, 1) := by decide +kernel
theorem dX11_within_0 : decode cX11_within 0 = .ok (.aload_n 0, 1) := by decide +kernel
theorem dX11_within_1 : decode cX11_within 1 = .ok (.iconst 0, 1) := by decide +kernel
theorem dX11_within_2 : decode cX11_within 2 = .ok (.putfield 56, 3) := by decide +kernel
theorem dX11_within_5 : decode cX11_within 5 = .ok (.aload_n 0, 1) := by decide +kernel
theorem dX11_within_6 : decode cX11_within 6 = .ok (.iconst 1, 1) := by decide +kernel
theorem dX11_within_7 : decode cX11_within 7 = .ok (.iload_n 1, 1) := by decide +kernel
theorem dX11_within_8 : decode cX11_within 8 = .ok (.invokevirtual 183, 3) := by decide +kernel
theorem dX11_within_11 : decode cX11_within 11 = .ok (.ireturn, 1) := by decide +kernel
theorem dX11_gameOf_0 : decode cX11_gameOf 0 = .ok (.bipush 7, 2) := by decide +kernel
theorem dX11_gameOf_2 : decode cX11_gameOf 2 = .ok (.aload_n 0, 1) := by decide +kernel
theorem dX11_gameOf_3 : decode cX11_gameOf 3 = .ok (.iload_n 2, 1) := by decide +kernel
theorem dX11_gameOf_4 : decode cX11_gameOf 4 = .ok (.iconst 1, 1) := by decide +kernel
theorem dX11_gameOf_5 : decode cX11_gameOf 5 = .ok (.invokevirtual 190, 3) := by decide +kernel
theorem dX11_gameOf_8 : decode cX11_gameOf 8 = .ok (.imul, 1) := by decide +kernel
theorem dX11_gameOf_9 : decode cX11_gameOf 9 = .ok (.iload_n 3, 1) := by decide +kernel
theorem dX11_gameOf_10 : decode cX11_gameOf 10 = .ok (.iadd, 1) := by decide +kernel
theorem dX11_gameOf_11 : decode cX11_gameOf 11 = .ok (.istore 4, 2) := by decide +kernel
theorem dX11_gameOf_13 : decode cX11_gameOf 13 = .ok (.aload_n 1, 1) := by decide +kernel
theorem dX11_gameOf_14 : decode cX11_gameOf 14 = .ok (.iload 4, 2) := by decide +kernel
theorem dX11_gameOf_16 : decode cX11_gameOf 16 = .ok (.iaload, 1) := by decide +kernel
theorem dX11_gameOf_17 : decode cX11_gameOf 17 = .ok (.ldc 215, 2) := by decide +kernel
theorem dX11_gameOf_19 : decode cX11_gameOf 19 = .ok (.if_icmp .lt 6, 3) := by decide +kernel
theorem dX11_gameOf_22 : decode cX11_gameOf 22 = .ok (.ldc 215, 2) := by decide +kernel
theorem dX11_gameOf_24 : decode cX11_gameOf 24 = .ok (.ireturn, 1) := by decide +kernel
theorem dX11_gameOf_25 : decode cX11_gameOf 25 = .ok (.aload_n 0, 1) := by decide +kernel
theorem dX11_gameOf_26 : decode cX11_gameOf 26 = .ok (.iload_n 2, 1) := by decide +kernel
theorem dX11_gameOf_27 : decode cX11_gameOf 27 = .ok (.iconst 2, 1) := by decide +kernel
theorem dX11_gameOf_28 : decode cX11_gameOf 28 = .ok (.invokevirtual 190, 3) := by decide +kernel
theorem dX11_gameOf_31 : decode cX11_gameOf 31 = .ok (.aload_n 1, 1) := by decide +kernel
theorem dX11_gameOf_32 : decode cX11_gameOf 32 = .ok (.iload 4, 2) := by decide +kernel
theorem dX11_gameOf_34 : decode cX11_gameOf 34 = .ok (.iaload, 1) := by decide +kernel
theorem dX11_gameOf_35 : decode cX11_gameOf 35 = .ok (.iadd, 1) := by decide +kernel
theorem dX11_gameOf_36 : decode cX11_gameOf 36 = .ok (.istore 5, 2) := by decide +kernel
theorem dX11_gameOf_38 : decode cX11_gameOf 38 = .ok (.iload_n 3, 1) := by decide +kernel
theorem dX11_gameOf_39 : decode cX11_gameOf 39 = .ok (.ifCond .ne 7, 3) := by decide +kernel
theorem dX11_gameOf_42 : decode cX11_gameOf 42 = .ok (.iconst 0, 1) := by decide +kernel
theorem dX11_gameOf_43 : decode cX11_gameOf 43 = .ok (.goto 23, 3) := by decide +kernel
theorem dX11_gameOf_46 : decode cX11_gameOf 46 = .ok (.aload_n 0, 1) := by decide +kernel
theorem dX11_gameOf_47 : decode cX11_gameOf 47 = .ok (.iload_n 2, 1) := by decide +kernel
theorem dX11_gameOf_48 : decode cX11_gameOf 48 = .ok (.iconst 2, 1) := by decide +kernel
theorem dX11_gameOf_49 : decode cX11_gameOf 49 = .ok (.invokevirtual 190, 3) := by decide +kernel
theorem dX11_gameOf_52 : decode cX11_gameOf 52 = .ok (.aload_n 0, 1) := by decide +kernel
theorem dX11_gameOf_53 : decode cX11_gameOf 53 = .ok (.iload_n 2, 1) := by decide +kernel
theorem dX11_gameOf_54 : decode cX11_gameOf 54 = .ok (.iconst 3, 1) := by decide +kernel
theorem dX11_gameOf_55 : decode cX11_gameOf 55 = .ok (.invokevirtual 190, 3) := by decide +kernel
theorem dX11_gameOf_58 : decode cX11_gameOf 58 = .ok (.iadd, 1) := by decide +kernel
theorem dX11_gameOf_59 : decode cX11_gameOf 59 = .ok (.aload_n 1, 1) := by decide +kernel
theorem dX11_gameOf_60 : decode cX11_gameOf 60 = .ok (.iload 4, 2) := by decide +kernel
theorem dX11_gameOf_62 : decode cX11_gameOf 62 = .ok (.iconst 1, 1) := by decide +kernel
theorem dX11_gameOf_63 : decode cX11_gameOf 63 = .ok (.isub, 1) := by decide +kernel
theorem dX11_gameOf_64 : decode cX11_gameOf 64 = .ok (.iaload, 1) := by decide +kernel
theorem dX11_gameOf_65 : decode cX11_gameOf 65 = .ok (.iadd, 1) := by decide +kernel
theorem dX11_gameOf_66 : decode cX11_gameOf 66 = .ok (.istore 6, 2) := by decide +kernel
theorem dX11_gameOf_68 : decode cX11_gameOf 68 = .ok (.iload 5, 2) := by decide +kernel
theorem dX11_gameOf_70 : decode cX11_gameOf 70 = .ok (.iload 6, 2) := by decide +kernel
theorem dX11_gameOf_72 : decode cX11_gameOf 72 = .ok (.if_icmp .le 8, 3) := by decide +kernel
theorem dX11_gameOf_75 : decode cX11_gameOf 75 = .ok (.iload 5, 2) := by decide +kernel
theorem dX11_gameOf_77 : decode cX11_gameOf 77 = .ok (.goto 5, 3) := by decide +kernel
theorem dX11_gameOf_80 : decode cX11_gameOf 80 = .ok (.iload 6, 2) := by decide +kernel
theorem dX11_gameOf_82 : decode cX11_gameOf 82 = .ok (.ireturn, 1) := by decide +kernel
theorem dX11_bestBy_0 : decode cX11_bestBy 0 = .ok (.iconst (-1), 1) := by decide +kernel
theorem dX11_bestBy_1 : decode cX11_bestBy 1 = .ok (.istore 4, 2) := by decide +kernel
theorem dX11_bestBy_3 : decode cX11_bestBy 3 = .ok (.iconst 0, 1) := by decide +kernel
theorem dX11_bestBy_4 : decode cX11_bestBy 4 = .ok (.istore 5, 2) := by decide +kernel
theorem dX11_bestBy_6 : decode cX11_bestBy 6 = .ok (.iload 5, 2) := by decide +kernel
theorem dX11_bestBy_8 : decode cX11_bestBy 8 = .ok (.aload_n 0, 1) := by decide +kernel
theorem dX11_bestBy_9 : decode cX11_bestBy 9 = .ok (.getfield 7, 3) := by decide +kernel
theorem dX11_bestBy_12 : decode cX11_bestBy 12 = .ok (.iconst 4, 1) := by decide +kernel
theorem dX11_bestBy_13 : decode cX11_bestBy 13 = .ok (.iaload, 1) := by decide +kernel
theorem dX11_bestBy_14 : decode cX11_bestBy 14 = .ok (.if_icmp .ge 65, 3) := by decide +kernel
theorem dX11_bestBy_17 : decode cX11_bestBy 17 = .ok (.aload_n 0, 1) := by decide +kernel
theorem dX11_bestBy_18 : decode cX11_bestBy 18 = .ok (.iload 5, 2) := by decide +kernel
theorem dX11_bestBy_20 : decode cX11_bestBy 20 = .ok (.iconst 0, 1) := by decide +kernel
theorem dX11_bestBy_21 : decode cX11_bestBy 21 = .ok (.invokevirtual 190, 3) := by decide +kernel
theorem dX11_bestBy_24 : decode cX11_bestBy 24 = .ok (.iload_n 2, 1) := by decide +kernel
theorem dX11_bestBy_25 : decode cX11_bestBy 25 = .ok (.if_icmp .ne 48, 3) := by decide +kernel
theorem dX11_bestBy_28 : decode cX11_bestBy 28 = .ok (.aload_n 0, 1) := by decide +kernel
theorem dX11_bestBy_29 : decode cX11_bestBy 29 = .ok (.aload_n 1, 1) := by decide +kernel
theorem dX11_bestBy_30 : decode cX11_bestBy 30 = .ok (.iload 5, 2) := by decide +kernel
theorem dX11_bestBy_32 : decode cX11_bestBy 32 = .ok (.iload_n 3, 1) := by decide +kernel
theorem dX11_bestBy_33 : decode cX11_bestBy 33 = .ok (.invokevirtual 272, 3) := by decide +kernel
theorem dX11_bestBy_36 : decode cX11_bestBy 36 = .ok (.ldc 215, 2) := by decide +kernel
theorem dX11_bestBy_38 : decode cX11_bestBy 38 = .ok (.if_icmp .lt 6, 3) := by decide +kernel
theorem dX11_bestBy_41 : decode cX11_bestBy 41 = .ok (.goto 32, 3) := by decide +kernel
theorem dX11_bestBy_44 : decode cX11_bestBy 44 = .ok (.iload 4, 2) := by decide +kernel
theorem dX11_bestBy_46 : decode cX11_bestBy 46 = .ok (.iconst (-1), 1) := by decide +kernel
theorem dX11_bestBy_47 : decode cX11_bestBy 47 = .ok (.if_icmp .eq 22, 3) := by decide +kernel
theorem dX11_bestBy_50 : decode cX11_bestBy 50 = .ok (.aload_n 0, 1) := by decide +kernel
theorem dX11_bestBy_51 : decode cX11_bestBy 51 = .ok (.aload_n 1, 1) := by decide +kernel
theorem dX11_bestBy_52 : decode cX11_bestBy 52 = .ok (.iload 5, 2) := by decide +kernel
theorem dX11_bestBy_54 : decode cX11_bestBy 54 = .ok (.iload_n 3, 1) := by decide +kernel
theorem dX11_bestBy_55 : decode cX11_bestBy 55 = .ok (.invokevirtual 272, 3) := by decide +kernel
theorem dX11_bestBy_58 : decode cX11_bestBy 58 = .ok (.aload_n 0, 1) := by decide +kernel
theorem dX11_bestBy_59 : decode cX11_bestBy 59 = .ok (.aload_n 1, 1) := by decide +kernel
theorem dX11_bestBy_60 : decode cX11_bestBy 60 = .ok (.iload 4, 2) := by decide +kernel
theorem dX11_bestBy_62 : decode cX11_bestBy 62 = .ok (.iload_n 3, 1) := by decide +kernel
theorem dX11_bestBy_63 : decode cX11_bestBy 63 = .ok (.invokevirtual 272, 3) := by decide +kernel
theorem dX11_bestBy_66 : decode cX11_bestBy 66 = .ok (.if_icmp .ge 7, 3) := by decide +kernel
theorem dX11_bestBy_69 : decode cX11_bestBy 69 = .ok (.iload 5, 2) := by decide +kernel
theorem dX11_bestBy_71 : decode cX11_bestBy 71 = .ok (.istore 4, 2) := by decide +kernel
theorem dX11_bestBy_73 : decode cX11_bestBy 73 = .ok (.iinc 5 1, 3) := by decide +kernel
theorem dX11_bestBy_76 : decode cX11_bestBy 76 = .ok (.goto (-70), 3) := by decide +kernel
theorem dX11_bestBy_79 : decode cX11_bestBy 79 = .ok (.iload 4, 2) := by decide +kernel
theorem dX11_bestBy_81 : decode cX11_bestBy 81 = .ok (.ireturn, 1) := by decide +kernel
theorem dX11_plays_0 : decode cX11_plays 0 = .ok (.iconst 0, 1) := by decide +kernel
theorem dX11_plays_1 : decode cX11_plays 1 = .ok (.istore_n 1, 1) := by decide +kernel
theorem dX11_plays_2 : decode cX11_plays 2 = .ok (.iload_n 1, 1) := by decide +kernel
theorem dX11_plays_3 : decode cX11_plays 3 = .ok (.bipush 56, 2) := by decide +kernel
theorem dX11_plays_5 : decode cX11_plays 5 = .ok (.if_icmp .ge 34, 3) := by decide +kernel
theorem dX11_plays_8 : decode cX11_plays 8 = .ok (.aload_n 0, 1) := by decide +kernel
theorem dX11_plays_9 : decode cX11_plays 9 = .ok (.getfield 35, 3) := by decide +kernel
theorem dX11_plays_12 : decode cX11_plays 12 = .ok (.iload_n 1, 1) := by decide +kernel
theorem dX11_plays_13 : decode cX11_plays 13 = .ok (.iload_n 1, 1) := by decide +kernel
theorem dX11_plays_14 : decode cX11_plays 14 = .ok (.bipush 7, 2) := by decide +kernel
theorem dX11_plays_16 : decode cX11_plays 16 = .ok (.idiv, 1) := by decide +kernel
theorem dX11_plays_17 : decode cX11_plays 17 = .ok (.aload_n 0, 1) := by decide +kernel
theorem dX11_plays_18 : decode cX11_plays 18 = .ok (.getfield 7, 3) := by decide +kernel
theorem dX11_plays_21 : decode cX11_plays 21 = .ok (.iconst 2, 1) := by decide +kernel
theorem dX11_plays_22 : decode cX11_plays 22 = .ok (.iaload, 1) := by decide +kernel
theorem dX11_plays_23 : decode cX11_plays 23 = .ok (.if_icmp .ne 7, 3) := by decide +kernel
theorem dX11_plays_26 : decode cX11_plays 26 = .ok (.iconst 0, 1) := by decide +kernel
theorem dX11_plays_27 : decode cX11_plays 27 = .ok (.goto 5, 3) := by decide +kernel
theorem dX11_plays_30 : decode cX11_plays 30 = .ok (.ldc 215, 2) := by decide +kernel
theorem dX11_plays_32 : decode cX11_plays 32 = .ok (.iastore, 1) := by decide +kernel
theorem dX11_plays_33 : decode cX11_plays 33 = .ok (.iinc 1 1, 3) := by decide +kernel
theorem dX11_plays_36 : decode cX11_plays 36 = .ok (.goto (-34), 3) := by decide +kernel
theorem dX11_plays_39 : decode cX11_plays 39 = .ok (.iconst 0, 1) := by decide +kernel
theorem dX11_plays_40 : decode cX11_plays 40 = .ok (.istore_n 1, 1) := by decide +kernel
theorem dX11_plays_41 : decode cX11_plays 41 = .ok (.iload_n 1, 1) := by decide +kernel
theorem dX11_plays_42 : decode cX11_plays 42 = .ok (.bipush 64, 2) := by decide +kernel
theorem dX11_plays_44 : decode cX11_plays 44 = .ok (.if_icmp .ge 118, 3) := by decide +kernel
theorem dX11_plays_47 : decode cX11_plays 47 = .ok (.iconst 0, 1) := by decide +kernel
theorem dX11_plays_48 : decode cX11_plays 48 = .ok (.istore_n 2, 1) := by decide +kernel
theorem dX11_plays_49 : decode cX11_plays 49 = .ok (.iload_n 2, 1) := by decide +kernel
theorem dX11_plays_50 : decode cX11_plays 50 = .ok (.bipush 56, 2) := by decide +kernel
theorem dX11_plays_52 : decode cX11_plays 52 = .ok (.if_icmp .ge 21, 3) := by decide +kernel
theorem dX11_plays_55 : decode cX11_plays 55 = .ok (.aload_n 0, 1) := by decide +kernel
theorem dX11_plays_56 : decode cX11_plays 56 = .ok (.getfield 38, 3) := by decide +kernel
theorem dX11_plays_59 : decode cX11_plays 59 = .ok (.iload_n 2, 1) := by decide +kernel
theorem dX11_plays_60 : decode cX11_plays 60 = .ok (.aload_n 0, 1) := by decide +kernel
theorem dX11_plays_61 : decode cX11_plays 61 = .ok (.getfield 35, 3) := by decide +kernel
theorem dX11_plays_64 : decode cX11_plays 64 = .ok (.iload_n 2, 1) := by decide +kernel
theorem dX11_plays_65 : decode cX11_plays 65 = .ok (.iaload, 1) := by decide +kernel
theorem dX11_plays_66 : decode cX11_plays 66 = .ok (.iastore, 1) := by decide +kernel
theorem dX11_plays_67 : decode cX11_plays 67 = .ok (.iinc 2 1, 3) := by decide +kernel
theorem dX11_plays_70 : decode cX11_plays 70 = .ok (.goto (-21), 3) := by decide +kernel
theorem dX11_plays_73 : decode cX11_plays 73 = .ok (.iconst 0, 1) := by decide +kernel
theorem dX11_plays_74 : decode cX11_plays 74 = .ok (.istore_n 2, 1) := by decide +kernel
theorem dX11_plays_75 : decode cX11_plays 75 = .ok (.iload_n 2, 1) := by decide +kernel
theorem dX11_plays_76 : decode cX11_plays 76 = .ok (.bipush 7, 2) := by decide +kernel
theorem dX11_plays_78 : decode cX11_plays 78 = .ok (.aload_n 0, 1) := by decide +kernel
theorem dX11_plays_79 : decode cX11_plays 79 = .ok (.getfield 7, 3) := by decide +kernel
theorem dX11_plays_82 : decode cX11_plays 82 = .ok (.iconst 0, 1) := by decide +kernel
theorem dX11_plays_83 : decode cX11_plays 83 = .ok (.iaload, 1) := by decide +kernel
theorem dX11_plays_84 : decode cX11_plays 84 = .ok (.imul, 1) := by decide +kernel
theorem dX11_plays_85 : decode cX11_plays 85 = .ok (.if_icmp .ge 71, 3) := by decide +kernel
theorem dX11_plays_88 : decode cX11_plays 88 = .ok (.iload_n 2, 1) := by decide +kernel
theorem dX11_plays_89 : decode cX11_plays 89 = .ok (.bipush 7, 2) := by decide +kernel
theorem dX11_plays_91 : decode cX11_plays 91 = .ok (.idiv, 1) := by decide +kernel
theorem dX11_plays_92 : decode cX11_plays 92 = .ok (.aload_n 0, 1) := by decide +kernel
theorem dX11_plays_93 : decode cX11_plays 93 = .ok (.getfield 7, 3) := by decide +kernel
theorem dX11_plays_96 : decode cX11_plays 96 = .ok (.iconst 2, 1) := by decide +kernel
theorem dX11_plays_97 : decode cX11_plays 97 = .ok (.iaload, 1) := by decide +kernel
theorem dX11_plays_98 : decode cX11_plays 98 = .ok (.if_icmp .ne 6, 3) := by decide +kernel
theorem dX11_plays_101 : decode cX11_plays 101 = .ok (.goto 49, 3) := by decide +kernel
theorem dX11_plays_104 : decode cX11_plays 104 = .ok (.aload_n 0, 1) := by decide +kernel
theorem dX11_plays_105 : decode cX11_plays 105 = .ok (.aload_n 0, 1) := by decide +kernel
theorem dX11_plays_106 : decode cX11_plays 106 = .ok (.getfield 38, 3) := by decide +kernel
theorem dX11_plays_109 : decode cX11_plays 109 = .ok (.iload_n 2, 1) := by decide +kernel
theorem dX11_plays_110 : decode cX11_plays 110 = .ok (.bipush 7, 2) := by decide +kernel
theorem dX11_plays_112 : decode cX11_plays 112 = .ok (.idiv, 1) := by decide +kernel
theorem dX11_plays_113 : decode cX11_plays 113 = .ok (.iload_n 2, 1) := by decide +kernel
theorem dX11_plays_114 : decode cX11_plays 114 = .ok (.bipush 7, 2) := by decide +kernel
theorem dX11_plays_116 : decode cX11_plays 116 = .ok (.irem, 1) := by decide +kernel
theorem dX11_plays_117 : decode cX11_plays 117 = .ok (.invokevirtual 275, 3) := by decide +kernel
theorem dX11_plays_120 : decode cX11_plays 120 = .ok (.istore_n 3, 1) := by decide +kernel
theorem dX11_plays_121 : decode cX11_plays 121 = .ok (.aload_n 0, 1) := by decide +kernel
theorem dX11_plays_122 : decode cX11_plays 122 = .ok (.getfield 35, 3) := by decide +kernel
theorem dX11_plays_125 : decode cX11_plays 125 = .ok (.iload_n 2, 1) := by decide +kernel
theorem dX11_plays_126 : decode cX11_plays 126 = .ok (.iload_n 3, 1) := by decide +kernel
theorem dX11_plays_127 : decode cX11_plays 127 = .ok (.iconst (-1), 1) := by decide +kernel
theorem dX11_plays_128 : decode cX11_plays 128 = .ok (.if_icmp .ne 8, 3) := by decide +kernel
theorem dX11_plays_131 : decode cX11_plays 131 = .ok (.ldc 215, 2) := by decide +kernel
theorem dX11_plays_133 : decode cX11_plays 133 = .ok (.goto 16, 3) := by decide +kernel
theorem dX11_plays_136 : decode cX11_plays 136 = .ok (.aload_n 0, 1) := by decide +kernel
theorem dX11_plays_137 : decode cX11_plays 137 = .ok (.aload_n 0, 1) := by decide +kernel
theorem dX11_plays_138 : decode cX11_plays 138 = .ok (.getfield 38, 3) := by decide +kernel
theorem dX11_plays_141 : decode cX11_plays 141 = .ok (.iload_n 3, 1) := by decide +kernel
theorem dX11_plays_142 : decode cX11_plays 142 = .ok (.iload_n 2, 1) := by decide +kernel
theorem dX11_plays_143 : decode cX11_plays 143 = .ok (.bipush 7, 2) := by decide +kernel
theorem dX11_plays_145 : decode cX11_plays 145 = .ok (.irem, 1) := by decide +kernel
theorem dX11_plays_146 : decode cX11_plays 146 = .ok (.invokevirtual 272, 3) := by decide +kernel
theorem dX11_plays_149 : decode cX11_plays 149 = .ok (.iastore, 1) := by decide +kernel
theorem dX11_plays_150 : decode cX11_plays 150 = .ok (.iinc 2 1, 3) := by decide +kernel
theorem dX11_plays_153 : decode cX11_plays 153 = .ok (.goto (-78), 3) := by decide +kernel
theorem dX11_plays_156 : decode cX11_plays 156 = .ok (.iinc 1 1, 3) := by decide +kernel
theorem dX11_plays_159 : decode cX11_plays 159 = .ok (.goto (-118), 3) := by decide +kernel
theorem dX11_plays_162 : decode cX11_plays 162 = .ok (.return_, 1) := by decide +kernel
theorem dX11_valueOf_0 : decode cX11_valueOf 0 = .ok (.aload_n 0, 1) := by decide +kernel
theorem dX11_valueOf_1 : decode cX11_valueOf 1 = .ok (.getfield 35, 3) := by decide +kernel
theorem dX11_valueOf_4 : decode cX11_valueOf 4 = .ok (.bipush 7, 2) := by decide +kernel
theorem dX11_valueOf_6 : decode cX11_valueOf 6 = .ok (.iload_n 1, 1) := by decide +kernel
theorem dX11_valueOf_7 : decode cX11_valueOf 7 = .ok (.imul, 1) := by decide +kernel
theorem dX11_valueOf_8 : decode cX11_valueOf 8 = .ok (.iload_n 2, 1) := by decide +kernel
theorem dX11_valueOf_9 : decode cX11_valueOf 9 = .ok (.iadd, 1) := by decide +kernel
theorem dX11_valueOf_10 : decode cX11_valueOf 10 = .ok (.iaload, 1) := by decide +kernel
theorem dX11_valueOf_11 : decode cX11_valueOf 11 = .ok (.ldc 215, 2) := by decide +kernel
theorem dX11_valueOf_13 : decode cX11_valueOf 13 = .ok (.if_icmp .lt 7, 3) := by decide +kernel
theorem dX11_valueOf_16 : decode cX11_valueOf 16 = .ok (.iconst (-1), 1) := by decide +kernel
theorem dX11_valueOf_17 : decode cX11_valueOf 17 = .ok (.goto 14, 3) := by decide +kernel
theorem dX11_valueOf_20 : decode cX11_valueOf 20 = .ok (.aload_n 0, 1) := by decide +kernel
theorem dX11_valueOf_21 : decode cX11_valueOf 21 = .ok (.getfield 35, 3) := by decide +kernel
theorem dX11_valueOf_24 : decode cX11_valueOf 24 = .ok (.bipush 7, 2) := by decide +kernel
theorem dX11_valueOf_26 : decode cX11_valueOf 26 = .ok (.iload_n 1, 1) := by decide +kernel
theorem dX11_valueOf_27 : decode cX11_valueOf 27 = .ok (.imul, 1) := by decide +kernel
theorem dX11_valueOf_28 : decode cX11_valueOf 28 = .ok (.iload_n 2, 1) := by decide +kernel
theorem dX11_valueOf_29 : decode cX11_valueOf 29 = .ok (.iadd, 1) := by decide +kernel
theorem dX11_valueOf_30 : decode cX11_valueOf 30 = .ok (.iaload, 1) := by decide +kernel
theorem dX11_valueOf_31 : decode cX11_valueOf 31 = .ok (.ireturn, 1) := by decide +kernel
theorem dX11_value_0 : decode cX11_value 0 = .ok (.aload_n 0, 1) := by decide +kernel
theorem dX11_value_1 : decode cX11_value 1 = .ok (.aload_n 0, 1) := by decide +kernel
theorem dX11_value_2 : decode cX11_value 2 = .ok (.iload_n 1, 1) := by decide +kernel
theorem dX11_value_3 : decode cX11_value 3 = .ok (.invokevirtual 193, 3) := by decide +kernel
theorem dX11_value_6 : decode cX11_value 6 = .ok (.ifCond .ne 7, 3) := by decide +kernel
theorem dX11_value_9 : decode cX11_value 9 = .ok (.iconst 1, 1) := by decide +kernel
theorem dX11_value_10 : decode cX11_value 10 = .ok (.goto 18, 3) := by decide +kernel
theorem dX11_value_13 : decode cX11_value 13 = .ok (.iload_n 2, 1) := by decide +kernel
theorem dX11_value_14 : decode cX11_value 14 = .ok (.iconst 0, 1) := by decide +kernel
theorem dX11_value_15 : decode cX11_value 15 = .ok (.bipush 6, 2) := by decide +kernel
theorem dX11_value_17 : decode cX11_value 17 = .ok (.invokestatic 72, 3) := by decide +kernel
theorem dX11_value_20 : decode cX11_value 20 = .ok (.ifCond .eq 7, 3) := by decide +kernel
theorem dX11_value_23 : decode cX11_value 23 = .ok (.iconst 0, 1) := by decide +kernel
theorem dX11_value_24 : decode cX11_value 24 = .ok (.goto 4, 3) := by decide +kernel
theorem dX11_value_27 : decode cX11_value 27 = .ok (.iconst 2, 1) := by decide +kernel
theorem dX11_value_28 : decode cX11_value 28 = .ok (.putfield 56, 3) := by decide +kernel
theorem dX11_value_31 : decode cX11_value 31 = .ok (.aload_n 0, 1) := by decide +kernel
theorem dX11_value_32 : decode cX11_value 32 = .ok (.getfield 56, 3) := by decide +kernel
theorem dX11_value_35 : decode cX11_value 35 = .ok (.ifCond .le 5, 3) := by decide +kernel
theorem dX11_value_38 : decode cX11_value 38 = .ok (.iconst 0, 1) := by decide +kernel
theorem dX11_value_39 : decode cX11_value 39 = .ok (.ireturn, 1) := by decide +kernel
theorem dX11_value_40 : decode cX11_value 40 = .ok (.aload_n 0, 1) := by decide +kernel
theorem dX11_value_41 : decode cX11_value 41 = .ok (.invokevirtual 278, 3) := by decide +kernel
theorem dX11_value_44 : decode cX11_value 44 = .ok (.aload_n 0, 1) := by decide +kernel
theorem dX11_value_45 : decode cX11_value 45 = .ok (.iload_n 1, 1) := by decide +kernel
theorem dX11_value_46 : decode cX11_value 46 = .ok (.iload_n 2, 1) := by decide +kernel
theorem dX11_value_47 : decode cX11_value 47 = .ok (.invokevirtual 281, 3) := by decide +kernel
theorem dX11_value_50 : decode cX11_value 50 = .ok (.ireturn, 1) := by decide +kernel
theorem dX11_bestNext_0 : decode cX11_bestNext 0 = .ok (.aload_n 0, 1) := by decide +kernel
theorem dX11_bestNext_1 : decode cX11_bestNext 1 = .ok (.aload_n 0, 1) := by decide +kernel
theorem dX11_bestNext_2 : decode cX11_bestNext 2 = .ok (.iload_n 1, 1) := by decide +kernel
theorem dX11_bestNext_3 : decode cX11_bestNext 3 = .ok (.invokevirtual 193, 3) := by decide +kernel
theorem dX11_bestNext_6 : decode cX11_bestNext 6 = .ok (.ifCond .ne 7, 3) := by decide +kernel
theorem dX11_bestNext_9 : decode cX11_bestNext 9 = .ok (.iconst 1, 1) := by decide +kernel
theorem dX11_bestNext_10 : decode cX11_bestNext 10 = .ok (.goto 18, 3) := by decide +kernel
theorem dX11_bestNext_13 : decode cX11_bestNext 13 = .ok (.iload_n 2, 1) := by decide +kernel
theorem dX11_bestNext_14 : decode cX11_bestNext 14 = .ok (.iconst 0, 1) := by decide +kernel
theorem dX11_bestNext_15 : decode cX11_bestNext 15 = .ok (.bipush 6, 2) := by decide +kernel
theorem dX11_bestNext_17 : decode cX11_bestNext 17 = .ok (.invokestatic 72, 3) := by decide +kernel
theorem dX11_bestNext_20 : decode cX11_bestNext 20 = .ok (.ifCond .eq 7, 3) := by decide +kernel
theorem dX11_bestNext_23 : decode cX11_bestNext 23 = .ok (.iconst 0, 1) := by decide +kernel
theorem dX11_bestNext_24 : decode cX11_bestNext 24 = .ok (.goto 4, 3) := by decide +kernel
theorem dX11_bestNext_27 : decode cX11_bestNext 27 = .ok (.iconst 2, 1) := by decide +kernel
theorem dX11_bestNext_28 : decode cX11_bestNext 28 = .ok (.putfield 56, 3) := by decide +kernel
theorem dX11_bestNext_31 : decode cX11_bestNext 31 = .ok (.aload_n 0, 1) := by decide +kernel
theorem dX11_bestNext_32 : decode cX11_bestNext 32 = .ok (.getfield 56, 3) := by decide +kernel
theorem dX11_bestNext_35 : decode cX11_bestNext 35 = .ok (.ifCond .le 5, 3) := by decide +kernel
theorem dX11_bestNext_38 : decode cX11_bestNext 38 = .ok (.iconst 0, 1) := by decide +kernel
theorem dX11_bestNext_39 : decode cX11_bestNext 39 = .ok (.ireturn, 1) := by decide +kernel
theorem dX11_bestNext_40 : decode cX11_bestNext 40 = .ok (.aload_n 0, 1) := by decide +kernel
theorem dX11_bestNext_41 : decode cX11_bestNext 41 = .ok (.invokevirtual 278, 3) := by decide +kernel
theorem dX11_bestNext_44 : decode cX11_bestNext 44 = .ok (.iload_n 1, 1) := by decide +kernel
theorem dX11_bestNext_45 : decode cX11_bestNext 45 = .ok (.aload_n 0, 1) := by decide +kernel
theorem dX11_bestNext_46 : decode cX11_bestNext 46 = .ok (.getfield 7, 3) := by decide +kernel
theorem dX11_bestNext_49 : decode cX11_bestNext 49 = .ok (.iconst 2, 1) := by decide +kernel
theorem dX11_bestNext_50 : decode cX11_bestNext 50 = .ok (.iaload, 1) := by decide +kernel
theorem dX11_bestNext_51 : decode cX11_bestNext 51 = .ok (.if_icmp .ne 7, 3) := by decide +kernel
theorem dX11_bestNext_54 : decode cX11_bestNext 54 = .ok (.iconst (-1), 1) := by decide +kernel
theorem dX11_bestNext_55 : decode cX11_bestNext 55 = .ok (.goto 13, 3) := by decide +kernel
theorem dX11_bestNext_58 : decode cX11_bestNext 58 = .ok (.aload_n 0, 1) := by decide +kernel
theorem dX11_bestNext_59 : decode cX11_bestNext 59 = .ok (.aload_n 0, 1) := by decide +kernel
theorem dX11_bestNext_60 : decode cX11_bestNext 60 = .ok (.getfield 35, 3) := by decide +kernel
theorem dX11_bestNext_63 : decode cX11_bestNext 63 = .ok (.iload_n 1, 1) := by decide +kernel
theorem dX11_bestNext_64 : decode cX11_bestNext 64 = .ok (.iload_n 2, 1) := by decide +kernel
theorem dX11_bestNext_65 : decode cX11_bestNext 65 = .ok (.invokevirtual 275, 3) := by decide +kernel
theorem dX11_bestNext_68 : decode cX11_bestNext 68 = .ok (.ireturn, 1) := by decide +kernel
theorem dX11_canStep_0 : decode cX11_canStep 0 = .ok (.aload_n 0, 1) := by decide +kernel
theorem dX11_canStep_1 : decode cX11_canStep 1 = .ok (.getfield 7, 3) := by decide +kernel
theorem dX11_canStep_4 : decode cX11_canStep 4 = .ok (.bipush 126, 2) := by decide +kernel
theorem dX11_canStep_6 : decode cX11_canStep 6 = .ok (.iaload, 1) := by decide +kernel
theorem dX11_canStep_7 : decode cX11_canStep 7 = .ok (.aload_n 0, 1) := by decide +kernel
theorem dX11_canStep_8 : decode cX11_canStep 8 = .ok (.getfield 7, 3) := by decide +kernel
theorem dX11_canStep_11 : decode cX11_canStep 11 = .ok (.iconst 2, 1) := by decide +kernel
theorem dX11_canStep_12 : decode cX11_canStep 12 = .ok (.iaload, 1) := by decide +kernel
theorem dX11_canStep_13 : decode cX11_canStep 13 = .ok (.if_icmp .eq 51, 3) := by decide +kernel
theorem dX11_canStep_16 : decode cX11_canStep 16 = .ok (.aload_n 0, 1) := by decide +kernel
theorem dX11_canStep_17 : decode cX11_canStep 17 = .ok (.getfield 7, 3) := by decide +kernel
theorem dX11_canStep_20 : decode cX11_canStep 20 = .ok (.sipush 129, 3) := by decide +kernel
theorem dX11_canStep_23 : decode cX11_canStep 23 = .ok (.iaload, 1) := by decide +kernel
theorem dX11_canStep_24 : decode cX11_canStep 24 = .ok (.bipush 20, 2) := by decide +kernel
theorem dX11_canStep_26 : decode cX11_canStep 26 = .ok (.if_icmp .ge 38, 3) := by decide +kernel
theorem dX11_canStep_29 : decode cX11_canStep 29 = .ok (.aload_n 0, 1) := by decide +kernel
theorem dX11_canStep_30 : decode cX11_canStep 30 = .ok (.iload_n 1, 1) := by decide +kernel
theorem dX11_canStep_31 : decode cX11_canStep 31 = .ok (.iconst 0, 1) := by decide +kernel
theorem dX11_canStep_32 : decode cX11_canStep 32 = .ok (.invokevirtual 190, 3) := by decide +kernel
theorem dX11_canStep_35 : decode cX11_canStep 35 = .ok (.aload_n 0, 1) := by decide +kernel
theorem dX11_canStep_36 : decode cX11_canStep 36 = .ok (.getfield 7, 3) := by decide +kernel
theorem dX11_canStep_39 : decode cX11_canStep 39 = .ok (.bipush 126, 2) := by decide +kernel
theorem dX11_canStep_41 : decode cX11_canStep 41 = .ok (.iaload, 1) := by decide +kernel
theorem dX11_canStep_42 : decode cX11_canStep 42 = .ok (.if_icmp .ne 22, 3) := by decide +kernel
theorem dX11_canStep_45 : decode cX11_canStep 45 = .ok (.iload_n 2, 1) := by decide +kernel
theorem dX11_canStep_46 : decode cX11_canStep 46 = .ok (.ifCond .eq 14, 3) := by decide +kernel
theorem dX11_canStep_49 : decode cX11_canStep 49 = .ok (.aload_n 0, 1) := by decide +kernel
theorem dX11_canStep_50 : decode cX11_canStep 50 = .ok (.getfield 7, 3) := by decide +kernel
theorem dX11_canStep_53 : decode cX11_canStep 53 = .ok (.sipush 128, 3) := by decide +kernel
theorem dX11_canStep_56 : decode cX11_canStep 56 = .ok (.iaload, 1) := by decide +kernel
theorem dX11_canStep_57 : decode cX11_canStep 57 = .ok (.ifCond .le 7, 3) := by decide +kernel
theorem dX11_canStep_60 : decode cX11_canStep 60 = .ok (.iconst 1, 1) := by decide +kernel
theorem dX11_canStep_61 : decode cX11_canStep 61 = .ok (.goto 4, 3) := by decide +kernel
theorem dX11_canStep_64 : decode cX11_canStep 64 = .ok (.iconst 0, 1) := by decide +kernel
theorem dX11_canStep_65 : decode cX11_canStep 65 = .ok (.ireturn, 1) := by decide +kernel
theorem dX11_step_0 : decode cX11_step 0 = .ok (.aload_n 0, 1) := by decide +kernel
theorem dX11_step_1 : decode cX11_step 1 = .ok (.aload_n 0, 1) := by decide +kernel
theorem dX11_step_2 : decode cX11_step 2 = .ok (.iload_n 1, 1) := by decide +kernel
theorem dX11_step_3 : decode cX11_step 3 = .ok (.invokevirtual 187, 3) := by decide +kernel
theorem dX11_step_6 : decode cX11_step 6 = .ok (.ifCond .ne 7, 3) := by decide +kernel
theorem dX11_step_9 : decode cX11_step 9 = .ok (.iconst 1, 1) := by decide +kernel
theorem dX11_step_10 : decode cX11_step 10 = .ok (.goto 17, 3) := by decide +kernel
theorem dX11_step_13 : decode cX11_step 13 = .ok (.aload_n 0, 1) := by decide +kernel
theorem dX11_step_14 : decode cX11_step 14 = .ok (.iload_n 1, 1) := by decide +kernel
theorem dX11_step_15 : decode cX11_step 15 = .ok (.iload_n 2, 1) := by decide +kernel
theorem dX11_step_16 : decode cX11_step 16 = .ok (.invokevirtual 284, 3) := by decide +kernel
theorem dX11_step_19 : decode cX11_step 19 = .ok (.ifCond .eq 7, 3) := by decide +kernel
theorem dX11_step_22 : decode cX11_step 22 = .ok (.iconst 0, 1) := by decide +kernel
theorem dX11_step_23 : decode cX11_step 23 = .ok (.goto 4, 3) := by decide +kernel
theorem dX11_step_26 : decode cX11_step 26 = .ok (.iconst 2, 1) := by decide +kernel
theorem dX11_step_27 : decode cX11_step 27 = .ok (.putfield 56, 3) := by decide +kernel
theorem dX11_step_30 : decode cX11_step 30 = .ok (.aload_n 0, 1) := by decide +kernel
theorem dX11_step_31 : decode cX11_step 31 = .ok (.getfield 56, 3) := by decide +kernel
theorem dX11_step_34 : decode cX11_step 34 = .ok (.ifCond .le 5, 3) := by decide +kernel
theorem dX11_step_37 : decode cX11_step 37 = .ok (.iconst 0, 1) := by decide +kernel
theorem dX11_step_38 : decode cX11_step 38 = .ok (.ireturn, 1) := by decide +kernel
theorem dX11_step_39 : decode cX11_step 39 = .ok (.aload_n 0, 1) := by decide +kernel
theorem dX11_step_40 : decode cX11_step 40 = .ok (.invokevirtual 176, 3) := by decide +kernel
theorem dX11_step_43 : decode cX11_step 43 = .ok (.aload_n 0, 1) := by decide +kernel
theorem dX11_step_44 : decode cX11_step 44 = .ok (.getfield 7, 3) := by decide +kernel
theorem dX11_step_47 : decode cX11_step 47 = .ok (.sipush 130, 3) := by decide +kernel
theorem dX11_step_50 : decode cX11_step 50 = .ok (.aload_n 0, 1) := by decide +kernel
theorem dX11_step_51 : decode cX11_step 51 = .ok (.getfield 7, 3) := by decide +kernel
theorem dX11_step_54 : decode cX11_step 54 = .ok (.sipush 129, 3) := by decide +kernel
theorem dX11_step_57 : decode cX11_step 57 = .ok (.iaload, 1) := by decide +kernel
theorem dX11_step_58 : decode cX11_step 58 = .ok (.iadd, 1) := by decide +kernel
theorem dX11_step_59 : decode cX11_step 59 = .ok (.iload_n 1, 1) := by decide +kernel
theorem dX11_step_60 : decode cX11_step 60 = .ok (.iload_n 2, 1) := by decide +kernel
theorem dX11_step_61 : decode cX11_step 61 = .ok (.ifCond .eq 8, 3) := by decide +kernel
theorem dX11_step_64 : decode cX11_step 64 = .ok (.bipush 100, 2) := by decide +kernel
theorem dX11_step_66 : decode cX11_step 66 = .ok (.goto 4, 3) := by decide +kernel
theorem dX11_step_69 : decode cX11_step 69 = .ok (.iconst 0, 1) := by decide +kernel
theorem dX11_step_70 : decode cX11_step 70 = .ok (.iadd, 1) := by decide +kernel
theorem dX11_step_71 : decode cX11_step 71 = .ok (.iastore, 1) := by decide +kernel
theorem dX11_step_72 : decode cX11_step 72 = .ok (.aload_n 0, 1) := by decide +kernel
theorem dX11_step_73 : decode cX11_step 73 = .ok (.getfield 7, 3) := by decide +kernel
theorem dX11_step_76 : decode cX11_step 76 = .ok (.sipush 129, 3) := by decide +kernel
theorem dX11_step_79 : decode cX11_step 79 = .ok (.dup2, 1) := by decide +kernel
theorem dX11_step_80 : decode cX11_step 80 = .ok (.iaload, 1) := by decide +kernel
theorem dX11_step_81 : decode cX11_step 81 = .ok (.iconst 1, 1) := by decide +kernel
theorem dX11_step_82 : decode cX11_step 82 = .ok (.iadd, 1) := by decide +kernel
theorem dX11_step_83 : decode cX11_step 83 = .ok (.iastore, 1) := by decide +kernel
theorem dX11_step_84 : decode cX11_step 84 = .ok (.aload_n 0, 1) := by decide +kernel
theorem dX11_step_85 : decode cX11_step 85 = .ok (.getfield 7, 3) := by decide +kernel
theorem dX11_step_88 : decode cX11_step 88 = .ok (.bipush 126, 2) := by decide +kernel
theorem dX11_step_90 : decode cX11_step 90 = .ok (.aload_n 0, 1) := by decide +kernel
theorem dX11_step_91 : decode cX11_step 91 = .ok (.iload_n 1, 1) := by decide +kernel
theorem dX11_step_92 : decode cX11_step 92 = .ok (.iconst 1, 1) := by decide +kernel
theorem dX11_step_93 : decode cX11_step 93 = .ok (.invokevirtual 190, 3) := by decide +kernel
theorem dX11_step_96 : decode cX11_step 96 = .ok (.iastore, 1) := by decide +kernel
theorem dX11_step_97 : decode cX11_step 97 = .ok (.aload_n 0, 1) := by decide +kernel
theorem dX11_step_98 : decode cX11_step 98 = .ok (.getfield 7, 3) := by decide +kernel
theorem dX11_step_101 : decode cX11_step 101 = .ok (.bipush 127, 2) := by decide +kernel
theorem dX11_step_103 : decode cX11_step 103 = .ok (.dup2, 1) := by decide +kernel
theorem dX11_step_104 : decode cX11_step 104 = .ok (.iaload, 1) := by decide +kernel
theorem dX11_step_105 : decode cX11_step 105 = .ok (.aload_n 0, 1) := by decide +kernel
theorem dX11_step_106 : decode cX11_step 106 = .ok (.iload_n 1, 1) := by decide +kernel
theorem dX11_step_107 : decode cX11_step 107 = .ok (.iconst 2, 1) := by decide +kernel
theorem dX11_step_108 : decode cX11_step 108 = .ok (.invokevirtual 190, 3) := by decide +kernel
theorem dX11_step_111 : decode cX11_step 111 = .ok (.iload_n 2, 1) := by decide +kernel
theorem dX11_step_112 : decode cX11_step 112 = .ok (.ifCond .eq 12, 3) := by decide +kernel
theorem dX11_step_115 : decode cX11_step 115 = .ok (.aload_n 0, 1) := by decide +kernel
theorem dX11_step_116 : decode cX11_step 116 = .ok (.iload_n 1, 1) := by decide +kernel
theorem dX11_step_117 : decode cX11_step 117 = .ok (.iconst 3, 1) := by decide +kernel
theorem dX11_step_118 : decode cX11_step 118 = .ok (.invokevirtual 190, 3) := by decide +kernel
theorem dX11_step_121 : decode cX11_step 121 = .ok (.goto 4, 3) := by decide +kernel
theorem dX11_step_124 : decode cX11_step 124 = .ok (.iconst 0, 1) := by decide +kernel
theorem dX11_step_125 : decode cX11_step 125 = .ok (.iadd, 1) := by decide +kernel
theorem dX11_step_126 : decode cX11_step 126 = .ok (.iadd, 1) := by decide +kernel
theorem dX11_step_127 : decode cX11_step 127 = .ok (.iastore, 1) := by decide +kernel
theorem dX11_step_128 : decode cX11_step 128 = .ok (.aload_n 0, 1) := by decide +kernel
theorem dX11_step_129 : decode cX11_step 129 = .ok (.getfield 7, 3) := by decide +kernel
theorem dX11_step_132 : decode cX11_step 132 = .ok (.sipush 128, 3) := by decide +kernel
theorem dX11_step_135 : decode cX11_step 135 = .ok (.dup2, 1) := by decide +kernel
theorem dX11_step_136 : decode cX11_step 136 = .ok (.iaload, 1) := by decide +kernel
theorem dX11_step_137 : decode cX11_step 137 = .ok (.iload_n 2, 1) := by decide +kernel
theorem dX11_step_138 : decode cX11_step 138 = .ok (.ifCond .eq 7, 3) := by decide +kernel
theorem dX11_step_141 : decode cX11_step 141 = .ok (.iconst 1, 1) := by decide +kernel
theorem dX11_step_142 : decode cX11_step 142 = .ok (.goto 4, 3) := by decide +kernel
theorem dX11_step_145 : decode cX11_step 145 = .ok (.iconst 0, 1) := by decide +kernel
theorem dX11_step_146 : decode cX11_step 146 = .ok (.isub, 1) := by decide +kernel
theorem dX11_step_147 : decode cX11_step 147 = .ok (.iastore, 1) := by decide +kernel
theorem dX11_step_148 : decode cX11_step 148 = .ok (.aload_n 0, 1) := by decide +kernel
theorem dX11_step_149 : decode cX11_step 149 = .ok (.getfield 7, 3) := by decide +kernel
theorem dX11_step_152 : decode cX11_step 152 = .ok (.bipush 127, 2) := by decide +kernel
theorem dX11_step_154 : decode cX11_step 154 = .ok (.iaload, 1) := by decide +kernel
theorem dX11_step_155 : decode cX11_step 155 = .ok (.ireturn, 1) := by decide +kernel
theorem dX11_restart_0 : decode cX11_restart 0 = .ok (.aload_n 0, 1) := by decide +kernel
theorem dX11_restart_1 : decode cX11_restart 1 = .ok (.iconst 0, 1) := by decide +kernel
theorem dX11_restart_2 : decode cX11_restart 2 = .ok (.putfield 56, 3) := by decide +kernel
theorem dX11_restart_5 : decode cX11_restart 5 = .ok (.aload_n 0, 1) := by decide +kernel
theorem dX11_restart_6 : decode cX11_restart 6 = .ok (.invokevirtual 176, 3) := by decide +kernel
theorem dX11_restart_9 : decode cX11_restart 9 = .ok (.aload_n 0, 1) := by decide +kernel
theorem dX11_restart_10 : decode cX11_restart 10 = .ok (.getfield 7, 3) := by decide +kernel
theorem dX11_restart_13 : decode cX11_restart 13 = .ok (.sipush 129, 3) := by decide +kernel
theorem dX11_restart_16 : decode cX11_restart 16 = .ok (.iaload, 1) := by decide +kernel
theorem dX11_restart_17 : decode cX11_restart 17 = .ok (.istore_n 1, 1) := by decide +kernel
theorem dX11_restart_18 : decode cX11_restart 18 = .ok (.aload_n 0, 1) := by decide +kernel
theorem dX11_restart_19 : decode cX11_restart 19 = .ok (.getfield 7, 3) := by decide +kernel
theorem dX11_restart_22 : decode cX11_restart 22 = .ok (.invokestatic 52, 3) := by decide +kernel
theorem dX11_restart_25 : decode cX11_restart 25 = .ok (.iload_n 1, 1) := by decide +kernel
theorem dX11_restart_26 : decode cX11_restart 26 = .ok (.ireturn, 1) := by decide +kernel
theorem dX11_promise_0 : decode cX11_promise 0 = .ok (.aload_n 0, 1) := by decide +kernel
theorem dX11_promise_1 : decode cX11_promise 1 = .ok (.invokevirtual 278, 3) := by decide +kernel
theorem dX11_promise_4 : decode cX11_promise 4 = .ok (.aload_n 0, 1) := by decide +kernel
theorem dX11_promise_5 : decode cX11_promise 5 = .ok (.aload_n 0, 1) := by decide +kernel
theorem dX11_promise_6 : decode cX11_promise 6 = .ok (.aload_n 0, 1) := by decide +kernel
theorem dX11_promise_7 : decode cX11_promise 7 = .ok (.getfield 7, 3) := by decide +kernel
theorem dX11_promise_10 : decode cX11_promise 10 = .ok (.bipush 126, 2) := by decide +kernel
theorem dX11_promise_12 : decode cX11_promise 12 = .ok (.iaload, 1) := by decide +kernel
theorem dX11_promise_13 : decode cX11_promise 13 = .ok (.aload_n 0, 1) := by decide +kernel
theorem dX11_promise_14 : decode cX11_promise 14 = .ok (.getfield 7, 3) := by decide +kernel
theorem dX11_promise_17 : decode cX11_promise 17 = .ok (.sipush 128, 3) := by decide +kernel
theorem dX11_promise_20 : decode cX11_promise 20 = .ok (.iaload, 1) := by decide +kernel
theorem dX11_promise_21 : decode cX11_promise 21 = .ok (.invokevirtual 281, 3) := by decide +kernel
theorem dX11_promise_24 : decode cX11_promise 24 = .ok (.iconst (-1), 1) := by decide +kernel
theorem dX11_promise_25 : decode cX11_promise 25 = .ok (.if_icmp .ne 7, 3) := by decide +kernel
theorem dX11_promise_28 : decode cX11_promise 28 = .ok (.iconst 1, 1) := by decide +kernel
theorem dX11_promise_29 : decode cX11_promise 29 = .ok (.goto 4, 3) := by decide +kernel
theorem dX11_promise_32 : decode cX11_promise 32 = .ok (.iconst 0, 1) := by decide +kernel
theorem dX11_promise_33 : decode cX11_promise 33 = .ok (.putfield 56, 3) := by decide +kernel
theorem dX11_promise_36 : decode cX11_promise 36 = .ok (.aload_n 0, 1) := by decide +kernel
theorem dX11_promise_37 : decode cX11_promise 37 = .ok (.getfield 56, 3) := by decide +kernel
theorem dX11_promise_40 : decode cX11_promise 40 = .ok (.ifCond .le 7, 3) := by decide +kernel
theorem dX11_promise_43 : decode cX11_promise 43 = .ok (.iconst 0, 1) := by decide +kernel
theorem dX11_promise_44 : decode cX11_promise 44 = .ok (.goto 30, 3) := by decide +kernel
theorem dX11_promise_47 : decode cX11_promise 47 = .ok (.aload_n 0, 1) := by decide +kernel
theorem dX11_promise_48 : decode cX11_promise 48 = .ok (.getfield 7, 3) := by decide +kernel
theorem dX11_promise_51 : decode cX11_promise 51 = .ok (.bipush 127, 2) := by decide +kernel
theorem dX11_promise_53 : decode cX11_promise 53 = .ok (.iaload, 1) := by decide +kernel
theorem dX11_promise_54 : decode cX11_promise 54 = .ok (.aload_n 0, 1) := by decide +kernel
theorem dX11_promise_55 : decode cX11_promise 55 = .ok (.aload_n 0, 1) := by decide +kernel
theorem dX11_promise_56 : decode cX11_promise 56 = .ok (.getfield 7, 3) := by decide +kernel
theorem dX11_promise_59 : decode cX11_promise 59 = .ok (.bipush 126, 2) := by decide +kernel
theorem dX11_promise_61 : decode cX11_promise 61 = .ok (.iaload, 1) := by decide +kernel
theorem dX11_promise_62 : decode cX11_promise 62 = .ok (.aload_n 0, 1) := by decide +kernel
theorem dX11_promise_63 : decode cX11_promise 63 = .ok (.getfield 7, 3) := by decide +kernel
theorem dX11_promise_66 : decode cX11_promise 66 = .ok (.sipush 128, 3) := by decide +kernel
theorem dX11_promise_69 : decode cX11_promise 69 = .ok (.iaload, 1) := by decide +kernel
theorem dX11_promise_70 : decode cX11_promise 70 = .ok (.invokevirtual 281, 3) := by decide +kernel
theorem dX11_promise_73 : decode cX11_promise 73 = .ok (.iadd, 1) := by decide +kernel
theorem dX11_promise_74 : decode cX11_promise 74 = .ok (.ireturn, 1) := by decide +kernel
theorem dX11_leftAhead_0 : decode cX11_leftAhead 0 = .ok (.aload_n 0, 1) := by decide +kernel
theorem dX11_leftAhead_1 : decode cX11_leftAhead 1 = .ok (.getfield 7, 3) := by decide +kernel
theorem dX11_leftAhead_4 : decode cX11_leftAhead 4 = .ok (.iconst 3, 1) := by decide +kernel
theorem dX11_leftAhead_5 : decode cX11_leftAhead 5 = .ok (.iaload, 1) := by decide +kernel
theorem dX11_leftAhead_6 : decode cX11_leftAhead 6 = .ok (.istore_n 2, 1) := by decide +kernel
theorem dX11_leftAhead_7 : decode cX11_leftAhead 7 = .ok (.iconst 0, 1) := by decide +kernel
theorem dX11_leftAhead_8 : decode cX11_leftAhead 8 = .ok (.istore_n 3, 1) := by decide +kernel
theorem dX11_leftAhead_9 : decode cX11_leftAhead 9 = .ok (.iload_n 3, 1) := by decide +kernel
theorem dX11_leftAhead_10 : decode cX11_leftAhead 10 = .ok (.iload_n 1, 1) := by decide +kernel
theorem dX11_leftAhead_11 : decode cX11_leftAhead 11 = .ok (.if_icmp .ge 32, 3) := by decide +kernel
theorem dX11_leftAhead_14 : decode cX11_leftAhead 14 = .ok (.iload_n 2, 1) := by decide +kernel
theorem dX11_leftAhead_15 : decode cX11_leftAhead 15 = .ok (.aload_n 0, 1) := by decide +kernel
theorem dX11_leftAhead_16 : decode cX11_leftAhead 16 = .ok (.getfield 7, 3) := by decide +kernel
theorem dX11_leftAhead_19 : decode cX11_leftAhead 19 = .ok (.sipush 130, 3) := by decide +kernel
theorem dX11_leftAhead_22 : decode cX11_leftAhead 22 = .ok (.iload_n 3, 1) := by decide +kernel
theorem dX11_leftAhead_23 : decode cX11_leftAhead 23 = .ok (.iadd, 1) := by decide +kernel
theorem dX11_leftAhead_24 : decode cX11_leftAhead 24 = .ok (.iaload, 1) := by decide +kernel
theorem dX11_leftAhead_25 : decode cX11_leftAhead 25 = .ok (.bipush 100, 2) := by decide +kernel
theorem dX11_leftAhead_27 : decode cX11_leftAhead 27 = .ok (.if_icmp .lt 7, 3) := by decide +kernel
theorem dX11_leftAhead_30 : decode cX11_leftAhead 30 = .ok (.iconst 1, 1) := by decide +kernel
theorem dX11_leftAhead_31 : decode cX11_leftAhead 31 = .ok (.goto 4, 3) := by decide +kernel
theorem dX11_leftAhead_34 : decode cX11_leftAhead 34 = .ok (.iconst 0, 1) := by decide +kernel
theorem dX11_leftAhead_35 : decode cX11_leftAhead 35 = .ok (.isub, 1) := by decide +kernel
theorem dX11_leftAhead_36 : decode cX11_leftAhead 36 = .ok (.istore_n 2, 1) := by decide +kernel
theorem dX11_leftAhead_37 : decode cX11_leftAhead 37 = .ok (.iinc 3 1, 3) := by decide +kernel
theorem dX11_leftAhead_40 : decode cX11_leftAhead 40 = .ok (.goto (-31), 3) := by decide +kernel
theorem dX11_leftAhead_43 : decode cX11_leftAhead 43 = .ok (.iload_n 2, 1) := by decide +kernel
theorem dX11_leftAhead_44 : decode cX11_leftAhead 44 = .ok (.ireturn, 1) := by decide +kernel
theorem dX11_grief_0 : decode cX11_grief 0 = .ok (.aload_n 0, 1) := by decide +kernel
theorem dX11_grief_1 : decode cX11_grief 1 = .ok (.iload_n 1, 1) := by decide +kernel
theorem dX11_grief_2 : decode cX11_grief 2 = .ok (.iconst 0, 1) := by decide +kernel
theorem dX11_grief_3 : decode cX11_grief 3 = .ok (.aload_n 0, 1) := by decide +kernel
theorem dX11_grief_4 : decode cX11_grief 4 = .ok (.getfield 7, 3) := by decide +kernel
theorem dX11_grief_7 : decode cX11_grief 7 = .ok (.sipush 129, 3) := by decide +kernel
theorem dX11_grief_10 : decode cX11_grief 10 = .ok (.iaload, 1) := by decide +kernel
theorem dX11_grief_11 : decode cX11_grief 11 = .ok (.iconst 1, 1) := by decide +kernel
theorem dX11_grief_12 : decode cX11_grief 12 = .ok (.isub, 1) := by decide +kernel
theorem dX11_grief_13 : decode cX11_grief 13 = .ok (.invokestatic 72, 3) := by decide +kernel
theorem dX11_grief_16 : decode cX11_grief 16 = .ok (.ifCond .eq 7, 3) := by decide +kernel
theorem dX11_grief_19 : decode cX11_grief 19 = .ok (.iconst 0, 1) := by decide +kernel
theorem dX11_grief_20 : decode cX11_grief 20 = .ok (.goto 4, 3) := by decide +kernel
theorem dX11_grief_23 : decode cX11_grief 23 = .ok (.iconst 1, 1) := by decide +kernel
theorem dX11_grief_24 : decode cX11_grief 24 = .ok (.putfield 56, 3) := by decide +kernel
theorem dX11_grief_27 : decode cX11_grief 27 = .ok (.aload_n 0, 1) := by decide +kernel
theorem dX11_grief_28 : decode cX11_grief 28 = .ok (.getfield 56, 3) := by decide +kernel
theorem dX11_grief_31 : decode cX11_grief 31 = .ok (.ifCond .le 5, 3) := by decide +kernel
theorem dX11_grief_34 : decode cX11_grief 34 = .ok (.iconst 0, 1) := by decide +kernel
theorem dX11_grief_35 : decode cX11_grief 35 = .ok (.ireturn, 1) := by decide +kernel
theorem dX11_grief_36 : decode cX11_grief 36 = .ok (.aload_n 0, 1) := by decide +kernel
theorem dX11_grief_37 : decode cX11_grief 37 = .ok (.invokevirtual 278, 3) := by decide +kernel
theorem dX11_grief_40 : decode cX11_grief 40 = .ok (.aload_n 0, 1) := by decide +kernel
theorem dX11_grief_41 : decode cX11_grief 41 = .ok (.getfield 7, 3) := by decide +kernel
theorem dX11_grief_44 : decode cX11_grief 44 = .ok (.sipush 130, 3) := by decide +kernel
theorem dX11_grief_47 : decode cX11_grief 47 = .ok (.iload_n 1, 1) := by decide +kernel
theorem dX11_grief_48 : decode cX11_grief 48 = .ok (.iadd, 1) := by decide +kernel
theorem dX11_grief_49 : decode cX11_grief 49 = .ok (.iaload, 1) := by decide +kernel
theorem dX11_grief_50 : decode cX11_grief 50 = .ok (.bipush 100, 2) := by decide +kernel
theorem dX11_grief_52 : decode cX11_grief 52 = .ok (.irem, 1) := by decide +kernel
theorem dX11_grief_53 : decode cX11_grief 53 = .ok (.istore_n 2, 1) := by decide +kernel
theorem dX11_grief_54 : decode cX11_grief 54 = .ok (.aload_n 0, 1) := by decide +kernel
theorem dX11_grief_55 : decode cX11_grief 55 = .ok (.getfield 7, 3) := by decide +kernel
theorem dX11_grief_58 : decode cX11_grief 58 = .ok (.sipush 130, 3) := by decide +kernel
theorem dX11_grief_61 : decode cX11_grief 61 = .ok (.iload_n 1, 1) := by decide +kernel
theorem dX11_grief_62 : decode cX11_grief 62 = .ok (.iadd, 1) := by decide +kernel
theorem dX11_grief_63 : decode cX11_grief 63 = .ok (.iaload, 1) := by decide +kernel
theorem dX11_grief_64 : decode cX11_grief 64 = .ok (.bipush 100, 2) := by decide +kernel
theorem dX11_grief_66 : decode cX11_grief 66 = .ok (.if_icmp .lt 7, 3) := by decide +kernel
theorem dX11_grief_69 : decode cX11_grief 69 = .ok (.iconst 1, 1) := by decide +kernel
theorem dX11_grief_70 : decode cX11_grief 70 = .ok (.goto 4, 3) := by decide +kernel
theorem dX11_grief_73 : decode cX11_grief 73 = .ok (.iconst 0, 1) := by decide +kernel
theorem dX11_grief_74 : decode cX11_grief 74 = .ok (.istore_n 3, 1) := by decide +kernel
theorem dX11_grief_75 : decode cX11_grief 75 = .ok (.aload_n 0, 1) := by decide +kernel
theorem dX11_grief_76 : decode cX11_grief 76 = .ok (.aload_n 0, 1) := by decide +kernel
theorem dX11_grief_77 : decode cX11_grief 77 = .ok (.iload_n 2, 1) := by decide +kernel
theorem dX11_grief_78 : decode cX11_grief 78 = .ok (.iconst 0, 1) := by decide +kernel
theorem dX11_grief_79 : decode cX11_grief 79 = .ok (.invokevirtual 190, 3) := by decide +kernel
theorem dX11_grief_82 : decode cX11_grief 82 = .ok (.aload_n 0, 1) := by decide +kernel
theorem dX11_grief_83 : decode cX11_grief 83 = .ok (.iload_n 1, 1) := by decide +kernel
theorem dX11_grief_84 : decode cX11_grief 84 = .ok (.invokevirtual 287, 3) := by decide +kernel
theorem dX11_grief_87 : decode cX11_grief 87 = .ok (.invokevirtual 281, 3) := by decide +kernel
theorem dX11_grief_90 : decode cX11_grief 90 = .ok (.istore 4, 2) := by decide +kernel
theorem dX11_grief_92 : decode cX11_grief 92 = .ok (.aload_n 0, 1) := by decide +kernel
theorem dX11_grief_93 : decode cX11_grief 93 = .ok (.aload_n 0, 1) := by decide +kernel
theorem dX11_grief_94 : decode cX11_grief 94 = .ok (.iload_n 2, 1) := by decide +kernel
theorem dX11_grief_95 : decode cX11_grief 95 = .ok (.iconst 1, 1) := by decide +kernel
theorem dX11_grief_96 : decode cX11_grief 96 = .ok (.invokevirtual 190, 3) := by decide +kernel
theorem dX11_grief_99 : decode cX11_grief 99 = .ok (.aload_n 0, 1) := by decide +kernel
theorem dX11_grief_100 : decode cX11_grief 100 = .ok (.iload_n 1, 1) := by decide +kernel
theorem dX11_grief_101 : decode cX11_grief 101 = .ok (.iconst 1, 1) := by decide +kernel
theorem dX11_grief_102 : decode cX11_grief 102 = .ok (.iadd, 1) := by decide +kernel
theorem dX11_grief_103 : decode cX11_grief 103 = .ok (.invokevirtual 287, 3) := by decide +kernel
theorem dX11_grief_106 : decode cX11_grief 106 = .ok (.invokevirtual 281, 3) := by decide +kernel
theorem dX11_grief_109 : decode cX11_grief 109 = .ok (.istore 5, 2) := by decide +kernel
theorem dX11_grief_111 : decode cX11_grief 111 = .ok (.aload_n 0, 1) := by decide +kernel
theorem dX11_grief_112 : decode cX11_grief 112 = .ok (.iload 4, 2) := by decide +kernel
theorem dX11_grief_114 : decode cX11_grief 114 = .ok (.iconst (-1), 1) := by decide +kernel
theorem dX11_grief_115 : decode cX11_grief 115 = .ok (.if_icmp .eq 9, 3) := by decide +kernel
theorem dX11_grief_118 : decode cX11_grief 118 = .ok (.iload 5, 2) := by decide +kernel
theorem dX11_grief_120 : decode cX11_grief 120 = .ok (.iconst (-1), 1) := by decide +kernel
theorem dX11_grief_121 : decode cX11_grief 121 = .ok (.if_icmp .ne 7, 3) := by decide +kernel
theorem dX11_grief_124 : decode cX11_grief 124 = .ok (.iconst 2, 1) := by decide +kernel
theorem dX11_grief_125 : decode cX11_grief 125 = .ok (.goto 4, 3) := by decide +kernel
theorem dX11_grief_128 : decode cX11_grief 128 = .ok (.iconst 0, 1) := by decide +kernel
theorem dX11_grief_129 : decode cX11_grief 129 = .ok (.putfield 56, 3) := by decide +kernel
theorem dX11_grief_132 : decode cX11_grief 132 = .ok (.aload_n 0, 1) := by decide +kernel
theorem dX11_grief_133 : decode cX11_grief 133 = .ok (.getfield 56, 3) := by decide +kernel
theorem dX11_grief_136 : decode cX11_grief 136 = .ok (.ifCond .le 7, 3) := by decide +kernel
theorem dX11_grief_139 : decode cX11_grief 139 = .ok (.iconst 0, 1) := by decide +kernel
theorem dX11_grief_140 : decode cX11_grief 140 = .ok (.goto 30, 3) := by decide +kernel
theorem dX11_grief_143 : decode cX11_grief 143 = .ok (.aload_n 0, 1) := by decide +kernel
theorem dX11_grief_144 : decode cX11_grief 144 = .ok (.iload_n 2, 1) := by decide +kernel
theorem dX11_grief_145 : decode cX11_grief 145 = .ok (.iconst 2, 1) := by decide +kernel
theorem dX11_grief_146 : decode cX11_grief 146 = .ok (.invokevirtual 190, 3) := by decide +kernel
theorem dX11_grief_149 : decode cX11_grief 149 = .ok (.iload_n 3, 1) := by decide +kernel
theorem dX11_grief_150 : decode cX11_grief 150 = .ok (.ifCond .eq 12, 3) := by decide +kernel
theorem dX11_grief_153 : decode cX11_grief 153 = .ok (.aload_n 0, 1) := by decide +kernel
theorem dX11_grief_154 : decode cX11_grief 154 = .ok (.iload_n 2, 1) := by decide +kernel
theorem dX11_grief_155 : decode cX11_grief 155 = .ok (.iconst 3, 1) := by decide +kernel
theorem dX11_grief_156 : decode cX11_grief 156 = .ok (.invokevirtual 190, 3) := by decide +kernel
theorem dX11_grief_159 : decode cX11_grief 159 = .ok (.goto 4, 3) := by decide +kernel
theorem dX11_grief_162 : decode cX11_grief 162 = .ok (.iconst 0, 1) := by decide +kernel
theorem dX11_grief_163 : decode cX11_grief 163 = .ok (.iadd, 1) := by decide +kernel
theorem dX11_grief_164 : decode cX11_grief 164 = .ok (.iload 5, 2) := by decide +kernel
theorem dX11_grief_166 : decode cX11_grief 166 = .ok (.iadd, 1) := by decide +kernel
theorem dX11_grief_167 : decode cX11_grief 167 = .ok (.iload 4, 2) := by decide +kernel
theorem dX11_grief_169 : decode cX11_grief 169 = .ok (.isub, 1) := by decide +kernel
theorem dX11_grief_170 : decode cX11_grief 170 = .ok (.ireturn, 1) := by decide +kernel
theorem dX11_writeRoute_0 : decode cX11_writeRoute 0 = .ok (.aload_n 0, 1) := by decide +kernel
theorem dX11_writeRoute_1 : decode cX11_writeRoute 1 = .ok (.aload_n 0, 1) := by decide +kernel
theorem dX11_writeRoute_2 : decode cX11_writeRoute 2 = .ok (.iload_n 1, 1) := by decide +kernel
theorem dX11_writeRoute_3 : decode cX11_writeRoute 3 = .ok (.invokevirtual 206, 3) := by decide +kernel
theorem dX11_writeRoute_6 : decode cX11_writeRoute 6 = .ok (.ifCond .eq 7, 3) := by decide +kernel
theorem dX11_writeRoute_9 : decode cX11_writeRoute 9 = .ok (.iconst 0, 1) := by decide +kernel
theorem dX11_writeRoute_10 : decode cX11_writeRoute 10 = .ok (.goto 4, 3) := by decide +kernel
theorem dX11_writeRoute_13 : decode cX11_writeRoute 13 = .ok (.iconst 1, 1) := by decide +kernel
theorem dX11_writeRoute_14 : decode cX11_writeRoute 14 = .ok (.putfield 56, 3) := by decide +kernel
theorem dX11_writeRoute_17 : decode cX11_writeRoute 17 = .ok (.aload_n 0, 1) := by decide +kernel
theorem dX11_writeRoute_18 : decode cX11_writeRoute 18 = .ok (.getfield 56, 3) := by decide +kernel
theorem dX11_writeRoute_21 : decode cX11_writeRoute 21 = .ok (.ifCond .le 5, 3) := by decide +kernel
theorem dX11_writeRoute_24 : decode cX11_writeRoute 24 = .ok (.iconst 0, 1) := by decide +kernel
theorem dX11_writeRoute_25 : decode cX11_writeRoute 25 = .ok (.ireturn, 1) := by decide +kernel
theorem dX11_writeRoute_26 : decode cX11_writeRoute 26 = .ok (.aload_n 0, 1) := by decide +kernel
theorem dX11_writeRoute_27 : decode cX11_writeRoute 27 = .ok (.aload_n 0, 1) := by decide +kernel
theorem dX11_writeRoute_28 : decode cX11_writeRoute 28 = .ok (.iload_n 1, 1) := by decide +kernel
theorem dX11_writeRoute_29 : decode cX11_writeRoute 29 = .ok (.invokevirtual 216, 3) := by decide +kernel
theorem dX11_writeRoute_32 : decode cX11_writeRoute 32 = .ok (.invokevirtual 209, 3) := by decide +kernel
theorem dX11_writeRoute_35 : decode cX11_writeRoute 35 = .ok (.istore_n 2, 1) := by decide +kernel
theorem dX11_writeRoute_36 : decode cX11_writeRoute 36 = .ok (.aload_n 0, 1) := by decide +kernel
theorem dX11_writeRoute_37 : decode cX11_writeRoute 37 = .ok (.getfield 41, 3) := by decide +kernel
theorem dX11_writeRoute_40 : decode cX11_writeRoute 40 = .ok (.iconst 0, 1) := by decide +kernel
theorem dX11_writeRoute_41 : decode cX11_writeRoute 41 = .ok (.bipush 48, 2) := by decide +kernel
theorem dX11_writeRoute_43 : decode cX11_writeRoute 43 = .ok (.aload_n 0, 1) := by decide +kernel
theorem dX11_writeRoute_44 : decode cX11_writeRoute 44 = .ok (.getfield 7, 3) := by decide +kernel
theorem dX11_writeRoute_47 : decode cX11_writeRoute 47 = .ok (.iconst 1, 1) := by decide +kernel
theorem dX11_writeRoute_48 : decode cX11_writeRoute 48 = .ok (.iaload, 1) := by decide +kernel
theorem dX11_writeRoute_49 : decode cX11_writeRoute 49 = .ok (.iadd, 1) := by decide +kernel
theorem dX11_writeRoute_50 : decode cX11_writeRoute 50 = .ok (.iastore, 1) := by decide +kernel
theorem dX11_writeRoute_51 : decode cX11_writeRoute 51 = .ok (.aload_n 0, 1) := by decide +kernel
theorem dX11_writeRoute_52 : decode cX11_writeRoute 52 = .ok (.iconst 1, 1) := by decide +kernel
theorem dX11_writeRoute_53 : decode cX11_writeRoute 53 = .ok (.putfield 290, 3) := by decide +kernel
theorem dX11_writeRoute_56 : decode cX11_writeRoute 56 = .ok (.iconst 1, 1) := by decide +kernel
theorem dX11_writeRoute_57 : decode cX11_writeRoute 57 = .ok (.istore_n 3, 1) := by decide +kernel
theorem dX11_writeRoute_58 : decode cX11_writeRoute 58 = .ok (.iload_n 3, 1) := by decide +kernel
theorem dX11_writeRoute_59 : decode cX11_writeRoute 59 = .ok (.aload_n 0, 1) := by decide +kernel
theorem dX11_writeRoute_60 : decode cX11_writeRoute 60 = .ok (.getfield 7, 3) := by decide +kernel
theorem dX11_writeRoute_63 : decode cX11_writeRoute 63 = .ok (.bipush 70, 2) := by decide +kernel
theorem dX11_writeRoute_65 : decode cX11_writeRoute 65 = .ok (.bipush 8, 2) := by decide +kernel
theorem dX11_writeRoute_67 : decode cX11_writeRoute 67 = .ok (.iload_n 1, 1) := by decide +kernel
theorem dX11_writeRoute_68 : decode cX11_writeRoute 68 = .ok (.imul, 1) := by decide +kernel
theorem dX11_writeRoute_69 : decode cX11_writeRoute 69 = .ok (.iadd, 1) := by decide +kernel
theorem dX11_writeRoute_70 : decode cX11_writeRoute 70 = .ok (.iaload, 1) := by decide +kernel
theorem dX11_writeRoute_71 : decode cX11_writeRoute 71 = .ok (.if_icmp .gt 81, 3) := by decide +kernel
theorem dX11_writeRoute_74 : decode cX11_writeRoute 74 = .ok (.aload_n 0, 1) := by decide +kernel
theorem dX11_writeRoute_75 : decode cX11_writeRoute 75 = .ok (.getfield 7, 3) := by decide +kernel
theorem dX11_writeRoute_78 : decode cX11_writeRoute 78 = .ok (.bipush 70, 2) := by decide +kernel
theorem dX11_writeRoute_80 : decode cX11_writeRoute 80 = .ok (.bipush 8, 2) := by decide +kernel
theorem dX11_writeRoute_82 : decode cX11_writeRoute 82 = .ok (.iload_n 1, 1) := by decide +kernel
theorem dX11_writeRoute_83 : decode cX11_writeRoute 83 = .ok (.imul, 1) := by decide +kernel
theorem dX11_writeRoute_84 : decode cX11_writeRoute 84 = .ok (.iadd, 1) := by decide +kernel
theorem dX11_writeRoute_85 : decode cX11_writeRoute 85 = .ok (.iload_n 3, 1) := by decide +kernel
theorem dX11_writeRoute_86 : decode cX11_writeRoute 86 = .ok (.iadd, 1) := by decide +kernel
theorem dX11_writeRoute_87 : decode cX11_writeRoute 87 = .ok (.iaload, 1) := by decide +kernel
theorem dX11_writeRoute_88 : decode cX11_writeRoute 88 = .ok (.istore 4, 2) := by decide +kernel
theorem dX11_writeRoute_90 : decode cX11_writeRoute 90 = .ok (.aload_n 0, 1) := by decide +kernel
theorem dX11_writeRoute_91 : decode cX11_writeRoute 91 = .ok (.getfield 41, 3) := by decide +kernel
theorem dX11_writeRoute_94 : decode cX11_writeRoute 94 = .ok (.aload_n 0, 1) := by decide +kernel
theorem dX11_writeRoute_95 : decode cX11_writeRoute 95 = .ok (.getfield 290, 3) := by decide +kernel
theorem dX11_writeRoute_98 : decode cX11_writeRoute 98 = .ok (.iload_n 2, 1) := by decide +kernel
theorem dX11_writeRoute_99 : decode cX11_writeRoute 99 = .ok (.iload 4, 2) := by decide +kernel
theorem dX11_writeRoute_101 : decode cX11_writeRoute 101 = .ok (.invokestatic 59, 3) := by decide +kernel
theorem dX11_writeRoute_104 : decode cX11_writeRoute 104 = .ok (.ifCond .eq 8, 3) := by decide +kernel
theorem dX11_writeRoute_107 : decode cX11_writeRoute 107 = .ok (.bipush 43, 2) := by decide +kernel
theorem dX11_writeRoute_109 : decode cX11_writeRoute 109 = .ok (.goto 5, 3) := by decide +kernel
theorem dX11_writeRoute_112 : decode cX11_writeRoute 112 = .ok (.bipush 45, 2) := by decide +kernel
theorem dX11_writeRoute_114 : decode cX11_writeRoute 114 = .ok (.iastore, 1) := by decide +kernel
theorem dX11_writeRoute_115 : decode cX11_writeRoute 115 = .ok (.aload_n 0, 1) := by decide +kernel
theorem dX11_writeRoute_116 : decode cX11_writeRoute 116 = .ok (.getfield 41, 3) := by decide +kernel
theorem dX11_writeRoute_119 : decode cX11_writeRoute 119 = .ok (.aload_n 0, 1) := by decide +kernel
theorem dX11_writeRoute_120 : decode cX11_writeRoute 120 = .ok (.getfield 290, 3) := by decide +kernel
theorem dX11_writeRoute_123 : decode cX11_writeRoute 123 = .ok (.iconst 1, 1) := by decide +kernel
theorem dX11_writeRoute_124 : decode cX11_writeRoute 124 = .ok (.iadd, 1) := by decide +kernel
theorem dX11_writeRoute_125 : decode cX11_writeRoute 125 = .ok (.bipush 48, 2) := by decide +kernel
theorem dX11_writeRoute_127 : decode cX11_writeRoute 127 = .ok (.aload_n 0, 1) := by decide +kernel
theorem dX11_writeRoute_128 : decode cX11_writeRoute 128 = .ok (.iload 4, 2) := by decide +kernel
theorem dX11_writeRoute_130 : decode cX11_writeRoute 130 = .ok (.iconst 1, 1) := by decide +kernel
theorem dX11_writeRoute_131 : decode cX11_writeRoute 131 = .ok (.invokevirtual 190, 3) := by decide +kernel
theorem dX11_writeRoute_134 : decode cX11_writeRoute 134 = .ok (.iadd, 1) := by decide +kernel
theorem dX11_writeRoute_135 : decode cX11_writeRoute 135 = .ok (.iastore, 1) := by decide +kernel
theorem dX11_writeRoute_136 : decode cX11_writeRoute 136 = .ok (.aload_n 0, 1) := by decide +kernel
theorem dX11_writeRoute_137 : decode cX11_writeRoute 137 = .ok (.dup, 1) := by decide +kernel
theorem dX11_writeRoute_138 : decode cX11_writeRoute 138 = .ok (.getfield 290, 3) := by decide +kernel
theorem dX11_writeRoute_141 : decode cX11_writeRoute 141 = .ok (.iconst 2, 1) := by decide +kernel
theorem dX11_writeRoute_142 : decode cX11_writeRoute 142 = .ok (.iadd, 1) := by decide +kernel
theorem dX11_writeRoute_143 : decode cX11_writeRoute 143 = .ok (.putfield 290, 3) := by decide +kernel
theorem dX11_writeRoute_146 : decode cX11_writeRoute 146 = .ok (.iinc 3 1, 3) := by decide +kernel
theorem dX11_writeRoute_149 : decode cX11_writeRoute 149 = .ok (.goto (-91), 3) := by decide +kernel
theorem dX11_writeRoute_152 : decode cX11_writeRoute 152 = .ok (.aload_n 0, 1) := by decide +kernel
theorem dX11_writeRoute_153 : decode cX11_writeRoute 153 = .ok (.getfield 290, 3) := by decide +kernel
theorem dX11_writeRoute_156 : decode cX11_writeRoute 156 = .ok (.ireturn, 1) := by decide +kernel
theorem dX11_writtenByte_0 : decode cX11_writtenByte 0 = .ok (.aload_n 0, 1) := by decide +kernel
theorem dX11_writtenByte_1 : decode cX11_writtenByte 1 = .ok (.iload_n 1, 1) := by decide +kernel
theorem dX11_writtenByte_2 : decode cX11_writtenByte 2 = .ok (.iconst 0, 1) := by decide +kernel
theorem dX11_writtenByte_3 : decode cX11_writtenByte 3 = .ok (.aload_n 0, 1) := by decide +kernel
theorem dX11_writtenByte_4 : decode cX11_writtenByte 4 = .ok (.getfield 290, 3) := by decide +kernel
theorem dX11_writtenByte_7 : decode cX11_writtenByte 7 = .ok (.iconst 1, 1) := by decide +kernel
theorem dX11_writtenByte_8 : decode cX11_writtenByte 8 = .ok (.isub, 1) := by decide +kernel
theorem dX11_writtenByte_9 : decode cX11_writtenByte 9 = .ok (.invokestatic 72, 3) := by decide +kernel
theorem dX11_writtenByte_12 : decode cX11_writtenByte 12 = .ok (.ifCond .eq 7, 3) := by decide +kernel
theorem dX11_writtenByte_15 : decode cX11_writtenByte 15 = .ok (.iconst 0, 1) := by decide +kernel
theorem dX11_writtenByte_16 : decode cX11_writtenByte 16 = .ok (.goto 4, 3) := by decide +kernel
theorem dX11_writtenByte_19 : decode cX11_writtenByte 19 = .ok (.iconst 1, 1) := by decide +kernel
theorem dX11_writtenByte_20 : decode cX11_writtenByte 20 = .ok (.putfield 56, 3) := by decide +kernel
theorem dX11_writtenByte_23 : decode cX11_writtenByte 23 = .ok (.aload_n 0, 1) := by decide +kernel
theorem dX11_writtenByte_24 : decode cX11_writtenByte 24 = .ok (.getfield 56, 3) := by decide +kernel
theorem dX11_writtenByte_27 : decode cX11_writtenByte 27 = .ok (.ifCond .le 7, 3) := by decide +kernel
theorem dX11_writtenByte_30 : decode cX11_writtenByte 30 = .ok (.iconst 0, 1) := by decide +kernel
theorem dX11_writtenByte_31 : decode cX11_writtenByte 31 = .ok (.goto 9, 3) := by decide +kernel
theorem dX11_writtenByte_34 : decode cX11_writtenByte 34 = .ok (.aload_n 0, 1) := by decide +kernel
theorem dX11_writtenByte_35 : decode cX11_writtenByte 35 = .ok (.getfield 41, 3) := by decide +kernel
theorem dX11_writtenByte_38 : decode cX11_writtenByte 38 = .ok (.iload_n 1, 1) := by decide +kernel
theorem dX11_writtenByte_39 : decode cX11_writtenByte 39 = .ok (.iaload, 1) := by decide +kernel
theorem dX11_writtenByte_40 : decode cX11_writtenByte 40 = .ok (.ireturn, 1) := by decide +kernel
theorem dJ6_bitCount_0f7a4_0 : decode cJ6_bitCount_0f7a4 0 = .ok (.iload_n 0, 1) := by decide +kernel
theorem dJ6_bitCount_0f7a4_1 : decode cJ6_bitCount_0f7a4 1 = .ok (.iload_n 0, 1) := by decide +kernel
theorem dJ6_bitCount_0f7a4_2 : decode cJ6_bitCount_0f7a4 2 = .ok (.iconst 1, 1) := by decide +kernel
theorem dJ6_bitCount_0f7a4_3 : decode cJ6_bitCount_0f7a4 3 = .ok (.iushr, 1) := by decide +kernel
theorem dJ6_bitCount_0f7a4_4 : decode cJ6_bitCount_0f7a4 4 = .ok (.ldc_w 265, 3) := by decide +kernel
theorem dJ6_bitCount_0f7a4_7 : decode cJ6_bitCount_0f7a4 7 = .ok (.iand, 1) := by decide +kernel
theorem dJ6_bitCount_0f7a4_8 : decode cJ6_bitCount_0f7a4 8 = .ok (.isub, 1) := by decide +kernel
theorem dJ6_bitCount_0f7a4_9 : decode cJ6_bitCount_0f7a4 9 = .ok (.istore_n 0, 1) := by decide +kernel
theorem dJ6_bitCount_0f7a4_10 : decode cJ6_bitCount_0f7a4 10 = .ok (.iload_n 0, 1) := by decide +kernel
theorem dJ6_bitCount_0f7a4_11 : decode cJ6_bitCount_0f7a4 11 = .ok (.ldc_w 266, 3) := by decide +kernel
theorem dJ6_bitCount_0f7a4_14 : decode cJ6_bitCount_0f7a4 14 = .ok (.iand, 1) := by decide +kernel
theorem dJ6_bitCount_0f7a4_15 : decode cJ6_bitCount_0f7a4 15 = .ok (.iload_n 0, 1) := by decide +kernel
theorem dJ6_bitCount_0f7a4_16 : decode cJ6_bitCount_0f7a4 16 = .ok (.iconst 2, 1) := by decide +kernel
theorem dJ6_bitCount_0f7a4_17 : decode cJ6_bitCount_0f7a4 17 = .ok (.iushr, 1) := by decide +kernel
theorem dJ6_bitCount_0f7a4_18 : decode cJ6_bitCount_0f7a4 18 = .ok (.ldc_w 266, 3) := by decide +kernel
theorem dJ6_bitCount_0f7a4_21 : decode cJ6_bitCount_0f7a4 21 = .ok (.iand, 1) := by decide +kernel
theorem dJ6_bitCount_0f7a4_22 : decode cJ6_bitCount_0f7a4 22 = .ok (.iadd, 1) := by decide +kernel
theorem dJ6_bitCount_0f7a4_23 : decode cJ6_bitCount_0f7a4 23 = .ok (.istore_n 0, 1) := by decide +kernel
theorem dJ6_bitCount_0f7a4_24 : decode cJ6_bitCount_0f7a4 24 = .ok (.iload_n 0, 1) := by decide +kernel
theorem dJ6_bitCount_0f7a4_25 : decode cJ6_bitCount_0f7a4 25 = .ok (.iload_n 0, 1) := by decide +kernel
theorem dJ6_bitCount_0f7a4_26 : decode cJ6_bitCount_0f7a4 26 = .ok (.iconst 4, 1) := by decide +kernel
theorem dJ6_bitCount_0f7a4_27 : decode cJ6_bitCount_0f7a4 27 = .ok (.iushr, 1) := by decide +kernel
theorem dJ6_bitCount_0f7a4_28 : decode cJ6_bitCount_0f7a4 28 = .ok (.iadd, 1) := by decide +kernel
theorem dJ6_bitCount_0f7a4_29 : decode cJ6_bitCount_0f7a4 29 = .ok (.ldc_w 267, 3) := by decide +kernel
theorem dJ6_bitCount_0f7a4_32 : decode cJ6_bitCount_0f7a4 32 = .ok (.iand, 1) := by decide +kernel
theorem dJ6_bitCount_0f7a4_33 : decode cJ6_bitCount_0f7a4 33 = .ok (.istore_n 0, 1) := by decide +kernel
theorem dJ6_bitCount_0f7a4_34 : decode cJ6_bitCount_0f7a4 34 = .ok (.iload_n 0, 1) := by decide +kernel
theorem dJ6_bitCount_0f7a4_35 : decode cJ6_bitCount_0f7a4 35 = .ok (.iload_n 0, 1) := by decide +kernel
theorem dJ6_bitCount_0f7a4_36 : decode cJ6_bitCount_0f7a4 36 = .ok (.bipush 8, 2) := by decide +kernel
theorem dJ6_bitCount_0f7a4_38 : decode cJ6_bitCount_0f7a4 38 = .ok (.iushr, 1) := by decide +kernel
theorem dJ6_bitCount_0f7a4_39 : decode cJ6_bitCount_0f7a4 39 = .ok (.iadd, 1) := by decide +kernel
theorem dJ6_bitCount_0f7a4_40 : decode cJ6_bitCount_0f7a4 40 = .ok (.istore_n 0, 1) := by decide +kernel
theorem dJ6_bitCount_0f7a4_41 : decode cJ6_bitCount_0f7a4 41 = .ok (.iload_n 0, 1) := by decide +kernel
theorem dJ6_bitCount_0f7a4_42 : decode cJ6_bitCount_0f7a4 42 = .ok (.iload_n 0, 1) := by decide +kernel
theorem dJ6_bitCount_0f7a4_43 : decode cJ6_bitCount_0f7a4 43 = .ok (.bipush 16, 2) := by decide +kernel
theorem dJ6_bitCount_0f7a4_45 : decode cJ6_bitCount_0f7a4 45 = .ok (.iushr, 1) := by decide +kernel
theorem dJ6_bitCount_0f7a4_46 : decode cJ6_bitCount_0f7a4 46 = .ok (.iadd, 1) := by decide +kernel
theorem dJ6_bitCount_0f7a4_47 : decode cJ6_bitCount_0f7a4 47 = .ok (.istore_n 0, 1) := by decide +kernel
theorem dJ6_bitCount_0f7a4_48 : decode cJ6_bitCount_0f7a4 48 = .ok (.iload_n 0, 1) := by decide +kernel
theorem dJ6_bitCount_0f7a4_49 : decode cJ6_bitCount_0f7a4 49 = .ok (.bipush 63, 2) := by decide +kernel
theorem dJ6_bitCount_0f7a4_51 : decode cJ6_bitCount_0f7a4 51 = .ok (.iand, 1) := by decide +kernel
theorem dJ6_bitCount_0f7a4_52 : decode cJ6_bitCount_0f7a4 52 = .ok (.ireturn, 1) := by decide +kernel
theorem dJ9_min_7cf53_0 : decode cJ9_min_7cf53 0 = .ok (.iload_n 0, 1) := by decide +kernel
theorem dJ9_min_7cf53_1 : decode cJ9_min_7cf53 1 = .ok (.iload_n 1, 1) := by decide +kernel
theorem dJ9_min_7cf53_2 : decode cJ9_min_7cf53 2 = .ok (.if_icmp .gt 7, 3) := by decide +kernel
theorem dJ9_min_7cf53_5 : decode cJ9_min_7cf53 5 = .ok (.iload_n 0, 1) := by decide +kernel
theorem dJ9_min_7cf53_6 : decode cJ9_min_7cf53 6 = .ok (.goto 4, 3) := by decide +kernel
theorem dJ9_min_7cf53_9 : decode cJ9_min_7cf53 9 = .ok (.iload_n 1, 1) := by decide +kernel
theorem dJ9_min_7cf53_10 : decode cJ9_min_7cf53 10 = .ok (.ireturn, 1) := by decide +kernel
theorem dJ0_length_8abf5_0 : decode cJ0_length_8abf5 0 = .ok (.aload_n 0, 1) := by decide +kernel
theorem dJ0_length_8abf5_1 : decode cJ0_length_8abf5 1 = .ok (.getfield 9, 3) := by decide +kernel
theorem dJ0_length_8abf5_4 : decode cJ0_length_8abf5 4 = .ok (.arraylength, 1) := by decide +kernel
theorem dJ0_length_8abf5_5 : decode cJ0_length_8abf5 5 = .ok (.aload_n 0, 1) := by decide +kernel
theorem dJ0_length_8abf5_6 : decode cJ0_length_8abf5 6 = .ok (.invokevirtual 335, 3) := by decide +kernel
theorem dJ0_length_8abf5_9 : decode cJ0_length_8abf5 9 = .ok (.ishr, 1) := by decide +kernel
theorem dJ0_length_8abf5_10 : decode cJ0_length_8abf5 10 = .ok (.ireturn, 1) := by decide +kernel
theorem dJ0_charAt_5068e_0 : decode cJ0_charAt_5068e 0 = .ok (.aload_n 0, 1) := by decide +kernel
theorem dJ0_charAt_5068e_1 : decode cJ0_charAt_5068e 1 = .ok (.invokevirtual 492, 3) := by decide +kernel
theorem dJ0_charAt_5068e_4 : decode cJ0_charAt_5068e 4 = .ok (.ifCond .eq 12, 3) := by decide +kernel
theorem dJ0_charAt_5068e_7 : decode cJ0_charAt_5068e 7 = .ok (.aload_n 0, 1) := by decide +kernel
theorem dJ0_charAt_5068e_8 : decode cJ0_charAt_5068e 8 = .ok (.getfield 9, 3) := by decide +kernel
theorem dJ0_charAt_5068e_11 : decode cJ0_charAt_5068e 11 = .ok (.iload_n 1, 1) := by decide +kernel
theorem dJ0_charAt_5068e_12 : decode cJ0_charAt_5068e 12 = .ok (.invokestatic 495, 3) := by decide +kernel
theorem dJ0_charAt_5068e_15 : decode cJ0_charAt_5068e 15 = .ok (.ireturn, 1) := by decide +kernel
theorem dJ0_charAt_5068e_16 : decode cJ0_charAt_5068e 16 = .ok (.aload_n 0, 1) := by decide +kernel
theorem dJ0_charAt_5068e_17 : decode cJ0_charAt_5068e 17 = .ok (.getfield 9, 3) := by decide +kernel
theorem dJ0_charAt_5068e_20 : decode cJ0_charAt_5068e 20 = .ok (.iload_n 1, 1) := by decide +kernel
theorem dJ0_charAt_5068e_21 : decode cJ0_charAt_5068e 21 = .ok (.invokestatic 498, 3) := by decide +kernel
theorem dJ0_charAt_5068e_24 : decode cJ0_charAt_5068e 24 = .ok (.ireturn, 1) := by decide +kernel
theorem dJ0_coder_7d493_0 : decode cJ0_coder_7d493 0 = .ok (.getstatic 38, 3) := by decide +kernel
theorem dJ0_coder_7d493_3 : decode cJ0_coder_7d493 3 = .ok (.ifCond .eq 10, 3) := by decide +kernel
theorem dJ0_coder_7d493_6 : decode cJ0_coder_7d493 6 = .ok (.aload_n 0, 1) := by decide +kernel
theorem dJ0_coder_7d493_7 : decode cJ0_coder_7d493 7 = .ok (.getfield 15, 3) := by decide +kernel
theorem dJ0_coder_7d493_10 : decode cJ0_coder_7d493 10 = .ok (.goto 4, 3) := by decide +kernel
theorem dJ0_coder_7d493_13 : decode cJ0_coder_7d493 13 = .ok (.iconst 1, 1) := by decide +kernel
theorem dJ0_coder_7d493_14 : decode cJ0_coder_7d493 14 = .ok (.ireturn, 1) := by decide +kernel
theorem dJ0_isLatin1_aae02_0 : decode cJ0_isLatin1_aae02 0 = .ok (.getstatic 38, 3) := by decide +kernel
theorem dJ0_isLatin1_aae02_3 : decode cJ0_isLatin1_aae02 3 = .ok (.ifCond .eq 14, 3) := by decide +kernel
theorem dJ0_isLatin1_aae02_6 : decode cJ0_isLatin1_aae02 6 = .ok (.aload_n 0, 1) := by decide +kernel
theorem dJ0_isLatin1_aae02_7 : decode cJ0_isLatin1_aae02 7 = .ok (.getfield 15, 3) := by decide +kernel
theorem dJ0_isLatin1_aae02_10 : decode cJ0_isLatin1_aae02 10 = .ok (.ifCond .ne 7, 3) := by decide +kernel
theorem dJ0_isLatin1_aae02_13 : decode cJ0_isLatin1_aae02 13 = .ok (.iconst 1, 1) := by decide +kernel
theorem dJ0_isLatin1_aae02_14 : decode cJ0_isLatin1_aae02 14 = .ok (.goto 4, 3) := by decide +kernel
theorem dJ0_isLatin1_aae02_17 : decode cJ0_isLatin1_aae02 17 = .ok (.iconst 0, 1) := by decide +kernel
theorem dJ0_isLatin1_aae02_18 : decode cJ0_isLatin1_aae02 18 = .ok (.ireturn, 1) := by decide +kernel
theorem dJ0_checkIndex_df160_0 : decode cJ0_checkIndex_df160 0 = .ok (.iload_n 0, 1) := by decide +kernel
theorem dJ0_checkIndex_df160_1 : decode cJ0_checkIndex_df160 1 = .ok (.iload_n 1, 1) := by decide +kernel
theorem dJ0_checkIndex_df160_2 : decode cJ0_checkIndex_df160 2 = .ok (.getstatic 1053, 3) := by decide +kernel
theorem dJ0_checkIndex_df160_5 : decode cJ0_checkIndex_df160 5 = .ok (.invokestatic 1059, 3) := by decide +kernel
theorem dJ0_checkIndex_df160_8 : decode cJ0_checkIndex_df160 8 = .ok (.pop, 1) := by decide +kernel
theorem dJ0_checkIndex_df160_9 : decode cJ0_checkIndex_df160 9 = .ok (.return_, 1) := by decide +kernel
theorem dJ1_charAt_3b067_0 : decode cJ1_charAt_3b067 0 = .ok (.iload_n 1, 1) := by decide +kernel
theorem dJ1_charAt_3b067_1 : decode cJ1_charAt_3b067 1 = .ok (.aload_n 0, 1) := by decide +kernel
theorem dJ1_charAt_3b067_2 : decode cJ1_charAt_3b067 2 = .ok (.arraylength, 1) := by decide +kernel
theorem dJ1_charAt_3b067_3 : decode cJ1_charAt_3b067 3 = .ok (.invokestatic 9, 3) := by decide +kernel
theorem dJ1_charAt_3b067_6 : decode cJ1_charAt_3b067 6 = .ok (.aload_n 0, 1) := by decide +kernel
theorem dJ1_charAt_3b067_7 : decode cJ1_charAt_3b067 7 = .ok (.iload_n 1, 1) := by decide +kernel
theorem dJ1_charAt_3b067_8 : decode cJ1_charAt_3b067 8 = .ok (.baload, 1) := by decide +kernel
theorem dJ1_charAt_3b067_9 : decode cJ1_charAt_3b067 9 = .ok (.sipush 255, 3) := by decide +kernel
theorem dJ1_charAt_3b067_12 : decode cJ1_charAt_3b067 12 = .ok (.iand, 1) := by decide +kernel
theorem dJ1_charAt_3b067_13 : decode cJ1_charAt_3b067 13 = .ok (.i2c, 1) := by decide +kernel
theorem dJ1_charAt_3b067_14 : decode cJ1_charAt_3b067 14 = .ok (.ireturn, 1) := by decide +kernel
theorem dJ2_getChar_3b067_0 : decode cJ2_getChar_3b067 0 = .ok (.getstatic 44, 3) := by decide +kernel
theorem dJ2_getChar_3b067_3 : decode cJ2_getChar_3b067 3 = .ok (.ifCond .ne 25, 3) := by decide +kernel
theorem dJ2_getChar_3b067_6 : decode cJ2_getChar_3b067 6 = .ok (.iload_n 1, 1) := by decide +kernel
theorem dJ2_getChar_3b067_7 : decode cJ2_getChar_3b067 7 = .ok (.ifCond .lt 11, 3) := by decide +kernel
theorem dJ2_getChar_3b067_10 : decode cJ2_getChar_3b067 10 = .ok (.iload_n 1, 1) := by decide +kernel
theorem dJ2_getChar_3b067_11 : decode cJ2_getChar_3b067 11 = .ok (.aload_n 0, 1) := by decide +kernel
theorem dJ2_getChar_3b067_12 : decode cJ2_getChar_3b067 12 = .ok (.invokestatic 48, 3) := by decide +kernel
theorem dJ2_getChar_3b067_15 : decode cJ2_getChar_3b067 15 = .ok (.if_icmp .lt 13, 3) := by decide +kernel
theorem dJ2_getChar_3b067_18 : decode cJ2_getChar_3b067 18 = .ok (.new 52, 3) := by decide +kernel
theorem dJ2_getChar_3b067_21 : decode cJ2_getChar_3b067 21 = .ok (.dup, 1) := by decide +kernel
theorem dJ2_getChar_3b067_22 : decode cJ2_getChar_3b067 22 = .ok (.ldc 54, 2) := by decide +kernel
theorem dJ2_getChar_3b067_24 : decode cJ2_getChar_3b067 24 = .ok (.invokespecial 56, 3) := by decide +kernel
theorem dJ2_getChar_3b067_27 : decode cJ2_getChar_3b067 27 = .ok (.athrow, 1) := by decide +kernel
theorem dJ2_getChar_3b067_28 : decode cJ2_getChar_3b067 28 = .ok (.iload_n 1, 1) := by decide +kernel
theorem dJ2_getChar_3b067_29 : decode cJ2_getChar_3b067 29 = .ok (.iconst 1, 1) := by decide +kernel
theorem dJ2_getChar_3b067_30 : decode cJ2_getChar_3b067 30 = .ok (.ishl, 1) := by decide +kernel
theorem dJ2_getChar_3b067_31 : decode cJ2_getChar_3b067 31 = .ok (.istore_n 1, 1) := by decide +kernel
theorem dJ2_getChar_3b067_32 : decode cJ2_getChar_3b067 32 = .ok (.aload_n 0, 1) := by decide +kernel
theorem dJ2_getChar_3b067_33 : decode cJ2_getChar_3b067 33 = .ok (.iload_n 1, 1) := by decide +kernel
theorem dJ2_getChar_3b067_34 : decode cJ2_getChar_3b067 34 = .ok (.iinc 1 1, 3) := by decide +kernel
theorem dJ2_getChar_3b067_37 : decode cJ2_getChar_3b067 37 = .ok (.baload, 1) := by decide +kernel
theorem dJ2_getChar_3b067_38 : decode cJ2_getChar_3b067 38 = .ok (.sipush 255, 3) := by decide +kernel
theorem dJ2_getChar_3b067_41 : decode cJ2_getChar_3b067 41 = .ok (.iand, 1) := by decide +kernel
theorem dJ2_getChar_3b067_42 : decode cJ2_getChar_3b067 42 = .ok (.getstatic 59, 3) := by decide +kernel
theorem dJ2_getChar_3b067_45 : decode cJ2_getChar_3b067 45 = .ok (.ishl, 1) := by decide +kernel
theorem dJ2_getChar_3b067_46 : decode cJ2_getChar_3b067 46 = .ok (.aload_n 0, 1) := by decide +kernel
theorem dJ2_getChar_3b067_47 : decode cJ2_getChar_3b067 47 = .ok (.iload_n 1, 1) := by decide +kernel
theorem dJ2_getChar_3b067_48 : decode cJ2_getChar_3b067 48 = .ok (.baload, 1) := by decide +kernel
theorem dJ2_getChar_3b067_49 : decode cJ2_getChar_3b067 49 = .ok (.sipush 255, 3) := by decide +kernel
theorem dJ2_getChar_3b067_52 : decode cJ2_getChar_3b067 52 = .ok (.iand, 1) := by decide +kernel
theorem dJ2_getChar_3b067_53 : decode cJ2_getChar_3b067 53 = .ok (.getstatic 63, 3) := by decide +kernel
theorem dJ2_getChar_3b067_56 : decode cJ2_getChar_3b067 56 = .ok (.ishl, 1) := by decide +kernel
theorem dJ2_getChar_3b067_57 : decode cJ2_getChar_3b067 57 = .ok (.ior, 1) := by decide +kernel
theorem dJ2_getChar_3b067_58 : decode cJ2_getChar_3b067 58 = .ok (.i2c, 1) := by decide +kernel
theorem dJ2_getChar_3b067_59 : decode cJ2_getChar_3b067 59 = .ok (.ireturn, 1) := by decide +kernel
theorem dJ2_length_9d52b_0 : decode cJ2_length_9d52b 0 = .ok (.aload_n 0, 1) := by decide +kernel
theorem dJ2_length_9d52b_1 : decode cJ2_length_9d52b 1 = .ok (.arraylength, 1) := by decide +kernel
theorem dJ2_length_9d52b_2 : decode cJ2_length_9d52b 2 = .ok (.iconst 1, 1) := by decide +kernel
theorem dJ2_length_9d52b_3 : decode cJ2_length_9d52b 3 = .ok (.ishr, 1) := by decide +kernel
theorem dJ2_length_9d52b_4 : decode cJ2_length_9d52b 4 = .ok (.ireturn, 1) := by decide +kernel
theorem dJ2_charAt_3b067_0 : decode cJ2_charAt_3b067 0 = .ok (.iload_n 1, 1) := by decide +kernel
theorem dJ2_charAt_3b067_1 : decode cJ2_charAt_3b067 1 = .ok (.aload_n 0, 1) := by decide +kernel
theorem dJ2_charAt_3b067_2 : decode cJ2_charAt_3b067 2 = .ok (.invokestatic 67, 3) := by decide +kernel
theorem dJ2_charAt_3b067_5 : decode cJ2_charAt_3b067 5 = .ok (.aload_n 0, 1) := by decide +kernel
theorem dJ2_charAt_3b067_6 : decode cJ2_charAt_3b067 6 = .ok (.iload_n 1, 1) := by decide +kernel
theorem dJ2_charAt_3b067_7 : decode cJ2_charAt_3b067 7 = .ok (.invokestatic 71, 3) := by decide +kernel
theorem dJ2_charAt_3b067_10 : decode cJ2_charAt_3b067 10 = .ok (.ireturn, 1) := by decide +kernel
theorem dJ2_checkIndex_2214a_0 : decode cJ2_checkIndex_2214a 0 = .ok (.iload_n 0, 1) := by decide +kernel
theorem dJ2_checkIndex_2214a_1 : decode cJ2_checkIndex_2214a 1 = .ok (.aload_n 1, 1) := by decide +kernel
theorem dJ2_checkIndex_2214a_2 : decode cJ2_checkIndex_2214a 2 = .ok (.invokestatic 48, 3) := by decide +kernel
theorem dJ2_checkIndex_2214a_5 : decode cJ2_checkIndex_2214a 5 = .ok (.invokestatic 414, 3) := by decide +kernel
theorem dJ2_checkIndex_2214a_8 : decode cJ2_checkIndex_2214a 8 = .ok (.return_, 1) := by decide +kernel
theorem dJ7_fill_53178_0 : decode cJ7_fill_53178 0 = .ok (.iconst 0, 1) := by decide +kernel
theorem dJ7_fill_53178_1 : decode cJ7_fill_53178 1 = .ok (.istore_n 2, 1) := by decide +kernel
theorem dJ7_fill_53178_2 : decode cJ7_fill_53178 2 = .ok (.aload_n 0, 1) := by decide +kernel
theorem dJ7_fill_53178_3 : decode cJ7_fill_53178 3 = .ok (.arraylength, 1) := by decide +kernel
theorem dJ7_fill_53178_4 : decode cJ7_fill_53178 4 = .ok (.istore_n 3, 1) := by decide +kernel
theorem dJ7_fill_53178_5 : decode cJ7_fill_53178 5 = .ok (.iload_n 2, 1) := by decide +kernel
theorem dJ7_fill_53178_6 : decode cJ7_fill_53178 6 = .ok (.iload_n 3, 1) := by decide +kernel
theorem dJ7_fill_53178_7 : decode cJ7_fill_53178 7 = .ok (.if_icmp .ge 13, 3) := by decide +kernel
theorem dJ7_fill_53178_10 : decode cJ7_fill_53178 10 = .ok (.aload_n 0, 1) := by decide +kernel
theorem dJ7_fill_53178_11 : decode cJ7_fill_53178 11 = .ok (.iload_n 2, 1) := by decide +kernel
theorem dJ7_fill_53178_12 : decode cJ7_fill_53178 12 = .ok (.iload_n 1, 1) := by decide +kernel
theorem dJ7_fill_53178_13 : decode cJ7_fill_53178 13 = .ok (.iastore, 1) := by decide +kernel
theorem dJ7_fill_53178_14 : decode cJ7_fill_53178 14 = .ok (.iinc 2 1, 3) := by decide +kernel
theorem dJ7_fill_53178_17 : decode cJ7_fill_53178 17 = .ok (.goto (-12), 3) := by decide +kernel
theorem dJ7_fill_53178_20 : decode cJ7_fill_53178 20 = .ok (.return_, 1) := by decide +kernel
theorem dJ3_checkIndex_8e157_0 : decode cJ3_checkIndex_8e157 0 = .ok (.iload_n 0, 1) := by decide +kernel
theorem dJ3_checkIndex_8e157_1 : decode cJ3_checkIndex_8e157 1 = .ok (.ifCond .lt 8, 3) := by decide +kernel
theorem dJ3_checkIndex_8e157_4 : decode cJ3_checkIndex_8e157 4 = .ok (.iload_n 0, 1) := by decide +kernel
theorem dJ3_checkIndex_8e157_5 : decode cJ3_checkIndex_8e157 5 = .ok (.iload_n 1, 1) := by decide +kernel
theorem dJ3_checkIndex_8e157_6 : decode cJ3_checkIndex_8e157 6 = .ok (.if_icmp .lt 10, 3) := by decide +kernel
theorem dJ3_checkIndex_8e157_9 : decode cJ3_checkIndex_8e157 9 = .ok (.aload_n 2, 1) := by decide +kernel
theorem dJ3_checkIndex_8e157_10 : decode cJ3_checkIndex_8e157 10 = .ok (.iload_n 0, 1) := by decide +kernel
theorem dJ3_checkIndex_8e157_11 : decode cJ3_checkIndex_8e157 11 = .ok (.iload_n 1, 1) := by decide +kernel
theorem dJ3_checkIndex_8e157_12 : decode cJ3_checkIndex_8e157 12 = .ok (.invokestatic 95, 3) := by decide +kernel
theorem dJ3_checkIndex_8e157_15 : decode cJ3_checkIndex_8e157 15 = .ok (.athrow, 1) := by decide +kernel
theorem dJ3_checkIndex_8e157_16 : decode cJ3_checkIndex_8e157 16 = .ok (.iload_n 0, 1) := by decide +kernel
theorem dJ3_checkIndex_8e157_17 : decode cJ3_checkIndex_8e157 17 = .ok (.ireturn, 1) := by decide +kernel
theorem dL_append_0 : decode cL_append 0 = .ok (.aload 6, 2) := by decide +kernel
theorem dL_append_2 : decode cL_append 2 = .ok (.iconst 0, 1) := by decide +kernel
theorem dL_append_3 : decode cL_append 3 = .ok (.aload_n 0, 1) := by decide +kernel
theorem dL_append_4 : decode cL_append 4 = .ok (.iload_n 1, 1) := by decide +kernel
theorem dL_append_5 : decode cL_append 5 = .ok (.iload_n 2, 1) := by decide +kernel
theorem dL_append_6 : decode cL_append 6 = .ok (.iload_n 3, 1) := by decide +kernel
theorem dL_append_7 : decode cL_append 7 = .ok (.iload 4, 2) := by decide +kernel
theorem dL_append_9 : decode cL_append 9 = .ok (.iload 5, 2) := by decide +kernel
theorem dL_append_11 : decode cL_append 11 = .ok (.invokevirtual 7, 3) := by decide +kernel
theorem dL_append_14 : decode cL_append 14 = .ok (.i2l, 1) := by decide +kernel
theorem dL_append_15 : decode cL_append 15 = .ok (.lastore, 1) := by decide +kernel
theorem dL_append_16 : decode cL_append 16 = .ok (.goto 7, 3) := by decide +kernel
theorem dL_append_19 : decode cL_append 19 = .ok (.astore 7, 2) := by decide +kernel
theorem dL_append_21 : decode cL_append 21 = .ok (.iconst 1, 1) := by decide +kernel
theorem dL_append_22 : decode cL_append 22 = .ok (.ireturn, 1) := by decide +kernel
theorem dL_append_23 : decode cL_append 23 = .ok (.iconst 0, 1) := by decide +kernel
theorem dL_append_24 : decode cL_append 24 = .ok (.ireturn, 1) := by decide +kernel
theorem dL_load_0 : decode cL_load 0 = .ok (.aload_n 2, 1) := by decide +kernel
theorem dL_load_1 : decode cL_load 1 = .ok (.iconst 0, 1) := by decide +kernel
theorem dL_load_2 : decode cL_load 2 = .ok (.aload_n 0, 1) := by decide +kernel
theorem dL_load_3 : decode cL_load 3 = .ok (.iload_n 1, 1) := by decide +kernel
theorem dL_load_4 : decode cL_load 4 = .ok (.invokevirtual 15, 3) := by decide +kernel
theorem dL_load_7 : decode cL_load 7 = .ok (.i2l, 1) := by decide +kernel
theorem dL_load_8 : decode cL_load 8 = .ok (.lastore, 1) := by decide +kernel
theorem dL_load_9 : decode cL_load 9 = .ok (.goto 6, 3) := by decide +kernel
theorem dL_load_12 : decode cL_load 12 = .ok (.astore_n 3, 1) := by decide +kernel
theorem dL_load_13 : decode cL_load 13 = .ok (.iconst 1, 1) := by decide +kernel
theorem dL_load_14 : decode cL_load 14 = .ok (.ireturn, 1) := by decide +kernel
theorem dL_load_15 : decode cL_load 15 = .ok (.iconst 0, 1) := by decide +kernel
theorem dL_load_16 : decode cL_load 16 = .ok (.ireturn, 1) := by decide +kernel
theorem dL_count_0 : decode cL_count 0 = .ok (.aload_n 2, 1) := by decide +kernel
theorem dL_count_1 : decode cL_count 1 = .ok (.iconst 0, 1) := by decide +kernel
theorem dL_count_2 : decode cL_count 2 = .ok (.aload_n 0, 1) := by decide +kernel
theorem dL_count_3 : decode cL_count 3 = .ok (.iload_n 1, 1) := by decide +kernel
theorem dL_count_4 : decode cL_count 4 = .ok (.invokevirtual 21, 3) := by decide +kernel
theorem dL_count_7 : decode cL_count 7 = .ok (.i2l, 1) := by decide +kernel
theorem dL_count_8 : decode cL_count 8 = .ok (.lastore, 1) := by decide +kernel
theorem dL_count_9 : decode cL_count 9 = .ok (.goto 6, 3) := by decide +kernel
theorem dL_count_12 : decode cL_count 12 = .ok (.astore_n 3, 1) := by decide +kernel
theorem dL_count_13 : decode cL_count 13 = .ok (.iconst 1, 1) := by decide +kernel
theorem dL_count_14 : decode cL_count 14 = .ok (.ireturn, 1) := by decide +kernel
theorem dL_count_15 : decode cL_count 15 = .ok (.iconst 0, 1) := by decide +kernel
theorem dL_count_16 : decode cL_count 16 = .ok (.ireturn, 1) := by decide +kernel
theorem dL_arc_0 : decode cL_arc 0 = .ok (.aload_n 3, 1) := by decide +kernel
theorem dL_arc_1 : decode cL_arc 1 = .ok (.iconst 0, 1) := by decide +kernel
theorem dL_arc_2 : decode cL_arc 2 = .ok (.aload_n 0, 1) := by decide +kernel
theorem dL_arc_3 : decode cL_arc 3 = .ok (.iload_n 1, 1) := by decide +kernel
theorem dL_arc_4 : decode cL_arc 4 = .ok (.iload_n 2, 1) := by decide +kernel
theorem dL_arc_5 : decode cL_arc 5 = .ok (.invokevirtual 24, 3) := by decide +kernel
theorem dL_arc_8 : decode cL_arc 8 = .ok (.i2l, 1) := by decide +kernel
theorem dL_arc_9 : decode cL_arc 9 = .ok (.lastore, 1) := by decide +kernel
theorem dL_arc_10 : decode cL_arc 10 = .ok (.goto 11, 3) := by decide +kernel
theorem dL_arc_13 : decode cL_arc 13 = .ok (.astore 4, 2) := by decide +kernel
theorem dL_arc_15 : decode cL_arc 15 = .ok (.iconst 1, 1) := by decide +kernel
theorem dL_arc_16 : decode cL_arc 16 = .ok (.ireturn, 1) := by decide +kernel
theorem dL_arc_17 : decode cL_arc 17 = .ok (.astore 4, 2) := by decide +kernel
theorem dL_arc_19 : decode cL_arc 19 = .ok (.iconst 2, 1) := by decide +kernel
theorem dL_arc_20 : decode cL_arc 20 = .ok (.ireturn, 1) := by decide +kernel
theorem dL_arc_21 : decode cL_arc 21 = .ok (.iconst 0, 1) := by decide +kernel
theorem dL_arc_22 : decode cL_arc 22 = .ok (.ireturn, 1) := by decide +kernel
theorem dL_addArc_0 : decode cL_addArc 0 = .ok (.aload 5, 2) := by decide +kernel
theorem dL_addArc_2 : decode cL_addArc 2 = .ok (.iconst 0, 1) := by decide +kernel
theorem dL_addArc_3 : decode cL_addArc 3 = .ok (.aload_n 0, 1) := by decide +kernel
theorem dL_addArc_4 : decode cL_addArc 4 = .ok (.iload_n 1, 1) := by decide +kernel
theorem dL_addArc_5 : decode cL_addArc 5 = .ok (.iload_n 2, 1) := by decide +kernel
theorem dL_addArc_6 : decode cL_addArc 6 = .ok (.iload_n 3, 1) := by decide +kernel
theorem dL_addArc_7 : decode cL_addArc 7 = .ok (.iload 4, 2) := by decide +kernel
theorem dL_addArc_9 : decode cL_addArc 9 = .ok (.invokevirtual 30, 3) := by decide +kernel
theorem dL_addArc_12 : decode cL_addArc 12 = .ok (.i2l, 1) := by decide +kernel
theorem dL_addArc_13 : decode cL_addArc 13 = .ok (.lastore, 1) := by decide +kernel
theorem dL_addArc_14 : decode cL_addArc 14 = .ok (.goto 15, 3) := by decide +kernel
theorem dL_addArc_17 : decode cL_addArc 17 = .ok (.astore 6, 2) := by decide +kernel
theorem dL_addArc_19 : decode cL_addArc 19 = .ok (.iconst 1, 1) := by decide +kernel
theorem dL_addArc_20 : decode cL_addArc 20 = .ok (.ireturn, 1) := by decide +kernel
theorem dL_addArc_21 : decode cL_addArc 21 = .ok (.astore 6, 2) := by decide +kernel
theorem dL_addArc_23 : decode cL_addArc 23 = .ok (.iconst 2, 1) := by decide +kernel
theorem dL_addArc_24 : decode cL_addArc 24 = .ok (.ireturn, 1) := by decide +kernel
theorem dL_addArc_25 : decode cL_addArc 25 = .ok (.astore 6, 2) := by decide +kernel
theorem dL_addArc_27 : decode cL_addArc 27 = .ok (.iconst 3, 1) := by decide +kernel
theorem dL_addArc_28 : decode cL_addArc 28 = .ok (.ireturn, 1) := by decide +kernel
theorem dL_addArc_29 : decode cL_addArc 29 = .ok (.iconst 0, 1) := by decide +kernel
theorem dL_addArc_30 : decode cL_addArc 30 = .ok (.ireturn, 1) := by decide +kernel
theorem dL_removeArc_0 : decode cL_removeArc 0 = .ok (.aload_n 2, 1) := by decide +kernel
theorem dL_removeArc_1 : decode cL_removeArc 1 = .ok (.iconst 0, 1) := by decide +kernel
theorem dL_removeArc_2 : decode cL_removeArc 2 = .ok (.aload_n 0, 1) := by decide +kernel
theorem dL_removeArc_3 : decode cL_removeArc 3 = .ok (.iload_n 1, 1) := by decide +kernel
theorem dL_removeArc_4 : decode cL_removeArc 4 = .ok (.invokevirtual 34, 3) := by decide +kernel
theorem dL_removeArc_7 : decode cL_removeArc 7 = .ok (.i2l, 1) := by decide +kernel
theorem dL_removeArc_8 : decode cL_removeArc 8 = .ok (.lastore, 1) := by decide +kernel
theorem dL_removeArc_9 : decode cL_removeArc 9 = .ok (.goto 9, 3) := by decide +kernel
theorem dL_removeArc_12 : decode cL_removeArc 12 = .ok (.astore_n 3, 1) := by decide +kernel
theorem dL_removeArc_13 : decode cL_removeArc 13 = .ok (.iconst 1, 1) := by decide +kernel
theorem dL_removeArc_14 : decode cL_removeArc 14 = .ok (.ireturn, 1) := by decide +kernel
theorem dL_removeArc_15 : decode cL_removeArc 15 = .ok (.astore_n 3, 1) := by decide +kernel
theorem dL_removeArc_16 : decode cL_removeArc 16 = .ok (.iconst 2, 1) := by decide +kernel
theorem dL_removeArc_17 : decode cL_removeArc 17 = .ok (.ireturn, 1) := by decide +kernel
theorem dL_removeArc_18 : decode cL_removeArc 18 = .ok (.iconst 0, 1) := by decide +kernel
theorem dL_removeArc_19 : decode cL_removeArc 19 = .ok (.ireturn, 1) := by decide +kernel
theorem dL_setArc_0 : decode cL_setArc 0 = .ok (.aload 4, 2) := by decide +kernel
theorem dL_setArc_2 : decode cL_setArc 2 = .ok (.iconst 0, 1) := by decide +kernel
theorem dL_setArc_3 : decode cL_setArc 3 = .ok (.aload_n 0, 1) := by decide +kernel
theorem dL_setArc_4 : decode cL_setArc 4 = .ok (.iload_n 1, 1) := by decide +kernel
theorem dL_setArc_5 : decode cL_setArc 5 = .ok (.iload_n 2, 1) := by decide +kernel
theorem dL_setArc_6 : decode cL_setArc 6 = .ok (.iload_n 3, 1) := by decide +kernel
theorem dL_setArc_7 : decode cL_setArc 7 = .ok (.invokevirtual 37, 3) := by decide +kernel
theorem dL_setArc_10 : decode cL_setArc 10 = .ok (.i2l, 1) := by decide +kernel
theorem dL_setArc_11 : decode cL_setArc 11 = .ok (.lastore, 1) := by decide +kernel
theorem dL_setArc_12 : decode cL_setArc 12 = .ok (.goto 11, 3) := by decide +kernel
theorem dL_setArc_15 : decode cL_setArc 15 = .ok (.astore 5, 2) := by decide +kernel
theorem dL_setArc_17 : decode cL_setArc 17 = .ok (.iconst 1, 1) := by decide +kernel
theorem dL_setArc_18 : decode cL_setArc 18 = .ok (.ireturn, 1) := by decide +kernel
theorem dL_setArc_19 : decode cL_setArc 19 = .ok (.astore 5, 2) := by decide +kernel
theorem dL_setArc_21 : decode cL_setArc 21 = .ok (.iconst 2, 1) := by decide +kernel
theorem dL_setArc_22 : decode cL_setArc 22 = .ok (.ireturn, 1) := by decide +kernel
theorem dL_setArc_23 : decode cL_setArc 23 = .ok (.iconst 0, 1) := by decide +kernel
theorem dL_setArc_24 : decode cL_setArc 24 = .ok (.ireturn, 1) := by decide +kernel
theorem dL_setBudget_0 : decode cL_setBudget 0 = .ok (.aload_n 2, 1) := by decide +kernel
theorem dL_setBudget_1 : decode cL_setBudget 1 = .ok (.iconst 0, 1) := by decide +kernel
theorem dL_setBudget_2 : decode cL_setBudget 2 = .ok (.aload_n 0, 1) := by decide +kernel
theorem dL_setBudget_3 : decode cL_setBudget 3 = .ok (.iload_n 1, 1) := by decide +kernel
theorem dL_setBudget_4 : decode cL_setBudget 4 = .ok (.invokevirtual 41, 3) := by decide +kernel
theorem dL_setBudget_7 : decode cL_setBudget 7 = .ok (.i2l, 1) := by decide +kernel
theorem dL_setBudget_8 : decode cL_setBudget 8 = .ok (.lastore, 1) := by decide +kernel
theorem dL_setBudget_9 : decode cL_setBudget 9 = .ok (.goto 6, 3) := by decide +kernel
theorem dL_setBudget_12 : decode cL_setBudget 12 = .ok (.astore_n 3, 1) := by decide +kernel
theorem dL_setBudget_13 : decode cL_setBudget 13 = .ok (.iconst 1, 1) := by decide +kernel
theorem dL_setBudget_14 : decode cL_setBudget 14 = .ok (.ireturn, 1) := by decide +kernel
theorem dL_setBudget_15 : decode cL_setBudget 15 = .ok (.iconst 0, 1) := by decide +kernel
theorem dL_setBudget_16 : decode cL_setBudget 16 = .ok (.ireturn, 1) := by decide +kernel
theorem dL_draft_0 : decode cL_draft 0 = .ok (.aload_n 2, 1) := by decide +kernel
theorem dL_draft_1 : decode cL_draft 1 = .ok (.iconst 0, 1) := by decide +kernel
theorem dL_draft_2 : decode cL_draft 2 = .ok (.aload_n 0, 1) := by decide +kernel
theorem dL_draft_3 : decode cL_draft 3 = .ok (.iload_n 1, 1) := by decide +kernel
theorem dL_draft_4 : decode cL_draft 4 = .ok (.invokevirtual 44, 3) := by decide +kernel
theorem dL_draft_7 : decode cL_draft 7 = .ok (.i2l, 1) := by decide +kernel
theorem dL_draft_8 : decode cL_draft 8 = .ok (.lastore, 1) := by decide +kernel
theorem dL_draft_9 : decode cL_draft 9 = .ok (.goto 9, 3) := by decide +kernel
theorem dL_draft_12 : decode cL_draft 12 = .ok (.astore_n 3, 1) := by decide +kernel
theorem dL_draft_13 : decode cL_draft 13 = .ok (.iconst 1, 1) := by decide +kernel
theorem dL_draft_14 : decode cL_draft 14 = .ok (.ireturn, 1) := by decide +kernel
theorem dL_draft_15 : decode cL_draft 15 = .ok (.astore_n 3, 1) := by decide +kernel
theorem dL_draft_16 : decode cL_draft 16 = .ok (.iconst 2, 1) := by decide +kernel
theorem dL_draft_17 : decode cL_draft 17 = .ok (.ireturn, 1) := by decide +kernel
theorem dL_draft_18 : decode cL_draft 18 = .ok (.iconst 0, 1) := by decide +kernel
theorem dL_draft_19 : decode cL_draft 19 = .ok (.ireturn, 1) := by decide +kernel
theorem dL_drop_0 : decode cL_drop 0 = .ok (.aload_n 1, 1) := by decide +kernel
theorem dL_drop_1 : decode cL_drop 1 = .ok (.iconst 0, 1) := by decide +kernel
theorem dL_drop_2 : decode cL_drop 2 = .ok (.aload_n 0, 1) := by decide +kernel
theorem dL_drop_3 : decode cL_drop 3 = .ok (.invokevirtual 47, 3) := by decide +kernel
theorem dL_drop_6 : decode cL_drop 6 = .ok (.i2l, 1) := by decide +kernel
theorem dL_drop_7 : decode cL_drop 7 = .ok (.lastore, 1) := by decide +kernel
theorem dL_drop_8 : decode cL_drop 8 = .ok (.goto 6, 3) := by decide +kernel
theorem dL_drop_11 : decode cL_drop 11 = .ok (.astore_n 2, 1) := by decide +kernel
theorem dL_drop_12 : decode cL_drop 12 = .ok (.iconst 1, 1) := by decide +kernel
theorem dL_drop_13 : decode cL_drop 13 = .ok (.ireturn, 1) := by decide +kernel
theorem dL_drop_14 : decode cL_drop 14 = .ok (.iconst 0, 1) := by decide +kernel
theorem dL_drop_15 : decode cL_drop 15 = .ok (.ireturn, 1) := by decide +kernel
theorem dL_tell_0 : decode cL_tell 0 = .ok (.aload_n 1, 1) := by decide +kernel
theorem dL_tell_1 : decode cL_tell 1 = .ok (.iconst 0, 1) := by decide +kernel
theorem dL_tell_2 : decode cL_tell 2 = .ok (.aload_n 0, 1) := by decide +kernel
theorem dL_tell_3 : decode cL_tell 3 = .ok (.invokevirtual 51, 3) := by decide +kernel
theorem dL_tell_6 : decode cL_tell 6 = .ok (.i2l, 1) := by decide +kernel
theorem dL_tell_7 : decode cL_tell 7 = .ok (.lastore, 1) := by decide +kernel
theorem dL_tell_8 : decode cL_tell 8 = .ok (.goto 6, 3) := by decide +kernel
theorem dL_tell_11 : decode cL_tell 11 = .ok (.astore_n 2, 1) := by decide +kernel
theorem dL_tell_12 : decode cL_tell 12 = .ok (.iconst 1, 1) := by decide +kernel
theorem dL_tell_13 : decode cL_tell 13 = .ok (.ireturn, 1) := by decide +kernel
theorem dL_tell_14 : decode cL_tell 14 = .ok (.iconst 0, 1) := by decide +kernel
theorem dL_tell_15 : decode cL_tell 15 = .ok (.ireturn, 1) := by decide +kernel
theorem dL_forget_0 : decode cL_forget 0 = .ok (.aload_n 2, 1) := by decide +kernel
theorem dL_forget_1 : decode cL_forget 1 = .ok (.iconst 0, 1) := by decide +kernel
theorem dL_forget_2 : decode cL_forget 2 = .ok (.aload_n 0, 1) := by decide +kernel
theorem dL_forget_3 : decode cL_forget 3 = .ok (.iload_n 1, 1) := by decide +kernel
theorem dL_forget_4 : decode cL_forget 4 = .ok (.invokevirtual 54, 3) := by decide +kernel
theorem dL_forget_7 : decode cL_forget 7 = .ok (.i2l, 1) := by decide +kernel
theorem dL_forget_8 : decode cL_forget 8 = .ok (.lastore, 1) := by decide +kernel
theorem dL_forget_9 : decode cL_forget 9 = .ok (.goto 6, 3) := by decide +kernel
theorem dL_forget_12 : decode cL_forget 12 = .ok (.astore_n 3, 1) := by decide +kernel
theorem dL_forget_13 : decode cL_forget 13 = .ok (.iconst 1, 1) := by decide +kernel
theorem dL_forget_14 : decode cL_forget 14 = .ok (.ireturn, 1) := by decide +kernel
theorem dL_forget_15 : decode cL_forget 15 = .ok (.iconst 0, 1) := by decide +kernel
theorem dL_forget_16 : decode cL_forget 16 = .ok (.ireturn, 1) := by decide +kernel
theorem dL_routeArc_0 : decode cL_routeArc 0 = .ok (.aload_n 3, 1) := by decide +kernel
theorem dL_routeArc_1 : decode cL_routeArc 1 = .ok (.iconst 0, 1) := by decide +kernel
theorem dL_routeArc_2 : decode cL_routeArc 2 = .ok (.aload_n 0, 1) := by decide +kernel
theorem dL_routeArc_3 : decode cL_routeArc 3 = .ok (.iload_n 1, 1) := by decide +kernel
theorem dL_routeArc_4 : decode cL_routeArc 4 = .ok (.iload_n 2, 1) := by decide +kernel
theorem dL_routeArc_5 : decode cL_routeArc 5 = .ok (.invokevirtual 57, 3) := by decide +kernel
theorem dL_routeArc_8 : decode cL_routeArc 8 = .ok (.i2l, 1) := by decide +kernel
theorem dL_routeArc_9 : decode cL_routeArc 9 = .ok (.lastore, 1) := by decide +kernel
theorem dL_routeArc_10 : decode cL_routeArc 10 = .ok (.goto 7, 3) := by decide +kernel
theorem dL_routeArc_13 : decode cL_routeArc 13 = .ok (.astore 4, 2) := by decide +kernel
theorem dL_routeArc_15 : decode cL_routeArc 15 = .ok (.iconst 1, 1) := by decide +kernel
theorem dL_routeArc_16 : decode cL_routeArc 16 = .ok (.ireturn, 1) := by decide +kernel
theorem dL_routeArc_17 : decode cL_routeArc 17 = .ok (.iconst 0, 1) := by decide +kernel
theorem dL_routeArc_18 : decode cL_routeArc 18 = .ok (.ireturn, 1) := by decide +kernel
theorem dL_route_0 : decode cL_route 0 = .ok (.aload_n 3, 1) := by decide +kernel
theorem dL_route_1 : decode cL_route 1 = .ok (.iconst 0, 1) := by decide +kernel
theorem dL_route_2 : decode cL_route 2 = .ok (.aload_n 0, 1) := by decide +kernel
theorem dL_route_3 : decode cL_route 3 = .ok (.iload_n 1, 1) := by decide +kernel
theorem dL_route_4 : decode cL_route 4 = .ok (.iload_n 2, 1) := by decide +kernel
theorem dL_route_5 : decode cL_route 5 = .ok (.invokevirtual 60, 3) := by decide +kernel
theorem dL_route_8 : decode cL_route 8 = .ok (.i2l, 1) := by decide +kernel
theorem dL_route_9 : decode cL_route 9 = .ok (.lastore, 1) := by decide +kernel
theorem dL_route_10 : decode cL_route 10 = .ok (.goto 11, 3) := by decide +kernel
theorem dL_route_13 : decode cL_route 13 = .ok (.astore 4, 2) := by decide +kernel
theorem dL_route_15 : decode cL_route 15 = .ok (.iconst 1, 1) := by decide +kernel
theorem dL_route_16 : decode cL_route 16 = .ok (.ireturn, 1) := by decide +kernel
theorem dL_route_17 : decode cL_route 17 = .ok (.astore 4, 2) := by decide +kernel
theorem dL_route_19 : decode cL_route 19 = .ok (.iconst 2, 1) := by decide +kernel
theorem dL_route_20 : decode cL_route 20 = .ok (.ireturn, 1) := by decide +kernel
theorem dL_route_21 : decode cL_route 21 = .ok (.iconst 0, 1) := by decide +kernel
theorem dL_route_22 : decode cL_route 22 = .ok (.ireturn, 1) := by decide +kernel
theorem dL_cost_0 : decode cL_cost 0 = .ok (.aload_n 3, 1) := by decide +kernel
theorem dL_cost_1 : decode cL_cost 1 = .ok (.iconst 0, 1) := by decide +kernel
theorem dL_cost_2 : decode cL_cost 2 = .ok (.aload_n 0, 1) := by decide +kernel
theorem dL_cost_3 : decode cL_cost 3 = .ok (.iload_n 1, 1) := by decide +kernel
theorem dL_cost_4 : decode cL_cost 4 = .ok (.iload_n 2, 1) := by decide +kernel
theorem dL_cost_5 : decode cL_cost 5 = .ok (.invokevirtual 63, 3) := by decide +kernel
theorem dL_cost_8 : decode cL_cost 8 = .ok (.i2l, 1) := by decide +kernel
theorem dL_cost_9 : decode cL_cost 9 = .ok (.lastore, 1) := by decide +kernel
theorem dL_cost_10 : decode cL_cost 10 = .ok (.goto 7, 3) := by decide +kernel
theorem dL_cost_13 : decode cL_cost 13 = .ok (.astore 4, 2) := by decide +kernel
theorem dL_cost_15 : decode cL_cost 15 = .ok (.iconst 1, 1) := by decide +kernel
theorem dL_cost_16 : decode cL_cost 16 = .ok (.ireturn, 1) := by decide +kernel
theorem dL_cost_17 : decode cL_cost 17 = .ok (.iconst 0, 1) := by decide +kernel
theorem dL_cost_18 : decode cL_cost 18 = .ok (.ireturn, 1) := by decide +kernel
theorem dL_chosen_0 : decode cL_chosen 0 = .ok (.aload_n 1, 1) := by decide +kernel
theorem dL_chosen_1 : decode cL_chosen 1 = .ok (.iconst 0, 1) := by decide +kernel
theorem dL_chosen_2 : decode cL_chosen 2 = .ok (.aload_n 0, 1) := by decide +kernel
theorem dL_chosen_3 : decode cL_chosen 3 = .ok (.invokevirtual 66, 3) := by decide +kernel
theorem dL_chosen_6 : decode cL_chosen 6 = .ok (.i2l, 1) := by decide +kernel
theorem dL_chosen_7 : decode cL_chosen 7 = .ok (.lastore, 1) := by decide +kernel
theorem dL_chosen_8 : decode cL_chosen 8 = .ok (.goto 6, 3) := by decide +kernel
theorem dL_chosen_11 : decode cL_chosen 11 = .ok (.astore_n 2, 1) := by decide +kernel
theorem dL_chosen_12 : decode cL_chosen 12 = .ok (.iconst 1, 1) := by decide +kernel
theorem dL_chosen_13 : decode cL_chosen 13 = .ok (.ireturn, 1) := by decide +kernel
theorem dL_chosen_14 : decode cL_chosen 14 = .ok (.iconst 0, 1) := by decide +kernel
theorem dL_chosen_15 : decode cL_chosen 15 = .ok (.ireturn, 1) := by decide +kernel
theorem dL_beats_0 : decode cL_beats 0 = .ok (.aload_n 3, 1) := by decide +kernel
theorem dL_beats_1 : decode cL_beats 1 = .ok (.iconst 0, 1) := by decide +kernel
theorem dL_beats_2 : decode cL_beats 2 = .ok (.aload_n 0, 1) := by decide +kernel
theorem dL_beats_3 : decode cL_beats 3 = .ok (.iload_n 1, 1) := by decide +kernel
theorem dL_beats_4 : decode cL_beats 4 = .ok (.iload_n 2, 1) := by decide +kernel
theorem dL_beats_5 : decode cL_beats 5 = .ok (.invokevirtual 71, 3) := by decide +kernel
theorem dL_beats_8 : decode cL_beats 8 = .ok (.ifCond .eq 7, 3) := by decide +kernel
theorem dL_beats_11 : decode cL_beats 11 = .ok (.lconst 1, 1) := by decide +kernel
theorem dL_beats_12 : decode cL_beats 12 = .ok (.goto 4, 3) := by decide +kernel
theorem dL_beats_15 : decode cL_beats 15 = .ok (.lconst 0, 1) := by decide +kernel
theorem dL_beats_16 : decode cL_beats 16 = .ok (.lastore, 1) := by decide +kernel
theorem dL_beats_17 : decode cL_beats 17 = .ok (.goto 7, 3) := by decide +kernel
theorem dL_beats_20 : decode cL_beats 20 = .ok (.astore 4, 2) := by decide +kernel
theorem dL_beats_22 : decode cL_beats 22 = .ok (.iconst 1, 1) := by decide +kernel
theorem dL_beats_23 : decode cL_beats 23 = .ok (.ireturn, 1) := by decide +kernel
theorem dL_beats_24 : decode cL_beats 24 = .ok (.iconst 0, 1) := by decide +kernel
theorem dL_beats_25 : decode cL_beats 25 = .ok (.ireturn, 1) := by decide +kernel
theorem dL_strain_0 : decode cL_strain 0 = .ok (.aload_n 2, 1) := by decide +kernel
theorem dL_strain_1 : decode cL_strain 1 = .ok (.iconst 0, 1) := by decide +kernel
theorem dL_strain_2 : decode cL_strain 2 = .ok (.aload_n 0, 1) := by decide +kernel
theorem dL_strain_3 : decode cL_strain 3 = .ok (.iload_n 1, 1) := by decide +kernel
theorem dL_strain_4 : decode cL_strain 4 = .ok (.invokevirtual 75, 3) := by decide +kernel
theorem dL_strain_7 : decode cL_strain 7 = .ok (.f2d, 1) := by decide +kernel
theorem dL_strain_8 : decode cL_strain 8 = .ok (.dastore, 1) := by decide +kernel
theorem dL_strain_9 : decode cL_strain 9 = .ok (.goto 6, 3) := by decide +kernel
theorem dL_strain_12 : decode cL_strain 12 = .ok (.astore_n 3, 1) := by decide +kernel
theorem dL_strain_13 : decode cL_strain 13 = .ok (.iconst 1, 1) := by decide +kernel
theorem dL_strain_14 : decode cL_strain 14 = .ok (.ireturn, 1) := by decide +kernel
theorem dL_strain_15 : decode cL_strain 15 = .ok (.iconst 0, 1) := by decide +kernel
theorem dL_strain_16 : decode cL_strain 16 = .ok (.ireturn, 1) := by decide +kernel
theorem dL_shortest_0 : decode cL_shortest 0 = .ok (.aload_n 2, 1) := by decide +kernel
theorem dL_shortest_1 : decode cL_shortest 1 = .ok (.iconst 0, 1) := by decide +kernel
theorem dL_shortest_2 : decode cL_shortest 2 = .ok (.aload_n 0, 1) := by decide +kernel
theorem dL_shortest_3 : decode cL_shortest 3 = .ok (.iload_n 1, 1) := by decide +kernel
theorem dL_shortest_4 : decode cL_shortest 4 = .ok (.invokevirtual 79, 3) := by decide +kernel
theorem dL_shortest_7 : decode cL_shortest 7 = .ok (.i2l, 1) := by decide +kernel
theorem dL_shortest_8 : decode cL_shortest 8 = .ok (.lastore, 1) := by decide +kernel
theorem dL_shortest_9 : decode cL_shortest 9 = .ok (.goto 6, 3) := by decide +kernel
theorem dL_shortest_12 : decode cL_shortest 12 = .ok (.astore_n 3, 1) := by decide +kernel
theorem dL_shortest_13 : decode cL_shortest 13 = .ok (.iconst 1, 1) := by decide +kernel
theorem dL_shortest_14 : decode cL_shortest 14 = .ok (.ireturn, 1) := by decide +kernel
theorem dL_shortest_15 : decode cL_shortest 15 = .ok (.iconst 0, 1) := by decide +kernel
theorem dL_shortest_16 : decode cL_shortest 16 = .ok (.ireturn, 1) := by decide +kernel
theorem dL_robust_0 : decode cL_robust 0 = .ok (.aload_n 2, 1) := by decide +kernel
theorem dL_robust_1 : decode cL_robust 1 = .ok (.iconst 0, 1) := by decide +kernel
theorem dL_robust_2 : decode cL_robust 2 = .ok (.aload_n 0, 1) := by decide +kernel
theorem dL_robust_3 : decode cL_robust 3 = .ok (.iload_n 1, 1) := by decide +kernel
theorem dL_robust_4 : decode cL_robust 4 = .ok (.invokevirtual 82, 3) := by decide +kernel
theorem dL_robust_7 : decode cL_robust 7 = .ok (.i2l, 1) := by decide +kernel
theorem dL_robust_8 : decode cL_robust 8 = .ok (.lastore, 1) := by decide +kernel
theorem dL_robust_9 : decode cL_robust 9 = .ok (.goto 9, 3) := by decide +kernel
theorem dL_robust_12 : decode cL_robust 12 = .ok (.astore_n 3, 1) := by decide +kernel
theorem dL_robust_13 : decode cL_robust 13 = .ok (.iconst 1, 1) := by decide +kernel
theorem dL_robust_14 : decode cL_robust 14 = .ok (.ireturn, 1) := by decide +kernel
theorem dL_robust_15 : decode cL_robust 15 = .ok (.astore_n 3, 1) := by decide +kernel
theorem dL_robust_16 : decode cL_robust 16 = .ok (.iconst 2, 1) := by decide +kernel
theorem dL_robust_17 : decode cL_robust 17 = .ok (.ireturn, 1) := by decide +kernel
theorem dL_robust_18 : decode cL_robust 18 = .ok (.iconst 0, 1) := by decide +kernel
theorem dL_robust_19 : decode cL_robust 19 = .ok (.ireturn, 1) := by decide +kernel
theorem dL_calm_0 : decode cL_calm 0 = .ok (.aload_n 2, 1) := by decide +kernel
theorem dL_calm_1 : decode cL_calm 1 = .ok (.iconst 0, 1) := by decide +kernel
theorem dL_calm_2 : decode cL_calm 2 = .ok (.aload_n 0, 1) := by decide +kernel
theorem dL_calm_3 : decode cL_calm 3 = .ok (.iload_n 1, 1) := by decide +kernel
theorem dL_calm_4 : decode cL_calm 4 = .ok (.invokevirtual 85, 3) := by decide +kernel
theorem dL_calm_7 : decode cL_calm 7 = .ok (.i2l, 1) := by decide +kernel
theorem dL_calm_8 : decode cL_calm 8 = .ok (.lastore, 1) := by decide +kernel
theorem dL_calm_9 : decode cL_calm 9 = .ok (.goto 9, 3) := by decide +kernel
theorem dL_calm_12 : decode cL_calm 12 = .ok (.astore_n 3, 1) := by decide +kernel
theorem dL_calm_13 : decode cL_calm 13 = .ok (.iconst 1, 1) := by decide +kernel
theorem dL_calm_14 : decode cL_calm 14 = .ok (.ireturn, 1) := by decide +kernel
theorem dL_calm_15 : decode cL_calm 15 = .ok (.astore_n 3, 1) := by decide +kernel
theorem dL_calm_16 : decode cL_calm 16 = .ok (.iconst 2, 1) := by decide +kernel
theorem dL_calm_17 : decode cL_calm 17 = .ok (.ireturn, 1) := by decide +kernel
theorem dL_calm_18 : decode cL_calm 18 = .ok (.iconst 0, 1) := by decide +kernel
theorem dL_calm_19 : decode cL_calm 19 = .ok (.ireturn, 1) := by decide +kernel
theorem dL_bestArc_0 : decode cL_bestArc 0 = .ok (.aload_n 3, 1) := by decide +kernel
theorem dL_bestArc_1 : decode cL_bestArc 1 = .ok (.iconst 0, 1) := by decide +kernel
theorem dL_bestArc_2 : decode cL_bestArc 2 = .ok (.aload_n 0, 1) := by decide +kernel
theorem dL_bestArc_3 : decode cL_bestArc 3 = .ok (.iload_n 1, 1) := by decide +kernel
theorem dL_bestArc_4 : decode cL_bestArc 4 = .ok (.iload_n 2, 1) := by decide +kernel
theorem dL_bestArc_5 : decode cL_bestArc 5 = .ok (.invokevirtual 88, 3) := by decide +kernel
theorem dL_bestArc_8 : decode cL_bestArc 8 = .ok (.i2l, 1) := by decide +kernel
theorem dL_bestArc_9 : decode cL_bestArc 9 = .ok (.lastore, 1) := by decide +kernel
theorem dL_bestArc_10 : decode cL_bestArc 10 = .ok (.goto 7, 3) := by decide +kernel
theorem dL_bestArc_13 : decode cL_bestArc 13 = .ok (.astore 4, 2) := by decide +kernel
theorem dL_bestArc_15 : decode cL_bestArc 15 = .ok (.iconst 1, 1) := by decide +kernel
theorem dL_bestArc_16 : decode cL_bestArc 16 = .ok (.ireturn, 1) := by decide +kernel
theorem dL_bestArc_17 : decode cL_bestArc 17 = .ok (.iconst 0, 1) := by decide +kernel
theorem dL_bestArc_18 : decode cL_bestArc 18 = .ok (.ireturn, 1) := by decide +kernel
theorem dL_value_0 : decode cL_value 0 = .ok (.aload_n 3, 1) := by decide +kernel
theorem dL_value_1 : decode cL_value 1 = .ok (.iconst 0, 1) := by decide +kernel
theorem dL_value_2 : decode cL_value 2 = .ok (.aload_n 0, 1) := by decide +kernel
theorem dL_value_3 : decode cL_value 3 = .ok (.iload_n 1, 1) := by decide +kernel
theorem dL_value_4 : decode cL_value 4 = .ok (.iload_n 2, 1) := by decide +kernel
theorem dL_value_5 : decode cL_value 5 = .ok (.invokevirtual 92, 3) := by decide +kernel
theorem dL_value_8 : decode cL_value 8 = .ok (.i2l, 1) := by decide +kernel
theorem dL_value_9 : decode cL_value 9 = .ok (.lastore, 1) := by decide +kernel
theorem dL_value_10 : decode cL_value 10 = .ok (.goto 11, 3) := by decide +kernel
theorem dL_value_13 : decode cL_value 13 = .ok (.astore 4, 2) := by decide +kernel
theorem dL_value_15 : decode cL_value 15 = .ok (.iconst 1, 1) := by decide +kernel
theorem dL_value_16 : decode cL_value 16 = .ok (.ireturn, 1) := by decide +kernel
theorem dL_value_17 : decode cL_value 17 = .ok (.astore 4, 2) := by decide +kernel
theorem dL_value_19 : decode cL_value 19 = .ok (.iconst 2, 1) := by decide +kernel
theorem dL_value_20 : decode cL_value 20 = .ok (.ireturn, 1) := by decide +kernel
theorem dL_value_21 : decode cL_value 21 = .ok (.iconst 0, 1) := by decide +kernel
theorem dL_value_22 : decode cL_value 22 = .ok (.ireturn, 1) := by decide +kernel
theorem dL_bestNext_0 : decode cL_bestNext 0 = .ok (.aload_n 3, 1) := by decide +kernel
theorem dL_bestNext_1 : decode cL_bestNext 1 = .ok (.iconst 0, 1) := by decide +kernel
theorem dL_bestNext_2 : decode cL_bestNext 2 = .ok (.aload_n 0, 1) := by decide +kernel
theorem dL_bestNext_3 : decode cL_bestNext 3 = .ok (.iload_n 1, 1) := by decide +kernel
theorem dL_bestNext_4 : decode cL_bestNext 4 = .ok (.iload_n 2, 1) := by decide +kernel
theorem dL_bestNext_5 : decode cL_bestNext 5 = .ok (.invokevirtual 95, 3) := by decide +kernel
theorem dL_bestNext_8 : decode cL_bestNext 8 = .ok (.i2l, 1) := by decide +kernel
theorem dL_bestNext_9 : decode cL_bestNext 9 = .ok (.lastore, 1) := by decide +kernel
theorem dL_bestNext_10 : decode cL_bestNext 10 = .ok (.goto 11, 3) := by decide +kernel
theorem dL_bestNext_13 : decode cL_bestNext 13 = .ok (.astore 4, 2) := by decide +kernel
theorem dL_bestNext_15 : decode cL_bestNext 15 = .ok (.iconst 1, 1) := by decide +kernel
theorem dL_bestNext_16 : decode cL_bestNext 16 = .ok (.ireturn, 1) := by decide +kernel
theorem dL_bestNext_17 : decode cL_bestNext 17 = .ok (.astore 4, 2) := by decide +kernel
theorem dL_bestNext_19 : decode cL_bestNext 19 = .ok (.iconst 2, 1) := by decide +kernel
theorem dL_bestNext_20 : decode cL_bestNext 20 = .ok (.ireturn, 1) := by decide +kernel
theorem dL_bestNext_21 : decode cL_bestNext 21 = .ok (.iconst 0, 1) := by decide +kernel
theorem dL_bestNext_22 : decode cL_bestNext 22 = .ok (.ireturn, 1) := by decide +kernel
theorem dL_step_0 : decode cL_step 0 = .ok (.aload_n 3, 1) := by decide +kernel
theorem dL_step_1 : decode cL_step 1 = .ok (.iconst 0, 1) := by decide +kernel
theorem dL_step_2 : decode cL_step 2 = .ok (.aload_n 0, 1) := by decide +kernel
theorem dL_step_3 : decode cL_step 3 = .ok (.iload_n 1, 1) := by decide +kernel
theorem dL_step_4 : decode cL_step 4 = .ok (.iload_n 2, 1) := by decide +kernel
theorem dL_step_5 : decode cL_step 5 = .ok (.invokevirtual 98, 3) := by decide +kernel
theorem dL_step_8 : decode cL_step 8 = .ok (.i2l, 1) := by decide +kernel
theorem dL_step_9 : decode cL_step 9 = .ok (.lastore, 1) := by decide +kernel
theorem dL_step_10 : decode cL_step 10 = .ok (.goto 11, 3) := by decide +kernel
theorem dL_step_13 : decode cL_step 13 = .ok (.astore 4, 2) := by decide +kernel
theorem dL_step_15 : decode cL_step 15 = .ok (.iconst 1, 1) := by decide +kernel
theorem dL_step_16 : decode cL_step 16 = .ok (.ireturn, 1) := by decide +kernel
theorem dL_step_17 : decode cL_step 17 = .ok (.astore 4, 2) := by decide +kernel
theorem dL_step_19 : decode cL_step 19 = .ok (.iconst 2, 1) := by decide +kernel
theorem dL_step_20 : decode cL_step 20 = .ok (.ireturn, 1) := by decide +kernel
theorem dL_step_21 : decode cL_step 21 = .ok (.iconst 0, 1) := by decide +kernel
theorem dL_step_22 : decode cL_step 22 = .ok (.ireturn, 1) := by decide +kernel
theorem dL_promise_0 : decode cL_promise 0 = .ok (.aload_n 1, 1) := by decide +kernel
theorem dL_promise_1 : decode cL_promise 1 = .ok (.iconst 0, 1) := by decide +kernel
theorem dL_promise_2 : decode cL_promise 2 = .ok (.aload_n 0, 1) := by decide +kernel
theorem dL_promise_3 : decode cL_promise 3 = .ok (.invokevirtual 102, 3) := by decide +kernel
theorem dL_promise_6 : decode cL_promise 6 = .ok (.i2l, 1) := by decide +kernel
theorem dL_promise_7 : decode cL_promise 7 = .ok (.lastore, 1) := by decide +kernel
theorem dL_promise_8 : decode cL_promise 8 = .ok (.goto 6, 3) := by decide +kernel
theorem dL_promise_11 : decode cL_promise 11 = .ok (.astore_n 2, 1) := by decide +kernel
theorem dL_promise_12 : decode cL_promise 12 = .ok (.iconst 1, 1) := by decide +kernel
theorem dL_promise_13 : decode cL_promise 13 = .ok (.ireturn, 1) := by decide +kernel
theorem dL_promise_14 : decode cL_promise 14 = .ok (.iconst 0, 1) := by decide +kernel
theorem dL_promise_15 : decode cL_promise 15 = .ok (.ireturn, 1) := by decide +kernel
theorem dL_grief_0 : decode cL_grief 0 = .ok (.aload_n 2, 1) := by decide +kernel
theorem dL_grief_1 : decode cL_grief 1 = .ok (.iconst 0, 1) := by decide +kernel
theorem dL_grief_2 : decode cL_grief 2 = .ok (.aload_n 0, 1) := by decide +kernel
theorem dL_grief_3 : decode cL_grief 3 = .ok (.iload_n 1, 1) := by decide +kernel
theorem dL_grief_4 : decode cL_grief 4 = .ok (.invokevirtual 105, 3) := by decide +kernel
theorem dL_grief_7 : decode cL_grief 7 = .ok (.i2l, 1) := by decide +kernel
theorem dL_grief_8 : decode cL_grief 8 = .ok (.lastore, 1) := by decide +kernel
theorem dL_grief_9 : decode cL_grief 9 = .ok (.goto 9, 3) := by decide +kernel
theorem dL_grief_12 : decode cL_grief 12 = .ok (.astore_n 3, 1) := by decide +kernel
theorem dL_grief_13 : decode cL_grief 13 = .ok (.iconst 1, 1) := by decide +kernel
theorem dL_grief_14 : decode cL_grief 14 = .ok (.ireturn, 1) := by decide +kernel
theorem dL_grief_15 : decode cL_grief 15 = .ok (.astore_n 3, 1) := by decide +kernel
theorem dL_grief_16 : decode cL_grief 16 = .ok (.iconst 2, 1) := by decide +kernel
theorem dL_grief_17 : decode cL_grief 17 = .ok (.ireturn, 1) := by decide +kernel
theorem dL_grief_18 : decode cL_grief 18 = .ok (.iconst 0, 1) := by decide +kernel
theorem dL_grief_19 : decode cL_grief 19 = .ok (.ireturn, 1) := by decide +kernel
theorem dL_writeRoute_0 : decode cL_writeRoute 0 = .ok (.aload_n 2, 1) := by decide +kernel
theorem dL_writeRoute_1 : decode cL_writeRoute 1 = .ok (.iconst 0, 1) := by decide +kernel
theorem dL_writeRoute_2 : decode cL_writeRoute 2 = .ok (.aload_n 0, 1) := by decide +kernel
theorem dL_writeRoute_3 : decode cL_writeRoute 3 = .ok (.iload_n 1, 1) := by decide +kernel
theorem dL_writeRoute_4 : decode cL_writeRoute 4 = .ok (.invokevirtual 108, 3) := by decide +kernel
theorem dL_writeRoute_7 : decode cL_writeRoute 7 = .ok (.i2l, 1) := by decide +kernel
theorem dL_writeRoute_8 : decode cL_writeRoute 8 = .ok (.lastore, 1) := by decide +kernel
theorem dL_writeRoute_9 : decode cL_writeRoute 9 = .ok (.goto 6, 3) := by decide +kernel
theorem dL_writeRoute_12 : decode cL_writeRoute 12 = .ok (.astore_n 3, 1) := by decide +kernel
theorem dL_writeRoute_13 : decode cL_writeRoute 13 = .ok (.iconst 1, 1) := by decide +kernel
theorem dL_writeRoute_14 : decode cL_writeRoute 14 = .ok (.ireturn, 1) := by decide +kernel
theorem dL_writeRoute_15 : decode cL_writeRoute 15 = .ok (.iconst 0, 1) := by decide +kernel
theorem dL_writeRoute_16 : decode cL_writeRoute 16 = .ok (.ireturn, 1) := by decide +kernel
theorem dL_writtenByte_0 : decode cL_writtenByte 0 = .ok (.aload_n 2, 1) := by decide +kernel
theorem dL_writtenByte_1 : decode cL_writtenByte 1 = .ok (.iconst 0, 1) := by decide +kernel
theorem dL_writtenByte_2 : decode cL_writtenByte 2 = .ok (.aload_n 0, 1) := by decide +kernel
theorem dL_writtenByte_3 : decode cL_writtenByte 3 = .ok (.iload_n 1, 1) := by decide +kernel
theorem dL_writtenByte_4 : decode cL_writtenByte 4 = .ok (.invokevirtual 111, 3) := by decide +kernel
theorem dL_writtenByte_7 : decode cL_writtenByte 7 = .ok (.i2l, 1) := by decide +kernel
theorem dL_writtenByte_8 : decode cL_writtenByte 8 = .ok (.lastore, 1) := by decide +kernel
theorem dL_writtenByte_9 : decode cL_writtenByte 9 = .ok (.goto 6, 3) := by decide +kernel
theorem dL_writtenByte_12 : decode cL_writtenByte 12 = .ok (.astore_n 3, 1) := by decide +kernel
theorem dL_writtenByte_13 : decode cL_writtenByte 13 = .ok (.iconst 1, 1) := by decide +kernel
theorem dL_writtenByte_14 : decode cL_writtenByte 14 = .ok (.ireturn, 1) := by decide +kernel
theorem dL_writtenByte_15 : decode cL_writtenByte 15 = .ok (.iconst 0, 1) := by decide +kernel
theorem dL_writtenByte_16 : decode cL_writtenByte 16 = .ok (.ireturn, 1) := by decide +kernel
theorem dL_undo_0 : decode cL_undo 0 = .ok (.aload_n 1, 1) := by decide +kernel
theorem dL_undo_1 : decode cL_undo 1 = .ok (.iconst 0, 1) := by decide +kernel
theorem dL_undo_2 : decode cL_undo 2 = .ok (.aload_n 0, 1) := by decide +kernel
theorem dL_undo_3 : decode cL_undo 3 = .ok (.invokevirtual 114, 3) := by decide +kernel
theorem dL_undo_6 : decode cL_undo 6 = .ok (.i2l, 1) := by decide +kernel
theorem dL_undo_7 : decode cL_undo 7 = .ok (.lastore, 1) := by decide +kernel
theorem dL_undo_8 : decode cL_undo 8 = .ok (.goto 6, 3) := by decide +kernel

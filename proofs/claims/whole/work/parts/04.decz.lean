theorem dX5_rule_0 : decode cX5_rule 0 = .ok (.iload_n 1, 1) := by decide +kernel
theorem dX5_rule_1 : decode cX5_rule 1 = .ok (.iconst 0, 1) := by decide +kernel
theorem dX5_rule_2 : decode cX5_rule 2 = .ok (.bipush 100, 2) := by decide +kernel
theorem dX5_rule_4 : decode cX5_rule 4 = .ok (.invokestatic 72, 3) := by decide +kernel
theorem dX5_rule_7 : decode cX5_rule 7 = .ok (.ifCond .ne 6, 3) := by decide +kernel
theorem dX5_rule_10 : decode cX5_rule 10 = .ok (.bipush (-102), 2) := by decide +kernel
theorem dX5_rule_12 : decode cX5_rule 12 = .ok (.ireturn, 1) := by decide +kernel
theorem dX5_rule_13 : decode cX5_rule 13 = .ok (.aload_n 0, 1) := by decide +kernel
theorem dX5_rule_14 : decode cX5_rule 14 = .ok (.getfield 65, 3) := by decide +kernel
theorem dX5_rule_17 : decode cX5_rule 17 = .ok (.istore_n 2, 1) := by decide +kernel
theorem dX5_rule_18 : decode cX5_rule 18 = .ok (.aload_n 0, 1) := by decide +kernel
theorem dX5_rule_19 : decode cX5_rule 19 = .ok (.iload_n 1, 1) := by decide +kernel
theorem dX5_rule_20 : decode cX5_rule 20 = .ok (.putfield 65, 3) := by decide +kernel
theorem dX5_rule_23 : decode cX5_rule 23 = .ok (.iload_n 2, 1) := by decide +kernel
theorem dX5_rule_24 : decode cX5_rule 24 = .ok (.ireturn, 1) := by decide +kernel
theorem dX5_goes_0 : decode cX5_goes 0 = .ok (.aload_n 0, 1) := by decide +kernel
theorem dX5_goes_1 : decode cX5_goes 1 = .ok (.getfield 16, 3) := by decide +kernel
theorem dX5_goes_4 : decode cX5_goes 4 = .ok (.iload_n 1, 1) := by decide +kernel
theorem dX5_goes_5 : decode cX5_goes 5 = .ok (.iaload, 1) := by decide +kernel
theorem dX5_goes_6 : decode cX5_goes 6 = .ok (.ifCond .ne 23, 3) := by decide +kernel
theorem dX5_goes_9 : decode cX5_goes 9 = .ok (.aload_n 0, 1) := by decide +kernel
theorem dX5_goes_10 : decode cX5_goes 10 = .ok (.getfield 65, 3) := by decide +kernel
theorem dX5_goes_13 : decode cX5_goes 13 = .ok (.ifCond .eq 12, 3) := by decide +kernel
theorem dX5_goes_16 : decode cX5_goes 16 = .ok (.iload_n 1, 1) := by decide +kernel
theorem dX5_goes_17 : decode cX5_goes 17 = .ok (.aload_n 0, 1) := by decide +kernel
theorem dX5_goes_18 : decode cX5_goes 18 = .ok (.getfield 65, 3) := by decide +kernel
theorem dX5_goes_21 : decode cX5_goes 21 = .ok (.irem, 1) := by decide +kernel
theorem dX5_goes_22 : decode cX5_goes 22 = .ok (.ifCond .eq 7, 3) := by decide +kernel
theorem dX5_goes_25 : decode cX5_goes 25 = .ok (.iconst 1, 1) := by decide +kernel
theorem dX5_goes_26 : decode cX5_goes 26 = .ok (.goto 4, 3) := by decide +kernel
theorem dX5_goes_29 : decode cX5_goes 29 = .ok (.iconst 0, 1) := by decide +kernel
theorem dX5_goes_30 : decode cX5_goes 30 = .ok (.ireturn, 1) := by decide +kernel
theorem dX5_isNeeded_0 : decode cX5_isNeeded 0 = .ok (.aload_n 0, 1) := by decide +kernel
theorem dX5_isNeeded_1 : decode cX5_isNeeded 1 = .ok (.getfield 52, 3) := by decide +kernel
theorem dX5_isNeeded_4 : decode cX5_isNeeded 4 = .ok (.iconst 1, 1) := by decide +kernel
theorem dX5_isNeeded_5 : decode cX5_isNeeded 5 = .ok (.iadd, 1) := by decide +kernel
theorem dX5_isNeeded_6 : decode cX5_isNeeded 6 = .ok (.istore_n 2, 1) := by decide +kernel
theorem dX5_isNeeded_7 : decode cX5_isNeeded 7 = .ok (.iload_n 1, 1) := by decide +kernel
theorem dX5_isNeeded_8 : decode cX5_isNeeded 8 = .ok (.iconst 1, 1) := by decide +kernel
theorem dX5_isNeeded_9 : decode cX5_isNeeded 9 = .ok (.iadd, 1) := by decide +kernel
theorem dX5_isNeeded_10 : decode cX5_isNeeded 10 = .ok (.istore_n 3, 1) := by decide +kernel
theorem dX5_isNeeded_11 : decode cX5_isNeeded 11 = .ok (.iload_n 3, 1) := by decide +kernel
theorem dX5_isNeeded_12 : decode cX5_isNeeded 12 = .ok (.aload_n 0, 1) := by decide +kernel
theorem dX5_isNeeded_13 : decode cX5_isNeeded 13 = .ok (.getfield 59, 3) := by decide +kernel
theorem dX5_isNeeded_16 : decode cX5_isNeeded 16 = .ok (.if_icmp .ge 54, 3) := by decide +kernel
theorem dX5_isNeeded_19 : decode cX5_isNeeded 19 = .ok (.aload_n 0, 1) := by decide +kernel
theorem dX5_isNeeded_20 : decode cX5_isNeeded 20 = .ok (.getfield 40, 3) := by decide +kernel
theorem dX5_isNeeded_23 : decode cX5_isNeeded 23 = .ok (.iload_n 3, 1) := by decide +kernel
theorem dX5_isNeeded_24 : decode cX5_isNeeded 24 = .ok (.iaload, 1) := by decide +kernel
theorem dX5_isNeeded_25 : decode cX5_isNeeded 25 = .ok (.ifCond .ne 37, 3) := by decide +kernel
theorem dX5_isNeeded_28 : decode cX5_isNeeded 28 = .ok (.aload_n 0, 1) := by decide +kernel
theorem dX5_isNeeded_29 : decode cX5_isNeeded 29 = .ok (.getfield 28, 3) := by decide +kernel
theorem dX5_isNeeded_32 : decode cX5_isNeeded 32 = .ok (.iload_n 3, 1) := by decide +kernel
theorem dX5_isNeeded_33 : decode cX5_isNeeded 33 = .ok (.iaload, 1) := by decide +kernel
theorem dX5_isNeeded_34 : decode cX5_isNeeded 34 = .ok (.aload_n 0, 1) := by decide +kernel
theorem dX5_isNeeded_35 : decode cX5_isNeeded 35 = .ok (.getfield 28, 3) := by decide +kernel
theorem dX5_isNeeded_38 : decode cX5_isNeeded 38 = .ok (.iload_n 1, 1) := by decide +kernel
theorem dX5_isNeeded_39 : decode cX5_isNeeded 39 = .ok (.iaload, 1) := by decide +kernel
theorem dX5_isNeeded_40 : decode cX5_isNeeded 40 = .ok (.if_icmp .ne 22, 3) := by decide +kernel
theorem dX5_isNeeded_43 : decode cX5_isNeeded 43 = .ok (.aload_n 0, 1) := by decide +kernel
theorem dX5_isNeeded_44 : decode cX5_isNeeded 44 = .ok (.getfield 31, 3) := by decide +kernel
theorem dX5_isNeeded_47 : decode cX5_isNeeded 47 = .ok (.iload_n 3, 1) := by decide +kernel
theorem dX5_isNeeded_48 : decode cX5_isNeeded 48 = .ok (.iaload, 1) := by decide +kernel
theorem dX5_isNeeded_49 : decode cX5_isNeeded 49 = .ok (.iload_n 2, 1) := by decide +kernel
theorem dX5_isNeeded_50 : decode cX5_isNeeded 50 = .ok (.if_icmp .ge 12, 3) := by decide +kernel
theorem dX5_isNeeded_53 : decode cX5_isNeeded 53 = .ok (.aload_n 0, 1) := by decide +kernel
theorem dX5_isNeeded_54 : decode cX5_isNeeded 54 = .ok (.getfield 31, 3) := by decide +kernel
theorem dX5_isNeeded_57 : decode cX5_isNeeded 57 = .ok (.iload_n 3, 1) := by decide +kernel
theorem dX5_isNeeded_58 : decode cX5_isNeeded 58 = .ok (.iaload, 1) := by decide +kernel
theorem dX5_isNeeded_59 : decode cX5_isNeeded 59 = .ok (.goto 4, 3) := by decide +kernel
theorem dX5_isNeeded_62 : decode cX5_isNeeded 62 = .ok (.iload_n 2, 1) := by decide +kernel
theorem dX5_isNeeded_63 : decode cX5_isNeeded 63 = .ok (.istore_n 2, 1) := by decide +kernel
theorem dX5_isNeeded_64 : decode cX5_isNeeded 64 = .ok (.iinc 3 1, 3) := by decide +kernel
theorem dX5_isNeeded_67 : decode cX5_isNeeded 67 = .ok (.goto (-56), 3) := by decide +kernel
theorem dX5_isNeeded_70 : decode cX5_isNeeded 70 = .ok (.iconst 0, 1) := by decide +kernel
theorem dX5_isNeeded_71 : decode cX5_isNeeded 71 = .ok (.istore_n 3, 1) := by decide +kernel
theorem dX5_isNeeded_72 : decode cX5_isNeeded 72 = .ok (.aload_n 0, 1) := by decide +kernel
theorem dX5_isNeeded_73 : decode cX5_isNeeded 73 = .ok (.getfield 31, 3) := by decide +kernel
theorem dX5_isNeeded_76 : decode cX5_isNeeded 76 = .ok (.iload_n 1, 1) := by decide +kernel
theorem dX5_isNeeded_77 : decode cX5_isNeeded 77 = .ok (.iaload, 1) := by decide +kernel
theorem dX5_isNeeded_78 : decode cX5_isNeeded 78 = .ok (.istore 4, 2) := by decide +kernel
theorem dX5_isNeeded_80 : decode cX5_isNeeded 80 = .ok (.iload 4, 2) := by decide +kernel
theorem dX5_isNeeded_82 : decode cX5_isNeeded 82 = .ok (.iload_n 2, 1) := by decide +kernel
theorem dX5_isNeeded_83 : decode cX5_isNeeded 83 = .ok (.if_icmp .ge 29, 3) := by decide +kernel
theorem dX5_isNeeded_86 : decode cX5_isNeeded 86 = .ok (.iload_n 3, 1) := by decide +kernel
theorem dX5_isNeeded_87 : decode cX5_isNeeded 87 = .ok (.ifCond .ne 13, 3) := by decide +kernel
theorem dX5_isNeeded_90 : decode cX5_isNeeded 90 = .ok (.aload_n 0, 1) := by decide +kernel
theorem dX5_isNeeded_91 : decode cX5_isNeeded 91 = .ok (.getfield 16, 3) := by decide +kernel
theorem dX5_isNeeded_94 : decode cX5_isNeeded 94 = .ok (.iload 4, 2) := by decide +kernel
theorem dX5_isNeeded_96 : decode cX5_isNeeded 96 = .ok (.iaload, 1) := by decide +kernel
theorem dX5_isNeeded_97 : decode cX5_isNeeded 97 = .ok (.ifCond .ne 7, 3) := by decide +kernel
theorem dX5_isNeeded_100 : decode cX5_isNeeded 100 = .ok (.iconst 1, 1) := by decide +kernel
theorem dX5_isNeeded_101 : decode cX5_isNeeded 101 = .ok (.goto 4, 3) := by decide +kernel
theorem dX5_isNeeded_104 : decode cX5_isNeeded 104 = .ok (.iconst 0, 1) := by decide +kernel
theorem dX5_isNeeded_105 : decode cX5_isNeeded 105 = .ok (.istore_n 3, 1) := by decide +kernel
theorem dX5_isNeeded_106 : decode cX5_isNeeded 106 = .ok (.iinc 4 1, 3) := by decide +kernel
theorem dX5_isNeeded_109 : decode cX5_isNeeded 109 = .ok (.goto (-29), 3) := by decide +kernel
theorem dX5_isNeeded_112 : decode cX5_isNeeded 112 = .ok (.iload_n 3, 1) := by decide +kernel
theorem dX5_isNeeded_113 : decode cX5_isNeeded 113 = .ok (.ireturn, 1) := by decide +kernel
theorem dX5_prune_0 : decode cX5_prune 0 = .ok (.aload_n 0, 1) := by decide +kernel
theorem dX5_prune_1 : decode cX5_prune 1 = .ok (.iload_n 1, 1) := by decide +kernel
theorem dX5_prune_2 : decode cX5_prune 2 = .ok (.invokevirtual 94, 3) := by decide +kernel
theorem dX5_prune_5 : decode cX5_prune 5 = .ok (.ifCond .ne 6, 3) := by decide +kernel
theorem dX5_prune_8 : decode cX5_prune 8 = .ok (.bipush (-101), 2) := by decide +kernel
theorem dX5_prune_10 : decode cX5_prune 10 = .ok (.ireturn, 1) := by decide +kernel
theorem dX5_prune_11 : decode cX5_prune 11 = .ok (.iconst 0, 1) := by decide +kernel
theorem dX5_prune_12 : decode cX5_prune 12 = .ok (.istore_n 2, 1) := by decide +kernel
theorem dX5_prune_13 : decode cX5_prune 13 = .ok (.iconst 0, 1) := by decide +kernel
theorem dX5_prune_14 : decode cX5_prune 14 = .ok (.istore_n 3, 1) := by decide +kernel
theorem dX5_prune_15 : decode cX5_prune 15 = .ok (.iload_n 3, 1) := by decide +kernel
theorem dX5_prune_16 : decode cX5_prune 16 = .ok (.iload_n 1, 1) := by decide +kernel
theorem dX5_prune_17 : decode cX5_prune 17 = .ok (.if_icmp .ge 25, 3) := by decide +kernel
theorem dX5_prune_20 : decode cX5_prune 20 = .ok (.iload_n 2, 1) := by decide +kernel
theorem dX5_prune_21 : decode cX5_prune 21 = .ok (.aload_n 0, 1) := by decide +kernel
theorem dX5_prune_22 : decode cX5_prune 22 = .ok (.iload_n 3, 1) := by decide +kernel
theorem dX5_prune_23 : decode cX5_prune 23 = .ok (.invokevirtual 104, 3) := by decide +kernel
theorem dX5_prune_26 : decode cX5_prune 26 = .ok (.ifCond .eq 7, 3) := by decide +kernel
theorem dX5_prune_29 : decode cX5_prune 29 = .ok (.iconst 1, 1) := by decide +kernel
theorem dX5_prune_30 : decode cX5_prune 30 = .ok (.goto 4, 3) := by decide +kernel
theorem dX5_prune_33 : decode cX5_prune 33 = .ok (.iconst 0, 1) := by decide +kernel
theorem dX5_prune_34 : decode cX5_prune 34 = .ok (.iadd, 1) := by decide +kernel
theorem dX5_prune_35 : decode cX5_prune 35 = .ok (.istore_n 2, 1) := by decide +kernel
theorem dX5_prune_36 : decode cX5_prune 36 = .ok (.iinc 3 1, 3) := by decide +kernel
theorem dX5_prune_39 : decode cX5_prune 39 = .ok (.goto (-24), 3) := by decide +kernel
theorem dX5_prune_42 : decode cX5_prune 42 = .ok (.iload_n 2, 1) := by decide +kernel
theorem dX5_prune_43 : decode cX5_prune 43 = .ok (.ifCond .ne 5, 3) := by decide +kernel
theorem dX5_prune_46 : decode cX5_prune 46 = .ok (.iconst 0, 1) := by decide +kernel
theorem dX5_prune_47 : decode cX5_prune 47 = .ok (.ireturn, 1) := by decide +kernel
theorem dX5_prune_48 : decode cX5_prune 48 = .ok (.aload_n 0, 1) := by decide +kernel
theorem dX5_prune_49 : decode cX5_prune 49 = .ok (.getfield 62, 3) := by decide +kernel
theorem dX5_prune_52 : decode cX5_prune 52 = .ok (.bipush 8, 2) := by decide +kernel
theorem dX5_prune_54 : decode cX5_prune 54 = .ok (.if_icmp .ne 6, 3) := by decide +kernel
theorem dX5_prune_57 : decode cX5_prune 57 = .ok (.bipush (-105), 2) := by decide +kernel
theorem dX5_prune_59 : decode cX5_prune 59 = .ok (.ireturn, 1) := by decide +kernel
theorem dX5_prune_60 : decode cX5_prune 60 = .ok (.aload_n 0, 1) := by decide +kernel
theorem dX5_prune_61 : decode cX5_prune 61 = .ok (.dup, 1) := by decide +kernel
theorem dX5_prune_62 : decode cX5_prune 62 = .ok (.getfield 62, 3) := by decide +kernel
theorem dX5_prune_65 : decode cX5_prune 65 = .ok (.iconst 1, 1) := by decide +kernel
theorem dX5_prune_66 : decode cX5_prune 66 = .ok (.iadd, 1) := by decide +kernel
theorem dX5_prune_67 : decode cX5_prune 67 = .ok (.putfield 62, 3) := by decide +kernel
theorem dX5_prune_70 : decode cX5_prune 70 = .ok (.iconst 0, 1) := by decide +kernel
theorem dX5_prune_71 : decode cX5_prune 71 = .ok (.istore_n 3, 1) := by decide +kernel
theorem dX5_prune_72 : decode cX5_prune 72 = .ok (.iload_n 3, 1) := by decide +kernel
theorem dX5_prune_73 : decode cX5_prune 73 = .ok (.iload_n 1, 1) := by decide +kernel
theorem dX5_prune_74 : decode cX5_prune 74 = .ok (.if_icmp .ge 36, 3) := by decide +kernel
theorem dX5_prune_77 : decode cX5_prune 77 = .ok (.aload_n 0, 1) := by decide +kernel
theorem dX5_prune_78 : decode cX5_prune 78 = .ok (.getfield 16, 3) := by decide +kernel
theorem dX5_prune_81 : decode cX5_prune 81 = .ok (.iload_n 3, 1) := by decide +kernel
theorem dX5_prune_82 : decode cX5_prune 82 = .ok (.aload_n 0, 1) := by decide +kernel
theorem dX5_prune_83 : decode cX5_prune 83 = .ok (.iload_n 3, 1) := by decide +kernel
theorem dX5_prune_84 : decode cX5_prune 84 = .ok (.invokevirtual 104, 3) := by decide +kernel
theorem dX5_prune_87 : decode cX5_prune 87 = .ok (.ifCond .eq 10, 3) := by decide +kernel
theorem dX5_prune_90 : decode cX5_prune 90 = .ok (.aload_n 0, 1) := by decide +kernel
theorem dX5_prune_91 : decode cX5_prune 91 = .ok (.getfield 62, 3) := by decide +kernel
theorem dX5_prune_94 : decode cX5_prune 94 = .ok (.goto 9, 3) := by decide +kernel
theorem dX5_prune_97 : decode cX5_prune 97 = .ok (.aload_n 0, 1) := by decide +kernel
theorem dX5_prune_98 : decode cX5_prune 98 = .ok (.getfield 16, 3) := by decide +kernel
theorem dX5_prune_101 : decode cX5_prune 101 = .ok (.iload_n 3, 1) := by decide +kernel
theorem dX5_prune_102 : decode cX5_prune 102 = .ok (.iaload, 1) := by decide +kernel
theorem dX5_prune_103 : decode cX5_prune 103 = .ok (.iastore, 1) := by decide +kernel
theorem dX5_prune_104 : decode cX5_prune 104 = .ok (.iinc 3 1, 3) := by decide +kernel
theorem dX5_prune_107 : decode cX5_prune 107 = .ok (.goto (-35), 3) := by decide +kernel
theorem dX5_prune_110 : decode cX5_prune 110 = .ok (.iconst 0, 1) := by decide +kernel
theorem dX5_prune_111 : decode cX5_prune 111 = .ok (.istore_n 3, 1) := by decide +kernel
theorem dX5_prune_112 : decode cX5_prune 112 = .ok (.iload_n 3, 1) := by decide +kernel
theorem dX5_prune_113 : decode cX5_prune 113 = .ok (.aload_n 0, 1) := by decide +kernel
theorem dX5_prune_114 : decode cX5_prune 114 = .ok (.getfield 59, 3) := by decide +kernel
theorem dX5_prune_117 : decode cX5_prune 117 = .ok (.if_icmp .ge 36, 3) := by decide +kernel
theorem dX5_prune_120 : decode cX5_prune 120 = .ok (.aload_n 0, 1) := by decide +kernel
theorem dX5_prune_121 : decode cX5_prune 121 = .ok (.getfield 40, 3) := by decide +kernel
theorem dX5_prune_124 : decode cX5_prune 124 = .ok (.iload_n 3, 1) := by decide +kernel
theorem dX5_prune_125 : decode cX5_prune 125 = .ok (.iaload, 1) := by decide +kernel
theorem dX5_prune_126 : decode cX5_prune 126 = .ok (.ifCond .ne 21, 3) := by decide +kernel
theorem dX5_prune_129 : decode cX5_prune 129 = .ok (.aload_n 0, 1) := by decide +kernel
theorem dX5_prune_130 : decode cX5_prune 130 = .ok (.iload_n 3, 1) := by decide +kernel
theorem dX5_prune_131 : decode cX5_prune 131 = .ok (.invokevirtual 107, 3) := by decide +kernel
theorem dX5_prune_134 : decode cX5_prune 134 = .ok (.ifCond .ne 13, 3) := by decide +kernel
theorem dX5_prune_137 : decode cX5_prune 137 = .ok (.aload_n 0, 1) := by decide +kernel
theorem dX5_prune_138 : decode cX5_prune 138 = .ok (.getfield 40, 3) := by decide +kernel
theorem dX5_prune_141 : decode cX5_prune 141 = .ok (.iload_n 3, 1) := by decide +kernel
theorem dX5_prune_142 : decode cX5_prune 142 = .ok (.aload_n 0, 1) := by decide +kernel
theorem dX5_prune_143 : decode cX5_prune 143 = .ok (.getfield 62, 3) := by decide +kernel
theorem dX5_prune_146 : decode cX5_prune 146 = .ok (.iastore, 1) := by decide +kernel
theorem dX5_prune_147 : decode cX5_prune 147 = .ok (.iinc 3 1, 3) := by decide +kernel
theorem dX5_prune_150 : decode cX5_prune 150 = .ok (.goto (-38), 3) := by decide +kernel
theorem dX5_prune_153 : decode cX5_prune 153 = .ok (.iload_n 2, 1) := by decide +kernel
theorem dX5_prune_154 : decode cX5_prune 154 = .ok (.ireturn, 1) := by decide +kernel
theorem dX5_pruned_0 : decode cX5_pruned 0 = .ok (.aload_n 0, 1) := by decide +kernel
theorem dX5_pruned_1 : decode cX5_pruned 1 = .ok (.iload_n 1, 1) := by decide +kernel
theorem dX5_pruned_2 : decode cX5_pruned 2 = .ok (.invokevirtual 94, 3) := by decide +kernel
theorem dX5_pruned_5 : decode cX5_pruned 5 = .ok (.ifCond .ne 8, 3) := by decide +kernel
theorem dX5_pruned_8 : decode cX5_pruned 8 = .ok (.bipush (-101), 2) := by decide +kernel
theorem dX5_pruned_10 : decode cX5_pruned 10 = .ok (.goto 17, 3) := by decide +kernel
theorem dX5_pruned_13 : decode cX5_pruned 13 = .ok (.aload_n 0, 1) := by decide +kernel
theorem dX5_pruned_14 : decode cX5_pruned 14 = .ok (.getfield 16, 3) := by decide +kernel
theorem dX5_pruned_17 : decode cX5_pruned 17 = .ok (.iload_n 1, 1) := by decide +kernel
theorem dX5_pruned_18 : decode cX5_pruned 18 = .ok (.iaload, 1) := by decide +kernel
theorem dX5_pruned_19 : decode cX5_pruned 19 = .ok (.ifCond .le 7, 3) := by decide +kernel
theorem dX5_pruned_22 : decode cX5_pruned 22 = .ok (.iconst 1, 1) := by decide +kernel
theorem dX5_pruned_23 : decode cX5_pruned 23 = .ok (.goto 4, 3) := by decide +kernel
theorem dX5_pruned_26 : decode cX5_pruned 26 = .ok (.iconst 0, 1) := by decide +kernel
theorem dX5_pruned_27 : decode cX5_pruned 27 = .ok (.ireturn, 1) := by decide +kernel
theorem dX5_rowsIn_0 : decode cX5_rowsIn 0 = .ok (.iconst 0, 1) := by decide +kernel
theorem dX5_rowsIn_1 : decode cX5_rowsIn 1 = .ok (.istore_n 2, 1) := by decide +kernel
theorem dX5_rowsIn_2 : decode cX5_rowsIn 2 = .ok (.iconst 0, 1) := by decide +kernel
theorem dX5_rowsIn_3 : decode cX5_rowsIn 3 = .ok (.istore_n 3, 1) := by decide +kernel
theorem dX5_rowsIn_4 : decode cX5_rowsIn 4 = .ok (.iload_n 3, 1) := by decide +kernel
theorem dX5_rowsIn_5 : decode cX5_rowsIn 5 = .ok (.aload_n 0, 1) := by decide +kernel
theorem dX5_rowsIn_6 : decode cX5_rowsIn 6 = .ok (.getfield 59, 3) := by decide +kernel
theorem dX5_rowsIn_9 : decode cX5_rowsIn 9 = .ok (.if_icmp .ge 27, 3) := by decide +kernel
theorem dX5_rowsIn_12 : decode cX5_rowsIn 12 = .ok (.iload_n 2, 1) := by decide +kernel
theorem dX5_rowsIn_13 : decode cX5_rowsIn 13 = .ok (.aload_n 0, 1) := by decide +kernel
theorem dX5_rowsIn_14 : decode cX5_rowsIn 14 = .ok (.getfield 40, 3) := by decide +kernel
theorem dX5_rowsIn_17 : decode cX5_rowsIn 17 = .ok (.iload_n 3, 1) := by decide +kernel
theorem dX5_rowsIn_18 : decode cX5_rowsIn 18 = .ok (.iaload, 1) := by decide +kernel
theorem dX5_rowsIn_19 : decode cX5_rowsIn 19 = .ok (.iload_n 1, 1) := by decide +kernel
theorem dX5_rowsIn_20 : decode cX5_rowsIn 20 = .ok (.if_icmp .ne 7, 3) := by decide +kernel
theorem dX5_rowsIn_23 : decode cX5_rowsIn 23 = .ok (.iconst 1, 1) := by decide +kernel
theorem dX5_rowsIn_24 : decode cX5_rowsIn 24 = .ok (.goto 4, 3) := by decide +kernel
theorem dX5_rowsIn_27 : decode cX5_rowsIn 27 = .ok (.iconst 0, 1) := by decide +kernel
theorem dX5_rowsIn_28 : decode cX5_rowsIn 28 = .ok (.iadd, 1) := by decide +kernel
theorem dX5_rowsIn_29 : decode cX5_rowsIn 29 = .ok (.istore_n 2, 1) := by decide +kernel
theorem dX5_rowsIn_30 : decode cX5_rowsIn 30 = .ok (.iinc 3 1, 3) := by decide +kernel
theorem dX5_rowsIn_33 : decode cX5_rowsIn 33 = .ok (.goto (-29), 3) := by decide +kernel
theorem dX5_rowsIn_36 : decode cX5_rowsIn 36 = .ok (.iload_n 2, 1) := by decide +kernel
theorem dX5_rowsIn_37 : decode cX5_rowsIn 37 = .ok (.ireturn, 1) := by decide +kernel
theorem dX5_heightsBy_0 : decode cX5_heightsBy 0 = .ok (.iconst 0, 1) := by decide +kernel
theorem dX5_heightsBy_1 : decode cX5_heightsBy 1 = .ok (.istore_n 2, 1) := by decide +kernel
theorem dX5_heightsBy_2 : decode cX5_heightsBy 2 = .ok (.iconst 0, 1) := by decide +kernel
theorem dX5_heightsBy_3 : decode cX5_heightsBy 3 = .ok (.istore_n 3, 1) := by decide +kernel
theorem dX5_heightsBy_4 : decode cX5_heightsBy 4 = .ok (.iload_n 3, 1) := by decide +kernel
theorem dX5_heightsBy_5 : decode cX5_heightsBy 5 = .ok (.aload_n 0, 1) := by decide +kernel
theorem dX5_heightsBy_6 : decode cX5_heightsBy 6 = .ok (.getfield 52, 3) := by decide +kernel
theorem dX5_heightsBy_9 : decode cX5_heightsBy 9 = .ok (.if_icmp .gt 27, 3) := by decide +kernel
theorem dX5_heightsBy_12 : decode cX5_heightsBy 12 = .ok (.iload_n 2, 1) := by decide +kernel
theorem dX5_heightsBy_13 : decode cX5_heightsBy 13 = .ok (.aload_n 0, 1) := by decide +kernel
theorem dX5_heightsBy_14 : decode cX5_heightsBy 14 = .ok (.getfield 16, 3) := by decide +kernel
theorem dX5_heightsBy_17 : decode cX5_heightsBy 17 = .ok (.iload_n 3, 1) := by decide +kernel
theorem dX5_heightsBy_18 : decode cX5_heightsBy 18 = .ok (.iaload, 1) := by decide +kernel
theorem dX5_heightsBy_19 : decode cX5_heightsBy 19 = .ok (.iload_n 1, 1) := by decide +kernel
theorem dX5_heightsBy_20 : decode cX5_heightsBy 20 = .ok (.if_icmp .ne 7, 3) := by decide +kernel
theorem dX5_heightsBy_23 : decode cX5_heightsBy 23 = .ok (.iconst 1, 1) := by decide +kernel
theorem dX5_heightsBy_24 : decode cX5_heightsBy 24 = .ok (.goto 4, 3) := by decide +kernel
theorem dX5_heightsBy_27 : decode cX5_heightsBy 27 = .ok (.iconst 0, 1) := by decide +kernel
theorem dX5_heightsBy_28 : decode cX5_heightsBy 28 = .ok (.iadd, 1) := by decide +kernel
theorem dX5_heightsBy_29 : decode cX5_heightsBy 29 = .ok (.istore_n 2, 1) := by decide +kernel
theorem dX5_heightsBy_30 : decode cX5_heightsBy 30 = .ok (.iinc 3 1, 3) := by decide +kernel
theorem dX5_heightsBy_33 : decode cX5_heightsBy 33 = .ok (.goto (-29), 3) := by decide +kernel
theorem dX5_heightsBy_36 : decode cX5_heightsBy 36 = .ok (.iload_n 2, 1) := by decide +kernel
theorem dX5_heightsBy_37 : decode cX5_heightsBy 37 = .ok (.ireturn, 1) := by decide +kernel
theorem dX5_bring_0 : decode cX5_bring 0 = .ok (.aload_n 0, 1) := by decide +kernel
theorem dX5_bring_1 : decode cX5_bring 1 = .ok (.getfield 62, 3) := by decide +kernel
theorem dX5_bring_4 : decode cX5_bring 4 = .ok (.ifCond .ne 6, 3) := by decide +kernel
theorem dX5_bring_7 : decode cX5_bring 7 = .ok (.bipush (-103), 2) := by decide +kernel
theorem dX5_bring_9 : decode cX5_bring 9 = .ok (.ireturn, 1) := by decide +kernel
theorem dX5_bring_10 : decode cX5_bring 10 = .ok (.iconst 0, 1) := by decide +kernel
theorem dX5_bring_11 : decode cX5_bring 11 = .ok (.istore_n 1, 1) := by decide +kernel
theorem dX5_bring_12 : decode cX5_bring 12 = .ok (.iconst 0, 1) := by decide +kernel
theorem dX5_bring_13 : decode cX5_bring 13 = .ok (.istore_n 2, 1) := by decide +kernel
theorem dX5_bring_14 : decode cX5_bring 14 = .ok (.iload_n 2, 1) := by decide +kernel
theorem dX5_bring_15 : decode cX5_bring 15 = .ok (.aload_n 0, 1) := by decide +kernel
theorem dX5_bring_16 : decode cX5_bring 16 = .ok (.getfield 59, 3) := by decide +kernel
theorem dX5_bring_19 : decode cX5_bring 19 = .ok (.if_icmp .ge 32, 3) := by decide +kernel
theorem dX5_bring_22 : decode cX5_bring 22 = .ok (.aload_n 0, 1) := by decide +kernel
theorem dX5_bring_23 : decode cX5_bring 23 = .ok (.getfield 40, 3) := by decide +kernel
theorem dX5_bring_26 : decode cX5_bring 26 = .ok (.iload_n 2, 1) := by decide +kernel
theorem dX5_bring_27 : decode cX5_bring 27 = .ok (.iaload, 1) := by decide +kernel
theorem dX5_bring_28 : decode cX5_bring 28 = .ok (.aload_n 0, 1) := by decide +kernel
theorem dX5_bring_29 : decode cX5_bring 29 = .ok (.getfield 62, 3) := by decide +kernel
theorem dX5_bring_32 : decode cX5_bring 32 = .ok (.if_icmp .ne 13, 3) := by decide +kernel
theorem dX5_bring_35 : decode cX5_bring 35 = .ok (.aload_n 0, 1) := by decide +kernel
theorem dX5_bring_36 : decode cX5_bring 36 = .ok (.getfield 40, 3) := by decide +kernel
theorem dX5_bring_39 : decode cX5_bring 39 = .ok (.iload_n 2, 1) := by decide +kernel
theorem dX5_bring_40 : decode cX5_bring 40 = .ok (.iconst 0, 1) := by decide +kernel
theorem dX5_bring_41 : decode cX5_bring 41 = .ok (.iastore, 1) := by decide +kernel
theorem dX5_bring_42 : decode cX5_bring 42 = .ok (.iinc 1 1, 3) := by decide +kernel
theorem dX5_bring_45 : decode cX5_bring 45 = .ok (.iinc 2 1, 3) := by decide +kernel
theorem dX5_bring_48 : decode cX5_bring 48 = .ok (.goto (-34), 3) := by decide +kernel
theorem dX5_bring_51 : decode cX5_bring 51 = .ok (.iconst 0, 1) := by decide +kernel
theorem dX5_bring_52 : decode cX5_bring 52 = .ok (.istore_n 2, 1) := by decide +kernel
theorem dX5_bring_53 : decode cX5_bring 53 = .ok (.iload_n 2, 1) := by decide +kernel
theorem dX5_bring_54 : decode cX5_bring 54 = .ok (.aload_n 0, 1) := by decide +kernel
theorem dX5_bring_55 : decode cX5_bring 55 = .ok (.getfield 52, 3) := by decide +kernel
theorem dX5_bring_58 : decode cX5_bring 58 = .ok (.if_icmp .gt 38, 3) := by decide +kernel
theorem dX5_bring_61 : decode cX5_bring 61 = .ok (.aload_n 0, 1) := by decide +kernel
theorem dX5_bring_62 : decode cX5_bring 62 = .ok (.getfield 16, 3) := by decide +kernel
theorem dX5_bring_65 : decode cX5_bring 65 = .ok (.iload_n 2, 1) := by decide +kernel
theorem dX5_bring_66 : decode cX5_bring 66 = .ok (.aload_n 0, 1) := by decide +kernel
theorem dX5_bring_67 : decode cX5_bring 67 = .ok (.getfield 16, 3) := by decide +kernel
theorem dX5_bring_70 : decode cX5_bring 70 = .ok (.iload_n 2, 1) := by decide +kernel
theorem dX5_bring_71 : decode cX5_bring 71 = .ok (.iaload, 1) := by decide +kernel
theorem dX5_bring_72 : decode cX5_bring 72 = .ok (.aload_n 0, 1) := by decide +kernel
theorem dX5_bring_73 : decode cX5_bring 73 = .ok (.getfield 62, 3) := by decide +kernel
theorem dX5_bring_76 : decode cX5_bring 76 = .ok (.if_icmp .ne 7, 3) := by decide +kernel
theorem dX5_bring_79 : decode cX5_bring 79 = .ok (.iconst 0, 1) := by decide +kernel
theorem dX5_bring_80 : decode cX5_bring 80 = .ok (.goto 9, 3) := by decide +kernel
theorem dX5_bring_83 : decode cX5_bring 83 = .ok (.aload_n 0, 1) := by decide +kernel
theorem dX5_bring_84 : decode cX5_bring 84 = .ok (.getfield 16, 3) := by decide +kernel
theorem dX5_bring_87 : decode cX5_bring 87 = .ok (.iload_n 2, 1) := by decide +kernel
theorem dX5_bring_88 : decode cX5_bring 88 = .ok (.iaload, 1) := by decide +kernel
theorem dX5_bring_89 : decode cX5_bring 89 = .ok (.iastore, 1) := by decide +kernel
theorem dX5_bring_90 : decode cX5_bring 90 = .ok (.iinc 2 1, 3) := by decide +kernel
theorem dX5_bring_93 : decode cX5_bring 93 = .ok (.goto (-40), 3) := by decide +kernel
theorem dX5_bring_96 : decode cX5_bring 96 = .ok (.aload_n 0, 1) := by decide +kernel
theorem dX5_bring_97 : decode cX5_bring 97 = .ok (.dup, 1) := by decide +kernel
theorem dX5_bring_98 : decode cX5_bring 98 = .ok (.getfield 62, 3) := by decide +kernel
theorem dX5_bring_101 : decode cX5_bring 101 = .ok (.iconst 1, 1) := by decide +kernel
theorem dX5_bring_102 : decode cX5_bring 102 = .ok (.isub, 1) := by decide +kernel
theorem dX5_bring_103 : decode cX5_bring 103 = .ok (.putfield 62, 3) := by decide +kernel
theorem dX5_bring_106 : decode cX5_bring 106 = .ok (.iload_n 1, 1) := by decide +kernel
theorem dX5_bring_107 : decode cX5_bring 107 = .ok (.ireturn, 1) := by decide +kernel
theorem dX5_squeeze_0 : decode cX5_squeeze 0 = .ok (.iconst 0, 1) := by decide +kernel
theorem dX5_squeeze_1 : decode cX5_squeeze 1 = .ok (.istore_n 2, 1) := by decide +kernel
theorem dX5_squeeze_2 : decode cX5_squeeze 2 = .ok (.iconst 0, 1) := by decide +kernel
theorem dX5_squeeze_3 : decode cX5_squeeze 3 = .ok (.istore_n 3, 1) := by decide +kernel
theorem dX5_squeeze_4 : decode cX5_squeeze 4 = .ok (.iload_n 3, 1) := by decide +kernel
theorem dX5_squeeze_5 : decode cX5_squeeze 5 = .ok (.aload_n 0, 1) := by decide +kernel
theorem dX5_squeeze_6 : decode cX5_squeeze 6 = .ok (.getfield 59, 3) := by decide +kernel
theorem dX5_squeeze_9 : decode cX5_squeeze 9 = .ok (.if_icmp .ge 86, 3) := by decide +kernel
theorem dX5_squeeze_12 : decode cX5_squeeze 12 = .ok (.aload_n 0, 1) := by decide +kernel
theorem dX5_squeeze_13 : decode cX5_squeeze 13 = .ok (.getfield 40, 3) := by decide +kernel
theorem dX5_squeeze_16 : decode cX5_squeeze 16 = .ok (.iload_n 3, 1) := by decide +kernel
theorem dX5_squeeze_17 : decode cX5_squeeze 17 = .ok (.iaload, 1) := by decide +kernel
theorem dX5_squeeze_18 : decode cX5_squeeze 18 = .ok (.ifCond .ne 71, 3) := by decide +kernel
theorem dX5_squeeze_21 : decode cX5_squeeze 21 = .ok (.aload_n 0, 1) := by decide +kernel
theorem dX5_squeeze_22 : decode cX5_squeeze 22 = .ok (.getfield 31, 3) := by decide +kernel
theorem dX5_squeeze_25 : decode cX5_squeeze 25 = .ok (.iload_n 3, 1) := by decide +kernel
theorem dX5_squeeze_26 : decode cX5_squeeze 26 = .ok (.iaload, 1) := by decide +kernel
theorem dX5_squeeze_27 : decode cX5_squeeze 27 = .ok (.iload_n 1, 1) := by decide +kernel
theorem dX5_squeeze_28 : decode cX5_squeeze 28 = .ok (.if_icmp .gt 61, 3) := by decide +kernel
theorem dX5_squeeze_31 : decode cX5_squeeze 31 = .ok (.aload_n 0, 1) := by decide +kernel
theorem dX5_squeeze_32 : decode cX5_squeeze 32 = .ok (.getfield 28, 3) := by decide +kernel
theorem dX5_squeeze_35 : decode cX5_squeeze 35 = .ok (.iload_n 2, 1) := by decide +kernel
theorem dX5_squeeze_36 : decode cX5_squeeze 36 = .ok (.aload_n 0, 1) := by decide +kernel
theorem dX5_squeeze_37 : decode cX5_squeeze 37 = .ok (.getfield 28, 3) := by decide +kernel
theorem dX5_squeeze_40 : decode cX5_squeeze 40 = .ok (.iload_n 3, 1) := by decide +kernel
theorem dX5_squeeze_41 : decode cX5_squeeze 41 = .ok (.iaload, 1) := by decide +kernel
theorem dX5_squeeze_42 : decode cX5_squeeze 42 = .ok (.iastore, 1) := by decide +kernel
theorem dX5_squeeze_43 : decode cX5_squeeze 43 = .ok (.aload_n 0, 1) := by decide +kernel
theorem dX5_squeeze_44 : decode cX5_squeeze 44 = .ok (.getfield 31, 3) := by decide +kernel
theorem dX5_squeeze_47 : decode cX5_squeeze 47 = .ok (.iload_n 2, 1) := by decide +kernel
theorem dX5_squeeze_48 : decode cX5_squeeze 48 = .ok (.aload_n 0, 1) := by decide +kernel
theorem dX5_squeeze_49 : decode cX5_squeeze 49 = .ok (.getfield 31, 3) := by decide +kernel
theorem dX5_squeeze_52 : decode cX5_squeeze 52 = .ok (.iload_n 3, 1) := by decide +kernel
theorem dX5_squeeze_53 : decode cX5_squeeze 53 = .ok (.iaload, 1) := by decide +kernel
theorem dX5_squeeze_54 : decode cX5_squeeze 54 = .ok (.iastore, 1) := by decide +kernel
theorem dX5_squeeze_55 : decode cX5_squeeze 55 = .ok (.aload_n 0, 1) := by decide +kernel
theorem dX5_squeeze_56 : decode cX5_squeeze 56 = .ok (.getfield 34, 3) := by decide +kernel
theorem dX5_squeeze_59 : decode cX5_squeeze 59 = .ok (.iload_n 2, 1) := by decide +kernel
theorem dX5_squeeze_60 : decode cX5_squeeze 60 = .ok (.aload_n 0, 1) := by decide +kernel
theorem dX5_squeeze_61 : decode cX5_squeeze 61 = .ok (.getfield 34, 3) := by decide +kernel
theorem dX5_squeeze_64 : decode cX5_squeeze 64 = .ok (.iload_n 3, 1) := by decide +kernel
theorem dX5_squeeze_65 : decode cX5_squeeze 65 = .ok (.iaload, 1) := by decide +kernel
theorem dX5_squeeze_66 : decode cX5_squeeze 66 = .ok (.iastore, 1) := by decide +kernel
theorem dX5_squeeze_67 : decode cX5_squeeze 67 = .ok (.aload_n 0, 1) := by decide +kernel
theorem dX5_squeeze_68 : decode cX5_squeeze 68 = .ok (.getfield 37, 3) := by decide +kernel
theorem dX5_squeeze_71 : decode cX5_squeeze 71 = .ok (.iload_n 2, 1) := by decide +kernel
theorem dX5_squeeze_72 : decode cX5_squeeze 72 = .ok (.aload_n 0, 1) := by decide +kernel
theorem dX5_squeeze_73 : decode cX5_squeeze 73 = .ok (.getfield 37, 3) := by decide +kernel
theorem dX5_squeeze_76 : decode cX5_squeeze 76 = .ok (.iload_n 3, 1) := by decide +kernel
theorem dX5_squeeze_77 : decode cX5_squeeze 77 = .ok (.iaload, 1) := by decide +kernel
theorem dX5_squeeze_78 : decode cX5_squeeze 78 = .ok (.iastore, 1) := by decide +kernel
theorem dX5_squeeze_79 : decode cX5_squeeze 79 = .ok (.aload_n 0, 1) := by decide +kernel
theorem dX5_squeeze_80 : decode cX5_squeeze 80 = .ok (.getfield 40, 3) := by decide +kernel
theorem dX5_squeeze_83 : decode cX5_squeeze 83 = .ok (.iload_n 2, 1) := by decide +kernel
theorem dX5_squeeze_84 : decode cX5_squeeze 84 = .ok (.iconst 0, 1) := by decide +kernel
theorem dX5_squeeze_85 : decode cX5_squeeze 85 = .ok (.iastore, 1) := by decide +kernel
theorem dX5_squeeze_86 : decode cX5_squeeze 86 = .ok (.iinc 2 1, 3) := by decide +kernel
theorem dX5_squeeze_89 : decode cX5_squeeze 89 = .ok (.iinc 3 1, 3) := by decide +kernel
theorem dX5_squeeze_92 : decode cX5_squeeze 92 = .ok (.goto (-88), 3) := by decide +kernel
theorem dX5_squeeze_95 : decode cX5_squeeze 95 = .ok (.aload_n 0, 1) := by decide +kernel
theorem dX5_squeeze_96 : decode cX5_squeeze 96 = .ok (.getfield 59, 3) := by decide +kernel
theorem dX5_squeeze_99 : decode cX5_squeeze 99 = .ok (.iload_n 2, 1) := by decide +kernel
theorem dX5_squeeze_100 : decode cX5_squeeze 100 = .ok (.isub, 1) := by decide +kernel
theorem dX5_squeeze_101 : decode cX5_squeeze 101 = .ok (.istore_n 3, 1) := by decide +kernel
theorem dX5_squeeze_102 : decode cX5_squeeze 102 = .ok (.aload_n 0, 1) := by decide +kernel
theorem dX5_squeeze_103 : decode cX5_squeeze 103 = .ok (.iload_n 2, 1) := by decide +kernel
theorem dX5_squeeze_104 : decode cX5_squeeze 104 = .ok (.putfield 59, 3) := by decide +kernel
theorem dX5_squeeze_107 : decode cX5_squeeze 107 = .ok (.iload_n 3, 1) := by decide +kernel
theorem dX5_squeeze_108 : decode cX5_squeeze 108 = .ok (.ireturn, 1) := by decide +kernel
theorem dX5_forget_0 : decode cX5_forget 0 = .ok (.iconst 0, 1) := by decide +kernel
theorem dX5_forget_1 : decode cX5_forget 1 = .ok (.istore_n 1, 1) := by decide +kernel
theorem dX5_forget_2 : decode cX5_forget 2 = .ok (.iload_n 1, 1) := by decide +kernel
theorem dX5_forget_3 : decode cX5_forget 3 = .ok (.aload_n 0, 1) := by decide +kernel
theorem dX5_forget_4 : decode cX5_forget 4 = .ok (.getfield 52, 3) := by decide +kernel
theorem dX5_forget_7 : decode cX5_forget 7 = .ok (.if_icmp .gt 30, 3) := by decide +kernel
theorem dX5_forget_10 : decode cX5_forget 10 = .ok (.aload_n 0, 1) := by decide +kernel
theorem dX5_forget_11 : decode cX5_forget 11 = .ok (.getfield 16, 3) := by decide +kernel
theorem dX5_forget_14 : decode cX5_forget 14 = .ok (.iload_n 1, 1) := by decide +kernel
theorem dX5_forget_15 : decode cX5_forget 15 = .ok (.aload_n 0, 1) := by decide +kernel
theorem dX5_forget_16 : decode cX5_forget 16 = .ok (.getfield 16, 3) := by decide +kernel
theorem dX5_forget_19 : decode cX5_forget 19 = .ok (.iload_n 1, 1) := by decide +kernel
theorem dX5_forget_20 : decode cX5_forget 20 = .ok (.iaload, 1) := by decide +kernel
theorem dX5_forget_21 : decode cX5_forget 21 = .ok (.ifCond .le 8, 3) := by decide +kernel
theorem dX5_forget_24 : decode cX5_forget 24 = .ok (.bipush 9, 2) := by decide +kernel
theorem dX5_forget_26 : decode cX5_forget 26 = .ok (.goto 4, 3) := by decide +kernel
theorem dX5_forget_29 : decode cX5_forget 29 = .ok (.iconst 0, 1) := by decide +kernel
theorem dX5_forget_30 : decode cX5_forget 30 = .ok (.iastore, 1) := by decide +kernel
theorem dX5_forget_31 : decode cX5_forget 31 = .ok (.iinc 1 1, 3) := by decide +kernel
theorem dX5_forget_34 : decode cX5_forget 34 = .ok (.goto (-32), 3) := by decide +kernel
theorem dX5_forget_37 : decode cX5_forget 37 = .ok (.aload_n 0, 1) := by decide +kernel
theorem dX5_forget_38 : decode cX5_forget 38 = .ok (.iconst 0, 1) := by decide +kernel
theorem dX5_forget_39 : decode cX5_forget 39 = .ok (.putfield 62, 3) := by decide +kernel
theorem dX5_forget_42 : decode cX5_forget 42 = .ok (.aload_n 0, 1) := by decide +kernel
theorem dX5_forget_43 : decode cX5_forget 43 = .ok (.aload_n 0, 1) := by decide +kernel
theorem dX5_forget_44 : decode cX5_forget 44 = .ok (.getfield 52, 3) := by decide +kernel
theorem dX5_forget_47 : decode cX5_forget 47 = .ok (.invokevirtual 110, 3) := by decide +kernel
theorem dX5_forget_50 : decode cX5_forget 50 = .ok (.ireturn, 1) := by decide +kernel
theorem dX5_archive_0 : decode cX5_archive 0 = .ok (.iload_n 1, 1) := by decide +kernel
theorem dX5_archive_1 : decode cX5_archive 1 = .ok (.iconst 0, 1) := by decide +kernel
theorem dX5_archive_2 : decode cX5_archive 2 = .ok (.aload_n 0, 1) := by decide +kernel
theorem dX5_archive_3 : decode cX5_archive 3 = .ok (.getfield 62, 3) := by decide +kernel
theorem dX5_archive_6 : decode cX5_archive 6 = .ok (.iconst 1, 1) := by decide +kernel
theorem dX5_archive_7 : decode cX5_archive 7 = .ok (.isub, 1) := by decide +kernel
theorem dX5_archive_8 : decode cX5_archive 8 = .ok (.invokestatic 72, 3) := by decide +kernel
theorem dX5_archive_11 : decode cX5_archive 11 = .ok (.ifCond .ne 6, 3) := by decide +kernel
theorem dX5_archive_14 : decode cX5_archive 14 = .ok (.bipush (-101), 2) := by decide +kernel
theorem dX5_archive_16 : decode cX5_archive 16 = .ok (.ireturn, 1) := by decide +kernel
theorem dX5_archive_17 : decode cX5_archive 17 = .ok (.iload_n 2, 1) := by decide +kernel
theorem dX5_archive_18 : decode cX5_archive 18 = .ok (.ifCond .ne 13, 3) := by decide +kernel
theorem dX5_archive_21 : decode cX5_archive 21 = .ok (.aload_n 0, 1) := by decide +kernel
theorem dX5_archive_22 : decode cX5_archive 22 = .ok (.iconst 1, 1) := by decide +kernel
theorem dX5_archive_23 : decode cX5_archive 23 = .ok (.iload_n 1, 1) := by decide +kernel
theorem dX5_archive_24 : decode cX5_archive 24 = .ok (.iadd, 1) := by decide +kernel
theorem dX5_archive_25 : decode cX5_archive 25 = .ok (.invokevirtual 113, 3) := by decide +kernel
theorem dX5_archive_28 : decode cX5_archive 28 = .ok (.goto 20, 3) := by decide +kernel
theorem dX5_archive_31 : decode cX5_archive 31 = .ok (.iload_n 2, 1) := by decide +kernel
theorem dX5_archive_32 : decode cX5_archive 32 = .ok (.iconst 1, 1) := by decide +kernel
theorem dX5_archive_33 : decode cX5_archive 33 = .ok (.if_icmp .ne 13, 3) := by decide +kernel
theorem dX5_archive_36 : decode cX5_archive 36 = .ok (.aload_n 0, 1) := by decide +kernel
theorem dX5_archive_37 : decode cX5_archive 37 = .ok (.iconst 1, 1) := by decide +kernel
theorem dX5_archive_38 : decode cX5_archive 38 = .ok (.iload_n 1, 1) := by decide +kernel
theorem dX5_archive_39 : decode cX5_archive 39 = .ok (.iadd, 1) := by decide +kernel
theorem dX5_archive_40 : decode cX5_archive 40 = .ok (.invokevirtual 116, 3) := by decide +kernel
theorem dX5_archive_43 : decode cX5_archive 43 = .ok (.goto 5, 3) := by decide +kernel
theorem dX5_archive_46 : decode cX5_archive 46 = .ok (.bipush (-102), 2) := by decide +kernel
theorem dX5_archive_48 : decode cX5_archive 48 = .ok (.ireturn, 1) := by decide +kernel
theorem dX5_barsReplay_0 : decode cX5_barsReplay 0 = .ok (.aload_n 0, 1) := by decide +kernel
theorem dX5_barsReplay_1 : decode cX5_barsReplay 1 = .ok (.iload_n 1, 1) := by decide +kernel
theorem dX5_barsReplay_2 : decode cX5_barsReplay 2 = .ok (.invokevirtual 94, 3) := by decide +kernel
theorem dX5_barsReplay_5 : decode cX5_barsReplay 5 = .ok (.ifCond .eq 11, 3) := by decide +kernel
theorem dX5_barsReplay_8 : decode cX5_barsReplay 8 = .ok (.aload_n 0, 1) := by decide +kernel
theorem dX5_barsReplay_9 : decode cX5_barsReplay 9 = .ok (.iload_n 2, 1) := by decide +kernel
theorem dX5_barsReplay_10 : decode cX5_barsReplay 10 = .ok (.invokevirtual 94, 3) := by decide +kernel
theorem dX5_barsReplay_13 : decode cX5_barsReplay 13 = .ok (.ifCond .ne 6, 3) := by decide +kernel
theorem dX5_barsReplay_16 : decode cX5_barsReplay 16 = .ok (.bipush (-101), 2) := by decide +kernel
theorem dX5_barsReplay_18 : decode cX5_barsReplay 18 = .ok (.ireturn, 1) := by decide +kernel
theorem dX5_barsReplay_19 : decode cX5_barsReplay 19 = .ok (.iload_n 2, 1) := by decide +kernel
theorem dX5_barsReplay_20 : decode cX5_barsReplay 20 = .ok (.iload_n 1, 1) := by decide +kernel
theorem dX5_barsReplay_21 : decode cX5_barsReplay 21 = .ok (.if_icmp .ge 8, 3) := by decide +kernel
theorem dX5_barsReplay_24 : decode cX5_barsReplay 24 = .ok (.bipush (-102), 2) := by decide +kernel
theorem dX5_barsReplay_26 : decode cX5_barsReplay 26 = .ok (.goto 9, 3) := by decide +kernel
theorem dX5_barsReplay_29 : decode cX5_barsReplay 29 = .ok (.aload_n 0, 1) := by decide +kernel
theorem dX5_barsReplay_30 : decode cX5_barsReplay 30 = .ok (.iload_n 1, 1) := by decide +kernel
theorem dX5_barsReplay_31 : decode cX5_barsReplay 31 = .ok (.iload_n 2, 1) := by decide +kernel
theorem dX5_barsReplay_32 : decode cX5_barsReplay 32 = .ok (.invokevirtual 101, 3) := by decide +kernel
theorem dX5_barsReplay_35 : decode cX5_barsReplay 35 = .ok (.ireturn, 1) := by decide +kernel
theorem dX5_replay_0 : decode cX5_replay 0 = .ok (.aload_n 0, 1) := by decide +kernel
theorem dX5_replay_1 : decode cX5_replay 1 = .ok (.iload_n 1, 1) := by decide +kernel
theorem dX5_replay_2 : decode cX5_replay 2 = .ok (.iload_n 2, 1) := by decide +kernel
theorem dX5_replay_3 : decode cX5_replay 3 = .ok (.invokevirtual 119, 3) := by decide +kernel
theorem dX5_replay_6 : decode cX5_replay 6 = .ok (.istore_n 3, 1) := by decide +kernel
theorem dX5_replay_7 : decode cX5_replay 7 = .ok (.iload_n 3, 1) := by decide +kernel
theorem dX5_replay_8 : decode cX5_replay 8 = .ok (.ifCond .ge 10, 3) := by decide +kernel
theorem dX5_replay_11 : decode cX5_replay 11 = .ok (.iload_n 3, 1) := by decide +kernel
theorem dX5_replay_12 : decode cX5_replay 12 = .ok (.i2l, 1) := by decide +kernel
theorem dX5_replay_13 : decode cX5_replay 13 = .ok (.ldc2_w 122, 3) := by decide +kernel
theorem dX5_replay_16 : decode cX5_replay 16 = .ok (.lsub, 1) := by decide +kernel
theorem dX5_replay_17 : decode cX5_replay 17 = .ok (.lreturn, 1) := by decide +kernel
theorem dX5_replay_18 : decode cX5_replay 18 = .ok (.iconst 0, 1) := by decide +kernel
theorem dX5_replay_19 : decode cX5_replay 19 = .ok (.istore 4, 2) := by decide +kernel
theorem dX5_replay_21 : decode cX5_replay 21 = .ok (.iload 4, 2) := by decide +kernel
theorem dX5_replay_23 : decode cX5_replay 23 = .ok (.bipush 32, 2) := by decide +kernel
theorem dX5_replay_25 : decode cX5_replay 25 = .ok (.if_icmp .ge 31, 3) := by decide +kernel
theorem dX5_replay_28 : decode cX5_replay 28 = .ok (.aload_n 0, 1) := by decide +kernel
theorem dX5_replay_29 : decode cX5_replay 29 = .ok (.getfield 46, 3) := by decide +kernel
theorem dX5_replay_32 : decode cX5_replay 32 = .ok (.bipush 32, 2) := by decide +kernel
theorem dX5_replay_34 : decode cX5_replay 34 = .ok (.iload 4, 2) := by decide +kernel
theorem dX5_replay_36 : decode cX5_replay 36 = .ok (.iadd, 1) := by decide +kernel
theorem dX5_replay_37 : decode cX5_replay 37 = .ok (.aload_n 0, 1) := by decide +kernel
theorem dX5_replay_38 : decode cX5_replay 38 = .ok (.getfield 7, 3) := by decide +kernel
theorem dX5_replay_41 : decode cX5_replay 41 = .ok (.bipush 32, 2) := by decide +kernel
theorem dX5_replay_43 : decode cX5_replay 43 = .ok (.iload_n 1, 1) := by decide +kernel
theorem dX5_replay_44 : decode cX5_replay 44 = .ok (.imul, 1) := by decide +kernel
theorem dX5_replay_45 : decode cX5_replay 45 = .ok (.iload 4, 2) := by decide +kernel
theorem dX5_replay_47 : decode cX5_replay 47 = .ok (.iadd, 1) := by decide +kernel
theorem dX5_replay_48 : decode cX5_replay 48 = .ok (.iaload, 1) := by decide +kernel
theorem dX5_replay_49 : decode cX5_replay 49 = .ok (.iastore, 1) := by decide +kernel
theorem dX5_replay_50 : decode cX5_replay 50 = .ok (.iinc 4 1, 3) := by decide +kernel
theorem dX5_replay_53 : decode cX5_replay 53 = .ok (.goto (-32), 3) := by decide +kernel
theorem dX5_replay_56 : decode cX5_replay 56 = .ok (.iconst 0, 1) := by decide +kernel
theorem dX5_replay_57 : decode cX5_replay 57 = .ok (.istore 4, 2) := by decide +kernel
theorem dX5_replay_59 : decode cX5_replay 59 = .ok (.iload 4, 2) := by decide +kernel
theorem dX5_replay_61 : decode cX5_replay 61 = .ok (.aload_n 0, 1) := by decide +kernel
theorem dX5_replay_62 : decode cX5_replay 62 = .ok (.getfield 59, 3) := by decide +kernel
theorem dX5_replay_65 : decode cX5_replay 65 = .ok (.if_icmp .ge 58, 3) := by decide +kernel
theorem dX5_replay_68 : decode cX5_replay 68 = .ok (.aload_n 0, 1) := by decide +kernel
theorem dX5_replay_69 : decode cX5_replay 69 = .ok (.getfield 40, 3) := by decide +kernel
theorem dX5_replay_72 : decode cX5_replay 72 = .ok (.iload 4, 2) := by decide +kernel
theorem dX5_replay_74 : decode cX5_replay 74 = .ok (.iaload, 1) := by decide +kernel
theorem dX5_replay_75 : decode cX5_replay 75 = .ok (.ifCond .ne 42, 3) := by decide +kernel
theorem dX5_replay_78 : decode cX5_replay 78 = .ok (.aload_n 0, 1) := by decide +kernel
theorem dX5_replay_79 : decode cX5_replay 79 = .ok (.getfield 31, 3) := by decide +kernel
theorem dX5_replay_82 : decode cX5_replay 82 = .ok (.iload 4, 2) := by decide +kernel
theorem dX5_replay_84 : decode cX5_replay 84 = .ok (.iaload, 1) := by decide +kernel
theorem dX5_replay_85 : decode cX5_replay 85 = .ok (.iload_n 1, 1) := by decide +kernel
theorem dX5_replay_86 : decode cX5_replay 86 = .ok (.iconst 1, 1) := by decide +kernel
theorem dX5_replay_87 : decode cX5_replay 87 = .ok (.iadd, 1) := by decide +kernel
theorem dX5_replay_88 : decode cX5_replay 88 = .ok (.iload_n 2, 1) := by decide +kernel
theorem dX5_replay_89 : decode cX5_replay 89 = .ok (.invokestatic 72, 3) := by decide +kernel
theorem dX5_replay_92 : decode cX5_replay 92 = .ok (.ifCond .eq 25, 3) := by decide +kernel
theorem dX5_replay_95 : decode cX5_replay 95 = .ok (.aload_n 0, 1) := by decide +kernel
theorem dX5_replay_96 : decode cX5_replay 96 = .ok (.getfield 46, 3) := by decide +kernel
theorem dX5_replay_99 : decode cX5_replay 99 = .ok (.bipush 32, 2) := by decide +kernel
theorem dX5_replay_101 : decode cX5_replay 101 = .ok (.aload_n 0, 1) := by decide +kernel
theorem dX5_replay_102 : decode cX5_replay 102 = .ok (.getfield 28, 3) := by decide +kernel
theorem dX5_replay_105 : decode cX5_replay 105 = .ok (.iload 4, 2) := by decide +kernel
theorem dX5_replay_107 : decode cX5_replay 107 = .ok (.iaload, 1) := by decide +kernel
theorem dX5_replay_108 : decode cX5_replay 108 = .ok (.iadd, 1) := by decide +kernel
theorem dX5_replay_109 : decode cX5_replay 109 = .ok (.aload_n 0, 1) := by decide +kernel
theorem dX5_replay_110 : decode cX5_replay 110 = .ok (.getfield 34, 3) := by decide +kernel
theorem dX5_replay_113 : decode cX5_replay 113 = .ok (.iload 4, 2) := by decide +kernel
theorem dX5_replay_115 : decode cX5_replay 115 = .ok (.iaload, 1) := by decide +kernel
theorem dX5_replay_116 : decode cX5_replay 116 = .ok (.iastore, 1) := by decide +kernel
theorem dX5_replay_117 : decode cX5_replay 117 = .ok (.iinc 4 1, 3) := by decide +kernel
theorem dX5_replay_120 : decode cX5_replay 120 = .ok (.goto (-61), 3) := by decide +kernel
theorem dX5_replay_123 : decode cX5_replay 123 = .ok (.iconst 0, 1) := by decide +kernel
theorem dX5_replay_124 : decode cX5_replay 124 = .ok (.istore 4, 2) := by decide +kernel
theorem dX5_replay_126 : decode cX5_replay 126 = .ok (.iload 4, 2) := by decide +kernel
theorem dX5_replay_128 : decode cX5_replay 128 = .ok (.bipush 32, 2) := by decide +kernel
theorem dX5_replay_130 : decode cX5_replay 130 = .ok (.if_icmp .ge 34, 3) := by decide +kernel
theorem dX5_replay_133 : decode cX5_replay 133 = .ok (.aload_n 0, 1) := by decide +kernel
theorem dX5_replay_134 : decode cX5_replay 134 = .ok (.getfield 46, 3) := by decide +kernel
theorem dX5_replay_137 : decode cX5_replay 137 = .ok (.bipush 32, 2) := by decide +kernel
theorem dX5_replay_139 : decode cX5_replay 139 = .ok (.iload 4, 2) := by decide +kernel
theorem dX5_replay_141 : decode cX5_replay 141 = .ok (.iadd, 1) := by decide +kernel
theorem dX5_replay_142 : decode cX5_replay 142 = .ok (.iload 4, 2) := by decide +kernel
theorem dX5_replay_144 : decode cX5_replay 144 = .ok (.aload_n 0, 1) := by decide +kernel
theorem dX5_replay_145 : decode cX5_replay 145 = .ok (.getfield 46, 3) := by decide +kernel
theorem dX5_replay_148 : decode cX5_replay 148 = .ok (.bipush 32, 2) := by decide +kernel
theorem dX5_replay_150 : decode cX5_replay 150 = .ok (.iload 4, 2) := by decide +kernel
theorem dX5_replay_152 : decode cX5_replay 152 = .ok (.iadd, 1) := by decide +kernel
theorem dX5_replay_153 : decode cX5_replay 153 = .ok (.iaload, 1) := by decide +kernel
theorem dX5_replay_154 : decode cX5_replay 154 = .ok (.invokestatic 77, 3) := by decide +kernel
theorem dX5_replay_157 : decode cX5_replay 157 = .ok (.iastore, 1) := by decide +kernel
theorem dX5_replay_158 : decode cX5_replay 158 = .ok (.iinc 4 1, 3) := by decide +kernel
theorem dX5_replay_161 : decode cX5_replay 161 = .ok (.goto (-35), 3) := by decide +kernel
theorem dX5_replay_164 : decode cX5_replay 164 = .ok (.bipush 31, 2) := by decide +kernel
theorem dX5_replay_166 : decode cX5_replay 166 = .ok (.istore 4, 2) := by decide +kernel
theorem dX5_replay_168 : decode cX5_replay 168 = .ok (.iload 4, 2) := by decide +kernel
theorem dX5_replay_170 : decode cX5_replay 170 = .ok (.ifCond .le 39, 3) := by decide +kernel
theorem dX5_replay_173 : decode cX5_replay 173 = .ok (.aload_n 0, 1) := by decide +kernel
theorem dX5_replay_174 : decode cX5_replay 174 = .ok (.getfield 46, 3) := by decide +kernel
theorem dX5_replay_177 : decode cX5_replay 177 = .ok (.iload 4, 2) := by decide +kernel
theorem dX5_replay_179 : decode cX5_replay 179 = .ok (.aload_n 0, 1) := by decide +kernel
theorem dX5_replay_180 : decode cX5_replay 180 = .ok (.getfield 46, 3) := by decide +kernel
theorem dX5_replay_183 : decode cX5_replay 183 = .ok (.iconst 2, 1) := by decide +kernel
theorem dX5_replay_184 : decode cX5_replay 184 = .ok (.iload 4, 2) := by decide +kernel
theorem dX5_replay_186 : decode cX5_replay 186 = .ok (.imul, 1) := by decide +kernel
theorem dX5_replay_187 : decode cX5_replay 187 = .ok (.iaload, 1) := by decide +kernel
theorem dX5_replay_188 : decode cX5_replay 188 = .ok (.aload_n 0, 1) := by decide +kernel
theorem dX5_replay_189 : decode cX5_replay 189 = .ok (.getfield 46, 3) := by decide +kernel
theorem dX5_replay_192 : decode cX5_replay 192 = .ok (.iconst 2, 1) := by decide +kernel
theorem dX5_replay_193 : decode cX5_replay 193 = .ok (.iload 4, 2) := by decide +kernel
theorem dX5_replay_195 : decode cX5_replay 195 = .ok (.imul, 1) := by decide +kernel
theorem dX5_replay_196 : decode cX5_replay 196 = .ok (.iconst 1, 1) := by decide +kernel
theorem dX5_replay_197 : decode cX5_replay 197 = .ok (.iadd, 1) := by decide +kernel
theorem dX5_replay_198 : decode cX5_replay 198 = .ok (.iaload, 1) := by decide +kernel
theorem dX5_replay_199 : decode cX5_replay 199 = .ok (.invokestatic 81, 3) := by decide +kernel
theorem dX5_replay_202 : decode cX5_replay 202 = .ok (.iastore, 1) := by decide +kernel
theorem dX5_replay_203 : decode cX5_replay 203 = .ok (.iinc 4 (-1), 3) := by decide +kernel
theorem dX5_replay_206 : decode cX5_replay 206 = .ok (.goto (-38), 3) := by decide +kernel
theorem dX5_replay_209 : decode cX5_replay 209 = .ok (.aload_n 0, 1) := by decide +kernel
theorem dX5_replay_210 : decode cX5_replay 210 = .ok (.getfield 46, 3) := by decide +kernel
theorem dX5_replay_213 : decode cX5_replay 213 = .ok (.iconst 1, 1) := by decide +kernel
theorem dX5_replay_214 : decode cX5_replay 214 = .ok (.iaload, 1) := by decide +kernel
theorem dX5_replay_215 : decode cX5_replay 215 = .ok (.i2l, 1) := by decide +kernel
theorem dX5_replay_216 : decode cX5_replay 216 = .ok (.lreturn, 1) := by decide +kernel
theorem dX5_replayed_0 : decode cX5_replayed 0 = .ok (.aload_n 0, 1) := by decide +kernel
theorem dX5_replayed_1 : decode cX5_replayed 1 = .ok (.iload_n 1, 1) := by decide +kernel
theorem dX5_replayed_2 : decode cX5_replayed 2 = .ok (.iload_n 2, 1) := by decide +kernel
theorem dX5_replayed_3 : decode cX5_replayed 3 = .ok (.invokevirtual 119, 3) := by decide +kernel
theorem dX5_replayed_6 : decode cX5_replayed 6 = .ok (.istore_n 3, 1) := by decide +kernel
theorem dX5_replayed_7 : decode cX5_replayed 7 = .ok (.iload_n 3, 1) := by decide +kernel
theorem dX5_replayed_8 : decode cX5_replayed 8 = .ok (.ifCond .ge 5, 3) := by decide +kernel
theorem dX5_replayed_11 : decode cX5_replayed 11 = .ok (.iload_n 3, 1) := by decide +kernel
theorem dX5_replayed_12 : decode cX5_replayed 12 = .ok (.ireturn, 1) := by decide +kernel
theorem dX5_replayed_13 : decode cX5_replayed 13 = .ok (.iconst 0, 1) := by decide +kernel
theorem dX5_replayed_14 : decode cX5_replayed 14 = .ok (.istore 4, 2) := by decide +kernel
theorem dX5_replayed_16 : decode cX5_replayed 16 = .ok (.iconst 0, 1) := by decide +kernel
theorem dX5_replayed_17 : decode cX5_replayed 17 = .ok (.istore 5, 2) := by decide +kernel
theorem dX5_replayed_19 : decode cX5_replayed 19 = .ok (.iload 5, 2) := by decide +kernel
theorem dX5_replayed_21 : decode cX5_replayed 21 = .ok (.aload_n 0, 1) := by decide +kernel
theorem dX5_replayed_22 : decode cX5_replayed 22 = .ok (.getfield 59, 3) := by decide +kernel
theorem dX5_replayed_25 : decode cX5_replayed 25 = .ok (.if_icmp .ge 46, 3) := by decide +kernel
theorem dX5_replayed_28 : decode cX5_replayed 28 = .ok (.iload 4, 2) := by decide +kernel
theorem dX5_replayed_30 : decode cX5_replayed 30 = .ok (.aload_n 0, 1) := by decide +kernel
theorem dX5_replayed_31 : decode cX5_replayed 31 = .ok (.getfield 40, 3) := by decide +kernel
theorem dX5_replayed_34 : decode cX5_replayed 34 = .ok (.iload 5, 2) := by decide +kernel
theorem dX5_replayed_36 : decode cX5_replayed 36 = .ok (.iaload, 1) := by decide +kernel
theorem dX5_replayed_37 : decode cX5_replayed 37 = .ok (.ifCond .ne 24, 3) := by decide +kernel
theorem dX5_replayed_40 : decode cX5_replayed 40 = .ok (.aload_n 0, 1) := by decide +kernel
theorem dX5_replayed_41 : decode cX5_replayed 41 = .ok (.getfield 31, 3) := by decide +kernel
theorem dX5_replayed_44 : decode cX5_replayed 44 = .ok (.iload 5, 2) := by decide +kernel
theorem dX5_replayed_46 : decode cX5_replayed 46 = .ok (.iaload, 1) := by decide +kernel
theorem dX5_replayed_47 : decode cX5_replayed 47 = .ok (.iload_n 1, 1) := by decide +kernel
theorem dX5_replayed_48 : decode cX5_replayed 48 = .ok (.iconst 1, 1) := by decide +kernel
theorem dX5_replayed_49 : decode cX5_replayed 49 = .ok (.iadd, 1) := by decide +kernel
theorem dX5_replayed_50 : decode cX5_replayed 50 = .ok (.iload_n 2, 1) := by decide +kernel
theorem dX5_replayed_51 : decode cX5_replayed 51 = .ok (.invokestatic 72, 3) := by decide +kernel
theorem dX5_replayed_54 : decode cX5_replayed 54 = .ok (.ifCond .eq 7, 3) := by decide +kernel
theorem dX5_replayed_57 : decode cX5_replayed 57 = .ok (.iconst 1, 1) := by decide +kernel
theorem dX5_replayed_58 : decode cX5_replayed 58 = .ok (.goto 4, 3) := by decide +kernel
theorem dX5_replayed_61 : decode cX5_replayed 61 = .ok (.iconst 0, 1) := by decide +kernel
theorem dX5_replayed_62 : decode cX5_replayed 62 = .ok (.iadd, 1) := by decide +kernel
theorem dX5_replayed_63 : decode cX5_replayed 63 = .ok (.istore 4, 2) := by decide +kernel
theorem dX5_replayed_65 : decode cX5_replayed 65 = .ok (.iinc 5 1, 3) := by decide +kernel
theorem dX5_replayed_68 : decode cX5_replayed 68 = .ok (.goto (-49), 3) := by decide +kernel
theorem dX5_replayed_71 : decode cX5_replayed 71 = .ok (.iload 4, 2) := by decide +kernel
theorem dX5_replayed_73 : decode cX5_replayed 73 = .ok (.ireturn, 1) := by decide +kernel
theorem dX5_proof_0 : decode cX5_proof 0 = .ok (.iload_n 1, 1) := by decide +kernel
theorem dX5_proof_1 : decode cX5_proof 1 = .ok (.invokestatic 84, 3) := by decide +kernel
theorem dX5_proof_4 : decode cX5_proof 4 = .ok (.ifCond .eq 11, 3) := by decide +kernel
theorem dX5_proof_7 : decode cX5_proof 7 = .ok (.aload_n 0, 1) := by decide +kernel
theorem dX5_proof_8 : decode cX5_proof 8 = .ok (.iload_n 2, 1) := by decide +kernel
theorem dX5_proof_9 : decode cX5_proof 9 = .ok (.invokevirtual 94, 3) := by decide +kernel
theorem dX5_proof_12 : decode cX5_proof 12 = .ok (.ifCond .ne 7, 3) := by decide +kernel
theorem dX5_proof_15 : decode cX5_proof 15 = .ok (.ldc2_w 97, 3) := by decide +kernel
theorem dX5_proof_18 : decode cX5_proof 18 = .ok (.lreturn, 1) := by decide +kernel
theorem dX5_proof_19 : decode cX5_proof 19 = .ok (.iload_n 3, 1) := by decide +kernel
theorem dX5_proof_20 : decode cX5_proof 20 = .ok (.iconst 0, 1) := by decide +kernel
theorem dX5_proof_21 : decode cX5_proof 21 = .ok (.iconst 4, 1) := by decide +kernel
theorem dX5_proof_22 : decode cX5_proof 22 = .ok (.invokestatic 72, 3) := by decide +kernel
theorem dX5_proof_25 : decode cX5_proof 25 = .ok (.ifCond .ne 7, 3) := by decide +kernel
theorem dX5_proof_28 : decode cX5_proof 28 = .ok (.ldc2_w 124, 3) := by decide +kernel
theorem dX5_proof_31 : decode cX5_proof 31 = .ok (.lreturn, 1) := by decide +kernel
theorem dX5_proof_32 : decode cX5_proof 32 = .ok (.aload_n 0, 1) := by decide +kernel
theorem dX5_proof_33 : decode cX5_proof 33 = .ok (.getfield 16, 3) := by decide +kernel
theorem dX5_proof_36 : decode cX5_proof 36 = .ok (.iload_n 2, 1) := by decide +kernel
theorem dX5_proof_37 : decode cX5_proof 37 = .ok (.iaload, 1) := by decide +kernel
theorem dX5_proof_38 : decode cX5_proof 38 = .ok (.ifCond .le 7, 3) := by decide +kernel
theorem dX5_proof_41 : decode cX5_proof 41 = .ok (.ldc2_w 99, 3) := by decide +kernel
theorem dX5_proof_44 : decode cX5_proof 44 = .ok (.lreturn, 1) := by decide +kernel
theorem dX5_proof_45 : decode cX5_proof 45 = .ok (.aload_n 0, 1) := by decide +kernel
theorem dX5_proof_46 : decode cX5_proof 46 = .ok (.iload_n 2, 1) := by decide +kernel
theorem dX5_proof_47 : decode cX5_proof 47 = .ok (.invokevirtual 68, 3) := by decide +kernel
theorem dX5_proof_50 : decode cX5_proof 50 = .ok (.istore 4, 2) := by decide +kernel
theorem dX5_proof_52 : decode cX5_proof 52 = .ok (.bipush 32, 2) := by decide +kernel
theorem dX5_proof_54 : decode cX5_proof 54 = .ok (.iload_n 1, 1) := by decide +kernel
theorem dX5_proof_55 : decode cX5_proof 55 = .ok (.iadd, 1) := by decide +kernel
theorem dX5_proof_56 : decode cX5_proof 56 = .ok (.iload_n 3, 1) := by decide +kernel
theorem dX5_proof_57 : decode cX5_proof 57 = .ok (.ishr, 1) := by decide +kernel
theorem dX5_proof_58 : decode cX5_proof 58 = .ok (.istore 5, 2) := by decide +kernel
theorem dX5_proof_60 : decode cX5_proof 60 = .ok (.aload_n 0, 1) := by decide +kernel
theorem dX5_proof_61 : decode cX5_proof 61 = .ok (.getfield 46, 3) := by decide +kernel
theorem dX5_proof_64 : decode cX5_proof 64 = .ok (.iload 5, 2) := by decide +kernel
theorem dX5_proof_66 : decode cX5_proof 66 = .ok (.iconst 2, 1) := by decide +kernel
theorem dX5_proof_67 : decode cX5_proof 67 = .ok (.irem, 1) := by decide +kernel
theorem dX5_proof_68 : decode cX5_proof 68 = .ok (.ifCond .ne 10, 3) := by decide +kernel
theorem dX5_proof_71 : decode cX5_proof 71 = .ok (.iload 5, 2) := by decide +kernel
theorem dX5_proof_73 : decode cX5_proof 73 = .ok (.iconst 1, 1) := by decide +kernel
theorem dX5_proof_74 : decode cX5_proof 74 = .ok (.iadd, 1) := by decide +kernel
theorem dX5_proof_75 : decode cX5_proof 75 = .ok (.goto 7, 3) := by decide +kernel
theorem dX5_proof_78 : decode cX5_proof 78 = .ok (.iload 5, 2) := by decide +kernel
theorem dX5_proof_80 : decode cX5_proof 80 = .ok (.iconst 1, 1) := by decide +kernel
theorem dX5_proof_81 : decode cX5_proof 81 = .ok (.isub, 1) := by decide +kernel
theorem dX5_proof_82 : decode cX5_proof 82 = .ok (.iaload, 1) := by decide +kernel
theorem dX5_proof_83 : decode cX5_proof 83 = .ok (.i2l, 1) := by decide +kernel
theorem dX5_proof_84 : decode cX5_proof 84 = .ok (.lreturn, 1) := by decide +kernel
theorem dX5_lay_0 : decode cX5_lay 0 = .ok (.iload_n 1, 1) := by decide +kernel
theorem dX5_lay_1 : decode cX5_lay 1 = .ok (.iconst 0, 1) := by decide +kernel
theorem dX5_lay_2 : decode cX5_lay 2 = .ok (.iconst 4, 1) := by decide +kernel
theorem dX5_lay_3 : decode cX5_lay 3 = .ok (.invokestatic 72, 3) := by decide +kernel
theorem dX5_lay_6 : decode cX5_lay 6 = .ok (.ifCond .ne 6, 3) := by decide +kernel
theorem dX5_lay_9 : decode cX5_lay 9 = .ok (.bipush (-102), 2) := by decide +kernel
theorem dX5_lay_11 : decode cX5_lay 11 = .ok (.ireturn, 1) := by decide +kernel
theorem dX5_lay_12 : decode cX5_lay 12 = .ok (.aload_n 0, 1) := by decide +kernel
theorem dX5_lay_13 : decode cX5_lay 13 = .ok (.getfield 43, 3) := by decide +kernel
theorem dX5_lay_16 : decode cX5_lay 16 = .ok (.iload_n 1, 1) := by decide +kernel
theorem dX5_lay_17 : decode cX5_lay 17 = .ok (.iaload, 1) := by decide +kernel
theorem dX5_lay_18 : decode cX5_lay 18 = .ok (.istore_n 3, 1) := by decide +kernel
theorem dX5_lay_19 : decode cX5_lay 19 = .ok (.aload_n 0, 1) := by decide +kernel
theorem dX5_lay_20 : decode cX5_lay 20 = .ok (.getfield 43, 3) := by decide +kernel
theorem dX5_lay_23 : decode cX5_lay 23 = .ok (.iload_n 1, 1) := by decide +kernel
theorem dX5_lay_24 : decode cX5_lay 24 = .ok (.iload_n 2, 1) := by decide +kernel
theorem dX5_lay_25 : decode cX5_lay 25 = .ok (.iastore, 1) := by decide +kernel
theorem dX5_lay_26 : decode cX5_lay 26 = .ok (.iload_n 3, 1) := by decide +kernel
theorem dX5_lay_27 : decode cX5_lay 27 = .ok (.ireturn, 1) := by decide +kernel
theorem dX5_proves_0 : decode cX5_proves 0 = .ok (.iload_n 1, 1) := by decide +kernel
theorem dX5_proves_1 : decode cX5_proves 1 = .ok (.invokestatic 84, 3) := by decide +kernel
theorem dX5_proves_4 : decode cX5_proves 4 = .ok (.ifCond .eq 11, 3) := by decide +kernel
theorem dX5_proves_7 : decode cX5_proves 7 = .ok (.aload_n 0, 1) := by decide +kernel
theorem dX5_proves_8 : decode cX5_proves 8 = .ok (.iload_n 3, 1) := by decide +kernel
theorem dX5_proves_9 : decode cX5_proves 9 = .ok (.invokevirtual 94, 3) := by decide +kernel
theorem dX5_proves_12 : decode cX5_proves 12 = .ok (.ifCond .ne 6, 3) := by decide +kernel
theorem dX5_proves_15 : decode cX5_proves 15 = .ok (.bipush (-101), 2) := by decide +kernel
theorem dX5_proves_17 : decode cX5_proves 17 = .ok (.ireturn, 1) := by decide +kernel
theorem dX5_proves_18 : decode cX5_proves 18 = .ok (.iload_n 1, 1) := by decide +kernel
theorem dX5_proves_19 : decode cX5_proves 19 = .ok (.iload_n 2, 1) := by decide +kernel
theorem dX5_proves_20 : decode cX5_proves 20 = .ok (.invokestatic 77, 3) := by decide +kernel
theorem dX5_proves_23 : decode cX5_proves 23 = .ok (.istore 4, 2) := by decide +kernel
theorem dX5_proves_25 : decode cX5_proves 25 = .ok (.iconst 0, 1) := by decide +kernel
theorem dX5_proves_26 : decode cX5_proves 26 = .ok (.istore 5, 2) := by decide +kernel
theorem dX5_proves_28 : decode cX5_proves 28 = .ok (.iload 5, 2) := by decide +kernel
theorem dX5_proves_30 : decode cX5_proves 30 = .ok (.iconst 5, 1) := by decide +kernel
theorem dX5_proves_31 : decode cX5_proves 31 = .ok (.if_icmp .ge 47, 3) := by decide +kernel
theorem dX5_proves_34 : decode cX5_proves 34 = .ok (.iload_n 1, 1) := by decide +kernel
theorem dX5_proves_35 : decode cX5_proves 35 = .ok (.iload 5, 2) := by decide +kernel
theorem dX5_proves_37 : decode cX5_proves 37 = .ok (.ishr, 1) := by decide +kernel
theorem dX5_proves_38 : decode cX5_proves 38 = .ok (.iconst 2, 1) := by decide +kernel
theorem dX5_proves_39 : decode cX5_proves 39 = .ok (.irem, 1) := by decide +kernel
theorem dX5_proves_40 : decode cX5_proves 40 = .ok (.ifCond .ne 18, 3) := by decide +kernel
theorem dX5_proves_43 : decode cX5_proves 43 = .ok (.iload 4, 2) := by decide +kernel
theorem dX5_proves_45 : decode cX5_proves 45 = .ok (.aload_n 0, 1) := by decide +kernel
theorem dX5_proves_46 : decode cX5_proves 46 = .ok (.getfield 43, 3) := by decide +kernel
theorem dX5_proves_49 : decode cX5_proves 49 = .ok (.iload 5, 2) := by decide +kernel
theorem dX5_proves_51 : decode cX5_proves 51 = .ok (.iaload, 1) := by decide +kernel
theorem dX5_proves_52 : decode cX5_proves 52 = .ok (.invokestatic 81, 3) := by decide +kernel
theorem dX5_proves_55 : decode cX5_proves 55 = .ok (.goto 15, 3) := by decide +kernel
theorem dX5_proves_58 : decode cX5_proves 58 = .ok (.aload_n 0, 1) := by decide +kernel
theorem dX5_proves_59 : decode cX5_proves 59 = .ok (.getfield 43, 3) := by decide +kernel
theorem dX5_proves_62 : decode cX5_proves 62 = .ok (.iload 5, 2) := by decide +kernel
theorem dX5_proves_64 : decode cX5_proves 64 = .ok (.iaload, 1) := by decide +kernel
theorem dX5_proves_65 : decode cX5_proves 65 = .ok (.iload 4, 2) := by decide +kernel
theorem dX5_proves_67 : decode cX5_proves 67 = .ok (.invokestatic 81, 3) := by decide +kernel
theorem dX5_proves_70 : decode cX5_proves 70 = .ok (.istore 4, 2) := by decide +kernel
theorem dX5_proves_72 : decode cX5_proves 72 = .ok (.iinc 5 1, 3) := by decide +kernel
theorem dX5_proves_75 : decode cX5_proves 75 = .ok (.goto (-47), 3) := by decide +kernel
theorem dX5_proves_78 : decode cX5_proves 78 = .ok (.iload 4, 2) := by decide +kernel
theorem dX5_proves_80 : decode cX5_proves 80 = .ok (.aload_n 0, 1) := by decide +kernel
theorem dX5_proves_81 : decode cX5_proves 81 = .ok (.getfield 13, 3) := by decide +kernel
theorem dX5_proves_84 : decode cX5_proves 84 = .ok (.iload_n 3, 1) := by decide +kernel
theorem dX5_proves_85 : decode cX5_proves 85 = .ok (.iaload, 1) := by decide +kernel
theorem dX5_proves_86 : decode cX5_proves 86 = .ok (.if_icmp .ne 7, 3) := by decide +kernel
theorem dX5_proves_89 : decode cX5_proves 89 = .ok (.iconst 1, 1) := by decide +kernel
theorem dX5_proves_90 : decode cX5_proves 90 = .ok (.goto 4, 3) := by decide +kernel
theorem dX5_proves_93 : decode cX5_proves 93 = .ok (.iconst 0, 1) := by decide +kernel
theorem dX5_proves_94 : decode cX5_proves 94 = .ok (.ireturn, 1) := by decide +kernel
theorem dX5_back_0 : decode cX5_back 0 = .ok (.aload_n 0, 1) := by decide +kernel
theorem dX5_back_1 : decode cX5_back 1 = .ok (.iload_n 1, 1) := by decide +kernel
theorem dX5_back_2 : decode cX5_back 2 = .ok (.invokevirtual 94, 3) := by decide +kernel
theorem dX5_back_5 : decode cX5_back 5 = .ok (.ifCond .ne 6, 3) := by decide +kernel
theorem dX5_back_8 : decode cX5_back 8 = .ok (.bipush (-101), 2) := by decide +kernel
theorem dX5_back_10 : decode cX5_back 10 = .ok (.ireturn, 1) := by decide +kernel
theorem dX5_back_11 : decode cX5_back 11 = .ok (.aload_n 0, 1) := by decide +kernel
theorem dX5_back_12 : decode cX5_back 12 = .ok (.getfield 62, 3) := by decide +kernel
theorem dX5_back_15 : decode cX5_back 15 = .ok (.ifCond .le 6, 3) := by decide +kernel
theorem dX5_back_18 : decode cX5_back 18 = .ok (.bipush (-103), 2) := by decide +kernel
theorem dX5_back_20 : decode cX5_back 20 = .ok (.ireturn, 1) := by decide +kernel
theorem dX5_back_21 : decode cX5_back 21 = .ok (.aload_n 0, 1) := by decide +kernel
theorem dX5_back_22 : decode cX5_back 22 = .ok (.getfield 16, 3) := by decide +kernel
theorem dX5_back_25 : decode cX5_back 25 = .ok (.iload_n 1, 1) := by decide +kernel
theorem dX5_back_26 : decode cX5_back 26 = .ok (.iaload, 1) := by decide +kernel
theorem dX5_back_27 : decode cX5_back 27 = .ok (.ifCond .le 6, 3) := by decide +kernel
theorem dX5_back_30 : decode cX5_back 30 = .ok (.bipush (-104), 2) := by decide +kernel
theorem dX5_back_32 : decode cX5_back 32 = .ok (.ireturn, 1) := by decide +kernel
theorem dX5_back_33 : decode cX5_back 33 = .ok (.aload_n 0, 1) := by decide +kernel
theorem dX5_back_34 : decode cX5_back 34 = .ok (.iload_n 1, 1) := by decide +kernel
theorem dX5_back_35 : decode cX5_back 35 = .ok (.invokevirtual 110, 3) := by decide +kernel
theorem dX5_back_38 : decode cX5_back 38 = .ok (.istore_n 2, 1) := by decide +kernel
theorem dX5_back_39 : decode cX5_back 39 = .ok (.aload_n 0, 1) := by decide +kernel
theorem dX5_back_40 : decode cX5_back 40 = .ok (.iload_n 1, 1) := by decide +kernel
theorem dX5_back_41 : decode cX5_back 41 = .ok (.putfield 52, 3) := by decide +kernel
theorem dX5_back_44 : decode cX5_back 44 = .ok (.aload_n 0, 1) := by decide +kernel
theorem dX5_back_45 : decode cX5_back 45 = .ok (.iconst 0, 1) := by decide +kernel
theorem dX5_back_46 : decode cX5_back 46 = .ok (.putfield 56, 3) := by decide +kernel
theorem dX5_back_49 : decode cX5_back 49 = .ok (.iload_n 2, 1) := by decide +kernel
theorem dX5_back_50 : decode cX5_back 50 = .ok (.ireturn, 1) := by decide +kernel
theorem dX5_row_0 : decode cX5_row 0 = .ok (.iload_n 1, 1) := by decide +kernel
theorem dX5_row_1 : decode cX5_row 1 = .ok (.invokestatic 84, 3) := by decide +kernel
theorem dX5_row_4 : decode cX5_row 4 = .ok (.ifCond .ne 6, 3) := by decide +kernel
theorem dX5_row_7 : decode cX5_row 7 = .ok (.bipush (-101), 2) := by decide +kernel
theorem dX5_row_9 : decode cX5_row 9 = .ok (.ireturn, 1) := by decide +kernel
theorem dX5_row_10 : decode cX5_row 10 = .ok (.iload_n 3, 1) := by decide +kernel
theorem dX5_row_11 : decode cX5_row 11 = .ok (.iconst 0, 1) := by decide +kernel
theorem dX5_row_12 : decode cX5_row 12 = .ok (.iconst 1, 1) := by decide +kernel
theorem dX5_row_13 : decode cX5_row 13 = .ok (.invokestatic 72, 3) := by decide +kernel
theorem dX5_row_16 : decode cX5_row 16 = .ok (.ifCond .ne 6, 3) := by decide +kernel
theorem dX5_row_19 : decode cX5_row 19 = .ok (.bipush (-102), 2) := by decide +kernel
theorem dX5_row_21 : decode cX5_row 21 = .ok (.ireturn, 1) := by decide +kernel
theorem dX5_row_22 : decode cX5_row 22 = .ok (.iconst 0, 1) := by decide +kernel
theorem dX5_row_23 : decode cX5_row 23 = .ok (.istore 4, 2) := by decide +kernel
theorem dX5_row_25 : decode cX5_row 25 = .ok (.iconst 0, 1) := by decide +kernel
theorem dX5_row_26 : decode cX5_row 26 = .ok (.istore 5, 2) := by decide +kernel
theorem dX5_row_28 : decode cX5_row 28 = .ok (.iload 5, 2) := by decide +kernel
theorem dX5_row_30 : decode cX5_row 30 = .ok (.aload_n 0, 1) := by decide +kernel
theorem dX5_row_31 : decode cX5_row 31 = .ok (.getfield 59, 3) := by decide +kernel
theorem dX5_row_34 : decode cX5_row 34 = .ok (.if_icmp .ge 61, 3) := by decide +kernel
theorem dX5_row_37 : decode cX5_row 37 = .ok (.aload_n 0, 1) := by decide +kernel
theorem dX5_row_38 : decode cX5_row 38 = .ok (.getfield 40, 3) := by decide +kernel
theorem dX5_row_41 : decode cX5_row 41 = .ok (.iload 5, 2) := by decide +kernel
theorem dX5_row_43 : decode cX5_row 43 = .ok (.iaload, 1) := by decide +kernel
theorem dX5_row_44 : decode cX5_row 44 = .ok (.ifCond .ne 45, 3) := by decide +kernel
theorem dX5_row_47 : decode cX5_row 47 = .ok (.aload_n 0, 1) := by decide +kernel
theorem dX5_row_48 : decode cX5_row 48 = .ok (.getfield 28, 3) := by decide +kernel
theorem dX5_row_51 : decode cX5_row 51 = .ok (.iload 5, 2) := by decide +kernel
theorem dX5_row_53 : decode cX5_row 53 = .ok (.iaload, 1) := by decide +kernel
theorem dX5_row_54 : decode cX5_row 54 = .ok (.iload_n 1, 1) := by decide +kernel
theorem dX5_row_55 : decode cX5_row 55 = .ok (.if_icmp .ne 34, 3) := by decide +kernel
theorem dX5_row_58 : decode cX5_row 58 = .ok (.iload 4, 2) := by decide +kernel
theorem dX5_row_60 : decode cX5_row 60 = .ok (.iload_n 2, 1) := by decide +kernel
theorem dX5_row_61 : decode cX5_row 61 = .ok (.if_icmp .ne 25, 3) := by decide +kernel
theorem dX5_row_64 : decode cX5_row 64 = .ok (.iload_n 3, 1) := by decide +kernel
theorem dX5_row_65 : decode cX5_row 65 = .ok (.ifCond .ne 13, 3) := by decide +kernel
theorem dX5_row_68 : decode cX5_row 68 = .ok (.aload_n 0, 1) := by decide +kernel
theorem dX5_row_69 : decode cX5_row 69 = .ok (.getfield 31, 3) := by decide +kernel
theorem dX5_row_72 : decode cX5_row 72 = .ok (.iload 5, 2) := by decide +kernel
theorem dX5_row_74 : decode cX5_row 74 = .ok (.iaload, 1) := by decide +kernel
theorem dX5_row_75 : decode cX5_row 75 = .ok (.goto 10, 3) := by decide +kernel
theorem dX5_row_78 : decode cX5_row 78 = .ok (.aload_n 0, 1) := by decide +kernel
theorem dX5_row_79 : decode cX5_row 79 = .ok (.getfield 37, 3) := by decide +kernel
theorem dX5_row_82 : decode cX5_row 82 = .ok (.iload 5, 2) := by decide +kernel
theorem dX5_row_84 : decode cX5_row 84 = .ok (.iaload, 1) := by decide +kernel
theorem dX5_row_85 : decode cX5_row 85 = .ok (.ireturn, 1) := by decide +kernel
theorem dX5_row_86 : decode cX5_row 86 = .ok (.iinc 4 1, 3) := by decide +kernel
theorem dX5_row_89 : decode cX5_row 89 = .ok (.iinc 5 1, 3) := by decide +kernel
theorem dX5_row_92 : decode cX5_row 92 = .ok (.goto (-64), 3) := by decide +kernel
theorem dX5_row_95 : decode cX5_row 95 = .ok (.iconst (-1), 1) := by decide +kernel
theorem dX5_row_96 : decode cX5_row 96 = .ok (.ireturn, 1) := by decide +kernel
theorem dX5_count_0 : decode cX5_count 0 = .ok (.iload_n 1, 1) := by decide +kernel
theorem dX5_count_1 : decode cX5_count 1 = .ok (.tableswitch 84 0 5 #[39, 44, 49, 55, 66, 71], 39) := by decide +kernel
theorem dX5_count_40 : decode cX5_count 40 = .ok (.aload_n 0, 1) := by decide +kernel
theorem dX5_count_41 : decode cX5_count 41 = .ok (.getfield 52, 3) := by decide +kernel
theorem dX5_count_44 : decode cX5_count 44 = .ok (.ireturn, 1) := by decide +kernel
theorem dX5_count_45 : decode cX5_count 45 = .ok (.aload_n 0, 1) := by decide +kernel
theorem dX5_count_46 : decode cX5_count 46 = .ok (.getfield 56, 3) := by decide +kernel
theorem dX5_count_49 : decode cX5_count 49 = .ok (.ireturn, 1) := by decide +kernel
theorem dX5_count_50 : decode cX5_count 50 = .ok (.aload_n 0, 1) := by decide +kernel
theorem dX5_count_51 : decode cX5_count 51 = .ok (.iconst 0, 1) := by decide +kernel
theorem dX5_count_52 : decode cX5_count 52 = .ok (.invokevirtual 113, 3) := by decide +kernel
theorem dX5_count_55 : decode cX5_count 55 = .ok (.ireturn, 1) := by decide +kernel
theorem dX5_count_56 : decode cX5_count 56 = .ok (.aload_n 0, 1) := by decide +kernel
theorem dX5_count_57 : decode cX5_count 57 = .ok (.getfield 59, 3) := by decide +kernel
theorem dX5_count_60 : decode cX5_count 60 = .ok (.aload_n 0, 1) := by decide +kernel
theorem dX5_count_61 : decode cX5_count 61 = .ok (.iconst 0, 1) := by decide +kernel
theorem dX5_count_62 : decode cX5_count 62 = .ok (.invokevirtual 113, 3) := by decide +kernel
theorem dX5_count_65 : decode cX5_count 65 = .ok (.isub, 1) := by decide +kernel
theorem dX5_count_66 : decode cX5_count 66 = .ok (.ireturn, 1) := by decide +kernel
theorem dX5_count_67 : decode cX5_count 67 = .ok (.aload_n 0, 1) := by decide +kernel
theorem dX5_count_68 : decode cX5_count 68 = .ok (.getfield 62, 3) := by decide +kernel
theorem dX5_count_71 : decode cX5_count 71 = .ok (.ireturn, 1) := by decide +kernel
theorem dX5_count_72 : decode cX5_count 72 = .ok (.aload_n 0, 1) := by decide +kernel
theorem dX5_count_73 : decode cX5_count 73 = .ok (.getfield 52, 3) := by decide +kernel
theorem dX5_count_76 : decode cX5_count 76 = .ok (.iconst 1, 1) := by decide +kernel
theorem dX5_count_77 : decode cX5_count 77 = .ok (.iadd, 1) := by decide +kernel
theorem dX5_count_78 : decode cX5_count 78 = .ok (.aload_n 0, 1) := by decide +kernel
theorem dX5_count_79 : decode cX5_count 79 = .ok (.iconst 0, 1) := by decide +kernel
theorem dX5_count_80 : decode cX5_count 80 = .ok (.invokevirtual 116, 3) := by decide +kernel
theorem dX5_count_83 : decode cX5_count 83 = .ok (.isub, 1) := by decide +kernel
theorem dX5_count_84 : decode cX5_count 84 = .ok (.ireturn, 1) := by decide +kernel
theorem dX5_count_85 : decode cX5_count 85 = .ok (.bipush (-102), 2) := by decide +kernel
theorem dX5_count_87 : decode cX5_count 87 = .ok (.ireturn, 1) := by decide +kernel
theorem dX5_clear_0 : decode cX5_clear 0 = .ok (.aload_n 0, 1) := by decide +kernel
theorem dX5_clear_1 : decode cX5_clear 1 = .ok (.getfield 52, 3) := by decide +kernel
theorem dX5_clear_4 : decode cX5_clear 4 = .ok (.istore_n 1, 1) := by decide +kernel
theorem dX5_clear_5 : decode cX5_clear 5 = .ok (.aload_n 0, 1) := by decide +kernel
theorem dX5_clear_6 : decode cX5_clear 6 = .ok (.invokevirtual 49, 3) := by decide +kernel
theorem dX5_clear_9 : decode cX5_clear 9 = .ok (.iload_n 1, 1) := by decide +kernel
theorem dX5_clear_10 : decode cX5_clear 10 = .ok (.ireturn, 1) := by decide +kernel

theorem dX0_init_0 : decode cX0_init 0 = .ok (.aload_n 0, 1) := by decide +kernel
theorem dX0_init_1 : decode cX0_init 1 = .ok (.invokespecial 3, 3) := by decide +kernel
theorem dX0_init_4 : decode cX0_init 4 = .ok (.aload_n 0, 1) := by decide +kernel
theorem dX0_init_5 : decode cX0_init 5 = .ok (.bipush 32, 2) := by decide +kernel
theorem dX0_init_7 : decode cX0_init 7 = .ok (.newarray .int, 2) := by decide +kernel
theorem dX0_init_9 : decode cX0_init 9 = .ok (.putfield 9, 3) := by decide +kernel
theorem dX0_init_12 : decode cX0_init 12 = .ok (.aload_n 0, 1) := by decide +kernel
theorem dX0_init_13 : decode cX0_init 13 = .ok (.bipush 32, 2) := by decide +kernel
theorem dX0_init_15 : decode cX0_init 15 = .ok (.newarray .int, 2) := by decide +kernel
theorem dX0_init_17 : decode cX0_init 17 = .ok (.putfield 15, 3) := by decide +kernel
theorem dX0_init_20 : decode cX0_init 20 = .ok (.aload_n 0, 1) := by decide +kernel
theorem dX0_init_21 : decode cX0_init 21 = .ok (.bipush 32, 2) := by decide +kernel
theorem dX0_init_23 : decode cX0_init 23 = .ok (.newarray .int, 2) := by decide +kernel
theorem dX0_init_25 : decode cX0_init 25 = .ok (.putfield 18, 3) := by decide +kernel
theorem dX0_init_28 : decode cX0_init 28 = .ok (.return_, 1) := by decide +kernel
theorem dX0_startFrom_0 : decode cX0_startFrom 0 = .ok (.iconst 0, 1) := by decide +kernel
theorem dX0_startFrom_1 : decode cX0_startFrom 1 = .ok (.istore_n 2, 1) := by decide +kernel
theorem dX0_startFrom_2 : decode cX0_startFrom 2 = .ok (.iload_n 2, 1) := by decide +kernel
theorem dX0_startFrom_3 : decode cX0_startFrom 3 = .ok (.bipush 32, 2) := by decide +kernel
theorem dX0_startFrom_5 : decode cX0_startFrom 5 = .ok (.if_icmp .ge 27, 3) := by decide +kernel
theorem dX0_startFrom_8 : decode cX0_startFrom 8 = .ok (.aload_n 0, 1) := by decide +kernel
theorem dX0_startFrom_9 : decode cX0_startFrom 9 = .ok (.getfield 9, 3) := by decide +kernel
theorem dX0_startFrom_12 : decode cX0_startFrom 12 = .ok (.iload_n 2, 1) := by decide +kernel
theorem dX0_startFrom_13 : decode cX0_startFrom 13 = .ok (.aload_n 1, 1) := by decide +kernel
theorem dX0_startFrom_14 : decode cX0_startFrom 14 = .ok (.iload_n 2, 1) := by decide +kernel
theorem dX0_startFrom_15 : decode cX0_startFrom 15 = .ok (.iaload, 1) := by decide +kernel
theorem dX0_startFrom_16 : decode cX0_startFrom 16 = .ok (.iastore, 1) := by decide +kernel
theorem dX0_startFrom_17 : decode cX0_startFrom 17 = .ok (.aload_n 0, 1) := by decide +kernel
theorem dX0_startFrom_18 : decode cX0_startFrom 18 = .ok (.getfield 15, 3) := by decide +kernel
theorem dX0_startFrom_21 : decode cX0_startFrom 21 = .ok (.iload_n 2, 1) := by decide +kernel
theorem dX0_startFrom_22 : decode cX0_startFrom 22 = .ok (.aload_n 1, 1) := by decide +kernel
theorem dX0_startFrom_23 : decode cX0_startFrom 23 = .ok (.iload_n 2, 1) := by decide +kernel
theorem dX0_startFrom_24 : decode cX0_startFrom 24 = .ok (.iaload, 1) := by decide +kernel
theorem dX0_startFrom_25 : decode cX0_startFrom 25 = .ok (.iastore, 1) := by decide +kernel
theorem dX0_startFrom_26 : decode cX0_startFrom 26 = .ok (.iinc 2 1, 3) := by decide +kernel
theorem dX0_startFrom_29 : decode cX0_startFrom 29 = .ok (.goto (-27), 3) := by decide +kernel
theorem dX0_startFrom_32 : decode cX0_startFrom 32 = .ok (.aload_n 0, 1) := by decide +kernel
theorem dX0_startFrom_33 : decode cX0_startFrom 33 = .ok (.iconst 0, 1) := by decide +kernel
theorem dX0_startFrom_34 : decode cX0_startFrom 34 = .ok (.putfield 21, 3) := by decide +kernel
theorem dX0_startFrom_37 : decode cX0_startFrom 37 = .ok (.aload_n 0, 1) := by decide +kernel
theorem dX0_startFrom_38 : decode cX0_startFrom 38 = .ok (.iconst 0, 1) := by decide +kernel
theorem dX0_startFrom_39 : decode cX0_startFrom 39 = .ok (.putfield 25, 3) := by decide +kernel
theorem dX0_startFrom_42 : decode cX0_startFrom 42 = .ok (.return_, 1) := by decide +kernel
theorem dX0_put_0 : decode cX0_put 0 = .ok (.aload_n 0, 1) := by decide +kernel
theorem dX0_put_1 : decode cX0_put 1 = .ok (.getfield 15, 3) := by decide +kernel
theorem dX0_put_4 : decode cX0_put 4 = .ok (.iload_n 2, 1) := by decide +kernel
theorem dX0_put_5 : decode cX0_put 5 = .ok (.iload_n 3, 1) := by decide +kernel
theorem dX0_put_6 : decode cX0_put 6 = .ok (.iastore, 1) := by decide +kernel
theorem dX0_put_7 : decode cX0_put 7 = .ok (.aload_n 0, 1) := by decide +kernel
theorem dX0_put_8 : decode cX0_put 8 = .ok (.getfield 18, 3) := by decide +kernel
theorem dX0_put_11 : decode cX0_put 11 = .ok (.iload_n 2, 1) := by decide +kernel
theorem dX0_put_12 : decode cX0_put 12 = .ok (.iload_n 1, 1) := by decide +kernel
theorem dX0_put_13 : decode cX0_put 13 = .ok (.iastore, 1) := by decide +kernel
theorem dX0_put_14 : decode cX0_put 14 = .ok (.aload_n 0, 1) := by decide +kernel
theorem dX0_put_15 : decode cX0_put 15 = .ok (.iload_n 1, 1) := by decide +kernel
theorem dX0_put_16 : decode cX0_put 16 = .ok (.putfield 25, 3) := by decide +kernel
theorem dX0_put_19 : decode cX0_put 19 = .ok (.aload_n 0, 1) := by decide +kernel
theorem dX0_put_20 : decode cX0_put 20 = .ok (.dup, 1) := by decide +kernel
theorem dX0_put_21 : decode cX0_put 21 = .ok (.getfield 21, 3) := by decide +kernel
theorem dX0_put_24 : decode cX0_put 24 = .ok (.iconst 1, 1) := by decide +kernel
theorem dX0_put_25 : decode cX0_put 25 = .ok (.iadd, 1) := by decide +kernel
theorem dX0_put_26 : decode cX0_put 26 = .ok (.putfield 21, 3) := by decide +kernel
theorem dX0_put_29 : decode cX0_put 29 = .ok (.return_, 1) := by decide +kernel
theorem dX0_changesLeaf_0 : decode cX0_changesLeaf 0 = .ok (.aload_n 0, 1) := by decide +kernel
theorem dX0_changesLeaf_1 : decode cX0_changesLeaf 1 = .ok (.getfield 9, 3) := by decide +kernel
theorem dX0_changesLeaf_4 : decode cX0_changesLeaf 4 = .ok (.iload_n 1, 1) := by decide +kernel
theorem dX0_changesLeaf_5 : decode cX0_changesLeaf 5 = .ok (.iaload, 1) := by decide +kernel
theorem dX0_changesLeaf_6 : decode cX0_changesLeaf 6 = .ok (.aload_n 0, 1) := by decide +kernel
theorem dX0_changesLeaf_7 : decode cX0_changesLeaf 7 = .ok (.getfield 15, 3) := by decide +kernel
theorem dX0_changesLeaf_10 : decode cX0_changesLeaf 10 = .ok (.iload_n 1, 1) := by decide +kernel
theorem dX0_changesLeaf_11 : decode cX0_changesLeaf 11 = .ok (.iaload, 1) := by decide +kernel
theorem dX0_changesLeaf_12 : decode cX0_changesLeaf 12 = .ok (.if_icmp .eq 7, 3) := by decide +kernel
theorem dX0_changesLeaf_15 : decode cX0_changesLeaf 15 = .ok (.iconst 1, 1) := by decide +kernel
theorem dX0_changesLeaf_16 : decode cX0_changesLeaf 16 = .ok (.goto 4, 3) := by decide +kernel
theorem dX0_changesLeaf_19 : decode cX0_changesLeaf 19 = .ok (.iconst 0, 1) := by decide +kernel
theorem dX0_changesLeaf_20 : decode cX0_changesLeaf 20 = .ok (.ireturn, 1) := by decide +kernel
theorem dX0_changes_0 : decode cX0_changes 0 = .ok (.iconst 0, 1) := by decide +kernel
theorem dX0_changes_1 : decode cX0_changes 1 = .ok (.istore_n 1, 1) := by decide +kernel
theorem dX0_changes_2 : decode cX0_changes 2 = .ok (.iconst 0, 1) := by decide +kernel
theorem dX0_changes_3 : decode cX0_changes 3 = .ok (.istore_n 2, 1) := by decide +kernel
theorem dX0_changes_4 : decode cX0_changes 4 = .ok (.iload_n 2, 1) := by decide +kernel
theorem dX0_changes_5 : decode cX0_changes 5 = .ok (.bipush 32, 2) := by decide +kernel
theorem dX0_changes_7 : decode cX0_changes 7 = .ok (.if_icmp .ge 20, 3) := by decide +kernel
theorem dX0_changes_10 : decode cX0_changes 10 = .ok (.aload_n 0, 1) := by decide +kernel
theorem dX0_changes_11 : decode cX0_changes 11 = .ok (.iload_n 2, 1) := by decide +kernel
theorem dX0_changes_12 : decode cX0_changes 12 = .ok (.invokevirtual 28, 3) := by decide +kernel
theorem dX0_changes_15 : decode cX0_changes 15 = .ok (.ifCond .eq 6, 3) := by decide +kernel
theorem dX0_changes_18 : decode cX0_changes 18 = .ok (.iinc 1 1, 3) := by decide +kernel
theorem dX0_changes_21 : decode cX0_changes 21 = .ok (.iinc 2 1, 3) := by decide +kernel
theorem dX0_changes_24 : decode cX0_changes 24 = .ok (.goto (-20), 3) := by decide +kernel
theorem dX0_changes_27 : decode cX0_changes 27 = .ok (.iload_n 1, 1) := by decide +kernel
theorem dX0_changes_28 : decode cX0_changes 28 = .ok (.ireturn, 1) := by decide +kernel
theorem dX1_init_0 : decode cX1_init 0 = .ok (.aload_n 0, 1) := by decide +kernel
theorem dX1_init_1 : decode cX1_init 1 = .ok (.invokespecial 3, 3) := by decide +kernel
theorem dX1_init_4 : decode cX1_init 4 = .ok (.aload_n 0, 1) := by decide +kernel
theorem dX1_init_5 : decode cX1_init 5 = .ok (.sipush 201, 3) := by decide +kernel
theorem dX1_init_8 : decode cX1_init 8 = .ok (.newarray .int, 2) := by decide +kernel
theorem dX1_init_10 : decode cX1_init 10 = .ok (.putfield 9, 3) := by decide +kernel
theorem dX1_init_13 : decode cX1_init 13 = .ok (.aload_n 0, 1) := by decide +kernel
theorem dX1_init_14 : decode cX1_init 14 = .ok (.sipush 201, 3) := by decide +kernel
theorem dX1_init_17 : decode cX1_init 17 = .ok (.newarray .int, 2) := by decide +kernel
theorem dX1_init_19 : decode cX1_init 19 = .ok (.putfield 15, 3) := by decide +kernel
theorem dX1_init_22 : decode cX1_init 22 = .ok (.return_, 1) := by decide +kernel
theorem dX1_rise_0 : decode cX1_rise 0 = .ok (.aload_n 0, 1) := by decide +kernel
theorem dX1_rise_1 : decode cX1_rise 1 = .ok (.getfield 18, 3) := by decide +kernel
theorem dX1_rise_4 : decode cX1_rise 4 = .ok (.sipush 200, 3) := by decide +kernel
theorem dX1_rise_7 : decode cX1_rise 7 = .ok (.if_icmp .lt 4, 3) := by decide +kernel
theorem dX1_rise_10 : decode cX1_rise 10 = .ok (.return_, 1) := by decide +kernel
theorem dX1_rise_11 : decode cX1_rise 11 = .ok (.aload_n 0, 1) := by decide +kernel
theorem dX1_rise_12 : decode cX1_rise 12 = .ok (.dup, 1) := by decide +kernel
theorem dX1_rise_13 : decode cX1_rise 13 = .ok (.getfield 18, 3) := by decide +kernel
theorem dX1_rise_16 : decode cX1_rise 16 = .ok (.iconst 1, 1) := by decide +kernel
theorem dX1_rise_17 : decode cX1_rise 17 = .ok (.iadd, 1) := by decide +kernel
theorem dX1_rise_18 : decode cX1_rise 18 = .ok (.putfield 18, 3) := by decide +kernel
theorem dX1_rise_21 : decode cX1_rise 21 = .ok (.aload_n 0, 1) := by decide +kernel
theorem dX1_rise_22 : decode cX1_rise 22 = .ok (.getfield 9, 3) := by decide +kernel
theorem dX1_rise_25 : decode cX1_rise 25 = .ok (.aload_n 0, 1) := by decide +kernel
theorem dX1_rise_26 : decode cX1_rise 26 = .ok (.getfield 18, 3) := by decide +kernel
theorem dX1_rise_29 : decode cX1_rise 29 = .ok (.iload_n 1, 1) := by decide +kernel
theorem dX1_rise_30 : decode cX1_rise 30 = .ok (.iastore, 1) := by decide +kernel
theorem dX1_rise_31 : decode cX1_rise 31 = .ok (.aload_n 0, 1) := by decide +kernel
theorem dX1_rise_32 : decode cX1_rise 32 = .ok (.getfield 15, 3) := by decide +kernel
theorem dX1_rise_35 : decode cX1_rise 35 = .ok (.aload_n 0, 1) := by decide +kernel
theorem dX1_rise_36 : decode cX1_rise 36 = .ok (.getfield 18, 3) := by decide +kernel
theorem dX1_rise_39 : decode cX1_rise 39 = .ok (.iconst (-1), 1) := by decide +kernel
theorem dX1_rise_40 : decode cX1_rise 40 = .ok (.iastore, 1) := by decide +kernel
theorem dX1_rise_41 : decode cX1_rise 41 = .ok (.return_, 1) := by decide +kernel
theorem dX1_fallTo_0 : decode cX1_fallTo 0 = .ok (.aload_n 0, 1) := by decide +kernel
theorem dX1_fallTo_1 : decode cX1_fallTo 1 = .ok (.iload_n 1, 1) := by decide +kernel
theorem dX1_fallTo_2 : decode cX1_fallTo 2 = .ok (.putfield 18, 3) := by decide +kernel
theorem dX1_fallTo_5 : decode cX1_fallTo 5 = .ok (.return_, 1) := by decide +kernel
theorem dX1_isGone_0 : decode cX1_isGone 0 = .ok (.aload_n 0, 1) := by decide +kernel
theorem dX1_isGone_1 : decode cX1_isGone 1 = .ok (.getfield 15, 3) := by decide +kernel
theorem dX1_isGone_4 : decode cX1_isGone 4 = .ok (.iload_n 1, 1) := by decide +kernel
theorem dX1_isGone_5 : decode cX1_isGone 5 = .ok (.iaload, 1) := by decide +kernel
theorem dX1_isGone_6 : decode cX1_isGone 6 = .ok (.iconst (-1), 1) := by decide +kernel
theorem dX1_isGone_7 : decode cX1_isGone 7 = .ok (.if_icmp .eq 7, 3) := by decide +kernel
theorem dX1_isGone_10 : decode cX1_isGone 10 = .ok (.iconst 1, 1) := by decide +kernel
theorem dX1_isGone_11 : decode cX1_isGone 11 = .ok (.goto 4, 3) := by decide +kernel
theorem dX1_isGone_14 : decode cX1_isGone 14 = .ok (.iconst 0, 1) := by decide +kernel
theorem dX1_isGone_15 : decode cX1_isGone 15 = .ok (.ireturn, 1) := by decide +kernel
theorem dX1_isPrunable_0 : decode cX1_isPrunable 0 = .ok (.iload_n 2, 1) := by decide +kernel
theorem dX1_isPrunable_1 : decode cX1_isPrunable 1 = .ok (.ifCond .le 13, 3) := by decide +kernel
theorem dX1_isPrunable_4 : decode cX1_isPrunable 4 = .ok (.iload_n 1, 1) := by decide +kernel
theorem dX1_isPrunable_5 : decode cX1_isPrunable 5 = .ok (.iload_n 2, 1) := by decide +kernel
theorem dX1_isPrunable_6 : decode cX1_isPrunable 6 = .ok (.irem, 1) := by decide +kernel
theorem dX1_isPrunable_7 : decode cX1_isPrunable 7 = .ok (.ifCond .ne 7, 3) := by decide +kernel
theorem dX1_isPrunable_10 : decode cX1_isPrunable 10 = .ok (.iconst 1, 1) := by decide +kernel
theorem dX1_isPrunable_11 : decode cX1_isPrunable 11 = .ok (.goto 4, 3) := by decide +kernel
theorem dX1_isPrunable_14 : decode cX1_isPrunable 14 = .ok (.iconst 0, 1) := by decide +kernel
theorem dX1_isPrunable_15 : decode cX1_isPrunable 15 = .ok (.istore_n 3, 1) := by decide +kernel
theorem dX1_isPrunable_16 : decode cX1_isPrunable 16 = .ok (.iload_n 3, 1) := by decide +kernel
theorem dX1_isPrunable_17 : decode cX1_isPrunable 17 = .ok (.ifCond .ne 15, 3) := by decide +kernel
theorem dX1_isPrunable_20 : decode cX1_isPrunable 20 = .ok (.aload_n 0, 1) := by decide +kernel
theorem dX1_isPrunable_21 : decode cX1_isPrunable 21 = .ok (.iload_n 1, 1) := by decide +kernel
theorem dX1_isPrunable_22 : decode cX1_isPrunable 22 = .ok (.invokevirtual 22, 3) := by decide +kernel
theorem dX1_isPrunable_25 : decode cX1_isPrunable 25 = .ok (.ifCond .ne 7, 3) := by decide +kernel
theorem dX1_isPrunable_28 : decode cX1_isPrunable 28 = .ok (.iconst 1, 1) := by decide +kernel
theorem dX1_isPrunable_29 : decode cX1_isPrunable 29 = .ok (.goto 4, 3) := by decide +kernel
theorem dX1_isPrunable_32 : decode cX1_isPrunable 32 = .ok (.iconst 0, 1) := by decide +kernel
theorem dX1_isPrunable_33 : decode cX1_isPrunable 33 = .ok (.ireturn, 1) := by decide +kernel
theorem dX1_countPrunable_0 : decode cX1_countPrunable 0 = .ok (.iconst 0, 1) := by decide +kernel
theorem dX1_countPrunable_1 : decode cX1_countPrunable 1 = .ok (.istore_n 3, 1) := by decide +kernel
theorem dX1_countPrunable_2 : decode cX1_countPrunable 2 = .ok (.iconst 0, 1) := by decide +kernel
theorem dX1_countPrunable_3 : decode cX1_countPrunable 3 = .ok (.istore 4, 2) := by decide +kernel
theorem dX1_countPrunable_5 : decode cX1_countPrunable 5 = .ok (.iload 4, 2) := by decide +kernel
theorem dX1_countPrunable_7 : decode cX1_countPrunable 7 = .ok (.iload_n 1, 1) := by decide +kernel
theorem dX1_countPrunable_8 : decode cX1_countPrunable 8 = .ok (.if_icmp .ge 22, 3) := by decide +kernel
theorem dX1_countPrunable_11 : decode cX1_countPrunable 11 = .ok (.aload_n 0, 1) := by decide +kernel
theorem dX1_countPrunable_12 : decode cX1_countPrunable 12 = .ok (.iload 4, 2) := by decide +kernel
theorem dX1_countPrunable_14 : decode cX1_countPrunable 14 = .ok (.iload_n 2, 1) := by decide +kernel
theorem dX1_countPrunable_15 : decode cX1_countPrunable 15 = .ok (.invokevirtual 26, 3) := by decide +kernel
theorem dX1_countPrunable_18 : decode cX1_countPrunable 18 = .ok (.ifCond .eq 6, 3) := by decide +kernel
theorem dX1_countPrunable_21 : decode cX1_countPrunable 21 = .ok (.iinc 3 1, 3) := by decide +kernel
theorem dX1_countPrunable_24 : decode cX1_countPrunable 24 = .ok (.iinc 4 1, 3) := by decide +kernel
theorem dX1_countPrunable_27 : decode cX1_countPrunable 27 = .ok (.goto (-22), 3) := by decide +kernel
theorem dX1_countPrunable_30 : decode cX1_countPrunable 30 = .ok (.iload_n 3, 1) := by decide +kernel
theorem dX1_countPrunable_31 : decode cX1_countPrunable 31 = .ok (.ireturn, 1) := by decide +kernel
theorem dX1_moveTo_0 : decode cX1_moveTo 0 = .ok (.iconst 0, 1) := by decide +kernel
theorem dX1_moveTo_1 : decode cX1_moveTo 1 = .ok (.istore 4, 2) := by decide +kernel
theorem dX1_moveTo_3 : decode cX1_moveTo 3 = .ok (.iload 4, 2) := by decide +kernel
theorem dX1_moveTo_5 : decode cX1_moveTo 5 = .ok (.iload_n 2, 1) := by decide +kernel
theorem dX1_moveTo_6 : decode cX1_moveTo 6 = .ok (.if_icmp .ge 27, 3) := by decide +kernel
theorem dX1_moveTo_9 : decode cX1_moveTo 9 = .ok (.aload_n 0, 1) := by decide +kernel
theorem dX1_moveTo_10 : decode cX1_moveTo 10 = .ok (.iload 4, 2) := by decide +kernel
theorem dX1_moveTo_12 : decode cX1_moveTo 12 = .ok (.iload_n 3, 1) := by decide +kernel
theorem dX1_moveTo_13 : decode cX1_moveTo 13 = .ok (.invokevirtual 26, 3) := by decide +kernel
theorem dX1_moveTo_16 : decode cX1_moveTo 16 = .ok (.ifCond .eq 11, 3) := by decide +kernel
theorem dX1_moveTo_19 : decode cX1_moveTo 19 = .ok (.aload_n 0, 1) := by decide +kernel
theorem dX1_moveTo_20 : decode cX1_moveTo 20 = .ok (.getfield 15, 3) := by decide +kernel
theorem dX1_moveTo_23 : decode cX1_moveTo 23 = .ok (.iload 4, 2) := by decide +kernel
theorem dX1_moveTo_25 : decode cX1_moveTo 25 = .ok (.iload_n 1, 1) := by decide +kernel
theorem dX1_moveTo_26 : decode cX1_moveTo 26 = .ok (.iastore, 1) := by decide +kernel
theorem dX1_moveTo_27 : decode cX1_moveTo 27 = .ok (.iinc 4 1, 3) := by decide +kernel
theorem dX1_moveTo_30 : decode cX1_moveTo 30 = .ok (.goto (-27), 3) := by decide +kernel
theorem dX1_moveTo_33 : decode cX1_moveTo 33 = .ok (.return_, 1) := by decide +kernel
theorem dX1_relabel_0 : decode cX1_relabel 0 = .ok (.iconst 0, 1) := by decide +kernel
theorem dX1_relabel_1 : decode cX1_relabel 1 = .ok (.istore_n 3, 1) := by decide +kernel
theorem dX1_relabel_2 : decode cX1_relabel 2 = .ok (.iload_n 3, 1) := by decide +kernel
theorem dX1_relabel_3 : decode cX1_relabel 3 = .ok (.aload_n 0, 1) := by decide +kernel
theorem dX1_relabel_4 : decode cX1_relabel 4 = .ok (.getfield 18, 3) := by decide +kernel
theorem dX1_relabel_7 : decode cX1_relabel 7 = .ok (.if_icmp .gt 26, 3) := by decide +kernel
theorem dX1_relabel_10 : decode cX1_relabel 10 = .ok (.aload_n 0, 1) := by decide +kernel
theorem dX1_relabel_11 : decode cX1_relabel 11 = .ok (.getfield 15, 3) := by decide +kernel
theorem dX1_relabel_14 : decode cX1_relabel 14 = .ok (.iload_n 3, 1) := by decide +kernel
theorem dX1_relabel_15 : decode cX1_relabel 15 = .ok (.iaload, 1) := by decide +kernel
theorem dX1_relabel_16 : decode cX1_relabel 16 = .ok (.iload_n 1, 1) := by decide +kernel
theorem dX1_relabel_17 : decode cX1_relabel 17 = .ok (.if_icmp .ne 10, 3) := by decide +kernel
theorem dX1_relabel_20 : decode cX1_relabel 20 = .ok (.aload_n 0, 1) := by decide +kernel
theorem dX1_relabel_21 : decode cX1_relabel 21 = .ok (.getfield 15, 3) := by decide +kernel
theorem dX1_relabel_24 : decode cX1_relabel 24 = .ok (.iload_n 3, 1) := by decide +kernel
theorem dX1_relabel_25 : decode cX1_relabel 25 = .ok (.iload_n 2, 1) := by decide +kernel
theorem dX1_relabel_26 : decode cX1_relabel 26 = .ok (.iastore, 1) := by decide +kernel
theorem dX1_relabel_27 : decode cX1_relabel 27 = .ok (.iinc 3 1, 3) := by decide +kernel
theorem dX1_relabel_30 : decode cX1_relabel 30 = .ok (.goto (-28), 3) := by decide +kernel
theorem dX1_relabel_33 : decode cX1_relabel 33 = .ok (.return_, 1) := by decide +kernel
theorem dX1_countIn_0 : decode cX1_countIn 0 = .ok (.iconst 0, 1) := by decide +kernel
theorem dX1_countIn_1 : decode cX1_countIn 1 = .ok (.istore_n 2, 1) := by decide +kernel
theorem dX1_countIn_2 : decode cX1_countIn 2 = .ok (.iconst 0, 1) := by decide +kernel
theorem dX1_countIn_3 : decode cX1_countIn 3 = .ok (.istore_n 3, 1) := by decide +kernel
theorem dX1_countIn_4 : decode cX1_countIn 4 = .ok (.iload_n 3, 1) := by decide +kernel
theorem dX1_countIn_5 : decode cX1_countIn 5 = .ok (.aload_n 0, 1) := by decide +kernel
theorem dX1_countIn_6 : decode cX1_countIn 6 = .ok (.getfield 18, 3) := by decide +kernel
theorem dX1_countIn_9 : decode cX1_countIn 9 = .ok (.if_icmp .gt 22, 3) := by decide +kernel
theorem dX1_countIn_12 : decode cX1_countIn 12 = .ok (.aload_n 0, 1) := by decide +kernel
theorem dX1_countIn_13 : decode cX1_countIn 13 = .ok (.getfield 15, 3) := by decide +kernel
theorem dX1_countIn_16 : decode cX1_countIn 16 = .ok (.iload_n 3, 1) := by decide +kernel
theorem dX1_countIn_17 : decode cX1_countIn 17 = .ok (.iaload, 1) := by decide +kernel
theorem dX1_countIn_18 : decode cX1_countIn 18 = .ok (.iload_n 1, 1) := by decide +kernel
theorem dX1_countIn_19 : decode cX1_countIn 19 = .ok (.if_icmp .ne 6, 3) := by decide +kernel
theorem dX1_countIn_22 : decode cX1_countIn 22 = .ok (.iinc 2 1, 3) := by decide +kernel
theorem dX1_countIn_25 : decode cX1_countIn 25 = .ok (.iinc 3 1, 3) := by decide +kernel
theorem dX1_countIn_28 : decode cX1_countIn 28 = .ok (.goto (-24), 3) := by decide +kernel
theorem dX1_countIn_31 : decode cX1_countIn 31 = .ok (.iload_n 2, 1) := by decide +kernel
theorem dX1_countIn_32 : decode cX1_countIn 32 = .ok (.ireturn, 1) := by decide +kernel
theorem dX1_keepsAny_0 : decode cX1_keepsAny 0 = .ok (.iload_n 1, 1) := by decide +kernel
theorem dX1_keepsAny_1 : decode cX1_keepsAny 1 = .ok (.istore_n 3, 1) := by decide +kernel
theorem dX1_keepsAny_2 : decode cX1_keepsAny 2 = .ok (.iload_n 3, 1) := by decide +kernel
theorem dX1_keepsAny_3 : decode cX1_keepsAny 3 = .ok (.iload_n 2, 1) := by decide +kernel
theorem dX1_keepsAny_4 : decode cX1_keepsAny 4 = .ok (.if_icmp .ge 19, 3) := by decide +kernel
theorem dX1_keepsAny_7 : decode cX1_keepsAny 7 = .ok (.aload_n 0, 1) := by decide +kernel
theorem dX1_keepsAny_8 : decode cX1_keepsAny 8 = .ok (.iload_n 3, 1) := by decide +kernel
theorem dX1_keepsAny_9 : decode cX1_keepsAny 9 = .ok (.invokevirtual 22, 3) := by decide +kernel
theorem dX1_keepsAny_12 : decode cX1_keepsAny 12 = .ok (.ifCond .ne 5, 3) := by decide +kernel
theorem dX1_keepsAny_15 : decode cX1_keepsAny 15 = .ok (.iconst 1, 1) := by decide +kernel
theorem dX1_keepsAny_16 : decode cX1_keepsAny 16 = .ok (.ireturn, 1) := by decide +kernel
theorem dX1_keepsAny_17 : decode cX1_keepsAny 17 = .ok (.iinc 3 1, 3) := by decide +kernel
theorem dX1_keepsAny_20 : decode cX1_keepsAny 20 = .ok (.goto (-18), 3) := by decide +kernel
theorem dX1_keepsAny_23 : decode cX1_keepsAny 23 = .ok (.iconst 0, 1) := by decide +kernel
theorem dX1_keepsAny_24 : decode cX1_keepsAny 24 = .ok (.ireturn, 1) := by decide +kernel
theorem dX2_init_0 : decode cX2_init 0 = .ok (.aload_n 0, 1) := by decide +kernel
theorem dX2_init_1 : decode cX2_init 1 = .ok (.invokespecial 3, 3) := by decide +kernel
theorem dX2_init_4 : decode cX2_init 4 = .ok (.aload_n 0, 1) := by decide +kernel
theorem dX2_init_5 : decode cX2_init 5 = .ok (.sipush 400, 3) := by decide +kernel
theorem dX2_init_8 : decode cX2_init 8 = .ok (.newarray .int, 2) := by decide +kernel
theorem dX2_init_10 : decode cX2_init 10 = .ok (.putfield 9, 3) := by decide +kernel
theorem dX2_init_13 : decode cX2_init 13 = .ok (.aload_n 0, 1) := by decide +kernel
theorem dX2_init_14 : decode cX2_init 14 = .ok (.sipush 400, 3) := by decide +kernel
theorem dX2_init_17 : decode cX2_init 17 = .ok (.newarray .int, 2) := by decide +kernel
theorem dX2_init_19 : decode cX2_init 19 = .ok (.putfield 15, 3) := by decide +kernel
theorem dX2_init_22 : decode cX2_init 22 = .ok (.aload_n 0, 1) := by decide +kernel
theorem dX2_init_23 : decode cX2_init 23 = .ok (.sipush 400, 3) := by decide +kernel
theorem dX2_init_26 : decode cX2_init 26 = .ok (.newarray .int, 2) := by decide +kernel
theorem dX2_init_28 : decode cX2_init 28 = .ok (.putfield 18, 3) := by decide +kernel
theorem dX2_init_31 : decode cX2_init 31 = .ok (.aload_n 0, 1) := by decide +kernel
theorem dX2_init_32 : decode cX2_init 32 = .ok (.sipush 400, 3) := by decide +kernel
theorem dX2_init_35 : decode cX2_init 35 = .ok (.newarray .int, 2) := by decide +kernel
theorem dX2_init_37 : decode cX2_init 37 = .ok (.putfield 21, 3) := by decide +kernel
theorem dX2_init_40 : decode cX2_init 40 = .ok (.aload_n 0, 1) := by decide +kernel
theorem dX2_init_41 : decode cX2_init 41 = .ok (.sipush 400, 3) := by decide +kernel
theorem dX2_init_44 : decode cX2_init 44 = .ok (.newarray .int, 2) := by decide +kernel
theorem dX2_init_46 : decode cX2_init 46 = .ok (.putfield 24, 3) := by decide +kernel
theorem dX2_init_49 : decode cX2_init 49 = .ok (.aload_n 0, 1) := by decide +kernel
theorem dX2_init_50 : decode cX2_init 50 = .ok (.bipush 32, 2) := by decide +kernel
theorem dX2_init_52 : decode cX2_init 52 = .ok (.newarray .int, 2) := by decide +kernel
theorem dX2_init_54 : decode cX2_init 54 = .ok (.putfield 27, 3) := by decide +kernel
theorem dX2_init_57 : decode cX2_init 57 = .ok (.return_, 1) := by decide +kernel
theorem dX2_add_0 : decode cX2_add 0 = .ok (.aload_n 0, 1) := by decide +kernel
theorem dX2_add_1 : decode cX2_add 1 = .ok (.getfield 30, 3) := by decide +kernel
theorem dX2_add_4 : decode cX2_add 4 = .ok (.sipush 400, 3) := by decide +kernel
theorem dX2_add_7 : decode cX2_add 7 = .ok (.if_icmp .lt 4, 3) := by decide +kernel
theorem dX2_add_10 : decode cX2_add 10 = .ok (.return_, 1) := by decide +kernel
theorem dX2_add_11 : decode cX2_add 11 = .ok (.aload_n 0, 1) := by decide +kernel
theorem dX2_add_12 : decode cX2_add 12 = .ok (.getfield 9, 3) := by decide +kernel
theorem dX2_add_15 : decode cX2_add 15 = .ok (.aload_n 0, 1) := by decide +kernel
theorem dX2_add_16 : decode cX2_add 16 = .ok (.getfield 30, 3) := by decide +kernel
theorem dX2_add_19 : decode cX2_add 19 = .ok (.iload_n 1, 1) := by decide +kernel
theorem dX2_add_20 : decode cX2_add 20 = .ok (.iastore, 1) := by decide +kernel
theorem dX2_add_21 : decode cX2_add 21 = .ok (.aload_n 0, 1) := by decide +kernel
theorem dX2_add_22 : decode cX2_add 22 = .ok (.getfield 15, 3) := by decide +kernel
theorem dX2_add_25 : decode cX2_add 25 = .ok (.aload_n 0, 1) := by decide +kernel
theorem dX2_add_26 : decode cX2_add 26 = .ok (.getfield 30, 3) := by decide +kernel
theorem dX2_add_29 : decode cX2_add 29 = .ok (.iload_n 2, 1) := by decide +kernel
theorem dX2_add_30 : decode cX2_add 30 = .ok (.iastore, 1) := by decide +kernel
theorem dX2_add_31 : decode cX2_add 31 = .ok (.aload_n 0, 1) := by decide +kernel
theorem dX2_add_32 : decode cX2_add 32 = .ok (.getfield 18, 3) := by decide +kernel
theorem dX2_add_35 : decode cX2_add 35 = .ok (.aload_n 0, 1) := by decide +kernel
theorem dX2_add_36 : decode cX2_add 36 = .ok (.getfield 30, 3) := by decide +kernel
theorem dX2_add_39 : decode cX2_add 39 = .ok (.iload_n 3, 1) := by decide +kernel
theorem dX2_add_40 : decode cX2_add 40 = .ok (.iastore, 1) := by decide +kernel
theorem dX2_add_41 : decode cX2_add 41 = .ok (.aload_n 0, 1) := by decide +kernel
theorem dX2_add_42 : decode cX2_add 42 = .ok (.getfield 21, 3) := by decide +kernel
theorem dX2_add_45 : decode cX2_add 45 = .ok (.aload_n 0, 1) := by decide +kernel
theorem dX2_add_46 : decode cX2_add 46 = .ok (.getfield 30, 3) := by decide +kernel
theorem dX2_add_49 : decode cX2_add 49 = .ok (.iload 4, 2) := by decide +kernel
theorem dX2_add_51 : decode cX2_add 51 = .ok (.iastore, 1) := by decide +kernel
theorem dX2_add_52 : decode cX2_add 52 = .ok (.aload_n 0, 1) := by decide +kernel
theorem dX2_add_53 : decode cX2_add 53 = .ok (.getfield 24, 3) := by decide +kernel
theorem dX2_add_56 : decode cX2_add 56 = .ok (.aload_n 0, 1) := by decide +kernel
theorem dX2_add_57 : decode cX2_add 57 = .ok (.getfield 30, 3) := by decide +kernel
theorem dX2_add_60 : decode cX2_add 60 = .ok (.iconst (-1), 1) := by decide +kernel
theorem dX2_add_61 : decode cX2_add 61 = .ok (.iastore, 1) := by decide +kernel
theorem dX2_add_62 : decode cX2_add 62 = .ok (.aload_n 0, 1) := by decide +kernel
theorem dX2_add_63 : decode cX2_add 63 = .ok (.dup, 1) := by decide +kernel
theorem dX2_add_64 : decode cX2_add 64 = .ok (.getfield 30, 3) := by decide +kernel
theorem dX2_add_67 : decode cX2_add 67 = .ok (.iconst 1, 1) := by decide +kernel
theorem dX2_add_68 : decode cX2_add 68 = .ok (.iadd, 1) := by decide +kernel
theorem dX2_add_69 : decode cX2_add 69 = .ok (.putfield 30, 3) := by decide +kernel
theorem dX2_add_72 : decode cX2_add 72 = .ok (.return_, 1) := by decide +kernel
theorem dX2_isOf_0 : decode cX2_isOf 0 = .ok (.aload_n 0, 1) := by decide +kernel
theorem dX2_isOf_1 : decode cX2_isOf 1 = .ok (.getfield 15, 3) := by decide +kernel
theorem dX2_isOf_4 : decode cX2_isOf 4 = .ok (.iload_n 1, 1) := by decide +kernel
theorem dX2_isOf_5 : decode cX2_isOf 5 = .ok (.iaload, 1) := by decide +kernel
theorem dX2_isOf_6 : decode cX2_isOf 6 = .ok (.iload_n 2, 1) := by decide +kernel
theorem dX2_isOf_7 : decode cX2_isOf 7 = .ok (.if_icmp .ne 17, 3) := by decide +kernel
theorem dX2_isOf_10 : decode cX2_isOf 10 = .ok (.aload_n 0, 1) := by decide +kernel
theorem dX2_isOf_11 : decode cX2_isOf 11 = .ok (.getfield 24, 3) := by decide +kernel
theorem dX2_isOf_14 : decode cX2_isOf 14 = .ok (.iload_n 1, 1) := by decide +kernel
theorem dX2_isOf_15 : decode cX2_isOf 15 = .ok (.iaload, 1) := by decide +kernel
theorem dX2_isOf_16 : decode cX2_isOf 16 = .ok (.iconst (-1), 1) := by decide +kernel
theorem dX2_isOf_17 : decode cX2_isOf 17 = .ok (.if_icmp .ne 7, 3) := by decide +kernel
theorem dX2_isOf_20 : decode cX2_isOf 20 = .ok (.iconst 1, 1) := by decide +kernel
theorem dX2_isOf_21 : decode cX2_isOf 21 = .ok (.goto 4, 3) := by decide +kernel
theorem dX2_isOf_24 : decode cX2_isOf 24 = .ok (.iconst 0, 1) := by decide +kernel
theorem dX2_isOf_25 : decode cX2_isOf 25 = .ok (.ireturn, 1) := by decide +kernel
theorem dX2_lastOf_0 : decode cX2_lastOf 0 = .ok (.aload_n 0, 1) := by decide +kernel
theorem dX2_lastOf_1 : decode cX2_lastOf 1 = .ok (.getfield 30, 3) := by decide +kernel
theorem dX2_lastOf_4 : decode cX2_lastOf 4 = .ok (.iconst 1, 1) := by decide +kernel
theorem dX2_lastOf_5 : decode cX2_lastOf 5 = .ok (.isub, 1) := by decide +kernel
theorem dX2_lastOf_6 : decode cX2_lastOf 6 = .ok (.istore_n 3, 1) := by decide +kernel
theorem dX2_lastOf_7 : decode cX2_lastOf 7 = .ok (.iload_n 3, 1) := by decide +kernel
theorem dX2_lastOf_8 : decode cX2_lastOf 8 = .ok (.ifCond .lt 30, 3) := by decide +kernel
theorem dX2_lastOf_11 : decode cX2_lastOf 11 = .ok (.aload_n 0, 1) := by decide +kernel
theorem dX2_lastOf_12 : decode cX2_lastOf 12 = .ok (.getfield 9, 3) := by decide +kernel
theorem dX2_lastOf_15 : decode cX2_lastOf 15 = .ok (.iload_n 3, 1) := by decide +kernel
theorem dX2_lastOf_16 : decode cX2_lastOf 16 = .ok (.iaload, 1) := by decide +kernel
theorem dX2_lastOf_17 : decode cX2_lastOf 17 = .ok (.iload_n 2, 1) := by decide +kernel
theorem dX2_lastOf_18 : decode cX2_lastOf 18 = .ok (.if_icmp .gt 14, 3) := by decide +kernel
theorem dX2_lastOf_21 : decode cX2_lastOf 21 = .ok (.aload_n 0, 1) := by decide +kernel
theorem dX2_lastOf_22 : decode cX2_lastOf 22 = .ok (.iload_n 3, 1) := by decide +kernel
theorem dX2_lastOf_23 : decode cX2_lastOf 23 = .ok (.iload_n 1, 1) := by decide +kernel
theorem dX2_lastOf_24 : decode cX2_lastOf 24 = .ok (.invokevirtual 34, 3) := by decide +kernel
theorem dX2_lastOf_27 : decode cX2_lastOf 27 = .ok (.ifCond .eq 5, 3) := by decide +kernel
theorem dX2_lastOf_30 : decode cX2_lastOf 30 = .ok (.iload_n 3, 1) := by decide +kernel
theorem dX2_lastOf_31 : decode cX2_lastOf 31 = .ok (.ireturn, 1) := by decide +kernel
theorem dX2_lastOf_32 : decode cX2_lastOf 32 = .ok (.iinc 3 (-1), 3) := by decide +kernel
theorem dX2_lastOf_35 : decode cX2_lastOf 35 = .ok (.goto (-28), 3) := by decide +kernel
theorem dX2_lastOf_38 : decode cX2_lastOf 38 = .ok (.iconst (-1), 1) := by decide +kernel
theorem dX2_lastOf_39 : decode cX2_lastOf 39 = .ok (.ireturn, 1) := by decide +kernel
theorem dX2_find_0 : decode cX2_find 0 = .ok (.iconst 0, 1) := by decide +kernel
theorem dX2_find_1 : decode cX2_find 1 = .ok (.istore_n 3, 1) := by decide +kernel
theorem dX2_find_2 : decode cX2_find 2 = .ok (.iconst 0, 1) := by decide +kernel
theorem dX2_find_3 : decode cX2_find 3 = .ok (.istore 4, 2) := by decide +kernel
theorem dX2_find_5 : decode cX2_find 5 = .ok (.iload 4, 2) := by decide +kernel
theorem dX2_find_7 : decode cX2_find 7 = .ok (.aload_n 0, 1) := by decide +kernel
theorem dX2_find_8 : decode cX2_find 8 = .ok (.getfield 30, 3) := by decide +kernel
theorem dX2_find_11 : decode cX2_find 11 = .ok (.if_icmp .ge 33, 3) := by decide +kernel
theorem dX2_find_14 : decode cX2_find 14 = .ok (.aload_n 0, 1) := by decide +kernel
theorem dX2_find_15 : decode cX2_find 15 = .ok (.iload 4, 2) := by decide +kernel
theorem dX2_find_17 : decode cX2_find 17 = .ok (.iload_n 1, 1) := by decide +kernel
theorem dX2_find_18 : decode cX2_find 18 = .ok (.invokevirtual 34, 3) := by decide +kernel
theorem dX2_find_21 : decode cX2_find 21 = .ok (.ifCond .ne 6, 3) := by decide +kernel
theorem dX2_find_24 : decode cX2_find 24 = .ok (.goto 14, 3) := by decide +kernel
theorem dX2_find_27 : decode cX2_find 27 = .ok (.iload_n 3, 1) := by decide +kernel
theorem dX2_find_28 : decode cX2_find 28 = .ok (.iload_n 2, 1) := by decide +kernel
theorem dX2_find_29 : decode cX2_find 29 = .ok (.if_icmp .ne 6, 3) := by decide +kernel
theorem dX2_find_32 : decode cX2_find 32 = .ok (.iload 4, 2) := by decide +kernel
theorem dX2_find_34 : decode cX2_find 34 = .ok (.ireturn, 1) := by decide +kernel
theorem dX2_find_35 : decode cX2_find 35 = .ok (.iinc 3 1, 3) := by decide +kernel
theorem dX2_find_38 : decode cX2_find 38 = .ok (.iinc 4 1, 3) := by decide +kernel
theorem dX2_find_41 : decode cX2_find 41 = .ok (.goto (-36), 3) := by decide +kernel
theorem dX2_find_44 : decode cX2_find 44 = .ok (.iconst (-1), 1) := by decide +kernel
theorem dX2_find_45 : decode cX2_find 45 = .ok (.ireturn, 1) := by decide +kernel
theorem dX2_load_0 : decode cX2_load 0 = .ok (.aload_n 2, 1) := by decide +kernel
theorem dX2_load_1 : decode cX2_load 1 = .ok (.iconst 0, 1) := by decide +kernel
theorem dX2_load_2 : decode cX2_load 2 = .ok (.invokestatic 38, 3) := by decide +kernel
theorem dX2_load_5 : decode cX2_load 5 = .ok (.aload_n 0, 1) := by decide +kernel
theorem dX2_load_6 : decode cX2_load 6 = .ok (.iconst 0, 1) := by decide +kernel
theorem dX2_load_7 : decode cX2_load 7 = .ok (.iload_n 1, 1) := by decide +kernel
theorem dX2_load_8 : decode cX2_load 8 = .ok (.aload_n 2, 1) := by decide +kernel
theorem dX2_load_9 : decode cX2_load 9 = .ok (.invokevirtual 44, 3) := by decide +kernel
theorem dX2_load_12 : decode cX2_load 12 = .ok (.pop, 1) := by decide +kernel
theorem dX2_load_13 : decode cX2_load 13 = .ok (.return_, 1) := by decide +kernel
theorem dX2_redo_0 : decode cX2_redo 0 = .ok (.iconst 0, 1) := by decide +kernel
theorem dX2_redo_1 : decode cX2_redo 1 = .ok (.istore 4, 2) := by decide +kernel
theorem dX2_redo_3 : decode cX2_redo 3 = .ok (.iconst 0, 1) := by decide +kernel
theorem dX2_redo_4 : decode cX2_redo 4 = .ok (.istore 5, 2) := by decide +kernel
theorem dX2_redo_6 : decode cX2_redo 6 = .ok (.iload 5, 2) := by decide +kernel
theorem dX2_redo_8 : decode cX2_redo 8 = .ok (.aload_n 0, 1) := by decide +kernel
theorem dX2_redo_9 : decode cX2_redo 9 = .ok (.getfield 30, 3) := by decide +kernel
theorem dX2_redo_12 : decode cX2_redo 12 = .ok (.if_icmp .ge 64, 3) := by decide +kernel
theorem dX2_redo_15 : decode cX2_redo 15 = .ok (.aload_n 0, 1) := by decide +kernel
theorem dX2_redo_16 : decode cX2_redo 16 = .ok (.getfield 9, 3) := by decide +kernel
theorem dX2_redo_19 : decode cX2_redo 19 = .ok (.iload 5, 2) := by decide +kernel
theorem dX2_redo_21 : decode cX2_redo 21 = .ok (.iaload, 1) := by decide +kernel
theorem dX2_redo_22 : decode cX2_redo 22 = .ok (.iload_n 2, 1) := by decide +kernel
theorem dX2_redo_23 : decode cX2_redo 23 = .ok (.if_icmp .gt 53, 3) := by decide +kernel
theorem dX2_redo_26 : decode cX2_redo 26 = .ok (.aload_n 0, 1) := by decide +kernel
theorem dX2_redo_27 : decode cX2_redo 27 = .ok (.getfield 9, 3) := by decide +kernel
theorem dX2_redo_30 : decode cX2_redo 30 = .ok (.iload 5, 2) := by decide +kernel
theorem dX2_redo_32 : decode cX2_redo 32 = .ok (.iaload, 1) := by decide +kernel
theorem dX2_redo_33 : decode cX2_redo 33 = .ok (.iload_n 1, 1) := by decide +kernel
theorem dX2_redo_34 : decode cX2_redo 34 = .ok (.if_icmp .le 36, 3) := by decide +kernel
theorem dX2_redo_37 : decode cX2_redo 37 = .ok (.aload_n 0, 1) := by decide +kernel
theorem dX2_redo_38 : decode cX2_redo 38 = .ok (.getfield 24, 3) := by decide +kernel
theorem dX2_redo_41 : decode cX2_redo 41 = .ok (.iload 5, 2) := by decide +kernel
theorem dX2_redo_43 : decode cX2_redo 43 = .ok (.iaload, 1) := by decide +kernel
theorem dX2_redo_44 : decode cX2_redo 44 = .ok (.iconst (-1), 1) := by decide +kernel
theorem dX2_redo_45 : decode cX2_redo 45 = .ok (.if_icmp .eq 6, 3) := by decide +kernel
theorem dX2_redo_48 : decode cX2_redo 48 = .ok (.goto 22, 3) := by decide +kernel
theorem dX2_redo_51 : decode cX2_redo 51 = .ok (.aload_n 3, 1) := by decide +kernel
theorem dX2_redo_52 : decode cX2_redo 52 = .ok (.aload_n 0, 1) := by decide +kernel
theorem dX2_redo_53 : decode cX2_redo 53 = .ok (.getfield 15, 3) := by decide +kernel
theorem dX2_redo_56 : decode cX2_redo 56 = .ok (.iload 5, 2) := by decide +kernel
theorem dX2_redo_58 : decode cX2_redo 58 = .ok (.iaload, 1) := by decide +kernel
theorem dX2_redo_59 : decode cX2_redo 59 = .ok (.aload_n 0, 1) := by decide +kernel
theorem dX2_redo_60 : decode cX2_redo 60 = .ok (.getfield 18, 3) := by decide +kernel
theorem dX2_redo_63 : decode cX2_redo 63 = .ok (.iload 5, 2) := by decide +kernel
theorem dX2_redo_65 : decode cX2_redo 65 = .ok (.iaload, 1) := by decide +kernel
theorem dX2_redo_66 : decode cX2_redo 66 = .ok (.iastore, 1) := by decide +kernel
theorem dX2_redo_67 : decode cX2_redo 67 = .ok (.iinc 4 1, 3) := by decide +kernel
theorem dX2_redo_70 : decode cX2_redo 70 = .ok (.iinc 5 1, 3) := by decide +kernel
theorem dX2_redo_73 : decode cX2_redo 73 = .ok (.goto (-67), 3) := by decide +kernel
theorem dX2_redo_76 : decode cX2_redo 76 = .ok (.iload 4, 2) := by decide +kernel
theorem dX2_redo_78 : decode cX2_redo 78 = .ok (.ireturn, 1) := by decide +kernel
theorem dX2_moveUnneededTo_0 : decode cX2_moveUnneededTo 0 = .ok (.aload_n 0, 1) := by decide +kernel
theorem dX2_moveUnneededTo_1 : decode cX2_moveUnneededTo 1 = .ok (.getfield 27, 3) := by decide +kernel
theorem dX2_moveUnneededTo_4 : decode cX2_moveUnneededTo 4 = .ok (.aload_n 2, 1) := by decide +kernel
theorem dX2_moveUnneededTo_5 : decode cX2_moveUnneededTo 5 = .ok (.getfield 48, 3) := by decide +kernel
theorem dX2_moveUnneededTo_8 : decode cX2_moveUnneededTo 8 = .ok (.iconst 1, 1) := by decide +kernel
theorem dX2_moveUnneededTo_9 : decode cX2_moveUnneededTo 9 = .ok (.iadd, 1) := by decide +kernel
theorem dX2_moveUnneededTo_10 : decode cX2_moveUnneededTo 10 = .ok (.invokestatic 38, 3) := by decide +kernel
theorem dX2_moveUnneededTo_13 : decode cX2_moveUnneededTo 13 = .ok (.aload_n 0, 1) := by decide +kernel
theorem dX2_moveUnneededTo_14 : decode cX2_moveUnneededTo 14 = .ok (.getfield 30, 3) := by decide +kernel
theorem dX2_moveUnneededTo_17 : decode cX2_moveUnneededTo 17 = .ok (.iconst 1, 1) := by decide +kernel
theorem dX2_moveUnneededTo_18 : decode cX2_moveUnneededTo 18 = .ok (.isub, 1) := by decide +kernel
theorem dX2_moveUnneededTo_19 : decode cX2_moveUnneededTo 19 = .ok (.istore_n 3, 1) := by decide +kernel
theorem dX2_moveUnneededTo_20 : decode cX2_moveUnneededTo 20 = .ok (.iload_n 3, 1) := by decide +kernel
theorem dX2_moveUnneededTo_21 : decode cX2_moveUnneededTo 21 = .ok (.ifCond .lt 70, 3) := by decide +kernel
theorem dX2_moveUnneededTo_24 : decode cX2_moveUnneededTo 24 = .ok (.aload_n 0, 1) := by decide +kernel
theorem dX2_moveUnneededTo_25 : decode cX2_moveUnneededTo 25 = .ok (.getfield 24, 3) := by decide +kernel
theorem dX2_moveUnneededTo_28 : decode cX2_moveUnneededTo 28 = .ok (.iload_n 3, 1) := by decide +kernel
theorem dX2_moveUnneededTo_29 : decode cX2_moveUnneededTo 29 = .ok (.iaload, 1) := by decide +kernel
theorem dX2_moveUnneededTo_30 : decode cX2_moveUnneededTo 30 = .ok (.iconst (-1), 1) := by decide +kernel
theorem dX2_moveUnneededTo_31 : decode cX2_moveUnneededTo 31 = .ok (.if_icmp .eq 6, 3) := by decide +kernel
theorem dX2_moveUnneededTo_34 : decode cX2_moveUnneededTo 34 = .ok (.goto 51, 3) := by decide +kernel
theorem dX2_moveUnneededTo_37 : decode cX2_moveUnneededTo 37 = .ok (.aload_n 0, 1) := by decide +kernel
theorem dX2_moveUnneededTo_38 : decode cX2_moveUnneededTo 38 = .ok (.getfield 15, 3) := by decide +kernel
theorem dX2_moveUnneededTo_41 : decode cX2_moveUnneededTo 41 = .ok (.iload_n 3, 1) := by decide +kernel
theorem dX2_moveUnneededTo_42 : decode cX2_moveUnneededTo 42 = .ok (.iaload, 1) := by decide +kernel
theorem dX2_moveUnneededTo_43 : decode cX2_moveUnneededTo 43 = .ok (.istore 4, 2) := by decide +kernel
theorem dX2_moveUnneededTo_45 : decode cX2_moveUnneededTo 45 = .ok (.aload_n 2, 1) := by decide +kernel
theorem dX2_moveUnneededTo_46 : decode cX2_moveUnneededTo 46 = .ok (.aload_n 0, 1) := by decide +kernel
theorem dX2_moveUnneededTo_47 : decode cX2_moveUnneededTo 47 = .ok (.getfield 9, 3) := by decide +kernel
theorem dX2_moveUnneededTo_50 : decode cX2_moveUnneededTo 50 = .ok (.iload_n 3, 1) := by decide +kernel
theorem dX2_moveUnneededTo_51 : decode cX2_moveUnneededTo 51 = .ok (.iaload, 1) := by decide +kernel
theorem dX2_moveUnneededTo_52 : decode cX2_moveUnneededTo 52 = .ok (.aload_n 0, 1) := by decide +kernel
theorem dX2_moveUnneededTo_53 : decode cX2_moveUnneededTo 53 = .ok (.getfield 27, 3) := by decide +kernel
theorem dX2_moveUnneededTo_56 : decode cX2_moveUnneededTo 56 = .ok (.iload 4, 2) := by decide +kernel
theorem dX2_moveUnneededTo_58 : decode cX2_moveUnneededTo 58 = .ok (.iaload, 1) := by decide +kernel
theorem dX2_moveUnneededTo_59 : decode cX2_moveUnneededTo 59 = .ok (.invokevirtual 53, 3) := by decide +kernel
theorem dX2_moveUnneededTo_62 : decode cX2_moveUnneededTo 62 = .ok (.ifCond .ne 10, 3) := by decide +kernel
theorem dX2_moveUnneededTo_65 : decode cX2_moveUnneededTo 65 = .ok (.aload_n 0, 1) := by decide +kernel
theorem dX2_moveUnneededTo_66 : decode cX2_moveUnneededTo 66 = .ok (.getfield 24, 3) := by decide +kernel
theorem dX2_moveUnneededTo_69 : decode cX2_moveUnneededTo 69 = .ok (.iload_n 3, 1) := by decide +kernel
theorem dX2_moveUnneededTo_70 : decode cX2_moveUnneededTo 70 = .ok (.iload_n 1, 1) := by decide +kernel
theorem dX2_moveUnneededTo_71 : decode cX2_moveUnneededTo 71 = .ok (.iastore, 1) := by decide +kernel
theorem dX2_moveUnneededTo_72 : decode cX2_moveUnneededTo 72 = .ok (.aload_n 0, 1) := by decide +kernel
theorem dX2_moveUnneededTo_73 : decode cX2_moveUnneededTo 73 = .ok (.getfield 27, 3) := by decide +kernel
theorem dX2_moveUnneededTo_76 : decode cX2_moveUnneededTo 76 = .ok (.iload 4, 2) := by decide +kernel
theorem dX2_moveUnneededTo_78 : decode cX2_moveUnneededTo 78 = .ok (.aload_n 0, 1) := by decide +kernel
theorem dX2_moveUnneededTo_79 : decode cX2_moveUnneededTo 79 = .ok (.getfield 9, 3) := by decide +kernel
theorem dX2_moveUnneededTo_82 : decode cX2_moveUnneededTo 82 = .ok (.iload_n 3, 1) := by decide +kernel
theorem dX2_moveUnneededTo_83 : decode cX2_moveUnneededTo 83 = .ok (.iaload, 1) := by decide +kernel
theorem dX2_moveUnneededTo_84 : decode cX2_moveUnneededTo 84 = .ok (.iastore, 1) := by decide +kernel
theorem dX2_moveUnneededTo_85 : decode cX2_moveUnneededTo 85 = .ok (.iinc 3 (-1), 3) := by decide +kernel
theorem dX2_moveUnneededTo_88 : decode cX2_moveUnneededTo 88 = .ok (.goto (-68), 3) := by decide +kernel
theorem dX2_moveUnneededTo_91 : decode cX2_moveUnneededTo 91 = .ok (.return_, 1) := by decide +kernel
theorem dX2_takeFrom_0 : decode cX2_takeFrom 0 = .ok (.iconst 0, 1) := by decide +kernel
theorem dX2_takeFrom_1 : decode cX2_takeFrom 1 = .ok (.istore_n 2, 1) := by decide +kernel
theorem dX2_takeFrom_2 : decode cX2_takeFrom 2 = .ok (.iconst 0, 1) := by decide +kernel
theorem dX2_takeFrom_3 : decode cX2_takeFrom 3 = .ok (.istore_n 3, 1) := by decide +kernel
theorem dX2_takeFrom_4 : decode cX2_takeFrom 4 = .ok (.iload_n 3, 1) := by decide +kernel
theorem dX2_takeFrom_5 : decode cX2_takeFrom 5 = .ok (.aload_n 0, 1) := by decide +kernel
theorem dX2_takeFrom_6 : decode cX2_takeFrom 6 = .ok (.getfield 30, 3) := by decide +kernel
theorem dX2_takeFrom_9 : decode cX2_takeFrom 9 = .ok (.if_icmp .ge 32, 3) := by decide +kernel
theorem dX2_takeFrom_12 : decode cX2_takeFrom 12 = .ok (.aload_n 0, 1) := by decide +kernel
theorem dX2_takeFrom_13 : decode cX2_takeFrom 13 = .ok (.getfield 24, 3) := by decide +kernel
theorem dX2_takeFrom_16 : decode cX2_takeFrom 16 = .ok (.iload_n 3, 1) := by decide +kernel
theorem dX2_takeFrom_17 : decode cX2_takeFrom 17 = .ok (.iaload, 1) := by decide +kernel
theorem dX2_takeFrom_18 : decode cX2_takeFrom 18 = .ok (.iload_n 1, 1) := by decide +kernel
theorem dX2_takeFrom_19 : decode cX2_takeFrom 19 = .ok (.if_icmp .eq 6, 3) := by decide +kernel
theorem dX2_takeFrom_22 : decode cX2_takeFrom 22 = .ok (.goto 13, 3) := by decide +kernel
theorem dX2_takeFrom_25 : decode cX2_takeFrom 25 = .ok (.aload_n 0, 1) := by decide +kernel
theorem dX2_takeFrom_26 : decode cX2_takeFrom 26 = .ok (.getfield 24, 3) := by decide +kernel
theorem dX2_takeFrom_29 : decode cX2_takeFrom 29 = .ok (.iload_n 3, 1) := by decide +kernel
theorem dX2_takeFrom_30 : decode cX2_takeFrom 30 = .ok (.iconst (-1), 1) := by decide +kernel
theorem dX2_takeFrom_31 : decode cX2_takeFrom 31 = .ok (.iastore, 1) := by decide +kernel
theorem dX2_takeFrom_32 : decode cX2_takeFrom 32 = .ok (.iinc 2 1, 3) := by decide +kernel
theorem dX2_takeFrom_35 : decode cX2_takeFrom 35 = .ok (.iinc 3 1, 3) := by decide +kernel
theorem dX2_takeFrom_38 : decode cX2_takeFrom 38 = .ok (.goto (-34), 3) := by decide +kernel
theorem dX2_takeFrom_41 : decode cX2_takeFrom 41 = .ok (.iload_n 2, 1) := by decide +kernel
theorem dX2_takeFrom_42 : decode cX2_takeFrom 42 = .ok (.ireturn, 1) := by decide +kernel
theorem dX2_removeArchived_0 : decode cX2_removeArchived 0 = .ok (.iconst 0, 1) := by decide +kernel
theorem dX2_removeArchived_1 : decode cX2_removeArchived 1 = .ok (.istore_n 1, 1) := by decide +kernel
theorem dX2_removeArchived_2 : decode cX2_removeArchived 2 = .ok (.iconst 0, 1) := by decide +kernel
theorem dX2_removeArchived_3 : decode cX2_removeArchived 3 = .ok (.istore_n 2, 1) := by decide +kernel
theorem dX2_removeArchived_4 : decode cX2_removeArchived 4 = .ok (.iload_n 2, 1) := by decide +kernel
theorem dX2_removeArchived_5 : decode cX2_removeArchived 5 = .ok (.aload_n 0, 1) := by decide +kernel
theorem dX2_removeArchived_6 : decode cX2_removeArchived 6 = .ok (.getfield 30, 3) := by decide +kernel
theorem dX2_removeArchived_9 : decode cX2_removeArchived 9 = .ok (.if_icmp .ge 31, 3) := by decide +kernel
theorem dX2_removeArchived_12 : decode cX2_removeArchived 12 = .ok (.aload_n 0, 1) := by decide +kernel
theorem dX2_removeArchived_13 : decode cX2_removeArchived 13 = .ok (.getfield 24, 3) := by decide +kernel
theorem dX2_removeArchived_16 : decode cX2_removeArchived 16 = .ok (.iload_n 2, 1) := by decide +kernel
theorem dX2_removeArchived_17 : decode cX2_removeArchived 17 = .ok (.iaload, 1) := by decide +kernel
theorem dX2_removeArchived_18 : decode cX2_removeArchived 18 = .ok (.iconst (-1), 1) := by decide +kernel
theorem dX2_removeArchived_19 : decode cX2_removeArchived 19 = .ok (.if_icmp .eq 6, 3) := by decide +kernel
theorem dX2_removeArchived_22 : decode cX2_removeArchived 22 = .ok (.goto 12, 3) := by decide +kernel
theorem dX2_removeArchived_25 : decode cX2_removeArchived 25 = .ok (.aload_n 0, 1) := by decide +kernel
theorem dX2_removeArchived_26 : decode cX2_removeArchived 26 = .ok (.iload_n 2, 1) := by decide +kernel
theorem dX2_removeArchived_27 : decode cX2_removeArchived 27 = .ok (.iload_n 1, 1) := by decide +kernel
theorem dX2_removeArchived_28 : decode cX2_removeArchived 28 = .ok (.invokevirtual 56, 3) := by decide +kernel
theorem dX2_removeArchived_31 : decode cX2_removeArchived 31 = .ok (.iinc 1 1, 3) := by decide +kernel
theorem dX2_removeArchived_34 : decode cX2_removeArchived 34 = .ok (.iinc 2 1, 3) := by decide +kernel
theorem dX2_removeArchived_37 : decode cX2_removeArchived 37 = .ok (.goto (-33), 3) := by decide +kernel
theorem dX2_removeArchived_40 : decode cX2_removeArchived 40 = .ok (.aload_n 0, 1) := by decide +kernel
theorem dX2_removeArchived_41 : decode cX2_removeArchived 41 = .ok (.getfield 30, 3) := by decide +kernel
theorem dX2_removeArchived_44 : decode cX2_removeArchived 44 = .ok (.iload_n 1, 1) := by decide +kernel
theorem dX2_removeArchived_45 : decode cX2_removeArchived 45 = .ok (.isub, 1) := by decide +kernel
theorem dX2_removeArchived_46 : decode cX2_removeArchived 46 = .ok (.istore_n 2, 1) := by decide +kernel
theorem dX2_removeArchived_47 : decode cX2_removeArchived 47 = .ok (.aload_n 0, 1) := by decide +kernel
theorem dX2_removeArchived_48 : decode cX2_removeArchived 48 = .ok (.iload_n 1, 1) := by decide +kernel
theorem dX2_removeArchived_49 : decode cX2_removeArchived 49 = .ok (.putfield 30, 3) := by decide +kernel
theorem dX2_removeArchived_52 : decode cX2_removeArchived 52 = .ok (.iload_n 2, 1) := by decide +kernel
theorem dX2_removeArchived_53 : decode cX2_removeArchived 53 = .ok (.ireturn, 1) := by decide +kernel
theorem dX2_removeAbove_0 : decode cX2_removeAbove 0 = .ok (.iconst 0, 1) := by decide +kernel
theorem dX2_removeAbove_1 : decode cX2_removeAbove 1 = .ok (.istore_n 2, 1) := by decide +kernel
theorem dX2_removeAbove_2 : decode cX2_removeAbove 2 = .ok (.iload_n 2, 1) := by decide +kernel
theorem dX2_removeAbove_3 : decode cX2_removeAbove 3 = .ok (.aload_n 0, 1) := by decide +kernel
theorem dX2_removeAbove_4 : decode cX2_removeAbove 4 = .ok (.getfield 30, 3) := by decide +kernel
theorem dX2_removeAbove_7 : decode cX2_removeAbove 7 = .ok (.if_icmp .ge 19, 3) := by decide +kernel
theorem dX2_removeAbove_10 : decode cX2_removeAbove 10 = .ok (.aload_n 0, 1) := by decide +kernel
theorem dX2_removeAbove_11 : decode cX2_removeAbove 11 = .ok (.getfield 9, 3) := by decide +kernel
theorem dX2_removeAbove_14 : decode cX2_removeAbove 14 = .ok (.iload_n 2, 1) := by decide +kernel
theorem dX2_removeAbove_15 : decode cX2_removeAbove 15 = .ok (.iaload, 1) := by decide +kernel
theorem dX2_removeAbove_16 : decode cX2_removeAbove 16 = .ok (.iload_n 1, 1) := by decide +kernel
theorem dX2_removeAbove_17 : decode cX2_removeAbove 17 = .ok (.if_icmp .gt 9, 3) := by decide +kernel
theorem dX2_removeAbove_20 : decode cX2_removeAbove 20 = .ok (.iinc 2 1, 3) := by decide +kernel
theorem dX2_removeAbove_23 : decode cX2_removeAbove 23 = .ok (.goto (-21), 3) := by decide +kernel
theorem dX2_removeAbove_26 : decode cX2_removeAbove 26 = .ok (.aload_n 0, 1) := by decide +kernel
theorem dX2_removeAbove_27 : decode cX2_removeAbove 27 = .ok (.getfield 30, 3) := by decide +kernel
theorem dX2_removeAbove_30 : decode cX2_removeAbove 30 = .ok (.iload_n 2, 1) := by decide +kernel
theorem dX2_removeAbove_31 : decode cX2_removeAbove 31 = .ok (.isub, 1) := by decide +kernel
theorem dX2_removeAbove_32 : decode cX2_removeAbove 32 = .ok (.istore_n 3, 1) := by decide +kernel
theorem dX2_removeAbove_33 : decode cX2_removeAbove 33 = .ok (.aload_n 0, 1) := by decide +kernel
theorem dX2_removeAbove_34 : decode cX2_removeAbove 34 = .ok (.iload_n 2, 1) := by decide +kernel
theorem dX2_removeAbove_35 : decode cX2_removeAbove 35 = .ok (.putfield 30, 3) := by decide +kernel
theorem dX2_removeAbove_38 : decode cX2_removeAbove 38 = .ok (.iload_n 3, 1) := by decide +kernel
theorem dX2_removeAbove_39 : decode cX2_removeAbove 39 = .ok (.ireturn, 1) := by decide +kernel
theorem dX2_countIn_0 : decode cX2_countIn 0 = .ok (.iconst 0, 1) := by decide +kernel
theorem dX2_countIn_1 : decode cX2_countIn 1 = .ok (.istore_n 2, 1) := by decide +kernel
theorem dX2_countIn_2 : decode cX2_countIn 2 = .ok (.iconst 0, 1) := by decide +kernel
theorem dX2_countIn_3 : decode cX2_countIn 3 = .ok (.istore_n 3, 1) := by decide +kernel
theorem dX2_countIn_4 : decode cX2_countIn 4 = .ok (.iload_n 3, 1) := by decide +kernel
theorem dX2_countIn_5 : decode cX2_countIn 5 = .ok (.aload_n 0, 1) := by decide +kernel
theorem dX2_countIn_6 : decode cX2_countIn 6 = .ok (.getfield 30, 3) := by decide +kernel
theorem dX2_countIn_9 : decode cX2_countIn 9 = .ok (.if_icmp .ge 22, 3) := by decide +kernel
theorem dX2_countIn_12 : decode cX2_countIn 12 = .ok (.aload_n 0, 1) := by decide +kernel
theorem dX2_countIn_13 : decode cX2_countIn 13 = .ok (.getfield 24, 3) := by decide +kernel
theorem dX2_countIn_16 : decode cX2_countIn 16 = .ok (.iload_n 3, 1) := by decide +kernel
theorem dX2_countIn_17 : decode cX2_countIn 17 = .ok (.iaload, 1) := by decide +kernel
theorem dX2_countIn_18 : decode cX2_countIn 18 = .ok (.iload_n 1, 1) := by decide +kernel
theorem dX2_countIn_19 : decode cX2_countIn 19 = .ok (.if_icmp .ne 6, 3) := by decide +kernel
theorem dX2_countIn_22 : decode cX2_countIn 22 = .ok (.iinc 2 1, 3) := by decide +kernel
theorem dX2_countIn_25 : decode cX2_countIn 25 = .ok (.iinc 3 1, 3) := by decide +kernel
theorem dX2_countIn_28 : decode cX2_countIn 28 = .ok (.goto (-24), 3) := by decide +kernel
theorem dX2_countIn_31 : decode cX2_countIn 31 = .ok (.iload_n 2, 1) := by decide +kernel
theorem dX2_countIn_32 : decode cX2_countIn 32 = .ok (.ireturn, 1) := by decide +kernel
theorem dX2_copyRow_0 : decode cX2_copyRow 0 = .ok (.aload_n 0, 1) := by decide +kernel
theorem dX2_copyRow_1 : decode cX2_copyRow 1 = .ok (.getfield 9, 3) := by decide +kernel
theorem dX2_copyRow_4 : decode cX2_copyRow 4 = .ok (.iload_n 2, 1) := by decide +kernel
theorem dX2_copyRow_5 : decode cX2_copyRow 5 = .ok (.aload_n 0, 1) := by decide +kernel
theorem dX2_copyRow_6 : decode cX2_copyRow 6 = .ok (.getfield 9, 3) := by decide +kernel
theorem dX2_copyRow_9 : decode cX2_copyRow 9 = .ok (.iload_n 1, 1) := by decide +kernel
theorem dX2_copyRow_10 : decode cX2_copyRow 10 = .ok (.iaload, 1) := by decide +kernel
theorem dX2_copyRow_11 : decode cX2_copyRow 11 = .ok (.iastore, 1) := by decide +kernel
theorem dX2_copyRow_12 : decode cX2_copyRow 12 = .ok (.aload_n 0, 1) := by decide +kernel
theorem dX2_copyRow_13 : decode cX2_copyRow 13 = .ok (.getfield 15, 3) := by decide +kernel
theorem dX2_copyRow_16 : decode cX2_copyRow 16 = .ok (.iload_n 2, 1) := by decide +kernel
theorem dX2_copyRow_17 : decode cX2_copyRow 17 = .ok (.aload_n 0, 1) := by decide +kernel
theorem dX2_copyRow_18 : decode cX2_copyRow 18 = .ok (.getfield 15, 3) := by decide +kernel
theorem dX2_copyRow_21 : decode cX2_copyRow 21 = .ok (.iload_n 1, 1) := by decide +kernel
theorem dX2_copyRow_22 : decode cX2_copyRow 22 = .ok (.iaload, 1) := by decide +kernel
theorem dX2_copyRow_23 : decode cX2_copyRow 23 = .ok (.iastore, 1) := by decide +kernel
theorem dX2_copyRow_24 : decode cX2_copyRow 24 = .ok (.aload_n 0, 1) := by decide +kernel
theorem dX2_copyRow_25 : decode cX2_copyRow 25 = .ok (.getfield 18, 3) := by decide +kernel
theorem dX2_copyRow_28 : decode cX2_copyRow 28 = .ok (.iload_n 2, 1) := by decide +kernel
theorem dX2_copyRow_29 : decode cX2_copyRow 29 = .ok (.aload_n 0, 1) := by decide +kernel
theorem dX2_copyRow_30 : decode cX2_copyRow 30 = .ok (.getfield 18, 3) := by decide +kernel
theorem dX2_copyRow_33 : decode cX2_copyRow 33 = .ok (.iload_n 1, 1) := by decide +kernel
theorem dX2_copyRow_34 : decode cX2_copyRow 34 = .ok (.iaload, 1) := by decide +kernel
theorem dX2_copyRow_35 : decode cX2_copyRow 35 = .ok (.iastore, 1) := by decide +kernel
theorem dX2_copyRow_36 : decode cX2_copyRow 36 = .ok (.aload_n 0, 1) := by decide +kernel
theorem dX2_copyRow_37 : decode cX2_copyRow 37 = .ok (.getfield 21, 3) := by decide +kernel
theorem dX2_copyRow_40 : decode cX2_copyRow 40 = .ok (.iload_n 2, 1) := by decide +kernel
theorem dX2_copyRow_41 : decode cX2_copyRow 41 = .ok (.aload_n 0, 1) := by decide +kernel
theorem dX2_copyRow_42 : decode cX2_copyRow 42 = .ok (.getfield 21, 3) := by decide +kernel
theorem dX2_copyRow_45 : decode cX2_copyRow 45 = .ok (.iload_n 1, 1) := by decide +kernel
theorem dX2_copyRow_46 : decode cX2_copyRow 46 = .ok (.iaload, 1) := by decide +kernel
theorem dX2_copyRow_47 : decode cX2_copyRow 47 = .ok (.iastore, 1) := by decide +kernel
theorem dX2_copyRow_48 : decode cX2_copyRow 48 = .ok (.aload_n 0, 1) := by decide +kernel
theorem dX2_copyRow_49 : decode cX2_copyRow 49 = .ok (.getfield 24, 3) := by decide +kernel
theorem dX2_copyRow_52 : decode cX2_copyRow 52 = .ok (.iload_n 2, 1) := by decide +kernel
theorem dX2_copyRow_53 : decode cX2_copyRow 53 = .ok (.aload_n 0, 1) := by decide +kernel
theorem dX2_copyRow_54 : decode cX2_copyRow 54 = .ok (.getfield 24, 3) := by decide +kernel
theorem dX2_copyRow_57 : decode cX2_copyRow 57 = .ok (.iload_n 1, 1) := by decide +kernel
theorem dX2_copyRow_58 : decode cX2_copyRow 58 = .ok (.iaload, 1) := by decide +kernel
theorem dX2_copyRow_59 : decode cX2_copyRow 59 = .ok (.iastore, 1) := by decide +kernel
theorem dX2_copyRow_60 : decode cX2_copyRow 60 = .ok (.return_, 1) := by decide +kernel
theorem dX3_init_0 : decode cX3_init 0 = .ok (.aload_n 0, 1) := by decide +kernel
theorem dX3_init_1 : decode cX3_init 1 = .ok (.invokespecial 3, 3) := by decide +kernel
theorem dX3_init_4 : decode cX3_init 4 = .ok (.aload_n 0, 1) := by decide +kernel
theorem dX3_init_5 : decode cX3_init 5 = .ok (.bipush 64, 2) := by decide +kernel
theorem dX3_init_7 : decode cX3_init 7 = .ok (.newarray .int, 2) := by decide +kernel
theorem dX3_init_9 : decode cX3_init 9 = .ok (.putfield 9, 3) := by decide +kernel
theorem dX3_init_12 : decode cX3_init 12 = .ok (.return_, 1) := by decide +kernel
theorem dX3_grow_0 : decode cX3_grow 0 = .ok (.iconst 0, 1) := by decide +kernel
theorem dX3_grow_1 : decode cX3_grow 1 = .ok (.istore_n 2, 1) := by decide +kernel
theorem dX3_grow_2 : decode cX3_grow 2 = .ok (.iload_n 2, 1) := by decide +kernel
theorem dX3_grow_3 : decode cX3_grow 3 = .ok (.bipush 32, 2) := by decide +kernel
theorem dX3_grow_5 : decode cX3_grow 5 = .ok (.if_icmp .ge 25, 3) := by decide +kernel
theorem dX3_grow_8 : decode cX3_grow 8 = .ok (.aload_n 0, 1) := by decide +kernel
theorem dX3_grow_9 : decode cX3_grow 9 = .ok (.getfield 9, 3) := by decide +kernel
theorem dX3_grow_12 : decode cX3_grow 12 = .ok (.bipush 32, 2) := by decide +kernel
theorem dX3_grow_14 : decode cX3_grow 14 = .ok (.iload_n 2, 1) := by decide +kernel
theorem dX3_grow_15 : decode cX3_grow 15 = .ok (.iadd, 1) := by decide +kernel
theorem dX3_grow_16 : decode cX3_grow 16 = .ok (.iload_n 2, 1) := by decide +kernel
theorem dX3_grow_17 : decode cX3_grow 17 = .ok (.aload_n 1, 1) := by decide +kernel
theorem dX3_grow_18 : decode cX3_grow 18 = .ok (.iload_n 2, 1) := by decide +kernel
theorem dX3_grow_19 : decode cX3_grow 19 = .ok (.iaload, 1) := by decide +kernel
theorem dX3_grow_20 : decode cX3_grow 20 = .ok (.invokestatic 15, 3) := by decide +kernel
theorem dX3_grow_23 : decode cX3_grow 23 = .ok (.iastore, 1) := by decide +kernel
theorem dX3_grow_24 : decode cX3_grow 24 = .ok (.iinc 2 1, 3) := by decide +kernel
theorem dX3_grow_27 : decode cX3_grow 27 = .ok (.goto (-25), 3) := by decide +kernel
theorem dX3_grow_30 : decode cX3_grow 30 = .ok (.bipush 31, 2) := by decide +kernel
theorem dX3_grow_32 : decode cX3_grow 32 = .ok (.istore_n 2, 1) := by decide +kernel
theorem dX3_grow_33 : decode cX3_grow 33 = .ok (.iload_n 2, 1) := by decide +kernel
theorem dX3_grow_34 : decode cX3_grow 34 = .ok (.iconst 1, 1) := by decide +kernel
theorem dX3_grow_35 : decode cX3_grow 35 = .ok (.if_icmp .lt 36, 3) := by decide +kernel
theorem dX3_grow_38 : decode cX3_grow 38 = .ok (.aload_n 0, 1) := by decide +kernel
theorem dX3_grow_39 : decode cX3_grow 39 = .ok (.getfield 9, 3) := by decide +kernel
theorem dX3_grow_42 : decode cX3_grow 42 = .ok (.iload_n 2, 1) := by decide +kernel
theorem dX3_grow_43 : decode cX3_grow 43 = .ok (.aload_n 0, 1) := by decide +kernel
theorem dX3_grow_44 : decode cX3_grow 44 = .ok (.getfield 9, 3) := by decide +kernel
theorem dX3_grow_47 : decode cX3_grow 47 = .ok (.iconst 2, 1) := by decide +kernel
theorem dX3_grow_48 : decode cX3_grow 48 = .ok (.iload_n 2, 1) := by decide +kernel
theorem dX3_grow_49 : decode cX3_grow 49 = .ok (.imul, 1) := by decide +kernel
theorem dX3_grow_50 : decode cX3_grow 50 = .ok (.iaload, 1) := by decide +kernel
theorem dX3_grow_51 : decode cX3_grow 51 = .ok (.aload_n 0, 1) := by decide +kernel
theorem dX3_grow_52 : decode cX3_grow 52 = .ok (.getfield 9, 3) := by decide +kernel
theorem dX3_grow_55 : decode cX3_grow 55 = .ok (.iconst 2, 1) := by decide +kernel
theorem dX3_grow_56 : decode cX3_grow 56 = .ok (.iload_n 2, 1) := by decide +kernel
theorem dX3_grow_57 : decode cX3_grow 57 = .ok (.imul, 1) := by decide +kernel
theorem dX3_grow_58 : decode cX3_grow 58 = .ok (.iconst 1, 1) := by decide +kernel
theorem dX3_grow_59 : decode cX3_grow 59 = .ok (.iadd, 1) := by decide +kernel
theorem dX3_grow_60 : decode cX3_grow 60 = .ok (.iaload, 1) := by decide +kernel
theorem dX3_grow_61 : decode cX3_grow 61 = .ok (.invokestatic 19, 3) := by decide +kernel
theorem dX3_grow_64 : decode cX3_grow 64 = .ok (.iastore, 1) := by decide +kernel
theorem dX3_grow_65 : decode cX3_grow 65 = .ok (.iinc 2 (-1), 3) := by decide +kernel
theorem dX3_grow_68 : decode cX3_grow 68 = .ok (.goto (-35), 3) := by decide +kernel
theorem dX3_grow_71 : decode cX3_grow 71 = .ok (.aload_n 0, 1) := by decide +kernel
theorem dX3_grow_72 : decode cX3_grow 72 = .ok (.getfield 9, 3) := by decide +kernel
theorem dX3_grow_75 : decode cX3_grow 75 = .ok (.iconst 1, 1) := by decide +kernel
theorem dX3_grow_76 : decode cX3_grow 76 = .ok (.iaload, 1) := by decide +kernel
theorem dX3_grow_77 : decode cX3_grow 77 = .ok (.ireturn, 1) := by decide +kernel
theorem dX3_beside_0 : decode cX3_beside 0 = .ok (.aload_n 0, 1) := by decide +kernel
theorem dX3_beside_1 : decode cX3_beside 1 = .ok (.getfield 9, 3) := by decide +kernel
theorem dX3_beside_4 : decode cX3_beside 4 = .ok (.bipush 32, 2) := by decide +kernel
theorem dX3_beside_6 : decode cX3_beside 6 = .ok (.iload_n 1, 1) := by decide +kernel
theorem dX3_beside_7 : decode cX3_beside 7 = .ok (.iadd, 1) := by decide +kernel
theorem dX3_beside_8 : decode cX3_beside 8 = .ok (.iload_n 2, 1) := by decide +kernel
theorem dX3_beside_9 : decode cX3_beside 9 = .ok (.ishr, 1) := by decide +kernel
theorem dX3_beside_10 : decode cX3_beside 10 = .ok (.iconst 1, 1) := by decide +kernel
theorem dX3_beside_11 : decode cX3_beside 11 = .ok (.ixor, 1) := by decide +kernel
theorem dX3_beside_12 : decode cX3_beside 12 = .ok (.iaload, 1) := by decide +kernel
theorem dX3_beside_13 : decode cX3_beside 13 = .ok (.ireturn, 1) := by decide +kernel
theorem dX3_climb_0 : decode cX3_climb 0 = .ok (.iload_n 0, 1) := by decide +kernel
theorem dX3_climb_1 : decode cX3_climb 1 = .ok (.iload_n 1, 1) := by decide +kernel
theorem dX3_climb_2 : decode cX3_climb 2 = .ok (.invokestatic 15, 3) := by decide +kernel
theorem dX3_climb_5 : decode cX3_climb 5 = .ok (.istore_n 3, 1) := by decide +kernel
theorem dX3_climb_6 : decode cX3_climb 6 = .ok (.iconst 0, 1) := by decide +kernel
theorem dX3_climb_7 : decode cX3_climb 7 = .ok (.istore 4, 2) := by decide +kernel
theorem dX3_climb_9 : decode cX3_climb 9 = .ok (.iload 4, 2) := by decide +kernel
theorem dX3_climb_11 : decode cX3_climb 11 = .ok (.iconst 5, 1) := by decide +kernel
theorem dX3_climb_12 : decode cX3_climb 12 = .ok (.if_icmp .ge 50, 3) := by decide +kernel
theorem dX3_climb_15 : decode cX3_climb 15 = .ok (.iload_n 0, 1) := by decide +kernel
theorem dX3_climb_16 : decode cX3_climb 16 = .ok (.iload 4, 2) := by decide +kernel
theorem dX3_climb_18 : decode cX3_climb 18 = .ok (.ishr, 1) := by decide +kernel
theorem dX3_climb_19 : decode cX3_climb 19 = .ok (.iconst 1, 1) := by decide +kernel
theorem dX3_climb_20 : decode cX3_climb 20 = .ok (.iand, 1) := by decide +kernel
theorem dX3_climb_21 : decode cX3_climb 21 = .ok (.ifCond .ne 7, 3) := by decide +kernel
theorem dX3_climb_24 : decode cX3_climb 24 = .ok (.iconst 1, 1) := by decide +kernel
theorem dX3_climb_25 : decode cX3_climb 25 = .ok (.goto 4, 3) := by decide +kernel
theorem dX3_climb_28 : decode cX3_climb 28 = .ok (.iconst 0, 1) := by decide +kernel
theorem dX3_climb_29 : decode cX3_climb 29 = .ok (.istore 5, 2) := by decide +kernel
theorem dX3_climb_31 : decode cX3_climb 31 = .ok (.iload 5, 2) := by decide +kernel
theorem dX3_climb_33 : decode cX3_climb 33 = .ok (.ifCond .eq 14, 3) := by decide +kernel
theorem dX3_climb_36 : decode cX3_climb 36 = .ok (.iload_n 3, 1) := by decide +kernel
theorem dX3_climb_37 : decode cX3_climb 37 = .ok (.aload_n 2, 1) := by decide +kernel
theorem dX3_climb_38 : decode cX3_climb 38 = .ok (.iload 4, 2) := by decide +kernel
theorem dX3_climb_40 : decode cX3_climb 40 = .ok (.iaload, 1) := by decide +kernel
theorem dX3_climb_41 : decode cX3_climb 41 = .ok (.invokestatic 19, 3) := by decide +kernel
theorem dX3_climb_44 : decode cX3_climb 44 = .ok (.goto 11, 3) := by decide +kernel
theorem dX3_climb_47 : decode cX3_climb 47 = .ok (.aload_n 2, 1) := by decide +kernel
theorem dX3_climb_48 : decode cX3_climb 48 = .ok (.iload 4, 2) := by decide +kernel
theorem dX3_climb_50 : decode cX3_climb 50 = .ok (.iaload, 1) := by decide +kernel
theorem dX3_climb_51 : decode cX3_climb 51 = .ok (.iload_n 3, 1) := by decide +kernel
theorem dX3_climb_52 : decode cX3_climb 52 = .ok (.invokestatic 19, 3) := by decide +kernel
theorem dX3_climb_55 : decode cX3_climb 55 = .ok (.istore_n 3, 1) := by decide +kernel
theorem dX3_climb_56 : decode cX3_climb 56 = .ok (.iinc 4 1, 3) := by decide +kernel
theorem dX3_climb_59 : decode cX3_climb 59 = .ok (.goto (-50), 3) := by decide +kernel
theorem dX3_climb_62 : decode cX3_climb 62 = .ok (.iload_n 3, 1) := by decide +kernel
theorem dX3_climb_63 : decode cX3_climb 63 = .ok (.ireturn, 1) := by decide +kernel
theorem dX3_ofLeaf_0 : decode cX3_ofLeaf 0 = .ok (.bipush 31, 2) := by decide +kernel
theorem dX3_ofLeaf_2 : decode cX3_ofLeaf 2 = .ok (.iload_n 1, 1) := by decide +kernel
theorem dX3_ofLeaf_3 : decode cX3_ofLeaf 3 = .ok (.imul, 1) := by decide +kernel
theorem dX3_ofLeaf_4 : decode cX3_ofLeaf 4 = .ok (.iload_n 0, 1) := by decide +kernel
theorem dX3_ofLeaf_5 : decode cX3_ofLeaf 5 = .ok (.iadd, 1) := by decide +kernel
theorem dX3_ofLeaf_6 : decode cX3_ofLeaf 6 = .ok (.ireturn, 1) := by decide +kernel
theorem dX3_join_0 : decode cX3_join 0 = .ok (.bipush 31, 2) := by decide +kernel
theorem dX3_join_2 : decode cX3_join 2 = .ok (.iload_n 0, 1) := by decide +kernel
theorem dX3_join_3 : decode cX3_join 3 = .ok (.imul, 1) := by decide +kernel
theorem dX3_join_4 : decode cX3_join 4 = .ok (.iload_n 1, 1) := by decide +kernel
theorem dX3_join_5 : decode cX3_join 5 = .ok (.iadd, 1) := by decide +kernel
theorem dX3_join_6 : decode cX3_join 6 = .ok (.istore_n 2, 1) := by decide +kernel
theorem dX3_join_7 : decode cX3_join 7 = .ok (.iload_n 2, 1) := by decide +kernel
theorem dX3_join_8 : decode cX3_join 8 = .ok (.iload_n 2, 1) := by decide +kernel
theorem dX3_join_9 : decode cX3_join 9 = .ok (.bipush 15, 2) := by decide +kernel
theorem dX3_join_11 : decode cX3_join 11 = .ok (.iushr, 1) := by decide +kernel
theorem dX3_join_12 : decode cX3_join 12 = .ok (.ixor, 1) := by decide +kernel
theorem dX3_join_13 : decode cX3_join 13 = .ok (.ldc 22, 2) := by decide +kernel
theorem dX3_join_15 : decode cX3_join 15 = .ok (.imul, 1) := by decide +kernel
theorem dX3_join_16 : decode cX3_join 16 = .ok (.ireturn, 1) := by decide +kernel
theorem dX4_init_0 : decode cX4_init 0 = .ok (.aload_n 0, 1) := by decide +kernel
theorem dX4_init_1 : decode cX4_init 1 = .ok (.invokespecial 3, 3) := by decide +kernel
theorem dX4_init_4 : decode cX4_init 4 = .ok (.aload_n 0, 1) := by decide +kernel
theorem dX4_init_5 : decode cX4_init 5 = .ok (.new 9, 3) := by decide +kernel
theorem dX4_init_8 : decode cX4_init 8 = .ok (.dup, 1) := by decide +kernel
theorem dX4_init_9 : decode cX4_init 9 = .ok (.invokespecial 11, 3) := by decide +kernel
theorem dX4_init_12 : decode cX4_init 12 = .ok (.putfield 12, 3) := by decide +kernel
theorem dX4_init_15 : decode cX4_init 15 = .ok (.aload_n 0, 1) := by decide +kernel
theorem dX4_init_16 : decode cX4_init 16 = .ok (.new 16, 3) := by decide +kernel
theorem dX4_init_19 : decode cX4_init 19 = .ok (.dup, 1) := by decide +kernel
theorem dX4_init_20 : decode cX4_init 20 = .ok (.invokespecial 18, 3) := by decide +kernel
theorem dX4_init_23 : decode cX4_init 23 = .ok (.putfield 19, 3) := by decide +kernel
theorem dX4_init_26 : decode cX4_init 26 = .ok (.aload_n 0, 1) := by decide +kernel
theorem dX4_init_27 : decode cX4_init 27 = .ok (.new 23, 3) := by decide +kernel
theorem dX4_init_30 : decode cX4_init 30 = .ok (.dup, 1) := by decide +kernel
theorem dX4_init_31 : decode cX4_init 31 = .ok (.invokespecial 25, 3) := by decide +kernel
theorem dX4_init_34 : decode cX4_init 34 = .ok (.putfield 26, 3) := by decide +kernel
theorem dX4_init_37 : decode cX4_init 37 = .ok (.aload_n 0, 1) := by decide +kernel
theorem dX4_init_38 : decode cX4_init 38 = .ok (.new 30, 3) := by decide +kernel
theorem dX4_init_41 : decode cX4_init 41 = .ok (.dup, 1) := by decide +kernel
theorem dX4_init_42 : decode cX4_init 42 = .ok (.invokespecial 32, 3) := by decide +kernel
theorem dX4_init_45 : decode cX4_init 45 = .ok (.putfield 33, 3) := by decide +kernel
theorem dX4_init_48 : decode cX4_init 48 = .ok (.aload_n 0, 1) := by decide +kernel
theorem dX4_init_49 : decode cX4_init 49 = .ok (.iconst 5, 1) := by decide +kernel
theorem dX4_init_50 : decode cX4_init 50 = .ok (.newarray .int, 2) := by decide +kernel
theorem dX4_init_52 : decode cX4_init 52 = .ok (.putfield 37, 3) := by decide +kernel
theorem dX4_init_55 : decode cX4_init 55 = .ok (.aload_n 0, 1) := by decide +kernel
theorem dX4_init_56 : decode cX4_init 56 = .ok (.bipush 32, 2) := by decide +kernel
theorem dX4_init_58 : decode cX4_init 58 = .ok (.newarray .int, 2) := by decide +kernel
theorem dX4_init_60 : decode cX4_init 60 = .ok (.putfield 41, 3) := by decide +kernel
theorem dX4_init_63 : decode cX4_init 63 = .ok (.aload_n 0, 1) := by decide +kernel
theorem dX4_init_64 : decode cX4_init 64 = .ok (.bipush 32, 2) := by decide +kernel
theorem dX4_init_66 : decode cX4_init 66 = .ok (.newarray .int, 2) := by decide +kernel
theorem dX4_init_68 : decode cX4_init 68 = .ok (.putfield 44, 3) := by decide +kernel
theorem dX4_init_71 : decode cX4_init 71 = .ok (.aload_n 0, 1) := by decide +kernel
theorem dX4_init_72 : decode cX4_init 72 = .ok (.invokevirtual 47, 3) := by decide +kernel
theorem dX4_init_75 : decode cX4_init 75 = .ok (.return_, 1) := by decide +kernel
theorem dX4_write_0 : decode cX4_write 0 = .ok (.iload_n 2, 1) := by decide +kernel
theorem dX4_write_1 : decode cX4_write 1 = .ok (.invokestatic 50, 3) := by decide +kernel
theorem dX4_write_4 : decode cX4_write 4 = .ok (.ifCond .ne 6, 3) := by decide +kernel
theorem dX4_write_7 : decode cX4_write 7 = .ok (.bipush (-101), 2) := by decide +kernel
theorem dX4_write_9 : decode cX4_write 9 = .ok (.ireturn, 1) := by decide +kernel
theorem dX4_write_10 : decode cX4_write 10 = .ok (.iload_n 1, 1) := by decide +kernel
theorem dX4_write_11 : decode cX4_write 11 = .ok (.ifCond .lt 10, 3) := by decide +kernel
theorem dX4_write_14 : decode cX4_write 14 = .ok (.iload_n 1, 1) := by decide +kernel
theorem dX4_write_15 : decode cX4_write 15 = .ok (.sipush 999, 3) := by decide +kernel
theorem dX4_write_18 : decode cX4_write 18 = .ok (.if_icmp .le 6, 3) := by decide +kernel
theorem dX4_write_21 : decode cX4_write 21 = .ok (.bipush (-102), 2) := by decide +kernel
theorem dX4_write_23 : decode cX4_write 23 = .ok (.ireturn, 1) := by decide +kernel
theorem dX4_write_24 : decode cX4_write 24 = .ok (.iload_n 1, 1) := by decide +kernel
theorem dX4_write_25 : decode cX4_write 25 = .ok (.aload_n 0, 1) := by decide +kernel
theorem dX4_write_26 : decode cX4_write 26 = .ok (.getfield 26, 3) := by decide +kernel
theorem dX4_write_29 : decode cX4_write 29 = .ok (.getfield 54, 3) := by decide +kernel
theorem dX4_write_32 : decode cX4_write 32 = .ok (.if_icmp .ge 6, 3) := by decide +kernel
theorem dX4_write_35 : decode cX4_write 35 = .ok (.bipush (-103), 2) := by decide +kernel
theorem dX4_write_37 : decode cX4_write 37 = .ok (.ireturn, 1) := by decide +kernel
theorem dX4_write_38 : decode cX4_write 38 = .ok (.aload_n 0, 1) := by decide +kernel
theorem dX4_write_39 : decode cX4_write 39 = .ok (.getfield 26, 3) := by decide +kernel
theorem dX4_write_42 : decode cX4_write 42 = .ok (.getfield 58, 3) := by decide +kernel
theorem dX4_write_45 : decode cX4_write 45 = .ok (.bipush 60, 2) := by decide +kernel
theorem dX4_write_47 : decode cX4_write 47 = .ok (.if_icmp .lt 6, 3) := by decide +kernel
theorem dX4_write_50 : decode cX4_write 50 = .ok (.bipush (-105), 2) := by decide +kernel
theorem dX4_write_52 : decode cX4_write 52 = .ok (.ireturn, 1) := by decide +kernel
theorem dX4_write_53 : decode cX4_write 53 = .ok (.aload_n 0, 1) := by decide +kernel
theorem dX4_write_54 : decode cX4_write 54 = .ok (.getfield 26, 3) := by decide +kernel
theorem dX4_write_57 : decode cX4_write 57 = .ok (.iload_n 1, 1) := by decide +kernel
theorem dX4_write_58 : decode cX4_write 58 = .ok (.iload_n 2, 1) := by decide +kernel
theorem dX4_write_59 : decode cX4_write 59 = .ok (.iload_n 3, 1) := by decide +kernel
theorem dX4_write_60 : decode cX4_write 60 = .ok (.invokevirtual 61, 3) := by decide +kernel
theorem dX4_write_63 : decode cX4_write 63 = .ok (.aload_n 0, 1) := by decide +kernel
theorem dX4_write_64 : decode cX4_write 64 = .ok (.getfield 26, 3) := by decide +kernel
theorem dX4_write_67 : decode cX4_write 67 = .ok (.getfield 58, 3) := by decide +kernel
theorem dX4_write_70 : decode cX4_write 70 = .ok (.ireturn, 1) := by decide +kernel
theorem dX4_seal_0 : decode cX4_seal 0 = .ok (.aload_n 0, 1) := by decide +kernel
theorem dX4_seal_1 : decode cX4_seal 1 = .ok (.getfield 19, 3) := by decide +kernel
theorem dX4_seal_4 : decode cX4_seal 4 = .ok (.getfield 65, 3) := by decide +kernel
theorem dX4_seal_7 : decode cX4_seal 7 = .ok (.sipush 200, 3) := by decide +kernel
theorem dX4_seal_10 : decode cX4_seal 10 = .ok (.if_icmp .lt 6, 3) := by decide +kernel
theorem dX4_seal_13 : decode cX4_seal 13 = .ok (.bipush (-105), 2) := by decide +kernel
theorem dX4_seal_15 : decode cX4_seal 15 = .ok (.ireturn, 1) := by decide +kernel
theorem dX4_seal_16 : decode cX4_seal 16 = .ok (.aload_n 0, 1) := by decide +kernel
theorem dX4_seal_17 : decode cX4_seal 17 = .ok (.getfield 12, 3) := by decide +kernel
theorem dX4_seal_20 : decode cX4_seal 20 = .ok (.getfield 68, 3) := by decide +kernel
theorem dX4_seal_23 : decode cX4_seal 23 = .ok (.aload_n 0, 1) := by decide +kernel
theorem dX4_seal_24 : decode cX4_seal 24 = .ok (.getfield 26, 3) := by decide +kernel
theorem dX4_seal_27 : decode cX4_seal 27 = .ok (.invokevirtual 71, 3) := by decide +kernel
theorem dX4_seal_30 : decode cX4_seal 30 = .ok (.iadd, 1) := by decide +kernel
theorem dX4_seal_31 : decode cX4_seal 31 = .ok (.sipush 400, 3) := by decide +kernel
theorem dX4_seal_34 : decode cX4_seal 34 = .ok (.if_icmp .le 6, 3) := by decide +kernel
theorem dX4_seal_37 : decode cX4_seal 37 = .ok (.bipush (-105), 2) := by decide +kernel
theorem dX4_seal_39 : decode cX4_seal 39 = .ok (.ireturn, 1) := by decide +kernel
theorem dX4_seal_40 : decode cX4_seal 40 = .ok (.iconst 0, 1) := by decide +kernel
theorem dX4_seal_41 : decode cX4_seal 41 = .ok (.istore_n 1, 1) := by decide +kernel
theorem dX4_seal_42 : decode cX4_seal 42 = .ok (.iload_n 1, 1) := by decide +kernel
theorem dX4_seal_43 : decode cX4_seal 43 = .ok (.bipush 32, 2) := by decide +kernel
theorem dX4_seal_45 : decode cX4_seal 45 = .ok (.if_icmp .ge 55, 3) := by decide +kernel
theorem dX4_seal_48 : decode cX4_seal 48 = .ok (.aload_n 0, 1) := by decide +kernel
theorem dX4_seal_49 : decode cX4_seal 49 = .ok (.getfield 26, 3) := by decide +kernel
theorem dX4_seal_52 : decode cX4_seal 52 = .ok (.iload_n 1, 1) := by decide +kernel
theorem dX4_seal_53 : decode cX4_seal 53 = .ok (.invokevirtual 75, 3) := by decide +kernel
theorem dX4_seal_56 : decode cX4_seal 56 = .ok (.ifCond .eq 38, 3) := by decide +kernel
theorem dX4_seal_59 : decode cX4_seal 59 = .ok (.aload_n 0, 1) := by decide +kernel
theorem dX4_seal_60 : decode cX4_seal 60 = .ok (.getfield 12, 3) := by decide +kernel
theorem dX4_seal_63 : decode cX4_seal 63 = .ok (.aload_n 0, 1) := by decide +kernel
theorem dX4_seal_64 : decode cX4_seal 64 = .ok (.getfield 19, 3) := by decide +kernel
theorem dX4_seal_67 : decode cX4_seal 67 = .ok (.getfield 65, 3) := by decide +kernel
theorem dX4_seal_70 : decode cX4_seal 70 = .ok (.iconst 1, 1) := by decide +kernel
theorem dX4_seal_71 : decode cX4_seal 71 = .ok (.iadd, 1) := by decide +kernel
theorem dX4_seal_72 : decode cX4_seal 72 = .ok (.iload_n 1, 1) := by decide +kernel
theorem dX4_seal_73 : decode cX4_seal 73 = .ok (.aload_n 0, 1) := by decide +kernel
theorem dX4_seal_74 : decode cX4_seal 74 = .ok (.getfield 26, 3) := by decide +kernel
theorem dX4_seal_77 : decode cX4_seal 77 = .ok (.getfield 78, 3) := by decide +kernel
theorem dX4_seal_80 : decode cX4_seal 80 = .ok (.iload_n 1, 1) := by decide +kernel
theorem dX4_seal_81 : decode cX4_seal 81 = .ok (.iaload, 1) := by decide +kernel
theorem dX4_seal_82 : decode cX4_seal 82 = .ok (.aload_n 0, 1) := by decide +kernel
theorem dX4_seal_83 : decode cX4_seal 83 = .ok (.getfield 26, 3) := by decide +kernel
theorem dX4_seal_86 : decode cX4_seal 86 = .ok (.getfield 81, 3) := by decide +kernel
theorem dX4_seal_89 : decode cX4_seal 89 = .ok (.iload_n 1, 1) := by decide +kernel
theorem dX4_seal_90 : decode cX4_seal 90 = .ok (.iaload, 1) := by decide +kernel
theorem dX4_seal_91 : decode cX4_seal 91 = .ok (.invokevirtual 84, 3) := by decide +kernel
theorem dX4_seal_94 : decode cX4_seal 94 = .ok (.iinc 1 1, 3) := by decide +kernel
theorem dX4_seal_97 : decode cX4_seal 97 = .ok (.goto (-55), 3) := by decide +kernel
theorem dX4_seal_100 : decode cX4_seal 100 = .ok (.aload_n 0, 1) := by decide +kernel
theorem dX4_seal_101 : decode cX4_seal 101 = .ok (.getfield 19, 3) := by decide +kernel
theorem dX4_seal_104 : decode cX4_seal 104 = .ok (.aload_n 0, 1) := by decide +kernel
theorem dX4_seal_105 : decode cX4_seal 105 = .ok (.getfield 33, 3) := by decide +kernel
theorem dX4_seal_108 : decode cX4_seal 108 = .ok (.aload_n 0, 1) := by decide +kernel
theorem dX4_seal_109 : decode cX4_seal 109 = .ok (.getfield 26, 3) := by decide +kernel
theorem dX4_seal_112 : decode cX4_seal 112 = .ok (.getfield 78, 3) := by decide +kernel
theorem dX4_seal_115 : decode cX4_seal 115 = .ok (.invokevirtual 88, 3) := by decide +kernel
theorem dX4_seal_118 : decode cX4_seal 118 = .ok (.invokevirtual 92, 3) := by decide +kernel
theorem dX4_seal_121 : decode cX4_seal 121 = .ok (.aload_n 0, 1) := by decide +kernel
theorem dX4_seal_122 : decode cX4_seal 122 = .ok (.getfield 26, 3) := by decide +kernel
theorem dX4_seal_125 : decode cX4_seal 125 = .ok (.aload_n 0, 1) := by decide +kernel
theorem dX4_seal_126 : decode cX4_seal 126 = .ok (.getfield 26, 3) := by decide +kernel
theorem dX4_seal_129 : decode cX4_seal 129 = .ok (.getfield 78, 3) := by decide +kernel
theorem dX4_seal_132 : decode cX4_seal 132 = .ok (.invokevirtual 96, 3) := by decide +kernel
theorem dX4_seal_135 : decode cX4_seal 135 = .ok (.aload_n 0, 1) := by decide +kernel
theorem dX4_seal_136 : decode cX4_seal 136 = .ok (.getfield 19, 3) := by decide +kernel
theorem dX4_seal_139 : decode cX4_seal 139 = .ok (.getfield 65, 3) := by decide +kernel
theorem dX4_seal_142 : decode cX4_seal 142 = .ok (.ireturn, 1) := by decide +kernel
theorem dX4_drop_0 : decode cX4_drop 0 = .ok (.aload_n 0, 1) := by decide +kernel
theorem dX4_drop_1 : decode cX4_drop 1 = .ok (.getfield 26, 3) := by decide +kernel
theorem dX4_drop_4 : decode cX4_drop 4 = .ok (.getfield 58, 3) := by decide +kernel
theorem dX4_drop_7 : decode cX4_drop 7 = .ok (.istore_n 1, 1) := by decide +kernel
theorem dX4_drop_8 : decode cX4_drop 8 = .ok (.aload_n 0, 1) := by decide +kernel
theorem dX4_drop_9 : decode cX4_drop 9 = .ok (.getfield 26, 3) := by decide +kernel
theorem dX4_drop_12 : decode cX4_drop 12 = .ok (.aload_n 0, 1) := by decide +kernel
theorem dX4_drop_13 : decode cX4_drop 13 = .ok (.getfield 26, 3) := by decide +kernel
theorem dX4_drop_16 : decode cX4_drop 16 = .ok (.getfield 100, 3) := by decide +kernel
theorem dX4_drop_19 : decode cX4_drop 19 = .ok (.invokevirtual 96, 3) := by decide +kernel
theorem dX4_drop_22 : decode cX4_drop 22 = .ok (.iload_n 1, 1) := by decide +kernel
theorem dX4_drop_23 : decode cX4_drop 23 = .ok (.ireturn, 1) := by decide +kernel
theorem dX4_at_0 : decode cX4_at 0 = .ok (.iload_n 1, 1) := by decide +kernel
theorem dX4_at_1 : decode cX4_at 1 = .ok (.invokestatic 50, 3) := by decide +kernel
theorem dX4_at_4 : decode cX4_at 4 = .ok (.ifCond .eq 11, 3) := by decide +kernel
theorem dX4_at_7 : decode cX4_at 7 = .ok (.aload_n 0, 1) := by decide +kernel
theorem dX4_at_8 : decode cX4_at 8 = .ok (.iload_n 2, 1) := by decide +kernel
theorem dX4_at_9 : decode cX4_at 9 = .ok (.invokevirtual 103, 3) := by decide +kernel
theorem dX4_at_12 : decode cX4_at 12 = .ok (.ifCond .ne 9, 3) := by decide +kernel
theorem dX4_at_15 : decode cX4_at 15 = .ok (.bipush (-101), 2) := by decide +kernel
theorem dX4_at_17 : decode cX4_at 17 = .ok (.invokestatic 106, 3) := by decide +kernel
theorem dX4_at_20 : decode cX4_at 20 = .ok (.lreturn, 1) := by decide +kernel
theorem dX4_at_21 : decode cX4_at 21 = .ok (.aload_n 0, 1) := by decide +kernel
theorem dX4_at_22 : decode cX4_at 22 = .ok (.getfield 19, 3) := by decide +kernel
theorem dX4_at_25 : decode cX4_at 25 = .ok (.iload_n 2, 1) := by decide +kernel
theorem dX4_at_26 : decode cX4_at 26 = .ok (.invokevirtual 110, 3) := by decide +kernel
theorem dX4_at_29 : decode cX4_at 29 = .ok (.ifCond .eq 9, 3) := by decide +kernel
theorem dX4_at_32 : decode cX4_at 32 = .ok (.bipush (-104), 2) := by decide +kernel
theorem dX4_at_34 : decode cX4_at 34 = .ok (.invokestatic 106, 3) := by decide +kernel
theorem dX4_at_37 : decode cX4_at 37 = .ok (.lreturn, 1) := by decide +kernel
theorem dX4_at_38 : decode cX4_at 38 = .ok (.aload_n 0, 1) := by decide +kernel
theorem dX4_at_39 : decode cX4_at 39 = .ok (.getfield 12, 3) := by decide +kernel
theorem dX4_at_42 : decode cX4_at 42 = .ok (.iload_n 1, 1) := by decide +kernel
theorem dX4_at_43 : decode cX4_at 43 = .ok (.iload_n 2, 1) := by decide +kernel
theorem dX4_at_44 : decode cX4_at 44 = .ok (.invokevirtual 113, 3) := by decide +kernel
theorem dX4_at_47 : decode cX4_at 47 = .ok (.istore_n 3, 1) := by decide +kernel
theorem dX4_at_48 : decode cX4_at 48 = .ok (.iload_n 3, 1) := by decide +kernel
theorem dX4_at_49 : decode cX4_at 49 = .ok (.iconst (-1), 1) := by decide +kernel
theorem dX4_at_50 : decode cX4_at 50 = .ok (.if_icmp .ne 7, 3) := by decide +kernel
theorem dX4_at_53 : decode cX4_at 53 = .ok (.lconst 0, 1) := by decide +kernel
theorem dX4_at_54 : decode cX4_at 54 = .ok (.goto 13, 3) := by decide +kernel
theorem dX4_at_57 : decode cX4_at 57 = .ok (.aload_n 0, 1) := by decide +kernel
theorem dX4_at_58 : decode cX4_at 58 = .ok (.getfield 12, 3) := by decide +kernel
theorem dX4_at_61 : decode cX4_at 61 = .ok (.getfield 117, 3) := by decide +kernel
theorem dX4_at_64 : decode cX4_at 64 = .ok (.iload_n 3, 1) := by decide +kernel
theorem dX4_at_65 : decode cX4_at 65 = .ok (.iaload, 1) := by decide +kernel
theorem dX4_at_66 : decode cX4_at 66 = .ok (.i2l, 1) := by decide +kernel
theorem dX4_at_67 : decode cX4_at 67 = .ok (.lreturn, 1) := by decide +kernel
theorem dX4_now_0 : decode cX4_now 0 = .ok (.iload_n 1, 1) := by decide +kernel
theorem dX4_now_1 : decode cX4_now 1 = .ok (.invokestatic 50, 3) := by decide +kernel
theorem dX4_now_4 : decode cX4_now 4 = .ok (.ifCond .ne 9, 3) := by decide +kernel
theorem dX4_now_7 : decode cX4_now 7 = .ok (.bipush (-101), 2) := by decide +kernel
theorem dX4_now_9 : decode cX4_now 9 = .ok (.invokestatic 106, 3) := by decide +kernel
theorem dX4_now_12 : decode cX4_now 12 = .ok (.lreturn, 1) := by decide +kernel
theorem dX4_now_13 : decode cX4_now 13 = .ok (.aload_n 0, 1) := by decide +kernel
theorem dX4_now_14 : decode cX4_now 14 = .ok (.getfield 26, 3) := by decide +kernel
theorem dX4_now_17 : decode cX4_now 17 = .ok (.getfield 78, 3) := by decide +kernel
theorem dX4_now_20 : decode cX4_now 20 = .ok (.iload_n 1, 1) := by decide +kernel
theorem dX4_now_21 : decode cX4_now 21 = .ok (.iaload, 1) := by decide +kernel
theorem dX4_now_22 : decode cX4_now 22 = .ok (.i2l, 1) := by decide +kernel
theorem dX4_now_23 : decode cX4_now 23 = .ok (.lreturn, 1) := by decide +kernel
theorem dX4_digest_0 : decode cX4_digest 0 = .ok (.aload_n 0, 1) := by decide +kernel
theorem dX4_digest_1 : decode cX4_digest 1 = .ok (.iload_n 1, 1) := by decide +kernel
theorem dX4_digest_2 : decode cX4_digest 2 = .ok (.invokevirtual 103, 3) := by decide +kernel
theorem dX4_digest_5 : decode cX4_digest 5 = .ok (.ifCond .ne 9, 3) := by decide +kernel
theorem dX4_digest_8 : decode cX4_digest 8 = .ok (.bipush (-101), 2) := by decide +kernel
theorem dX4_digest_10 : decode cX4_digest 10 = .ok (.invokestatic 106, 3) := by decide +kernel
theorem dX4_digest_13 : decode cX4_digest 13 = .ok (.lreturn, 1) := by decide +kernel
theorem dX4_digest_14 : decode cX4_digest 14 = .ok (.aload_n 0, 1) := by decide +kernel
theorem dX4_digest_15 : decode cX4_digest 15 = .ok (.getfield 19, 3) := by decide +kernel
theorem dX4_digest_18 : decode cX4_digest 18 = .ok (.getfield 120, 3) := by decide +kernel
theorem dX4_digest_21 : decode cX4_digest 21 = .ok (.iload_n 1, 1) := by decide +kernel
theorem dX4_digest_22 : decode cX4_digest 22 = .ok (.iaload, 1) := by decide +kernel
theorem dX4_digest_23 : decode cX4_digest 23 = .ok (.i2l, 1) := by decide +kernel
theorem dX4_digest_24 : decode cX4_digest 24 = .ok (.lreturn, 1) := by decide +kernel
theorem dX4_blame_0 : decode cX4_blame 0 = .ok (.iload_n 1, 1) := by decide +kernel
theorem dX4_blame_1 : decode cX4_blame 1 = .ok (.invokestatic 50, 3) := by decide +kernel
theorem dX4_blame_4 : decode cX4_blame 4 = .ok (.ifCond .eq 11, 3) := by decide +kernel
theorem dX4_blame_7 : decode cX4_blame 7 = .ok (.aload_n 0, 1) := by decide +kernel
theorem dX4_blame_8 : decode cX4_blame 8 = .ok (.iload_n 2, 1) := by decide +kernel
theorem dX4_blame_9 : decode cX4_blame 9 = .ok (.invokevirtual 103, 3) := by decide +kernel
theorem dX4_blame_12 : decode cX4_blame 12 = .ok (.ifCond .ne 6, 3) := by decide +kernel
theorem dX4_blame_15 : decode cX4_blame 15 = .ok (.bipush (-101), 2) := by decide +kernel
theorem dX4_blame_17 : decode cX4_blame 17 = .ok (.ireturn, 1) := by decide +kernel
theorem dX4_blame_18 : decode cX4_blame 18 = .ok (.iload_n 3, 1) := by decide +kernel
theorem dX4_blame_19 : decode cX4_blame 19 = .ok (.ifCond .lt 8, 3) := by decide +kernel
theorem dX4_blame_22 : decode cX4_blame 22 = .ok (.iload_n 3, 1) := by decide +kernel
theorem dX4_blame_23 : decode cX4_blame 23 = .ok (.iconst 1, 1) := by decide +kernel
theorem dX4_blame_24 : decode cX4_blame 24 = .ok (.if_icmp .le 6, 3) := by decide +kernel
theorem dX4_blame_27 : decode cX4_blame 27 = .ok (.bipush (-102), 2) := by decide +kernel
theorem dX4_blame_29 : decode cX4_blame 29 = .ok (.ireturn, 1) := by decide +kernel
theorem dX4_blame_30 : decode cX4_blame 30 = .ok (.aload_n 0, 1) := by decide +kernel
theorem dX4_blame_31 : decode cX4_blame 31 = .ok (.getfield 19, 3) := by decide +kernel
theorem dX4_blame_34 : decode cX4_blame 34 = .ok (.iload_n 2, 1) := by decide +kernel
theorem dX4_blame_35 : decode cX4_blame 35 = .ok (.invokevirtual 110, 3) := by decide +kernel
theorem dX4_blame_38 : decode cX4_blame 38 = .ok (.ifCond .eq 6, 3) := by decide +kernel
theorem dX4_blame_41 : decode cX4_blame 41 = .ok (.bipush (-104), 2) := by decide +kernel
theorem dX4_blame_43 : decode cX4_blame 43 = .ok (.ireturn, 1) := by decide +kernel
theorem dX4_blame_44 : decode cX4_blame 44 = .ok (.aload_n 0, 1) := by decide +kernel
theorem dX4_blame_45 : decode cX4_blame 45 = .ok (.getfield 12, 3) := by decide +kernel
theorem dX4_blame_48 : decode cX4_blame 48 = .ok (.iload_n 1, 1) := by decide +kernel
theorem dX4_blame_49 : decode cX4_blame 49 = .ok (.iload_n 2, 1) := by decide +kernel
theorem dX4_blame_50 : decode cX4_blame 50 = .ok (.invokevirtual 113, 3) := by decide +kernel
theorem dX4_blame_53 : decode cX4_blame 53 = .ok (.istore 4, 2) := by decide +kernel
theorem dX4_blame_55 : decode cX4_blame 55 = .ok (.iload 4, 2) := by decide +kernel
theorem dX4_blame_57 : decode cX4_blame 57 = .ok (.iconst (-1), 1) := by decide +kernel
theorem dX4_blame_58 : decode cX4_blame 58 = .ok (.if_icmp .ne 5, 3) := by decide +kernel
theorem dX4_blame_61 : decode cX4_blame 61 = .ok (.iconst (-1), 1) := by decide +kernel
theorem dX4_blame_62 : decode cX4_blame 62 = .ok (.ireturn, 1) := by decide +kernel
theorem dX4_blame_63 : decode cX4_blame 63 = .ok (.iload_n 3, 1) := by decide +kernel
theorem dX4_blame_64 : decode cX4_blame 64 = .ok (.ifCond .ne 16, 3) := by decide +kernel
theorem dX4_blame_67 : decode cX4_blame 67 = .ok (.aload_n 0, 1) := by decide +kernel
theorem dX4_blame_68 : decode cX4_blame 68 = .ok (.getfield 12, 3) := by decide +kernel
theorem dX4_blame_71 : decode cX4_blame 71 = .ok (.getfield 123, 3) := by decide +kernel
theorem dX4_blame_74 : decode cX4_blame 74 = .ok (.iload 4, 2) := by decide +kernel
theorem dX4_blame_76 : decode cX4_blame 76 = .ok (.iaload, 1) := by decide +kernel
theorem dX4_blame_77 : decode cX4_blame 77 = .ok (.goto 13, 3) := by decide +kernel
theorem dX4_blame_80 : decode cX4_blame 80 = .ok (.aload_n 0, 1) := by decide +kernel
theorem dX4_blame_81 : decode cX4_blame 81 = .ok (.getfield 12, 3) := by decide +kernel
theorem dX4_blame_84 : decode cX4_blame 84 = .ok (.getfield 124, 3) := by decide +kernel
theorem dX4_blame_87 : decode cX4_blame 87 = .ok (.iload 4, 2) := by decide +kernel
theorem dX4_blame_89 : decode cX4_blame 89 = .ok (.iaload, 1) := by decide +kernel
theorem dX4_blame_90 : decode cX4_blame 90 = .ok (.ireturn, 1) := by decide +kernel
theorem dX4_first_0 : decode cX4_first 0 = .ok (.iload_n 1, 1) := by decide +kernel
theorem dX4_first_1 : decode cX4_first 1 = .ok (.invokestatic 50, 3) := by decide +kernel
theorem dX4_first_4 : decode cX4_first 4 = .ok (.ifCond .ne 6, 3) := by decide +kernel
theorem dX4_first_7 : decode cX4_first 7 = .ok (.bipush (-101), 2) := by decide +kernel
theorem dX4_first_9 : decode cX4_first 9 = .ok (.ireturn, 1) := by decide +kernel
theorem dX4_first_10 : decode cX4_first 10 = .ok (.iconst 0, 1) := by decide +kernel
theorem dX4_first_11 : decode cX4_first 11 = .ok (.istore_n 3, 1) := by decide +kernel
theorem dX4_first_12 : decode cX4_first 12 = .ok (.iconst 0, 1) := by decide +kernel
theorem dX4_first_13 : decode cX4_first 13 = .ok (.istore 4, 2) := by decide +kernel
theorem dX4_first_15 : decode cX4_first 15 = .ok (.iconst 0, 1) := by decide +kernel
theorem dX4_first_16 : decode cX4_first 16 = .ok (.istore 5, 2) := by decide +kernel
theorem dX4_first_18 : decode cX4_first 18 = .ok (.iload 5, 2) := by decide +kernel
theorem dX4_first_20 : decode cX4_first 20 = .ok (.aload_n 0, 1) := by decide +kernel
theorem dX4_first_21 : decode cX4_first 21 = .ok (.getfield 19, 3) := by decide +kernel
theorem dX4_first_24 : decode cX4_first 24 = .ok (.getfield 65, 3) := by decide +kernel
theorem dX4_first_27 : decode cX4_first 27 = .ok (.if_icmp .gt 86, 3) := by decide +kernel
theorem dX4_first_30 : decode cX4_first 30 = .ok (.iload 4, 2) := by decide +kernel
theorem dX4_first_32 : decode cX4_first 32 = .ok (.aload_n 0, 1) := by decide +kernel
theorem dX4_first_33 : decode cX4_first 33 = .ok (.getfield 12, 3) := by decide +kernel
theorem dX4_first_36 : decode cX4_first 36 = .ok (.getfield 68, 3) := by decide +kernel
theorem dX4_first_39 : decode cX4_first 39 = .ok (.if_icmp .ge 48, 3) := by decide +kernel
theorem dX4_first_42 : decode cX4_first 42 = .ok (.aload_n 0, 1) := by decide +kernel
theorem dX4_first_43 : decode cX4_first 43 = .ok (.getfield 12, 3) := by decide +kernel
theorem dX4_first_46 : decode cX4_first 46 = .ok (.getfield 124, 3) := by decide +kernel
theorem dX4_first_49 : decode cX4_first 49 = .ok (.iload 4, 2) := by decide +kernel
theorem dX4_first_51 : decode cX4_first 51 = .ok (.iaload, 1) := by decide +kernel
theorem dX4_first_52 : decode cX4_first 52 = .ok (.iload 5, 2) := by decide +kernel
theorem dX4_first_54 : decode cX4_first 54 = .ok (.if_icmp .gt 33, 3) := by decide +kernel
theorem dX4_first_57 : decode cX4_first 57 = .ok (.aload_n 0, 1) := by decide +kernel
theorem dX4_first_58 : decode cX4_first 58 = .ok (.getfield 12, 3) := by decide +kernel
theorem dX4_first_61 : decode cX4_first 61 = .ok (.iload 4, 2) := by decide +kernel
theorem dX4_first_63 : decode cX4_first 63 = .ok (.iload_n 1, 1) := by decide +kernel
theorem dX4_first_64 : decode cX4_first 64 = .ok (.invokevirtual 126, 3) := by decide +kernel
theorem dX4_first_67 : decode cX4_first 67 = .ok (.ifCond .eq 14, 3) := by decide +kernel
theorem dX4_first_70 : decode cX4_first 70 = .ok (.aload_n 0, 1) := by decide +kernel
theorem dX4_first_71 : decode cX4_first 71 = .ok (.getfield 12, 3) := by decide +kernel
theorem dX4_first_74 : decode cX4_first 74 = .ok (.getfield 117, 3) := by decide +kernel
theorem dX4_first_77 : decode cX4_first 77 = .ok (.iload 4, 2) := by decide +kernel
theorem dX4_first_79 : decode cX4_first 79 = .ok (.iaload, 1) := by decide +kernel
theorem dX4_first_80 : decode cX4_first 80 = .ok (.istore_n 3, 1) := by decide +kernel
theorem dX4_first_81 : decode cX4_first 81 = .ok (.iinc 4 1, 3) := by decide +kernel
theorem dX4_first_84 : decode cX4_first 84 = .ok (.goto (-54), 3) := by decide +kernel
theorem dX4_first_87 : decode cX4_first 87 = .ok (.iload_n 3, 1) := by decide +kernel
theorem dX4_first_88 : decode cX4_first 88 = .ok (.iload_n 2, 1) := by decide +kernel
theorem dX4_first_89 : decode cX4_first 89 = .ok (.if_icmp .ne 18, 3) := by decide +kernel
theorem dX4_first_92 : decode cX4_first 92 = .ok (.aload_n 0, 1) := by decide +kernel
theorem dX4_first_93 : decode cX4_first 93 = .ok (.getfield 19, 3) := by decide +kernel
theorem dX4_first_96 : decode cX4_first 96 = .ok (.iload 5, 2) := by decide +kernel
theorem dX4_first_98 : decode cX4_first 98 = .ok (.invokevirtual 110, 3) := by decide +kernel
theorem dX4_first_101 : decode cX4_first 101 = .ok (.ifCond .ne 6, 3) := by decide +kernel
theorem dX4_first_104 : decode cX4_first 104 = .ok (.iload 5, 2) := by decide +kernel
theorem dX4_first_106 : decode cX4_first 106 = .ok (.ireturn, 1) := by decide +kernel
theorem dX4_first_107 : decode cX4_first 107 = .ok (.iinc 5 1, 3) := by decide +kernel
theorem dX4_first_110 : decode cX4_first 110 = .ok (.goto (-92), 3) := by decide +kernel
theorem dX4_first_113 : decode cX4_first 113 = .ok (.iconst (-1), 1) := by decide +kernel
theorem dX4_first_114 : decode cX4_first 114 = .ok (.ireturn, 1) := by decide +kernel
theorem dX4_differs_0 : decode cX4_differs 0 = .ok (.aload_n 0, 1) := by decide +kernel
theorem dX4_differs_1 : decode cX4_differs 1 = .ok (.iload_n 1, 1) := by decide +kernel
theorem dX4_differs_2 : decode cX4_differs 2 = .ok (.iload_n 2, 1) := by decide +kernel
theorem dX4_differs_3 : decode cX4_differs 3 = .ok (.invokevirtual 130, 3) := by decide +kernel
theorem dX4_differs_6 : decode cX4_differs 6 = .ok (.istore_n 3, 1) := by decide +kernel
theorem dX4_differs_7 : decode cX4_differs 7 = .ok (.iload_n 3, 1) := by decide +kernel
theorem dX4_differs_8 : decode cX4_differs 8 = .ok (.ifCond .eq 5, 3) := by decide +kernel
theorem dX4_differs_11 : decode cX4_differs 11 = .ok (.iload_n 3, 1) := by decide +kernel
theorem dX4_differs_12 : decode cX4_differs 12 = .ok (.ireturn, 1) := by decide +kernel
theorem dX4_differs_13 : decode cX4_differs 13 = .ok (.aload_n 0, 1) := by decide +kernel
theorem dX4_differs_14 : decode cX4_differs 14 = .ok (.iload_n 1, 1) := by decide +kernel
theorem dX4_differs_15 : decode cX4_differs 15 = .ok (.iload_n 2, 1) := by decide +kernel
theorem dX4_differs_16 : decode cX4_differs 16 = .ok (.invokevirtual 133, 3) := by decide +kernel
theorem dX4_differs_19 : decode cX4_differs 19 = .ok (.iconst 0, 1) := by decide +kernel
theorem dX4_differs_20 : decode cX4_differs 20 = .ok (.istore 4, 2) := by decide +kernel
theorem dX4_differs_22 : decode cX4_differs 22 = .ok (.iconst 0, 1) := by decide +kernel
theorem dX4_differs_23 : decode cX4_differs 23 = .ok (.istore 5, 2) := by decide +kernel
theorem dX4_differs_25 : decode cX4_differs 25 = .ok (.iload 5, 2) := by decide +kernel
theorem dX4_differs_27 : decode cX4_differs 27 = .ok (.bipush 32, 2) := by decide +kernel
theorem dX4_differs_29 : decode cX4_differs 29 = .ok (.if_icmp .ge 29, 3) := by decide +kernel
theorem dX4_differs_32 : decode cX4_differs 32 = .ok (.aload_n 0, 1) := by decide +kernel
theorem dX4_differs_33 : decode cX4_differs 33 = .ok (.getfield 41, 3) := by decide +kernel
theorem dX4_differs_36 : decode cX4_differs 36 = .ok (.iload 5, 2) := by decide +kernel
theorem dX4_differs_38 : decode cX4_differs 38 = .ok (.iaload, 1) := by decide +kernel
theorem dX4_differs_39 : decode cX4_differs 39 = .ok (.aload_n 0, 1) := by decide +kernel
theorem dX4_differs_40 : decode cX4_differs 40 = .ok (.getfield 44, 3) := by decide +kernel
theorem dX4_differs_43 : decode cX4_differs 43 = .ok (.iload 5, 2) := by decide +kernel
theorem dX4_differs_45 : decode cX4_differs 45 = .ok (.iaload, 1) := by decide +kernel
theorem dX4_differs_46 : decode cX4_differs 46 = .ok (.if_icmp .eq 6, 3) := by decide +kernel
theorem dX4_differs_49 : decode cX4_differs 49 = .ok (.iinc 4 1, 3) := by decide +kernel
theorem dX4_differs_52 : decode cX4_differs 52 = .ok (.iinc 5 1, 3) := by decide +kernel
theorem dX4_differs_55 : decode cX4_differs 55 = .ok (.goto (-30), 3) := by decide +kernel
theorem dX4_differs_58 : decode cX4_differs 58 = .ok (.iload 4, 2) := by decide +kernel
theorem dX4_differs_60 : decode cX4_differs 60 = .ok (.ireturn, 1) := by decide +kernel
theorem dX4_difference_0 : decode cX4_difference 0 = .ok (.aload_n 0, 1) := by decide +kernel
theorem dX4_difference_1 : decode cX4_difference 1 = .ok (.iload_n 1, 1) := by decide +kernel
theorem dX4_difference_2 : decode cX4_difference 2 = .ok (.iload_n 2, 1) := by decide +kernel
theorem dX4_difference_3 : decode cX4_difference 3 = .ok (.invokevirtual 130, 3) := by decide +kernel
theorem dX4_difference_6 : decode cX4_difference 6 = .ok (.istore 4, 2) := by decide +kernel
theorem dX4_difference_8 : decode cX4_difference 8 = .ok (.iload 4, 2) := by decide +kernel
theorem dX4_difference_10 : decode cX4_difference 10 = .ok (.ifCond .eq 6, 3) := by decide +kernel
theorem dX4_difference_13 : decode cX4_difference 13 = .ok (.iload 4, 2) := by decide +kernel
theorem dX4_difference_15 : decode cX4_difference 15 = .ok (.ireturn, 1) := by decide +kernel
theorem dX4_difference_16 : decode cX4_difference 16 = .ok (.aload_n 0, 1) := by decide +kernel
theorem dX4_difference_17 : decode cX4_difference 17 = .ok (.iload_n 1, 1) := by decide +kernel
theorem dX4_difference_18 : decode cX4_difference 18 = .ok (.iload_n 2, 1) := by decide +kernel
theorem dX4_difference_19 : decode cX4_difference 19 = .ok (.invokevirtual 133, 3) := by decide +kernel
theorem dX4_difference_22 : decode cX4_difference 22 = .ok (.iconst 0, 1) := by decide +kernel
theorem dX4_difference_23 : decode cX4_difference 23 = .ok (.istore 5, 2) := by decide +kernel
theorem dX4_difference_25 : decode cX4_difference 25 = .ok (.iconst 0, 1) := by decide +kernel
theorem dX4_difference_26 : decode cX4_difference 26 = .ok (.istore 6, 2) := by decide +kernel
theorem dX4_difference_28 : decode cX4_difference 28 = .ok (.iload 6, 2) := by decide +kernel
theorem dX4_difference_30 : decode cX4_difference 30 = .ok (.bipush 32, 2) := by decide +kernel
theorem dX4_difference_32 : decode cX4_difference 32 = .ok (.if_icmp .ge 41, 3) := by decide +kernel
theorem dX4_difference_35 : decode cX4_difference 35 = .ok (.aload_n 0, 1) := by decide +kernel
theorem dX4_difference_36 : decode cX4_difference 36 = .ok (.getfield 41, 3) := by decide +kernel
theorem dX4_difference_39 : decode cX4_difference 39 = .ok (.iload 6, 2) := by decide +kernel
theorem dX4_difference_41 : decode cX4_difference 41 = .ok (.iaload, 1) := by decide +kernel
theorem dX4_difference_42 : decode cX4_difference 42 = .ok (.aload_n 0, 1) := by decide +kernel
theorem dX4_difference_43 : decode cX4_difference 43 = .ok (.getfield 44, 3) := by decide +kernel
theorem dX4_difference_46 : decode cX4_difference 46 = .ok (.iload 6, 2) := by decide +kernel
theorem dX4_difference_48 : decode cX4_difference 48 = .ok (.iaload, 1) := by decide +kernel
theorem dX4_difference_49 : decode cX4_difference 49 = .ok (.if_icmp .ne 6, 3) := by decide +kernel
theorem dX4_difference_52 : decode cX4_difference 52 = .ok (.goto 15, 3) := by decide +kernel
theorem dX4_difference_55 : decode cX4_difference 55 = .ok (.iload 5, 2) := by decide +kernel
theorem dX4_difference_57 : decode cX4_difference 57 = .ok (.iload_n 3, 1) := by decide +kernel
theorem dX4_difference_58 : decode cX4_difference 58 = .ok (.if_icmp .ne 6, 3) := by decide +kernel
theorem dX4_difference_61 : decode cX4_difference 61 = .ok (.iload 6, 2) := by decide +kernel
theorem dX4_difference_63 : decode cX4_difference 63 = .ok (.ireturn, 1) := by decide +kernel
theorem dX4_difference_64 : decode cX4_difference 64 = .ok (.iinc 5 1, 3) := by decide +kernel
theorem dX4_difference_67 : decode cX4_difference 67 = .ok (.iinc 6 1, 3) := by decide +kernel
theorem dX4_difference_70 : decode cX4_difference 70 = .ok (.goto (-42), 3) := by decide +kernel
theorem dX4_difference_73 : decode cX4_difference 73 = .ok (.iconst (-1), 1) := by decide +kernel
theorem dX4_difference_74 : decode cX4_difference 74 = .ok (.ireturn, 1) := by decide +kernel
theorem dX4_rule_0 : decode cX4_rule 0 = .ok (.iload_n 1, 1) := by decide +kernel
theorem dX4_rule_1 : decode cX4_rule 1 = .ok (.ifCond .lt 9, 3) := by decide +kernel
theorem dX4_rule_4 : decode cX4_rule 4 = .ok (.iload_n 1, 1) := by decide +kernel
theorem dX4_rule_5 : decode cX4_rule 5 = .ok (.bipush 100, 2) := by decide +kernel
theorem dX4_rule_7 : decode cX4_rule 7 = .ok (.if_icmp .le 6, 3) := by decide +kernel
theorem dX4_rule_10 : decode cX4_rule 10 = .ok (.bipush (-102), 2) := by decide +kernel
theorem dX4_rule_12 : decode cX4_rule 12 = .ok (.ireturn, 1) := by decide +kernel
theorem dX4_rule_13 : decode cX4_rule 13 = .ok (.aload_n 0, 1) := by decide +kernel
theorem dX4_rule_14 : decode cX4_rule 14 = .ok (.getfield 137, 3) := by decide +kernel
theorem dX4_rule_17 : decode cX4_rule 17 = .ok (.istore_n 2, 1) := by decide +kernel
theorem dX4_rule_18 : decode cX4_rule 18 = .ok (.aload_n 0, 1) := by decide +kernel
theorem dX4_rule_19 : decode cX4_rule 19 = .ok (.iload_n 1, 1) := by decide +kernel
theorem dX4_rule_20 : decode cX4_rule 20 = .ok (.putfield 137, 3) := by decide +kernel
theorem dX4_rule_23 : decode cX4_rule 23 = .ok (.iload_n 2, 1) := by decide +kernel
theorem dX4_rule_24 : decode cX4_rule 24 = .ok (.ireturn, 1) := by decide +kernel
theorem dX4_prune_0 : decode cX4_prune 0 = .ok (.aload_n 0, 1) := by decide +kernel
theorem dX4_prune_1 : decode cX4_prune 1 = .ok (.iload_n 1, 1) := by decide +kernel
theorem dX4_prune_2 : decode cX4_prune 2 = .ok (.invokevirtual 103, 3) := by decide +kernel
theorem dX4_prune_5 : decode cX4_prune 5 = .ok (.ifCond .ne 6, 3) := by decide +kernel
theorem dX4_prune_8 : decode cX4_prune 8 = .ok (.bipush (-101), 2) := by decide +kernel
theorem dX4_prune_10 : decode cX4_prune 10 = .ok (.ireturn, 1) := by decide +kernel
theorem dX4_prune_11 : decode cX4_prune 11 = .ok (.aload_n 0, 1) := by decide +kernel
theorem dX4_prune_12 : decode cX4_prune 12 = .ok (.getfield 19, 3) := by decide +kernel
theorem dX4_prune_15 : decode cX4_prune 15 = .ok (.iload_n 1, 1) := by decide +kernel
theorem dX4_prune_16 : decode cX4_prune 16 = .ok (.aload_n 0, 1) := by decide +kernel
theorem dX4_prune_17 : decode cX4_prune 17 = .ok (.getfield 137, 3) := by decide +kernel
theorem dX4_prune_20 : decode cX4_prune 20 = .ok (.invokevirtual 140, 3) := by decide +kernel
theorem dX4_prune_23 : decode cX4_prune 23 = .ok (.istore_n 2, 1) := by decide +kernel
theorem dX4_prune_24 : decode cX4_prune 24 = .ok (.iload_n 2, 1) := by decide +kernel
theorem dX4_prune_25 : decode cX4_prune 25 = .ok (.ifCond .ne 5, 3) := by decide +kernel
theorem dX4_prune_28 : decode cX4_prune 28 = .ok (.iconst 0, 1) := by decide +kernel
theorem dX4_prune_29 : decode cX4_prune 29 = .ok (.ireturn, 1) := by decide +kernel
theorem dX4_prune_30 : decode cX4_prune 30 = .ok (.aload_n 0, 1) := by decide +kernel
theorem dX4_prune_31 : decode cX4_prune 31 = .ok (.getfield 143, 3) := by decide +kernel
theorem dX4_prune_34 : decode cX4_prune 34 = .ok (.bipush 8, 2) := by decide +kernel
theorem dX4_prune_36 : decode cX4_prune 36 = .ok (.if_icmp .lt 6, 3) := by decide +kernel
theorem dX4_prune_39 : decode cX4_prune 39 = .ok (.bipush (-105), 2) := by decide +kernel
theorem dX4_prune_41 : decode cX4_prune 41 = .ok (.ireturn, 1) := by decide +kernel
theorem dX4_prune_42 : decode cX4_prune 42 = .ok (.aload_n 0, 1) := by decide +kernel
theorem dX4_prune_43 : decode cX4_prune 43 = .ok (.getfield 19, 3) := by decide +kernel
theorem dX4_prune_46 : decode cX4_prune 46 = .ok (.aload_n 0, 1) := by decide +kernel
theorem dX4_prune_47 : decode cX4_prune 47 = .ok (.getfield 143, 3) := by decide +kernel
theorem dX4_prune_50 : decode cX4_prune 50 = .ok (.iload_n 1, 1) := by decide +kernel
theorem dX4_prune_51 : decode cX4_prune 51 = .ok (.aload_n 0, 1) := by decide +kernel
theorem dX4_prune_52 : decode cX4_prune 52 = .ok (.getfield 137, 3) := by decide +kernel
theorem dX4_prune_55 : decode cX4_prune 55 = .ok (.invokevirtual 146, 3) := by decide +kernel
theorem dX4_prune_58 : decode cX4_prune 58 = .ok (.aload_n 0, 1) := by decide +kernel
theorem dX4_prune_59 : decode cX4_prune 59 = .ok (.getfield 12, 3) := by decide +kernel
theorem dX4_prune_62 : decode cX4_prune 62 = .ok (.aload_n 0, 1) := by decide +kernel
theorem dX4_prune_63 : decode cX4_prune 63 = .ok (.getfield 143, 3) := by decide +kernel
theorem dX4_prune_66 : decode cX4_prune 66 = .ok (.aload_n 0, 1) := by decide +kernel
theorem dX4_prune_67 : decode cX4_prune 67 = .ok (.getfield 19, 3) := by decide +kernel
theorem dX4_prune_70 : decode cX4_prune 70 = .ok (.invokevirtual 149, 3) := by decide +kernel
theorem dX4_prune_73 : decode cX4_prune 73 = .ok (.aload_n 0, 1) := by decide +kernel
theorem dX4_prune_74 : decode cX4_prune 74 = .ok (.dup, 1) := by decide +kernel
theorem dX4_prune_75 : decode cX4_prune 75 = .ok (.getfield 143, 3) := by decide +kernel
theorem dX4_prune_78 : decode cX4_prune 78 = .ok (.iconst 1, 1) := by decide +kernel
theorem dX4_prune_79 : decode cX4_prune 79 = .ok (.iadd, 1) := by decide +kernel
theorem dX4_prune_80 : decode cX4_prune 80 = .ok (.putfield 143, 3) := by decide +kernel
theorem dX4_prune_83 : decode cX4_prune 83 = .ok (.iload_n 2, 1) := by decide +kernel
theorem dX4_prune_84 : decode cX4_prune 84 = .ok (.ireturn, 1) := by decide +kernel
theorem dX4_pruned_0 : decode cX4_pruned 0 = .ok (.aload_n 0, 1) := by decide +kernel
theorem dX4_pruned_1 : decode cX4_pruned 1 = .ok (.iload_n 1, 1) := by decide +kernel
theorem dX4_pruned_2 : decode cX4_pruned 2 = .ok (.invokevirtual 103, 3) := by decide +kernel
theorem dX4_pruned_5 : decode cX4_pruned 5 = .ok (.ifCond .ne 6, 3) := by decide +kernel
theorem dX4_pruned_8 : decode cX4_pruned 8 = .ok (.bipush (-101), 2) := by decide +kernel
theorem dX4_pruned_10 : decode cX4_pruned 10 = .ok (.ireturn, 1) := by decide +kernel
theorem dX4_pruned_11 : decode cX4_pruned 11 = .ok (.aload_n 0, 1) := by decide +kernel
theorem dX4_pruned_12 : decode cX4_pruned 12 = .ok (.getfield 19, 3) := by decide +kernel
theorem dX4_pruned_15 : decode cX4_pruned 15 = .ok (.iload_n 1, 1) := by decide +kernel
theorem dX4_pruned_16 : decode cX4_pruned 16 = .ok (.invokevirtual 110, 3) := by decide +kernel
theorem dX4_pruned_19 : decode cX4_pruned 19 = .ok (.ifCond .eq 7, 3) := by decide +kernel
theorem dX4_pruned_22 : decode cX4_pruned 22 = .ok (.iconst 1, 1) := by decide +kernel
theorem dX4_pruned_23 : decode cX4_pruned 23 = .ok (.goto 4, 3) := by decide +kernel
theorem dX4_pruned_26 : decode cX4_pruned 26 = .ok (.iconst 0, 1) := by decide +kernel
theorem dX4_pruned_27 : decode cX4_pruned 27 = .ok (.ireturn, 1) := by decide +kernel
theorem dX4_bring_0 : decode cX4_bring 0 = .ok (.aload_n 0, 1) := by decide +kernel
theorem dX4_bring_1 : decode cX4_bring 1 = .ok (.getfield 143, 3) := by decide +kernel
theorem dX4_bring_4 : decode cX4_bring 4 = .ok (.ifCond .ne 6, 3) := by decide +kernel
theorem dX4_bring_7 : decode cX4_bring 7 = .ok (.bipush (-103), 2) := by decide +kernel
theorem dX4_bring_9 : decode cX4_bring 9 = .ok (.ireturn, 1) := by decide +kernel
theorem dX4_bring_10 : decode cX4_bring 10 = .ok (.aload_n 0, 1) := by decide +kernel
theorem dX4_bring_11 : decode cX4_bring 11 = .ok (.dup, 1) := by decide +kernel
theorem dX4_bring_12 : decode cX4_bring 12 = .ok (.getfield 143, 3) := by decide +kernel
theorem dX4_bring_15 : decode cX4_bring 15 = .ok (.iconst 1, 1) := by decide +kernel
theorem dX4_bring_16 : decode cX4_bring 16 = .ok (.isub, 1) := by decide +kernel
theorem dX4_bring_17 : decode cX4_bring 17 = .ok (.putfield 143, 3) := by decide +kernel
theorem dX4_bring_20 : decode cX4_bring 20 = .ok (.aload_n 0, 1) := by decide +kernel
theorem dX4_bring_21 : decode cX4_bring 21 = .ok (.getfield 19, 3) := by decide +kernel
theorem dX4_bring_24 : decode cX4_bring 24 = .ok (.aload_n 0, 1) := by decide +kernel
theorem dX4_bring_25 : decode cX4_bring 25 = .ok (.getfield 143, 3) := by decide +kernel
theorem dX4_bring_28 : decode cX4_bring 28 = .ok (.iconst (-1), 1) := by decide +kernel
theorem dX4_bring_29 : decode cX4_bring 29 = .ok (.invokevirtual 153, 3) := by decide +kernel
theorem dX4_bring_32 : decode cX4_bring 32 = .ok (.aload_n 0, 1) := by decide +kernel
theorem dX4_bring_33 : decode cX4_bring 33 = .ok (.getfield 12, 3) := by decide +kernel
theorem dX4_bring_36 : decode cX4_bring 36 = .ok (.aload_n 0, 1) := by decide +kernel
theorem dX4_bring_37 : decode cX4_bring 37 = .ok (.getfield 143, 3) := by decide +kernel
theorem dX4_bring_40 : decode cX4_bring 40 = .ok (.invokevirtual 156, 3) := by decide +kernel
theorem dX4_bring_43 : decode cX4_bring 43 = .ok (.ireturn, 1) := by decide +kernel
theorem dX4_forget_0 : decode cX4_forget 0 = .ok (.iconst 0, 1) := by decide +kernel
theorem dX4_forget_1 : decode cX4_forget 1 = .ok (.istore_n 1, 1) := by decide +kernel
theorem dX4_forget_2 : decode cX4_forget 2 = .ok (.iload_n 1, 1) := by decide +kernel
theorem dX4_forget_3 : decode cX4_forget 3 = .ok (.aload_n 0, 1) := by decide +kernel
theorem dX4_forget_4 : decode cX4_forget 4 = .ok (.getfield 143, 3) := by decide +kernel
theorem dX4_forget_7 : decode cX4_forget 7 = .ok (.if_icmp .ge 19, 3) := by decide +kernel
theorem dX4_forget_10 : decode cX4_forget 10 = .ok (.aload_n 0, 1) := by decide +kernel
theorem dX4_forget_11 : decode cX4_forget 11 = .ok (.getfield 19, 3) := by decide +kernel
theorem dX4_forget_14 : decode cX4_forget 14 = .ok (.iload_n 1, 1) := by decide +kernel
theorem dX4_forget_15 : decode cX4_forget 15 = .ok (.bipush 8, 2) := by decide +kernel
theorem dX4_forget_17 : decode cX4_forget 17 = .ok (.invokevirtual 153, 3) := by decide +kernel
theorem dX4_forget_20 : decode cX4_forget 20 = .ok (.iinc 1 1, 3) := by decide +kernel
theorem dX4_forget_23 : decode cX4_forget 23 = .ok (.goto (-21), 3) := by decide +kernel
theorem dX4_forget_26 : decode cX4_forget 26 = .ok (.aload_n 0, 1) := by decide +kernel
theorem dX4_forget_27 : decode cX4_forget 27 = .ok (.iconst 0, 1) := by decide +kernel
theorem dX4_forget_28 : decode cX4_forget 28 = .ok (.putfield 143, 3) := by decide +kernel
theorem dX4_forget_31 : decode cX4_forget 31 = .ok (.aload_n 0, 1) := by decide +kernel
theorem dX4_forget_32 : decode cX4_forget 32 = .ok (.getfield 12, 3) := by decide +kernel
theorem dX4_forget_35 : decode cX4_forget 35 = .ok (.invokevirtual 160, 3) := by decide +kernel
theorem dX4_forget_38 : decode cX4_forget 38 = .ok (.ireturn, 1) := by decide +kernel
theorem dX4_archive_0 : decode cX4_archive 0 = .ok (.iload_n 1, 1) := by decide +kernel
theorem dX4_archive_1 : decode cX4_archive 1 = .ok (.ifCond .lt 11, 3) := by decide +kernel
theorem dX4_archive_4 : decode cX4_archive 4 = .ok (.iload_n 1, 1) := by decide +kernel
theorem dX4_archive_5 : decode cX4_archive 5 = .ok (.aload_n 0, 1) := by decide +kernel
theorem dX4_archive_6 : decode cX4_archive 6 = .ok (.getfield 143, 3) := by decide +kernel
theorem dX4_archive_9 : decode cX4_archive 9 = .ok (.if_icmp .lt 6, 3) := by decide +kernel
theorem dX4_archive_12 : decode cX4_archive 12 = .ok (.bipush (-101), 2) := by decide +kernel
theorem dX4_archive_14 : decode cX4_archive 14 = .ok (.ireturn, 1) := by decide +kernel
theorem dX4_archive_15 : decode cX4_archive 15 = .ok (.iload_n 2, 1) := by decide +kernel
theorem dX4_archive_16 : decode cX4_archive 16 = .ok (.ifCond .lt 8, 3) := by decide +kernel
theorem dX4_archive_19 : decode cX4_archive 19 = .ok (.iload_n 2, 1) := by decide +kernel
theorem dX4_archive_20 : decode cX4_archive 20 = .ok (.iconst 1, 1) := by decide +kernel
theorem dX4_archive_21 : decode cX4_archive 21 = .ok (.if_icmp .le 6, 3) := by decide +kernel
theorem dX4_archive_24 : decode cX4_archive 24 = .ok (.bipush (-102), 2) := by decide +kernel
theorem dX4_archive_26 : decode cX4_archive 26 = .ok (.ireturn, 1) := by decide +kernel
theorem dX4_archive_27 : decode cX4_archive 27 = .ok (.iload_n 2, 1) := by decide +kernel
theorem dX4_archive_28 : decode cX4_archive 28 = .ok (.ifCond .ne 14, 3) := by decide +kernel
theorem dX4_archive_31 : decode cX4_archive 31 = .ok (.aload_n 0, 1) := by decide +kernel
theorem dX4_archive_32 : decode cX4_archive 32 = .ok (.getfield 12, 3) := by decide +kernel
theorem dX4_archive_35 : decode cX4_archive 35 = .ok (.iload_n 1, 1) := by decide +kernel
theorem dX4_archive_36 : decode cX4_archive 36 = .ok (.invokevirtual 163, 3) := by decide +kernel
theorem dX4_archive_39 : decode cX4_archive 39 = .ok (.goto 11, 3) := by decide +kernel
theorem dX4_archive_42 : decode cX4_archive 42 = .ok (.aload_n 0, 1) := by decide +kernel
theorem dX4_archive_43 : decode cX4_archive 43 = .ok (.getfield 19, 3) := by decide +kernel
theorem dX4_archive_46 : decode cX4_archive 46 = .ok (.iload_n 1, 1) := by decide +kernel
theorem dX4_archive_47 : decode cX4_archive 47 = .ok (.invokevirtual 166, 3) := by decide +kernel
theorem dX4_archive_50 : decode cX4_archive 50 = .ok (.ireturn, 1) := by decide +kernel
theorem dX4_replay_0 : decode cX4_replay 0 = .ok (.aload_n 0, 1) := by decide +kernel
theorem dX4_replay_1 : decode cX4_replay 1 = .ok (.iload_n 1, 1) := by decide +kernel
theorem dX4_replay_2 : decode cX4_replay 2 = .ok (.iload_n 2, 1) := by decide +kernel
theorem dX4_replay_3 : decode cX4_replay 3 = .ok (.invokevirtual 167, 3) := by decide +kernel
theorem dX4_replay_6 : decode cX4_replay 6 = .ok (.istore_n 3, 1) := by decide +kernel
theorem dX4_replay_7 : decode cX4_replay 7 = .ok (.iload_n 3, 1) := by decide +kernel
theorem dX4_replay_8 : decode cX4_replay 8 = .ok (.ifCond .eq 8, 3) := by decide +kernel
theorem dX4_replay_11 : decode cX4_replay 11 = .ok (.iload_n 3, 1) := by decide +kernel
theorem dX4_replay_12 : decode cX4_replay 12 = .ok (.invokestatic 106, 3) := by decide +kernel
theorem dX4_replay_15 : decode cX4_replay 15 = .ok (.lreturn, 1) := by decide +kernel
theorem dX4_replay_16 : decode cX4_replay 16 = .ok (.aload_n 0, 1) := by decide +kernel
theorem dX4_replay_17 : decode cX4_replay 17 = .ok (.getfield 12, 3) := by decide +kernel
theorem dX4_replay_20 : decode cX4_replay 20 = .ok (.iload_n 1, 1) := by decide +kernel
theorem dX4_replay_21 : decode cX4_replay 21 = .ok (.aload_n 0, 1) := by decide +kernel
theorem dX4_replay_22 : decode cX4_replay 22 = .ok (.getfield 41, 3) := by decide +kernel
theorem dX4_replay_25 : decode cX4_replay 25 = .ok (.invokevirtual 170, 3) := by decide +kernel
theorem dX4_replay_28 : decode cX4_replay 28 = .ok (.aload_n 0, 1) := by decide +kernel
theorem dX4_replay_29 : decode cX4_replay 29 = .ok (.getfield 12, 3) := by decide +kernel
theorem dX4_replay_32 : decode cX4_replay 32 = .ok (.iload_n 1, 1) := by decide +kernel
theorem dX4_replay_33 : decode cX4_replay 33 = .ok (.iload_n 2, 1) := by decide +kernel
theorem dX4_replay_34 : decode cX4_replay 34 = .ok (.aload_n 0, 1) := by decide +kernel
theorem dX4_replay_35 : decode cX4_replay 35 = .ok (.getfield 41, 3) := by decide +kernel
theorem dX4_replay_38 : decode cX4_replay 38 = .ok (.invokevirtual 174, 3) := by decide +kernel
theorem dX4_replay_41 : decode cX4_replay 41 = .ok (.pop, 1) := by decide +kernel
theorem dX4_replay_42 : decode cX4_replay 42 = .ok (.aload_n 0, 1) := by decide +kernel
theorem dX4_replay_43 : decode cX4_replay 43 = .ok (.getfield 33, 3) := by decide +kernel
theorem dX4_replay_46 : decode cX4_replay 46 = .ok (.aload_n 0, 1) := by decide +kernel
theorem dX4_replay_47 : decode cX4_replay 47 = .ok (.getfield 41, 3) := by decide +kernel
theorem dX4_replay_50 : decode cX4_replay 50 = .ok (.invokevirtual 88, 3) := by decide +kernel
theorem dX4_replay_53 : decode cX4_replay 53 = .ok (.i2l, 1) := by decide +kernel
theorem dX4_replay_54 : decode cX4_replay 54 = .ok (.lreturn, 1) := by decide +kernel
theorem dX4_replayed_0 : decode cX4_replayed 0 = .ok (.aload_n 0, 1) := by decide +kernel
theorem dX4_replayed_1 : decode cX4_replayed 1 = .ok (.iload_n 1, 1) := by decide +kernel
theorem dX4_replayed_2 : decode cX4_replayed 2 = .ok (.iload_n 2, 1) := by decide +kernel
theorem dX4_replayed_3 : decode cX4_replayed 3 = .ok (.invokevirtual 167, 3) := by decide +kernel
theorem dX4_replayed_6 : decode cX4_replayed 6 = .ok (.istore_n 3, 1) := by decide +kernel
theorem dX4_replayed_7 : decode cX4_replayed 7 = .ok (.iload_n 3, 1) := by decide +kernel
theorem dX4_replayed_8 : decode cX4_replayed 8 = .ok (.ifCond .eq 5, 3) := by decide +kernel
theorem dX4_replayed_11 : decode cX4_replayed 11 = .ok (.iload_n 3, 1) := by decide +kernel
theorem dX4_replayed_12 : decode cX4_replayed 12 = .ok (.ireturn, 1) := by decide +kernel
theorem dX4_replayed_13 : decode cX4_replayed 13 = .ok (.aload_n 0, 1) := by decide +kernel
theorem dX4_replayed_14 : decode cX4_replayed 14 = .ok (.getfield 12, 3) := by decide +kernel
theorem dX4_replayed_17 : decode cX4_replayed 17 = .ok (.iload_n 1, 1) := by decide +kernel
theorem dX4_replayed_18 : decode cX4_replayed 18 = .ok (.iload_n 2, 1) := by decide +kernel
theorem dX4_replayed_19 : decode cX4_replayed 19 = .ok (.aload_n 0, 1) := by decide +kernel
theorem dX4_replayed_20 : decode cX4_replayed 20 = .ok (.getfield 41, 3) := by decide +kernel
theorem dX4_replayed_23 : decode cX4_replayed 23 = .ok (.invokevirtual 174, 3) := by decide +kernel
theorem dX4_replayed_26 : decode cX4_replayed 26 = .ok (.ireturn, 1) := by decide +kernel
theorem dX4_proof_0 : decode cX4_proof 0 = .ok (.iload_n 1, 1) := by decide +kernel
theorem dX4_proof_1 : decode cX4_proof 1 = .ok (.invokestatic 50, 3) := by decide +kernel
theorem dX4_proof_4 : decode cX4_proof 4 = .ok (.ifCond .eq 11, 3) := by decide +kernel
theorem dX4_proof_7 : decode cX4_proof 7 = .ok (.aload_n 0, 1) := by decide +kernel
theorem dX4_proof_8 : decode cX4_proof 8 = .ok (.iload_n 2, 1) := by decide +kernel
theorem dX4_proof_9 : decode cX4_proof 9 = .ok (.invokevirtual 103, 3) := by decide +kernel
theorem dX4_proof_12 : decode cX4_proof 12 = .ok (.ifCond .ne 9, 3) := by decide +kernel
theorem dX4_proof_15 : decode cX4_proof 15 = .ok (.bipush (-101), 2) := by decide +kernel
theorem dX4_proof_17 : decode cX4_proof 17 = .ok (.invokestatic 106, 3) := by decide +kernel
theorem dX4_proof_20 : decode cX4_proof 20 = .ok (.lreturn, 1) := by decide +kernel
theorem dX4_proof_21 : decode cX4_proof 21 = .ok (.iload_n 3, 1) := by decide +kernel
theorem dX4_proof_22 : decode cX4_proof 22 = .ok (.ifCond .lt 8, 3) := by decide +kernel
theorem dX4_proof_25 : decode cX4_proof 25 = .ok (.iload_n 3, 1) := by decide +kernel
theorem dX4_proof_26 : decode cX4_proof 26 = .ok (.iconst 5, 1) := by decide +kernel
theorem dX4_proof_27 : decode cX4_proof 27 = .ok (.if_icmp .lt 9, 3) := by decide +kernel
theorem dX4_proof_30 : decode cX4_proof 30 = .ok (.bipush (-102), 2) := by decide +kernel
theorem dX4_proof_32 : decode cX4_proof 32 = .ok (.invokestatic 106, 3) := by decide +kernel
theorem dX4_proof_35 : decode cX4_proof 35 = .ok (.lreturn, 1) := by decide +kernel
theorem dX4_proof_36 : decode cX4_proof 36 = .ok (.aload_n 0, 1) := by decide +kernel
theorem dX4_proof_37 : decode cX4_proof 37 = .ok (.getfield 19, 3) := by decide +kernel
theorem dX4_proof_40 : decode cX4_proof 40 = .ok (.iload_n 2, 1) := by decide +kernel
theorem dX4_proof_41 : decode cX4_proof 41 = .ok (.invokevirtual 110, 3) := by decide +kernel
theorem dX4_proof_44 : decode cX4_proof 44 = .ok (.ifCond .eq 9, 3) := by decide +kernel
theorem dX4_proof_47 : decode cX4_proof 47 = .ok (.bipush (-104), 2) := by decide +kernel
theorem dX4_proof_49 : decode cX4_proof 49 = .ok (.invokestatic 106, 3) := by decide +kernel
theorem dX4_proof_52 : decode cX4_proof 52 = .ok (.lreturn, 1) := by decide +kernel
theorem dX4_proof_53 : decode cX4_proof 53 = .ok (.aload_n 0, 1) := by decide +kernel
theorem dX4_proof_54 : decode cX4_proof 54 = .ok (.getfield 12, 3) := by decide +kernel
theorem dX4_proof_57 : decode cX4_proof 57 = .ok (.iload_n 2, 1) := by decide +kernel
theorem dX4_proof_58 : decode cX4_proof 58 = .ok (.aload_n 0, 1) := by decide +kernel
theorem dX4_proof_59 : decode cX4_proof 59 = .ok (.getfield 41, 3) := by decide +kernel
theorem dX4_proof_62 : decode cX4_proof 62 = .ok (.invokevirtual 170, 3) := by decide +kernel
theorem dX4_proof_65 : decode cX4_proof 65 = .ok (.aload_n 0, 1) := by decide +kernel
theorem dX4_proof_66 : decode cX4_proof 66 = .ok (.getfield 33, 3) := by decide +kernel
theorem dX4_proof_69 : decode cX4_proof 69 = .ok (.aload_n 0, 1) := by decide +kernel
theorem dX4_proof_70 : decode cX4_proof 70 = .ok (.getfield 41, 3) := by decide +kernel
theorem dX4_proof_73 : decode cX4_proof 73 = .ok (.invokevirtual 88, 3) := by decide +kernel
theorem dX4_proof_76 : decode cX4_proof 76 = .ok (.pop, 1) := by decide +kernel
theorem dX4_proof_77 : decode cX4_proof 77 = .ok (.aload_n 0, 1) := by decide +kernel
theorem dX4_proof_78 : decode cX4_proof 78 = .ok (.getfield 33, 3) := by decide +kernel
theorem dX4_proof_81 : decode cX4_proof 81 = .ok (.iload_n 1, 1) := by decide +kernel
theorem dX4_proof_82 : decode cX4_proof 82 = .ok (.iload_n 3, 1) := by decide +kernel
theorem dX4_proof_83 : decode cX4_proof 83 = .ok (.invokevirtual 178, 3) := by decide +kernel
theorem dX4_proof_86 : decode cX4_proof 86 = .ok (.i2l, 1) := by decide +kernel
theorem dX4_proof_87 : decode cX4_proof 87 = .ok (.lreturn, 1) := by decide +kernel
theorem dX4_lay_0 : decode cX4_lay 0 = .ok (.iload_n 1, 1) := by decide +kernel
theorem dX4_lay_1 : decode cX4_lay 1 = .ok (.ifCond .lt 8, 3) := by decide +kernel
theorem dX4_lay_4 : decode cX4_lay 4 = .ok (.iload_n 1, 1) := by decide +kernel
theorem dX4_lay_5 : decode cX4_lay 5 = .ok (.iconst 5, 1) := by decide +kernel
theorem dX4_lay_6 : decode cX4_lay 6 = .ok (.if_icmp .lt 6, 3) := by decide +kernel
theorem dX4_lay_9 : decode cX4_lay 9 = .ok (.bipush (-102), 2) := by decide +kernel
theorem dX4_lay_11 : decode cX4_lay 11 = .ok (.ireturn, 1) := by decide +kernel
theorem dX4_lay_12 : decode cX4_lay 12 = .ok (.aload_n 0, 1) := by decide +kernel
theorem dX4_lay_13 : decode cX4_lay 13 = .ok (.getfield 37, 3) := by decide +kernel
theorem dX4_lay_16 : decode cX4_lay 16 = .ok (.iload_n 1, 1) := by decide +kernel
theorem dX4_lay_17 : decode cX4_lay 17 = .ok (.iaload, 1) := by decide +kernel
theorem dX4_lay_18 : decode cX4_lay 18 = .ok (.istore_n 3, 1) := by decide +kernel
theorem dX4_lay_19 : decode cX4_lay 19 = .ok (.aload_n 0, 1) := by decide +kernel
theorem dX4_lay_20 : decode cX4_lay 20 = .ok (.getfield 37, 3) := by decide +kernel
theorem dX4_lay_23 : decode cX4_lay 23 = .ok (.iload_n 1, 1) := by decide +kernel
theorem dX4_lay_24 : decode cX4_lay 24 = .ok (.iload_n 2, 1) := by decide +kernel
theorem dX4_lay_25 : decode cX4_lay 25 = .ok (.iastore, 1) := by decide +kernel
theorem dX4_lay_26 : decode cX4_lay 26 = .ok (.iload_n 3, 1) := by decide +kernel
theorem dX4_lay_27 : decode cX4_lay 27 = .ok (.ireturn, 1) := by decide +kernel
theorem dX4_proves_0 : decode cX4_proves 0 = .ok (.iload_n 1, 1) := by decide +kernel
theorem dX4_proves_1 : decode cX4_proves 1 = .ok (.invokestatic 50, 3) := by decide +kernel
theorem dX4_proves_4 : decode cX4_proves 4 = .ok (.ifCond .eq 11, 3) := by decide +kernel
theorem dX4_proves_7 : decode cX4_proves 7 = .ok (.aload_n 0, 1) := by decide +kernel
theorem dX4_proves_8 : decode cX4_proves 8 = .ok (.iload_n 3, 1) := by decide +kernel
theorem dX4_proves_9 : decode cX4_proves 9 = .ok (.invokevirtual 103, 3) := by decide +kernel
theorem dX4_proves_12 : decode cX4_proves 12 = .ok (.ifCond .ne 6, 3) := by decide +kernel
theorem dX4_proves_15 : decode cX4_proves 15 = .ok (.bipush (-101), 2) := by decide +kernel
theorem dX4_proves_17 : decode cX4_proves 17 = .ok (.ireturn, 1) := by decide +kernel
theorem dX4_proves_18 : decode cX4_proves 18 = .ok (.iload_n 1, 1) := by decide +kernel
theorem dX4_proves_19 : decode cX4_proves 19 = .ok (.iload_n 2, 1) := by decide +kernel
theorem dX4_proves_20 : decode cX4_proves 20 = .ok (.aload_n 0, 1) := by decide +kernel
theorem dX4_proves_21 : decode cX4_proves 21 = .ok (.getfield 37, 3) := by decide +kernel
theorem dX4_proves_24 : decode cX4_proves 24 = .ok (.invokestatic 181, 3) := by decide +kernel
theorem dX4_proves_27 : decode cX4_proves 27 = .ok (.aload_n 0, 1) := by decide +kernel
theorem dX4_proves_28 : decode cX4_proves 28 = .ok (.getfield 19, 3) := by decide +kernel
theorem dX4_proves_31 : decode cX4_proves 31 = .ok (.getfield 120, 3) := by decide +kernel
theorem dX4_proves_34 : decode cX4_proves 34 = .ok (.iload_n 3, 1) := by decide +kernel
theorem dX4_proves_35 : decode cX4_proves 35 = .ok (.iaload, 1) := by decide +kernel
theorem dX4_proves_36 : decode cX4_proves 36 = .ok (.if_icmp .ne 7, 3) := by decide +kernel
theorem dX4_proves_39 : decode cX4_proves 39 = .ok (.iconst 1, 1) := by decide +kernel
theorem dX4_proves_40 : decode cX4_proves 40 = .ok (.goto 4, 3) := by decide +kernel
theorem dX4_proves_43 : decode cX4_proves 43 = .ok (.iconst 0, 1) := by decide +kernel
theorem dX4_proves_44 : decode cX4_proves 44 = .ok (.ireturn, 1) := by decide +kernel
theorem dX4_back_0 : decode cX4_back 0 = .ok (.aload_n 0, 1) := by decide +kernel
theorem dX4_back_1 : decode cX4_back 1 = .ok (.iload_n 1, 1) := by decide +kernel
theorem dX4_back_2 : decode cX4_back 2 = .ok (.invokevirtual 103, 3) := by decide +kernel
theorem dX4_back_5 : decode cX4_back 5 = .ok (.ifCond .ne 6, 3) := by decide +kernel
theorem dX4_back_8 : decode cX4_back 8 = .ok (.bipush (-101), 2) := by decide +kernel
theorem dX4_back_10 : decode cX4_back 10 = .ok (.ireturn, 1) := by decide +kernel
theorem dX4_back_11 : decode cX4_back 11 = .ok (.aload_n 0, 1) := by decide +kernel
theorem dX4_back_12 : decode cX4_back 12 = .ok (.getfield 143, 3) := by decide +kernel
theorem dX4_back_15 : decode cX4_back 15 = .ok (.ifCond .le 6, 3) := by decide +kernel
theorem dX4_back_18 : decode cX4_back 18 = .ok (.bipush (-103), 2) := by decide +kernel
theorem dX4_back_20 : decode cX4_back 20 = .ok (.ireturn, 1) := by decide +kernel
theorem dX4_back_21 : decode cX4_back 21 = .ok (.aload_n 0, 1) := by decide +kernel
theorem dX4_back_22 : decode cX4_back 22 = .ok (.getfield 19, 3) := by decide +kernel
theorem dX4_back_25 : decode cX4_back 25 = .ok (.iload_n 1, 1) := by decide +kernel
theorem dX4_back_26 : decode cX4_back 26 = .ok (.invokevirtual 110, 3) := by decide +kernel
theorem dX4_back_29 : decode cX4_back 29 = .ok (.ifCond .eq 6, 3) := by decide +kernel
theorem dX4_back_32 : decode cX4_back 32 = .ok (.bipush (-104), 2) := by decide +kernel
theorem dX4_back_34 : decode cX4_back 34 = .ok (.ireturn, 1) := by decide +kernel
theorem dX4_back_35 : decode cX4_back 35 = .ok (.aload_n 0, 1) := by decide +kernel
theorem dX4_back_36 : decode cX4_back 36 = .ok (.getfield 12, 3) := by decide +kernel
theorem dX4_back_39 : decode cX4_back 39 = .ok (.iload_n 1, 1) := by decide +kernel
theorem dX4_back_40 : decode cX4_back 40 = .ok (.invokevirtual 184, 3) := by decide +kernel
theorem dX4_back_43 : decode cX4_back 43 = .ok (.istore_n 2, 1) := by decide +kernel
theorem dX4_back_44 : decode cX4_back 44 = .ok (.aload_n 0, 1) := by decide +kernel
theorem dX4_back_45 : decode cX4_back 45 = .ok (.getfield 19, 3) := by decide +kernel
theorem dX4_back_48 : decode cX4_back 48 = .ok (.iload_n 1, 1) := by decide +kernel
theorem dX4_back_49 : decode cX4_back 49 = .ok (.invokevirtual 187, 3) := by decide +kernel
theorem dX4_back_52 : decode cX4_back 52 = .ok (.aload_n 0, 1) := by decide +kernel
theorem dX4_back_53 : decode cX4_back 53 = .ok (.getfield 12, 3) := by decide +kernel
theorem dX4_back_56 : decode cX4_back 56 = .ok (.iload_n 1, 1) := by decide +kernel
theorem dX4_back_57 : decode cX4_back 57 = .ok (.aload_n 0, 1) := by decide +kernel
theorem dX4_back_58 : decode cX4_back 58 = .ok (.getfield 41, 3) := by decide +kernel
theorem dX4_back_61 : decode cX4_back 61 = .ok (.invokevirtual 170, 3) := by decide +kernel
theorem dX4_back_64 : decode cX4_back 64 = .ok (.aload_n 0, 1) := by decide +kernel
theorem dX4_back_65 : decode cX4_back 65 = .ok (.getfield 26, 3) := by decide +kernel
theorem dX4_back_68 : decode cX4_back 68 = .ok (.aload_n 0, 1) := by decide +kernel
theorem dX4_back_69 : decode cX4_back 69 = .ok (.getfield 41, 3) := by decide +kernel
theorem dX4_back_72 : decode cX4_back 72 = .ok (.invokevirtual 96, 3) := by decide +kernel
theorem dX4_back_75 : decode cX4_back 75 = .ok (.iload_n 2, 1) := by decide +kernel
theorem dX4_back_76 : decode cX4_back 76 = .ok (.ireturn, 1) := by decide +kernel
theorem dX4_row_0 : decode cX4_row 0 = .ok (.iload_n 1, 1) := by decide +kernel
theorem dX4_row_1 : decode cX4_row 1 = .ok (.invokestatic 50, 3) := by decide +kernel
theorem dX4_row_4 : decode cX4_row 4 = .ok (.ifCond .ne 6, 3) := by decide +kernel
theorem dX4_row_7 : decode cX4_row 7 = .ok (.bipush (-101), 2) := by decide +kernel
theorem dX4_row_9 : decode cX4_row 9 = .ok (.ireturn, 1) := by decide +kernel
theorem dX4_row_10 : decode cX4_row 10 = .ok (.iload_n 3, 1) := by decide +kernel
theorem dX4_row_11 : decode cX4_row 11 = .ok (.ifCond .lt 8, 3) := by decide +kernel
theorem dX4_row_14 : decode cX4_row 14 = .ok (.iload_n 3, 1) := by decide +kernel
theorem dX4_row_15 : decode cX4_row 15 = .ok (.iconst 1, 1) := by decide +kernel
theorem dX4_row_16 : decode cX4_row 16 = .ok (.if_icmp .le 6, 3) := by decide +kernel
theorem dX4_row_19 : decode cX4_row 19 = .ok (.bipush (-102), 2) := by decide +kernel
theorem dX4_row_21 : decode cX4_row 21 = .ok (.ireturn, 1) := by decide +kernel
theorem dX4_row_22 : decode cX4_row 22 = .ok (.aload_n 0, 1) := by decide +kernel
theorem dX4_row_23 : decode cX4_row 23 = .ok (.getfield 12, 3) := by decide +kernel
theorem dX4_row_26 : decode cX4_row 26 = .ok (.iload_n 1, 1) := by decide +kernel
theorem dX4_row_27 : decode cX4_row 27 = .ok (.iload_n 2, 1) := by decide +kernel
theorem dX4_row_28 : decode cX4_row 28 = .ok (.invokevirtual 190, 3) := by decide +kernel
theorem dX4_row_31 : decode cX4_row 31 = .ok (.istore 4, 2) := by decide +kernel
theorem dX4_row_33 : decode cX4_row 33 = .ok (.iload 4, 2) := by decide +kernel
theorem dX4_row_35 : decode cX4_row 35 = .ok (.iconst (-1), 1) := by decide +kernel
theorem dX4_row_36 : decode cX4_row 36 = .ok (.if_icmp .ne 5, 3) := by decide +kernel
theorem dX4_row_39 : decode cX4_row 39 = .ok (.iconst (-1), 1) := by decide +kernel
theorem dX4_row_40 : decode cX4_row 40 = .ok (.ireturn, 1) := by decide +kernel
theorem dX4_row_41 : decode cX4_row 41 = .ok (.iload_n 3, 1) := by decide +kernel
theorem dX4_row_42 : decode cX4_row 42 = .ok (.ifCond .ne 16, 3) := by decide +kernel
theorem dX4_row_45 : decode cX4_row 45 = .ok (.aload_n 0, 1) := by decide +kernel
theorem dX4_row_46 : decode cX4_row 46 = .ok (.getfield 12, 3) := by decide +kernel
theorem dX4_row_49 : decode cX4_row 49 = .ok (.getfield 124, 3) := by decide +kernel
theorem dX4_row_52 : decode cX4_row 52 = .ok (.iload 4, 2) := by decide +kernel
theorem dX4_row_54 : decode cX4_row 54 = .ok (.iaload, 1) := by decide +kernel
theorem dX4_row_55 : decode cX4_row 55 = .ok (.goto 13, 3) := by decide +kernel
theorem dX4_row_58 : decode cX4_row 58 = .ok (.aload_n 0, 1) := by decide +kernel
theorem dX4_row_59 : decode cX4_row 59 = .ok (.getfield 12, 3) := by decide +kernel
theorem dX4_row_62 : decode cX4_row 62 = .ok (.getfield 123, 3) := by decide +kernel
theorem dX4_row_65 : decode cX4_row 65 = .ok (.iload 4, 2) := by decide +kernel
theorem dX4_row_67 : decode cX4_row 67 = .ok (.iaload, 1) := by decide +kernel
theorem dX4_row_68 : decode cX4_row 68 = .ok (.ireturn, 1) := by decide +kernel
theorem dX4_count_0 : decode cX4_count 0 = .ok (.iload_n 1, 1) := by decide +kernel
theorem dX4_count_1 : decode cX4_count 1 = .ok (.tableswitch 105 0 5 #[39, 47, 55, 64, 81, 86], 39) := by decide +kernel
theorem dX4_count_40 : decode cX4_count 40 = .ok (.aload_n 0, 1) := by decide +kernel
theorem dX4_count_41 : decode cX4_count 41 = .ok (.getfield 19, 3) := by decide +kernel
theorem dX4_count_44 : decode cX4_count 44 = .ok (.getfield 65, 3) := by decide +kernel
theorem dX4_count_47 : decode cX4_count 47 = .ok (.ireturn, 1) := by decide +kernel
theorem dX4_count_48 : decode cX4_count 48 = .ok (.aload_n 0, 1) := by decide +kernel
theorem dX4_count_49 : decode cX4_count 49 = .ok (.getfield 26, 3) := by decide +kernel
theorem dX4_count_52 : decode cX4_count 52 = .ok (.getfield 58, 3) := by decide +kernel
theorem dX4_count_55 : decode cX4_count 55 = .ok (.ireturn, 1) := by decide +kernel
theorem dX4_count_56 : decode cX4_count 56 = .ok (.aload_n 0, 1) := by decide +kernel
theorem dX4_count_57 : decode cX4_count 57 = .ok (.getfield 12, 3) := by decide +kernel
theorem dX4_count_60 : decode cX4_count 60 = .ok (.iconst (-1), 1) := by decide +kernel
theorem dX4_count_61 : decode cX4_count 61 = .ok (.invokevirtual 163, 3) := by decide +kernel
theorem dX4_count_64 : decode cX4_count 64 = .ok (.ireturn, 1) := by decide +kernel
theorem dX4_count_65 : decode cX4_count 65 = .ok (.aload_n 0, 1) := by decide +kernel
theorem dX4_count_66 : decode cX4_count 66 = .ok (.getfield 12, 3) := by decide +kernel
theorem dX4_count_69 : decode cX4_count 69 = .ok (.getfield 68, 3) := by decide +kernel
theorem dX4_count_72 : decode cX4_count 72 = .ok (.aload_n 0, 1) := by decide +kernel
theorem dX4_count_73 : decode cX4_count 73 = .ok (.getfield 12, 3) := by decide +kernel
theorem dX4_count_76 : decode cX4_count 76 = .ok (.iconst (-1), 1) := by decide +kernel
theorem dX4_count_77 : decode cX4_count 77 = .ok (.invokevirtual 163, 3) := by decide +kernel
theorem dX4_count_80 : decode cX4_count 80 = .ok (.isub, 1) := by decide +kernel
theorem dX4_count_81 : decode cX4_count 81 = .ok (.ireturn, 1) := by decide +kernel
theorem dX4_count_82 : decode cX4_count 82 = .ok (.aload_n 0, 1) := by decide +kernel
theorem dX4_count_83 : decode cX4_count 83 = .ok (.getfield 143, 3) := by decide +kernel
theorem dX4_count_86 : decode cX4_count 86 = .ok (.ireturn, 1) := by decide +kernel
theorem dX4_count_87 : decode cX4_count 87 = .ok (.aload_n 0, 1) := by decide +kernel
theorem dX4_count_88 : decode cX4_count 88 = .ok (.getfield 19, 3) := by decide +kernel
theorem dX4_count_91 : decode cX4_count 91 = .ok (.getfield 65, 3) := by decide +kernel
theorem dX4_count_94 : decode cX4_count 94 = .ok (.iconst 1, 1) := by decide +kernel
theorem dX4_count_95 : decode cX4_count 95 = .ok (.iadd, 1) := by decide +kernel
theorem dX4_count_96 : decode cX4_count 96 = .ok (.aload_n 0, 1) := by decide +kernel
theorem dX4_count_97 : decode cX4_count 97 = .ok (.getfield 19, 3) := by decide +kernel
theorem dX4_count_100 : decode cX4_count 100 = .ok (.iconst (-1), 1) := by decide +kernel
theorem dX4_count_101 : decode cX4_count 101 = .ok (.invokevirtual 166, 3) := by decide +kernel
theorem dX4_count_104 : decode cX4_count 104 = .ok (.isub, 1) := by decide +kernel
theorem dX4_count_105 : decode cX4_count 105 = .ok (.ireturn, 1) := by decide +kernel
theorem dX4_count_106 : decode cX4_count 106 = .ok (.bipush (-102), 2) := by decide +kernel
theorem dX4_count_108 : decode cX4_count 108 = .ok (.ireturn, 1) := by decide +kernel
theorem dX4_clear_0 : decode cX4_clear 0 = .ok (.aload_n 0, 1) := by decide +kernel
theorem dX4_clear_1 : decode cX4_clear 1 = .ok (.getfield 19, 3) := by decide +kernel
theorem dX4_clear_4 : decode cX4_clear 4 = .ok (.getfield 65, 3) := by decide +kernel
theorem dX4_clear_7 : decode cX4_clear 7 = .ok (.istore_n 1, 1) := by decide +kernel
theorem dX4_clear_8 : decode cX4_clear 8 = .ok (.aload_n 0, 1) := by decide +kernel
theorem dX4_clear_9 : decode cX4_clear 9 = .ok (.invokevirtual 47, 3) := by decide +kernel
theorem dX4_clear_12 : decode cX4_clear 12 = .ok (.iload_n 1, 1) := by decide +kernel
theorem dX4_clear_13 : decode cX4_clear 13 = .ok (.ireturn, 1) := by decide +kernel
theorem dX4_begin_0 : decode cX4_begin 0 = .ok (.aload_n 0, 1) := by decide +kernel
theorem dX4_begin_1 : decode cX4_begin 1 = .ok (.iconst 0, 1) := by decide +kernel
theorem dX4_begin_2 : decode cX4_begin 2 = .ok (.putfield 137, 3) := by decide +kernel
theorem dX4_begin_5 : decode cX4_begin 5 = .ok (.aload_n 0, 1) := by decide +kernel
theorem dX4_begin_6 : decode cX4_begin 6 = .ok (.iconst 0, 1) := by decide +kernel
theorem dX4_begin_7 : decode cX4_begin 7 = .ok (.putfield 143, 3) := by decide +kernel
theorem dX4_begin_10 : decode cX4_begin 10 = .ok (.aload_n 0, 1) := by decide +kernel
theorem dX4_begin_11 : decode cX4_begin 11 = .ok (.getfield 12, 3) := by decide +kernel
theorem dX4_begin_14 : decode cX4_begin 14 = .ok (.iconst 0, 1) := by decide +kernel
theorem dX4_begin_15 : decode cX4_begin 15 = .ok (.putfield 68, 3) := by decide +kernel
theorem dX4_begin_18 : decode cX4_begin 18 = .ok (.aload_n 0, 1) := by decide +kernel
theorem dX4_begin_19 : decode cX4_begin 19 = .ok (.getfield 37, 3) := by decide +kernel
theorem dX4_begin_22 : decode cX4_begin 22 = .ok (.iconst 0, 1) := by decide +kernel
theorem dX4_begin_23 : decode cX4_begin 23 = .ok (.invokestatic 193, 3) := by decide +kernel
theorem dX4_begin_26 : decode cX4_begin 26 = .ok (.aload_n 0, 1) := by decide +kernel
theorem dX4_begin_27 : decode cX4_begin 27 = .ok (.getfield 41, 3) := by decide +kernel
theorem dX4_begin_30 : decode cX4_begin 30 = .ok (.iconst 0, 1) := by decide +kernel
theorem dX4_begin_31 : decode cX4_begin 31 = .ok (.invokestatic 193, 3) := by decide +kernel
theorem dX4_begin_34 : decode cX4_begin 34 = .ok (.aload_n 0, 1) := by decide +kernel
theorem dX4_begin_35 : decode cX4_begin 35 = .ok (.getfield 26, 3) := by decide +kernel
theorem dX4_begin_38 : decode cX4_begin 38 = .ok (.aload_n 0, 1) := by decide +kernel
theorem dX4_begin_39 : decode cX4_begin 39 = .ok (.getfield 41, 3) := by decide +kernel
theorem dX4_begin_42 : decode cX4_begin 42 = .ok (.invokevirtual 96, 3) := by decide +kernel
theorem dX4_begin_45 : decode cX4_begin 45 = .ok (.aload_n 0, 1) := by decide +kernel
theorem dX4_begin_46 : decode cX4_begin 46 = .ok (.getfield 19, 3) := by decide +kernel
theorem dX4_begin_49 : decode cX4_begin 49 = .ok (.iconst (-1), 1) := by decide +kernel
theorem dX4_begin_50 : decode cX4_begin 50 = .ok (.putfield 65, 3) := by decide +kernel
theorem dX4_begin_53 : decode cX4_begin 53 = .ok (.aload_n 0, 1) := by decide +kernel
theorem dX4_begin_54 : decode cX4_begin 54 = .ok (.getfield 19, 3) := by decide +kernel
theorem dX4_begin_57 : decode cX4_begin 57 = .ok (.aload_n 0, 1) := by decide +kernel
theorem dX4_begin_58 : decode cX4_begin 58 = .ok (.getfield 33, 3) := by decide +kernel
theorem dX4_begin_61 : decode cX4_begin 61 = .ok (.aload_n 0, 1) := by decide +kernel
theorem dX4_begin_62 : decode cX4_begin 62 = .ok (.getfield 41, 3) := by decide +kernel
theorem dX4_begin_65 : decode cX4_begin 65 = .ok (.invokevirtual 88, 3) := by decide +kernel
theorem dX4_begin_68 : decode cX4_begin 68 = .ok (.invokevirtual 92, 3) := by decide +kernel
theorem dX4_begin_71 : decode cX4_begin 71 = .ok (.return_, 1) := by decide +kernel
theorem dX4_isLeaf_0 : decode cX4_isLeaf 0 = .ok (.iload_n 0, 1) := by decide +kernel
theorem dX4_isLeaf_1 : decode cX4_isLeaf 1 = .ok (.ifCond .lt 13, 3) := by decide +kernel
theorem dX4_isLeaf_4 : decode cX4_isLeaf 4 = .ok (.iload_n 0, 1) := by decide +kernel
theorem dX4_isLeaf_5 : decode cX4_isLeaf 5 = .ok (.bipush 32, 2) := by decide +kernel
theorem dX4_isLeaf_7 : decode cX4_isLeaf 7 = .ok (.if_icmp .ge 7, 3) := by decide +kernel
theorem dX4_isLeaf_10 : decode cX4_isLeaf 10 = .ok (.iconst 1, 1) := by decide +kernel
theorem dX4_isLeaf_11 : decode cX4_isLeaf 11 = .ok (.goto 4, 3) := by decide +kernel
theorem dX4_isLeaf_14 : decode cX4_isLeaf 14 = .ok (.iconst 0, 1) := by decide +kernel
theorem dX4_isLeaf_15 : decode cX4_isLeaf 15 = .ok (.ireturn, 1) := by decide +kernel
theorem dX4_isHeight_0 : decode cX4_isHeight 0 = .ok (.iload_n 1, 1) := by decide +kernel
theorem dX4_isHeight_1 : decode cX4_isHeight 1 = .ok (.ifCond .lt 18, 3) := by decide +kernel
theorem dX4_isHeight_4 : decode cX4_isHeight 4 = .ok (.iload_n 1, 1) := by decide +kernel
theorem dX4_isHeight_5 : decode cX4_isHeight 5 = .ok (.aload_n 0, 1) := by decide +kernel
theorem dX4_isHeight_6 : decode cX4_isHeight 6 = .ok (.getfield 19, 3) := by decide +kernel
theorem dX4_isHeight_9 : decode cX4_isHeight 9 = .ok (.getfield 65, 3) := by decide +kernel
theorem dX4_isHeight_12 : decode cX4_isHeight 12 = .ok (.if_icmp .gt 7, 3) := by decide +kernel
theorem dX4_isHeight_15 : decode cX4_isHeight 15 = .ok (.iconst 1, 1) := by decide +kernel
theorem dX4_isHeight_16 : decode cX4_isHeight 16 = .ok (.goto 4, 3) := by decide +kernel
theorem dX4_isHeight_19 : decode cX4_isHeight 19 = .ok (.iconst 0, 1) := by decide +kernel
theorem dX4_isHeight_20 : decode cX4_isHeight 20 = .ok (.ireturn, 1) := by decide +kernel
theorem dX4_wide_0 : decode cX4_wide 0 = .ok (.iload_n 0, 1) := by decide +kernel
theorem dX4_wide_1 : decode cX4_wide 1 = .ok (.i2l, 1) := by decide +kernel
theorem dX4_wide_2 : decode cX4_wide 2 = .ok (.ldc2_w 199, 3) := by decide +kernel
theorem dX4_wide_5 : decode cX4_wide 5 = .ok (.lsub, 1) := by decide +kernel
theorem dX4_wide_6 : decode cX4_wide 6 = .ok (.lreturn, 1) := by decide +kernel
theorem dX4_refusalOfTwo_0 : decode cX4_refusalOfTwo 0 = .ok (.aload_n 0, 1) := by decide +kernel
theorem dX4_refusalOfTwo_1 : decode cX4_refusalOfTwo 1 = .ok (.iload_n 1, 1) := by decide +kernel
theorem dX4_refusalOfTwo_2 : decode cX4_refusalOfTwo 2 = .ok (.invokevirtual 103, 3) := by decide +kernel
theorem dX4_refusalOfTwo_5 : decode cX4_refusalOfTwo 5 = .ok (.ifCond .eq 11, 3) := by decide +kernel
theorem dX4_refusalOfTwo_8 : decode cX4_refusalOfTwo 8 = .ok (.aload_n 0, 1) := by decide +kernel
theorem dX4_refusalOfTwo_9 : decode cX4_refusalOfTwo 9 = .ok (.iload_n 2, 1) := by decide +kernel
theorem dX4_refusalOfTwo_10 : decode cX4_refusalOfTwo 10 = .ok (.invokevirtual 103, 3) := by decide +kernel
theorem dX4_refusalOfTwo_13 : decode cX4_refusalOfTwo 13 = .ok (.ifCond .ne 6, 3) := by decide +kernel
theorem dX4_refusalOfTwo_16 : decode cX4_refusalOfTwo 16 = .ok (.bipush (-101), 2) := by decide +kernel
theorem dX4_refusalOfTwo_18 : decode cX4_refusalOfTwo 18 = .ok (.ireturn, 1) := by decide +kernel
theorem dX4_refusalOfTwo_19 : decode cX4_refusalOfTwo 19 = .ok (.aload_n 0, 1) := by decide +kernel
theorem dX4_refusalOfTwo_20 : decode cX4_refusalOfTwo 20 = .ok (.getfield 19, 3) := by decide +kernel
theorem dX4_refusalOfTwo_23 : decode cX4_refusalOfTwo 23 = .ok (.iload_n 1, 1) := by decide +kernel
theorem dX4_refusalOfTwo_24 : decode cX4_refusalOfTwo 24 = .ok (.invokevirtual 110, 3) := by decide +kernel
theorem dX4_refusalOfTwo_27 : decode cX4_refusalOfTwo 27 = .ok (.ifCond .ne 14, 3) := by decide +kernel
theorem dX4_refusalOfTwo_30 : decode cX4_refusalOfTwo 30 = .ok (.aload_n 0, 1) := by decide +kernel
theorem dX4_refusalOfTwo_31 : decode cX4_refusalOfTwo 31 = .ok (.getfield 19, 3) := by decide +kernel
theorem dX4_refusalOfTwo_34 : decode cX4_refusalOfTwo 34 = .ok (.iload_n 2, 1) := by decide +kernel
theorem dX4_refusalOfTwo_35 : decode cX4_refusalOfTwo 35 = .ok (.invokevirtual 110, 3) := by decide +kernel
theorem dX4_refusalOfTwo_38 : decode cX4_refusalOfTwo 38 = .ok (.ifCond .eq 6, 3) := by decide +kernel
theorem dX4_refusalOfTwo_41 : decode cX4_refusalOfTwo 41 = .ok (.bipush (-104), 2) := by decide +kernel
theorem dX4_refusalOfTwo_43 : decode cX4_refusalOfTwo 43 = .ok (.ireturn, 1) := by decide +kernel
theorem dX4_refusalOfTwo_44 : decode cX4_refusalOfTwo 44 = .ok (.iconst 0, 1) := by decide +kernel
theorem dX4_refusalOfTwo_45 : decode cX4_refusalOfTwo 45 = .ok (.ireturn, 1) := by decide +kernel
theorem dX4_refusalOfReplay_0 : decode cX4_refusalOfReplay 0 = .ok (.aload_n 0, 1) := by decide +kernel
theorem dX4_refusalOfReplay_1 : decode cX4_refusalOfReplay 1 = .ok (.iload_n 1, 1) := by decide +kernel
theorem dX4_refusalOfReplay_2 : decode cX4_refusalOfReplay 2 = .ok (.invokevirtual 103, 3) := by decide +kernel
theorem dX4_refusalOfReplay_5 : decode cX4_refusalOfReplay 5 = .ok (.ifCond .eq 19, 3) := by decide +kernel
theorem dX4_refusalOfReplay_8 : decode cX4_refusalOfReplay 8 = .ok (.aload_n 0, 1) := by decide +kernel
theorem dX4_refusalOfReplay_9 : decode cX4_refusalOfReplay 9 = .ok (.iload_n 2, 1) := by decide +kernel
theorem dX4_refusalOfReplay_10 : decode cX4_refusalOfReplay 10 = .ok (.invokevirtual 103, 3) := by decide +kernel
theorem dX4_refusalOfReplay_13 : decode cX4_refusalOfReplay 13 = .ok (.ifCond .eq 11, 3) := by decide +kernel
theorem dX4_refusalOfReplay_16 : decode cX4_refusalOfReplay 16 = .ok (.iload_n 2, 1) := by decide +kernel
theorem dX4_refusalOfReplay_17 : decode cX4_refusalOfReplay 17 = .ok (.iload_n 1, 1) := by decide +kernel
theorem dX4_refusalOfReplay_18 : decode cX4_refusalOfReplay 18 = .ok (.if_icmp .ge 6, 3) := by decide +kernel
theorem dX4_refusalOfReplay_21 : decode cX4_refusalOfReplay 21 = .ok (.bipush (-102), 2) := by decide +kernel
theorem dX4_refusalOfReplay_23 : decode cX4_refusalOfReplay 23 = .ok (.ireturn, 1) := by decide +kernel
theorem dX4_refusalOfReplay_24 : decode cX4_refusalOfReplay 24 = .ok (.aload_n 0, 1) := by decide +kernel
theorem dX4_refusalOfReplay_25 : decode cX4_refusalOfReplay 25 = .ok (.iload_n 1, 1) := by decide +kernel
theorem dX4_refusalOfReplay_26 : decode cX4_refusalOfReplay 26 = .ok (.iload_n 2, 1) := by decide +kernel
theorem dX4_refusalOfReplay_27 : decode cX4_refusalOfReplay 27 = .ok (.invokevirtual 130, 3) := by decide +kernel
theorem dX4_refusalOfReplay_30 : decode cX4_refusalOfReplay 30 = .ok (.ireturn, 1) := by decide +kernel
theorem dX4_loadTwo_0 : decode cX4_loadTwo 0 = .ok (.aload_n 0, 1) := by decide +kernel
theorem dX4_loadTwo_1 : decode cX4_loadTwo 1 = .ok (.getfield 12, 3) := by decide +kernel
theorem dX4_loadTwo_4 : decode cX4_loadTwo 4 = .ok (.iload_n 1, 1) := by decide +kernel
theorem dX4_loadTwo_5 : decode cX4_loadTwo 5 = .ok (.aload_n 0, 1) := by decide +kernel
theorem dX4_loadTwo_6 : decode cX4_loadTwo 6 = .ok (.getfield 41, 3) := by decide +kernel
theorem dX4_loadTwo_9 : decode cX4_loadTwo 9 = .ok (.invokevirtual 170, 3) := by decide +kernel
theorem dX4_loadTwo_12 : decode cX4_loadTwo 12 = .ok (.aload_n 0, 1) := by decide +kernel
theorem dX4_loadTwo_13 : decode cX4_loadTwo 13 = .ok (.getfield 12, 3) := by decide +kernel
theorem dX4_loadTwo_16 : decode cX4_loadTwo 16 = .ok (.iload_n 2, 1) := by decide +kernel
theorem dX4_loadTwo_17 : decode cX4_loadTwo 17 = .ok (.aload_n 0, 1) := by decide +kernel
theorem dX4_loadTwo_18 : decode cX4_loadTwo 18 = .ok (.getfield 44, 3) := by decide +kernel
theorem dX4_loadTwo_21 : decode cX4_loadTwo 21 = .ok (.invokevirtual 170, 3) := by decide +kernel
theorem dX4_loadTwo_24 : decode cX4_loadTwo 24 = .ok (.return_, 1) := by decide +kernel
theorem dJ7_fill_53178_0 : decode cJ7_fill_53178 0 = .ok (.iconst 0, 1) := by decide +kernel
theorem dJ7_fill_53178_1 : decode cJ7_fill_53178 1 = .ok (.istore_n 2, 1) := by decide +kernel
theorem dJ7_fill_53178_2 : decode cJ7_fill_53178 2 = .ok (.aload_n 0, 1) := by decide +kernel
theorem dJ7_fill_53178_3 : decode cJ7_fill_53178 3 = .ok (.arraylength, 1) := by decide +kernel
theorem dJ7_fill_53178_4 : decode cJ7_fill_53178 4 = .ok (.istore_n 3, 1) := by decide +kernel
theorem dJ7_fill_53178_5 : decode cJ7_fill_53178 5 = .ok (.iload_n 2, 1) := by decide +kernel
theorem dJ7_fill_53178_6 : decode cJ7_fill_53178 6 = .ok (.iload_n 3, 1) := by decide +kernel
theorem dJ7_fill_53178_7 : decode cJ7_fill_53178 7 = .ok (.if_icmp .ge 13, 3) := by decide +kernel
theorem dJ7_fill_53178_10 : decode cJ7_fill_53178 10 = .ok (.aload_n 0, 1) := by decide +kernel
theorem dJ7_fill_53178_11 : decode cJ7_fill_53178 11 = .ok (.iload_n 2, 1) := by decide +kernel
theorem dJ7_fill_53178_12 : decode cJ7_fill_53178 12 = .ok (.iload_n 1, 1) := by decide +kernel
theorem dJ7_fill_53178_13 : decode cJ7_fill_53178 13 = .ok (.iastore, 1) := by decide +kernel
theorem dJ7_fill_53178_14 : decode cJ7_fill_53178 14 = .ok (.iinc 2 1, 3) := by decide +kernel
theorem dJ7_fill_53178_17 : decode cJ7_fill_53178 17 = .ok (.goto (-12), 3) := by decide +kernel
theorem dJ7_fill_53178_20 : decode cJ7_fill_53178 20 = .ok (.return_, 1) := by decide +kernel

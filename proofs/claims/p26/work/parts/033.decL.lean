theorem dL_cell_0 : decode cL_cell 0 = .ok (.iload_n 1, 1) := by decide +kernel
theorem dL_cell_1 : decode cL_cell 1 = .ok (.aload_n 0, 1) := by decide +kernel
theorem dL_cell_2 : decode cL_cell 2 = .ok (.arraylength, 1) := by decide +kernel
theorem dL_cell_3 : decode cL_cell 3 = .ok (.if_icmp .ge 9, 3) := by decide +kernel
theorem dL_cell_6 : decode cL_cell 6 = .ok (.aload_n 0, 1) := by decide +kernel
theorem dL_cell_7 : decode cL_cell 7 = .ok (.iload_n 1, 1) := by decide +kernel
theorem dL_cell_8 : decode cL_cell 8 = .ok (.iaload, 1) := by decide +kernel
theorem dL_cell_9 : decode cL_cell 9 = .ok (.goto 10, 3) := by decide +kernel
theorem dL_cell_12 : decode cL_cell 12 = .ok (.ldc 7, 2) := by decide +kernel
theorem dL_cell_14 : decode cL_cell 14 = .ok (.iload_n 1, 1) := by decide +kernel
theorem dL_cell_15 : decode cL_cell 15 = .ok (.bipush 11, 2) := by decide +kernel
theorem dL_cell_17 : decode cL_cell 17 = .ok (.iadd, 1) := by decide +kernel
theorem dL_cell_18 : decode cL_cell 18 = .ok (.imul, 1) := by decide +kernel
theorem dL_cell_19 : decode cL_cell 19 = .ok (.ireturn, 1) := by decide +kernel
theorem dL_low_0 : decode cL_low 0 = .ok (.iload_n 0, 1) := by decide +kernel
theorem dL_low_1 : decode cL_low 1 = .ok (.iconst 1, 1) := by decide +kernel
theorem dL_low_2 : decode cL_low 2 = .ok (.iushr, 1) := by decide +kernel
theorem dL_low_3 : decode cL_low 3 = .ok (.iload_n 1, 1) := by decide +kernel
theorem dL_low_4 : decode cL_low 4 = .ok (.irem, 1) := by decide +kernel
theorem dL_low_5 : decode cL_low 5 = .ok (.ireturn, 1) := by decide +kernel
theorem dL_pass_0 : decode cL_pass 0 = .ok (.aload_n 0, 1) := by decide +kernel
theorem dL_pass_1 : decode cL_pass 1 = .ok (.iload_n 1, 1) := by decide +kernel
theorem dL_pass_2 : decode cL_pass 2 = .ok (.invokevirtual 8, 3) := by decide +kernel
theorem dL_pass_5 : decode cL_pass 5 = .ok (.istore_n 2, 1) := by decide +kernel
theorem dL_pass_6 : decode cL_pass 6 = .ok (.goto 13, 3) := by decide +kernel
theorem dL_pass_9 : decode cL_pass 9 = .ok (.astore_n 3, 1) := by decide +kernel
theorem dL_pass_10 : decode cL_pass 10 = .ok (.sipush (-7200), 3) := by decide +kernel
theorem dL_pass_13 : decode cL_pass 13 = .ok (.ireturn, 1) := by decide +kernel
theorem dL_pass_14 : decode cL_pass 14 = .ok (.astore_n 3, 1) := by decide +kernel
theorem dL_pass_15 : decode cL_pass 15 = .ok (.sipush (-7300), 3) := by decide +kernel
theorem dL_pass_18 : decode cL_pass 18 = .ok (.ireturn, 1) := by decide +kernel
theorem dL_pass_19 : decode cL_pass 19 = .ok (.iload_n 2, 1) := by decide +kernel
theorem dL_pass_20 : decode cL_pass 20 = .ok (.ireturn, 1) := by decide +kernel
theorem dL_ship_0 : decode cL_ship 0 = .ok (.aload_n 0, 1) := by decide +kernel
theorem dL_ship_1 : decode cL_ship 1 = .ok (.iload_n 1, 1) := by decide +kernel
theorem dL_ship_2 : decode cL_ship 2 = .ok (.iload_n 2, 1) := by decide +kernel
theorem dL_ship_3 : decode cL_ship 3 = .ok (.iload_n 3, 1) := by decide +kernel
theorem dL_ship_4 : decode cL_ship 4 = .ok (.iload 4, 2) := by decide +kernel
theorem dL_ship_6 : decode cL_ship 6 = .ok (.iload 5, 2) := by decide +kernel
theorem dL_ship_8 : decode cL_ship 8 = .ok (.invokevirtual 18, 3) := by decide +kernel
theorem dL_ship_11 : decode cL_ship 11 = .ok (.istore 6, 2) := by decide +kernel
theorem dL_ship_13 : decode cL_ship 13 = .ok (.goto 21, 3) := by decide +kernel
theorem dL_ship_16 : decode cL_ship 16 = .ok (.astore 7, 2) := by decide +kernel
theorem dL_ship_18 : decode cL_ship 18 = .ok (.sipush (-7100), 3) := by decide +kernel
theorem dL_ship_21 : decode cL_ship 21 = .ok (.ireturn, 1) := by decide +kernel
theorem dL_ship_22 : decode cL_ship 22 = .ok (.astore 7, 2) := by decide +kernel
theorem dL_ship_24 : decode cL_ship 24 = .ok (.sipush (-7200), 3) := by decide +kernel
theorem dL_ship_27 : decode cL_ship 27 = .ok (.ireturn, 1) := by decide +kernel
theorem dL_ship_28 : decode cL_ship 28 = .ok (.astore 7, 2) := by decide +kernel
theorem dL_ship_30 : decode cL_ship 30 = .ok (.sipush (-7300), 3) := by decide +kernel
theorem dL_ship_33 : decode cL_ship 33 = .ok (.ireturn, 1) := by decide +kernel
theorem dL_ship_34 : decode cL_ship 34 = .ok (.iload 6, 2) := by decide +kernel
theorem dL_ship_36 : decode cL_ship 36 = .ok (.ireturn, 1) := by decide +kernel
theorem dL_changes_0 : decode cL_changes 0 = .ok (.aload_n 0, 1) := by decide +kernel
theorem dL_changes_1 : decode cL_changes 1 = .ok (.iload_n 1, 1) := by decide +kernel
theorem dL_changes_2 : decode cL_changes 2 = .ok (.iload_n 2, 1) := by decide +kernel
theorem dL_changes_3 : decode cL_changes 3 = .ok (.iload_n 3, 1) := by decide +kernel
theorem dL_changes_4 : decode cL_changes 4 = .ok (.invokevirtual 24, 3) := by decide +kernel
theorem dL_changes_7 : decode cL_changes 7 = .ok (.istore 4, 2) := by decide +kernel
theorem dL_changes_9 : decode cL_changes 9 = .ok (.goto 9, 3) := by decide +kernel
theorem dL_changes_12 : decode cL_changes 12 = .ok (.astore 5, 2) := by decide +kernel
theorem dL_changes_14 : decode cL_changes 14 = .ok (.sipush (-7100), 3) := by decide +kernel
theorem dL_changes_17 : decode cL_changes 17 = .ok (.ireturn, 1) := by decide +kernel
theorem dL_changes_18 : decode cL_changes 18 = .ok (.iload 4, 2) := by decide +kernel
theorem dL_changes_20 : decode cL_changes 20 = .ok (.ireturn, 1) := by decide +kernel
theorem dL_suspend_0 : decode cL_suspend 0 = .ok (.aload_n 0, 1) := by decide +kernel
theorem dL_suspend_1 : decode cL_suspend 1 = .ok (.iload_n 1, 1) := by decide +kernel
theorem dL_suspend_2 : decode cL_suspend 2 = .ok (.iload_n 2, 1) := by decide +kernel
theorem dL_suspend_3 : decode cL_suspend 3 = .ok (.invokevirtual 28, 3) := by decide +kernel
theorem dL_suspend_6 : decode cL_suspend 6 = .ok (.istore_n 3, 1) := by decide +kernel
theorem dL_suspend_7 : decode cL_suspend 7 = .ok (.goto 9, 3) := by decide +kernel
theorem dL_suspend_10 : decode cL_suspend 10 = .ok (.astore 4, 2) := by decide +kernel
theorem dL_suspend_12 : decode cL_suspend 12 = .ok (.sipush (-7100), 3) := by decide +kernel
theorem dL_suspend_15 : decode cL_suspend 15 = .ok (.ireturn, 1) := by decide +kernel
theorem dL_suspend_16 : decode cL_suspend 16 = .ok (.iload_n 3, 1) := by decide +kernel
theorem dL_suspend_17 : decode cL_suspend 17 = .ok (.ifCond .eq 7, 3) := by decide +kernel
theorem dL_suspend_20 : decode cL_suspend 20 = .ok (.iconst 1, 1) := by decide +kernel
theorem dL_suspend_21 : decode cL_suspend 21 = .ok (.goto 4, 3) := by decide +kernel
theorem dL_suspend_24 : decode cL_suspend 24 = .ok (.iconst 0, 1) := by decide +kernel
theorem dL_suspend_25 : decode cL_suspend 25 = .ok (.ireturn, 1) := by decide +kernel
theorem dL_rule_0 : decode cL_rule 0 = .ok (.aload_n 0, 1) := by decide +kernel
theorem dL_rule_1 : decode cL_rule 1 = .ok (.iload_n 1, 1) := by decide +kernel
theorem dL_rule_2 : decode cL_rule 2 = .ok (.iload_n 2, 1) := by decide +kernel
theorem dL_rule_3 : decode cL_rule 3 = .ok (.iload_n 3, 1) := by decide +kernel
theorem dL_rule_4 : decode cL_rule 4 = .ok (.iload 4, 2) := by decide +kernel
theorem dL_rule_6 : decode cL_rule 6 = .ok (.iload 5, 2) := by decide +kernel
theorem dL_rule_8 : decode cL_rule 8 = .ok (.invokevirtual 32, 3) := by decide +kernel
theorem dL_rule_11 : decode cL_rule 11 = .ok (.istore 6, 2) := by decide +kernel
theorem dL_rule_13 : decode cL_rule 13 = .ok (.goto 15, 3) := by decide +kernel
theorem dL_rule_16 : decode cL_rule 16 = .ok (.astore 7, 2) := by decide +kernel
theorem dL_rule_18 : decode cL_rule 18 = .ok (.sipush (-7200), 3) := by decide +kernel
theorem dL_rule_21 : decode cL_rule 21 = .ok (.ireturn, 1) := by decide +kernel
theorem dL_rule_22 : decode cL_rule 22 = .ok (.astore 7, 2) := by decide +kernel
theorem dL_rule_24 : decode cL_rule 24 = .ok (.sipush (-7300), 3) := by decide +kernel
theorem dL_rule_27 : decode cL_rule 27 = .ok (.ireturn, 1) := by decide +kernel
theorem dL_rule_28 : decode cL_rule 28 = .ok (.iload 6, 2) := by decide +kernel
theorem dL_rule_30 : decode cL_rule 30 = .ok (.ireturn, 1) := by decide +kernel
theorem dL_issue_0 : decode cL_issue 0 = .ok (.aload_n 0, 1) := by decide +kernel
theorem dL_issue_1 : decode cL_issue 1 = .ok (.iload_n 1, 1) := by decide +kernel
theorem dL_issue_2 : decode cL_issue 2 = .ok (.iload_n 2, 1) := by decide +kernel
theorem dL_issue_3 : decode cL_issue 3 = .ok (.iload_n 3, 1) := by decide +kernel
theorem dL_issue_4 : decode cL_issue 4 = .ok (.invokevirtual 35, 3) := by decide +kernel
theorem dL_issue_7 : decode cL_issue 7 = .ok (.istore 4, 2) := by decide +kernel
theorem dL_issue_9 : decode cL_issue 9 = .ok (.goto 21, 3) := by decide +kernel
theorem dL_issue_12 : decode cL_issue 12 = .ok (.astore 5, 2) := by decide +kernel
theorem dL_issue_14 : decode cL_issue 14 = .ok (.sipush (-7100), 3) := by decide +kernel
theorem dL_issue_17 : decode cL_issue 17 = .ok (.ireturn, 1) := by decide +kernel
theorem dL_issue_18 : decode cL_issue 18 = .ok (.astore 5, 2) := by decide +kernel
theorem dL_issue_20 : decode cL_issue 20 = .ok (.sipush (-7200), 3) := by decide +kernel
theorem dL_issue_23 : decode cL_issue 23 = .ok (.ireturn, 1) := by decide +kernel
theorem dL_issue_24 : decode cL_issue 24 = .ok (.astore 5, 2) := by decide +kernel
theorem dL_issue_26 : decode cL_issue 26 = .ok (.sipush (-7300), 3) := by decide +kernel
theorem dL_issue_29 : decode cL_issue 29 = .ok (.ireturn, 1) := by decide +kernel
theorem dL_issue_30 : decode cL_issue 30 = .ok (.iload 4, 2) := by decide +kernel
theorem dL_issue_32 : decode cL_issue 32 = .ok (.ireturn, 1) := by decide +kernel
theorem dL_endorse_0 : decode cL_endorse 0 = .ok (.aload_n 0, 1) := by decide +kernel
theorem dL_endorse_1 : decode cL_endorse 1 = .ok (.iload_n 1, 1) := by decide +kernel
theorem dL_endorse_2 : decode cL_endorse 2 = .ok (.iload_n 2, 1) := by decide +kernel
theorem dL_endorse_3 : decode cL_endorse 3 = .ok (.invokevirtual 38, 3) := by decide +kernel
theorem dL_endorse_6 : decode cL_endorse 6 = .ok (.istore_n 3, 1) := by decide +kernel
theorem dL_endorse_7 : decode cL_endorse 7 = .ok (.goto 21, 3) := by decide +kernel
theorem dL_endorse_10 : decode cL_endorse 10 = .ok (.astore 4, 2) := by decide +kernel
theorem dL_endorse_12 : decode cL_endorse 12 = .ok (.sipush (-7100), 3) := by decide +kernel
theorem dL_endorse_15 : decode cL_endorse 15 = .ok (.ireturn, 1) := by decide +kernel
theorem dL_endorse_16 : decode cL_endorse 16 = .ok (.astore 4, 2) := by decide +kernel
theorem dL_endorse_18 : decode cL_endorse 18 = .ok (.sipush (-7200), 3) := by decide +kernel
theorem dL_endorse_21 : decode cL_endorse 21 = .ok (.ireturn, 1) := by decide +kernel
theorem dL_endorse_22 : decode cL_endorse 22 = .ok (.astore 4, 2) := by decide +kernel
theorem dL_endorse_24 : decode cL_endorse 24 = .ok (.sipush (-7300), 3) := by decide +kernel
theorem dL_endorse_27 : decode cL_endorse 27 = .ok (.ireturn, 1) := by decide +kernel
theorem dL_endorse_28 : decode cL_endorse 28 = .ok (.iload_n 3, 1) := by decide +kernel
theorem dL_endorse_29 : decode cL_endorse 29 = .ok (.ireturn, 1) := by decide +kernel
theorem dL_calls_0 : decode cL_calls 0 = .ok (.aload_n 0, 1) := by decide +kernel
theorem dL_calls_1 : decode cL_calls 1 = .ok (.iload_n 1, 1) := by decide +kernel
theorem dL_calls_2 : decode cL_calls 2 = .ok (.iload_n 2, 1) := by decide +kernel
theorem dL_calls_3 : decode cL_calls 3 = .ok (.invokevirtual 42, 3) := by decide +kernel
theorem dL_calls_6 : decode cL_calls 6 = .ok (.istore_n 3, 1) := by decide +kernel
theorem dL_calls_7 : decode cL_calls 7 = .ok (.goto 15, 3) := by decide +kernel
theorem dL_calls_10 : decode cL_calls 10 = .ok (.astore 4, 2) := by decide +kernel
theorem dL_calls_12 : decode cL_calls 12 = .ok (.sipush (-7100), 3) := by decide +kernel
theorem dL_calls_15 : decode cL_calls 15 = .ok (.ireturn, 1) := by decide +kernel
theorem dL_calls_16 : decode cL_calls 16 = .ok (.astore 4, 2) := by decide +kernel
theorem dL_calls_18 : decode cL_calls 18 = .ok (.sipush (-7300), 3) := by decide +kernel
theorem dL_calls_21 : decode cL_calls 21 = .ok (.ireturn, 1) := by decide +kernel
theorem dL_calls_22 : decode cL_calls 22 = .ok (.iload_n 3, 1) := by decide +kernel
theorem dL_calls_23 : decode cL_calls 23 = .ok (.ireturn, 1) := by decide +kernel
theorem dL_leaves_0 : decode cL_leaves 0 = .ok (.aload_n 0, 1) := by decide +kernel
theorem dL_leaves_1 : decode cL_leaves 1 = .ok (.iload_n 1, 1) := by decide +kernel
theorem dL_leaves_2 : decode cL_leaves 2 = .ok (.invokevirtual 45, 3) := by decide +kernel
theorem dL_leaves_5 : decode cL_leaves 5 = .ok (.istore_n 2, 1) := by decide +kernel
theorem dL_leaves_6 : decode cL_leaves 6 = .ok (.goto 13, 3) := by decide +kernel
theorem dL_leaves_9 : decode cL_leaves 9 = .ok (.astore_n 3, 1) := by decide +kernel
theorem dL_leaves_10 : decode cL_leaves 10 = .ok (.sipush (-7100), 3) := by decide +kernel
theorem dL_leaves_13 : decode cL_leaves 13 = .ok (.ireturn, 1) := by decide +kernel
theorem dL_leaves_14 : decode cL_leaves 14 = .ok (.astore_n 3, 1) := by decide +kernel
theorem dL_leaves_15 : decode cL_leaves 15 = .ok (.sipush (-7300), 3) := by decide +kernel
theorem dL_leaves_18 : decode cL_leaves 18 = .ok (.ireturn, 1) := by decide +kernel
theorem dL_leaves_19 : decode cL_leaves 19 = .ok (.iload_n 2, 1) := by decide +kernel
theorem dL_leaves_20 : decode cL_leaves 20 = .ok (.ifCond .eq 7, 3) := by decide +kernel
theorem dL_leaves_23 : decode cL_leaves 23 = .ok (.iconst 1, 1) := by decide +kernel
theorem dL_leaves_24 : decode cL_leaves 24 = .ok (.goto 4, 3) := by decide +kernel
theorem dL_leaves_27 : decode cL_leaves 27 = .ok (.iconst 0, 1) := by decide +kernel
theorem dL_leaves_28 : decode cL_leaves 28 = .ok (.ireturn, 1) := by decide +kernel
theorem dL_visit_0 : decode cL_visit 0 = .ok (.aload_n 0, 1) := by decide +kernel
theorem dL_visit_1 : decode cL_visit 1 = .ok (.iload_n 1, 1) := by decide +kernel
theorem dL_visit_2 : decode cL_visit 2 = .ok (.invokevirtual 49, 3) := by decide +kernel
theorem dL_visit_5 : decode cL_visit 5 = .ok (.istore_n 2, 1) := by decide +kernel
theorem dL_visit_6 : decode cL_visit 6 = .ok (.goto 13, 3) := by decide +kernel
theorem dL_visit_9 : decode cL_visit 9 = .ok (.astore_n 3, 1) := by decide +kernel
theorem dL_visit_10 : decode cL_visit 10 = .ok (.sipush (-7100), 3) := by decide +kernel
theorem dL_visit_13 : decode cL_visit 13 = .ok (.ireturn, 1) := by decide +kernel
theorem dL_visit_14 : decode cL_visit 14 = .ok (.astore_n 3, 1) := by decide +kernel
theorem dL_visit_15 : decode cL_visit 15 = .ok (.sipush (-7300), 3) := by decide +kernel
theorem dL_visit_18 : decode cL_visit 18 = .ok (.ireturn, 1) := by decide +kernel
theorem dL_visit_19 : decode cL_visit 19 = .ok (.iload_n 2, 1) := by decide +kernel
theorem dL_visit_20 : decode cL_visit 20 = .ok (.ireturn, 1) := by decide +kernel
theorem dL_finds_0 : decode cL_finds 0 = .ok (.aload_n 0, 1) := by decide +kernel
theorem dL_finds_1 : decode cL_finds 1 = .ok (.iload_n 1, 1) := by decide +kernel
theorem dL_finds_2 : decode cL_finds 2 = .ok (.iload_n 2, 1) := by decide +kernel
theorem dL_finds_3 : decode cL_finds 3 = .ok (.iload_n 3, 1) := by decide +kernel
theorem dL_finds_4 : decode cL_finds 4 = .ok (.invokevirtual 52, 3) := by decide +kernel
theorem dL_finds_7 : decode cL_finds 7 = .ok (.istore 4, 2) := by decide +kernel
theorem dL_finds_9 : decode cL_finds 9 = .ok (.goto 21, 3) := by decide +kernel
theorem dL_finds_12 : decode cL_finds 12 = .ok (.astore 5, 2) := by decide +kernel
theorem dL_finds_14 : decode cL_finds 14 = .ok (.sipush (-7100), 3) := by decide +kernel
theorem dL_finds_17 : decode cL_finds 17 = .ok (.ireturn, 1) := by decide +kernel
theorem dL_finds_18 : decode cL_finds 18 = .ok (.astore 5, 2) := by decide +kernel
theorem dL_finds_20 : decode cL_finds 20 = .ok (.sipush (-7200), 3) := by decide +kernel
theorem dL_finds_23 : decode cL_finds 23 = .ok (.ireturn, 1) := by decide +kernel
theorem dL_finds_24 : decode cL_finds 24 = .ok (.astore 5, 2) := by decide +kernel
theorem dL_finds_26 : decode cL_finds 26 = .ok (.sipush (-7300), 3) := by decide +kernel
theorem dL_finds_29 : decode cL_finds 29 = .ok (.ireturn, 1) := by decide +kernel
theorem dL_finds_30 : decode cL_finds 30 = .ok (.iload 4, 2) := by decide +kernel
theorem dL_finds_32 : decode cL_finds 32 = .ok (.ireturn, 1) := by decide +kernel
theorem dL_mends_0 : decode cL_mends 0 = .ok (.aload_n 0, 1) := by decide +kernel
theorem dL_mends_1 : decode cL_mends 1 = .ok (.iload_n 1, 1) := by decide +kernel
theorem dL_mends_2 : decode cL_mends 2 = .ok (.iload_n 2, 1) := by decide +kernel
theorem dL_mends_3 : decode cL_mends 3 = .ok (.iload_n 3, 1) := by decide +kernel
theorem dL_mends_4 : decode cL_mends 4 = .ok (.invokevirtual 55, 3) := by decide +kernel
theorem dL_mends_7 : decode cL_mends 7 = .ok (.istore 4, 2) := by decide +kernel
theorem dL_mends_9 : decode cL_mends 9 = .ok (.goto 15, 3) := by decide +kernel
theorem dL_mends_12 : decode cL_mends 12 = .ok (.astore 5, 2) := by decide +kernel
theorem dL_mends_14 : decode cL_mends 14 = .ok (.sipush (-7100), 3) := by decide +kernel
theorem dL_mends_17 : decode cL_mends 17 = .ok (.ireturn, 1) := by decide +kernel
theorem dL_mends_18 : decode cL_mends 18 = .ok (.astore 5, 2) := by decide +kernel
theorem dL_mends_20 : decode cL_mends 20 = .ok (.sipush (-7300), 3) := by decide +kernel
theorem dL_mends_23 : decode cL_mends 23 = .ok (.ireturn, 1) := by decide +kernel
theorem dL_mends_24 : decode cL_mends 24 = .ok (.iload 4, 2) := by decide +kernel
theorem dL_mends_26 : decode cL_mends 26 = .ok (.ireturn, 1) := by decide +kernel
theorem dL_detain_0 : decode cL_detain 0 = .ok (.aload_n 0, 1) := by decide +kernel
theorem dL_detain_1 : decode cL_detain 1 = .ok (.iload_n 1, 1) := by decide +kernel
theorem dL_detain_2 : decode cL_detain 2 = .ok (.invokevirtual 59, 3) := by decide +kernel
theorem dL_detain_5 : decode cL_detain 5 = .ok (.istore_n 2, 1) := by decide +kernel
theorem dL_detain_6 : decode cL_detain 6 = .ok (.goto 13, 3) := by decide +kernel
theorem dL_detain_9 : decode cL_detain 9 = .ok (.astore_n 3, 1) := by decide +kernel
theorem dL_detain_10 : decode cL_detain 10 = .ok (.sipush (-7100), 3) := by decide +kernel
theorem dL_detain_13 : decode cL_detain 13 = .ok (.ireturn, 1) := by decide +kernel
theorem dL_detain_14 : decode cL_detain 14 = .ok (.astore_n 3, 1) := by decide +kernel
theorem dL_detain_15 : decode cL_detain 15 = .ok (.sipush (-7300), 3) := by decide +kernel
theorem dL_detain_18 : decode cL_detain 18 = .ok (.ireturn, 1) := by decide +kernel
theorem dL_detain_19 : decode cL_detain 19 = .ok (.iload_n 2, 1) := by decide +kernel
theorem dL_detain_20 : decode cL_detain 20 = .ok (.ireturn, 1) := by decide +kernel
theorem dL_release_0 : decode cL_release 0 = .ok (.aload_n 0, 1) := by decide +kernel
theorem dL_release_1 : decode cL_release 1 = .ok (.iload_n 1, 1) := by decide +kernel
theorem dL_release_2 : decode cL_release 2 = .ok (.invokevirtual 62, 3) := by decide +kernel
theorem dL_release_5 : decode cL_release 5 = .ok (.istore_n 2, 1) := by decide +kernel
theorem dL_release_6 : decode cL_release 6 = .ok (.goto 13, 3) := by decide +kernel
theorem dL_release_9 : decode cL_release 9 = .ok (.astore_n 3, 1) := by decide +kernel
theorem dL_release_10 : decode cL_release 10 = .ok (.sipush (-7100), 3) := by decide +kernel
theorem dL_release_13 : decode cL_release 13 = .ok (.ireturn, 1) := by decide +kernel
theorem dL_release_14 : decode cL_release 14 = .ok (.astore_n 3, 1) := by decide +kernel
theorem dL_release_15 : decode cL_release 15 = .ok (.sipush (-7300), 3) := by decide +kernel
theorem dL_release_18 : decode cL_release 18 = .ok (.ireturn, 1) := by decide +kernel
theorem dL_release_19 : decode cL_release 19 = .ok (.iload_n 2, 1) := by decide +kernel
theorem dL_release_20 : decode cL_release 20 = .ok (.ireturn, 1) := by decide +kernel
theorem dL_appeal_0 : decode cL_appeal 0 = .ok (.aload_n 0, 1) := by decide +kernel
theorem dL_appeal_1 : decode cL_appeal 1 = .ok (.iload_n 1, 1) := by decide +kernel
theorem dL_appeal_2 : decode cL_appeal 2 = .ok (.invokevirtual 65, 3) := by decide +kernel
theorem dL_appeal_5 : decode cL_appeal 5 = .ok (.goto 13, 3) := by decide +kernel
theorem dL_appeal_8 : decode cL_appeal 8 = .ok (.astore_n 2, 1) := by decide +kernel
theorem dL_appeal_9 : decode cL_appeal 9 = .ok (.sipush (-7100), 3) := by decide +kernel
theorem dL_appeal_12 : decode cL_appeal 12 = .ok (.ireturn, 1) := by decide +kernel
theorem dL_appeal_13 : decode cL_appeal 13 = .ok (.astore_n 2, 1) := by decide +kernel
theorem dL_appeal_14 : decode cL_appeal 14 = .ok (.sipush (-7300), 3) := by decide +kernel
theorem dL_appeal_17 : decode cL_appeal 17 = .ok (.ireturn, 1) := by decide +kernel
theorem dL_appeal_18 : decode cL_appeal 18 = .ok (.iconst 0, 1) := by decide +kernel
theorem dL_appeal_19 : decode cL_appeal 19 = .ok (.ireturn, 1) := by decide +kernel
theorem dL_vote_0 : decode cL_vote 0 = .ok (.aload_n 0, 1) := by decide +kernel
theorem dL_vote_1 : decode cL_vote 1 = .ok (.iload_n 1, 1) := by decide +kernel
theorem dL_vote_2 : decode cL_vote 2 = .ok (.iload_n 2, 1) := by decide +kernel
theorem dL_vote_3 : decode cL_vote 3 = .ok (.invokevirtual 69, 3) := by decide +kernel
theorem dL_vote_6 : decode cL_vote 6 = .ok (.istore_n 3, 1) := by decide +kernel
theorem dL_vote_7 : decode cL_vote 7 = .ok (.goto 15, 3) := by decide +kernel
theorem dL_vote_10 : decode cL_vote 10 = .ok (.astore 4, 2) := by decide +kernel
theorem dL_vote_12 : decode cL_vote 12 = .ok (.sipush (-7100), 3) := by decide +kernel
theorem dL_vote_15 : decode cL_vote 15 = .ok (.ireturn, 1) := by decide +kernel
theorem dL_vote_16 : decode cL_vote 16 = .ok (.astore 4, 2) := by decide +kernel
theorem dL_vote_18 : decode cL_vote 18 = .ok (.sipush (-7300), 3) := by decide +kernel
theorem dL_vote_21 : decode cL_vote 21 = .ok (.ireturn, 1) := by decide +kernel
theorem dL_vote_22 : decode cL_vote 22 = .ok (.iload_n 3, 1) := by decide +kernel
theorem dL_vote_23 : decode cL_vote 23 = .ok (.ireturn, 1) := by decide +kernel
theorem dL_ofShip_0 : decode cL_ofShip 0 = .ok (.aload_n 0, 1) := by decide +kernel
theorem dL_ofShip_1 : decode cL_ofShip 1 = .ok (.iload_n 1, 1) := by decide +kernel
theorem dL_ofShip_2 : decode cL_ofShip 2 = .ok (.iload_n 2, 1) := by decide +kernel
theorem dL_ofShip_3 : decode cL_ofShip 3 = .ok (.invokevirtual 73, 3) := by decide +kernel
theorem dL_ofShip_6 : decode cL_ofShip 6 = .ok (.istore_n 3, 1) := by decide +kernel
theorem dL_ofShip_7 : decode cL_ofShip 7 = .ok (.goto 15, 3) := by decide +kernel
theorem dL_ofShip_10 : decode cL_ofShip 10 = .ok (.astore 4, 2) := by decide +kernel
theorem dL_ofShip_12 : decode cL_ofShip 12 = .ok (.sipush (-7100), 3) := by decide +kernel
theorem dL_ofShip_15 : decode cL_ofShip 15 = .ok (.ireturn, 1) := by decide +kernel
theorem dL_ofShip_16 : decode cL_ofShip 16 = .ok (.astore 4, 2) := by decide +kernel
theorem dL_ofShip_18 : decode cL_ofShip 18 = .ok (.sipush (-7200), 3) := by decide +kernel
theorem dL_ofShip_21 : decode cL_ofShip 21 = .ok (.ireturn, 1) := by decide +kernel
theorem dL_ofShip_22 : decode cL_ofShip 22 = .ok (.iload_n 3, 1) := by decide +kernel
theorem dL_ofShip_23 : decode cL_ofShip 23 = .ok (.ireturn, 1) := by decide +kernel
theorem dL_pointsAnew_0 : decode cL_pointsAnew 0 = .ok (.aload_n 0, 1) := by decide +kernel
theorem dL_pointsAnew_1 : decode cL_pointsAnew 1 = .ok (.iload_n 1, 1) := by decide +kernel
theorem dL_pointsAnew_2 : decode cL_pointsAnew 2 = .ok (.invokevirtual 76, 3) := by decide +kernel
theorem dL_pointsAnew_5 : decode cL_pointsAnew 5 = .ok (.istore_n 2, 1) := by decide +kernel
theorem dL_pointsAnew_6 : decode cL_pointsAnew 6 = .ok (.goto 8, 3) := by decide +kernel
theorem dL_pointsAnew_9 : decode cL_pointsAnew 9 = .ok (.astore_n 3, 1) := by decide +kernel
theorem dL_pointsAnew_10 : decode cL_pointsAnew 10 = .ok (.sipush (-7100), 3) := by decide +kernel
theorem dL_pointsAnew_13 : decode cL_pointsAnew 13 = .ok (.ireturn, 1) := by decide +kernel
theorem dL_pointsAnew_14 : decode cL_pointsAnew 14 = .ok (.iload_n 2, 1) := by decide +kernel
theorem dL_pointsAnew_15 : decode cL_pointsAnew 15 = .ok (.ireturn, 1) := by decide +kernel
theorem dL_isGround_0 : decode cL_isGround 0 = .ok (.aload_n 0, 1) := by decide +kernel
theorem dL_isGround_1 : decode cL_isGround 1 = .ok (.iload_n 1, 1) := by decide +kernel
theorem dL_isGround_2 : decode cL_isGround 2 = .ok (.iload_n 2, 1) := by decide +kernel
theorem dL_isGround_3 : decode cL_isGround 3 = .ok (.invokevirtual 79, 3) := by decide +kernel
theorem dL_isGround_6 : decode cL_isGround 6 = .ok (.istore_n 3, 1) := by decide +kernel
theorem dL_isGround_7 : decode cL_isGround 7 = .ok (.goto 15, 3) := by decide +kernel
theorem dL_isGround_10 : decode cL_isGround 10 = .ok (.astore 4, 2) := by decide +kernel
theorem dL_isGround_12 : decode cL_isGround 12 = .ok (.sipush (-7100), 3) := by decide +kernel
theorem dL_isGround_15 : decode cL_isGround 15 = .ok (.ireturn, 1) := by decide +kernel
theorem dL_isGround_16 : decode cL_isGround 16 = .ok (.astore 4, 2) := by decide +kernel
theorem dL_isGround_18 : decode cL_isGround 18 = .ok (.sipush (-7200), 3) := by decide +kernel
theorem dL_isGround_21 : decode cL_isGround 21 = .ok (.ireturn, 1) := by decide +kernel
theorem dL_isGround_22 : decode cL_isGround 22 = .ok (.iload_n 3, 1) := by decide +kernel
theorem dL_isGround_23 : decode cL_isGround 23 = .ok (.ifCond .eq 7, 3) := by decide +kernel
theorem dL_isGround_26 : decode cL_isGround 26 = .ok (.iconst 1, 1) := by decide +kernel
theorem dL_isGround_27 : decode cL_isGround 27 = .ok (.goto 4, 3) := by decide +kernel
theorem dL_isGround_30 : decode cL_isGround 30 = .ok (.iconst 0, 1) := by decide +kernel
theorem dL_isGround_31 : decode cL_isGround 31 = .ok (.ireturn, 1) := by decide +kernel
theorem dL_ofVisit_0 : decode cL_ofVisit 0 = .ok (.aload_n 0, 1) := by decide +kernel
theorem dL_ofVisit_1 : decode cL_ofVisit 1 = .ok (.iload_n 1, 1) := by decide +kernel
theorem dL_ofVisit_2 : decode cL_ofVisit 2 = .ok (.iload_n 2, 1) := by decide +kernel
theorem dL_ofVisit_3 : decode cL_ofVisit 3 = .ok (.invokevirtual 83, 3) := by decide +kernel
theorem dL_ofVisit_6 : decode cL_ofVisit 6 = .ok (.istore_n 3, 1) := by decide +kernel
theorem dL_ofVisit_7 : decode cL_ofVisit 7 = .ok (.goto 15, 3) := by decide +kernel
theorem dL_ofVisit_10 : decode cL_ofVisit 10 = .ok (.astore 4, 2) := by decide +kernel
theorem dL_ofVisit_12 : decode cL_ofVisit 12 = .ok (.sipush (-7100), 3) := by decide +kernel
theorem dL_ofVisit_15 : decode cL_ofVisit 15 = .ok (.ireturn, 1) := by decide +kernel
theorem dL_ofVisit_16 : decode cL_ofVisit 16 = .ok (.astore 4, 2) := by decide +kernel
theorem dL_ofVisit_18 : decode cL_ofVisit 18 = .ok (.sipush (-7200), 3) := by decide +kernel
theorem dL_ofVisit_21 : decode cL_ofVisit 21 = .ok (.ireturn, 1) := by decide +kernel
theorem dL_ofVisit_22 : decode cL_ofVisit 22 = .ok (.iload_n 3, 1) := by decide +kernel
theorem dL_ofVisit_23 : decode cL_ofVisit 23 = .ok (.ireturn, 1) := by decide +kernel
theorem dL_list_0 : decode cL_list 0 = .ok (.aload_n 0, 1) := by decide +kernel
theorem dL_list_1 : decode cL_list 1 = .ok (.iload_n 1, 1) := by decide +kernel
theorem dL_list_2 : decode cL_list 2 = .ok (.invokevirtual 86, 3) := by decide +kernel
theorem dL_list_5 : decode cL_list 5 = .ok (.istore_n 2, 1) := by decide +kernel
theorem dL_list_6 : decode cL_list 6 = .ok (.goto 8, 3) := by decide +kernel
theorem dL_list_9 : decode cL_list 9 = .ok (.astore_n 3, 1) := by decide +kernel
theorem dL_list_10 : decode cL_list 10 = .ok (.sipush (-7100), 3) := by decide +kernel
theorem dL_list_13 : decode cL_list 13 = .ok (.ireturn, 1) := by decide +kernel
theorem dL_list_14 : decode cL_list 14 = .ok (.iload_n 2, 1) := by decide +kernel
theorem dL_list_15 : decode cL_list 15 = .ok (.ireturn, 1) := by decide +kernel
theorem dL_missed_0 : decode cL_missed 0 = .ok (.aload_n 0, 1) := by decide +kernel
theorem dL_missed_1 : decode cL_missed 1 = .ok (.iload_n 1, 1) := by decide +kernel
theorem dL_missed_2 : decode cL_missed 2 = .ok (.invokevirtual 89, 3) := by decide +kernel
theorem dL_missed_5 : decode cL_missed 5 = .ok (.istore_n 2, 1) := by decide +kernel
theorem dL_missed_6 : decode cL_missed 6 = .ok (.goto 8, 3) := by decide +kernel
theorem dL_missed_9 : decode cL_missed 9 = .ok (.astore_n 3, 1) := by decide +kernel
theorem dL_missed_10 : decode cL_missed 10 = .ok (.sipush (-7100), 3) := by decide +kernel
theorem dL_missed_13 : decode cL_missed 13 = .ok (.ireturn, 1) := by decide +kernel
theorem dL_missed_14 : decode cL_missed 14 = .ok (.iload_n 2, 1) := by decide +kernel
theorem dL_missed_15 : decode cL_missed 15 = .ok (.ireturn, 1) := by decide +kernel
theorem dL_knew_0 : decode cL_knew 0 = .ok (.aload_n 0, 1) := by decide +kernel
theorem dL_knew_1 : decode cL_knew 1 = .ok (.iload_n 1, 1) := by decide +kernel
theorem dL_knew_2 : decode cL_knew 2 = .ok (.iload_n 2, 1) := by decide +kernel
theorem dL_knew_3 : decode cL_knew 3 = .ok (.iload_n 3, 1) := by decide +kernel
theorem dL_knew_4 : decode cL_knew 4 = .ok (.invokevirtual 92, 3) := by decide +kernel
theorem dL_knew_7 : decode cL_knew 7 = .ok (.istore 4, 2) := by decide +kernel
theorem dL_knew_9 : decode cL_knew 9 = .ok (.goto 15, 3) := by decide +kernel
theorem dL_knew_12 : decode cL_knew 12 = .ok (.astore 5, 2) := by decide +kernel
theorem dL_knew_14 : decode cL_knew 14 = .ok (.sipush (-7100), 3) := by decide +kernel
theorem dL_knew_17 : decode cL_knew 17 = .ok (.ireturn, 1) := by decide +kernel
theorem dL_knew_18 : decode cL_knew 18 = .ok (.astore 5, 2) := by decide +kernel
theorem dL_knew_20 : decode cL_knew 20 = .ok (.sipush (-7200), 3) := by decide +kernel
theorem dL_knew_23 : decode cL_knew 23 = .ok (.ireturn, 1) := by decide +kernel
theorem dL_knew_24 : decode cL_knew 24 = .ok (.iload 4, 2) := by decide +kernel
theorem dL_knew_26 : decode cL_knew 26 = .ok (.ireturn, 1) := by decide +kernel
theorem dL_end_0 : decode cL_end 0 = .ok (.aload_n 1, 1) := by decide +kernel
theorem dL_end_1 : decode cL_end 1 = .ok (.iconst 3, 1) := by decide +kernel
theorem dL_end_2 : decode cL_end 2 = .ok (.iload_n 0, 1) := by decide +kernel
theorem dL_end_3 : decode cL_end 3 = .ok (.imul, 1) := by decide +kernel
theorem dL_end_4 : decode cL_end 4 = .ok (.iaload, 1) := by decide +kernel
theorem dL_end_5 : decode cL_end 5 = .ok (.aload_n 1, 1) := by decide +kernel
theorem dL_end_6 : decode cL_end 6 = .ok (.iconst 3, 1) := by decide +kernel
theorem dL_end_7 : decode cL_end 7 = .ok (.iload_n 0, 1) := by decide +kernel
theorem dL_end_8 : decode cL_end 8 = .ok (.imul, 1) := by decide +kernel
theorem dL_end_9 : decode cL_end 9 = .ok (.iconst 1, 1) := by decide +kernel
theorem dL_end_10 : decode cL_end 10 = .ok (.iadd, 1) := by decide +kernel
theorem dL_end_11 : decode cL_end 11 = .ok (.iaload, 1) := by decide +kernel
theorem dL_end_12 : decode cL_end 12 = .ok (.iadd, 1) := by decide +kernel
theorem dL_end_13 : decode cL_end 13 = .ok (.istore_n 2, 1) := by decide +kernel
theorem dL_end_14 : decode cL_end 14 = .ok (.aload_n 1, 1) := by decide +kernel
theorem dL_end_15 : decode cL_end 15 = .ok (.iconst 3, 1) := by decide +kernel
theorem dL_end_16 : decode cL_end 16 = .ok (.iload_n 0, 1) := by decide +kernel
theorem dL_end_17 : decode cL_end 17 = .ok (.imul, 1) := by decide +kernel
theorem dL_end_18 : decode cL_end 18 = .ok (.iconst 2, 1) := by decide +kernel
theorem dL_end_19 : decode cL_end 19 = .ok (.iadd, 1) := by decide +kernel
theorem dL_end_20 : decode cL_end 20 = .ok (.iaload, 1) := by decide +kernel
theorem dL_end_21 : decode cL_end 21 = .ok (.iconst 2, 1) := by decide +kernel
theorem dL_end_22 : decode cL_end 22 = .ok (.ishr, 1) := by decide +kernel
theorem dL_end_23 : decode cL_end 23 = .ok (.istore_n 3, 1) := by decide +kernel
theorem dL_end_24 : decode cL_end 24 = .ok (.iconst 1, 1) := by decide +kernel
theorem dL_end_25 : decode cL_end 25 = .ok (.istore 4, 2) := by decide +kernel
theorem dL_end_27 : decode cL_end 27 = .ok (.aload_n 1, 1) := by decide +kernel
theorem dL_end_28 : decode cL_end 28 = .ok (.iconst 3, 1) := by decide +kernel
theorem dL_end_29 : decode cL_end 29 = .ok (.iload_n 0, 1) := by decide +kernel
theorem dL_end_30 : decode cL_end 30 = .ok (.imul, 1) := by decide +kernel
theorem dL_end_31 : decode cL_end 31 = .ok (.iaload, 1) := by decide +kernel
theorem dL_end_32 : decode cL_end 32 = .ok (.sipush 365, 3) := by decide +kernel
theorem dL_end_35 : decode cL_end 35 = .ok (.iload 4, 2) := by decide +kernel
theorem dL_end_37 : decode cL_end 37 = .ok (.imul, 1) := by decide +kernel
theorem dL_end_38 : decode cL_end 38 = .ok (.iadd, 1) := by decide +kernel
theorem dL_end_39 : decode cL_end 39 = .ok (.aload_n 1, 1) := by decide +kernel
theorem dL_end_40 : decode cL_end 40 = .ok (.iconst 3, 1) := by decide +kernel
theorem dL_end_41 : decode cL_end 41 = .ok (.iload_n 0, 1) := by decide +kernel
theorem dL_end_42 : decode cL_end 42 = .ok (.imul, 1) := by decide +kernel
theorem dL_end_43 : decode cL_end 43 = .ok (.iaload, 1) := by decide +kernel
theorem dL_end_44 : decode cL_end 44 = .ok (.aload_n 1, 1) := by decide +kernel
theorem dL_end_45 : decode cL_end 45 = .ok (.iconst 3, 1) := by decide +kernel
theorem dL_end_46 : decode cL_end 46 = .ok (.iload_n 0, 1) := by decide +kernel
theorem dL_end_47 : decode cL_end 47 = .ok (.imul, 1) := by decide +kernel
theorem dL_end_48 : decode cL_end 48 = .ok (.iconst 1, 1) := by decide +kernel
theorem dL_end_49 : decode cL_end 49 = .ok (.iadd, 1) := by decide +kernel
theorem dL_end_50 : decode cL_end 50 = .ok (.iaload, 1) := by decide +kernel
theorem dL_end_51 : decode cL_end 51 = .ok (.iadd, 1) := by decide +kernel
theorem dL_end_52 : decode cL_end 52 = .ok (.if_icmp .ge 44, 3) := by decide +kernel
theorem dL_end_55 : decode cL_end 55 = .ok (.aload_n 1, 1) := by decide +kernel
theorem dL_end_56 : decode cL_end 56 = .ok (.iconst 3, 1) := by decide +kernel
theorem dL_end_57 : decode cL_end 57 = .ok (.iload_n 0, 1) := by decide +kernel
theorem dL_end_58 : decode cL_end 58 = .ok (.imul, 1) := by decide +kernel
theorem dL_end_59 : decode cL_end 59 = .ok (.iaload, 1) := by decide +kernel
theorem dL_end_60 : decode cL_end 60 = .ok (.sipush 365, 3) := by decide +kernel
theorem dL_end_63 : decode cL_end 63 = .ok (.iload 4, 2) := by decide +kernel
theorem dL_end_65 : decode cL_end 65 = .ok (.imul, 1) := by decide +kernel
theorem dL_end_66 : decode cL_end 66 = .ok (.iadd, 1) := by decide +kernel
theorem dL_end_67 : decode cL_end 67 = .ok (.bipush 90, 2) := by decide +kernel
theorem dL_end_69 : decode cL_end 69 = .ok (.iadd, 1) := by decide +kernel
theorem dL_end_70 : decode cL_end 70 = .ok (.istore 5, 2) := by decide +kernel
theorem dL_end_72 : decode cL_end 72 = .ok (.iload_n 3, 1) := by decide +kernel
theorem dL_end_73 : decode cL_end 73 = .ok (.iload 4, 2) := by decide +kernel
theorem dL_end_75 : decode cL_end 75 = .ok (.ishr, 1) := by decide +kernel
theorem dL_end_76 : decode cL_end 76 = .ok (.iconst 1, 1) := by decide +kernel
theorem dL_end_77 : decode cL_end 77 = .ok (.iand, 1) := by decide +kernel
theorem dL_end_78 : decode cL_end 78 = .ok (.ifCond .ne 12, 3) := by decide +kernel
theorem dL_end_81 : decode cL_end 81 = .ok (.iload 5, 2) := by decide +kernel
theorem dL_end_83 : decode cL_end 83 = .ok (.iload_n 2, 1) := by decide +kernel
theorem dL_end_84 : decode cL_end 84 = .ok (.if_icmp .ge 6, 3) := by decide +kernel
theorem dL_end_87 : decode cL_end 87 = .ok (.iload 5, 2) := by decide +kernel
theorem dL_end_89 : decode cL_end 89 = .ok (.istore_n 2, 1) := by decide +kernel
theorem dL_end_90 : decode cL_end 90 = .ok (.iinc 4 1, 3) := by decide +kernel
theorem dL_end_93 : decode cL_end 93 = .ok (.goto (-66), 3) := by decide +kernel
theorem dL_end_96 : decode cL_end 96 = .ok (.iload_n 2, 1) := by decide +kernel
theorem dL_end_97 : decode cL_end 97 = .ok (.ireturn, 1) := by decide +kernel
theorem dL_lapsed_0 : decode cL_lapsed 0 = .ok (.iconst 0, 1) := by decide +kernel
theorem dL_lapsed_1 : decode cL_lapsed 1 = .ok (.istore_n 3, 1) := by decide +kernel
theorem dL_lapsed_2 : decode cL_lapsed 2 = .ok (.iconst 0, 1) := by decide +kernel
theorem dL_lapsed_3 : decode cL_lapsed 3 = .ok (.istore 4, 2) := by decide +kernel
theorem dL_lapsed_5 : decode cL_lapsed 5 = .ok (.iload 4, 2) := by decide +kernel
theorem dL_lapsed_7 : decode cL_lapsed 7 = .ok (.iconst 5, 1) := by decide +kernel
theorem dL_lapsed_8 : decode cL_lapsed 8 = .ok (.if_icmp .ge 135, 3) := by decide +kernel
theorem dL_lapsed_11 : decode cL_lapsed 11 = .ok (.iconst 5, 1) := by decide +kernel
theorem dL_lapsed_12 : decode cL_lapsed 12 = .ok (.iload_n 0, 1) := by decide +kernel
theorem dL_lapsed_13 : decode cL_lapsed 13 = .ok (.imul, 1) := by decide +kernel
theorem dL_lapsed_14 : decode cL_lapsed 14 = .ok (.iload 4, 2) := by decide +kernel
theorem dL_lapsed_16 : decode cL_lapsed 16 = .ok (.iadd, 1) := by decide +kernel
theorem dL_lapsed_17 : decode cL_lapsed 17 = .ok (.istore 5, 2) := by decide +kernel
theorem dL_lapsed_19 : decode cL_lapsed 19 = .ok (.aload_n 1, 1) := by decide +kernel
theorem dL_lapsed_20 : decode cL_lapsed 20 = .ok (.iconst 3, 1) := by decide +kernel
theorem dL_lapsed_21 : decode cL_lapsed 21 = .ok (.iload 5, 2) := by decide +kernel
theorem dL_lapsed_23 : decode cL_lapsed 23 = .ok (.imul, 1) := by decide +kernel
theorem dL_lapsed_24 : decode cL_lapsed 24 = .ok (.iaload, 1) := by decide +kernel
theorem dL_lapsed_25 : decode cL_lapsed 25 = .ok (.iconst (-1), 1) := by decide +kernel
theorem dL_lapsed_26 : decode cL_lapsed 26 = .ok (.if_icmp .eq 36, 3) := by decide +kernel
theorem dL_lapsed_29 : decode cL_lapsed 29 = .ok (.iload 5, 2) := by decide +kernel
theorem dL_lapsed_31 : decode cL_lapsed 31 = .ok (.aload_n 1, 1) := by decide +kernel
theorem dL_lapsed_32 : decode cL_lapsed 32 = .ok (.invokestatic 97, 3) := by decide +kernel
theorem dL_lapsed_35 : decode cL_lapsed 35 = .ok (.aload_n 2, 1) := by decide +kernel
theorem dL_lapsed_36 : decode cL_lapsed 36 = .ok (.iconst 0, 1) := by decide +kernel
theorem dL_lapsed_37 : decode cL_lapsed 37 = .ok (.iaload, 1) := by decide +kernel
theorem dL_lapsed_38 : decode cL_lapsed 38 = .ok (.if_icmp .lt 24, 3) := by decide +kernel
theorem dL_lapsed_41 : decode cL_lapsed 41 = .ok (.aload_n 2, 1) := by decide +kernel
theorem dL_lapsed_42 : decode cL_lapsed 42 = .ok (.bipush 7, 2) := by decide +kernel
theorem dL_lapsed_44 : decode cL_lapsed 44 = .ok (.iaload, 1) := by decide +kernel
theorem dL_lapsed_45 : decode cL_lapsed 45 = .ok (.aload_n 1, 1) := by decide +kernel
theorem dL_lapsed_46 : decode cL_lapsed 46 = .ok (.iconst 3, 1) := by decide +kernel
theorem dL_lapsed_47 : decode cL_lapsed 47 = .ok (.iload 5, 2) := by decide +kernel
theorem dL_lapsed_49 : decode cL_lapsed 49 = .ok (.imul, 1) := by decide +kernel
theorem dL_lapsed_50 : decode cL_lapsed 50 = .ok (.iconst 2, 1) := by decide +kernel
theorem dL_lapsed_51 : decode cL_lapsed 51 = .ok (.iadd, 1) := by decide +kernel
theorem dL_lapsed_52 : decode cL_lapsed 52 = .ok (.iaload, 1) := by decide +kernel
theorem dL_lapsed_53 : decode cL_lapsed 53 = .ok (.iconst 3, 1) := by decide +kernel
theorem dL_lapsed_54 : decode cL_lapsed 54 = .ok (.iand, 1) := by decide +kernel
theorem dL_lapsed_55 : decode cL_lapsed 55 = .ok (.ishr, 1) := by decide +kernel
theorem dL_lapsed_56 : decode cL_lapsed 56 = .ok (.iconst 1, 1) := by decide +kernel
theorem dL_lapsed_57 : decode cL_lapsed 57 = .ok (.iand, 1) := by decide +kernel
theorem dL_lapsed_58 : decode cL_lapsed 58 = .ok (.iconst 1, 1) := by decide +kernel
theorem dL_lapsed_59 : decode cL_lapsed 59 = .ok (.if_icmp .ne 7, 3) := by decide +kernel
theorem dL_lapsed_62 : decode cL_lapsed 62 = .ok (.iconst 1, 1) := by decide +kernel
theorem dL_lapsed_63 : decode cL_lapsed 63 = .ok (.goto 4, 3) := by decide +kernel
theorem dL_lapsed_66 : decode cL_lapsed 66 = .ok (.iconst 0, 1) := by decide +kernel
theorem dL_lapsed_67 : decode cL_lapsed 67 = .ok (.istore 6, 2) := by decide +kernel
theorem dL_lapsed_69 : decode cL_lapsed 69 = .ok (.iload 4, 2) := by decide +kernel
theorem dL_lapsed_71 : decode cL_lapsed 71 = .ok (.iconst 1, 1) := by decide +kernel
theorem dL_lapsed_72 : decode cL_lapsed 72 = .ok (.if_icmp .eq 9, 3) := by decide +kernel
theorem dL_lapsed_75 : decode cL_lapsed 75 = .ok (.iload 4, 2) := by decide +kernel
theorem dL_lapsed_77 : decode cL_lapsed 77 = .ok (.iconst 3, 1) := by decide +kernel
theorem dL_lapsed_78 : decode cL_lapsed 78 = .ok (.if_icmp .ne 20, 3) := by decide +kernel
theorem dL_lapsed_81 : decode cL_lapsed 81 = .ok (.iload 6, 2) := by decide +kernel
theorem dL_lapsed_83 : decode cL_lapsed 83 = .ok (.iload_n 3, 1) := by decide +kernel
theorem dL_lapsed_84 : decode cL_lapsed 84 = .ok (.iconst 1, 1) := by decide +kernel
theorem dL_lapsed_85 : decode cL_lapsed 85 = .ok (.iand, 1) := by decide +kernel
theorem dL_lapsed_86 : decode cL_lapsed 86 = .ok (.iconst 1, 1) := by decide +kernel
theorem dL_lapsed_87 : decode cL_lapsed 87 = .ok (.if_icmp .ne 7, 3) := by decide +kernel
theorem dL_lapsed_90 : decode cL_lapsed 90 = .ok (.iconst 1, 1) := by decide +kernel
theorem dL_lapsed_91 : decode cL_lapsed 91 = .ok (.goto 4, 3) := by decide +kernel
theorem dL_lapsed_94 : decode cL_lapsed 94 = .ok (.iconst 0, 1) := by decide +kernel
theorem dL_lapsed_95 : decode cL_lapsed 95 = .ok (.ior, 1) := by decide +kernel
theorem dL_lapsed_96 : decode cL_lapsed 96 = .ok (.istore 6, 2) := by decide +kernel
theorem dL_lapsed_98 : decode cL_lapsed 98 = .ok (.iload 4, 2) := by decide +kernel
theorem dL_lapsed_100 : decode cL_lapsed 100 = .ok (.iconst 2, 1) := by decide +kernel
theorem dL_lapsed_101 : decode cL_lapsed 101 = .ok (.if_icmp .ne 20, 3) := by decide +kernel
theorem dL_lapsed_104 : decode cL_lapsed 104 = .ok (.iload 6, 2) := by decide +kernel
theorem dL_lapsed_106 : decode cL_lapsed 106 = .ok (.iload_n 3, 1) := by decide +kernel
theorem dL_lapsed_107 : decode cL_lapsed 107 = .ok (.iconst 2, 1) := by decide +kernel
theorem dL_lapsed_108 : decode cL_lapsed 108 = .ok (.iand, 1) := by decide +kernel
theorem dL_lapsed_109 : decode cL_lapsed 109 = .ok (.iconst 2, 1) := by decide +kernel
theorem dL_lapsed_110 : decode cL_lapsed 110 = .ok (.if_icmp .ne 7, 3) := by decide +kernel
theorem dL_lapsed_113 : decode cL_lapsed 113 = .ok (.iconst 1, 1) := by decide +kernel
theorem dL_lapsed_114 : decode cL_lapsed 114 = .ok (.goto 4, 3) := by decide +kernel
theorem dL_lapsed_117 : decode cL_lapsed 117 = .ok (.iconst 0, 1) := by decide +kernel
theorem dL_lapsed_118 : decode cL_lapsed 118 = .ok (.ior, 1) := by decide +kernel
theorem dL_lapsed_119 : decode cL_lapsed 119 = .ok (.istore 6, 2) := by decide +kernel
theorem dL_lapsed_121 : decode cL_lapsed 121 = .ok (.iload_n 3, 1) := by decide +kernel
theorem dL_lapsed_122 : decode cL_lapsed 122 = .ok (.iload 6, 2) := by decide +kernel
theorem dL_lapsed_124 : decode cL_lapsed 124 = .ok (.ifCond .eq 10, 3) := by decide +kernel
theorem dL_lapsed_127 : decode cL_lapsed 127 = .ok (.iconst 1, 1) := by decide +kernel
theorem dL_lapsed_128 : decode cL_lapsed 128 = .ok (.iload 4, 2) := by decide +kernel
theorem dL_lapsed_130 : decode cL_lapsed 130 = .ok (.ishl, 1) := by decide +kernel
theorem dL_lapsed_131 : decode cL_lapsed 131 = .ok (.goto 4, 3) := by decide +kernel
theorem dL_lapsed_134 : decode cL_lapsed 134 = .ok (.iconst 0, 1) := by decide +kernel
theorem dL_lapsed_135 : decode cL_lapsed 135 = .ok (.ior, 1) := by decide +kernel
theorem dL_lapsed_136 : decode cL_lapsed 136 = .ok (.istore_n 3, 1) := by decide +kernel
theorem dL_lapsed_137 : decode cL_lapsed 137 = .ok (.iinc 4 1, 3) := by decide +kernel
theorem dL_lapsed_140 : decode cL_lapsed 140 = .ok (.goto (-135), 3) := by decide +kernel
theorem dL_lapsed_143 : decode cL_lapsed 143 = .ok (.iload_n 3, 1) := by decide +kernel
theorem dL_lapsed_144 : decode cL_lapsed 144 = .ok (.ireturn, 1) := by decide +kernel
theorem dL_info_0 : decode cL_info 0 = .ok (.iload_n 0, 1) := by decide +kernel
theorem dL_info_1 : decode cL_info 1 = .ok (.bipush 13, 2) := by decide +kernel
theorem dL_info_3 : decode cL_info 3 = .ok (.ishr, 1) := by decide +kernel
theorem dL_info_4 : decode cL_info 4 = .ok (.ireturn, 1) := by decide +kernel
theorem dL_counts_0 : decode cL_counts 0 = .ok (.aload_n 2, 1) := by decide +kernel
theorem dL_counts_1 : decode cL_counts 1 = .ok (.iload_n 0, 1) := by decide +kernel
theorem dL_counts_2 : decode cL_counts 2 = .ok (.iaload, 1) := by decide +kernel
theorem dL_counts_3 : decode cL_counts 3 = .ok (.iconst (-1), 1) := by decide +kernel
theorem dL_counts_4 : decode cL_counts 4 = .ok (.if_icmp .eq 21, 3) := by decide +kernel
theorem dL_counts_7 : decode cL_counts 7 = .ok (.aload_n 1, 1) := by decide +kernel
theorem dL_counts_8 : decode cL_counts 8 = .ok (.iload_n 0, 1) := by decide +kernel
theorem dL_counts_9 : decode cL_counts 9 = .ok (.iaload, 1) := by decide +kernel
theorem dL_counts_10 : decode cL_counts 10 = .ok (.invokestatic 101, 3) := by decide +kernel
theorem dL_counts_13 : decode cL_counts 13 = .ok (.iconst 1, 1) := by decide +kernel
theorem dL_counts_14 : decode cL_counts 14 = .ok (.ishr, 1) := by decide +kernel
theorem dL_counts_15 : decode cL_counts 15 = .ok (.iconst 3, 1) := by decide +kernel
theorem dL_counts_16 : decode cL_counts 16 = .ok (.iand, 1) := by decide +kernel
theorem dL_counts_17 : decode cL_counts 17 = .ok (.iconst 2, 1) := by decide +kernel
theorem dL_counts_18 : decode cL_counts 18 = .ok (.if_icmp .ge 7, 3) := by decide +kernel
theorem dL_counts_21 : decode cL_counts 21 = .ok (.iconst 1, 1) := by decide +kernel
theorem dL_counts_22 : decode cL_counts 22 = .ok (.goto 4, 3) := by decide +kernel
theorem dL_counts_25 : decode cL_counts 25 = .ok (.iconst 0, 1) := by decide +kernel
theorem dL_counts_26 : decode cL_counts 26 = .ok (.ireturn, 1) := by decide +kernel
theorem dL_findings_0 : decode cL_findings 0 = .ok (.iload_n 0, 1) := by decide +kernel
theorem dL_findings_1 : decode cL_findings 1 = .ok (.bipush 9, 2) := by decide +kernel
theorem dL_findings_3 : decode cL_findings 3 = .ok (.ishr, 1) := by decide +kernel
theorem dL_findings_4 : decode cL_findings 4 = .ok (.bipush 15, 2) := by decide +kernel
theorem dL_findings_6 : decode cL_findings 6 = .ok (.iand, 1) := by decide +kernel
theorem dL_findings_7 : decode cL_findings 7 = .ok (.ireturn, 1) := by decide +kernel
theorem dL_listOf_0 : decode cL_listOf 0 = .ok (.iconst 0, 1) := by decide +kernel
theorem dL_listOf_1 : decode cL_listOf 1 = .ok (.istore 5, 2) := by decide +kernel
theorem dL_listOf_3 : decode cL_listOf 3 = .ok (.iconst 0, 1) := by decide +kernel
theorem dL_listOf_4 : decode cL_listOf 4 = .ok (.istore 6, 2) := by decide +kernel
theorem dL_listOf_6 : decode cL_listOf 6 = .ok (.aload 4, 2) := by decide +kernel
theorem dL_listOf_8 : decode cL_listOf 8 = .ok (.iconst 2, 1) := by decide +kernel
theorem dL_listOf_9 : decode cL_listOf 9 = .ok (.iaload, 1) := by decide +kernel
theorem dL_listOf_10 : decode cL_listOf 10 = .ok (.iconst 1, 1) := by decide +kernel
theorem dL_listOf_11 : decode cL_listOf 11 = .ok (.isub, 1) := by decide +kernel
theorem dL_listOf_12 : decode cL_listOf 12 = .ok (.istore 7, 2) := by decide +kernel
theorem dL_listOf_14 : decode cL_listOf 14 = .ok (.iload 7, 2) := by decide +kernel
theorem dL_listOf_16 : decode cL_listOf 16 = .ok (.ifCond .lt 65, 3) := by decide +kernel
theorem dL_listOf_19 : decode cL_listOf 19 = .ok (.aload_n 2, 1) := by decide +kernel
theorem dL_listOf_20 : decode cL_listOf 20 = .ok (.iload 7, 2) := by decide +kernel
theorem dL_listOf_22 : decode cL_listOf 22 = .ok (.iaload, 1) := by decide +kernel
theorem dL_listOf_23 : decode cL_listOf 23 = .ok (.sipush 1095, 3) := by decide +kernel
theorem dL_listOf_26 : decode cL_listOf 26 = .ok (.iadd, 1) := by decide +kernel
theorem dL_listOf_27 : decode cL_listOf 27 = .ok (.aload 4, 2) := by decide +kernel
theorem dL_listOf_29 : decode cL_listOf 29 = .ok (.iconst 0, 1) := by decide +kernel
theorem dL_listOf_30 : decode cL_listOf 30 = .ok (.iaload, 1) := by decide +kernel
theorem dL_listOf_31 : decode cL_listOf 31 = .ok (.if_icmp .le 44, 3) := by decide +kernel
theorem dL_listOf_34 : decode cL_listOf 34 = .ok (.aload_n 1, 1) := by decide +kernel
theorem dL_listOf_35 : decode cL_listOf 35 = .ok (.iload 7, 2) := by decide +kernel
theorem dL_listOf_37 : decode cL_listOf 37 = .ok (.iaload, 1) := by decide +kernel
theorem dL_listOf_38 : decode cL_listOf 38 = .ok (.bipush 6, 2) := by decide +kernel
theorem dL_listOf_40 : decode cL_listOf 40 = .ok (.ishr, 1) := by decide +kernel
theorem dL_listOf_41 : decode cL_listOf 41 = .ok (.bipush 7, 2) := by decide +kernel
theorem dL_listOf_43 : decode cL_listOf 43 = .ok (.iand, 1) := by decide +kernel
theorem dL_listOf_44 : decode cL_listOf 44 = .ok (.iload_n 0, 1) := by decide +kernel
theorem dL_listOf_45 : decode cL_listOf 45 = .ok (.if_icmp .eq 6, 3) := by decide +kernel
theorem dL_listOf_48 : decode cL_listOf 48 = .ok (.goto 27, 3) := by decide +kernel
theorem dL_listOf_51 : decode cL_listOf 51 = .ok (.iinc 5 1, 3) := by decide +kernel
theorem dL_listOf_54 : decode cL_listOf 54 = .ok (.iload 6, 2) := by decide +kernel
theorem dL_listOf_56 : decode cL_listOf 56 = .ok (.iload 7, 2) := by decide +kernel
theorem dL_listOf_58 : decode cL_listOf 58 = .ok (.aload_n 1, 1) := by decide +kernel
theorem dL_listOf_59 : decode cL_listOf 59 = .ok (.aload_n 3, 1) := by decide +kernel
theorem dL_listOf_60 : decode cL_listOf 60 = .ok (.invokestatic 104, 3) := by decide +kernel
theorem dL_listOf_63 : decode cL_listOf 63 = .ok (.ifCond .eq 8, 3) := by decide +kernel
theorem dL_listOf_66 : decode cL_listOf 66 = .ok (.bipush 100, 2) := by decide +kernel
theorem dL_listOf_68 : decode cL_listOf 68 = .ok (.goto 4, 3) := by decide +kernel
theorem dL_listOf_71 : decode cL_listOf 71 = .ok (.iconst 0, 1) := by decide +kernel
theorem dL_listOf_72 : decode cL_listOf 72 = .ok (.iadd, 1) := by decide +kernel
theorem dL_listOf_73 : decode cL_listOf 73 = .ok (.istore 6, 2) := by decide +kernel
theorem dL_listOf_75 : decode cL_listOf 75 = .ok (.iinc 7 (-1), 3) := by decide +kernel
theorem dL_listOf_78 : decode cL_listOf 78 = .ok (.goto (-64), 3) := by decide +kernel
theorem dL_listOf_81 : decode cL_listOf 81 = .ok (.iload 5, 2) := by decide +kernel
theorem dL_listOf_83 : decode cL_listOf 83 = .ok (.bipush 6, 2) := by decide +kernel
theorem dL_listOf_85 : decode cL_listOf 85 = .ok (.if_icmp .ge 5, 3) := by decide +kernel
theorem dL_listOf_88 : decode cL_listOf 88 = .ok (.iconst 0, 1) := by decide +kernel
theorem dL_listOf_89 : decode cL_listOf 89 = .ok (.ireturn, 1) := by decide +kernel
theorem dL_listOf_90 : decode cL_listOf 90 = .ok (.iconst 0, 1) := by decide +kernel
theorem dL_listOf_91 : decode cL_listOf 91 = .ok (.istore 7, 2) := by decide +kernel
theorem dL_listOf_93 : decode cL_listOf 93 = .ok (.iload 7, 2) := by decide +kernel
theorem dL_listOf_95 : decode cL_listOf 95 = .ok (.iload 7, 2) := by decide +kernel
theorem dL_listOf_97 : decode cL_listOf 97 = .ok (.imul, 1) := by decide +kernel
theorem dL_listOf_98 : decode cL_listOf 98 = .ok (.sipush 1762, 3) := by decide +kernel
theorem dL_listOf_101 : decode cL_listOf 101 = .ok (.iload 5, 2) := by decide +kernel
theorem dL_listOf_103 : decode cL_listOf 103 = .ok (.imul, 1) := by decide +kernel
theorem dL_listOf_104 : decode cL_listOf 104 = .ok (.if_icmp .gt 9, 3) := by decide +kernel
theorem dL_listOf_107 : decode cL_listOf 107 = .ok (.iinc 7 1, 3) := by decide +kernel
theorem dL_listOf_110 : decode cL_listOf 110 = .ok (.goto (-17), 3) := by decide +kernel
theorem dL_listOf_113 : decode cL_listOf 113 = .ok (.iload 6, 2) := by decide +kernel
theorem dL_listOf_115 : decode cL_listOf 115 = .ok (.bipush 7, 2) := by decide +kernel
theorem dL_listOf_117 : decode cL_listOf 117 = .ok (.iload 5, 2) := by decide +kernel
theorem dL_listOf_119 : decode cL_listOf 119 = .ok (.imul, 1) := by decide +kernel
theorem dL_listOf_120 : decode cL_listOf 120 = .ok (.isub, 1) := by decide +kernel
theorem dL_listOf_121 : decode cL_listOf 121 = .ok (.istore 8, 2) := by decide +kernel
theorem dL_listOf_123 : decode cL_listOf 123 = .ok (.iload 8, 2) := by decide +kernel
theorem dL_listOf_125 : decode cL_listOf 125 = .ok (.bipush 50, 2) := by decide +kernel
theorem dL_listOf_127 : decode cL_listOf 127 = .ok (.isub, 1) := by decide +kernel
theorem dL_listOf_128 : decode cL_listOf 128 = .ok (.iload 7, 2) := by decide +kernel
theorem dL_listOf_130 : decode cL_listOf 130 = .ok (.if_icmp .lt 7, 3) := by decide +kernel
theorem dL_listOf_133 : decode cL_listOf 133 = .ok (.iconst 3, 1) := by decide +kernel
theorem dL_listOf_134 : decode cL_listOf 134 = .ok (.goto 19, 3) := by decide +kernel
theorem dL_listOf_137 : decode cL_listOf 137 = .ok (.iload 8, 2) := by decide +kernel
theorem dL_listOf_139 : decode cL_listOf 139 = .ok (.ineg, 1) := by decide +kernel
theorem dL_listOf_140 : decode cL_listOf 140 = .ok (.bipush 50, 2) := by decide +kernel
theorem dL_listOf_142 : decode cL_listOf 142 = .ok (.isub, 1) := by decide +kernel
theorem dL_listOf_143 : decode cL_listOf 143 = .ok (.iload 7, 2) := by decide +kernel
theorem dL_listOf_145 : decode cL_listOf 145 = .ok (.if_icmp .lt 7, 3) := by decide +kernel
theorem dL_listOf_148 : decode cL_listOf 148 = .ok (.iconst 1, 1) := by decide +kernel
theorem dL_listOf_149 : decode cL_listOf 149 = .ok (.goto 4, 3) := by decide +kernel
theorem dL_listOf_152 : decode cL_listOf 152 = .ok (.iconst 2, 1) := by decide +kernel
theorem dL_listOf_153 : decode cL_listOf 153 = .ok (.ireturn, 1) := by decide +kernel
theorem dL_points_0 : decode cL_points 0 = .ok (.aload_n 1, 1) := by decide +kernel
theorem dL_points_1 : decode cL_points 1 = .ok (.bipush 14, 2) := by decide +kernel
theorem dL_points_3 : decode cL_points 3 = .ok (.iload_n 0, 1) := by decide +kernel
theorem dL_points_4 : decode cL_points 4 = .ok (.imul, 1) := by decide +kernel
theorem dL_points_5 : decode cL_points 5 = .ok (.iconst 2, 1) := by decide +kernel
theorem dL_points_6 : decode cL_points 6 = .ok (.iadd, 1) := by decide +kernel
theorem dL_points_7 : decode cL_points 7 = .ok (.iaload, 1) := by decide +kernel
theorem dL_points_8 : decode cL_points 8 = .ok (.aload 5, 2) := by decide +kernel
theorem dL_points_10 : decode cL_points 10 = .ok (.iconst 0, 1) := by decide +kernel
theorem dL_points_11 : decode cL_points 11 = .ok (.iaload, 1) := by decide +kernel
theorem dL_points_12 : decode cL_points 12 = .ok (.sipush 4380, 3) := by decide +kernel
theorem dL_points_15 : decode cL_points 15 = .ok (.isub, 1) := by decide +kernel
theorem dL_points_16 : decode cL_points 16 = .ok (.aload_n 1, 1) := by decide +kernel
theorem dL_points_17 : decode cL_points 17 = .ok (.bipush 14, 2) := by decide +kernel
theorem dL_points_19 : decode cL_points 19 = .ok (.iload_n 0, 1) := by decide +kernel
theorem dL_points_20 : decode cL_points 20 = .ok (.imul, 1) := by decide +kernel
theorem dL_points_21 : decode cL_points 21 = .ok (.iaload, 1) := by decide +kernel
theorem dL_points_22 : decode cL_points 22 = .ok (.if_icmp .le 7, 3) := by decide +kernel
theorem dL_points_25 : decode cL_points 25 = .ok (.iconst 1, 1) := by decide +kernel
theorem dL_points_26 : decode cL_points 26 = .ok (.goto 4, 3) := by decide +kernel
theorem dL_points_29 : decode cL_points 29 = .ok (.iconst 0, 1) := by decide +kernel
theorem dL_points_30 : decode cL_points 30 = .ok (.iadd, 1) := by decide +kernel
theorem dL_points_31 : decode cL_points 31 = .ok (.aload 5, 2) := by decide +kernel
theorem dL_points_33 : decode cL_points 33 = .ok (.bipush 7, 2) := by decide +kernel
theorem dL_points_35 : decode cL_points 35 = .ok (.iaload, 1) := by decide +kernel
theorem dL_points_36 : decode cL_points 36 = .ok (.aload_n 1, 1) := by decide +kernel
theorem dL_points_37 : decode cL_points 37 = .ok (.bipush 14, 2) := by decide +kernel
theorem dL_points_39 : decode cL_points 39 = .ok (.iload_n 0, 1) := by decide +kernel
theorem dL_points_40 : decode cL_points 40 = .ok (.imul, 1) := by decide +kernel
theorem dL_points_41 : decode cL_points 41 = .ok (.iconst 4, 1) := by decide +kernel
theorem dL_points_42 : decode cL_points 42 = .ok (.iadd, 1) := by decide +kernel
theorem dL_points_43 : decode cL_points 43 = .ok (.iaload, 1) := by decide +kernel
theorem dL_points_44 : decode cL_points 44 = .ok (.ishr, 1) := by decide +kernel
theorem dL_points_45 : decode cL_points 45 = .ok (.iconst 1, 1) := by decide +kernel
theorem dL_points_46 : decode cL_points 46 = .ok (.iand, 1) := by decide +kernel
theorem dL_points_47 : decode cL_points 47 = .ok (.iadd, 1) := by decide +kernel
theorem dL_points_48 : decode cL_points 48 = .ok (.istore 6, 2) := by decide +kernel
theorem dL_points_50 : decode cL_points 50 = .ok (.aload_n 1, 1) := by decide +kernel
theorem dL_points_51 : decode cL_points 51 = .ok (.bipush 14, 2) := by decide +kernel
theorem dL_points_53 : decode cL_points 53 = .ok (.iload_n 0, 1) := by decide +kernel
theorem dL_points_54 : decode cL_points 54 = .ok (.imul, 1) := by decide +kernel
theorem dL_points_55 : decode cL_points 55 = .ok (.iconst 3, 1) := by decide +kernel
theorem dL_points_56 : decode cL_points 56 = .ok (.iadd, 1) := by decide +kernel
theorem dL_points_57 : decode cL_points 57 = .ok (.iaload, 1) := by decide +kernel
theorem dL_points_58 : decode cL_points 58 = .ok (.aload_n 2, 1) := by decide +kernel
theorem dL_points_59 : decode cL_points 59 = .ok (.aload_n 3, 1) := by decide +kernel
theorem dL_points_60 : decode cL_points 60 = .ok (.aload 4, 2) := by decide +kernel
theorem dL_points_62 : decode cL_points 62 = .ok (.aload 5, 2) := by decide +kernel
theorem dL_points_64 : decode cL_points 64 = .ok (.invokestatic 108, 3) := by decide +kernel
theorem dL_points_67 : decode cL_points 67 = .ok (.istore 7, 2) := by decide +kernel
theorem dL_points_69 : decode cL_points 69 = .ok (.iload 6, 2) := by decide +kernel
theorem dL_points_71 : decode cL_points 71 = .ok (.iload 7, 2) := by decide +kernel
theorem dL_points_73 : decode cL_points 73 = .ok (.iconst 1, 1) := by decide +kernel
theorem dL_points_74 : decode cL_points 74 = .ok (.if_icmp .le 10, 3) := by decide +kernel
theorem dL_points_77 : decode cL_points 77 = .ok (.iload 7, 2) := by decide +kernel
theorem dL_points_79 : decode cL_points 79 = .ok (.iconst 1, 1) := by decide +kernel
theorem dL_points_80 : decode cL_points 80 = .ok (.isub, 1) := by decide +kernel
theorem dL_points_81 : decode cL_points 81 = .ok (.goto 4, 3) := by decide +kernel
theorem dL_points_84 : decode cL_points 84 = .ok (.iconst 0, 1) := by decide +kernel
theorem dL_points_85 : decode cL_points 85 = .ok (.iadd, 1) := by decide +kernel
theorem dL_points_86 : decode cL_points 86 = .ok (.istore 6, 2) := by decide +kernel
theorem dL_points_88 : decode cL_points 88 = .ok (.iconst 0, 1) := by decide +kernel
theorem dL_points_89 : decode cL_points 89 = .ok (.istore 8, 2) := by decide +kernel
theorem dL_points_91 : decode cL_points 91 = .ok (.iconst 0, 1) := by decide +kernel
theorem dL_points_92 : decode cL_points 92 = .ok (.istore 9, 2) := by decide +kernel
theorem dL_points_94 : decode cL_points 94 = .ok (.iconst 0, 1) := by decide +kernel
theorem dL_points_95 : decode cL_points 95 = .ok (.istore 10, 2) := by decide +kernel
theorem dL_points_97 : decode cL_points 97 = .ok (.iload 10, 2) := by decide +kernel
theorem dL_points_99 : decode cL_points 99 = .ok (.aload 5, 2) := by decide +kernel
theorem dL_points_101 : decode cL_points 101 = .ok (.iconst 2, 1) := by decide +kernel
theorem dL_points_102 : decode cL_points 102 = .ok (.iaload, 1) := by decide +kernel
theorem dL_points_103 : decode cL_points 103 = .ok (.if_icmp .ge 84, 3) := by decide +kernel
theorem dL_points_106 : decode cL_points 106 = .ok (.aload_n 2, 1) := by decide +kernel
theorem dL_points_107 : decode cL_points 107 = .ok (.iload 10, 2) := by decide +kernel
theorem dL_points_109 : decode cL_points 109 = .ok (.iaload, 1) := by decide +kernel
theorem dL_points_110 : decode cL_points 110 = .ok (.iconst 3, 1) := by decide +kernel
theorem dL_points_111 : decode cL_points 111 = .ok (.iand, 1) := by decide +kernel
theorem dL_points_112 : decode cL_points 112 = .ok (.iload_n 0, 1) := by decide +kernel
theorem dL_points_113 : decode cL_points 113 = .ok (.if_icmp .ne 68, 3) := by decide +kernel
theorem dL_points_116 : decode cL_points 116 = .ok (.aload 5, 2) := by decide +kernel
theorem dL_points_118 : decode cL_points 118 = .ok (.iconst 0, 1) := by decide +kernel
theorem dL_points_119 : decode cL_points 119 = .ok (.iaload, 1) := by decide +kernel
theorem dL_points_120 : decode cL_points 120 = .ok (.aload_n 3, 1) := by decide +kernel
theorem dL_points_121 : decode cL_points 121 = .ok (.iload 10, 2) := by decide +kernel
theorem dL_points_123 : decode cL_points 123 = .ok (.iaload, 1) := by decide +kernel
theorem dL_points_124 : decode cL_points 124 = .ok (.sipush 1095, 3) := by decide +kernel
theorem dL_points_127 : decode cL_points 127 = .ok (.iadd, 1) := by decide +kernel
theorem dL_points_128 : decode cL_points 128 = .ok (.if_icmp .lt 6, 3) := by decide +kernel
theorem dL_points_131 : decode cL_points 131 = .ok (.goto 50, 3) := by decide +kernel
theorem dL_points_134 : decode cL_points 134 = .ok (.aload_n 2, 1) := by decide +kernel
theorem dL_points_135 : decode cL_points 135 = .ok (.iload 10, 2) := by decide +kernel
theorem dL_points_137 : decode cL_points 137 = .ok (.iaload, 1) := by decide +kernel
theorem dL_points_138 : decode cL_points 138 = .ok (.invokestatic 112, 3) := by decide +kernel
theorem dL_points_141 : decode cL_points 141 = .ok (.iload 8, 2) := by decide +kernel
theorem dL_points_143 : decode cL_points 143 = .ok (.if_icmp .le 13, 3) := by decide +kernel
theorem dL_points_146 : decode cL_points 146 = .ok (.aload_n 2, 1) := by decide +kernel
theorem dL_points_147 : decode cL_points 147 = .ok (.iload 10, 2) := by decide +kernel
theorem dL_points_149 : decode cL_points 149 = .ok (.iaload, 1) := by decide +kernel
theorem dL_points_150 : decode cL_points 150 = .ok (.invokestatic 112, 3) := by decide +kernel
theorem dL_points_153 : decode cL_points 153 = .ok (.goto 5, 3) := by decide +kernel
theorem dL_points_156 : decode cL_points 156 = .ok (.iload 8, 2) := by decide +kernel
theorem dL_points_158 : decode cL_points 158 = .ok (.istore 8, 2) := by decide +kernel
theorem dL_points_160 : decode cL_points 160 = .ok (.iload 9, 2) := by decide +kernel
theorem dL_points_162 : decode cL_points 162 = .ok (.iload 10, 2) := by decide +kernel
theorem dL_points_164 : decode cL_points 164 = .ok (.aload_n 2, 1) := by decide +kernel
theorem dL_points_165 : decode cL_points 165 = .ok (.aload 4, 2) := by decide +kernel
theorem dL_points_167 : decode cL_points 167 = .ok (.invokestatic 104, 3) := by decide +kernel
theorem dL_points_170 : decode cL_points 170 = .ok (.ifCond .eq 7, 3) := by decide +kernel
theorem dL_points_173 : decode cL_points 173 = .ok (.iconst 1, 1) := by decide +kernel
theorem dL_points_174 : decode cL_points 174 = .ok (.goto 4, 3) := by decide +kernel
theorem dL_points_177 : decode cL_points 177 = .ok (.iconst 0, 1) := by decide +kernel
theorem dL_points_178 : decode cL_points 178 = .ok (.iadd, 1) := by decide +kernel
theorem dL_points_179 : decode cL_points 179 = .ok (.istore 9, 2) := by decide +kernel
theorem dL_points_181 : decode cL_points 181 = .ok (.iinc 10 1, 3) := by decide +kernel
theorem dL_points_184 : decode cL_points 184 = .ok (.goto (-87), 3) := by decide +kernel
theorem dL_points_187 : decode cL_points 187 = .ok (.iload 6, 2) := by decide +kernel
theorem dL_points_189 : decode cL_points 189 = .ok (.iload 8, 2) := by decide +kernel
theorem dL_points_191 : decode cL_points 191 = .ok (.iconst 5, 1) := by decide +kernel
theorem dL_points_192 : decode cL_points 192 = .ok (.if_icmp .le 7, 3) := by decide +kernel
theorem dL_points_195 : decode cL_points 195 = .ok (.iconst 1, 1) := by decide +kernel
theorem dL_points_196 : decode cL_points 196 = .ok (.goto 4, 3) := by decide +kernel
theorem dL_points_199 : decode cL_points 199 = .ok (.iconst 0, 1) := by decide +kernel
theorem dL_points_200 : decode cL_points 200 = .ok (.iadd, 1) := by decide +kernel
theorem dL_points_201 : decode cL_points 201 = .ok (.iload 9, 2) := by decide +kernel
theorem dL_points_203 : decode cL_points 203 = .ok (.iconst 2, 1) := by decide +kernel
theorem dL_points_204 : decode cL_points 204 = .ok (.if_icmp .le 7, 3) := by decide +kernel
theorem dL_points_207 : decode cL_points 207 = .ok (.iconst 2, 1) := by decide +kernel
theorem dL_points_208 : decode cL_points 208 = .ok (.goto 5, 3) := by decide +kernel
theorem dL_points_211 : decode cL_points 211 = .ok (.iload 9, 2) := by decide +kernel
theorem dL_points_213 : decode cL_points 213 = .ok (.iadd, 1) := by decide +kernel
theorem dL_points_214 : decode cL_points 214 = .ok (.ireturn, 1) := by decide +kernel
theorem dL_risk_0 : decode cL_risk 0 = .ok (.iload_n 0, 1) := by decide +kernel
theorem dL_risk_1 : decode cL_risk 1 = .ok (.aload_n 1, 1) := by decide +kernel
theorem dL_risk_2 : decode cL_risk 2 = .ok (.aload_n 2, 1) := by decide +kernel
theorem dL_risk_3 : decode cL_risk 3 = .ok (.aload_n 3, 1) := by decide +kernel
theorem dL_risk_4 : decode cL_risk 4 = .ok (.aload 4, 2) := by decide +kernel
theorem dL_risk_6 : decode cL_risk 6 = .ok (.aload 5, 2) := by decide +kernel
theorem dL_risk_8 : decode cL_risk 8 = .ok (.invokestatic 115, 3) := by decide +kernel
theorem dL_risk_11 : decode cL_risk 11 = .ok (.istore 6, 2) := by decide +kernel
theorem dL_risk_13 : decode cL_risk 13 = .ok (.iload 6, 2) := by decide +kernel
theorem dL_risk_15 : decode cL_risk 15 = .ok (.iconst 4, 1) := by decide +kernel
theorem dL_risk_16 : decode cL_risk 16 = .ok (.if_icmp .le 5, 3) := by decide +kernel
theorem dL_risk_19 : decode cL_risk 19 = .ok (.iconst 2, 1) := by decide +kernel
theorem dL_risk_20 : decode cL_risk 20 = .ok (.ireturn, 1) := by decide +kernel
theorem dL_risk_21 : decode cL_risk 21 = .ok (.iload 6, 2) := by decide +kernel
theorem dL_risk_23 : decode cL_risk 23 = .ok (.ifCond .gt 24, 3) := by decide +kernel
theorem dL_risk_26 : decode cL_risk 26 = .ok (.aload_n 1, 1) := by decide +kernel
theorem dL_risk_27 : decode cL_risk 27 = .ok (.bipush 14, 2) := by decide +kernel
theorem dL_risk_29 : decode cL_risk 29 = .ok (.iload_n 0, 1) := by decide +kernel
theorem dL_risk_30 : decode cL_risk 30 = .ok (.imul, 1) := by decide +kernel
theorem dL_risk_31 : decode cL_risk 31 = .ok (.iconst 3, 1) := by decide +kernel
theorem dL_risk_32 : decode cL_risk 32 = .ok (.iadd, 1) := by decide +kernel
theorem dL_risk_33 : decode cL_risk 33 = .ok (.iaload, 1) := by decide +kernel
theorem dL_risk_34 : decode cL_risk 34 = .ok (.aload_n 2, 1) := by decide +kernel
theorem dL_risk_35 : decode cL_risk 35 = .ok (.aload_n 3, 1) := by decide +kernel
theorem dL_risk_36 : decode cL_risk 36 = .ok (.aload 4, 2) := by decide +kernel
theorem dL_risk_38 : decode cL_risk 38 = .ok (.aload 5, 2) := by decide +kernel
theorem dL_risk_40 : decode cL_risk 40 = .ok (.invokestatic 108, 3) := by decide +kernel
theorem dL_risk_43 : decode cL_risk 43 = .ok (.iconst 1, 1) := by decide +kernel
theorem dL_risk_44 : decode cL_risk 44 = .ok (.if_icmp .eq 7, 3) := by decide +kernel
theorem dL_risk_47 : decode cL_risk 47 = .ok (.iconst 1, 1) := by decide +kernel
theorem dL_risk_48 : decode cL_risk 48 = .ok (.goto 4, 3) := by decide +kernel
theorem dL_risk_51 : decode cL_risk 51 = .ok (.iconst 0, 1) := by decide +kernel
theorem dL_risk_52 : decode cL_risk 52 = .ok (.ireturn, 1) := by decide +kernel
theorem dL_priority_0 : decode cL_priority 0 = .ok (.aload_n 1, 1) := by decide +kernel
theorem dL_priority_1 : decode cL_priority 1 = .ok (.bipush 14, 2) := by decide +kernel
theorem dL_priority_3 : decode cL_priority 3 = .ok (.iload_n 0, 1) := by decide +kernel
theorem dL_priority_4 : decode cL_priority 4 = .ok (.imul, 1) := by decide +kernel
theorem dL_priority_5 : decode cL_priority 5 = .ok (.bipush 8, 2) := by decide +kernel
theorem dL_priority_7 : decode cL_priority 7 = .ok (.iadd, 1) := by decide +kernel
theorem dL_priority_8 : decode cL_priority 8 = .ok (.iaload, 1) := by decide +kernel
theorem dL_priority_9 : decode cL_priority 9 = .ok (.istore 6, 2) := by decide +kernel
theorem dL_priority_11 : decode cL_priority 11 = .ok (.iload 6, 2) := by decide +kernel
theorem dL_priority_13 : decode cL_priority 13 = .ok (.iconst (-1), 1) := by decide +kernel
theorem dL_priority_14 : decode cL_priority 14 = .ok (.if_icmp .ne 5, 3) := by decide +kernel
theorem dL_priority_17 : decode cL_priority 17 = .ok (.iconst 2, 1) := by decide +kernel
theorem dL_priority_18 : decode cL_priority 18 = .ok (.ireturn, 1) := by decide +kernel
theorem dL_priority_19 : decode cL_priority 19 = .ok (.iload_n 0, 1) := by decide +kernel
theorem dL_priority_20 : decode cL_priority 20 = .ok (.aload_n 1, 1) := by decide +kernel
theorem dL_priority_21 : decode cL_priority 21 = .ok (.aload_n 2, 1) := by decide +kernel
theorem dL_priority_22 : decode cL_priority 22 = .ok (.aload_n 3, 1) := by decide +kernel
theorem dL_priority_23 : decode cL_priority 23 = .ok (.aload 4, 2) := by decide +kernel
theorem dL_priority_25 : decode cL_priority 25 = .ok (.aload 5, 2) := by decide +kernel
theorem dL_priority_27 : decode cL_priority 27 = .ok (.invokestatic 119, 3) := by decide +kernel
theorem dL_priority_30 : decode cL_priority 30 = .ok (.istore 7, 2) := by decide +kernel
theorem dL_priority_32 : decode cL_priority 32 = .ok (.aload_n 3, 1) := by decide +kernel
theorem dL_priority_33 : decode cL_priority 33 = .ok (.iload 6, 2) := by decide +kernel
theorem dL_priority_35 : decode cL_priority 35 = .ok (.iaload, 1) := by decide +kernel
theorem dL_priority_36 : decode cL_priority 36 = .ok (.iload 7, 2) := by decide +kernel
theorem dL_priority_38 : decode cL_priority 38 = .ok (.iconst 2, 1) := by decide +kernel
theorem dL_priority_39 : decode cL_priority 39 = .ok (.if_icmp .ne 9, 3) := by decide +kernel
theorem dL_priority_42 : decode cL_priority 42 = .ok (.sipush 150, 3) := by decide +kernel
theorem dL_priority_45 : decode cL_priority 45 = .ok (.goto 17, 3) := by decide +kernel
theorem dL_priority_48 : decode cL_priority 48 = .ok (.iload 7, 2) := by decide +kernel
theorem dL_priority_50 : decode cL_priority 50 = .ok (.ifCond .ne 9, 3) := by decide +kernel
theorem dL_priority_53 : decode cL_priority 53 = .ok (.sipush 720, 3) := by decide +kernel
theorem dL_priority_56 : decode cL_priority 56 = .ok (.goto 6, 3) := by decide +kernel
theorem dL_priority_59 : decode cL_priority 59 = .ok (.sipush 300, 3) := by decide +kernel
theorem dL_priority_62 : decode cL_priority 62 = .ok (.iadd, 1) := by decide +kernel
theorem dL_priority_63 : decode cL_priority 63 = .ok (.istore 8, 2) := by decide +kernel
theorem dL_priority_65 : decode cL_priority 65 = .ok (.aload_n 3, 1) := by decide +kernel
theorem dL_priority_66 : decode cL_priority 66 = .ok (.iload 6, 2) := by decide +kernel
theorem dL_priority_68 : decode cL_priority 68 = .ok (.iaload, 1) := by decide +kernel
theorem dL_priority_69 : decode cL_priority 69 = .ok (.iload 7, 2) := by decide +kernel
theorem dL_priority_71 : decode cL_priority 71 = .ok (.iconst 2, 1) := by decide +kernel
theorem dL_priority_72 : decode cL_priority 72 = .ok (.if_icmp .ne 9, 3) := by decide +kernel
theorem dL_priority_75 : decode cL_priority 75 = .ok (.sipush 181, 3) := by decide +kernel
theorem dL_priority_78 : decode cL_priority 78 = .ok (.goto 17, 3) := by decide +kernel
theorem dL_priority_81 : decode cL_priority 81 = .ok (.iload 7, 2) := by decide +kernel
theorem dL_priority_83 : decode cL_priority 83 = .ok (.ifCond .ne 9, 3) := by decide +kernel
theorem dL_priority_86 : decode cL_priority 86 = .ok (.sipush 1081, 3) := by decide +kernel
theorem dL_priority_89 : decode cL_priority 89 = .ok (.goto 6, 3) := by decide +kernel
theorem dL_priority_92 : decode cL_priority 92 = .ok (.sipush 361, 3) := by decide +kernel
theorem dL_priority_95 : decode cL_priority 95 = .ok (.iadd, 1) := by decide +kernel
theorem dL_priority_96 : decode cL_priority 96 = .ok (.istore 9, 2) := by decide +kernel
theorem dL_priority_98 : decode cL_priority 98 = .ok (.aload 5, 2) := by decide +kernel
theorem dL_priority_100 : decode cL_priority 100 = .ok (.iconst 0, 1) := by decide +kernel
theorem dL_priority_101 : decode cL_priority 101 = .ok (.iaload, 1) := by decide +kernel
theorem dL_priority_102 : decode cL_priority 102 = .ok (.iload 8, 2) := by decide +kernel
theorem dL_priority_104 : decode cL_priority 104 = .ok (.if_icmp .ge 7, 3) := by decide +kernel
theorem dL_priority_107 : decode cL_priority 107 = .ok (.iconst 0, 1) := by decide +kernel
theorem dL_priority_108 : decode cL_priority 108 = .ok (.goto 17, 3) := by decide +kernel
theorem dL_priority_111 : decode cL_priority 111 = .ok (.aload 5, 2) := by decide +kernel
theorem dL_priority_113 : decode cL_priority 113 = .ok (.iconst 0, 1) := by decide +kernel
theorem dL_priority_114 : decode cL_priority 114 = .ok (.iaload, 1) := by decide +kernel
theorem dL_priority_115 : decode cL_priority 115 = .ok (.iload 9, 2) := by decide +kernel
theorem dL_priority_117 : decode cL_priority 117 = .ok (.if_icmp .ge 7, 3) := by decide +kernel
theorem dL_priority_120 : decode cL_priority 120 = .ok (.iconst 1, 1) := by decide +kernel
theorem dL_priority_121 : decode cL_priority 121 = .ok (.goto 4, 3) := by decide +kernel
theorem dL_priority_124 : decode cL_priority 124 = .ok (.iconst 2, 1) := by decide +kernel
theorem dL_priority_125 : decode cL_priority 125 = .ok (.ireturn, 1) := by decide +kernel
theorem dL_ground_0 : decode cL_ground 0 = .ok (.iconst 0, 1) := by decide +kernel
theorem dL_ground_1 : decode cL_ground 1 = .ok (.istore 5, 2) := by decide +kernel
theorem dL_ground_3 : decode cL_ground 3 = .ok (.iload 5, 2) := by decide +kernel
theorem dL_ground_5 : decode cL_ground 5 = .ok (.aload 4, 2) := by decide +kernel
theorem dL_ground_7 : decode cL_ground 7 = .ok (.iconst 1, 1) := by decide +kernel
theorem dL_ground_8 : decode cL_ground 8 = .ok (.iaload, 1) := by decide +kernel
theorem dL_ground_9 : decode cL_ground 9 = .ok (.if_icmp .ge 118, 3) := by decide +kernel
theorem dL_ground_12 : decode cL_ground 12 = .ok (.aload_n 3, 1) := by decide +kernel
theorem dL_ground_13 : decode cL_ground 13 = .ok (.iconst 5, 1) := by decide +kernel
theorem dL_ground_14 : decode cL_ground 14 = .ok (.iload 5, 2) := by decide +kernel
theorem dL_ground_16 : decode cL_ground 16 = .ok (.imul, 1) := by decide +kernel
theorem dL_ground_17 : decode cL_ground 17 = .ok (.iaload, 1) := by decide +kernel
theorem dL_ground_18 : decode cL_ground 18 = .ok (.iload_n 1, 1) := by decide +kernel
theorem dL_ground_19 : decode cL_ground 19 = .ok (.if_icmp .ne 49, 3) := by decide +kernel
theorem dL_ground_22 : decode cL_ground 22 = .ok (.aload_n 2, 1) := by decide +kernel
theorem dL_ground_23 : decode cL_ground 23 = .ok (.bipush 14, 2) := by decide +kernel
theorem dL_ground_25 : decode cL_ground 25 = .ok (.iload_n 0, 1) := by decide +kernel
theorem dL_ground_26 : decode cL_ground 26 = .ok (.imul, 1) := by decide +kernel
theorem dL_ground_27 : decode cL_ground 27 = .ok (.iconst 1, 1) := by decide +kernel
theorem dL_ground_28 : decode cL_ground 28 = .ok (.iadd, 1) := by decide +kernel
theorem dL_ground_29 : decode cL_ground 29 = .ok (.iaload, 1) := by decide +kernel
theorem dL_ground_30 : decode cL_ground 30 = .ok (.aload_n 3, 1) := by decide +kernel
theorem dL_ground_31 : decode cL_ground 31 = .ok (.iconst 5, 1) := by decide +kernel
theorem dL_ground_32 : decode cL_ground 32 = .ok (.iload 5, 2) := by decide +kernel
theorem dL_ground_34 : decode cL_ground 34 = .ok (.imul, 1) := by decide +kernel
theorem dL_ground_35 : decode cL_ground 35 = .ok (.iconst 1, 1) := by decide +kernel
theorem dL_ground_36 : decode cL_ground 36 = .ok (.iadd, 1) := by decide +kernel
theorem dL_ground_37 : decode cL_ground 37 = .ok (.iaload, 1) := by decide +kernel
theorem dL_ground_38 : decode cL_ground 38 = .ok (.if_icmp .lt 30, 3) := by decide +kernel
theorem dL_ground_41 : decode cL_ground 41 = .ok (.aload_n 3, 1) := by decide +kernel
theorem dL_ground_42 : decode cL_ground 42 = .ok (.iconst 5, 1) := by decide +kernel
theorem dL_ground_43 : decode cL_ground 43 = .ok (.iload 5, 2) := by decide +kernel
theorem dL_ground_45 : decode cL_ground 45 = .ok (.imul, 1) := by decide +kernel
theorem dL_ground_46 : decode cL_ground 46 = .ok (.iconst 2, 1) := by decide +kernel
theorem dL_ground_47 : decode cL_ground 47 = .ok (.iadd, 1) := by decide +kernel
theorem dL_ground_48 : decode cL_ground 48 = .ok (.iaload, 1) := by decide +kernel
theorem dL_ground_49 : decode cL_ground 49 = .ok (.aload_n 2, 1) := by decide +kernel
theorem dL_ground_50 : decode cL_ground 50 = .ok (.bipush 14, 2) := by decide +kernel
theorem dL_ground_52 : decode cL_ground 52 = .ok (.iload_n 0, 1) := by decide +kernel
theorem dL_ground_53 : decode cL_ground 53 = .ok (.imul, 1) := by decide +kernel
theorem dL_ground_54 : decode cL_ground 54 = .ok (.iconst 2, 1) := by decide +kernel
theorem dL_ground_55 : decode cL_ground 55 = .ok (.iadd, 1) := by decide +kernel
theorem dL_ground_56 : decode cL_ground 56 = .ok (.iaload, 1) := by decide +kernel
theorem dL_ground_57 : decode cL_ground 57 = .ok (.ishr, 1) := by decide +kernel
theorem dL_ground_58 : decode cL_ground 58 = .ok (.iconst 1, 1) := by decide +kernel
theorem dL_ground_59 : decode cL_ground 59 = .ok (.iand, 1) := by decide +kernel
theorem dL_ground_60 : decode cL_ground 60 = .ok (.iconst 1, 1) := by decide +kernel
theorem dL_ground_61 : decode cL_ground 61 = .ok (.if_icmp .ne 7, 3) := by decide +kernel
theorem dL_ground_64 : decode cL_ground 64 = .ok (.iconst 1, 1) := by decide +kernel
theorem dL_ground_65 : decode cL_ground 65 = .ok (.goto 4, 3) := by decide +kernel
theorem dL_ground_68 : decode cL_ground 68 = .ok (.iconst 0, 1) := by decide +kernel
theorem dL_ground_69 : decode cL_ground 69 = .ok (.istore 6, 2) := by decide +kernel
theorem dL_ground_71 : decode cL_ground 71 = .ok (.aload_n 3, 1) := by decide +kernel
theorem dL_ground_72 : decode cL_ground 72 = .ok (.iconst 5, 1) := by decide +kernel
theorem dL_ground_73 : decode cL_ground 73 = .ok (.iload 5, 2) := by decide +kernel
theorem dL_ground_75 : decode cL_ground 75 = .ok (.imul, 1) := by decide +kernel
theorem dL_ground_76 : decode cL_ground 76 = .ok (.iconst 3, 1) := by decide +kernel
theorem dL_ground_77 : decode cL_ground 77 = .ok (.iadd, 1) := by decide +kernel
theorem dL_ground_78 : decode cL_ground 78 = .ok (.iaload, 1) := by decide +kernel
theorem dL_ground_79 : decode cL_ground 79 = .ok (.istore 7, 2) := by decide +kernel
theorem dL_ground_81 : decode cL_ground 81 = .ok (.aload_n 2, 1) := by decide +kernel
theorem dL_ground_82 : decode cL_ground 82 = .ok (.bipush 14, 2) := by decide +kernel
theorem dL_ground_84 : decode cL_ground 84 = .ok (.iload_n 0, 1) := by decide +kernel
theorem dL_ground_85 : decode cL_ground 85 = .ok (.imul, 1) := by decide +kernel
theorem dL_ground_86 : decode cL_ground 86 = .ok (.iaload, 1) := by decide +kernel
theorem dL_ground_87 : decode cL_ground 87 = .ok (.iload 7, 2) := by decide +kernel
theorem dL_ground_89 : decode cL_ground 89 = .ok (.if_icmp .ge 16, 3) := by decide +kernel
theorem dL_ground_92 : decode cL_ground 92 = .ok (.iload 7, 2) := by decide +kernel
theorem dL_ground_94 : decode cL_ground 94 = .ok (.aload_n 3, 1) := by decide +kernel
theorem dL_ground_95 : decode cL_ground 95 = .ok (.iconst 5, 1) := by decide +kernel
theorem dL_ground_96 : decode cL_ground 96 = .ok (.iload 5, 2) := by decide +kernel
theorem dL_ground_98 : decode cL_ground 98 = .ok (.imul, 1) := by decide +kernel
theorem dL_ground_99 : decode cL_ground 99 = .ok (.iconst 4, 1) := by decide +kernel
theorem dL_ground_100 : decode cL_ground 100 = .ok (.iadd, 1) := by decide +kernel
theorem dL_ground_101 : decode cL_ground 101 = .ok (.iaload, 1) := by decide +kernel
theorem dL_ground_102 : decode cL_ground 102 = .ok (.iadd, 1) := by decide +kernel
theorem dL_ground_103 : decode cL_ground 103 = .ok (.istore 7, 2) := by decide +kernel
theorem dL_ground_105 : decode cL_ground 105 = .ok (.iload 6, 2) := by decide +kernel
theorem dL_ground_107 : decode cL_ground 107 = .ok (.ifCond .eq 14, 3) := by decide +kernel
theorem dL_ground_110 : decode cL_ground 110 = .ok (.iload 7, 2) := by decide +kernel
theorem dL_ground_112 : decode cL_ground 112 = .ok (.aload 4, 2) := by decide +kernel
theorem dL_ground_114 : decode cL_ground 114 = .ok (.iconst 0, 1) := by decide +kernel
theorem dL_ground_115 : decode cL_ground 115 = .ok (.iaload, 1) := by decide +kernel
theorem dL_ground_116 : decode cL_ground 116 = .ok (.if_icmp .gt 5, 3) := by decide +kernel
theorem dL_ground_119 : decode cL_ground 119 = .ok (.iconst 1, 1) := by decide +kernel
theorem dL_ground_120 : decode cL_ground 120 = .ok (.ireturn, 1) := by decide +kernel
theorem dL_ground_121 : decode cL_ground 121 = .ok (.iinc 5 1, 3) := by decide +kernel
theorem dL_ground_124 : decode cL_ground 124 = .ok (.goto (-121), 3) := by decide +kernel
theorem dL_ground_127 : decode cL_ground 127 = .ok (.iconst 0, 1) := by decide +kernel
theorem dL_ground_128 : decode cL_ground 128 = .ok (.ireturn, 1) := by decide +kernel
theorem dL_open_0 : decode cL_open 0 = .ok (.iconst 0, 1) := by decide +kernel
theorem dL_open_1 : decode cL_open 1 = .ok (.istore 5, 2) := by decide +kernel
theorem dL_open_3 : decode cL_open 3 = .ok (.iconst 0, 1) := by decide +kernel
theorem dL_open_4 : decode cL_open 4 = .ok (.istore 6, 2) := by decide +kernel
theorem dL_open_6 : decode cL_open 6 = .ok (.iload 6, 2) := by decide +kernel
theorem dL_open_8 : decode cL_open 8 = .ok (.aload_n 2, 1) := by decide +kernel
theorem dL_open_9 : decode cL_open 9 = .ok (.iload_n 0, 1) := by decide +kernel
theorem dL_open_10 : decode cL_open 10 = .ok (.iaload, 1) := by decide +kernel
theorem dL_open_11 : decode cL_open 11 = .ok (.invokestatic 112, 3) := by decide +kernel
theorem dL_open_14 : decode cL_open 14 = .ok (.if_icmp .ge 49, 3) := by decide +kernel
theorem dL_open_17 : decode cL_open 17 = .ok (.aload_n 3, 1) := by decide +kernel
theorem dL_open_18 : decode cL_open 18 = .ok (.iload_n 0, 1) := by decide +kernel
theorem dL_open_19 : decode cL_open 19 = .ok (.iaload, 1) := by decide +kernel
theorem dL_open_20 : decode cL_open 20 = .ok (.iconst 2, 1) := by decide +kernel
theorem dL_open_21 : decode cL_open 21 = .ok (.iload 6, 2) := by decide +kernel
theorem dL_open_23 : decode cL_open 23 = .ok (.imul, 1) := by decide +kernel
theorem dL_open_24 : decode cL_open 24 = .ok (.ishr, 1) := by decide +kernel
theorem dL_open_25 : decode cL_open 25 = .ok (.iconst 3, 1) := by decide +kernel
theorem dL_open_26 : decode cL_open 26 = .ok (.iand, 1) := by decide +kernel
theorem dL_open_27 : decode cL_open 27 = .ok (.ifCond .ne 30, 3) := by decide +kernel
theorem dL_open_30 : decode cL_open 30 = .ok (.iload 5, 2) := by decide +kernel
theorem dL_open_32 : decode cL_open 32 = .ok (.iload_n 1, 1) := by decide +kernel
theorem dL_open_33 : decode cL_open 33 = .ok (.ifCond .eq 20, 3) := by decide +kernel
theorem dL_open_36 : decode cL_open 36 = .ok (.aload 4, 2) := by decide +kernel
theorem dL_open_38 : decode cL_open 38 = .ok (.iload_n 0, 1) := by decide +kernel
theorem dL_open_39 : decode cL_open 39 = .ok (.laload, 1) := by decide +kernel
theorem dL_open_40 : decode cL_open 40 = .ok (.iconst 4, 1) := by decide +kernel
theorem dL_open_41 : decode cL_open 41 = .ok (.iload 6, 2) := by decide +kernel
theorem dL_open_43 : decode cL_open 43 = .ok (.imul, 1) := by decide +kernel
theorem dL_open_44 : decode cL_open 44 = .ok (.lshr, 1) := by decide +kernel
theorem dL_open_45 : decode cL_open 45 = .ok (.ldc2_w 122, 3) := by decide +kernel
theorem dL_open_48 : decode cL_open 48 = .ok (.land, 1) := by decide +kernel
theorem dL_open_49 : decode cL_open 49 = .ok (.l2i, 1) := by decide +kernel
theorem dL_open_50 : decode cL_open 50 = .ok (.goto 4, 3) := by decide +kernel
theorem dL_open_53 : decode cL_open 53 = .ok (.iconst 1, 1) := by decide +kernel
theorem dL_open_54 : decode cL_open 54 = .ok (.iadd, 1) := by decide +kernel
theorem dL_open_55 : decode cL_open 55 = .ok (.istore 5, 2) := by decide +kernel
theorem dL_open_57 : decode cL_open 57 = .ok (.iinc 6 1, 3) := by decide +kernel
theorem dL_open_60 : decode cL_open 60 = .ok (.goto (-54), 3) := by decide +kernel
theorem dL_open_63 : decode cL_open 63 = .ok (.iload 5, 2) := by decide +kernel
theorem dL_open_65 : decode cL_open 65 = .ok (.ireturn, 1) := by decide +kernel
theorem dL_isTold_0 : decode cL_isTold 0 = .ok (.iconst 0, 1) := by decide +kernel
theorem dL_isTold_1 : decode cL_isTold 1 = .ok (.istore 11, 2) := by decide +kernel
theorem dL_isTold_3 : decode cL_isTold 3 = .ok (.iload 11, 2) := by decide +kernel
theorem dL_isTold_5 : decode cL_isTold 5 = .ok (.aload 10, 2) := by decide +kernel
theorem dL_isTold_7 : decode cL_isTold 7 = .ok (.bipush 8, 2) := by decide +kernel
theorem dL_isTold_9 : decode cL_isTold 9 = .ok (.iaload, 1) := by decide +kernel
theorem dL_isTold_10 : decode cL_isTold 10 = .ok (.if_icmp .ge 204, 3) := by decide +kernel
theorem dL_isTold_13 : decode cL_isTold 13 = .ok (.aload_n 0, 1) := by decide +kernel
theorem dL_isTold_14 : decode cL_isTold 14 = .ok (.iload 11, 2) := by decide +kernel
theorem dL_isTold_16 : decode cL_isTold 16 = .ok (.iconst 0, 1) := by decide +kernel
theorem dL_isTold_17 : decode cL_isTold 17 = .ok (.invokestatic 124, 3) := by decide +kernel
theorem dL_isTold_20 : decode cL_isTold 20 = .ok (.iload 11, 2) := by decide +kernel
theorem dL_isTold_22 : decode cL_isTold 22 = .ok (.aload_n 2, 1) := by decide +kernel
theorem dL_isTold_23 : decode cL_isTold 23 = .ok (.aload 5, 2) := by decide +kernel
theorem dL_isTold_25 : decode cL_isTold 25 = .ok (.aload 6, 2) := by decide +kernel
theorem dL_isTold_27 : decode cL_isTold 27 = .ok (.aload 7, 2) := by decide +kernel
theorem dL_isTold_29 : decode cL_isTold 29 = .ok (.aload 10, 2) := by decide +kernel
theorem dL_isTold_31 : decode cL_isTold 31 = .ok (.invokestatic 115, 3) := by decide +kernel
theorem dL_isTold_34 : decode cL_isTold 34 = .ok (.if_icmp .ne 172, 3) := by decide +kernel
theorem dL_isTold_37 : decode cL_isTold 37 = .ok (.aload_n 0, 1) := by decide +kernel
theorem dL_isTold_38 : decode cL_isTold 38 = .ok (.iload 11, 2) := by decide +kernel
theorem dL_isTold_40 : decode cL_isTold 40 = .ok (.iconst 1, 1) := by decide +kernel
theorem dL_isTold_41 : decode cL_isTold 41 = .ok (.invokestatic 124, 3) := by decide +kernel
theorem dL_isTold_44 : decode cL_isTold 44 = .ok (.iload 11, 2) := by decide +kernel
theorem dL_isTold_46 : decode cL_isTold 46 = .ok (.aload_n 2, 1) := by decide +kernel
theorem dL_isTold_47 : decode cL_isTold 47 = .ok (.aload 5, 2) := by decide +kernel
theorem dL_isTold_49 : decode cL_isTold 49 = .ok (.aload 6, 2) := by decide +kernel
theorem dL_isTold_51 : decode cL_isTold 51 = .ok (.aload 7, 2) := by decide +kernel
theorem dL_isTold_53 : decode cL_isTold 53 = .ok (.aload 10, 2) := by decide +kernel
theorem dL_isTold_55 : decode cL_isTold 55 = .ok (.invokestatic 119, 3) := by decide +kernel
theorem dL_isTold_58 : decode cL_isTold 58 = .ok (.if_icmp .ne 148, 3) := by decide +kernel
theorem dL_isTold_61 : decode cL_isTold 61 = .ok (.aload_n 0, 1) := by decide +kernel
theorem dL_isTold_62 : decode cL_isTold 62 = .ok (.iload 11, 2) := by decide +kernel
theorem dL_isTold_64 : decode cL_isTold 64 = .ok (.iconst 2, 1) := by decide +kernel
theorem dL_isTold_65 : decode cL_isTold 65 = .ok (.invokestatic 124, 3) := by decide +kernel
theorem dL_isTold_68 : decode cL_isTold 68 = .ok (.iload 11, 2) := by decide +kernel
theorem dL_isTold_70 : decode cL_isTold 70 = .ok (.aload_n 2, 1) := by decide +kernel
theorem dL_isTold_71 : decode cL_isTold 71 = .ok (.aload 5, 2) := by decide +kernel
theorem dL_isTold_73 : decode cL_isTold 73 = .ok (.aload 6, 2) := by decide +kernel
theorem dL_isTold_75 : decode cL_isTold 75 = .ok (.aload 7, 2) := by decide +kernel
theorem dL_isTold_77 : decode cL_isTold 77 = .ok (.aload 10, 2) := by decide +kernel
theorem dL_isTold_79 : decode cL_isTold 79 = .ok (.invokestatic 127, 3) := by decide +kernel
theorem dL_isTold_82 : decode cL_isTold 82 = .ok (.if_icmp .ne 124, 3) := by decide +kernel
theorem dL_isTold_85 : decode cL_isTold 85 = .ok (.aload_n 0, 1) := by decide +kernel
theorem dL_isTold_86 : decode cL_isTold 86 = .ok (.iload 11, 2) := by decide +kernel
theorem dL_isTold_88 : decode cL_isTold 88 = .ok (.iconst 3, 1) := by decide +kernel
theorem dL_isTold_89 : decode cL_isTold 89 = .ok (.invokestatic 124, 3) := by decide +kernel
theorem dL_isTold_92 : decode cL_isTold 92 = .ok (.aload_n 2, 1) := by decide +kernel
theorem dL_isTold_93 : decode cL_isTold 93 = .ok (.bipush 14, 2) := by decide +kernel
theorem dL_isTold_95 : decode cL_isTold 95 = .ok (.iload 11, 2) := by decide +kernel
theorem dL_isTold_97 : decode cL_isTold 97 = .ok (.imul, 1) := by decide +kernel
theorem dL_isTold_98 : decode cL_isTold 98 = .ok (.bipush 6, 2) := by decide +kernel
theorem dL_isTold_100 : decode cL_isTold 100 = .ok (.iadd, 1) := by decide +kernel
theorem dL_isTold_101 : decode cL_isTold 101 = .ok (.iaload, 1) := by decide +kernel
theorem dL_isTold_102 : decode cL_isTold 102 = .ok (.if_icmp .ne 104, 3) := by decide +kernel
theorem dL_isTold_105 : decode cL_isTold 105 = .ok (.aload_n 0, 1) := by decide +kernel
theorem dL_isTold_106 : decode cL_isTold 106 = .ok (.iload 11, 2) := by decide +kernel
theorem dL_isTold_108 : decode cL_isTold 108 = .ok (.iconst 4, 1) := by decide +kernel
theorem dL_isTold_109 : decode cL_isTold 109 = .ok (.invokestatic 124, 3) := by decide +kernel
theorem dL_isTold_112 : decode cL_isTold 112 = .ok (.aload_n 2, 1) := by decide +kernel
theorem dL_isTold_113 : decode cL_isTold 113 = .ok (.bipush 14, 2) := by decide +kernel
theorem dL_isTold_115 : decode cL_isTold 115 = .ok (.iload 11, 2) := by decide +kernel
theorem dL_isTold_117 : decode cL_isTold 117 = .ok (.imul, 1) := by decide +kernel
theorem dL_isTold_118 : decode cL_isTold 118 = .ok (.bipush 9, 2) := by decide +kernel
theorem dL_isTold_120 : decode cL_isTold 120 = .ok (.iadd, 1) := by decide +kernel
theorem dL_isTold_121 : decode cL_isTold 121 = .ok (.iaload, 1) := by decide +kernel
theorem dL_isTold_122 : decode cL_isTold 122 = .ok (.iconst (-1), 1) := by decide +kernel
theorem dL_isTold_123 : decode cL_isTold 123 = .ok (.if_icmp .ne 7, 3) := by decide +kernel
theorem dL_isTold_126 : decode cL_isTold 126 = .ok (.iconst 0, 1) := by decide +kernel
theorem dL_isTold_127 : decode cL_isTold 127 = .ok (.goto 4, 3) := by decide +kernel
theorem dL_isTold_130 : decode cL_isTold 130 = .ok (.iconst 1, 1) := by decide +kernel
theorem dL_isTold_131 : decode cL_isTold 131 = .ok (.if_icmp .ne 75, 3) := by decide +kernel
theorem dL_isTold_134 : decode cL_isTold 134 = .ok (.aload_n 0, 1) := by decide +kernel
theorem dL_isTold_135 : decode cL_isTold 135 = .ok (.iload 11, 2) := by decide +kernel
theorem dL_isTold_137 : decode cL_isTold 137 = .ok (.iconst 5, 1) := by decide +kernel
theorem dL_isTold_138 : decode cL_isTold 138 = .ok (.invokestatic 124, 3) := by decide +kernel
theorem dL_isTold_141 : decode cL_isTold 141 = .ok (.aload_n 2, 1) := by decide +kernel
theorem dL_isTold_142 : decode cL_isTold 142 = .ok (.bipush 14, 2) := by decide +kernel
theorem dL_isTold_144 : decode cL_isTold 144 = .ok (.iload 11, 2) := by decide +kernel
theorem dL_isTold_146 : decode cL_isTold 146 = .ok (.imul, 1) := by decide +kernel
theorem dL_isTold_147 : decode cL_isTold 147 = .ok (.bipush 12, 2) := by decide +kernel
theorem dL_isTold_149 : decode cL_isTold 149 = .ok (.iadd, 1) := by decide +kernel
theorem dL_isTold_150 : decode cL_isTold 150 = .ok (.iaload, 1) := by decide +kernel
theorem dL_isTold_151 : decode cL_isTold 151 = .ok (.aload 10, 2) := by decide +kernel
theorem dL_isTold_153 : decode cL_isTold 153 = .ok (.iconst 0, 1) := by decide +kernel
theorem dL_isTold_154 : decode cL_isTold 154 = .ok (.iaload, 1) := by decide +kernel
theorem dL_isTold_155 : decode cL_isTold 155 = .ok (.if_icmp .ge 7, 3) := by decide +kernel
theorem dL_isTold_158 : decode cL_isTold 158 = .ok (.iconst 0, 1) := by decide +kernel
theorem dL_isTold_159 : decode cL_isTold 159 = .ok (.goto 4, 3) := by decide +kernel
theorem dL_isTold_162 : decode cL_isTold 162 = .ok (.iconst 1, 1) := by decide +kernel
theorem dL_isTold_163 : decode cL_isTold 163 = .ok (.if_icmp .ne 43, 3) := by decide +kernel
theorem dL_isTold_166 : decode cL_isTold 166 = .ok (.aload_n 0, 1) := by decide +kernel
theorem dL_isTold_167 : decode cL_isTold 167 = .ok (.iload 11, 2) := by decide +kernel
theorem dL_isTold_169 : decode cL_isTold 169 = .ok (.bipush 6, 2) := by decide +kernel
theorem dL_isTold_171 : decode cL_isTold 171 = .ok (.invokestatic 124, 3) := by decide +kernel
theorem dL_isTold_174 : decode cL_isTold 174 = .ok (.aload_n 2, 1) := by decide +kernel
theorem dL_isTold_175 : decode cL_isTold 175 = .ok (.bipush 14, 2) := by decide +kernel
theorem dL_isTold_177 : decode cL_isTold 177 = .ok (.iload 11, 2) := by decide +kernel
theorem dL_isTold_179 : decode cL_isTold 179 = .ok (.imul, 1) := by decide +kernel
theorem dL_isTold_180 : decode cL_isTold 180 = .ok (.bipush 13, 2) := by decide +kernel
theorem dL_isTold_182 : decode cL_isTold 182 = .ok (.iadd, 1) := by decide +kernel
theorem dL_isTold_183 : decode cL_isTold 183 = .ok (.iaload, 1) := by decide +kernel
theorem dL_isTold_184 : decode cL_isTold 184 = .ok (.if_icmp .ne 22, 3) := by decide +kernel
theorem dL_isTold_187 : decode cL_isTold 187 = .ok (.aload_n 0, 1) := by decide +kernel
theorem dL_isTold_188 : decode cL_isTold 188 = .ok (.iload 11, 2) := by decide +kernel
theorem dL_isTold_190 : decode cL_isTold 190 = .ok (.bipush 7, 2) := by decide +kernel
theorem dL_isTold_192 : decode cL_isTold 192 = .ok (.invokestatic 124, 3) := by decide +kernel
theorem dL_isTold_195 : decode cL_isTold 195 = .ok (.iload 11, 2) := by decide +kernel
theorem dL_isTold_197 : decode cL_isTold 197 = .ok (.aload_n 3, 1) := by decide +kernel
theorem dL_isTold_198 : decode cL_isTold 198 = .ok (.aload 10, 2) := by decide +kernel
theorem dL_isTold_200 : decode cL_isTold 200 = .ok (.invokestatic 130, 3) := by decide +kernel
theorem dL_isTold_203 : decode cL_isTold 203 = .ok (.if_icmp .eq 5, 3) := by decide +kernel
theorem dL_isTold_206 : decode cL_isTold 206 = .ok (.iconst 0, 1) := by decide +kernel
theorem dL_isTold_207 : decode cL_isTold 207 = .ok (.ireturn, 1) := by decide +kernel
theorem dL_isTold_208 : decode cL_isTold 208 = .ok (.iinc 11 1, 3) := by decide +kernel
theorem dL_isTold_211 : decode cL_isTold 211 = .ok (.goto (-208), 3) := by decide +kernel
theorem dL_isTold_214 : decode cL_isTold 214 = .ok (.aload 10, 2) := by decide +kernel
theorem dL_isTold_216 : decode cL_isTold 216 = .ok (.bipush 8, 2) := by decide +kernel
theorem dL_isTold_218 : decode cL_isTold 218 = .ok (.iaload, 1) := by decide +kernel
theorem dL_isTold_219 : decode cL_isTold 219 = .ok (.ifCond .le 217, 3) := by decide +kernel
theorem dL_isTold_222 : decode cL_isTold 222 = .ok (.iload_n 1, 1) := by decide +kernel
theorem dL_isTold_223 : decode cL_isTold 223 = .ok (.aload 10, 2) := by decide +kernel
theorem dL_isTold_225 : decode cL_isTold 225 = .ok (.bipush 8, 2) := by decide +kernel
theorem dL_isTold_227 : decode cL_isTold 227 = .ok (.iaload, 1) := by decide +kernel
theorem dL_isTold_228 : decode cL_isTold 228 = .ok (.invokestatic 134, 3) := by decide +kernel
theorem dL_isTold_231 : decode cL_isTold 231 = .ok (.istore 11, 2) := by decide +kernel
theorem dL_isTold_233 : decode cL_isTold 233 = .ok (.iload_n 1, 1) := by decide +kernel
theorem dL_isTold_234 : decode cL_isTold 234 = .ok (.iconst 3, 1) := by decide +kernel
theorem dL_isTold_235 : decode cL_isTold 235 = .ok (.ishr, 1) := by decide +kernel
theorem dL_isTold_236 : decode cL_isTold 236 = .ok (.iconst 4, 1) := by decide +kernel
theorem dL_isTold_237 : decode cL_isTold 237 = .ok (.invokestatic 134, 3) := by decide +kernel
theorem dL_isTold_240 : decode cL_isTold 240 = .ok (.istore 12, 2) := by decide +kernel
theorem dL_isTold_242 : decode cL_isTold 242 = .ok (.iload_n 1, 1) := by decide +kernel
theorem dL_isTold_243 : decode cL_isTold 243 = .ok (.bipush 6, 2) := by decide +kernel
theorem dL_isTold_245 : decode cL_isTold 245 = .ok (.ishr, 1) := by decide +kernel
theorem dL_isTold_246 : decode cL_isTold 246 = .ok (.aload 10, 2) := by decide +kernel
theorem dL_isTold_248 : decode cL_isTold 248 = .ok (.iconst 0, 1) := by decide +kernel
theorem dL_isTold_249 : decode cL_isTold 249 = .ok (.iaload, 1) := by decide +kernel
theorem dL_isTold_250 : decode cL_isTold 250 = .ok (.iconst 1, 1) := by decide +kernel
theorem dL_isTold_251 : decode cL_isTold 251 = .ok (.iadd, 1) := by decide +kernel
theorem dL_isTold_252 : decode cL_isTold 252 = .ok (.invokestatic 134, 3) := by decide +kernel
theorem dL_isTold_255 : decode cL_isTold 255 = .ok (.istore 13, 2) := by decide +kernel
theorem dL_isTold_257 : decode cL_isTold 257 = .ok (.iload_n 1, 1) := by decide +kernel
theorem dL_isTold_258 : decode cL_isTold 258 = .ok (.bipush 9, 2) := by decide +kernel
theorem dL_isTold_260 : decode cL_isTold 260 = .ok (.ishr, 1) := by decide +kernel
theorem dL_isTold_261 : decode cL_isTold 261 = .ok (.bipush 10, 2) := by decide +kernel
theorem dL_isTold_263 : decode cL_isTold 263 = .ok (.invokestatic 134, 3) := by decide +kernel
theorem dL_isTold_266 : decode cL_isTold 266 = .ok (.istore 14, 2) := by decide +kernel
theorem dL_isTold_268 : decode cL_isTold 268 = .ok (.iconst 0, 1) := by decide +kernel
theorem dL_isTold_269 : decode cL_isTold 269 = .ok (.istore 15, 2) := by decide +kernel
theorem dL_isTold_271 : decode cL_isTold 271 = .ok (.iconst 0, 1) := by decide +kernel
theorem dL_isTold_272 : decode cL_isTold 272 = .ok (.istore 16, 2) := by decide +kernel
theorem dL_isTold_274 : decode cL_isTold 274 = .ok (.iload 16, 2) := by decide +kernel
theorem dL_isTold_276 : decode cL_isTold 276 = .ok (.aload 10, 2) := by decide +kernel
theorem dL_isTold_278 : decode cL_isTold 278 = .ok (.iconst 2, 1) := by decide +kernel
theorem dL_isTold_279 : decode cL_isTold 279 = .ok (.iaload, 1) := by decide +kernel
theorem dL_isTold_280 : decode cL_isTold 280 = .ok (.if_icmp .ge 69, 3) := by decide +kernel
theorem dL_isTold_283 : decode cL_isTold 283 = .ok (.iload 13, 2) := by decide +kernel
theorem dL_isTold_285 : decode cL_isTold 285 = .ok (.aload 6, 2) := by decide +kernel
theorem dL_isTold_287 : decode cL_isTold 287 = .ok (.iload 16, 2) := by decide +kernel
theorem dL_isTold_289 : decode cL_isTold 289 = .ok (.iaload, 1) := by decide +kernel
theorem dL_isTold_290 : decode cL_isTold 290 = .ok (.isub, 1) := by decide +kernel
theorem dL_isTold_291 : decode cL_isTold 291 = .ok (.istore 17, 2) := by decide +kernel
theorem dL_isTold_293 : decode cL_isTold 293 = .ok (.aload 5, 2) := by decide +kernel
theorem dL_isTold_295 : decode cL_isTold 295 = .ok (.iload 16, 2) := by decide +kernel
theorem dL_isTold_297 : decode cL_isTold 297 = .ok (.iaload, 1) := by decide +kernel
theorem dL_isTold_298 : decode cL_isTold 298 = .ok (.iconst 3, 1) := by decide +kernel
theorem dL_isTold_299 : decode cL_isTold 299 = .ok (.iand, 1) := by decide +kernel
theorem dL_isTold_300 : decode cL_isTold 300 = .ok (.iload 11, 2) := by decide +kernel
theorem dL_isTold_302 : decode cL_isTold 302 = .ok (.if_icmp .ne 41, 3) := by decide +kernel
theorem dL_isTold_305 : decode cL_isTold 305 = .ok (.iload 17, 2) := by decide +kernel
theorem dL_isTold_307 : decode cL_isTold 307 = .ok (.iconst 3, 1) := by decide +kernel
theorem dL_isTold_308 : decode cL_isTold 308 = .ok (.if_icmp .ge 22, 3) := by decide +kernel
theorem dL_isTold_311 : decode cL_isTold 311 = .ok (.iload 17, 2) := by decide +kernel
theorem dL_isTold_313 : decode cL_isTold 313 = .ok (.ifCond .lt 30, 3) := by decide +kernel
theorem dL_isTold_316 : decode cL_isTold 316 = .ok (.aload 5, 2) := by decide +kernel
theorem dL_isTold_318 : decode cL_isTold 318 = .ok (.iload 16, 2) := by decide +kernel
theorem dL_isTold_320 : decode cL_isTold 320 = .ok (.iaload, 1) := by decide +kernel
theorem dL_isTold_321 : decode cL_isTold 321 = .ok (.iconst 2, 1) := by decide +kernel
theorem dL_isTold_322 : decode cL_isTold 322 = .ok (.ishr, 1) := by decide +kernel
theorem dL_isTold_323 : decode cL_isTold 323 = .ok (.iconst 3, 1) := by decide +kernel
theorem dL_isTold_324 : decode cL_isTold 324 = .ok (.iand, 1) := by decide +kernel
theorem dL_isTold_325 : decode cL_isTold 325 = .ok (.iload 12, 2) := by decide +kernel
theorem dL_isTold_327 : decode cL_isTold 327 = .ok (.if_icmp .ne 16, 3) := by decide +kernel
theorem dL_isTold_330 : decode cL_isTold 330 = .ok (.iload 15, 2) := by decide +kernel
theorem dL_isTold_332 : decode cL_isTold 332 = .ok (.aload 5, 2) := by decide +kernel
theorem dL_isTold_334 : decode cL_isTold 334 = .ok (.iload 16, 2) := by decide +kernel
theorem dL_isTold_336 : decode cL_isTold 336 = .ok (.iaload, 1) := by decide +kernel
theorem dL_isTold_337 : decode cL_isTold 337 = .ok (.invokestatic 112, 3) := by decide +kernel
theorem dL_isTold_340 : decode cL_isTold 340 = .ok (.iadd, 1) := by decide +kernel
theorem dL_isTold_341 : decode cL_isTold 341 = .ok (.istore 15, 2) := by decide +kernel
theorem dL_isTold_343 : decode cL_isTold 343 = .ok (.iinc 16 1, 3) := by decide +kernel
theorem dL_isTold_346 : decode cL_isTold 346 = .ok (.goto (-72), 3) := by decide +kernel
theorem dL_isTold_349 : decode cL_isTold 349 = .ok (.aload_n 0, 1) := by decide +kernel
theorem dL_isTold_350 : decode cL_isTold 350 = .ok (.iload 11, 2) := by decide +kernel
theorem dL_isTold_352 : decode cL_isTold 352 = .ok (.iload 12, 2) := by decide +kernel
theorem dL_isTold_354 : decode cL_isTold 354 = .ok (.iload 13, 2) := by decide +kernel
theorem dL_isTold_356 : decode cL_isTold 356 = .ok (.invokestatic 137, 3) := by decide +kernel
theorem dL_isTold_359 : decode cL_isTold 359 = .ok (.iload 15, 2) := by decide +kernel
theorem dL_isTold_361 : decode cL_isTold 361 = .ok (.if_icmp .ne 73, 3) := by decide +kernel
theorem dL_isTold_364 : decode cL_isTold 364 = .ok (.aload_n 0, 1) := by decide +kernel
theorem dL_isTold_365 : decode cL_isTold 365 = .ok (.iload 11, 2) := by decide +kernel
theorem dL_isTold_367 : decode cL_isTold 367 = .ok (.iload 14, 2) := by decide +kernel
theorem dL_isTold_369 : decode cL_isTold 369 = .ok (.invokestatic 140, 3) := by decide +kernel
theorem dL_isTold_372 : decode cL_isTold 372 = .ok (.iload 11, 2) := by decide +kernel
theorem dL_isTold_374 : decode cL_isTold 374 = .ok (.iload 14, 2) := by decide +kernel
theorem dL_isTold_376 : decode cL_isTold 376 = .ok (.aload_n 2, 1) := by decide +kernel
theorem dL_isTold_377 : decode cL_isTold 377 = .ok (.aload 4, 2) := by decide +kernel
theorem dL_isTold_379 : decode cL_isTold 379 = .ok (.aload 10, 2) := by decide +kernel
theorem dL_isTold_381 : decode cL_isTold 381 = .ok (.invokestatic 142, 3) := by decide +kernel
theorem dL_isTold_384 : decode cL_isTold 384 = .ok (.ifCond .eq 7, 3) := by decide +kernel
theorem dL_isTold_387 : decode cL_isTold 387 = .ok (.iconst 1, 1) := by decide +kernel
theorem dL_isTold_388 : decode cL_isTold 388 = .ok (.goto 4, 3) := by decide +kernel
theorem dL_isTold_391 : decode cL_isTold 391 = .ok (.iconst 0, 1) := by decide +kernel
theorem dL_isTold_392 : decode cL_isTold 392 = .ok (.if_icmp .ne 42, 3) := by decide +kernel
theorem dL_isTold_395 : decode cL_isTold 395 = .ok (.aload_n 0, 1) := by decide +kernel
theorem dL_isTold_396 : decode cL_isTold 396 = .ok (.iload 11, 2) := by decide +kernel
theorem dL_isTold_398 : decode cL_isTold 398 = .ok (.invokestatic 146, 3) := by decide +kernel
theorem dL_isTold_401 : decode cL_isTold 401 = .ok (.iload 11, 2) := by decide +kernel
theorem dL_isTold_403 : decode cL_isTold 403 = .ok (.aload_n 2, 1) := by decide +kernel
theorem dL_isTold_404 : decode cL_isTold 404 = .ok (.aload 5, 2) := by decide +kernel
theorem dL_isTold_406 : decode cL_isTold 406 = .ok (.aload 6, 2) := by decide +kernel
theorem dL_isTold_408 : decode cL_isTold 408 = .ok (.aload 7, 2) := by decide +kernel
theorem dL_isTold_410 : decode cL_isTold 410 = .ok (.aload 10, 2) := by decide +kernel
theorem dL_isTold_412 : decode cL_isTold 412 = .ok (.invokestatic 115, 3) := by decide +kernel
theorem dL_isTold_415 : decode cL_isTold 415 = .ok (.if_icmp .ne 19, 3) := by decide +kernel
theorem dL_isTold_418 : decode cL_isTold 418 = .ok (.aload_n 0, 1) := by decide +kernel
theorem dL_isTold_419 : decode cL_isTold 419 = .ok (.iload 12, 2) := by decide +kernel
theorem dL_isTold_421 : decode cL_isTold 421 = .ok (.invokestatic 149, 3) := by decide +kernel
theorem dL_isTold_424 : decode cL_isTold 424 = .ok (.aload 10, 2) := by decide +kernel
theorem dL_isTold_426 : decode cL_isTold 426 = .ok (.iconst 3, 1) := by decide +kernel
theorem dL_isTold_427 : decode cL_isTold 427 = .ok (.iload 12, 2) := by decide +kernel
theorem dL_isTold_429 : decode cL_isTold 429 = .ok (.iadd, 1) := by decide +kernel
theorem dL_isTold_430 : decode cL_isTold 430 = .ok (.iaload, 1) := by decide +kernel
theorem dL_isTold_431 : decode cL_isTold 431 = .ok (.if_icmp .eq 5, 3) := by decide +kernel
theorem dL_isTold_434 : decode cL_isTold 434 = .ok (.iconst 0, 1) := by decide +kernel
theorem dL_isTold_435 : decode cL_isTold 435 = .ok (.ireturn, 1) := by decide +kernel
theorem dL_isTold_436 : decode cL_isTold 436 = .ok (.iconst 1, 1) := by decide +kernel
theorem dL_isTold_437 : decode cL_isTold 437 = .ok (.istore 11, 2) := by decide +kernel
theorem dL_isTold_439 : decode cL_isTold 439 = .ok (.iload 11, 2) := by decide +kernel
theorem dL_isTold_441 : decode cL_isTold 441 = .ok (.iconst 4, 1) := by decide +kernel
theorem dL_isTold_442 : decode cL_isTold 442 = .ok (.if_icmp .gt 187, 3) := by decide +kernel
theorem dL_isTold_445 : decode cL_isTold 445 = .ok (.iload 11, 2) := by decide +kernel
theorem dL_isTold_447 : decode cL_isTold 447 = .ok (.aload 10, 2) := by decide +kernel
theorem dL_isTold_449 : decode cL_isTold 449 = .ok (.iconst 2, 1) := by decide +kernel
theorem dL_isTold_450 : decode cL_isTold 450 = .ok (.iaload, 1) := by decide +kernel
theorem dL_isTold_451 : decode cL_isTold 451 = .ok (.if_icmp .gt 178, 3) := by decide +kernel
theorem dL_isTold_454 : decode cL_isTold 454 = .ok (.iload 11, 2) := by decide +kernel
theorem dL_isTold_456 : decode cL_isTold 456 = .ok (.iconst 3, 1) := by decide +kernel
theorem dL_isTold_457 : decode cL_isTold 457 = .ok (.if_icmp .ge 13, 3) := by decide +kernel
theorem dL_isTold_460 : decode cL_isTold 460 = .ok (.aload 10, 2) := by decide +kernel
theorem dL_isTold_462 : decode cL_isTold 462 = .ok (.iconst 2, 1) := by decide +kernel
theorem dL_isTold_463 : decode cL_isTold 463 = .ok (.iaload, 1) := by decide +kernel
theorem dL_isTold_464 : decode cL_isTold 464 = .ok (.iload 11, 2) := by decide +kernel
theorem dL_isTold_466 : decode cL_isTold 466 = .ok (.isub, 1) := by decide +kernel
theorem dL_isTold_467 : decode cL_isTold 467 = .ok (.goto 14, 3) := by decide +kernel
theorem dL_isTold_470 : decode cL_isTold 470 = .ok (.iload_n 1, 1) := by decide +kernel
theorem dL_isTold_471 : decode cL_isTold 471 = .ok (.iload 11, 2) := by decide +kernel
theorem dL_isTold_473 : decode cL_isTold 473 = .ok (.ishr, 1) := by decide +kernel
theorem dL_isTold_474 : decode cL_isTold 474 = .ok (.aload 10, 2) := by decide +kernel
theorem dL_isTold_476 : decode cL_isTold 476 = .ok (.iconst 2, 1) := by decide +kernel
theorem dL_isTold_477 : decode cL_isTold 477 = .ok (.iaload, 1) := by decide +kernel
theorem dL_isTold_478 : decode cL_isTold 478 = .ok (.invokestatic 134, 3) := by decide +kernel
theorem dL_isTold_481 : decode cL_isTold 481 = .ok (.istore 12, 2) := by decide +kernel
theorem dL_isTold_483 : decode cL_isTold 483 = .ok (.aload_n 0, 1) := by decide +kernel
theorem dL_isTold_484 : decode cL_isTold 484 = .ok (.iload 12, 2) := by decide +kernel
theorem dL_isTold_486 : decode cL_isTold 486 = .ok (.iconst 0, 1) := by decide +kernel
theorem dL_isTold_487 : decode cL_isTold 487 = .ok (.invokestatic 151, 3) := by decide +kernel
theorem dL_isTold_490 : decode cL_isTold 490 = .ok (.aload 5, 2) := by decide +kernel
theorem dL_isTold_492 : decode cL_isTold 492 = .ok (.iload 12, 2) := by decide +kernel
theorem dL_isTold_494 : decode cL_isTold 494 = .ok (.iaload, 1) := by decide +kernel
theorem dL_isTold_495 : decode cL_isTold 495 = .ok (.iconst 3, 1) := by decide +kernel
theorem dL_isTold_496 : decode cL_isTold 496 = .ok (.iand, 1) := by decide +kernel
theorem dL_isTold_497 : decode cL_isTold 497 = .ok (.if_icmp .ne 124, 3) := by decide +kernel
theorem dL_isTold_500 : decode cL_isTold 500 = .ok (.aload_n 0, 1) := by decide +kernel
theorem dL_isTold_501 : decode cL_isTold 501 = .ok (.iload 12, 2) := by decide +kernel
theorem dL_isTold_503 : decode cL_isTold 503 = .ok (.iconst 1, 1) := by decide +kernel
theorem dL_isTold_504 : decode cL_isTold 504 = .ok (.invokestatic 151, 3) := by decide +kernel
theorem dL_isTold_507 : decode cL_isTold 507 = .ok (.aload 5, 2) := by decide +kernel
theorem dL_isTold_509 : decode cL_isTold 509 = .ok (.iload 12, 2) := by decide +kernel
theorem dL_isTold_511 : decode cL_isTold 511 = .ok (.iaload, 1) := by decide +kernel
theorem dL_isTold_512 : decode cL_isTold 512 = .ok (.iconst 2, 1) := by decide +kernel
theorem dL_isTold_513 : decode cL_isTold 513 = .ok (.ishr, 1) := by decide +kernel
theorem dL_isTold_514 : decode cL_isTold 514 = .ok (.iconst 3, 1) := by decide +kernel
theorem dL_isTold_515 : decode cL_isTold 515 = .ok (.iand, 1) := by decide +kernel
theorem dL_isTold_516 : decode cL_isTold 516 = .ok (.if_icmp .ne 105, 3) := by decide +kernel
theorem dL_isTold_519 : decode cL_isTold 519 = .ok (.aload_n 0, 1) := by decide +kernel
theorem dL_isTold_520 : decode cL_isTold 520 = .ok (.iload 12, 2) := by decide +kernel
theorem dL_isTold_522 : decode cL_isTold 522 = .ok (.iconst 2, 1) := by decide +kernel
theorem dL_isTold_523 : decode cL_isTold 523 = .ok (.invokestatic 151, 3) := by decide +kernel
theorem dL_isTold_526 : decode cL_isTold 526 = .ok (.aload 6, 2) := by decide +kernel
theorem dL_isTold_528 : decode cL_isTold 528 = .ok (.iload 12, 2) := by decide +kernel
theorem dL_isTold_530 : decode cL_isTold 530 = .ok (.iaload, 1) := by decide +kernel
theorem dL_isTold_531 : decode cL_isTold 531 = .ok (.if_icmp .ne 90, 3) := by decide +kernel
theorem dL_isTold_534 : decode cL_isTold 534 = .ok (.aload_n 0, 1) := by decide +kernel
theorem dL_isTold_535 : decode cL_isTold 535 = .ok (.iload 12, 2) := by decide +kernel
theorem dL_isTold_537 : decode cL_isTold 537 = .ok (.iconst 3, 1) := by decide +kernel
theorem dL_isTold_538 : decode cL_isTold 538 = .ok (.invokestatic 151, 3) := by decide +kernel
theorem dL_isTold_541 : decode cL_isTold 541 = .ok (.aload 5, 2) := by decide +kernel
theorem dL_isTold_543 : decode cL_isTold 543 = .ok (.iload 12, 2) := by decide +kernel
theorem dL_isTold_545 : decode cL_isTold 545 = .ok (.iaload, 1) := by decide +kernel
theorem dL_isTold_546 : decode cL_isTold 546 = .ok (.iconst 4, 1) := by decide +kernel
theorem dL_isTold_547 : decode cL_isTold 547 = .ok (.ishr, 1) := by decide +kernel
theorem dL_isTold_548 : decode cL_isTold 548 = .ok (.iconst 3, 1) := by decide +kernel
theorem dL_isTold_549 : decode cL_isTold 549 = .ok (.iand, 1) := by decide +kernel
theorem dL_isTold_550 : decode cL_isTold 550 = .ok (.if_icmp .ne 71, 3) := by decide +kernel
theorem dL_isTold_553 : decode cL_isTold 553 = .ok (.aload_n 0, 1) := by decide +kernel
theorem dL_isTold_554 : decode cL_isTold 554 = .ok (.iload 12, 2) := by decide +kernel
theorem dL_isTold_556 : decode cL_isTold 556 = .ok (.iconst 4, 1) := by decide +kernel
theorem dL_isTold_557 : decode cL_isTold 557 = .ok (.invokestatic 151, 3) := by decide +kernel
theorem dL_isTold_560 : decode cL_isTold 560 = .ok (.aload 5, 2) := by decide +kernel
theorem dL_isTold_562 : decode cL_isTold 562 = .ok (.iload 12, 2) := by decide +kernel
theorem dL_isTold_564 : decode cL_isTold 564 = .ok (.iaload, 1) := by decide +kernel
theorem dL_isTold_565 : decode cL_isTold 565 = .ok (.invokestatic 112, 3) := by decide +kernel
theorem dL_isTold_568 : decode cL_isTold 568 = .ok (.if_icmp .ne 53, 3) := by decide +kernel
theorem dL_isTold_571 : decode cL_isTold 571 = .ok (.aload_n 0, 1) := by decide +kernel
theorem dL_isTold_572 : decode cL_isTold 572 = .ok (.iload 12, 2) := by decide +kernel
theorem dL_isTold_574 : decode cL_isTold 574 = .ok (.iconst 5, 1) := by decide +kernel
theorem dL_isTold_575 : decode cL_isTold 575 = .ok (.invokestatic 151, 3) := by decide +kernel
theorem dL_isTold_578 : decode cL_isTold 578 = .ok (.iload 12, 2) := by decide +kernel
theorem dL_isTold_580 : decode cL_isTold 580 = .ok (.iconst 0, 1) := by decide +kernel
theorem dL_isTold_581 : decode cL_isTold 581 = .ok (.aload 5, 2) := by decide +kernel
theorem dL_isTold_583 : decode cL_isTold 583 = .ok (.aload 8, 2) := by decide +kernel
theorem dL_isTold_585 : decode cL_isTold 585 = .ok (.aload 9, 2) := by decide +kernel
theorem dL_isTold_587 : decode cL_isTold 587 = .ok (.invokestatic 153, 3) := by decide +kernel
theorem dL_isTold_590 : decode cL_isTold 590 = .ok (.if_icmp .ne 31, 3) := by decide +kernel
theorem dL_isTold_593 : decode cL_isTold 593 = .ok (.aload_n 0, 1) := by decide +kernel
theorem dL_isTold_594 : decode cL_isTold 594 = .ok (.iload 12, 2) := by decide +kernel
theorem dL_isTold_596 : decode cL_isTold 596 = .ok (.bipush 6, 2) := by decide +kernel
theorem dL_isTold_598 : decode cL_isTold 598 = .ok (.invokestatic 151, 3) := by decide +kernel
theorem dL_isTold_601 : decode cL_isTold 601 = .ok (.iload 12, 2) := by decide +kernel
theorem dL_isTold_603 : decode cL_isTold 603 = .ok (.aload 5, 2) := by decide +kernel
theorem dL_isTold_605 : decode cL_isTold 605 = .ok (.aload 7, 2) := by decide +kernel
theorem dL_isTold_607 : decode cL_isTold 607 = .ok (.invokestatic 104, 3) := by decide +kernel
theorem dL_isTold_610 : decode cL_isTold 610 = .ok (.ifCond .eq 7, 3) := by decide +kernel
theorem dL_isTold_613 : decode cL_isTold 613 = .ok (.iconst 1, 1) := by decide +kernel
theorem dL_isTold_614 : decode cL_isTold 614 = .ok (.goto 4, 3) := by decide +kernel
theorem dL_isTold_617 : decode cL_isTold 617 = .ok (.iconst 0, 1) := by decide +kernel
theorem dL_isTold_618 : decode cL_isTold 618 = .ok (.if_icmp .eq 5, 3) := by decide +kernel
theorem dL_isTold_621 : decode cL_isTold 621 = .ok (.iconst 0, 1) := by decide +kernel
theorem dL_isTold_622 : decode cL_isTold 622 = .ok (.ireturn, 1) := by decide +kernel
theorem dL_isTold_623 : decode cL_isTold 623 = .ok (.iinc 11 1, 3) := by decide +kernel
theorem dL_isTold_626 : decode cL_isTold 626 = .ok (.goto (-187), 3) := by decide +kernel
theorem dL_isTold_629 : decode cL_isTold 629 = .ok (.iload_n 1, 1) := by decide +kernel
theorem dL_isTold_630 : decode cL_isTold 630 = .ok (.iconst 5, 1) := by decide +kernel
theorem dL_isTold_631 : decode cL_isTold 631 = .ok (.ishr, 1) := by decide +kernel
theorem dL_isTold_632 : decode cL_isTold 632 = .ok (.bipush 6, 2) := by decide +kernel
theorem dL_isTold_634 : decode cL_isTold 634 = .ok (.invokestatic 134, 3) := by decide +kernel
theorem dL_isTold_637 : decode cL_isTold 637 = .ok (.istore 11, 2) := by decide +kernel
theorem dL_isTold_639 : decode cL_isTold 639 = .ok (.aload_n 0, 1) := by decide +kernel
theorem dL_isTold_640 : decode cL_isTold 640 = .ok (.iload 11, 2) := by decide +kernel
theorem dL_isTold_642 : decode cL_isTold 642 = .ok (.invokestatic 157, 3) := by decide +kernel
theorem dL_isTold_645 : decode cL_isTold 645 = .ok (.iload 11, 2) := by decide +kernel
theorem dL_isTold_647 : decode cL_isTold 647 = .ok (.aload 5, 2) := by decide +kernel
theorem dL_isTold_649 : decode cL_isTold 649 = .ok (.aload 6, 2) := by decide +kernel
theorem dL_isTold_651 : decode cL_isTold 651 = .ok (.aload 7, 2) := by decide +kernel
theorem dL_isTold_653 : decode cL_isTold 653 = .ok (.aload 10, 2) := by decide +kernel
theorem dL_isTold_655 : decode cL_isTold 655 = .ok (.invokestatic 108, 3) := by decide +kernel
theorem dL_isTold_658 : decode cL_isTold 658 = .ok (.if_icmp .ne 22, 3) := by decide +kernel
theorem dL_isTold_661 : decode cL_isTold 661 = .ok (.aload_n 0, 1) := by decide +kernel
theorem dL_isTold_662 : decode cL_isTold 662 = .ok (.aload 10, 2) := by decide +kernel
theorem dL_isTold_664 : decode cL_isTold 664 = .ok (.iconst 2, 1) := by decide +kernel
theorem dL_isTold_665 : decode cL_isTold 665 = .ok (.iaload, 1) := by decide +kernel
theorem dL_isTold_666 : decode cL_isTold 666 = .ok (.iconst 0, 1) := by decide +kernel
theorem dL_isTold_667 : decode cL_isTold 667 = .ok (.invokestatic 151, 3) := by decide +kernel
theorem dL_isTold_670 : decode cL_isTold 670 = .ok (.sipush (-7100), 3) := by decide +kernel
theorem dL_isTold_673 : decode cL_isTold 673 = .ok (.if_icmp .ne 7, 3) := by decide +kernel
theorem dL_isTold_676 : decode cL_isTold 676 = .ok (.iconst 1, 1) := by decide +kernel
theorem dL_isTold_677 : decode cL_isTold 677 = .ok (.goto 4, 3) := by decide +kernel
theorem dL_isTold_680 : decode cL_isTold 680 = .ok (.iconst 0, 1) := by decide +kernel
theorem dL_isTold_681 : decode cL_isTold 681 = .ok (.ireturn, 1) := by decide +kernel
theorem dL_law_0 : decode cL_law 0 = .ok (.new 9, 3) := by decide +kernel
theorem dL_law_3 : decode cL_law 3 = .ok (.dup, 1) := by decide +kernel
theorem dL_law_4 : decode cL_law 4 = .ok (.invokespecial 159, 3) := by decide +kernel
theorem dL_law_7 : decode cL_law 7 = .ok (.astore_n 1, 1) := by decide +kernel
theorem dL_law_8 : decode cL_law 8 = .ok (.bipush 56, 2) := by decide +kernel
theorem dL_law_10 : decode cL_law 10 = .ok (.newarray .int, 2) := by decide +kernel
theorem dL_law_12 : decode cL_law 12 = .ok (.astore_n 2, 1) := by decide +kernel
theorem dL_law_13 : decode cL_law 13 = .ok (.bipush 60, 2) := by decide +kernel
theorem dL_law_15 : decode cL_law 15 = .ok (.newarray .int, 2) := by decide +kernel
theorem dL_law_17 : decode cL_law 17 = .ok (.astore_n 3, 1) := by decide +kernel
theorem dL_law_18 : decode cL_law 18 = .ok (.bipush 50, 2) := by decide +kernel
theorem dL_law_20 : decode cL_law 20 = .ok (.newarray .int, 2) := by decide +kernel
theorem dL_law_22 : decode cL_law 22 = .ok (.astore 4, 2) := by decide +kernel
theorem dL_law_24 : decode cL_law 24 = .ok (.bipush 50, 2) := by decide +kernel
theorem dL_law_26 : decode cL_law 26 = .ok (.newarray .int, 2) := by decide +kernel
theorem dL_law_28 : decode cL_law 28 = .ok (.astore 5, 2) := by decide +kernel
theorem dL_law_30 : decode cL_law 30 = .ok (.bipush 50, 2) := by decide +kernel
theorem dL_law_32 : decode cL_law 32 = .ok (.newarray .int, 2) := by decide +kernel
theorem dL_law_34 : decode cL_law 34 = .ok (.astore 6, 2) := by decide +kernel
theorem dL_law_36 : decode cL_law 36 = .ok (.bipush 50, 2) := by decide +kernel
theorem dL_law_38 : decode cL_law 38 = .ok (.newarray .int, 2) := by decide +kernel
theorem dL_law_40 : decode cL_law 40 = .ok (.astore 7, 2) := by decide +kernel
theorem dL_law_42 : decode cL_law 42 = .ok (.bipush 50, 2) := by decide +kernel
theorem dL_law_44 : decode cL_law 44 = .ok (.newarray .int, 2) := by decide +kernel
theorem dL_law_46 : decode cL_law 46 = .ok (.astore 8, 2) := by decide +kernel
theorem dL_law_48 : decode cL_law 48 = .ok (.bipush 50, 2) := by decide +kernel
theorem dL_law_50 : decode cL_law 50 = .ok (.newarray .long, 2) := by decide +kernel
theorem dL_law_52 : decode cL_law 52 = .ok (.astore 9, 2) := by decide +kernel
theorem dL_law_54 : decode cL_law 54 = .ok (.bipush 9, 2) := by decide +kernel
theorem dL_law_56 : decode cL_law 56 = .ok (.newarray .int, 2) := by decide +kernel
theorem dL_law_58 : decode cL_law 58 = .ok (.astore 10, 2) := by decide +kernel
theorem dL_law_60 : decode cL_law 60 = .ok (.iconst 0, 1) := by decide +kernel
theorem dL_law_61 : decode cL_law 61 = .ok (.istore 11, 2) := by decide +kernel
theorem dL_law_63 : decode cL_law 63 = .ok (.iload 11, 2) := by decide +kernel
theorem dL_law_65 : decode cL_law 65 = .ok (.bipush 20, 2) := by decide +kernel
theorem dL_law_67 : decode cL_law 67 = .ok (.if_icmp .ge 16, 3) := by decide +kernel
theorem dL_law_70 : decode cL_law 70 = .ok (.aload_n 3, 1) := by decide +kernel
theorem dL_law_71 : decode cL_law 71 = .ok (.iconst 3, 1) := by decide +kernel
theorem dL_law_72 : decode cL_law 72 = .ok (.iload 11, 2) := by decide +kernel
theorem dL_law_74 : decode cL_law 74 = .ok (.imul, 1) := by decide +kernel
theorem dL_law_75 : decode cL_law 75 = .ok (.iconst (-1), 1) := by decide +kernel
theorem dL_law_76 : decode cL_law 76 = .ok (.iastore, 1) := by decide +kernel
theorem dL_law_77 : decode cL_law 77 = .ok (.iinc 11 1, 3) := by decide +kernel
theorem dL_law_80 : decode cL_law 80 = .ok (.goto (-17), 3) := by decide +kernel
theorem dL_law_83 : decode cL_law 83 = .ok (.iconst 0, 1) := by decide +kernel
theorem dL_law_84 : decode cL_law 84 = .ok (.istore 11, 2) := by decide +kernel
theorem dL_law_86 : decode cL_law 86 = .ok (.iload 11, 2) := by decide +kernel
theorem dL_law_88 : decode cL_law 88 = .ok (.sipush 130, 3) := by decide +kernel
theorem dL_law_91 : decode cL_law 91 = .ok (.if_icmp .ge 3408, 3) := by decide +kernel
theorem dL_law_94 : decode cL_law 94 = .ok (.aload_n 0, 1) := by decide +kernel
theorem dL_law_95 : decode cL_law 95 = .ok (.iconst 2, 1) := by decide +kernel
theorem dL_law_96 : decode cL_law 96 = .ok (.iload 11, 2) := by decide +kernel
theorem dL_law_98 : decode cL_law 98 = .ok (.imul, 1) := by decide +kernel
theorem dL_law_99 : decode cL_law 99 = .ok (.invokestatic 160, 3) := by decide +kernel
theorem dL_law_102 : decode cL_law 102 = .ok (.istore 12, 2) := by decide +kernel
theorem dL_law_104 : decode cL_law 104 = .ok (.aload_n 0, 1) := by decide +kernel
theorem dL_law_105 : decode cL_law 105 = .ok (.iconst 2, 1) := by decide +kernel
theorem dL_law_106 : decode cL_law 106 = .ok (.iload 11, 2) := by decide +kernel
theorem dL_law_108 : decode cL_law 108 = .ok (.imul, 1) := by decide +kernel
theorem dL_law_109 : decode cL_law 109 = .ok (.iconst 1, 1) := by decide +kernel
theorem dL_law_110 : decode cL_law 110 = .ok (.iadd, 1) := by decide +kernel
theorem dL_law_111 : decode cL_law 111 = .ok (.invokestatic 160, 3) := by decide +kernel
theorem dL_law_114 : decode cL_law 114 = .ok (.istore 13, 2) := by decide +kernel
theorem dL_law_116 : decode cL_law 116 = .ok (.aload 10, 2) := by decide +kernel
theorem dL_law_118 : decode cL_law 118 = .ok (.bipush 8, 2) := by decide +kernel
theorem dL_law_120 : decode cL_law 120 = .ok (.iaload, 1) := by decide +kernel
theorem dL_law_121 : decode cL_law 121 = .ok (.ifCond .ne 7, 3) := by decide +kernel
theorem dL_law_124 : decode cL_law 124 = .ok (.iconst 0, 1) := by decide +kernel
theorem dL_law_125 : decode cL_law 125 = .ok (.goto 15, 3) := by decide +kernel
theorem dL_law_128 : decode cL_law 128 = .ok (.iload 12, 2) := by decide +kernel
theorem dL_law_130 : decode cL_law 130 = .ok (.iconst 5, 1) := by decide +kernel
theorem dL_law_131 : decode cL_law 131 = .ok (.ishr, 1) := by decide +kernel
theorem dL_law_132 : decode cL_law 132 = .ok (.aload 10, 2) := by decide +kernel
theorem dL_law_134 : decode cL_law 134 = .ok (.bipush 8, 2) := by decide +kernel
theorem dL_law_136 : decode cL_law 136 = .ok (.iaload, 1) := by decide +kernel
theorem dL_law_137 : decode cL_law 137 = .ok (.invokestatic 134, 3) := by decide +kernel
theorem dL_law_140 : decode cL_law 140 = .ok (.istore 14, 2) := by decide +kernel
theorem dL_law_142 : decode cL_law 142 = .ok (.bipush 14, 2) := by decide +kernel
theorem dL_law_144 : decode cL_law 144 = .ok (.iload 14, 2) := by decide +kernel
theorem dL_law_146 : decode cL_law 146 = .ok (.imul, 1) := by decide +kernel
theorem dL_law_147 : decode cL_law 147 = .ok (.istore 15, 2) := by decide +kernel
theorem dL_law_149 : decode cL_law 149 = .ok (.aload 10, 2) := by decide +kernel
theorem dL_law_151 : decode cL_law 151 = .ok (.iconst 2, 1) := by decide +kernel
theorem dL_law_152 : decode cL_law 152 = .ok (.iaload, 1) := by decide +kernel
theorem dL_law_153 : decode cL_law 153 = .ok (.ifCond .ne 7, 3) := by decide +kernel
theorem dL_law_156 : decode cL_law 156 = .ok (.iconst 0, 1) := by decide +kernel
theorem dL_law_157 : decode cL_law 157 = .ok (.goto 58, 3) := by decide +kernel
theorem dL_law_160 : decode cL_law 160 = .ok (.iload 12, 2) := by decide +kernel
theorem dL_law_162 : decode cL_law 162 = .ok (.sipush 1536, 3) := by decide +kernel
theorem dL_law_165 : decode cL_law 165 = .ok (.iand, 1) := by decide +kernel
theorem dL_law_166 : decode cL_law 166 = .ok (.ifCond .ne 18, 3) := by decide +kernel
theorem dL_law_169 : decode cL_law 169 = .ok (.iload 12, 2) := by decide +kernel
theorem dL_law_171 : decode cL_law 171 = .ok (.bipush 11, 2) := by decide +kernel
theorem dL_law_173 : decode cL_law 173 = .ok (.ishr, 1) := by decide +kernel
theorem dL_law_174 : decode cL_law 174 = .ok (.aload 10, 2) := by decide +kernel
theorem dL_law_176 : decode cL_law 176 = .ok (.iconst 2, 1) := by decide +kernel
theorem dL_law_177 : decode cL_law 177 = .ok (.iaload, 1) := by decide +kernel
theorem dL_law_178 : decode cL_law 178 = .ok (.invokestatic 134, 3) := by decide +kernel
theorem dL_law_181 : decode cL_law 181 = .ok (.goto 34, 3) := by decide +kernel
theorem dL_law_184 : decode cL_law 184 = .ok (.aload 10, 2) := by decide +kernel
theorem dL_law_186 : decode cL_law 186 = .ok (.iconst 2, 1) := by decide +kernel
theorem dL_law_187 : decode cL_law 187 = .ok (.iaload, 1) := by decide +kernel
theorem dL_law_188 : decode cL_law 188 = .ok (.iconst 1, 1) := by decide +kernel
theorem dL_law_189 : decode cL_law 189 = .ok (.isub, 1) := by decide +kernel
theorem dL_law_190 : decode cL_law 190 = .ok (.iload 12, 2) := by decide +kernel
theorem dL_law_192 : decode cL_law 192 = .ok (.bipush 11, 2) := by decide +kernel
theorem dL_law_194 : decode cL_law 194 = .ok (.ishr, 1) := by decide +kernel
theorem dL_law_195 : decode cL_law 195 = .ok (.aload 10, 2) := by decide +kernel
theorem dL_law_197 : decode cL_law 197 = .ok (.iconst 2, 1) := by decide +kernel
theorem dL_law_198 : decode cL_law 198 = .ok (.iaload, 1) := by decide +kernel
theorem dL_law_199 : decode cL_law 199 = .ok (.iconst 3, 1) := by decide +kernel
theorem dL_law_200 : decode cL_law 200 = .ok (.if_icmp .ge 10, 3) := by decide +kernel
theorem dL_law_203 : decode cL_law 203 = .ok (.aload 10, 2) := by decide +kernel
theorem dL_law_205 : decode cL_law 205 = .ok (.iconst 2, 1) := by decide +kernel
theorem dL_law_206 : decode cL_law 206 = .ok (.iaload, 1) := by decide +kernel
theorem dL_law_207 : decode cL_law 207 = .ok (.goto 4, 3) := by decide +kernel
theorem dL_law_210 : decode cL_law 210 = .ok (.iconst 3, 1) := by decide +kernel
theorem dL_law_211 : decode cL_law 211 = .ok (.invokestatic 134, 3) := by decide +kernel
theorem dL_law_214 : decode cL_law 214 = .ok (.isub, 1) := by decide +kernel
theorem dL_law_215 : decode cL_law 215 = .ok (.istore 16, 2) := by decide +kernel
theorem dL_law_217 : decode cL_law 217 = .ok (.iconst 1, 1) := by decide +kernel
theorem dL_law_218 : decode cL_law 218 = .ok (.istore 17, 2) := by decide +kernel
theorem dL_law_220 : decode cL_law 220 = .ok (.iload 11, 2) := by decide +kernel
theorem dL_law_222 : decode cL_law 222 = .ok (.iconst 4, 1) := by decide +kernel
theorem dL_law_223 : decode cL_law 223 = .ok (.if_icmp .ge 10, 3) := by decide +kernel
theorem dL_law_226 : decode cL_law 226 = .ok (.iload 11, 2) := by decide +kernel
theorem dL_law_228 : decode cL_law 228 = .ok (.iconst 2, 1) := by decide +kernel
theorem dL_law_229 : decode cL_law 229 = .ok (.irem, 1) := by decide +kernel
theorem dL_law_230 : decode cL_law 230 = .ok (.goto 10, 3) := by decide +kernel
theorem dL_law_233 : decode cL_law 233 = .ok (.iload 12, 2) := by decide +kernel
theorem dL_law_235 : decode cL_law 235 = .ok (.bipush 22, 2) := by decide +kernel
theorem dL_law_237 : decode cL_law 237 = .ok (.invokestatic 134, 3) := by decide +kernel
theorem dL_law_240 : decode cL_law 240 = .ok (.tableswitch 2932 0 20 #[100, 349, 514, 598, 696, 696, 696, 911, 1154, 1154, 1154, 1276, 1446, 1446, 1446, 1790, 1790, 1790, 2016, 2283, 2607], 100) := by decide +kernel
theorem dL_law_340 : decode cL_law 340 = .ok (.aload 10, 2) := by decide +kernel
theorem dL_law_342 : decode cL_law 342 = .ok (.bipush 8, 2) := by decide +kernel
theorem dL_law_344 : decode cL_law 344 = .ok (.iaload, 1) := by decide +kernel
theorem dL_law_345 : decode cL_law 345 = .ok (.iconst 4, 1) := by decide +kernel
theorem dL_law_346 : decode cL_law 346 = .ok (.if_icmp .ne 6, 3) := by decide +kernel
theorem dL_law_349 : decode cL_law 349 = .ok (.goto 3112, 3) := by decide +kernel
theorem dL_law_352 : decode cL_law 352 = .ok (.bipush 14, 2) := by decide +kernel
theorem dL_law_354 : decode cL_law 354 = .ok (.aload 10, 2) := by decide +kernel
theorem dL_law_356 : decode cL_law 356 = .ok (.bipush 8, 2) := by decide +kernel
theorem dL_law_358 : decode cL_law 358 = .ok (.iaload, 1) := by decide +kernel
theorem dL_law_359 : decode cL_law 359 = .ok (.imul, 1) := by decide +kernel
theorem dL_law_360 : decode cL_law 360 = .ok (.istore 18, 2) := by decide +kernel
theorem dL_law_362 : decode cL_law 362 = .ok (.aload_n 2, 1) := by decide +kernel
theorem dL_law_363 : decode cL_law 363 = .ok (.iload 18, 2) := by decide +kernel
theorem dL_law_365 : decode cL_law 365 = .ok (.iload 13, 2) := by decide +kernel
theorem dL_law_367 : decode cL_law 367 = .ok (.iconst 1, 1) := by decide +kernel
theorem dL_law_368 : decode cL_law 368 = .ok (.iand, 1) := by decide +kernel
theorem dL_law_369 : decode cL_law 369 = .ok (.ifCond .ne 21, 3) := by decide +kernel
theorem dL_law_372 : decode cL_law 372 = .ok (.aload 10, 2) := by decide +kernel
theorem dL_law_374 : decode cL_law 374 = .ok (.iconst 0, 1) := by decide +kernel
theorem dL_law_375 : decode cL_law 375 = .ok (.iaload, 1) := by decide +kernel
theorem dL_law_376 : decode cL_law 376 = .ok (.iload 13, 2) := by decide +kernel
theorem dL_law_378 : decode cL_law 378 = .ok (.iconst 1, 1) := by decide +kernel
theorem dL_law_379 : decode cL_law 379 = .ok (.ishr, 1) := by decide +kernel
theorem dL_law_380 : decode cL_law 380 = .ok (.sipush 9000, 3) := by decide +kernel
theorem dL_law_383 : decode cL_law 383 = .ok (.invokestatic 134, 3) := by decide +kernel
theorem dL_law_386 : decode cL_law 386 = .ok (.isub, 1) := by decide +kernel
theorem dL_law_387 : decode cL_law 387 = .ok (.goto 21, 3) := by decide +kernel
theorem dL_law_390 : decode cL_law 390 = .ok (.aload 10, 2) := by decide +kernel
theorem dL_law_392 : decode cL_law 392 = .ok (.iconst 0, 1) := by decide +kernel
theorem dL_law_393 : decode cL_law 393 = .ok (.iaload, 1) := by decide +kernel
theorem dL_law_394 : decode cL_law 394 = .ok (.iload 13, 2) := by decide +kernel
theorem dL_law_396 : decode cL_law 396 = .ok (.iconst 1, 1) := by decide +kernel
theorem dL_law_397 : decode cL_law 397 = .ok (.ishr, 1) := by decide +kernel
theorem dL_law_398 : decode cL_law 398 = .ok (.aload 10, 2) := by decide +kernel
theorem dL_law_400 : decode cL_law 400 = .ok (.iconst 0, 1) := by decide +kernel
theorem dL_law_401 : decode cL_law 401 = .ok (.iaload, 1) := by decide +kernel
theorem dL_law_402 : decode cL_law 402 = .ok (.iconst 1, 1) := by decide +kernel
theorem dL_law_403 : decode cL_law 403 = .ok (.iadd, 1) := by decide +kernel
theorem dL_law_404 : decode cL_law 404 = .ok (.invokestatic 134, 3) := by decide +kernel
theorem dL_law_407 : decode cL_law 407 = .ok (.isub, 1) := by decide +kernel
theorem dL_law_408 : decode cL_law 408 = .ok (.iastore, 1) := by decide +kernel
theorem dL_law_409 : decode cL_law 409 = .ok (.aload_n 2, 1) := by decide +kernel
theorem dL_law_410 : decode cL_law 410 = .ok (.iload 18, 2) := by decide +kernel
theorem dL_law_412 : decode cL_law 412 = .ok (.aload_n 2, 1) := by decide +kernel
theorem dL_law_413 : decode cL_law 413 = .ok (.iload 18, 2) := by decide +kernel
theorem dL_law_415 : decode cL_law 415 = .ok (.iaload, 1) := by decide +kernel
theorem dL_law_416 : decode cL_law 416 = .ok (.sipush (-10000), 3) := by decide +kernel
theorem dL_law_419 : decode cL_law 419 = .ok (.if_icmp .ge 9, 3) := by decide +kernel
theorem dL_law_422 : decode cL_law 422 = .ok (.sipush (-10000), 3) := by decide +kernel
theorem dL_law_425 : decode cL_law 425 = .ok (.goto 7, 3) := by decide +kernel
theorem dL_law_428 : decode cL_law 428 = .ok (.aload_n 2, 1) := by decide +kernel
theorem dL_law_429 : decode cL_law 429 = .ok (.iload 18, 2) := by decide +kernel
theorem dL_law_431 : decode cL_law 431 = .ok (.iaload, 1) := by decide +kernel
theorem dL_law_432 : decode cL_law 432 = .ok (.iastore, 1) := by decide +kernel
theorem dL_law_433 : decode cL_law 433 = .ok (.aload_n 2, 1) := by decide +kernel
theorem dL_law_434 : decode cL_law 434 = .ok (.iload 18, 2) := by decide +kernel
theorem dL_law_436 : decode cL_law 436 = .ok (.iconst 1, 1) := by decide +kernel
theorem dL_law_437 : decode cL_law 437 = .ok (.iadd, 1) := by decide +kernel
theorem dL_law_438 : decode cL_law 438 = .ok (.bipush 100, 2) := by decide +kernel
theorem dL_law_440 : decode cL_law 440 = .ok (.iload 13, 2) := by decide +kernel
theorem dL_law_442 : decode cL_law 442 = .ok (.iconst 4, 1) := by decide +kernel
theorem dL_law_443 : decode cL_law 443 = .ok (.ishr, 1) := by decide +kernel
theorem dL_law_444 : decode cL_law 444 = .ok (.sipush 2000, 3) := by decide +kernel
theorem dL_law_447 : decode cL_law 447 = .ok (.invokestatic 134, 3) := by decide +kernel
theorem dL_law_450 : decode cL_law 450 = .ok (.iadd, 1) := by decide +kernel
theorem dL_law_451 : decode cL_law 451 = .ok (.iastore, 1) := by decide +kernel
theorem dL_law_452 : decode cL_law 452 = .ok (.aload_n 2, 1) := by decide +kernel
theorem dL_law_453 : decode cL_law 453 = .ok (.iload 18, 2) := by decide +kernel
theorem dL_law_455 : decode cL_law 455 = .ok (.iconst 2, 1) := by decide +kernel
theorem dL_law_456 : decode cL_law 456 = .ok (.iadd, 1) := by decide +kernel
theorem dL_law_457 : decode cL_law 457 = .ok (.iload 13, 2) := by decide +kernel
theorem dL_law_459 : decode cL_law 459 = .ok (.bipush 9, 2) := by decide +kernel
theorem dL_law_461 : decode cL_law 461 = .ok (.ishr, 1) := by decide +kernel
theorem dL_law_462 : decode cL_law 462 = .ok (.iconst 3, 1) := by decide +kernel
theorem dL_law_463 : decode cL_law 463 = .ok (.invokestatic 134, 3) := by decide +kernel
theorem dL_law_466 : decode cL_law 466 = .ok (.iastore, 1) := by decide +kernel
theorem dL_law_467 : decode cL_law 467 = .ok (.aload_n 2, 1) := by decide +kernel
theorem dL_law_468 : decode cL_law 468 = .ok (.iload 18, 2) := by decide +kernel
theorem dL_law_470 : decode cL_law 470 = .ok (.iconst 3, 1) := by decide +kernel
theorem dL_law_471 : decode cL_law 471 = .ok (.iadd, 1) := by decide +kernel
theorem dL_law_472 : decode cL_law 472 = .ok (.iload 13, 2) := by decide +kernel
theorem dL_law_474 : decode cL_law 474 = .ok (.bipush 12, 2) := by decide +kernel
theorem dL_law_476 : decode cL_law 476 = .ok (.ishr, 1) := by decide +kernel
theorem dL_law_477 : decode cL_law 477 = .ok (.iconst 3, 1) := by decide +kernel
theorem dL_law_478 : decode cL_law 478 = .ok (.invokestatic 134, 3) := by decide +kernel
theorem dL_law_481 : decode cL_law 481 = .ok (.iastore, 1) := by decide +kernel
theorem dL_law_482 : decode cL_law 482 = .ok (.aload_n 2, 1) := by decide +kernel
theorem dL_law_483 : decode cL_law 483 = .ok (.iload 18, 2) := by decide +kernel
theorem dL_law_485 : decode cL_law 485 = .ok (.iconst 4, 1) := by decide +kernel
theorem dL_law_486 : decode cL_law 486 = .ok (.iadd, 1) := by decide +kernel
theorem dL_law_487 : decode cL_law 487 = .ok (.iload 13, 2) := by decide +kernel
theorem dL_law_489 : decode cL_law 489 = .ok (.bipush 15, 2) := by decide +kernel
theorem dL_law_491 : decode cL_law 491 = .ok (.ishr, 1) := by decide +kernel
theorem dL_law_492 : decode cL_law 492 = .ok (.iconst 4, 1) := by decide +kernel
theorem dL_law_493 : decode cL_law 493 = .ok (.invokestatic 134, 3) := by decide +kernel
theorem dL_law_496 : decode cL_law 496 = .ok (.iastore, 1) := by decide +kernel
theorem dL_law_497 : decode cL_law 497 = .ok (.bipush 6, 2) := by decide +kernel
theorem dL_law_499 : decode cL_law 499 = .ok (.istore 19, 2) := by decide +kernel
theorem dL_law_501 : decode cL_law 501 = .ok (.iload 19, 2) := by decide +kernel
theorem dL_law_503 : decode cL_law 503 = .ok (.bipush 10, 2) := by decide +kernel
theorem dL_law_505 : decode cL_law 505 = .ok (.if_icmp .ge 17, 3) := by decide +kernel
theorem dL_law_508 : decode cL_law 508 = .ok (.aload_n 2, 1) := by decide +kernel
theorem dL_law_509 : decode cL_law 509 = .ok (.iload 18, 2) := by decide +kernel
theorem dL_law_511 : decode cL_law 511 = .ok (.iload 19, 2) := by decide +kernel
theorem dL_law_513 : decode cL_law 513 = .ok (.iadd, 1) := by decide +kernel
theorem dL_law_514 : decode cL_law 514 = .ok (.iconst (-1), 1) := by decide +kernel
theorem dL_law_515 : decode cL_law 515 = .ok (.iastore, 1) := by decide +kernel
theorem dL_law_516 : decode cL_law 516 = .ok (.iinc 19 1, 3) := by decide +kernel
theorem dL_law_519 : decode cL_law 519 = .ok (.goto (-18), 3) := by decide +kernel
theorem dL_law_522 : decode cL_law 522 = .ok (.aload_n 2, 1) := by decide +kernel
theorem dL_law_523 : decode cL_law 523 = .ok (.iload 18, 2) := by decide +kernel
theorem dL_law_525 : decode cL_law 525 = .ok (.bipush 12, 2) := by decide +kernel
theorem dL_law_527 : decode cL_law 527 = .ok (.iadd, 1) := by decide +kernel
theorem dL_law_528 : decode cL_law 528 = .ok (.iconst (-1), 1) := by decide +kernel
theorem dL_law_529 : decode cL_law 529 = .ok (.iastore, 1) := by decide +kernel
theorem dL_law_530 : decode cL_law 530 = .ok (.aload_n 1, 1) := by decide +kernel
theorem dL_law_531 : decode cL_law 531 = .ok (.aload_n 2, 1) := by decide +kernel
theorem dL_law_532 : decode cL_law 532 = .ok (.iload 18, 2) := by decide +kernel
theorem dL_law_534 : decode cL_law 534 = .ok (.iaload, 1) := by decide +kernel
theorem dL_law_535 : decode cL_law 535 = .ok (.aload_n 2, 1) := by decide +kernel
theorem dL_law_536 : decode cL_law 536 = .ok (.iload 18, 2) := by decide +kernel
theorem dL_law_538 : decode cL_law 538 = .ok (.iconst 1, 1) := by decide +kernel
theorem dL_law_539 : decode cL_law 539 = .ok (.iadd, 1) := by decide +kernel
theorem dL_law_540 : decode cL_law 540 = .ok (.iaload, 1) := by decide +kernel
theorem dL_law_541 : decode cL_law 541 = .ok (.aload_n 2, 1) := by decide +kernel
theorem dL_law_542 : decode cL_law 542 = .ok (.iload 18, 2) := by decide +kernel
theorem dL_law_544 : decode cL_law 544 = .ok (.iconst 2, 1) := by decide +kernel
theorem dL_law_545 : decode cL_law 545 = .ok (.iadd, 1) := by decide +kernel
theorem dL_law_546 : decode cL_law 546 = .ok (.iaload, 1) := by decide +kernel
theorem dL_law_547 : decode cL_law 547 = .ok (.aload_n 2, 1) := by decide +kernel
theorem dL_law_548 : decode cL_law 548 = .ok (.iload 18, 2) := by decide +kernel
theorem dL_law_550 : decode cL_law 550 = .ok (.iconst 3, 1) := by decide +kernel
theorem dL_law_551 : decode cL_law 551 = .ok (.iadd, 1) := by decide +kernel
theorem dL_law_552 : decode cL_law 552 = .ok (.iaload, 1) := by decide +kernel
theorem dL_law_553 : decode cL_law 553 = .ok (.aload_n 2, 1) := by decide +kernel
theorem dL_law_554 : decode cL_law 554 = .ok (.iload 18, 2) := by decide +kernel
theorem dL_law_556 : decode cL_law 556 = .ok (.iconst 4, 1) := by decide +kernel
theorem dL_law_557 : decode cL_law 557 = .ok (.iadd, 1) := by decide +kernel
theorem dL_law_558 : decode cL_law 558 = .ok (.iaload, 1) := by decide +kernel
theorem dL_law_559 : decode cL_law 559 = .ok (.invokestatic 164, 3) := by decide +kernel
theorem dL_law_562 : decode cL_law 562 = .ok (.aload 10, 2) := by decide +kernel
theorem dL_law_564 : decode cL_law 564 = .ok (.bipush 8, 2) := by decide +kernel
theorem dL_law_566 : decode cL_law 566 = .ok (.iaload, 1) := by decide +kernel
theorem dL_law_567 : decode cL_law 567 = .ok (.if_icmp .ne 7, 3) := by decide +kernel
theorem dL_law_570 : decode cL_law 570 = .ok (.iconst 1, 1) := by decide +kernel
theorem dL_law_571 : decode cL_law 571 = .ok (.goto 4, 3) := by decide +kernel
theorem dL_law_574 : decode cL_law 574 = .ok (.iconst 0, 1) := by decide +kernel
theorem dL_law_575 : decode cL_law 575 = .ok (.istore 17, 2) := by decide +kernel
theorem dL_law_577 : decode cL_law 577 = .ok (.aload 10, 2) := by decide +kernel
theorem dL_law_579 : decode cL_law 579 = .ok (.bipush 8, 2) := by decide +kernel
theorem dL_law_581 : decode cL_law 581 = .ok (.dup2, 1) := by decide +kernel
theorem dL_law_582 : decode cL_law 582 = .ok (.iaload, 1) := by decide +kernel
theorem dL_law_583 : decode cL_law 583 = .ok (.iconst 1, 1) := by decide +kernel
theorem dL_law_584 : decode cL_law 584 = .ok (.iadd, 1) := by decide +kernel
theorem dL_law_585 : decode cL_law 585 = .ok (.iastore, 1) := by decide +kernel
theorem dL_law_586 : decode cL_law 586 = .ok (.goto 2875, 3) := by decide +kernel
theorem dL_law_589 : decode cL_law 589 = .ok (.aload 10, 2) := by decide +kernel
theorem dL_law_591 : decode cL_law 591 = .ok (.iconst 1, 1) := by decide +kernel
theorem dL_law_592 : decode cL_law 592 = .ok (.iaload, 1) := by decide +kernel
theorem dL_law_593 : decode cL_law 593 = .ok (.bipush 10, 2) := by decide +kernel
theorem dL_law_595 : decode cL_law 595 = .ok (.if_icmp .ne 6, 3) := by decide +kernel
theorem dL_law_598 : decode cL_law 598 = .ok (.goto 2863, 3) := by decide +kernel
theorem dL_law_601 : decode cL_law 601 = .ok (.iconst 5, 1) := by decide +kernel
theorem dL_law_602 : decode cL_law 602 = .ok (.aload 10, 2) := by decide +kernel
theorem dL_law_604 : decode cL_law 604 = .ok (.iconst 1, 1) := by decide +kernel
theorem dL_law_605 : decode cL_law 605 = .ok (.iaload, 1) := by decide +kernel
theorem dL_law_606 : decode cL_law 606 = .ok (.imul, 1) := by decide +kernel
theorem dL_law_607 : decode cL_law 607 = .ok (.istore 19, 2) := by decide +kernel
theorem dL_law_609 : decode cL_law 609 = .ok (.aload 4, 2) := by decide +kernel
theorem dL_law_611 : decode cL_law 611 = .ok (.iload 19, 2) := by decide +kernel
theorem dL_law_613 : decode cL_law 613 = .ok (.iload 13, 2) := by decide +kernel
theorem dL_law_615 : decode cL_law 615 = .ok (.iconst 4, 1) := by decide +kernel
theorem dL_law_616 : decode cL_law 616 = .ok (.invokestatic 134, 3) := by decide +kernel
theorem dL_law_619 : decode cL_law 619 = .ok (.iastore, 1) := by decide +kernel
theorem dL_law_620 : decode cL_law 620 = .ok (.aload 4, 2) := by decide +kernel
theorem dL_law_622 : decode cL_law 622 = .ok (.iload 19, 2) := by decide +kernel
theorem dL_law_624 : decode cL_law 624 = .ok (.iconst 1, 1) := by decide +kernel
theorem dL_law_625 : decode cL_law 625 = .ok (.iadd, 1) := by decide +kernel
theorem dL_law_626 : decode cL_law 626 = .ok (.iload 13, 2) := by decide +kernel
theorem dL_law_628 : decode cL_law 628 = .ok (.iconst 3, 1) := by decide +kernel
theorem dL_law_629 : decode cL_law 629 = .ok (.ishr, 1) := by decide +kernel
theorem dL_law_630 : decode cL_law 630 = .ok (.sipush 1500, 3) := by decide +kernel
theorem dL_law_633 : decode cL_law 633 = .ok (.invokestatic 134, 3) := by decide +kernel
theorem dL_law_636 : decode cL_law 636 = .ok (.iastore, 1) := by decide +kernel
theorem dL_law_637 : decode cL_law 637 = .ok (.aload 4, 2) := by decide +kernel
theorem dL_law_639 : decode cL_law 639 = .ok (.iload 19, 2) := by decide +kernel
theorem dL_law_641 : decode cL_law 641 = .ok (.iconst 2, 1) := by decide +kernel
theorem dL_law_642 : decode cL_law 642 = .ok (.iadd, 1) := by decide +kernel
theorem dL_law_643 : decode cL_law 643 = .ok (.iconst 1, 1) := by decide +kernel
theorem dL_law_644 : decode cL_law 644 = .ok (.iload 13, 2) := by decide +kernel
theorem dL_law_646 : decode cL_law 646 = .ok (.bipush 9, 2) := by decide +kernel
theorem dL_law_648 : decode cL_law 648 = .ok (.ishr, 1) := by decide +kernel
theorem dL_law_649 : decode cL_law 649 = .ok (.bipush 7, 2) := by decide +kernel
theorem dL_law_651 : decode cL_law 651 = .ok (.invokestatic 134, 3) := by decide +kernel
theorem dL_law_654 : decode cL_law 654 = .ok (.iadd, 1) := by decide +kernel
theorem dL_law_655 : decode cL_law 655 = .ok (.iastore, 1) := by decide +kernel
theorem dL_law_656 : decode cL_law 656 = .ok (.aload 4, 2) := by decide +kernel
theorem dL_law_658 : decode cL_law 658 = .ok (.iload 19, 2) := by decide +kernel
theorem dL_law_660 : decode cL_law 660 = .ok (.iconst 3, 1) := by decide +kernel
theorem dL_law_661 : decode cL_law 661 = .ok (.iadd, 1) := by decide +kernel
theorem dL_law_662 : decode cL_law 662 = .ok (.iload 13, 2) := by decide +kernel
theorem dL_law_664 : decode cL_law 664 = .ok (.bipush 12, 2) := by decide +kernel
theorem dL_law_666 : decode cL_law 666 = .ok (.ishr, 1) := by decide +kernel
theorem dL_law_667 : decode cL_law 667 = .ok (.sipush 1000, 3) := by decide +kernel
theorem dL_law_670 : decode cL_law 670 = .ok (.invokestatic 134, 3) := by decide +kernel
theorem dL_law_673 : decode cL_law 673 = .ok (.iastore, 1) := by decide +kernel
theorem dL_law_674 : decode cL_law 674 = .ok (.aload 4, 2) := by decide +kernel
theorem dL_law_676 : decode cL_law 676 = .ok (.iload 19, 2) := by decide +kernel
theorem dL_law_678 : decode cL_law 678 = .ok (.iconst 4, 1) := by decide +kernel
theorem dL_law_679 : decode cL_law 679 = .ok (.iadd, 1) := by decide +kernel
theorem dL_law_680 : decode cL_law 680 = .ok (.iload 13, 2) := by decide +kernel
theorem dL_law_682 : decode cL_law 682 = .ok (.bipush 17, 2) := by decide +kernel
theorem dL_law_684 : decode cL_law 684 = .ok (.ishr, 1) := by decide +kernel
theorem dL_law_685 : decode cL_law 685 = .ok (.sipush 500, 3) := by decide +kernel
theorem dL_law_688 : decode cL_law 688 = .ok (.invokestatic 134, 3) := by decide +kernel
theorem dL_law_691 : decode cL_law 691 = .ok (.iastore, 1) := by decide +kernel
theorem dL_law_692 : decode cL_law 692 = .ok (.aload_n 1, 1) := by decide +kernel
theorem dL_law_693 : decode cL_law 693 = .ok (.aload 4, 2) := by decide +kernel
theorem dL_law_695 : decode cL_law 695 = .ok (.iload 19, 2) := by decide +kernel
theorem dL_law_697 : decode cL_law 697 = .ok (.iaload, 1) := by decide +kernel
theorem dL_law_698 : decode cL_law 698 = .ok (.aload 4, 2) := by decide +kernel
theorem dL_law_700 : decode cL_law 700 = .ok (.iload 19, 2) := by decide +kernel
theorem dL_law_702 : decode cL_law 702 = .ok (.iconst 1, 1) := by decide +kernel
theorem dL_law_703 : decode cL_law 703 = .ok (.iadd, 1) := by decide +kernel
theorem dL_law_704 : decode cL_law 704 = .ok (.iaload, 1) := by decide +kernel
theorem dL_law_705 : decode cL_law 705 = .ok (.aload 4, 2) := by decide +kernel
theorem dL_law_707 : decode cL_law 707 = .ok (.iload 19, 2) := by decide +kernel
theorem dL_law_709 : decode cL_law 709 = .ok (.iconst 2, 1) := by decide +kernel
theorem dL_law_710 : decode cL_law 710 = .ok (.iadd, 1) := by decide +kernel
theorem dL_law_711 : decode cL_law 711 = .ok (.iaload, 1) := by decide +kernel
theorem dL_law_712 : decode cL_law 712 = .ok (.aload 4, 2) := by decide +kernel
theorem dL_law_714 : decode cL_law 714 = .ok (.iload 19, 2) := by decide +kernel
theorem dL_law_716 : decode cL_law 716 = .ok (.iconst 3, 1) := by decide +kernel
theorem dL_law_717 : decode cL_law 717 = .ok (.iadd, 1) := by decide +kernel
theorem dL_law_718 : decode cL_law 718 = .ok (.iaload, 1) := by decide +kernel
theorem dL_law_719 : decode cL_law 719 = .ok (.aload 4, 2) := by decide +kernel
theorem dL_law_721 : decode cL_law 721 = .ok (.iload 19, 2) := by decide +kernel
theorem dL_law_723 : decode cL_law 723 = .ok (.iconst 4, 1) := by decide +kernel
theorem dL_law_724 : decode cL_law 724 = .ok (.iadd, 1) := by decide +kernel
theorem dL_law_725 : decode cL_law 725 = .ok (.iaload, 1) := by decide +kernel
theorem dL_law_726 : decode cL_law 726 = .ok (.invokestatic 167, 3) := by decide +kernel
theorem dL_law_729 : decode cL_law 729 = .ok (.aload 10, 2) := by decide +kernel
theorem dL_law_731 : decode cL_law 731 = .ok (.iconst 1, 1) := by decide +kernel
theorem dL_law_732 : decode cL_law 732 = .ok (.iaload, 1) := by decide +kernel
theorem dL_law_733 : decode cL_law 733 = .ok (.if_icmp .ne 7, 3) := by decide +kernel
theorem dL_law_736 : decode cL_law 736 = .ok (.iconst 1, 1) := by decide +kernel
theorem dL_law_737 : decode cL_law 737 = .ok (.goto 4, 3) := by decide +kernel
theorem dL_law_740 : decode cL_law 740 = .ok (.iconst 0, 1) := by decide +kernel
theorem dL_law_741 : decode cL_law 741 = .ok (.istore 17, 2) := by decide +kernel
theorem dL_law_743 : decode cL_law 743 = .ok (.aload 10, 2) := by decide +kernel
theorem dL_law_745 : decode cL_law 745 = .ok (.iconst 1, 1) := by decide +kernel
theorem dL_law_746 : decode cL_law 746 = .ok (.dup2, 1) := by decide +kernel
theorem dL_law_747 : decode cL_law 747 = .ok (.iaload, 1) := by decide +kernel
theorem dL_law_748 : decode cL_law 748 = .ok (.iconst 1, 1) := by decide +kernel
theorem dL_law_749 : decode cL_law 749 = .ok (.iadd, 1) := by decide +kernel
theorem dL_law_750 : decode cL_law 750 = .ok (.iastore, 1) := by decide +kernel
theorem dL_law_751 : decode cL_law 751 = .ok (.goto 2710, 3) := by decide +kernel
theorem dL_law_754 : decode cL_law 754 = .ok (.aload 10, 2) := by decide +kernel
theorem dL_law_756 : decode cL_law 756 = .ok (.bipush 8, 2) := by decide +kernel
theorem dL_law_758 : decode cL_law 758 = .ok (.iaload, 1) := by decide +kernel
theorem dL_law_759 : decode cL_law 759 = .ok (.ifCond .ne 6, 3) := by decide +kernel
theorem dL_law_762 : decode cL_law 762 = .ok (.goto 2699, 3) := by decide +kernel
theorem dL_law_765 : decode cL_law 765 = .ok (.aload_n 2, 1) := by decide +kernel
theorem dL_law_766 : decode cL_law 766 = .ok (.iload 15, 2) := by decide +kernel
theorem dL_law_768 : decode cL_law 768 = .ok (.iconst 3, 1) := by decide +kernel
theorem dL_law_769 : decode cL_law 769 = .ok (.iadd, 1) := by decide +kernel
theorem dL_law_770 : decode cL_law 770 = .ok (.iload 13, 2) := by decide +kernel
theorem dL_law_772 : decode cL_law 772 = .ok (.iconst 3, 1) := by decide +kernel
theorem dL_law_773 : decode cL_law 773 = .ok (.invokestatic 134, 3) := by decide +kernel
theorem dL_law_776 : decode cL_law 776 = .ok (.iastore, 1) := by decide +kernel
theorem dL_law_777 : decode cL_law 777 = .ok (.aload_n 2, 1) := by decide +kernel
theorem dL_law_778 : decode cL_law 778 = .ok (.iload 15, 2) := by decide +kernel
theorem dL_law_780 : decode cL_law 780 = .ok (.iconst 4, 1) := by decide +kernel
theorem dL_law_781 : decode cL_law 781 = .ok (.iadd, 1) := by decide +kernel
theorem dL_law_782 : decode cL_law 782 = .ok (.iload 13, 2) := by decide +kernel
theorem dL_law_784 : decode cL_law 784 = .ok (.iconst 4, 1) := by decide +kernel
theorem dL_law_785 : decode cL_law 785 = .ok (.ishr, 1) := by decide +kernel
theorem dL_law_786 : decode cL_law 786 = .ok (.iconst 4, 1) := by decide +kernel
theorem dL_law_787 : decode cL_law 787 = .ok (.invokestatic 134, 3) := by decide +kernel
theorem dL_law_790 : decode cL_law 790 = .ok (.iastore, 1) := by decide +kernel
theorem dL_law_791 : decode cL_law 791 = .ok (.aload_n 2, 1) := by decide +kernel
theorem dL_law_792 : decode cL_law 792 = .ok (.iload 15, 2) := by decide +kernel
theorem dL_law_794 : decode cL_law 794 = .ok (.iconst 5, 1) := by decide +kernel
theorem dL_law_795 : decode cL_law 795 = .ok (.iadd, 1) := by decide +kernel
theorem dL_law_796 : decode cL_law 796 = .ok (.dup2, 1) := by decide +kernel
theorem dL_law_797 : decode cL_law 797 = .ok (.iaload, 1) := by decide +kernel
theorem dL_law_798 : decode cL_law 798 = .ok (.iconst 1, 1) := by decide +kernel
theorem dL_law_799 : decode cL_law 799 = .ok (.iadd, 1) := by decide +kernel
theorem dL_law_800 : decode cL_law 800 = .ok (.iastore, 1) := by decide +kernel
theorem dL_law_801 : decode cL_law 801 = .ok (.aload_n 1, 1) := by decide +kernel
theorem dL_law_802 : decode cL_law 802 = .ok (.iload 14, 2) := by decide +kernel
theorem dL_law_804 : decode cL_law 804 = .ok (.aload_n 2, 1) := by decide +kernel
theorem dL_law_805 : decode cL_law 805 = .ok (.iload 15, 2) := by decide +kernel
theorem dL_law_807 : decode cL_law 807 = .ok (.iconst 3, 1) := by decide +kernel
theorem dL_law_808 : decode cL_law 808 = .ok (.iadd, 1) := by decide +kernel
theorem dL_law_809 : decode cL_law 809 = .ok (.iaload, 1) := by decide +kernel
theorem dL_law_810 : decode cL_law 810 = .ok (.aload_n 2, 1) := by decide +kernel
theorem dL_law_811 : decode cL_law 811 = .ok (.iload 15, 2) := by decide +kernel
theorem dL_law_813 : decode cL_law 813 = .ok (.iconst 4, 1) := by decide +kernel
theorem dL_law_814 : decode cL_law 814 = .ok (.iadd, 1) := by decide +kernel
theorem dL_law_815 : decode cL_law 815 = .ok (.iaload, 1) := by decide +kernel
theorem dL_law_816 : decode cL_law 816 = .ok (.invokestatic 169, 3) := by decide +kernel
theorem dL_law_819 : decode cL_law 819 = .ok (.aload_n 2, 1) := by decide +kernel
theorem dL_law_820 : decode cL_law 820 = .ok (.iload 15, 2) := by decide +kernel
theorem dL_law_822 : decode cL_law 822 = .ok (.iconst 5, 1) := by decide +kernel
theorem dL_law_823 : decode cL_law 823 = .ok (.iadd, 1) := by decide +kernel
theorem dL_law_824 : decode cL_law 824 = .ok (.iaload, 1) := by decide +kernel
theorem dL_law_825 : decode cL_law 825 = .ok (.if_icmp .ne 7, 3) := by decide +kernel
theorem dL_law_828 : decode cL_law 828 = .ok (.iconst 1, 1) := by decide +kernel
theorem dL_law_829 : decode cL_law 829 = .ok (.goto 4, 3) := by decide +kernel
theorem dL_law_832 : decode cL_law 832 = .ok (.iconst 0, 1) := by decide +kernel
theorem dL_law_833 : decode cL_law 833 = .ok (.istore 17, 2) := by decide +kernel
theorem dL_law_835 : decode cL_law 835 = .ok (.goto 2626, 3) := by decide +kernel
theorem dL_law_838 : decode cL_law 838 = .ok (.iload 13, 2) := by decide +kernel
theorem dL_law_840 : decode cL_law 840 = .ok (.iconst 4, 1) := by decide +kernel
theorem dL_law_841 : decode cL_law 841 = .ok (.invokestatic 134, 3) := by decide +kernel
theorem dL_law_844 : decode cL_law 844 = .ok (.istore 20, 2) := by decide +kernel
theorem dL_law_846 : decode cL_law 846 = .ok (.iload 13, 2) := by decide +kernel
theorem dL_law_848 : decode cL_law 848 = .ok (.iconst 4, 1) := by decide +kernel
theorem dL_law_849 : decode cL_law 849 = .ok (.ishr, 1) := by decide +kernel
theorem dL_law_850 : decode cL_law 850 = .ok (.iconst 3, 1) := by decide +kernel
theorem dL_law_851 : decode cL_law 851 = .ok (.iand, 1) := by decide +kernel
theorem dL_law_852 : decode cL_law 852 = .ok (.ifCond .le 7, 3) := by decide +kernel
theorem dL_law_855 : decode cL_law 855 = .ok (.iconst 1, 1) := by decide +kernel
theorem dL_law_856 : decode cL_law 856 = .ok (.goto 4, 3) := by decide +kernel
theorem dL_law_859 : decode cL_law 859 = .ok (.iconst 0, 1) := by decide +kernel
theorem dL_law_860 : decode cL_law 860 = .ok (.istore 21, 2) := by decide +kernel
theorem dL_law_862 : decode cL_law 862 = .ok (.aload_n 1, 1) := by decide +kernel
theorem dL_law_863 : decode cL_law 863 = .ok (.iload 20, 2) := by decide +kernel
theorem dL_law_865 : decode cL_law 865 = .ok (.iload 21, 2) := by decide +kernel
theorem dL_law_867 : decode cL_law 867 = .ok (.ifCond .ne 7, 3) := by decide +kernel
theorem dL_law_870 : decode cL_law 870 = .ok (.iconst 1, 1) := by decide +kernel
theorem dL_law_871 : decode cL_law 871 = .ok (.goto 4, 3) := by decide +kernel
theorem dL_law_874 : decode cL_law 874 = .ok (.iconst 0, 1) := by decide +kernel
theorem dL_law_875 : decode cL_law 875 = .ok (.invokestatic 171, 3) := by decide +kernel
theorem dL_law_878 : decode cL_law 878 = .ok (.aload 10, 2) := by decide +kernel
theorem dL_law_880 : decode cL_law 880 = .ok (.bipush 7, 2) := by decide +kernel
theorem dL_law_882 : decode cL_law 882 = .ok (.iaload, 1) := by decide +kernel
theorem dL_law_883 : decode cL_law 883 = .ok (.iload 20, 2) := by decide +kernel
theorem dL_law_885 : decode cL_law 885 = .ok (.ishr, 1) := by decide +kernel
theorem dL_law_886 : decode cL_law 886 = .ok (.iconst 1, 1) := by decide +kernel
theorem dL_law_887 : decode cL_law 887 = .ok (.iand, 1) := by decide +kernel
theorem dL_law_888 : decode cL_law 888 = .ok (.if_icmp .ne 7, 3) := by decide +kernel
theorem dL_law_891 : decode cL_law 891 = .ok (.iconst 1, 1) := by decide +kernel
theorem dL_law_892 : decode cL_law 892 = .ok (.goto 4, 3) := by decide +kernel
theorem dL_law_895 : decode cL_law 895 = .ok (.iconst 0, 1) := by decide +kernel
theorem dL_law_896 : decode cL_law 896 = .ok (.istore 17, 2) := by decide +kernel
theorem dL_law_898 : decode cL_law 898 = .ok (.aload 10, 2) := by decide +kernel
theorem dL_law_900 : decode cL_law 900 = .ok (.bipush 7, 2) := by decide +kernel
theorem dL_law_902 : decode cL_law 902 = .ok (.iload 21, 2) := by decide +kernel
theorem dL_law_904 : decode cL_law 904 = .ok (.ifCond .eq 18, 3) := by decide +kernel
theorem dL_law_907 : decode cL_law 907 = .ok (.aload 10, 2) := by decide +kernel
theorem dL_law_909 : decode cL_law 909 = .ok (.bipush 7, 2) := by decide +kernel
theorem dL_law_911 : decode cL_law 911 = .ok (.iaload, 1) := by decide +kernel
theorem dL_law_912 : decode cL_law 912 = .ok (.iconst 1, 1) := by decide +kernel
theorem dL_law_913 : decode cL_law 913 = .ok (.iload 20, 2) := by decide +kernel
theorem dL_law_915 : decode cL_law 915 = .ok (.ishl, 1) := by decide +kernel
theorem dL_law_916 : decode cL_law 916 = .ok (.iconst (-1), 1) := by decide +kernel
theorem dL_law_917 : decode cL_law 917 = .ok (.ixor, 1) := by decide +kernel
theorem dL_law_918 : decode cL_law 918 = .ok (.iand, 1) := by decide +kernel
theorem dL_law_919 : decode cL_law 919 = .ok (.goto 13, 3) := by decide +kernel
theorem dL_law_922 : decode cL_law 922 = .ok (.aload 10, 2) := by decide +kernel
theorem dL_law_924 : decode cL_law 924 = .ok (.bipush 7, 2) := by decide +kernel
theorem dL_law_926 : decode cL_law 926 = .ok (.iaload, 1) := by decide +kernel
theorem dL_law_927 : decode cL_law 927 = .ok (.iconst 1, 1) := by decide +kernel
theorem dL_law_928 : decode cL_law 928 = .ok (.iload 20, 2) := by decide +kernel
theorem dL_law_930 : decode cL_law 930 = .ok (.ishl, 1) := by decide +kernel
theorem dL_law_931 : decode cL_law 931 = .ok (.ior, 1) := by decide +kernel
theorem dL_law_932 : decode cL_law 932 = .ok (.iastore, 1) := by decide +kernel
theorem dL_law_933 : decode cL_law 933 = .ok (.goto 2528, 3) := by decide +kernel
theorem dL_law_936 : decode cL_law 936 = .ok (.aload 10, 2) := by decide +kernel
theorem dL_law_938 : decode cL_law 938 = .ok (.bipush 8, 2) := by decide +kernel
theorem dL_law_940 : decode cL_law 940 = .ok (.iaload, 1) := by decide +kernel
theorem dL_law_941 : decode cL_law 941 = .ok (.ifCond .ne 6, 3) := by decide +kernel
theorem dL_law_944 : decode cL_law 944 = .ok (.goto 2517, 3) := by decide +kernel
theorem dL_law_947 : decode cL_law 947 = .ok (.iload 13, 2) := by decide +kernel
theorem dL_law_949 : decode cL_law 949 = .ok (.iconst 3, 1) := by decide +kernel
theorem dL_law_950 : decode cL_law 950 = .ok (.invokestatic 134, 3) := by decide +kernel
theorem dL_law_953 : decode cL_law 953 = .ok (.istore 22, 2) := by decide +kernel
theorem dL_law_955 : decode cL_law 955 = .ok (.iload 22, 2) := by decide +kernel
theorem dL_law_957 : decode cL_law 957 = .ok (.iconst 5, 1) := by decide +kernel
theorem dL_law_958 : decode cL_law 958 = .ok (.if_icmp .ge 190, 3) := by decide +kernel
theorem dL_law_961 : decode cL_law 961 = .ok (.iconst 1, 1) := by decide +kernel
theorem dL_law_962 : decode cL_law 962 = .ok (.iload 13, 2) := by decide +kernel
theorem dL_law_964 : decode cL_law 964 = .ok (.iconst 3, 1) := by decide +kernel
theorem dL_law_965 : decode cL_law 965 = .ok (.ishr, 1) := by decide +kernel
theorem dL_law_966 : decode cL_law 966 = .ok (.iload 13, 2) := by decide +kernel
theorem dL_law_968 : decode cL_law 968 = .ok (.ldc 174, 2) := by decide +kernel
theorem dL_law_970 : decode cL_law 970 = .ok (.iand, 1) := by decide +kernel
theorem dL_law_971 : decode cL_law 971 = .ok (.ifCond .ne 9, 3) := by decide +kernel
theorem dL_law_974 : decode cL_law 974 = .ok (.sipush 1825, 3) := by decide +kernel
theorem dL_law_977 : decode cL_law 977 = .ok (.goto 6, 3) := by decide +kernel
theorem dL_law_980 : decode cL_law 980 = .ok (.sipush 500, 3) := by decide +kernel
theorem dL_law_983 : decode cL_law 983 = .ok (.invokestatic 134, 3) := by decide +kernel
theorem dL_law_986 : decode cL_law 986 = .ok (.iadd, 1) := by decide +kernel
theorem dL_law_987 : decode cL_law 987 = .ok (.istore 23, 2) := by decide +kernel
theorem dL_law_989 : decode cL_law 989 = .ok (.iload 14, 2) := by decide +kernel
theorem dL_law_991 : decode cL_law 991 = .ok (.aload_n 3, 1) := by decide +kernel
theorem dL_law_992 : decode cL_law 992 = .ok (.aload 10, 2) := by decide +kernel
theorem dL_law_994 : decode cL_law 994 = .ok (.invokestatic 130, 3) := by decide +kernel
theorem dL_law_997 : decode cL_law 997 = .ok (.istore 24, 2) := by decide +kernel
theorem dL_law_999 : decode cL_law 999 = .ok (.aload 10, 2) := by decide +kernel
theorem dL_law_1001 : decode cL_law 1001 = .ok (.bipush 7, 2) := by decide +kernel
theorem dL_law_1003 : decode cL_law 1003 = .ok (.iaload, 1) := by decide +kernel
theorem dL_law_1004 : decode cL_law 1004 = .ok (.aload_n 2, 1) := by decide +kernel
theorem dL_law_1005 : decode cL_law 1005 = .ok (.iload 15, 2) := by decide +kernel
theorem dL_law_1007 : decode cL_law 1007 = .ok (.iconst 4, 1) := by decide +kernel
theorem dL_law_1008 : decode cL_law 1008 = .ok (.iadd, 1) := by decide +kernel
theorem dL_law_1009 : decode cL_law 1009 = .ok (.iaload, 1) := by decide +kernel
theorem dL_law_1010 : decode cL_law 1010 = .ok (.ishr, 1) := by decide +kernel
theorem dL_law_1011 : decode cL_law 1011 = .ok (.iconst 1, 1) := by decide +kernel
theorem dL_law_1012 : decode cL_law 1012 = .ok (.iand, 1) := by decide +kernel
theorem dL_law_1013 : decode cL_law 1013 = .ok (.ifCond .ne 37, 3) := by decide +kernel
theorem dL_law_1016 : decode cL_law 1016 = .ok (.iload 22, 2) := by decide +kernel
theorem dL_law_1018 : decode cL_law 1018 = .ok (.ifCond .eq 28, 3) := by decide +kernel
theorem dL_law_1021 : decode cL_law 1021 = .ok (.iload 22, 2) := by decide +kernel
theorem dL_law_1023 : decode cL_law 1023 = .ok (.iconst 4, 1) := by decide +kernel
theorem dL_law_1024 : decode cL_law 1024 = .ok (.if_icmp .eq 22, 3) := by decide +kernel
theorem dL_law_1027 : decode cL_law 1027 = .ok (.iload 24, 2) := by decide +kernel
theorem dL_law_1029 : decode cL_law 1029 = .ok (.iload 22, 2) := by decide +kernel
theorem dL_law_1031 : decode cL_law 1031 = .ok (.iconst 2, 1) := by decide +kernel
theorem dL_law_1032 : decode cL_law 1032 = .ok (.if_icmp .ne 7, 3) := by decide +kernel
theorem dL_law_1035 : decode cL_law 1035 = .ok (.iconst 1, 1) := by decide +kernel
theorem dL_law_1036 : decode cL_law 1036 = .ok (.goto 4, 3) := by decide +kernel
theorem dL_law_1039 : decode cL_law 1039 = .ok (.iconst 0, 1) := by decide +kernel
theorem dL_law_1040 : decode cL_law 1040 = .ok (.ishr, 1) := by decide +kernel
theorem dL_law_1041 : decode cL_law 1041 = .ok (.iconst 1, 1) := by decide +kernel
theorem dL_law_1042 : decode cL_law 1042 = .ok (.iand, 1) := by decide +kernel
theorem dL_law_1043 : decode cL_law 1043 = .ok (.ifCond .ne 7, 3) := by decide +kernel
theorem dL_law_1046 : decode cL_law 1046 = .ok (.iconst 1, 1) := by decide +kernel
theorem dL_law_1047 : decode cL_law 1047 = .ok (.goto 4, 3) := by decide +kernel
theorem dL_law_1050 : decode cL_law 1050 = .ok (.iconst 0, 1) := by decide +kernel
theorem dL_law_1051 : decode cL_law 1051 = .ok (.istore 25, 2) := by decide +kernel
theorem dL_law_1053 : decode cL_law 1053 = .ok (.iload 17, 2) := by decide +kernel
theorem dL_law_1055 : decode cL_law 1055 = .ok (.aload_n 1, 1) := by decide +kernel
theorem dL_law_1056 : decode cL_law 1056 = .ok (.iload 14, 2) := by decide +kernel
theorem dL_law_1058 : decode cL_law 1058 = .ok (.iload 22, 2) := by decide +kernel
theorem dL_law_1060 : decode cL_law 1060 = .ok (.iload 23, 2) := by decide +kernel
theorem dL_law_1062 : decode cL_law 1062 = .ok (.invokestatic 175, 3) := by decide +kernel
theorem dL_law_1065 : decode cL_law 1065 = .ok (.iload 25, 2) := by decide +kernel
theorem dL_law_1067 : decode cL_law 1067 = .ok (.ifCond .eq 13, 3) := by decide +kernel
theorem dL_law_1070 : decode cL_law 1070 = .ok (.aload 10, 2) := by decide +kernel
theorem dL_law_1072 : decode cL_law 1072 = .ok (.iconst 0, 1) := by decide +kernel
theorem dL_law_1073 : decode cL_law 1073 = .ok (.iaload, 1) := by decide +kernel
theorem dL_law_1074 : decode cL_law 1074 = .ok (.iload 23, 2) := by decide +kernel
theorem dL_law_1076 : decode cL_law 1076 = .ok (.iadd, 1) := by decide +kernel
theorem dL_law_1077 : decode cL_law 1077 = .ok (.goto 6, 3) := by decide +kernel
theorem dL_law_1080 : decode cL_law 1080 = .ok (.sipush (-7300), 3) := by decide +kernel
theorem dL_law_1083 : decode cL_law 1083 = .ok (.if_icmp .ne 7, 3) := by decide +kernel
theorem dL_law_1086 : decode cL_law 1086 = .ok (.iconst 1, 1) := by decide +kernel
theorem dL_law_1087 : decode cL_law 1087 = .ok (.goto 4, 3) := by decide +kernel
theorem dL_law_1090 : decode cL_law 1090 = .ok (.iconst 0, 1) := by decide +kernel
theorem dL_law_1091 : decode cL_law 1091 = .ok (.iand, 1) := by decide +kernel
theorem dL_law_1092 : decode cL_law 1092 = .ok (.istore 17, 2) := by decide +kernel
theorem dL_law_1094 : decode cL_law 1094 = .ok (.iload 25, 2) := by decide +kernel
theorem dL_law_1096 : decode cL_law 1096 = .ok (.ifCond .ne 6, 3) := by decide +kernel
theorem dL_law_1099 : decode cL_law 1099 = .ok (.goto 43, 3) := by decide +kernel
theorem dL_law_1102 : decode cL_law 1102 = .ok (.bipush 15, 2) := by decide +kernel
theorem dL_law_1104 : decode cL_law 1104 = .ok (.iload 14, 2) := by decide +kernel
theorem dL_law_1106 : decode cL_law 1106 = .ok (.imul, 1) := by decide +kernel
theorem dL_law_1107 : decode cL_law 1107 = .ok (.iconst 3, 1) := by decide +kernel
theorem dL_law_1108 : decode cL_law 1108 = .ok (.iload 22, 2) := by decide +kernel
theorem dL_law_1110 : decode cL_law 1110 = .ok (.imul, 1) := by decide +kernel
theorem dL_law_1111 : decode cL_law 1111 = .ok (.iadd, 1) := by decide +kernel
theorem dL_law_1112 : decode cL_law 1112 = .ok (.istore 26, 2) := by decide +kernel
theorem dL_law_1114 : decode cL_law 1114 = .ok (.aload_n 3, 1) := by decide +kernel
theorem dL_law_1115 : decode cL_law 1115 = .ok (.iload 26, 2) := by decide +kernel
theorem dL_law_1117 : decode cL_law 1117 = .ok (.aload 10, 2) := by decide +kernel
theorem dL_law_1119 : decode cL_law 1119 = .ok (.iconst 0, 1) := by decide +kernel
theorem dL_law_1120 : decode cL_law 1120 = .ok (.iaload, 1) := by decide +kernel
theorem dL_law_1121 : decode cL_law 1121 = .ok (.iastore, 1) := by decide +kernel
theorem dL_law_1122 : decode cL_law 1122 = .ok (.aload_n 3, 1) := by decide +kernel
theorem dL_law_1123 : decode cL_law 1123 = .ok (.iload 26, 2) := by decide +kernel
theorem dL_law_1125 : decode cL_law 1125 = .ok (.iconst 1, 1) := by decide +kernel
theorem dL_law_1126 : decode cL_law 1126 = .ok (.iadd, 1) := by decide +kernel
theorem dL_law_1127 : decode cL_law 1127 = .ok (.iload 23, 2) := by decide +kernel
theorem dL_law_1129 : decode cL_law 1129 = .ok (.iastore, 1) := by decide +kernel
theorem dL_law_1130 : decode cL_law 1130 = .ok (.aload_n 3, 1) := by decide +kernel
theorem dL_law_1131 : decode cL_law 1131 = .ok (.iload 26, 2) := by decide +kernel
theorem dL_law_1133 : decode cL_law 1133 = .ok (.iconst 2, 1) := by decide +kernel
theorem dL_law_1134 : decode cL_law 1134 = .ok (.iadd, 1) := by decide +kernel
theorem dL_law_1135 : decode cL_law 1135 = .ok (.aload_n 2, 1) := by decide +kernel
theorem dL_law_1136 : decode cL_law 1136 = .ok (.iload 15, 2) := by decide +kernel
theorem dL_law_1138 : decode cL_law 1138 = .ok (.iconst 4, 1) := by decide +kernel
theorem dL_law_1139 : decode cL_law 1139 = .ok (.iadd, 1) := by decide +kernel
theorem dL_law_1140 : decode cL_law 1140 = .ok (.iaload, 1) := by decide +kernel
theorem dL_law_1141 : decode cL_law 1141 = .ok (.iastore, 1) := by decide +kernel
theorem dL_law_1142 : decode cL_law 1142 = .ok (.iinc 22 1, 3) := by decide +kernel
theorem dL_law_1145 : decode cL_law 1145 = .ok (.goto (-190), 3) := by decide +kernel
theorem dL_law_1148 : decode cL_law 1148 = .ok (.goto 2313, 3) := by decide +kernel
theorem dL_law_1151 : decode cL_law 1151 = .ok (.aload 10, 2) := by decide +kernel
theorem dL_law_1153 : decode cL_law 1153 = .ok (.bipush 8, 2) := by decide +kernel
theorem dL_law_1155 : decode cL_law 1155 = .ok (.iaload, 1) := by decide +kernel
theorem dL_law_1156 : decode cL_law 1156 = .ok (.ifCond .ne 6, 3) := by decide +kernel
theorem dL_law_1159 : decode cL_law 1159 = .ok (.goto 2302, 3) := by decide +kernel
theorem dL_law_1162 : decode cL_law 1162 = .ok (.iconst 0, 1) := by decide +kernel
theorem dL_law_1163 : decode cL_law 1163 = .ok (.istore 22, 2) := by decide +kernel
theorem dL_law_1165 : decode cL_law 1165 = .ok (.iload 22, 2) := by decide +kernel
theorem dL_law_1167 : decode cL_law 1167 = .ok (.iconst 5, 1) := by decide +kernel
theorem dL_law_1168 : decode cL_law 1168 = .ok (.if_icmp .ge 223, 3) := by decide +kernel
theorem dL_law_1171 : decode cL_law 1171 = .ok (.bipush 15, 2) := by decide +kernel
theorem dL_law_1173 : decode cL_law 1173 = .ok (.iload 14, 2) := by decide +kernel
theorem dL_law_1175 : decode cL_law 1175 = .ok (.imul, 1) := by decide +kernel
theorem dL_law_1176 : decode cL_law 1176 = .ok (.iconst 3, 1) := by decide +kernel
theorem dL_law_1177 : decode cL_law 1177 = .ok (.iload 22, 2) := by decide +kernel
theorem dL_law_1179 : decode cL_law 1179 = .ok (.imul, 1) := by decide +kernel
theorem dL_law_1180 : decode cL_law 1180 = .ok (.iadd, 1) := by decide +kernel
theorem dL_law_1181 : decode cL_law 1181 = .ok (.istore 23, 2) := by decide +kernel
theorem dL_law_1183 : decode cL_law 1183 = .ok (.aload_n 3, 1) := by decide +kernel
theorem dL_law_1184 : decode cL_law 1184 = .ok (.iload 23, 2) := by decide +kernel
theorem dL_law_1186 : decode cL_law 1186 = .ok (.iaload, 1) := by decide +kernel
theorem dL_law_1187 : decode cL_law 1187 = .ok (.iconst (-1), 1) := by decide +kernel
theorem dL_law_1188 : decode cL_law 1188 = .ok (.if_icmp .ne 7, 3) := by decide +kernel
theorem dL_law_1191 : decode cL_law 1191 = .ok (.iconst 0, 1) := by decide +kernel
theorem dL_law_1192 : decode cL_law 1192 = .ok (.goto 19, 3) := by decide +kernel
theorem dL_law_1195 : decode cL_law 1195 = .ok (.aload 10, 2) := by decide +kernel
theorem dL_law_1197 : decode cL_law 1197 = .ok (.iconst 0, 1) := by decide +kernel
theorem dL_law_1198 : decode cL_law 1198 = .ok (.iaload, 1) := by decide +kernel
theorem dL_law_1199 : decode cL_law 1199 = .ok (.aload_n 3, 1) := by decide +kernel
theorem dL_law_1200 : decode cL_law 1200 = .ok (.iload 23, 2) := by decide +kernel
theorem dL_law_1202 : decode cL_law 1202 = .ok (.iaload, 1) := by decide +kernel
theorem dL_law_1203 : decode cL_law 1203 = .ok (.isub, 1) := by decide +kernel
theorem dL_law_1204 : decode cL_law 1204 = .ok (.bipush 90, 2) := by decide +kernel
theorem dL_law_1206 : decode cL_law 1206 = .ok (.iadd, 1) := by decide +kernel
theorem dL_law_1207 : decode cL_law 1207 = .ok (.sipush 365, 3) := by decide +kernel
theorem dL_law_1210 : decode cL_law 1210 = .ok (.idiv, 1) := by decide +kernel
theorem dL_law_1211 : decode cL_law 1211 = .ok (.istore 24, 2) := by decide +kernel
theorem dL_law_1213 : decode cL_law 1213 = .ok (.iload 14, 2) := by decide +kernel
theorem dL_law_1215 : decode cL_law 1215 = .ok (.aload_n 3, 1) := by decide +kernel
theorem dL_law_1216 : decode cL_law 1216 = .ok (.aload 10, 2) := by decide +kernel
theorem dL_law_1218 : decode cL_law 1218 = .ok (.invokestatic 130, 3) := by decide +kernel
theorem dL_law_1221 : decode cL_law 1221 = .ok (.iload 22, 2) := by decide +kernel
theorem dL_law_1223 : decode cL_law 1223 = .ok (.ishr, 1) := by decide +kernel
theorem dL_law_1224 : decode cL_law 1224 = .ok (.iconst 1, 1) := by decide +kernel
theorem dL_law_1225 : decode cL_law 1225 = .ok (.iand, 1) := by decide +kernel
theorem dL_law_1226 : decode cL_law 1226 = .ok (.ifCond .ne 64, 3) := by decide +kernel
theorem dL_law_1229 : decode cL_law 1229 = .ok (.iload 24, 2) := by decide +kernel
theorem dL_law_1231 : decode cL_law 1231 = .ok (.ifCond .le 59, 3) := by decide +kernel
theorem dL_law_1234 : decode cL_law 1234 = .ok (.sipush 365, 3) := by decide +kernel
theorem dL_law_1237 : decode cL_law 1237 = .ok (.iload 24, 2) := by decide +kernel
theorem dL_law_1239 : decode cL_law 1239 = .ok (.imul, 1) := by decide +kernel
theorem dL_law_1240 : decode cL_law 1240 = .ok (.aload_n 3, 1) := by decide +kernel
theorem dL_law_1241 : decode cL_law 1241 = .ok (.iload 23, 2) := by decide +kernel
theorem dL_law_1243 : decode cL_law 1243 = .ok (.iconst 1, 1) := by decide +kernel
theorem dL_law_1244 : decode cL_law 1244 = .ok (.iadd, 1) := by decide +kernel
theorem dL_law_1245 : decode cL_law 1245 = .ok (.iaload, 1) := by decide +kernel
theorem dL_law_1246 : decode cL_law 1246 = .ok (.if_icmp .ge 44, 3) := by decide +kernel
theorem dL_law_1249 : decode cL_law 1249 = .ok (.aload 10, 2) := by decide +kernel
theorem dL_law_1251 : decode cL_law 1251 = .ok (.iconst 0, 1) := by decide +kernel
theorem dL_law_1252 : decode cL_law 1252 = .ok (.iaload, 1) := by decide +kernel
theorem dL_law_1253 : decode cL_law 1253 = .ok (.aload_n 3, 1) := by decide +kernel
theorem dL_law_1254 : decode cL_law 1254 = .ok (.iload 23, 2) := by decide +kernel
theorem dL_law_1256 : decode cL_law 1256 = .ok (.iaload, 1) := by decide +kernel
theorem dL_law_1257 : decode cL_law 1257 = .ok (.isub, 1) := by decide +kernel
theorem dL_law_1258 : decode cL_law 1258 = .ok (.sipush 365, 3) := by decide +kernel
theorem dL_law_1261 : decode cL_law 1261 = .ok (.iload 24, 2) := by decide +kernel
theorem dL_law_1263 : decode cL_law 1263 = .ok (.imul, 1) := by decide +kernel
theorem dL_law_1264 : decode cL_law 1264 = .ok (.bipush 90, 2) := by decide +kernel
theorem dL_law_1266 : decode cL_law 1266 = .ok (.iadd, 1) := by decide +kernel
theorem dL_law_1267 : decode cL_law 1267 = .ok (.if_icmp .gt 23, 3) := by decide +kernel
theorem dL_law_1270 : decode cL_law 1270 = .ok (.aload_n 3, 1) := by decide +kernel
theorem dL_law_1271 : decode cL_law 1271 = .ok (.iload 23, 2) := by decide +kernel
theorem dL_law_1273 : decode cL_law 1273 = .ok (.iconst 2, 1) := by decide +kernel
theorem dL_law_1274 : decode cL_law 1274 = .ok (.iadd, 1) := by decide +kernel
theorem dL_law_1275 : decode cL_law 1275 = .ok (.iaload, 1) := by decide +kernel
theorem dL_law_1276 : decode cL_law 1276 = .ok (.iconst 2, 1) := by decide +kernel
theorem dL_law_1277 : decode cL_law 1277 = .ok (.iload 24, 2) := by decide +kernel
theorem dL_law_1279 : decode cL_law 1279 = .ok (.iadd, 1) := by decide +kernel
theorem dL_law_1280 : decode cL_law 1280 = .ok (.ishr, 1) := by decide +kernel
theorem dL_law_1281 : decode cL_law 1281 = .ok (.iconst 1, 1) := by decide +kernel
theorem dL_law_1282 : decode cL_law 1282 = .ok (.iand, 1) := by decide +kernel
theorem dL_law_1283 : decode cL_law 1283 = .ok (.ifCond .ne 7, 3) := by decide +kernel
theorem dL_law_1286 : decode cL_law 1286 = .ok (.iconst 1, 1) := by decide +kernel
theorem dL_law_1287 : decode cL_law 1287 = .ok (.goto 4, 3) := by decide +kernel
theorem dL_law_1290 : decode cL_law 1290 = .ok (.iconst 0, 1) := by decide +kernel
theorem dL_law_1291 : decode cL_law 1291 = .ok (.istore 25, 2) := by decide +kernel
theorem dL_law_1293 : decode cL_law 1293 = .ok (.aload_n 3, 1) := by decide +kernel
theorem dL_law_1294 : decode cL_law 1294 = .ok (.iload 23, 2) := by decide +kernel
theorem dL_law_1296 : decode cL_law 1296 = .ok (.iconst 2, 1) := by decide +kernel
theorem dL_law_1297 : decode cL_law 1297 = .ok (.iadd, 1) := by decide +kernel
theorem dL_law_1298 : decode cL_law 1298 = .ok (.dup2, 1) := by decide +kernel
theorem dL_law_1299 : decode cL_law 1299 = .ok (.iaload, 1) := by decide +kernel
theorem dL_law_1300 : decode cL_law 1300 = .ok (.iload 25, 2) := by decide +kernel
theorem dL_law_1302 : decode cL_law 1302 = .ok (.ifCond .eq 10, 3) := by decide +kernel
theorem dL_law_1305 : decode cL_law 1305 = .ok (.iconst 4, 1) := by decide +kernel
theorem dL_law_1306 : decode cL_law 1306 = .ok (.iload 24, 2) := by decide +kernel
theorem dL_law_1308 : decode cL_law 1308 = .ok (.ishl, 1) := by decide +kernel
theorem dL_law_1309 : decode cL_law 1309 = .ok (.goto 4, 3) := by decide +kernel
theorem dL_law_1312 : decode cL_law 1312 = .ok (.iconst 0, 1) := by decide +kernel
theorem dL_law_1313 : decode cL_law 1313 = .ok (.ior, 1) := by decide +kernel
theorem dL_law_1314 : decode cL_law 1314 = .ok (.iastore, 1) := by decide +kernel
theorem dL_law_1315 : decode cL_law 1315 = .ok (.iconst 0, 1) := by decide +kernel
theorem dL_law_1316 : decode cL_law 1316 = .ok (.istore 26, 2) := by decide +kernel
theorem dL_law_1318 : decode cL_law 1318 = .ok (.aload_n 3, 1) := by decide +kernel
theorem dL_law_1319 : decode cL_law 1319 = .ok (.iload 23, 2) := by decide +kernel
theorem dL_law_1321 : decode cL_law 1321 = .ok (.iconst 2, 1) := by decide +kernel
theorem dL_law_1322 : decode cL_law 1322 = .ok (.iadd, 1) := by decide +kernel
theorem dL_law_1323 : decode cL_law 1323 = .ok (.iaload, 1) := by decide +kernel
theorem dL_law_1324 : decode cL_law 1324 = .ok (.iconst 2, 1) := by decide +kernel
theorem dL_law_1325 : decode cL_law 1325 = .ok (.ishr, 1) := by decide +kernel
theorem dL_law_1326 : decode cL_law 1326 = .ok (.istore 27, 2) := by decide +kernel
theorem dL_law_1328 : decode cL_law 1328 = .ok (.iload 27, 2) := by decide +kernel
theorem dL_law_1330 : decode cL_law 1330 = .ok (.ifCond .le 21, 3) := by decide +kernel
theorem dL_law_1333 : decode cL_law 1333 = .ok (.iload 26, 2) := by decide +kernel
theorem dL_law_1335 : decode cL_law 1335 = .ok (.iload 27, 2) := by decide +kernel
theorem dL_law_1337 : decode cL_law 1337 = .ok (.iconst 1, 1) := by decide +kernel
theorem dL_law_1338 : decode cL_law 1338 = .ok (.iand, 1) := by decide +kernel
theorem dL_law_1339 : decode cL_law 1339 = .ok (.iadd, 1) := by decide +kernel
theorem dL_law_1340 : decode cL_law 1340 = .ok (.istore 26, 2) := by decide +kernel
theorem dL_law_1342 : decode cL_law 1342 = .ok (.iload 27, 2) := by decide +kernel
theorem dL_law_1344 : decode cL_law 1344 = .ok (.iconst 1, 1) := by decide +kernel
theorem dL_law_1345 : decode cL_law 1345 = .ok (.ishr, 1) := by decide +kernel
theorem dL_law_1346 : decode cL_law 1346 = .ok (.istore 27, 2) := by decide +kernel
theorem dL_law_1348 : decode cL_law 1348 = .ok (.goto (-20), 3) := by decide +kernel
theorem dL_law_1351 : decode cL_law 1351 = .ok (.iload 17, 2) := by decide +kernel
theorem dL_law_1353 : decode cL_law 1353 = .ok (.aload_n 1, 1) := by decide +kernel
theorem dL_law_1354 : decode cL_law 1354 = .ok (.iload 14, 2) := by decide +kernel
theorem dL_law_1356 : decode cL_law 1356 = .ok (.iload 22, 2) := by decide +kernel
theorem dL_law_1358 : decode cL_law 1358 = .ok (.invokestatic 177, 3) := by decide +kernel
theorem dL_law_1361 : decode cL_law 1361 = .ok (.iload 25, 2) := by decide +kernel
theorem dL_law_1363 : decode cL_law 1363 = .ok (.ifCond .eq 8, 3) := by decide +kernel
theorem dL_law_1366 : decode cL_law 1366 = .ok (.iload 26, 2) := by decide +kernel
theorem dL_law_1368 : decode cL_law 1368 = .ok (.goto 6, 3) := by decide +kernel
theorem dL_law_1371 : decode cL_law 1371 = .ok (.sipush (-7300), 3) := by decide +kernel
theorem dL_law_1374 : decode cL_law 1374 = .ok (.if_icmp .ne 7, 3) := by decide +kernel
theorem dL_law_1377 : decode cL_law 1377 = .ok (.iconst 1, 1) := by decide +kernel
theorem dL_law_1378 : decode cL_law 1378 = .ok (.goto 4, 3) := by decide +kernel
theorem dL_law_1381 : decode cL_law 1381 = .ok (.iconst 0, 1) := by decide +kernel
theorem dL_law_1382 : decode cL_law 1382 = .ok (.iand, 1) := by decide +kernel
theorem dL_law_1383 : decode cL_law 1383 = .ok (.istore 17, 2) := by decide +kernel
theorem dL_law_1385 : decode cL_law 1385 = .ok (.iinc 22 1, 3) := by decide +kernel
theorem dL_law_1388 : decode cL_law 1388 = .ok (.goto (-223), 3) := by decide +kernel
theorem dL_law_1391 : decode cL_law 1391 = .ok (.goto 2070, 3) := by decide +kernel
theorem dL_law_1394 : decode cL_law 1394 = .ok (.aload 10, 2) := by decide +kernel
theorem dL_law_1396 : decode cL_law 1396 = .ok (.bipush 8, 2) := by decide +kernel
theorem dL_law_1398 : decode cL_law 1398 = .ok (.iaload, 1) := by decide +kernel
theorem dL_law_1399 : decode cL_law 1399 = .ok (.ifCond .ne 6, 3) := by decide +kernel
theorem dL_law_1402 : decode cL_law 1402 = .ok (.goto 2059, 3) := by decide +kernel
theorem dL_law_1405 : decode cL_law 1405 = .ok (.iload 13, 2) := by decide +kernel
theorem dL_law_1407 : decode cL_law 1407 = .ok (.iconst 4, 1) := by decide +kernel
theorem dL_law_1408 : decode cL_law 1408 = .ok (.invokestatic 134, 3) := by decide +kernel
theorem dL_law_1411 : decode cL_law 1411 = .ok (.istore 22, 2) := by decide +kernel
theorem dL_law_1413 : decode cL_law 1413 = .ok (.aload_n 2, 1) := by decide +kernel
theorem dL_law_1414 : decode cL_law 1414 = .ok (.iload 15, 2) := by decide +kernel
theorem dL_law_1416 : decode cL_law 1416 = .ok (.bipush 6, 2) := by decide +kernel
theorem dL_law_1418 : decode cL_law 1418 = .ok (.iadd, 1) := by decide +kernel
theorem dL_law_1419 : decode cL_law 1419 = .ok (.iaload, 1) := by decide +kernel
theorem dL_law_1420 : decode cL_law 1420 = .ok (.iconst (-1), 1) := by decide +kernel
theorem dL_law_1421 : decode cL_law 1421 = .ok (.if_icmp .ne 21, 3) := by decide +kernel
theorem dL_law_1424 : decode cL_law 1424 = .ok (.aload_n 2, 1) := by decide +kernel
theorem dL_law_1425 : decode cL_law 1425 = .ok (.iload 15, 2) := by decide +kernel
theorem dL_law_1427 : decode cL_law 1427 = .ok (.bipush 12, 2) := by decide +kernel
theorem dL_law_1429 : decode cL_law 1429 = .ok (.iadd, 1) := by decide +kernel
theorem dL_law_1430 : decode cL_law 1430 = .ok (.iaload, 1) := by decide +kernel
theorem dL_law_1431 : decode cL_law 1431 = .ok (.aload 10, 2) := by decide +kernel
theorem dL_law_1433 : decode cL_law 1433 = .ok (.iconst 0, 1) := by decide +kernel
theorem dL_law_1434 : decode cL_law 1434 = .ok (.iaload, 1) := by decide +kernel
theorem dL_law_1435 : decode cL_law 1435 = .ok (.if_icmp .ge 7, 3) := by decide +kernel
theorem dL_law_1438 : decode cL_law 1438 = .ok (.iconst 1, 1) := by decide +kernel
theorem dL_law_1439 : decode cL_law 1439 = .ok (.goto 4, 3) := by decide +kernel
theorem dL_law_1442 : decode cL_law 1442 = .ok (.iconst 0, 1) := by decide +kernel
theorem dL_law_1443 : decode cL_law 1443 = .ok (.istore 23, 2) := by decide +kernel
theorem dL_law_1445 : decode cL_law 1445 = .ok (.aload_n 1, 1) := by decide +kernel
theorem dL_law_1446 : decode cL_law 1446 = .ok (.iload 14, 2) := by decide +kernel
theorem dL_law_1448 : decode cL_law 1448 = .ok (.iload 22, 2) := by decide +kernel
theorem dL_law_1450 : decode cL_law 1450 = .ok (.invokestatic 179, 3) := by decide +kernel
theorem dL_law_1453 : decode cL_law 1453 = .ok (.iload 23, 2) := by decide +kernel
theorem dL_law_1455 : decode cL_law 1455 = .ok (.ifCond .eq 20, 3) := by decide +kernel
theorem dL_law_1458 : decode cL_law 1458 = .ok (.iload 14, 2) := by decide +kernel
theorem dL_law_1460 : decode cL_law 1460 = .ok (.aload_n 2, 1) := by decide +kernel
theorem dL_law_1461 : decode cL_law 1461 = .ok (.aload 5, 2) := by decide +kernel
theorem dL_law_1463 : decode cL_law 1463 = .ok (.aload 6, 2) := by decide +kernel
theorem dL_law_1465 : decode cL_law 1465 = .ok (.aload 7, 2) := by decide +kernel
theorem dL_law_1467 : decode cL_law 1467 = .ok (.aload 10, 2) := by decide +kernel
theorem dL_law_1469 : decode cL_law 1469 = .ok (.invokestatic 127, 3) := by decide +kernel
theorem dL_law_1472 : decode cL_law 1472 = .ok (.goto 6, 3) := by decide +kernel
theorem dL_law_1475 : decode cL_law 1475 = .ok (.sipush (-7300), 3) := by decide +kernel
theorem dL_law_1478 : decode cL_law 1478 = .ok (.if_icmp .ne 7, 3) := by decide +kernel
theorem dL_law_1481 : decode cL_law 1481 = .ok (.iconst 1, 1) := by decide +kernel
theorem dL_law_1482 : decode cL_law 1482 = .ok (.goto 4, 3) := by decide +kernel
theorem dL_law_1485 : decode cL_law 1485 = .ok (.iconst 0, 1) := by decide +kernel
theorem dL_law_1486 : decode cL_law 1486 = .ok (.istore 17, 2) := by decide +kernel
theorem dL_law_1488 : decode cL_law 1488 = .ok (.iload 23, 2) := by decide +kernel
theorem dL_law_1490 : decode cL_law 1490 = .ok (.ifCond .ne 6, 3) := by decide +kernel
theorem dL_law_1493 : decode cL_law 1493 = .ok (.goto 1968, 3) := by decide +kernel
theorem dL_law_1496 : decode cL_law 1496 = .ok (.aload_n 2, 1) := by decide +kernel
theorem dL_law_1497 : decode cL_law 1497 = .ok (.iload 15, 2) := by decide +kernel
theorem dL_law_1499 : decode cL_law 1499 = .ok (.bipush 6, 2) := by decide +kernel
theorem dL_law_1501 : decode cL_law 1501 = .ok (.iadd, 1) := by decide +kernel
theorem dL_law_1502 : decode cL_law 1502 = .ok (.iload 22, 2) := by decide +kernel
theorem dL_law_1504 : decode cL_law 1504 = .ok (.iastore, 1) := by decide +kernel
theorem dL_law_1505 : decode cL_law 1505 = .ok (.aload_n 2, 1) := by decide +kernel
theorem dL_law_1506 : decode cL_law 1506 = .ok (.iload 15, 2) := by decide +kernel
theorem dL_law_1508 : decode cL_law 1508 = .ok (.bipush 7, 2) := by decide +kernel
theorem dL_law_1510 : decode cL_law 1510 = .ok (.iadd, 1) := by decide +kernel
theorem dL_law_1511 : decode cL_law 1511 = .ok (.iconst (-1), 1) := by decide +kernel
theorem dL_law_1512 : decode cL_law 1512 = .ok (.iastore, 1) := by decide +kernel
theorem dL_law_1513 : decode cL_law 1513 = .ok (.goto 1948, 3) := by decide +kernel
theorem dL_law_1516 : decode cL_law 1516 = .ok (.aload 10, 2) := by decide +kernel
theorem dL_law_1518 : decode cL_law 1518 = .ok (.bipush 8, 2) := by decide +kernel
theorem dL_law_1520 : decode cL_law 1520 = .ok (.iaload, 1) := by decide +kernel
theorem dL_law_1521 : decode cL_law 1521 = .ok (.ifCond .ne 6, 3) := by decide +kernel
theorem dL_law_1524 : decode cL_law 1524 = .ok (.goto 1937, 3) := by decide +kernel
theorem dL_law_1527 : decode cL_law 1527 = .ok (.aload_n 2, 1) := by decide +kernel
theorem dL_law_1528 : decode cL_law 1528 = .ok (.iload 15, 2) := by decide +kernel
theorem dL_law_1530 : decode cL_law 1530 = .ok (.bipush 6, 2) := by decide +kernel
theorem dL_law_1532 : decode cL_law 1532 = .ok (.iadd, 1) := by decide +kernel
theorem dL_law_1533 : decode cL_law 1533 = .ok (.iaload, 1) := by decide +kernel
theorem dL_law_1534 : decode cL_law 1534 = .ok (.iconst (-1), 1) := by decide +kernel
theorem dL_law_1535 : decode cL_law 1535 = .ok (.if_icmp .eq 18, 3) := by decide +kernel
theorem dL_law_1538 : decode cL_law 1538 = .ok (.aload_n 2, 1) := by decide +kernel
theorem dL_law_1539 : decode cL_law 1539 = .ok (.iload 15, 2) := by decide +kernel
theorem dL_law_1541 : decode cL_law 1541 = .ok (.bipush 9, 2) := by decide +kernel
theorem dL_law_1543 : decode cL_law 1543 = .ok (.iadd, 1) := by decide +kernel
theorem dL_law_1544 : decode cL_law 1544 = .ok (.iaload, 1) := by decide +kernel
theorem dL_law_1545 : decode cL_law 1545 = .ok (.iconst (-1), 1) := by decide +kernel
theorem dL_law_1546 : decode cL_law 1546 = .ok (.if_icmp .ne 7, 3) := by decide +kernel
theorem dL_law_1549 : decode cL_law 1549 = .ok (.iconst 1, 1) := by decide +kernel
theorem dL_law_1550 : decode cL_law 1550 = .ok (.goto 4, 3) := by decide +kernel
theorem dL_law_1553 : decode cL_law 1553 = .ok (.iconst 0, 1) := by decide +kernel
theorem dL_law_1554 : decode cL_law 1554 = .ok (.istore 24, 2) := by decide +kernel
theorem dL_law_1556 : decode cL_law 1556 = .ok (.iload 24, 2) := by decide +kernel
theorem dL_law_1558 : decode cL_law 1558 = .ok (.ifCond .eq 36, 3) := by decide +kernel
theorem dL_law_1561 : decode cL_law 1561 = .ok (.aload_n 2, 1) := by decide +kernel
theorem dL_law_1562 : decode cL_law 1562 = .ok (.iload 15, 2) := by decide +kernel
theorem dL_law_1564 : decode cL_law 1564 = .ok (.bipush 7, 2) := by decide +kernel
theorem dL_law_1566 : decode cL_law 1566 = .ok (.iadd, 1) := by decide +kernel
theorem dL_law_1567 : decode cL_law 1567 = .ok (.iaload, 1) := by decide +kernel
theorem dL_law_1568 : decode cL_law 1568 = .ok (.iconst (-1), 1) := by decide +kernel
theorem dL_law_1569 : decode cL_law 1569 = .ok (.if_icmp .ne 25, 3) := by decide +kernel
theorem dL_law_1572 : decode cL_law 1572 = .ok (.iload 14, 2) := by decide +kernel
theorem dL_law_1574 : decode cL_law 1574 = .ok (.aload_n 2, 1) := by decide +kernel
theorem dL_law_1575 : decode cL_law 1575 = .ok (.aload 5, 2) := by decide +kernel
theorem dL_law_1577 : decode cL_law 1577 = .ok (.aload 6, 2) := by decide +kernel
theorem dL_law_1579 : decode cL_law 1579 = .ok (.aload 7, 2) := by decide +kernel
theorem dL_law_1581 : decode cL_law 1581 = .ok (.aload 10, 2) := by decide +kernel
theorem dL_law_1583 : decode cL_law 1583 = .ok (.invokestatic 127, 3) := by decide +kernel
theorem dL_law_1586 : decode cL_law 1586 = .ok (.iconst 2, 1) := by decide +kernel
theorem dL_law_1587 : decode cL_law 1587 = .ok (.if_icmp .ne 7, 3) := by decide +kernel
theorem dL_law_1590 : decode cL_law 1590 = .ok (.iconst 1, 1) := by decide +kernel
theorem dL_law_1591 : decode cL_law 1591 = .ok (.goto 4, 3) := by decide +kernel
theorem dL_law_1594 : decode cL_law 1594 = .ok (.iconst 0, 1) := by decide +kernel
theorem dL_law_1595 : decode cL_law 1595 = .ok (.istore 25, 2) := by decide +kernel
theorem dL_law_1597 : decode cL_law 1597 = .ok (.aload_n 1, 1) := by decide +kernel
theorem dL_law_1598 : decode cL_law 1598 = .ok (.iload 14, 2) := by decide +kernel
theorem dL_law_1600 : decode cL_law 1600 = .ok (.invokestatic 181, 3) := by decide +kernel
theorem dL_law_1603 : decode cL_law 1603 = .ok (.iload 24, 2) := by decide +kernel
theorem dL_law_1605 : decode cL_law 1605 = .ok (.ifCond .ne 9, 3) := by decide +kernel
theorem dL_law_1608 : decode cL_law 1608 = .ok (.sipush (-7300), 3) := by decide +kernel
theorem dL_law_1611 : decode cL_law 1611 = .ok (.goto 13, 3) := by decide +kernel
theorem dL_law_1614 : decode cL_law 1614 = .ok (.iload 25, 2) := by decide +kernel
theorem dL_law_1616 : decode cL_law 1616 = .ok (.ifCond .eq 7, 3) := by decide +kernel
theorem dL_law_1619 : decode cL_law 1619 = .ok (.iconst 1, 1) := by decide +kernel
theorem dL_law_1620 : decode cL_law 1620 = .ok (.goto 4, 3) := by decide +kernel
theorem dL_law_1623 : decode cL_law 1623 = .ok (.iconst 0, 1) := by decide +kernel
theorem dL_law_1624 : decode cL_law 1624 = .ok (.if_icmp .ne 7, 3) := by decide +kernel
theorem dL_law_1627 : decode cL_law 1627 = .ok (.iconst 1, 1) := by decide +kernel
theorem dL_law_1628 : decode cL_law 1628 = .ok (.goto 4, 3) := by decide +kernel
theorem dL_law_1631 : decode cL_law 1631 = .ok (.iconst 0, 1) := by decide +kernel
theorem dL_law_1632 : decode cL_law 1632 = .ok (.istore 17, 2) := by decide +kernel
theorem dL_law_1634 : decode cL_law 1634 = .ok (.iload 24, 2) := by decide +kernel
theorem dL_law_1636 : decode cL_law 1636 = .ok (.ifCond .ne 6, 3) := by decide +kernel
theorem dL_law_1639 : decode cL_law 1639 = .ok (.goto 1822, 3) := by decide +kernel
theorem dL_law_1642 : decode cL_law 1642 = .ok (.aload 10, 2) := by decide +kernel
theorem dL_law_1644 : decode cL_law 1644 = .ok (.iconst 3, 1) := by decide +kernel
theorem dL_law_1645 : decode cL_law 1645 = .ok (.aload_n 2, 1) := by decide +kernel
theorem dL_law_1646 : decode cL_law 1646 = .ok (.iload 15, 2) := by decide +kernel
theorem dL_law_1648 : decode cL_law 1648 = .ok (.bipush 6, 2) := by decide +kernel
theorem dL_law_1650 : decode cL_law 1650 = .ok (.iadd, 1) := by decide +kernel
theorem dL_law_1651 : decode cL_law 1651 = .ok (.iaload, 1) := by decide +kernel
theorem dL_law_1652 : decode cL_law 1652 = .ok (.iadd, 1) := by decide +kernel
theorem dL_law_1653 : decode cL_law 1653 = .ok (.dup2, 1) := by decide +kernel
theorem dL_law_1654 : decode cL_law 1654 = .ok (.iaload, 1) := by decide +kernel
theorem dL_law_1655 : decode cL_law 1655 = .ok (.iload 25, 2) := by decide +kernel
theorem dL_law_1657 : decode cL_law 1657 = .ok (.ifCond .eq 7, 3) := by decide +kernel
theorem dL_law_1660 : decode cL_law 1660 = .ok (.iconst 1, 1) := by decide +kernel
theorem dL_law_1661 : decode cL_law 1661 = .ok (.goto 4, 3) := by decide +kernel
theorem dL_law_1664 : decode cL_law 1664 = .ok (.iconst 0, 1) := by decide +kernel
theorem dL_law_1665 : decode cL_law 1665 = .ok (.iadd, 1) := by decide +kernel
theorem dL_law_1666 : decode cL_law 1666 = .ok (.iastore, 1) := by decide +kernel
theorem dL_law_1667 : decode cL_law 1667 = .ok (.aload_n 2, 1) := by decide +kernel
theorem dL_law_1668 : decode cL_law 1668 = .ok (.iload 15, 2) := by decide +kernel
theorem dL_law_1670 : decode cL_law 1670 = .ok (.bipush 6, 2) := by decide +kernel
theorem dL_law_1672 : decode cL_law 1672 = .ok (.iadd, 1) := by decide +kernel
theorem dL_law_1673 : decode cL_law 1673 = .ok (.iconst (-1), 1) := by decide +kernel
theorem dL_law_1674 : decode cL_law 1674 = .ok (.iastore, 1) := by decide +kernel
theorem dL_law_1675 : decode cL_law 1675 = .ok (.aload_n 2, 1) := by decide +kernel
theorem dL_law_1676 : decode cL_law 1676 = .ok (.iload 15, 2) := by decide +kernel
theorem dL_law_1678 : decode cL_law 1678 = .ok (.bipush 7, 2) := by decide +kernel
theorem dL_law_1680 : decode cL_law 1680 = .ok (.iadd, 1) := by decide +kernel
theorem dL_law_1681 : decode cL_law 1681 = .ok (.iconst (-1), 1) := by decide +kernel
theorem dL_law_1682 : decode cL_law 1682 = .ok (.iastore, 1) := by decide +kernel
theorem dL_law_1683 : decode cL_law 1683 = .ok (.goto 1778, 3) := by decide +kernel
theorem dL_law_1686 : decode cL_law 1686 = .ok (.aload 10, 2) := by decide +kernel
theorem dL_law_1688 : decode cL_law 1688 = .ok (.bipush 8, 2) := by decide +kernel
theorem dL_law_1690 : decode cL_law 1690 = .ok (.iaload, 1) := by decide +kernel
theorem dL_law_1691 : decode cL_law 1691 = .ok (.ifCond .eq 1770, 3) := by decide +kernel
theorem dL_law_1694 : decode cL_law 1694 = .ok (.aload 10, 2) := by decide +kernel
theorem dL_law_1696 : decode cL_law 1696 = .ok (.iconst 2, 1) := by decide +kernel
theorem dL_law_1697 : decode cL_law 1697 = .ok (.iaload, 1) := by decide +kernel
theorem dL_law_1698 : decode cL_law 1698 = .ok (.bipush 50, 2) := by decide +kernel
theorem dL_law_1700 : decode cL_law 1700 = .ok (.if_icmp .ne 6, 3) := by decide +kernel
theorem dL_law_1703 : decode cL_law 1703 = .ok (.goto 1758, 3) := by decide +kernel
theorem dL_law_1706 : decode cL_law 1706 = .ok (.aload_n 2, 1) := by decide +kernel
theorem dL_law_1707 : decode cL_law 1707 = .ok (.iload 15, 2) := by decide +kernel
theorem dL_law_1709 : decode cL_law 1709 = .ok (.bipush 6, 2) := by decide +kernel
theorem dL_law_1711 : decode cL_law 1711 = .ok (.iadd, 1) := by decide +kernel
theorem dL_law_1712 : decode cL_law 1712 = .ok (.iaload, 1) := by decide +kernel
theorem dL_law_1713 : decode cL_law 1713 = .ok (.iconst (-1), 1) := by decide +kernel
theorem dL_law_1714 : decode cL_law 1714 = .ok (.if_icmp .eq 18, 3) := by decide +kernel
theorem dL_law_1717 : decode cL_law 1717 = .ok (.aload_n 2, 1) := by decide +kernel
theorem dL_law_1718 : decode cL_law 1718 = .ok (.iload 15, 2) := by decide +kernel
theorem dL_law_1720 : decode cL_law 1720 = .ok (.bipush 7, 2) := by decide +kernel
theorem dL_law_1722 : decode cL_law 1722 = .ok (.iadd, 1) := by decide +kernel
theorem dL_law_1723 : decode cL_law 1723 = .ok (.iaload, 1) := by decide +kernel
theorem dL_law_1724 : decode cL_law 1724 = .ok (.iconst (-1), 1) := by decide +kernel
theorem dL_law_1725 : decode cL_law 1725 = .ok (.if_icmp .ne 7, 3) := by decide +kernel
theorem dL_law_1728 : decode cL_law 1728 = .ok (.iconst 1, 1) := by decide +kernel
theorem dL_law_1729 : decode cL_law 1729 = .ok (.goto 4, 3) := by decide +kernel
theorem dL_law_1732 : decode cL_law 1732 = .ok (.iconst 0, 1) := by decide +kernel
theorem dL_law_1733 : decode cL_law 1733 = .ok (.istore 26, 2) := by decide +kernel
theorem dL_law_1735 : decode cL_law 1735 = .ok (.iload 26, 2) := by decide +kernel
theorem dL_law_1737 : decode cL_law 1737 = .ok (.ifCond .ne 25, 3) := by decide +kernel
theorem dL_law_1740 : decode cL_law 1740 = .ok (.aload_n 1, 1) := by decide +kernel
theorem dL_law_1741 : decode cL_law 1741 = .ok (.iload 14, 2) := by decide +kernel
theorem dL_law_1743 : decode cL_law 1743 = .ok (.invokestatic 183, 3) := by decide +kernel
theorem dL_law_1746 : decode cL_law 1746 = .ok (.sipush (-7300), 3) := by decide +kernel
theorem dL_law_1749 : decode cL_law 1749 = .ok (.if_icmp .ne 7, 3) := by decide +kernel
theorem dL_law_1752 : decode cL_law 1752 = .ok (.iconst 1, 1) := by decide +kernel
theorem dL_law_1753 : decode cL_law 1753 = .ok (.goto 4, 3) := by decide +kernel
theorem dL_law_1756 : decode cL_law 1756 = .ok (.iconst 0, 1) := by decide +kernel
theorem dL_law_1757 : decode cL_law 1757 = .ok (.istore 17, 2) := by decide +kernel
theorem dL_law_1759 : decode cL_law 1759 = .ok (.goto 1702, 3) := by decide +kernel
theorem dL_law_1762 : decode cL_law 1762 = .ok (.iconst 0, 1) := by decide +kernel
theorem dL_law_1763 : decode cL_law 1763 = .ok (.istore 27, 2) := by decide +kernel
theorem dL_law_1765 : decode cL_law 1765 = .ok (.iconst 0, 1) := by decide +kernel
theorem dL_law_1766 : decode cL_law 1766 = .ok (.istore 28, 2) := by decide +kernel
theorem dL_law_1768 : decode cL_law 1768 = .ok (.iload 28, 2) := by decide +kernel
theorem dL_law_1770 : decode cL_law 1770 = .ok (.aload 10, 2) := by decide +kernel
theorem dL_law_1772 : decode cL_law 1772 = .ok (.iconst 2, 1) := by decide +kernel
theorem dL_law_1773 : decode cL_law 1773 = .ok (.iaload, 1) := by decide +kernel
theorem dL_law_1774 : decode cL_law 1774 = .ok (.if_icmp .ge 69, 3) := by decide +kernel
theorem dL_law_1777 : decode cL_law 1777 = .ok (.iconst 0, 1) := by decide +kernel
theorem dL_law_1778 : decode cL_law 1778 = .ok (.istore 29, 2) := by decide +kernel
theorem dL_law_1780 : decode cL_law 1780 = .ok (.iload 29, 2) := by decide +kernel
theorem dL_law_1782 : decode cL_law 1782 = .ok (.aload 5, 2) := by decide +kernel
theorem dL_law_1784 : decode cL_law 1784 = .ok (.iload 28, 2) := by decide +kernel
theorem dL_law_1786 : decode cL_law 1786 = .ok (.iaload, 1) := by decide +kernel
theorem dL_law_1787 : decode cL_law 1787 = .ok (.invokestatic 112, 3) := by decide +kernel
theorem dL_law_1790 : decode cL_law 1790 = .ok (.if_icmp .ge 47, 3) := by decide +kernel
theorem dL_law_1793 : decode cL_law 1793 = .ok (.iload 27, 2) := by decide +kernel
theorem dL_law_1795 : decode cL_law 1795 = .ok (.aload 5, 2) := by decide +kernel
theorem dL_law_1797 : decode cL_law 1797 = .ok (.iload 28, 2) := by decide +kernel
theorem dL_law_1799 : decode cL_law 1799 = .ok (.iaload, 1) := by decide +kernel
theorem dL_law_1800 : decode cL_law 1800 = .ok (.iconst 3, 1) := by decide +kernel
theorem dL_law_1801 : decode cL_law 1801 = .ok (.iand, 1) := by decide +kernel
theorem dL_law_1802 : decode cL_law 1802 = .ok (.iload 14, 2) := by decide +kernel
theorem dL_law_1804 : decode cL_law 1804 = .ok (.if_icmp .ne 23, 3) := by decide +kernel
theorem dL_law_1807 : decode cL_law 1807 = .ok (.aload 8, 2) := by decide +kernel
theorem dL_law_1809 : decode cL_law 1809 = .ok (.iload 28, 2) := by decide +kernel
theorem dL_law_1811 : decode cL_law 1811 = .ok (.iaload, 1) := by decide +kernel
theorem dL_law_1812 : decode cL_law 1812 = .ok (.iconst 2, 1) := by decide +kernel
theorem dL_law_1813 : decode cL_law 1813 = .ok (.iload 29, 2) := by decide +kernel
theorem dL_law_1815 : decode cL_law 1815 = .ok (.imul, 1) := by decide +kernel
theorem dL_law_1816 : decode cL_law 1816 = .ok (.ishr, 1) := by decide +kernel
theorem dL_law_1817 : decode cL_law 1817 = .ok (.iconst 3, 1) := by decide +kernel
theorem dL_law_1818 : decode cL_law 1818 = .ok (.iand, 1) := by decide +kernel
theorem dL_law_1819 : decode cL_law 1819 = .ok (.iconst 2, 1) := by decide +kernel
theorem dL_law_1820 : decode cL_law 1820 = .ok (.if_icmp .ne 7, 3) := by decide +kernel
theorem dL_law_1823 : decode cL_law 1823 = .ok (.iconst 1, 1) := by decide +kernel
theorem dL_law_1824 : decode cL_law 1824 = .ok (.goto 4, 3) := by decide +kernel
theorem dL_law_1827 : decode cL_law 1827 = .ok (.iconst 0, 1) := by decide +kernel
theorem dL_law_1828 : decode cL_law 1828 = .ok (.ior, 1) := by decide +kernel
theorem dL_law_1829 : decode cL_law 1829 = .ok (.istore 27, 2) := by decide +kernel
theorem dL_law_1831 : decode cL_law 1831 = .ok (.iinc 29 1, 3) := by decide +kernel
theorem dL_law_1834 : decode cL_law 1834 = .ok (.goto (-54), 3) := by decide +kernel
theorem dL_law_1837 : decode cL_law 1837 = .ok (.iinc 28 1, 3) := by decide +kernel
theorem dL_law_1840 : decode cL_law 1840 = .ok (.goto (-72), 3) := by decide +kernel
theorem dL_law_1843 : decode cL_law 1843 = .ok (.iload 14, 2) := by decide +kernel
theorem dL_law_1845 : decode cL_law 1845 = .ok (.aload_n 2, 1) := by decide +kernel
theorem dL_law_1846 : decode cL_law 1846 = .ok (.aload 5, 2) := by decide +kernel
theorem dL_law_1848 : decode cL_law 1848 = .ok (.aload 6, 2) := by decide +kernel
theorem dL_law_1850 : decode cL_law 1850 = .ok (.aload 7, 2) := by decide +kernel
theorem dL_law_1852 : decode cL_law 1852 = .ok (.aload 10, 2) := by decide +kernel
theorem dL_law_1854 : decode cL_law 1854 = .ok (.invokestatic 119, 3) := by decide +kernel
theorem dL_law_1857 : decode cL_law 1857 = .ok (.iconst 2, 1) := by decide +kernel
theorem dL_law_1858 : decode cL_law 1858 = .ok (.if_icmp .eq 27, 3) := by decide +kernel
theorem dL_law_1861 : decode cL_law 1861 = .ok (.aload 10, 2) := by decide +kernel
theorem dL_law_1863 : decode cL_law 1863 = .ok (.iconst 0, 1) := by decide +kernel
theorem dL_law_1864 : decode cL_law 1864 = .ok (.iaload, 1) := by decide +kernel
theorem dL_law_1865 : decode cL_law 1865 = .ok (.aload_n 2, 1) := by decide +kernel
theorem dL_law_1866 : decode cL_law 1866 = .ok (.iload 15, 2) := by decide +kernel
theorem dL_law_1868 : decode cL_law 1868 = .ok (.iaload, 1) := by decide +kernel
theorem dL_law_1869 : decode cL_law 1869 = .ok (.isub, 1) := by decide +kernel
theorem dL_law_1870 : decode cL_law 1870 = .ok (.sipush 4380, 3) := by decide +kernel
theorem dL_law_1873 : decode cL_law 1873 = .ok (.if_icmp .le 16, 3) := by decide +kernel
theorem dL_law_1876 : decode cL_law 1876 = .ok (.aload_n 2, 1) := by decide +kernel
theorem dL_law_1877 : decode cL_law 1877 = .ok (.iload 15, 2) := by decide +kernel
theorem dL_law_1879 : decode cL_law 1879 = .ok (.iconst 2, 1) := by decide +kernel
theorem dL_law_1880 : decode cL_law 1880 = .ok (.iadd, 1) := by decide +kernel
theorem dL_law_1881 : decode cL_law 1881 = .ok (.iaload, 1) := by decide +kernel
theorem dL_law_1882 : decode cL_law 1882 = .ok (.ifCond .eq 7, 3) := by decide +kernel
theorem dL_law_1885 : decode cL_law 1885 = .ok (.iconst 1, 1) := by decide +kernel
theorem dL_law_1886 : decode cL_law 1886 = .ok (.goto 4, 3) := by decide +kernel
theorem dL_law_1889 : decode cL_law 1889 = .ok (.iconst 0, 1) := by decide +kernel
theorem dL_law_1890 : decode cL_law 1890 = .ok (.istore 28, 2) := by decide +kernel
theorem dL_law_1892 : decode cL_law 1892 = .ok (.iload 28, 2) := by decide +kernel
theorem dL_law_1894 : decode cL_law 1894 = .ok (.ifCond .eq 7, 3) := by decide +kernel
theorem dL_law_1897 : decode cL_law 1897 = .ok (.iconst 2, 1) := by decide +kernel
theorem dL_law_1898 : decode cL_law 1898 = .ok (.goto 24, 3) := by decide +kernel
theorem dL_law_1901 : decode cL_law 1901 = .ok (.iload 27, 2) := by decide +kernel
theorem dL_law_1903 : decode cL_law 1903 = .ok (.ifCond .ne 14, 3) := by decide +kernel
theorem dL_law_1906 : decode cL_law 1906 = .ok (.iload 14, 2) := by decide +kernel
theorem dL_law_1908 : decode cL_law 1908 = .ok (.aload_n 3, 1) := by decide +kernel
theorem dL_law_1909 : decode cL_law 1909 = .ok (.aload 10, 2) := by decide +kernel
theorem dL_law_1911 : decode cL_law 1911 = .ok (.invokestatic 130, 3) := by decide +kernel
theorem dL_law_1914 : decode cL_law 1914 = .ok (.ifCond .le 7, 3) := by decide +kernel
theorem dL_law_1917 : decode cL_law 1917 = .ok (.iconst 1, 1) := by decide +kernel
theorem dL_law_1918 : decode cL_law 1918 = .ok (.goto 4, 3) := by decide +kernel
theorem dL_law_1921 : decode cL_law 1921 = .ok (.iconst 0, 1) := by decide +kernel
theorem dL_law_1922 : decode cL_law 1922 = .ok (.istore 29, 2) := by decide +kernel
theorem dL_law_1924 : decode cL_law 1924 = .ok (.aload 5, 2) := by decide +kernel
theorem dL_law_1926 : decode cL_law 1926 = .ok (.aload 10, 2) := by decide +kernel
theorem dL_law_1928 : decode cL_law 1928 = .ok (.iconst 2, 1) := by decide +kernel
theorem dL_law_1929 : decode cL_law 1929 = .ok (.iaload, 1) := by decide +kernel
theorem dL_law_1930 : decode cL_law 1930 = .ok (.iload 14, 2) := by decide +kernel
theorem dL_law_1932 : decode cL_law 1932 = .ok (.aload_n 2, 1) := by decide +kernel
theorem dL_law_1933 : decode cL_law 1933 = .ok (.iload 15, 2) := by decide +kernel
theorem dL_law_1935 : decode cL_law 1935 = .ok (.bipush 6, 2) := by decide +kernel
theorem dL_law_1937 : decode cL_law 1937 = .ok (.iadd, 1) := by decide +kernel
theorem dL_law_1938 : decode cL_law 1938 = .ok (.iaload, 1) := by decide +kernel
theorem dL_law_1939 : decode cL_law 1939 = .ok (.iconst 2, 1) := by decide +kernel
theorem dL_law_1940 : decode cL_law 1940 = .ok (.ishl, 1) := by decide +kernel
theorem dL_law_1941 : decode cL_law 1941 = .ok (.ior, 1) := by decide +kernel
theorem dL_law_1942 : decode cL_law 1942 = .ok (.iload 29, 2) := by decide +kernel
theorem dL_law_1944 : decode cL_law 1944 = .ok (.iconst 4, 1) := by decide +kernel
theorem dL_law_1945 : decode cL_law 1945 = .ok (.ishl, 1) := by decide +kernel
theorem dL_law_1946 : decode cL_law 1946 = .ok (.ior, 1) := by decide +kernel
theorem dL_law_1947 : decode cL_law 1947 = .ok (.aload_n 2, 1) := by decide +kernel
theorem dL_law_1948 : decode cL_law 1948 = .ok (.iload 15, 2) := by decide +kernel
theorem dL_law_1950 : decode cL_law 1950 = .ok (.iconst 3, 1) := by decide +kernel
theorem dL_law_1951 : decode cL_law 1951 = .ok (.iadd, 1) := by decide +kernel
theorem dL_law_1952 : decode cL_law 1952 = .ok (.iaload, 1) := by decide +kernel
theorem dL_law_1953 : decode cL_law 1953 = .ok (.bipush 6, 2) := by decide +kernel
theorem dL_law_1955 : decode cL_law 1955 = .ok (.ishl, 1) := by decide +kernel
theorem dL_law_1956 : decode cL_law 1956 = .ok (.ior, 1) := by decide +kernel
theorem dL_law_1957 : decode cL_law 1957 = .ok (.iastore, 1) := by decide +kernel
theorem dL_law_1958 : decode cL_law 1958 = .ok (.aload 6, 2) := by decide +kernel
theorem dL_law_1960 : decode cL_law 1960 = .ok (.aload 10, 2) := by decide +kernel
theorem dL_law_1962 : decode cL_law 1962 = .ok (.iconst 2, 1) := by decide +kernel
theorem dL_law_1963 : decode cL_law 1963 = .ok (.iaload, 1) := by decide +kernel
theorem dL_law_1964 : decode cL_law 1964 = .ok (.aload 10, 2) := by decide +kernel
theorem dL_law_1966 : decode cL_law 1966 = .ok (.iconst 0, 1) := by decide +kernel
theorem dL_law_1967 : decode cL_law 1967 = .ok (.iaload, 1) := by decide +kernel
theorem dL_law_1968 : decode cL_law 1968 = .ok (.iastore, 1) := by decide +kernel
theorem dL_law_1969 : decode cL_law 1969 = .ok (.aload 7, 2) := by decide +kernel
theorem dL_law_1971 : decode cL_law 1971 = .ok (.aload 10, 2) := by decide +kernel
theorem dL_law_1973 : decode cL_law 1973 = .ok (.iconst 2, 1) := by decide +kernel
theorem dL_law_1974 : decode cL_law 1974 = .ok (.iaload, 1) := by decide +kernel
theorem dL_law_1975 : decode cL_law 1975 = .ok (.iconst (-1), 1) := by decide +kernel
theorem dL_law_1976 : decode cL_law 1976 = .ok (.iastore, 1) := by decide +kernel
theorem dL_law_1977 : decode cL_law 1977 = .ok (.aload_n 2, 1) := by decide +kernel
theorem dL_law_1978 : decode cL_law 1978 = .ok (.iload 15, 2) := by decide +kernel
theorem dL_law_1980 : decode cL_law 1980 = .ok (.bipush 7, 2) := by decide +kernel
theorem dL_law_1982 : decode cL_law 1982 = .ok (.iadd, 1) := by decide +kernel
theorem dL_law_1983 : decode cL_law 1983 = .ok (.aload 10, 2) := by decide +kernel
theorem dL_law_1985 : decode cL_law 1985 = .ok (.iconst 2, 1) := by decide +kernel
theorem dL_law_1986 : decode cL_law 1986 = .ok (.iaload, 1) := by decide +kernel
theorem dL_law_1987 : decode cL_law 1987 = .ok (.iastore, 1) := by decide +kernel
theorem dL_law_1988 : decode cL_law 1988 = .ok (.aload_n 2, 1) := by decide +kernel
theorem dL_law_1989 : decode cL_law 1989 = .ok (.iload 15, 2) := by decide +kernel
theorem dL_law_1991 : decode cL_law 1991 = .ok (.bipush 8, 2) := by decide +kernel
theorem dL_law_1993 : decode cL_law 1993 = .ok (.iadd, 1) := by decide +kernel
theorem dL_law_1994 : decode cL_law 1994 = .ok (.aload 10, 2) := by decide +kernel
theorem dL_law_1996 : decode cL_law 1996 = .ok (.iconst 2, 1) := by decide +kernel
theorem dL_law_1997 : decode cL_law 1997 = .ok (.iaload, 1) := by decide +kernel
theorem dL_law_1998 : decode cL_law 1998 = .ok (.iastore, 1) := by decide +kernel
theorem dL_law_1999 : decode cL_law 1999 = .ok (.aload_n 1, 1) := by decide +kernel
theorem dL_law_2000 : decode cL_law 2000 = .ok (.iload 14, 2) := by decide +kernel
theorem dL_law_2002 : decode cL_law 2002 = .ok (.invokestatic 183, 3) := by decide +kernel
theorem dL_law_2005 : decode cL_law 2005 = .ok (.aload 10, 2) := by decide +kernel
theorem dL_law_2007 : decode cL_law 2007 = .ok (.iconst 2, 1) := by decide +kernel
theorem dL_law_2008 : decode cL_law 2008 = .ok (.iaload, 1) := by decide +kernel
theorem dL_law_2009 : decode cL_law 2009 = .ok (.if_icmp .ne 7, 3) := by decide +kernel
theorem dL_law_2012 : decode cL_law 2012 = .ok (.iconst 1, 1) := by decide +kernel
theorem dL_law_2013 : decode cL_law 2013 = .ok (.goto 4, 3) := by decide +kernel
theorem dL_law_2016 : decode cL_law 2016 = .ok (.iconst 0, 1) := by decide +kernel
theorem dL_law_2017 : decode cL_law 2017 = .ok (.istore 17, 2) := by decide +kernel
theorem dL_law_2019 : decode cL_law 2019 = .ok (.aload 10, 2) := by decide +kernel
theorem dL_law_2021 : decode cL_law 2021 = .ok (.iconst 2, 1) := by decide +kernel
theorem dL_law_2022 : decode cL_law 2022 = .ok (.dup2, 1) := by decide +kernel
theorem dL_law_2023 : decode cL_law 2023 = .ok (.iaload, 1) := by decide +kernel
theorem dL_law_2024 : decode cL_law 2024 = .ok (.iconst 1, 1) := by decide +kernel
theorem dL_law_2025 : decode cL_law 2025 = .ok (.iadd, 1) := by decide +kernel
theorem dL_law_2026 : decode cL_law 2026 = .ok (.iastore, 1) := by decide +kernel
theorem dL_law_2027 : decode cL_law 2027 = .ok (.goto 1434, 3) := by decide +kernel
theorem dL_law_2030 : decode cL_law 2030 = .ok (.aload 10, 2) := by decide +kernel
theorem dL_law_2032 : decode cL_law 2032 = .ok (.iconst 2, 1) := by decide +kernel
theorem dL_law_2033 : decode cL_law 2033 = .ok (.iaload, 1) := by decide +kernel
theorem dL_law_2034 : decode cL_law 2034 = .ok (.ifCond .ne 6, 3) := by decide +kernel
theorem dL_law_2037 : decode cL_law 2037 = .ok (.goto 1424, 3) := by decide +kernel
theorem dL_law_2040 : decode cL_law 2040 = .ok (.iconst 0, 1) := by decide +kernel
theorem dL_law_2041 : decode cL_law 2041 = .ok (.istore 30, 2) := by decide +kernel
theorem dL_law_2043 : decode cL_law 2043 = .ok (.iload 30, 2) := by decide +kernel
theorem dL_law_2045 : decode cL_law 2045 = .ok (.iload 13, 2) := by decide +kernel
theorem dL_law_2047 : decode cL_law 2047 = .ok (.iconst 4, 1) := by decide +kernel
theorem dL_law_2048 : decode cL_law 2048 = .ok (.invokestatic 134, 3) := by decide +kernel
theorem dL_law_2051 : decode cL_law 2051 = .ok (.if_icmp .gt 202, 3) := by decide +kernel
theorem dL_law_2054 : decode cL_law 2054 = .ok (.iload 13, 2) := by decide +kernel
theorem dL_law_2056 : decode cL_law 2056 = .ok (.iconst 3, 1) := by decide +kernel
theorem dL_law_2057 : decode cL_law 2057 = .ok (.iload 30, 2) := by decide +kernel
theorem dL_law_2059 : decode cL_law 2059 = .ok (.iadd, 1) := by decide +kernel
theorem dL_law_2060 : decode cL_law 2060 = .ok (.ishr, 1) := by decide +kernel
theorem dL_law_2061 : decode cL_law 2061 = .ok (.iconst 4, 1) := by decide +kernel
theorem dL_law_2062 : decode cL_law 2062 = .ok (.invokestatic 134, 3) := by decide +kernel
theorem dL_law_2065 : decode cL_law 2065 = .ok (.istore 31, 2) := by decide +kernel
theorem dL_law_2067 : decode cL_law 2067 = .ok (.iconst 1, 1) := by decide +kernel
theorem dL_law_2068 : decode cL_law 2068 = .ok (.iload 13, 2) := by decide +kernel
theorem dL_law_2070 : decode cL_law 2070 = .ok (.bipush 9, 2) := by decide +kernel
theorem dL_law_2072 : decode cL_law 2072 = .ok (.iload 30, 2) := by decide +kernel
theorem dL_law_2074 : decode cL_law 2074 = .ok (.iadd, 1) := by decide +kernel
theorem dL_law_2075 : decode cL_law 2075 = .ok (.ishr, 1) := by decide +kernel
theorem dL_law_2076 : decode cL_law 2076 = .ok (.bipush 10, 2) := by decide +kernel
theorem dL_law_2078 : decode cL_law 2078 = .ok (.invokestatic 134, 3) := by decide +kernel
theorem dL_law_2081 : decode cL_law 2081 = .ok (.iadd, 1) := by decide +kernel
theorem dL_law_2082 : decode cL_law 2082 = .ok (.istore 32, 2) := by decide +kernel
theorem dL_law_2084 : decode cL_law 2084 = .ok (.aload 5, 2) := by decide +kernel
theorem dL_law_2086 : decode cL_law 2086 = .ok (.iload 16, 2) := by decide +kernel
theorem dL_law_2088 : decode cL_law 2088 = .ok (.iaload, 1) := by decide +kernel
theorem dL_law_2089 : decode cL_law 2089 = .ok (.invokestatic 112, 3) := by decide +kernel
theorem dL_law_2092 : decode cL_law 2092 = .ok (.istore 33, 2) := by decide +kernel
theorem dL_law_2094 : decode cL_law 2094 = .ok (.aload_n 2, 1) := by decide +kernel
theorem dL_law_2095 : decode cL_law 2095 = .ok (.bipush 14, 2) := by decide +kernel
theorem dL_law_2097 : decode cL_law 2097 = .ok (.aload 5, 2) := by decide +kernel
theorem dL_law_2099 : decode cL_law 2099 = .ok (.iload 16, 2) := by decide +kernel
theorem dL_law_2101 : decode cL_law 2101 = .ok (.iaload, 1) := by decide +kernel
theorem dL_law_2102 : decode cL_law 2102 = .ok (.iconst 3, 1) := by decide +kernel
theorem dL_law_2103 : decode cL_law 2103 = .ok (.iand, 1) := by decide +kernel
theorem dL_law_2104 : decode cL_law 2104 = .ok (.imul, 1) := by decide +kernel
theorem dL_law_2105 : decode cL_law 2105 = .ok (.bipush 7, 2) := by decide +kernel
theorem dL_law_2107 : decode cL_law 2107 = .ok (.iadd, 1) := by decide +kernel
theorem dL_law_2108 : decode cL_law 2108 = .ok (.iaload, 1) := by decide +kernel
theorem dL_law_2109 : decode cL_law 2109 = .ok (.iload 16, 2) := by decide +kernel
theorem dL_law_2111 : decode cL_law 2111 = .ok (.if_icmp .ne 34, 3) := by decide +kernel
theorem dL_law_2114 : decode cL_law 2114 = .ok (.aload 5, 2) := by decide +kernel
theorem dL_law_2116 : decode cL_law 2116 = .ok (.iload 16, 2) := by decide +kernel
theorem dL_law_2118 : decode cL_law 2118 = .ok (.iaload, 1) := by decide +kernel
theorem dL_law_2119 : decode cL_law 2119 = .ok (.iconst 3, 1) := by decide +kernel
theorem dL_law_2120 : decode cL_law 2120 = .ok (.iand, 1) := by decide +kernel
theorem dL_law_2121 : decode cL_law 2121 = .ok (.iload 31, 2) := by decide +kernel
theorem dL_law_2123 : decode cL_law 2123 = .ok (.aload_n 2, 1) := by decide +kernel
theorem dL_law_2124 : decode cL_law 2124 = .ok (.aload 4, 2) := by decide +kernel
theorem dL_law_2126 : decode cL_law 2126 = .ok (.aload 10, 2) := by decide +kernel
theorem dL_law_2128 : decode cL_law 2128 = .ok (.invokestatic 142, 3) := by decide +kernel
theorem dL_law_2131 : decode cL_law 2131 = .ok (.ifCond .eq 14, 3) := by decide +kernel
theorem dL_law_2134 : decode cL_law 2134 = .ok (.iload 33, 2) := by decide +kernel
theorem dL_law_2136 : decode cL_law 2136 = .ok (.bipush 12, 2) := by decide +kernel
theorem dL_law_2138 : decode cL_law 2138 = .ok (.if_icmp .ge 7, 3) := by decide +kernel
theorem dL_law_2141 : decode cL_law 2141 = .ok (.iconst 1, 1) := by decide +kernel
theorem dL_law_2142 : decode cL_law 2142 = .ok (.goto 4, 3) := by decide +kernel
theorem dL_law_2145 : decode cL_law 2145 = .ok (.iconst 0, 1) := by decide +kernel
theorem dL_law_2146 : decode cL_law 2146 = .ok (.istore 34, 2) := by decide +kernel
theorem dL_law_2148 : decode cL_law 2148 = .ok (.iload 17, 2) := by decide +kernel
theorem dL_law_2150 : decode cL_law 2150 = .ok (.aload_n 1, 1) := by decide +kernel
theorem dL_law_2151 : decode cL_law 2151 = .ok (.iload 16, 2) := by decide +kernel
theorem dL_law_2153 : decode cL_law 2153 = .ok (.iload 31, 2) := by decide +kernel
theorem dL_law_2155 : decode cL_law 2155 = .ok (.iload 32, 2) := by decide +kernel
theorem dL_law_2157 : decode cL_law 2157 = .ok (.invokestatic 185, 3) := by decide +kernel
theorem dL_law_2160 : decode cL_law 2160 = .ok (.iload 34, 2) := by decide +kernel
theorem dL_law_2162 : decode cL_law 2162 = .ok (.ifCond .eq 8, 3) := by decide +kernel
theorem dL_law_2165 : decode cL_law 2165 = .ok (.iload 33, 2) := by decide +kernel
theorem dL_law_2167 : decode cL_law 2167 = .ok (.goto 6, 3) := by decide +kernel
theorem dL_law_2170 : decode cL_law 2170 = .ok (.sipush (-7300), 3) := by decide +kernel
theorem dL_law_2173 : decode cL_law 2173 = .ok (.if_icmp .ne 7, 3) := by decide +kernel
theorem dL_law_2176 : decode cL_law 2176 = .ok (.iconst 1, 1) := by decide +kernel
theorem dL_law_2177 : decode cL_law 2177 = .ok (.goto 4, 3) := by decide +kernel
theorem dL_law_2180 : decode cL_law 2180 = .ok (.iconst 0, 1) := by decide +kernel
theorem dL_law_2181 : decode cL_law 2181 = .ok (.iand, 1) := by decide +kernel
theorem dL_law_2182 : decode cL_law 2182 = .ok (.istore 17, 2) := by decide +kernel
theorem dL_law_2184 : decode cL_law 2184 = .ok (.iload 34, 2) := by decide +kernel
theorem dL_law_2186 : decode cL_law 2186 = .ok (.ifCond .ne 6, 3) := by decide +kernel
theorem dL_law_2189 : decode cL_law 2189 = .ok (.goto 58, 3) := by decide +kernel
theorem dL_law_2192 : decode cL_law 2192 = .ok (.aload 5, 2) := by decide +kernel
theorem dL_law_2194 : decode cL_law 2194 = .ok (.iload 16, 2) := by decide +kernel
theorem dL_law_2196 : decode cL_law 2196 = .ok (.dup2, 1) := by decide +kernel
theorem dL_law_2197 : decode cL_law 2197 = .ok (.iaload, 1) := by decide +kernel
theorem dL_law_2198 : decode cL_law 2198 = .ok (.sipush 512, 3) := by decide +kernel
theorem dL_law_2201 : decode cL_law 2201 = .ok (.iadd, 1) := by decide +kernel
theorem dL_law_2202 : decode cL_law 2202 = .ok (.iastore, 1) := by decide +kernel
theorem dL_law_2203 : decode cL_law 2203 = .ok (.aload 9, 2) := by decide +kernel
theorem dL_law_2205 : decode cL_law 2205 = .ok (.iload 16, 2) := by decide +kernel
theorem dL_law_2207 : decode cL_law 2207 = .ok (.dup2, 1) := by decide +kernel
theorem dL_law_2208 : decode cL_law 2208 = .ok (.laload, 1) := by decide +kernel
theorem dL_law_2209 : decode cL_law 2209 = .ok (.iload 32, 2) := by decide +kernel
theorem dL_law_2211 : decode cL_law 2211 = .ok (.i2l, 1) := by decide +kernel
theorem dL_law_2212 : decode cL_law 2212 = .ok (.iconst 4, 1) := by decide +kernel
theorem dL_law_2213 : decode cL_law 2213 = .ok (.iload 33, 2) := by decide +kernel
theorem dL_law_2215 : decode cL_law 2215 = .ok (.imul, 1) := by decide +kernel
theorem dL_law_2216 : decode cL_law 2216 = .ok (.lshl, 1) := by decide +kernel
theorem dL_law_2217 : decode cL_law 2217 = .ok (.lor, 1) := by decide +kernel
theorem dL_law_2218 : decode cL_law 2218 = .ok (.lastore, 1) := by decide +kernel
theorem dL_law_2219 : decode cL_law 2219 = .ok (.iload 33, 2) := by decide +kernel
theorem dL_law_2221 : decode cL_law 2221 = .ok (.iconst 2, 1) := by decide +kernel
theorem dL_law_2222 : decode cL_law 2222 = .ok (.if_icmp .ne 25, 3) := by decide +kernel
theorem dL_law_2225 : decode cL_law 2225 = .ok (.aload 5, 2) := by decide +kernel
theorem dL_law_2227 : decode cL_law 2227 = .ok (.iload 16, 2) := by decide +kernel
theorem dL_law_2229 : decode cL_law 2229 = .ok (.iaload, 1) := by decide +kernel
theorem dL_law_2230 : decode cL_law 2230 = .ok (.iconst 4, 1) := by decide +kernel
theorem dL_law_2231 : decode cL_law 2231 = .ok (.ishr, 1) := by decide +kernel
theorem dL_law_2232 : decode cL_law 2232 = .ok (.iconst 3, 1) := by decide +kernel
theorem dL_law_2233 : decode cL_law 2233 = .ok (.iand, 1) := by decide +kernel
theorem dL_law_2234 : decode cL_law 2234 = .ok (.ifCond .ne 13, 3) := by decide +kernel
theorem dL_law_2237 : decode cL_law 2237 = .ok (.aload 5, 2) := by decide +kernel
theorem dL_law_2239 : decode cL_law 2239 = .ok (.iload 16, 2) := by decide +kernel
theorem dL_law_2241 : decode cL_law 2241 = .ok (.dup2, 1) := by decide +kernel
theorem dL_law_2242 : decode cL_law 2242 = .ok (.iaload, 1) := by decide +kernel
theorem dL_law_2243 : decode cL_law 2243 = .ok (.bipush 16, 2) := by decide +kernel
theorem dL_law_2245 : decode cL_law 2245 = .ok (.ior, 1) := by decide +kernel
theorem dL_law_2246 : decode cL_law 2246 = .ok (.iastore, 1) := by decide +kernel
theorem dL_law_2247 : decode cL_law 2247 = .ok (.iinc 30 1, 3) := by decide +kernel
theorem dL_law_2250 : decode cL_law 2250 = .ok (.goto (-207), 3) := by decide +kernel
theorem dL_law_2253 : decode cL_law 2253 = .ok (.goto 1208, 3) := by decide +kernel
theorem dL_law_2256 : decode cL_law 2256 = .ok (.aload 10, 2) := by decide +kernel
theorem dL_law_2258 : decode cL_law 2258 = .ok (.iconst 2, 1) := by decide +kernel
theorem dL_law_2259 : decode cL_law 2259 = .ok (.iaload, 1) := by decide +kernel
theorem dL_law_2260 : decode cL_law 2260 = .ok (.ifCond .ne 6, 3) := by decide +kernel
theorem dL_law_2263 : decode cL_law 2263 = .ok (.goto 1198, 3) := by decide +kernel
theorem dL_law_2266 : decode cL_law 2266 = .ok (.iconst 0, 1) := by decide +kernel
theorem dL_law_2267 : decode cL_law 2267 = .ok (.istore 30, 2) := by decide +kernel
theorem dL_law_2269 : decode cL_law 2269 = .ok (.iload 30, 2) := by decide +kernel
theorem dL_law_2271 : decode cL_law 2271 = .ok (.aload 5, 2) := by decide +kernel
theorem dL_law_2273 : decode cL_law 2273 = .ok (.iload 16, 2) := by decide +kernel
theorem dL_law_2275 : decode cL_law 2275 = .ok (.iaload, 1) := by decide +kernel
theorem dL_law_2276 : decode cL_law 2276 = .ok (.invokestatic 112, 3) := by decide +kernel
theorem dL_law_2279 : decode cL_law 2279 = .ok (.if_icmp .ge 210, 3) := by decide +kernel
theorem dL_law_2282 : decode cL_law 2282 = .ok (.iload 13, 2) := by decide +kernel
theorem dL_law_2284 : decode cL_law 2284 = .ok (.iload 30, 2) := by decide +kernel
theorem dL_law_2286 : decode cL_law 2286 = .ok (.iconst 2, 1) := by decide +kernel
theorem dL_law_2287 : decode cL_law 2287 = .ok (.iadd, 1) := by decide +kernel
theorem dL_law_2288 : decode cL_law 2288 = .ok (.ishr, 1) := by decide +kernel
theorem dL_law_2289 : decode cL_law 2289 = .ok (.iconst 3, 1) := by decide +kernel
theorem dL_law_2290 : decode cL_law 2290 = .ok (.invokestatic 134, 3) := by decide +kernel
theorem dL_law_2293 : decode cL_law 2293 = .ok (.ifCond .ne 6, 3) := by decide +kernel
theorem dL_law_2296 : decode cL_law 2296 = .ok (.goto 187, 3) := by decide +kernel
theorem dL_law_2299 : decode cL_law 2299 = .ok (.iload 13, 2) := by decide +kernel
theorem dL_law_2301 : decode cL_law 2301 = .ok (.iload 30, 2) := by decide +kernel
theorem dL_law_2303 : decode cL_law 2303 = .ok (.ishr, 1) := by decide +kernel
theorem dL_law_2304 : decode cL_law 2304 = .ok (.iconst 4, 1) := by decide +kernel
theorem dL_law_2305 : decode cL_law 2305 = .ok (.invokestatic 134, 3) := by decide +kernel
theorem dL_law_2308 : decode cL_law 2308 = .ok (.ifCond .ne 7, 3) := by decide +kernel
theorem dL_law_2311 : decode cL_law 2311 = .ok (.iconst 1, 1) := by decide +kernel
theorem dL_law_2312 : decode cL_law 2312 = .ok (.goto 4, 3) := by decide +kernel
theorem dL_law_2315 : decode cL_law 2315 = .ok (.iconst 0, 1) := by decide +kernel
theorem dL_law_2316 : decode cL_law 2316 = .ok (.istore 31, 2) := by decide +kernel
theorem dL_law_2318 : decode cL_law 2318 = .ok (.aload 8, 2) := by decide +kernel
theorem dL_law_2320 : decode cL_law 2320 = .ok (.iload 16, 2) := by decide +kernel
theorem dL_law_2322 : decode cL_law 2322 = .ok (.iaload, 1) := by decide +kernel
theorem dL_law_2323 : decode cL_law 2323 = .ok (.iconst 2, 1) := by decide +kernel
theorem dL_law_2324 : decode cL_law 2324 = .ok (.iload 30, 2) := by decide +kernel
theorem dL_law_2326 : decode cL_law 2326 = .ok (.imul, 1) := by decide +kernel
theorem dL_law_2327 : decode cL_law 2327 = .ok (.ishr, 1) := by decide +kernel
theorem dL_law_2328 : decode cL_law 2328 = .ok (.iconst 3, 1) := by decide +kernel
theorem dL_law_2329 : decode cL_law 2329 = .ok (.iand, 1) := by decide +kernel
theorem dL_law_2330 : decode cL_law 2330 = .ok (.istore 32, 2) := by decide +kernel
theorem dL_law_2332 : decode cL_law 2332 = .ok (.iload 32, 2) := by decide +kernel
theorem dL_law_2334 : decode cL_law 2334 = .ok (.iconst 1, 1) := by decide +kernel
theorem dL_law_2335 : decode cL_law 2335 = .ok (.if_icmp .eq 55, 3) := by decide +kernel
theorem dL_law_2338 : decode cL_law 2338 = .ok (.iload 31, 2) := by decide +kernel
theorem dL_law_2340 : decode cL_law 2340 = .ok (.ifCond .eq 54, 3) := by decide +kernel
theorem dL_law_2343 : decode cL_law 2343 = .ok (.iload 32, 2) := by decide +kernel
theorem dL_law_2345 : decode cL_law 2345 = .ok (.iconst 2, 1) := by decide +kernel
theorem dL_law_2346 : decode cL_law 2346 = .ok (.if_icmp .eq 44, 3) := by decide +kernel
theorem dL_law_2349 : decode cL_law 2349 = .ok (.aload 9, 2) := by decide +kernel
theorem dL_law_2351 : decode cL_law 2351 = .ok (.iload 16, 2) := by decide +kernel
theorem dL_law_2353 : decode cL_law 2353 = .ok (.laload, 1) := by decide +kernel
theorem dL_law_2354 : decode cL_law 2354 = .ok (.iconst 4, 1) := by decide +kernel
theorem dL_law_2355 : decode cL_law 2355 = .ok (.iload 30, 2) := by decide +kernel
theorem dL_law_2357 : decode cL_law 2357 = .ok (.imul, 1) := by decide +kernel
theorem dL_law_2358 : decode cL_law 2358 = .ok (.lshr, 1) := by decide +kernel
theorem dL_law_2359 : decode cL_law 2359 = .ok (.ldc2_w 122, 3) := by decide +kernel
theorem dL_law_2362 : decode cL_law 2362 = .ok (.land, 1) := by decide +kernel
theorem dL_law_2363 : decode cL_law 2363 = .ok (.ldc2_w 187, 3) := by decide +kernel
theorem dL_law_2366 : decode cL_law 2366 = .ok (.lcmp, 1) := by decide +kernel
theorem dL_law_2367 : decode cL_law 2367 = .ok (.ifCond .gt 23, 3) := by decide +kernel
theorem dL_law_2370 : decode cL_law 2370 = .ok (.aload_n 2, 1) := by decide +kernel
theorem dL_law_2371 : decode cL_law 2371 = .ok (.bipush 14, 2) := by decide +kernel
theorem dL_law_2373 : decode cL_law 2373 = .ok (.aload 5, 2) := by decide +kernel
theorem dL_law_2375 : decode cL_law 2375 = .ok (.iload 16, 2) := by decide +kernel
theorem dL_law_2377 : decode cL_law 2377 = .ok (.iaload, 1) := by decide +kernel
theorem dL_law_2378 : decode cL_law 2378 = .ok (.iconst 3, 1) := by decide +kernel
theorem dL_law_2379 : decode cL_law 2379 = .ok (.iand, 1) := by decide +kernel
theorem dL_law_2380 : decode cL_law 2380 = .ok (.imul, 1) := by decide +kernel
theorem dL_law_2381 : decode cL_law 2381 = .ok (.bipush 7, 2) := by decide +kernel
theorem dL_law_2383 : decode cL_law 2383 = .ok (.iadd, 1) := by decide +kernel
theorem dL_law_2384 : decode cL_law 2384 = .ok (.iaload, 1) := by decide +kernel
theorem dL_law_2385 : decode cL_law 2385 = .ok (.iload 16, 2) := by decide +kernel
theorem dL_law_2387 : decode cL_law 2387 = .ok (.if_icmp .eq 7, 3) := by decide +kernel
theorem dL_law_2390 : decode cL_law 2390 = .ok (.iconst 1, 1) := by decide +kernel
theorem dL_law_2391 : decode cL_law 2391 = .ok (.goto 4, 3) := by decide +kernel
theorem dL_law_2394 : decode cL_law 2394 = .ok (.iconst 0, 1) := by decide +kernel
theorem dL_law_2395 : decode cL_law 2395 = .ok (.istore 33, 2) := by decide +kernel
theorem dL_law_2397 : decode cL_law 2397 = .ok (.iload 33, 2) := by decide +kernel
theorem dL_law_2399 : decode cL_law 2399 = .ok (.ifCond .ne 38, 3) := by decide +kernel
theorem dL_law_2402 : decode cL_law 2402 = .ok (.aload 8, 2) := by decide +kernel
theorem dL_law_2404 : decode cL_law 2404 = .ok (.iload 16, 2) := by decide +kernel
theorem dL_law_2406 : decode cL_law 2406 = .ok (.aload 8, 2) := by decide +kernel
theorem dL_law_2408 : decode cL_law 2408 = .ok (.iload 16, 2) := by decide +kernel
theorem dL_law_2410 : decode cL_law 2410 = .ok (.iaload, 1) := by decide +kernel
theorem dL_law_2411 : decode cL_law 2411 = .ok (.iconst 3, 1) := by decide +kernel
theorem dL_law_2412 : decode cL_law 2412 = .ok (.iconst 2, 1) := by decide +kernel
theorem dL_law_2413 : decode cL_law 2413 = .ok (.iload 30, 2) := by decide +kernel
theorem dL_law_2415 : decode cL_law 2415 = .ok (.imul, 1) := by decide +kernel
theorem dL_law_2416 : decode cL_law 2416 = .ok (.ishl, 1) := by decide +kernel
theorem dL_law_2417 : decode cL_law 2417 = .ok (.iconst (-1), 1) := by decide +kernel
theorem dL_law_2418 : decode cL_law 2418 = .ok (.ixor, 1) := by decide +kernel
theorem dL_law_2419 : decode cL_law 2419 = .ok (.iand, 1) := by decide +kernel
theorem dL_law_2420 : decode cL_law 2420 = .ok (.iload 31, 2) := by decide +kernel
theorem dL_law_2422 : decode cL_law 2422 = .ok (.ifCond .eq 7, 3) := by decide +kernel
theorem dL_law_2425 : decode cL_law 2425 = .ok (.iconst 2, 1) := by decide +kernel
theorem dL_law_2426 : decode cL_law 2426 = .ok (.goto 4, 3) := by decide +kernel
theorem dL_law_2429 : decode cL_law 2429 = .ok (.iconst 1, 1) := by decide +kernel
theorem dL_law_2430 : decode cL_law 2430 = .ok (.iconst 2, 1) := by decide +kernel
theorem dL_law_2431 : decode cL_law 2431 = .ok (.iload 30, 2) := by decide +kernel
theorem dL_law_2433 : decode cL_law 2433 = .ok (.imul, 1) := by decide +kernel
theorem dL_law_2434 : decode cL_law 2434 = .ok (.ishl, 1) := by decide +kernel
theorem dL_law_2435 : decode cL_law 2435 = .ok (.ior, 1) := by decide +kernel
theorem dL_law_2436 : decode cL_law 2436 = .ok (.iastore, 1) := by decide +kernel
theorem dL_law_2437 : decode cL_law 2437 = .ok (.iload 17, 2) := by decide +kernel
theorem dL_law_2439 : decode cL_law 2439 = .ok (.aload_n 1, 1) := by decide +kernel
theorem dL_law_2440 : decode cL_law 2440 = .ok (.iload 16, 2) := by decide +kernel
theorem dL_law_2442 : decode cL_law 2442 = .ok (.iload 30, 2) := by decide +kernel
theorem dL_law_2444 : decode cL_law 2444 = .ok (.iload 31, 2) := by decide +kernel
theorem dL_law_2446 : decode cL_law 2446 = .ok (.invokestatic 189, 3) := by decide +kernel
theorem dL_law_2449 : decode cL_law 2449 = .ok (.iload 33, 2) := by decide +kernel
theorem dL_law_2451 : decode cL_law 2451 = .ok (.ifCond .eq 9, 3) := by decide +kernel
theorem dL_law_2454 : decode cL_law 2454 = .ok (.sipush (-7300), 3) := by decide +kernel
theorem dL_law_2457 : decode cL_law 2457 = .ok (.goto 15, 3) := by decide +kernel
theorem dL_law_2460 : decode cL_law 2460 = .ok (.iload 16, 2) := by decide +kernel
theorem dL_law_2462 : decode cL_law 2462 = .ok (.iconst 0, 1) := by decide +kernel
theorem dL_law_2463 : decode cL_law 2463 = .ok (.aload 5, 2) := by decide +kernel
theorem dL_law_2465 : decode cL_law 2465 = .ok (.aload 8, 2) := by decide +kernel
theorem dL_law_2467 : decode cL_law 2467 = .ok (.aload 9, 2) := by decide +kernel
theorem dL_law_2469 : decode cL_law 2469 = .ok (.invokestatic 153, 3) := by decide +kernel
theorem dL_law_2472 : decode cL_law 2472 = .ok (.if_icmp .ne 7, 3) := by decide +kernel
theorem dL_law_2475 : decode cL_law 2475 = .ok (.iconst 1, 1) := by decide +kernel
theorem dL_law_2476 : decode cL_law 2476 = .ok (.goto 4, 3) := by decide +kernel
theorem dL_law_2479 : decode cL_law 2479 = .ok (.iconst 0, 1) := by decide +kernel
theorem dL_law_2480 : decode cL_law 2480 = .ok (.iand, 1) := by decide +kernel
theorem dL_law_2481 : decode cL_law 2481 = .ok (.istore 17, 2) := by decide +kernel
theorem dL_law_2483 : decode cL_law 2483 = .ok (.iinc 30 1, 3) := by decide +kernel
theorem dL_law_2486 : decode cL_law 2486 = .ok (.goto (-217), 3) := by decide +kernel
theorem dL_law_2489 : decode cL_law 2489 = .ok (.iload 17, 2) := by decide +kernel
theorem dL_law_2491 : decode cL_law 2491 = .ok (.aload_n 1, 1) := by decide +kernel
theorem dL_law_2492 : decode cL_law 2492 = .ok (.iload 16, 2) := by decide +kernel
theorem dL_law_2494 : decode cL_law 2494 = .ok (.aload 5, 2) := by decide +kernel
theorem dL_law_2496 : decode cL_law 2496 = .ok (.iload 16, 2) := by decide +kernel
theorem dL_law_2498 : decode cL_law 2498 = .ok (.iaload, 1) := by decide +kernel
theorem dL_law_2499 : decode cL_law 2499 = .ok (.invokestatic 112, 3) := by decide +kernel
theorem dL_law_2502 : decode cL_law 2502 = .ok (.iconst 0, 1) := by decide +kernel
theorem dL_law_2503 : decode cL_law 2503 = .ok (.invokestatic 189, 3) := by decide +kernel
theorem dL_law_2506 : decode cL_law 2506 = .ok (.sipush (-7100), 3) := by decide +kernel
theorem dL_law_2509 : decode cL_law 2509 = .ok (.if_icmp .ne 7, 3) := by decide +kernel
theorem dL_law_2512 : decode cL_law 2512 = .ok (.iconst 1, 1) := by decide +kernel
theorem dL_law_2513 : decode cL_law 2513 = .ok (.goto 4, 3) := by decide +kernel
theorem dL_law_2516 : decode cL_law 2516 = .ok (.iconst 0, 1) := by decide +kernel
theorem dL_law_2517 : decode cL_law 2517 = .ok (.iand, 1) := by decide +kernel
theorem dL_law_2518 : decode cL_law 2518 = .ok (.istore 17, 2) := by decide +kernel
theorem dL_law_2520 : decode cL_law 2520 = .ok (.goto 941, 3) := by decide +kernel
theorem dL_law_2523 : decode cL_law 2523 = .ok (.aload 10, 2) := by decide +kernel
theorem dL_law_2525 : decode cL_law 2525 = .ok (.iconst 2, 1) := by decide +kernel
theorem dL_law_2526 : decode cL_law 2526 = .ok (.iaload, 1) := by decide +kernel
theorem dL_law_2527 : decode cL_law 2527 = .ok (.ifCond .ne 6, 3) := by decide +kernel
theorem dL_law_2530 : decode cL_law 2530 = .ok (.goto 931, 3) := by decide +kernel
theorem dL_law_2533 : decode cL_law 2533 = .ok (.aload 5, 2) := by decide +kernel
theorem dL_law_2535 : decode cL_law 2535 = .ok (.iload 16, 2) := by decide +kernel
theorem dL_law_2537 : decode cL_law 2537 = .ok (.iaload, 1) := by decide +kernel
theorem dL_law_2538 : decode cL_law 2538 = .ok (.iconst 3, 1) := by decide +kernel
theorem dL_law_2539 : decode cL_law 2539 = .ok (.iand, 1) := by decide +kernel
theorem dL_law_2540 : decode cL_law 2540 = .ok (.istore 30, 2) := by decide +kernel
theorem dL_law_2542 : decode cL_law 2542 = .ok (.aload_n 2, 1) := by decide +kernel
theorem dL_law_2543 : decode cL_law 2543 = .ok (.bipush 14, 2) := by decide +kernel
theorem dL_law_2545 : decode cL_law 2545 = .ok (.iload 30, 2) := by decide +kernel
theorem dL_law_2547 : decode cL_law 2547 = .ok (.imul, 1) := by decide +kernel
theorem dL_law_2548 : decode cL_law 2548 = .ok (.bipush 7, 2) := by decide +kernel
theorem dL_law_2550 : decode cL_law 2550 = .ok (.iadd, 1) := by decide +kernel
theorem dL_law_2551 : decode cL_law 2551 = .ok (.iaload, 1) := by decide +kernel
theorem dL_law_2552 : decode cL_law 2552 = .ok (.iload 16, 2) := by decide +kernel
theorem dL_law_2554 : decode cL_law 2554 = .ok (.if_icmp .ne 44, 3) := by decide +kernel
theorem dL_law_2557 : decode cL_law 2557 = .ok (.aload 7, 2) := by decide +kernel
theorem dL_law_2559 : decode cL_law 2559 = .ok (.iload 16, 2) := by decide +kernel
theorem dL_law_2561 : decode cL_law 2561 = .ok (.iaload, 1) := by decide +kernel
theorem dL_law_2562 : decode cL_law 2562 = .ok (.iconst (-1), 1) := by decide +kernel
theorem dL_law_2563 : decode cL_law 2563 = .ok (.if_icmp .ne 35, 3) := by decide +kernel
theorem dL_law_2566 : decode cL_law 2566 = .ok (.iload 16, 2) := by decide +kernel
theorem dL_law_2568 : decode cL_law 2568 = .ok (.iconst 1, 1) := by decide +kernel
theorem dL_law_2569 : decode cL_law 2569 = .ok (.aload 5, 2) := by decide +kernel
theorem dL_law_2571 : decode cL_law 2571 = .ok (.aload 8, 2) := by decide +kernel
theorem dL_law_2573 : decode cL_law 2573 = .ok (.aload 9, 2) := by decide +kernel
theorem dL_law_2575 : decode cL_law 2575 = .ok (.invokestatic 153, 3) := by decide +kernel
theorem dL_law_2578 : decode cL_law 2578 = .ok (.bipush 9, 2) := by decide +kernel
theorem dL_law_2580 : decode cL_law 2580 = .ok (.if_icmp .gt 14, 3) := by decide +kernel
theorem dL_law_2583 : decode cL_law 2583 = .ok (.iload 30, 2) := by decide +kernel
theorem dL_law_2585 : decode cL_law 2585 = .ok (.aload_n 3, 1) := by decide +kernel
theorem dL_law_2586 : decode cL_law 2586 = .ok (.aload 10, 2) := by decide +kernel
theorem dL_law_2588 : decode cL_law 2588 = .ok (.invokestatic 130, 3) := by decide +kernel
theorem dL_law_2591 : decode cL_law 2591 = .ok (.ifCond .le 7, 3) := by decide +kernel
theorem dL_law_2594 : decode cL_law 2594 = .ok (.iconst 1, 1) := by decide +kernel
theorem dL_law_2595 : decode cL_law 2595 = .ok (.goto 4, 3) := by decide +kernel
theorem dL_law_2598 : decode cL_law 2598 = .ok (.iconst 0, 1) := by decide +kernel
theorem dL_law_2599 : decode cL_law 2599 = .ok (.istore 31, 2) := by decide +kernel
theorem dL_law_2601 : decode cL_law 2601 = .ok (.iload 31, 2) := by decide +kernel
theorem dL_law_2603 : decode cL_law 2603 = .ok (.ifCond .ne 25, 3) := by decide +kernel
theorem dL_law_2606 : decode cL_law 2606 = .ok (.aload_n 1, 1) := by decide +kernel
theorem dL_law_2607 : decode cL_law 2607 = .ok (.iload 16, 2) := by decide +kernel
theorem dL_law_2609 : decode cL_law 2609 = .ok (.invokestatic 192, 3) := by decide +kernel
theorem dL_law_2612 : decode cL_law 2612 = .ok (.sipush (-7300), 3) := by decide +kernel
theorem dL_law_2615 : decode cL_law 2615 = .ok (.if_icmp .ne 7, 3) := by decide +kernel
theorem dL_law_2618 : decode cL_law 2618 = .ok (.iconst 1, 1) := by decide +kernel
theorem dL_law_2619 : decode cL_law 2619 = .ok (.goto 4, 3) := by decide +kernel
theorem dL_law_2622 : decode cL_law 2622 = .ok (.iconst 0, 1) := by decide +kernel
theorem dL_law_2623 : decode cL_law 2623 = .ok (.istore 17, 2) := by decide +kernel
theorem dL_law_2625 : decode cL_law 2625 = .ok (.goto 836, 3) := by decide +kernel
theorem dL_law_2628 : decode cL_law 2628 = .ok (.aload 7, 2) := by decide +kernel
theorem dL_law_2630 : decode cL_law 2630 = .ok (.iload 16, 2) := by decide +kernel
theorem dL_law_2632 : decode cL_law 2632 = .ok (.aload 10, 2) := by decide +kernel
theorem dL_law_2634 : decode cL_law 2634 = .ok (.iconst 0, 1) := by decide +kernel
theorem dL_law_2635 : decode cL_law 2635 = .ok (.iaload, 1) := by decide +kernel
theorem dL_law_2636 : decode cL_law 2636 = .ok (.iastore, 1) := by decide +kernel
theorem dL_law_2637 : decode cL_law 2637 = .ok (.aload_n 2, 1) := by decide +kernel
theorem dL_law_2638 : decode cL_law 2638 = .ok (.bipush 14, 2) := by decide +kernel
theorem dL_law_2640 : decode cL_law 2640 = .ok (.iload 30, 2) := by decide +kernel
theorem dL_law_2642 : decode cL_law 2642 = .ok (.imul, 1) := by decide +kernel
theorem dL_law_2643 : decode cL_law 2643 = .ok (.bipush 9, 2) := by decide +kernel
theorem dL_law_2645 : decode cL_law 2645 = .ok (.iadd, 1) := by decide +kernel
theorem dL_law_2646 : decode cL_law 2646 = .ok (.iload 16, 2) := by decide +kernel
theorem dL_law_2648 : decode cL_law 2648 = .ok (.iastore, 1) := by decide +kernel
theorem dL_law_2649 : decode cL_law 2649 = .ok (.iconst 0, 1) := by decide +kernel
theorem dL_law_2650 : decode cL_law 2650 = .ok (.istore 32, 2) := by decide +kernel
theorem dL_law_2652 : decode cL_law 2652 = .ok (.iconst 0, 1) := by decide +kernel
theorem dL_law_2653 : decode cL_law 2653 = .ok (.istore 33, 2) := by decide +kernel
theorem dL_law_2655 : decode cL_law 2655 = .ok (.iconst 0, 1) := by decide +kernel
theorem dL_law_2656 : decode cL_law 2656 = .ok (.istore 34, 2) := by decide +kernel
theorem dL_law_2658 : decode cL_law 2658 = .ok (.iload 34, 2) := by decide +kernel
theorem dL_law_2660 : decode cL_law 2660 = .ok (.aload 10, 2) := by decide +kernel
theorem dL_law_2662 : decode cL_law 2662 = .ok (.iconst 2, 1) := by decide +kernel
theorem dL_law_2663 : decode cL_law 2663 = .ok (.iaload, 1) := by decide +kernel
theorem dL_law_2664 : decode cL_law 2664 = .ok (.if_icmp .ge 74, 3) := by decide +kernel
theorem dL_law_2667 : decode cL_law 2667 = .ok (.aload 5, 2) := by decide +kernel
theorem dL_law_2669 : decode cL_law 2669 = .ok (.iload 34, 2) := by decide +kernel
theorem dL_law_2671 : decode cL_law 2671 = .ok (.iaload, 1) := by decide +kernel
theorem dL_law_2672 : decode cL_law 2672 = .ok (.iconst 3, 1) := by decide +kernel
theorem dL_law_2673 : decode cL_law 2673 = .ok (.iand, 1) := by decide +kernel
theorem dL_law_2674 : decode cL_law 2674 = .ok (.iload 30, 2) := by decide +kernel
theorem dL_law_2676 : decode cL_law 2676 = .ok (.if_icmp .ne 56, 3) := by decide +kernel
theorem dL_law_2679 : decode cL_law 2679 = .ok (.aload 6, 2) := by decide +kernel
theorem dL_law_2681 : decode cL_law 2681 = .ok (.iload 34, 2) := by decide +kernel
theorem dL_law_2683 : decode cL_law 2683 = .ok (.iaload, 1) := by decide +kernel
theorem dL_law_2684 : decode cL_law 2684 = .ok (.sipush 1095, 3) := by decide +kernel
theorem dL_law_2687 : decode cL_law 2687 = .ok (.iadd, 1) := by decide +kernel
theorem dL_law_2688 : decode cL_law 2688 = .ok (.aload 10, 2) := by decide +kernel
theorem dL_law_2690 : decode cL_law 2690 = .ok (.iconst 0, 1) := by decide +kernel
theorem dL_law_2691 : decode cL_law 2691 = .ok (.iaload, 1) := by decide +kernel
theorem dL_law_2692 : decode cL_law 2692 = .ok (.if_icmp .le 40, 3) := by decide +kernel
theorem dL_law_2695 : decode cL_law 2695 = .ok (.iload 34, 2) := by decide +kernel
theorem dL_law_2697 : decode cL_law 2697 = .ok (.aload 5, 2) := by decide +kernel
theorem dL_law_2699 : decode cL_law 2699 = .ok (.aload 7, 2) := by decide +kernel
theorem dL_law_2701 : decode cL_law 2701 = .ok (.invokestatic 104, 3) := by decide +kernel
theorem dL_law_2704 : decode cL_law 2704 = .ok (.ifCond .ne 6, 3) := by decide +kernel
theorem dL_law_2707 : decode cL_law 2707 = .ok (.goto 25, 3) := by decide +kernel
theorem dL_law_2710 : decode cL_law 2710 = .ok (.iinc 32 1, 3) := by decide +kernel
theorem dL_law_2713 : decode cL_law 2713 = .ok (.iload 33, 2) := by decide +kernel
theorem dL_law_2715 : decode cL_law 2715 = .ok (.aload 5, 2) := by decide +kernel
theorem dL_law_2717 : decode cL_law 2717 = .ok (.iload 34, 2) := by decide +kernel
theorem dL_law_2719 : decode cL_law 2719 = .ok (.iaload, 1) := by decide +kernel
theorem dL_law_2720 : decode cL_law 2720 = .ok (.invokestatic 101, 3) := by decide +kernel
theorem dL_law_2723 : decode cL_law 2723 = .ok (.iconst 5, 1) := by decide +kernel
theorem dL_law_2724 : decode cL_law 2724 = .ok (.ishr, 1) := by decide +kernel
theorem dL_law_2725 : decode cL_law 2725 = .ok (.iconst 1, 1) := by decide +kernel
theorem dL_law_2726 : decode cL_law 2726 = .ok (.iand, 1) := by decide +kernel
theorem dL_law_2727 : decode cL_law 2727 = .ok (.iconst 1, 1) := by decide +kernel
theorem dL_law_2728 : decode cL_law 2728 = .ok (.ixor, 1) := by decide +kernel
theorem dL_law_2729 : decode cL_law 2729 = .ok (.iadd, 1) := by decide +kernel
theorem dL_law_2730 : decode cL_law 2730 = .ok (.istore 33, 2) := by decide +kernel
theorem dL_law_2732 : decode cL_law 2732 = .ok (.iinc 34 1, 3) := by decide +kernel
theorem dL_law_2735 : decode cL_law 2735 = .ok (.goto (-77), 3) := by decide +kernel
theorem dL_law_2738 : decode cL_law 2738 = .ok (.aload_n 1, 1) := by decide +kernel
theorem dL_law_2739 : decode cL_law 2739 = .ok (.iload 16, 2) := by decide +kernel
theorem dL_law_2741 : decode cL_law 2741 = .ok (.invokestatic 192, 3) := by decide +kernel
theorem dL_law_2744 : decode cL_law 2744 = .ok (.iload 32, 2) := by decide +kernel
theorem dL_law_2746 : decode cL_law 2746 = .ok (.if_icmp .ne 7, 3) := by decide +kernel
theorem dL_law_2749 : decode cL_law 2749 = .ok (.iconst 1, 1) := by decide +kernel
theorem dL_law_2750 : decode cL_law 2750 = .ok (.goto 4, 3) := by decide +kernel
theorem dL_law_2753 : decode cL_law 2753 = .ok (.iconst 0, 1) := by decide +kernel
theorem dL_law_2754 : decode cL_law 2754 = .ok (.istore 17, 2) := by decide +kernel
theorem dL_law_2756 : decode cL_law 2756 = .ok (.iload 33, 2) := by decide +kernel
theorem dL_law_2758 : decode cL_law 2758 = .ok (.iconst 3, 1) := by decide +kernel
theorem dL_law_2759 : decode cL_law 2759 = .ok (.if_icmp .ge 6, 3) := by decide +kernel
theorem dL_law_2762 : decode cL_law 2762 = .ok (.goto 699, 3) := by decide +kernel
theorem dL_law_2765 : decode cL_law 2765 = .ok (.aload_n 2, 1) := by decide +kernel
theorem dL_law_2766 : decode cL_law 2766 = .ok (.bipush 14, 2) := by decide +kernel
theorem dL_law_2768 : decode cL_law 2768 = .ok (.iload 30, 2) := by decide +kernel
theorem dL_law_2770 : decode cL_law 2770 = .ok (.imul, 1) := by decide +kernel
theorem dL_law_2771 : decode cL_law 2771 = .ok (.bipush 10, 2) := by decide +kernel
theorem dL_law_2773 : decode cL_law 2773 = .ok (.iadd, 1) := by decide +kernel
theorem dL_law_2774 : decode cL_law 2774 = .ok (.iconst 1, 1) := by decide +kernel
theorem dL_law_2775 : decode cL_law 2775 = .ok (.iastore, 1) := by decide +kernel
theorem dL_law_2776 : decode cL_law 2776 = .ok (.iconst 0, 1) := by decide +kernel
theorem dL_law_2777 : decode cL_law 2777 = .ok (.istore 34, 2) := by decide +kernel
theorem dL_law_2779 : decode cL_law 2779 = .ok (.iload 34, 2) := by decide +kernel
theorem dL_law_2781 : decode cL_law 2781 = .ok (.aload 10, 2) := by decide +kernel
theorem dL_law_2783 : decode cL_law 2783 = .ok (.iconst 2, 1) := by decide +kernel
theorem dL_law_2784 : decode cL_law 2784 = .ok (.iaload, 1) := by decide +kernel
theorem dL_law_2785 : decode cL_law 2785 = .ok (.if_icmp .ge 59, 3) := by decide +kernel
theorem dL_law_2788 : decode cL_law 2788 = .ok (.aload 5, 2) := by decide +kernel
theorem dL_law_2790 : decode cL_law 2790 = .ok (.iload 34, 2) := by decide +kernel
theorem dL_law_2792 : decode cL_law 2792 = .ok (.iaload, 1) := by decide +kernel
theorem dL_law_2793 : decode cL_law 2793 = .ok (.iconst 3, 1) := by decide +kernel
theorem dL_law_2794 : decode cL_law 2794 = .ok (.iand, 1) := by decide +kernel
theorem dL_law_2795 : decode cL_law 2795 = .ok (.iload 30, 2) := by decide +kernel
theorem dL_law_2797 : decode cL_law 2797 = .ok (.if_icmp .ne 41, 3) := by decide +kernel
theorem dL_law_2800 : decode cL_law 2800 = .ok (.aload 6, 2) := by decide +kernel
theorem dL_law_2802 : decode cL_law 2802 = .ok (.iload 34, 2) := by decide +kernel
theorem dL_law_2804 : decode cL_law 2804 = .ok (.iaload, 1) := by decide +kernel
theorem dL_law_2805 : decode cL_law 2805 = .ok (.sipush 1095, 3) := by decide +kernel
theorem dL_law_2808 : decode cL_law 2808 = .ok (.iadd, 1) := by decide +kernel
theorem dL_law_2809 : decode cL_law 2809 = .ok (.aload 10, 2) := by decide +kernel
theorem dL_law_2811 : decode cL_law 2811 = .ok (.iconst 0, 1) := by decide +kernel
theorem dL_law_2812 : decode cL_law 2812 = .ok (.iaload, 1) := by decide +kernel
theorem dL_law_2813 : decode cL_law 2813 = .ok (.if_icmp .le 25, 3) := by decide +kernel
theorem dL_law_2816 : decode cL_law 2816 = .ok (.iload 34, 2) := by decide +kernel
theorem dL_law_2818 : decode cL_law 2818 = .ok (.aload 5, 2) := by decide +kernel
theorem dL_law_2820 : decode cL_law 2820 = .ok (.aload 7, 2) := by decide +kernel
theorem dL_law_2822 : decode cL_law 2822 = .ok (.invokestatic 104, 3) := by decide +kernel
theorem dL_law_2825 : decode cL_law 2825 = .ok (.ifCond .eq 13, 3) := by decide +kernel
theorem dL_law_2828 : decode cL_law 2828 = .ok (.aload 5, 2) := by decide +kernel
theorem dL_law_2830 : decode cL_law 2830 = .ok (.iload 34, 2) := by decide +kernel
theorem dL_law_2832 : decode cL_law 2832 = .ok (.dup2, 1) := by decide +kernel
theorem dL_law_2833 : decode cL_law 2833 = .ok (.iaload, 1) := by decide +kernel
theorem dL_law_2834 : decode cL_law 2834 = .ok (.ldc 194, 2) := by decide +kernel
theorem dL_law_2836 : decode cL_law 2836 = .ok (.ior, 1) := by decide +kernel
theorem dL_law_2837 : decode cL_law 2837 = .ok (.iastore, 1) := by decide +kernel
theorem dL_law_2838 : decode cL_law 2838 = .ok (.iinc 34 1, 3) := by decide +kernel
theorem dL_law_2841 : decode cL_law 2841 = .ok (.goto (-62), 3) := by decide +kernel
theorem dL_law_2844 : decode cL_law 2844 = .ok (.goto 617, 3) := by decide +kernel
theorem dL_law_2847 : decode cL_law 2847 = .ok (.aload 10, 2) := by decide +kernel
theorem dL_law_2849 : decode cL_law 2849 = .ok (.iconst 2, 1) := by decide +kernel
theorem dL_law_2850 : decode cL_law 2850 = .ok (.iaload, 1) := by decide +kernel
theorem dL_law_2851 : decode cL_law 2851 = .ok (.ifCond .ne 6, 3) := by decide +kernel
theorem dL_law_2854 : decode cL_law 2854 = .ok (.goto 607, 3) := by decide +kernel
theorem dL_law_2857 : decode cL_law 2857 = .ok (.aload 7, 2) := by decide +kernel
theorem dL_law_2859 : decode cL_law 2859 = .ok (.iload 16, 2) := by decide +kernel
theorem dL_law_2861 : decode cL_law 2861 = .ok (.iaload, 1) := by decide +kernel
theorem dL_law_2862 : decode cL_law 2862 = .ok (.iconst (-1), 1) := by decide +kernel
theorem dL_law_2863 : decode cL_law 2863 = .ok (.if_icmp .eq 35, 3) := by decide +kernel
theorem dL_law_2866 : decode cL_law 2866 = .ok (.aload 5, 2) := by decide +kernel
theorem dL_law_2868 : decode cL_law 2868 = .ok (.iload 16, 2) := by decide +kernel
theorem dL_law_2870 : decode cL_law 2870 = .ok (.iaload, 1) := by decide +kernel
theorem dL_law_2871 : decode cL_law 2871 = .ok (.invokestatic 101, 3) := by decide +kernel
theorem dL_law_2874 : decode cL_law 2874 = .ok (.iconst 1, 1) := by decide +kernel
theorem dL_law_2875 : decode cL_law 2875 = .ok (.iand, 1) := by decide +kernel
theorem dL_law_2876 : decode cL_law 2876 = .ok (.ifCond .ne 22, 3) := by decide +kernel
theorem dL_law_2879 : decode cL_law 2879 = .ok (.aload 10, 2) := by decide +kernel
theorem dL_law_2881 : decode cL_law 2881 = .ok (.iconst 0, 1) := by decide +kernel
theorem dL_law_2882 : decode cL_law 2882 = .ok (.iaload, 1) := by decide +kernel
theorem dL_law_2883 : decode cL_law 2883 = .ok (.aload 7, 2) := by decide +kernel
theorem dL_law_2885 : decode cL_law 2885 = .ok (.iload 16, 2) := by decide +kernel
theorem dL_law_2887 : decode cL_law 2887 = .ok (.iaload, 1) := by decide +kernel
theorem dL_law_2888 : decode cL_law 2888 = .ok (.isub, 1) := by decide +kernel
theorem dL_law_2889 : decode cL_law 2889 = .ok (.bipush 30, 2) := by decide +kernel
theorem dL_law_2891 : decode cL_law 2891 = .ok (.if_icmp .gt 7, 3) := by decide +kernel
theorem dL_law_2894 : decode cL_law 2894 = .ok (.iconst 1, 1) := by decide +kernel
theorem dL_law_2895 : decode cL_law 2895 = .ok (.goto 4, 3) := by decide +kernel
theorem dL_law_2898 : decode cL_law 2898 = .ok (.iconst 0, 1) := by decide +kernel
theorem dL_law_2899 : decode cL_law 2899 = .ok (.istore 34, 2) := by decide +kernel
theorem dL_law_2901 : decode cL_law 2901 = .ok (.aload_n 1, 1) := by decide +kernel
theorem dL_law_2902 : decode cL_law 2902 = .ok (.iload 16, 2) := by decide +kernel
theorem dL_law_2904 : decode cL_law 2904 = .ok (.invokestatic 195, 3) := by decide +kernel
theorem dL_law_2907 : decode cL_law 2907 = .ok (.iload 34, 2) := by decide +kernel
theorem dL_law_2909 : decode cL_law 2909 = .ok (.ifCond .eq 7, 3) := by decide +kernel
theorem dL_law_2912 : decode cL_law 2912 = .ok (.iconst 0, 1) := by decide +kernel
theorem dL_law_2913 : decode cL_law 2913 = .ok (.goto 6, 3) := by decide +kernel
theorem dL_law_2916 : decode cL_law 2916 = .ok (.sipush (-7300), 3) := by decide +kernel
theorem dL_law_2919 : decode cL_law 2919 = .ok (.if_icmp .ne 7, 3) := by decide +kernel
theorem dL_law_2922 : decode cL_law 2922 = .ok (.iconst 1, 1) := by decide +kernel
theorem dL_law_2923 : decode cL_law 2923 = .ok (.goto 4, 3) := by decide +kernel
theorem dL_law_2926 : decode cL_law 2926 = .ok (.iconst 0, 1) := by decide +kernel
theorem dL_law_2927 : decode cL_law 2927 = .ok (.istore 17, 2) := by decide +kernel
theorem dL_law_2929 : decode cL_law 2929 = .ok (.aload 5, 2) := by decide +kernel
theorem dL_law_2931 : decode cL_law 2931 = .ok (.iload 16, 2) := by decide +kernel
theorem dL_law_2933 : decode cL_law 2933 = .ok (.dup2, 1) := by decide +kernel
theorem dL_law_2934 : decode cL_law 2934 = .ok (.iaload, 1) := by decide +kernel
theorem dL_law_2935 : decode cL_law 2935 = .ok (.iload 34, 2) := by decide +kernel
theorem dL_law_2937 : decode cL_law 2937 = .ok (.ifCond .eq 9, 3) := by decide +kernel
theorem dL_law_2940 : decode cL_law 2940 = .ok (.sipush 8192, 3) := by decide +kernel
theorem dL_law_2943 : decode cL_law 2943 = .ok (.goto 4, 3) := by decide +kernel
theorem dL_law_2946 : decode cL_law 2946 = .ok (.iconst 0, 1) := by decide +kernel
theorem dL_law_2947 : decode cL_law 2947 = .ok (.ior, 1) := by decide +kernel
theorem dL_law_2948 : decode cL_law 2948 = .ok (.iastore, 1) := by decide +kernel
theorem dL_law_2949 : decode cL_law 2949 = .ok (.iconst 0, 1) := by decide +kernel
theorem dL_law_2950 : decode cL_law 2950 = .ok (.istore 35, 2) := by decide +kernel
theorem dL_law_2952 : decode cL_law 2952 = .ok (.iload 35, 2) := by decide +kernel
theorem dL_law_2954 : decode cL_law 2954 = .ok (.iload 13, 2) := by decide +kernel
theorem dL_law_2956 : decode cL_law 2956 = .ok (.iconst 4, 1) := by decide +kernel
theorem dL_law_2957 : decode cL_law 2957 = .ok (.invokestatic 134, 3) := by decide +kernel
theorem dL_law_2960 : decode cL_law 2960 = .ok (.if_icmp .ge 209, 3) := by decide +kernel
theorem dL_law_2963 : decode cL_law 2963 = .ok (.iload 13, 2) := by decide +kernel
theorem dL_law_2965 : decode cL_law 2965 = .ok (.iload 35, 2) := by decide +kernel
theorem dL_law_2967 : decode cL_law 2967 = .ok (.iconst 4, 1) := by decide +kernel
theorem dL_law_2968 : decode cL_law 2968 = .ok (.iadd, 1) := by decide +kernel
theorem dL_law_2969 : decode cL_law 2969 = .ok (.ishr, 1) := by decide +kernel
theorem dL_law_2970 : decode cL_law 2970 = .ok (.iconst 1, 1) := by decide +kernel
theorem dL_law_2971 : decode cL_law 2971 = .ok (.iand, 1) := by decide +kernel
theorem dL_law_2972 : decode cL_law 2972 = .ok (.ifCond .ne 7, 3) := by decide +kernel
theorem dL_law_2975 : decode cL_law 2975 = .ok (.iconst 1, 1) := by decide +kernel
theorem dL_law_2976 : decode cL_law 2976 = .ok (.goto 4, 3) := by decide +kernel
theorem dL_law_2979 : decode cL_law 2979 = .ok (.iconst 0, 1) := by decide +kernel
theorem dL_law_2980 : decode cL_law 2980 = .ok (.istore 36, 2) := by decide +kernel
theorem dL_law_2982 : decode cL_law 2982 = .ok (.aload 5, 2) := by decide +kernel
theorem dL_law_2984 : decode cL_law 2984 = .ok (.iload 16, 2) := by decide +kernel
theorem dL_law_2986 : decode cL_law 2986 = .ok (.iaload, 1) := by decide +kernel
theorem dL_law_2987 : decode cL_law 2987 = .ok (.invokestatic 101, 3) := by decide +kernel
theorem dL_law_2990 : decode cL_law 2990 = .ok (.iconst 1, 1) := by decide +kernel
theorem dL_law_2991 : decode cL_law 2991 = .ok (.ishr, 1) := by decide +kernel
theorem dL_law_2992 : decode cL_law 2992 = .ok (.iconst 3, 1) := by decide +kernel
theorem dL_law_2993 : decode cL_law 2993 = .ok (.iand, 1) := by decide +kernel
theorem dL_law_2994 : decode cL_law 2994 = .ok (.istore 37, 2) := by decide +kernel
theorem dL_law_2996 : decode cL_law 2996 = .ok (.aload 5, 2) := by decide +kernel
theorem dL_law_2998 : decode cL_law 2998 = .ok (.iload 16, 2) := by decide +kernel
theorem dL_law_3000 : decode cL_law 3000 = .ok (.iaload, 1) := by decide +kernel
theorem dL_law_3001 : decode cL_law 3001 = .ok (.invokestatic 101, 3) := by decide +kernel
theorem dL_law_3004 : decode cL_law 3004 = .ok (.iconst 3, 1) := by decide +kernel
theorem dL_law_3005 : decode cL_law 3005 = .ok (.ishr, 1) := by decide +kernel
theorem dL_law_3006 : decode cL_law 3006 = .ok (.iconst 3, 1) := by decide +kernel
theorem dL_law_3007 : decode cL_law 3007 = .ok (.iand, 1) := by decide +kernel
theorem dL_law_3008 : decode cL_law 3008 = .ok (.istore 38, 2) := by decide +kernel
theorem dL_law_3010 : decode cL_law 3010 = .ok (.aload 5, 2) := by decide +kernel
theorem dL_law_3012 : decode cL_law 3012 = .ok (.iload 16, 2) := by decide +kernel
theorem dL_law_3014 : decode cL_law 3014 = .ok (.iaload, 1) := by decide +kernel
theorem dL_law_3015 : decode cL_law 3015 = .ok (.invokestatic 101, 3) := by decide +kernel
theorem dL_law_3018 : decode cL_law 3018 = .ok (.iconst 1, 1) := by decide +kernel
theorem dL_law_3019 : decode cL_law 3019 = .ok (.iand, 1) := by decide +kernel
theorem dL_law_3020 : decode cL_law 3020 = .ok (.iconst 1, 1) := by decide +kernel
theorem dL_law_3021 : decode cL_law 3021 = .ok (.if_icmp .ne 19, 3) := by decide +kernel
theorem dL_law_3024 : decode cL_law 3024 = .ok (.iload 37, 2) := by decide +kernel
theorem dL_law_3026 : decode cL_law 3026 = .ok (.iconst 2, 1) := by decide +kernel
theorem dL_law_3027 : decode cL_law 3027 = .ok (.if_icmp .ge 13, 3) := by decide +kernel
theorem dL_law_3030 : decode cL_law 3030 = .ok (.iload 38, 2) := by decide +kernel
theorem dL_law_3032 : decode cL_law 3032 = .ok (.iconst 2, 1) := by decide +kernel
theorem dL_law_3033 : decode cL_law 3033 = .ok (.if_icmp .ge 7, 3) := by decide +kernel
theorem dL_law_3036 : decode cL_law 3036 = .ok (.iconst 1, 1) := by decide +kernel
theorem dL_law_3037 : decode cL_law 3037 = .ok (.goto 4, 3) := by decide +kernel
theorem dL_law_3040 : decode cL_law 3040 = .ok (.iconst 0, 1) := by decide +kernel
theorem dL_law_3041 : decode cL_law 3041 = .ok (.istore 39, 2) := by decide +kernel
theorem dL_law_3043 : decode cL_law 3043 = .ok (.iload 39, 2) := by decide +kernel
theorem dL_law_3045 : decode cL_law 3045 = .ok (.ifCond .eq 25, 3) := by decide +kernel
theorem dL_law_3048 : decode cL_law 3048 = .ok (.aload 5, 2) := by decide +kernel
theorem dL_law_3050 : decode cL_law 3050 = .ok (.iload 16, 2) := by decide +kernel
theorem dL_law_3052 : decode cL_law 3052 = .ok (.dup2, 1) := by decide +kernel
theorem dL_law_3053 : decode cL_law 3053 = .ok (.iaload, 1) := by decide +kernel
theorem dL_law_3054 : decode cL_law 3054 = .ok (.iload 36, 2) := by decide +kernel
theorem dL_law_3056 : decode cL_law 3056 = .ok (.ifCond .eq 7, 3) := by decide +kernel
theorem dL_law_3059 : decode cL_law 3059 = .ok (.iconst 2, 1) := by decide +kernel
theorem dL_law_3060 : decode cL_law 3060 = .ok (.goto 5, 3) := by decide +kernel
theorem dL_law_3063 : decode cL_law 3063 = .ok (.bipush 8, 2) := by decide +kernel
theorem dL_law_3065 : decode cL_law 3065 = .ok (.bipush 13, 2) := by decide +kernel
theorem dL_law_3067 : decode cL_law 3067 = .ok (.ishl, 1) := by decide +kernel
theorem dL_law_3068 : decode cL_law 3068 = .ok (.iadd, 1) := by decide +kernel
theorem dL_law_3069 : decode cL_law 3069 = .ok (.iastore, 1) := by decide +kernel
theorem dL_law_3070 : decode cL_law 3070 = .ok (.iload 37, 2) := by decide +kernel
theorem dL_law_3072 : decode cL_law 3072 = .ok (.iload 39, 2) := by decide +kernel
theorem dL_law_3074 : decode cL_law 3074 = .ok (.ifCond .eq 12, 3) := by decide +kernel
theorem dL_law_3077 : decode cL_law 3077 = .ok (.iload 36, 2) := by decide +kernel
theorem dL_law_3079 : decode cL_law 3079 = .ok (.ifCond .eq 7, 3) := by decide +kernel
theorem dL_law_3082 : decode cL_law 3082 = .ok (.iconst 1, 1) := by decide +kernel
theorem dL_law_3083 : decode cL_law 3083 = .ok (.goto 4, 3) := by decide +kernel
theorem dL_law_3086 : decode cL_law 3086 = .ok (.iconst 0, 1) := by decide +kernel
theorem dL_law_3087 : decode cL_law 3087 = .ok (.iadd, 1) := by decide +kernel
theorem dL_law_3088 : decode cL_law 3088 = .ok (.istore 37, 2) := by decide +kernel
theorem dL_law_3090 : decode cL_law 3090 = .ok (.iload 38, 2) := by decide +kernel
theorem dL_law_3092 : decode cL_law 3092 = .ok (.iload 39, 2) := by decide +kernel
theorem dL_law_3094 : decode cL_law 3094 = .ok (.ifCond .eq 12, 3) := by decide +kernel
theorem dL_law_3097 : decode cL_law 3097 = .ok (.iload 36, 2) := by decide +kernel
theorem dL_law_3099 : decode cL_law 3099 = .ok (.ifCond .ne 7, 3) := by decide +kernel
theorem dL_law_3102 : decode cL_law 3102 = .ok (.iconst 1, 1) := by decide +kernel
theorem dL_law_3103 : decode cL_law 3103 = .ok (.goto 4, 3) := by decide +kernel
theorem dL_law_3106 : decode cL_law 3106 = .ok (.iconst 0, 1) := by decide +kernel
theorem dL_law_3107 : decode cL_law 3107 = .ok (.iadd, 1) := by decide +kernel
theorem dL_law_3108 : decode cL_law 3108 = .ok (.istore 38, 2) := by decide +kernel
theorem dL_law_3110 : decode cL_law 3110 = .ok (.iload 17, 2) := by decide +kernel
theorem dL_law_3112 : decode cL_law 3112 = .ok (.aload_n 1, 1) := by decide +kernel
theorem dL_law_3113 : decode cL_law 3113 = .ok (.iload 16, 2) := by decide +kernel
theorem dL_law_3115 : decode cL_law 3115 = .ok (.iload 36, 2) := by decide +kernel
theorem dL_law_3117 : decode cL_law 3117 = .ok (.invokestatic 197, 3) := by decide +kernel
theorem dL_law_3120 : decode cL_law 3120 = .ok (.iload 39, 2) := by decide +kernel
theorem dL_law_3122 : decode cL_law 3122 = .ok (.ifCond .ne 9, 3) := by decide +kernel
theorem dL_law_3125 : decode cL_law 3125 = .ok (.sipush (-7300), 3) := by decide +kernel
theorem dL_law_3128 : decode cL_law 3128 = .ok (.goto 24, 3) := by decide +kernel
theorem dL_law_3131 : decode cL_law 3131 = .ok (.iload 37, 2) := by decide +kernel
theorem dL_law_3133 : decode cL_law 3133 = .ok (.iconst 2, 1) := by decide +kernel
theorem dL_law_3134 : decode cL_law 3134 = .ok (.if_icmp .ne 7, 3) := by decide +kernel
theorem dL_law_3137 : decode cL_law 3137 = .ok (.iconst 1, 1) := by decide +kernel
theorem dL_law_3138 : decode cL_law 3138 = .ok (.goto 14, 3) := by decide +kernel
theorem dL_law_3141 : decode cL_law 3141 = .ok (.iload 38, 2) := by decide +kernel
theorem dL_law_3143 : decode cL_law 3143 = .ok (.iconst 2, 1) := by decide +kernel
theorem dL_law_3144 : decode cL_law 3144 = .ok (.if_icmp .ne 7, 3) := by decide +kernel
theorem dL_law_3147 : decode cL_law 3147 = .ok (.iconst 2, 1) := by decide +kernel
theorem dL_law_3148 : decode cL_law 3148 = .ok (.goto 4, 3) := by decide +kernel
theorem dL_law_3151 : decode cL_law 3151 = .ok (.iconst 0, 1) := by decide +kernel
theorem dL_law_3152 : decode cL_law 3152 = .ok (.if_icmp .ne 7, 3) := by decide +kernel
theorem dL_law_3155 : decode cL_law 3155 = .ok (.iconst 1, 1) := by decide +kernel
theorem dL_law_3156 : decode cL_law 3156 = .ok (.goto 4, 3) := by decide +kernel
theorem dL_law_3159 : decode cL_law 3159 = .ok (.iconst 0, 1) := by decide +kernel
theorem dL_law_3160 : decode cL_law 3160 = .ok (.iand, 1) := by decide +kernel
theorem dL_law_3161 : decode cL_law 3161 = .ok (.istore 17, 2) := by decide +kernel
theorem dL_law_3163 : decode cL_law 3163 = .ok (.iinc 35 1, 3) := by decide +kernel
theorem dL_law_3166 : decode cL_law 3166 = .ok (.goto (-214), 3) := by decide +kernel
theorem dL_law_3169 : decode cL_law 3169 = .ok (.goto 292, 3) := by decide +kernel
theorem dL_law_3172 : decode cL_law 3172 = .ok (.aload 10, 2) := by decide +kernel
theorem dL_law_3174 : decode cL_law 3174 = .ok (.bipush 8, 2) := by decide +kernel
theorem dL_law_3176 : decode cL_law 3176 = .ok (.iaload, 1) := by decide +kernel
theorem dL_law_3177 : decode cL_law 3177 = .ok (.ifCond .le 211, 3) := by decide +kernel
theorem dL_law_3180 : decode cL_law 3180 = .ok (.aload_n 2, 1) := by decide +kernel
theorem dL_law_3181 : decode cL_law 3181 = .ok (.iload 15, 2) := by decide +kernel
theorem dL_law_3183 : decode cL_law 3183 = .ok (.bipush 9, 2) := by decide +kernel
theorem dL_law_3185 : decode cL_law 3185 = .ok (.iadd, 1) := by decide +kernel
theorem dL_law_3186 : decode cL_law 3186 = .ok (.iaload, 1) := by decide +kernel
theorem dL_law_3187 : decode cL_law 3187 = .ok (.istore 35, 2) := by decide +kernel
theorem dL_law_3189 : decode cL_law 3189 = .ok (.iload 35, 2) := by decide +kernel
theorem dL_law_3191 : decode cL_law 3191 = .ok (.iconst (-1), 1) := by decide +kernel
theorem dL_law_3192 : decode cL_law 3192 = .ok (.if_icmp .eq 33, 3) := by decide +kernel
theorem dL_law_3195 : decode cL_law 3195 = .ok (.iload 14, 2) := by decide +kernel
theorem dL_law_3197 : decode cL_law 3197 = .ok (.aload_n 3, 1) := by decide +kernel
theorem dL_law_3198 : decode cL_law 3198 = .ok (.aload 10, 2) := by decide +kernel
theorem dL_law_3200 : decode cL_law 3200 = .ok (.invokestatic 130, 3) := by decide +kernel
theorem dL_law_3203 : decode cL_law 3203 = .ok (.ifCond .ne 22, 3) := by decide +kernel
theorem dL_law_3206 : decode cL_law 3206 = .ok (.iload 35, 2) := by decide +kernel
theorem dL_law_3208 : decode cL_law 3208 = .ok (.iconst 0, 1) := by decide +kernel
theorem dL_law_3209 : decode cL_law 3209 = .ok (.aload 5, 2) := by decide +kernel
theorem dL_law_3211 : decode cL_law 3211 = .ok (.aload 8, 2) := by decide +kernel
theorem dL_law_3213 : decode cL_law 3213 = .ok (.aload 9, 2) := by decide +kernel
theorem dL_law_3215 : decode cL_law 3215 = .ok (.invokestatic 153, 3) := by decide +kernel
theorem dL_law_3218 : decode cL_law 3218 = .ok (.ifCond .ne 7, 3) := by decide +kernel
theorem dL_law_3221 : decode cL_law 3221 = .ok (.iconst 1, 1) := by decide +kernel
theorem dL_law_3222 : decode cL_law 3222 = .ok (.goto 4, 3) := by decide +kernel
theorem dL_law_3225 : decode cL_law 3225 = .ok (.iconst 0, 1) := by decide +kernel
theorem dL_law_3226 : decode cL_law 3226 = .ok (.istore 36, 2) := by decide +kernel
theorem dL_law_3228 : decode cL_law 3228 = .ok (.iload 36, 2) := by decide +kernel
theorem dL_law_3230 : decode cL_law 3230 = .ok (.ifCond .eq 19, 3) := by decide +kernel
theorem dL_law_3233 : decode cL_law 3233 = .ok (.bipush 100, 2) := by decide +kernel
theorem dL_law_3235 : decode cL_law 3235 = .ok (.aload 10, 2) := by decide +kernel
theorem dL_law_3237 : decode cL_law 3237 = .ok (.iconst 0, 1) := by decide +kernel
theorem dL_law_3238 : decode cL_law 3238 = .ok (.iaload, 1) := by decide +kernel
theorem dL_law_3239 : decode cL_law 3239 = .ok (.aload 7, 2) := by decide +kernel
theorem dL_law_3241 : decode cL_law 3241 = .ok (.iload 35, 2) := by decide +kernel
theorem dL_law_3243 : decode cL_law 3243 = .ok (.iaload, 1) := by decide +kernel
theorem dL_law_3244 : decode cL_law 3244 = .ok (.isub, 1) := by decide +kernel
theorem dL_law_3245 : decode cL_law 3245 = .ok (.imul, 1) := by decide +kernel
theorem dL_law_3246 : decode cL_law 3246 = .ok (.goto 4, 3) := by decide +kernel
theorem dL_law_3249 : decode cL_law 3249 = .ok (.iconst 0, 1) := by decide +kernel
theorem dL_law_3250 : decode cL_law 3250 = .ok (.istore 37, 2) := by decide +kernel
theorem dL_law_3252 : decode cL_law 3252 = .ok (.aload_n 1, 1) := by decide +kernel
theorem dL_law_3253 : decode cL_law 3253 = .ok (.iload 14, 2) := by decide +kernel
theorem dL_law_3255 : decode cL_law 3255 = .ok (.invokestatic 199, 3) := by decide +kernel
theorem dL_law_3258 : decode cL_law 3258 = .ok (.iload 36, 2) := by decide +kernel
theorem dL_law_3260 : decode cL_law 3260 = .ok (.ifCond .eq 8, 3) := by decide +kernel
theorem dL_law_3263 : decode cL_law 3263 = .ok (.iload 37, 2) := by decide +kernel
theorem dL_law_3265 : decode cL_law 3265 = .ok (.goto 6, 3) := by decide +kernel
theorem dL_law_3268 : decode cL_law 3268 = .ok (.sipush (-7300), 3) := by decide +kernel
theorem dL_law_3271 : decode cL_law 3271 = .ok (.if_icmp .ne 7, 3) := by decide +kernel
theorem dL_law_3274 : decode cL_law 3274 = .ok (.iconst 1, 1) := by decide +kernel
theorem dL_law_3275 : decode cL_law 3275 = .ok (.goto 4, 3) := by decide +kernel
theorem dL_law_3278 : decode cL_law 3278 = .ok (.iconst 0, 1) := by decide +kernel
theorem dL_law_3279 : decode cL_law 3279 = .ok (.istore 17, 2) := by decide +kernel
theorem dL_law_3281 : decode cL_law 3281 = .ok (.iload 36, 2) := by decide +kernel
theorem dL_law_3283 : decode cL_law 3283 = .ok (.ifCond .eq 105, 3) := by decide +kernel
theorem dL_law_3286 : decode cL_law 3286 = .ok (.aload_n 2, 1) := by decide +kernel
theorem dL_law_3287 : decode cL_law 3287 = .ok (.iload 15, 2) := by decide +kernel
theorem dL_law_3289 : decode cL_law 3289 = .ok (.bipush 9, 2) := by decide +kernel
theorem dL_law_3291 : decode cL_law 3291 = .ok (.iadd, 1) := by decide +kernel
theorem dL_law_3292 : decode cL_law 3292 = .ok (.iconst (-1), 1) := by decide +kernel
theorem dL_law_3293 : decode cL_law 3293 = .ok (.iastore, 1) := by decide +kernel
theorem dL_law_3294 : decode cL_law 3294 = .ok (.aload_n 2, 1) := by decide +kernel
theorem dL_law_3295 : decode cL_law 3295 = .ok (.iload 15, 2) := by decide +kernel
theorem dL_law_3297 : decode cL_law 3297 = .ok (.bipush 13, 2) := by decide +kernel
theorem dL_law_3299 : decode cL_law 3299 = .ok (.iadd, 1) := by decide +kernel
theorem dL_law_3300 : decode cL_law 3300 = .ok (.dup2, 1) := by decide +kernel
theorem dL_law_3301 : decode cL_law 3301 = .ok (.iaload, 1) := by decide +kernel
theorem dL_law_3302 : decode cL_law 3302 = .ok (.iload 37, 2) := by decide +kernel
theorem dL_law_3304 : decode cL_law 3304 = .ok (.iadd, 1) := by decide +kernel
theorem dL_law_3305 : decode cL_law 3305 = .ok (.iastore, 1) := by decide +kernel
theorem dL_law_3306 : decode cL_law 3306 = .ok (.aload_n 2, 1) := by decide +kernel
theorem dL_law_3307 : decode cL_law 3307 = .ok (.iload 15, 2) := by decide +kernel
theorem dL_law_3309 : decode cL_law 3309 = .ok (.bipush 10, 2) := by decide +kernel
theorem dL_law_3311 : decode cL_law 3311 = .ok (.iadd, 1) := by decide +kernel
theorem dL_law_3312 : decode cL_law 3312 = .ok (.iaload, 1) := by decide +kernel
theorem dL_law_3313 : decode cL_law 3313 = .ok (.iconst 1, 1) := by decide +kernel
theorem dL_law_3314 : decode cL_law 3314 = .ok (.if_icmp .ne 74, 3) := by decide +kernel
theorem dL_law_3317 : decode cL_law 3317 = .ok (.aload_n 2, 1) := by decide +kernel
theorem dL_law_3318 : decode cL_law 3318 = .ok (.iload 15, 2) := by decide +kernel
theorem dL_law_3320 : decode cL_law 3320 = .ok (.bipush 11, 2) := by decide +kernel
theorem dL_law_3322 : decode cL_law 3322 = .ok (.iadd, 1) := by decide +kernel
theorem dL_law_3323 : decode cL_law 3323 = .ok (.dup2, 1) := by decide +kernel
theorem dL_law_3324 : decode cL_law 3324 = .ok (.iaload, 1) := by decide +kernel
theorem dL_law_3325 : decode cL_law 3325 = .ok (.iconst 1, 1) := by decide +kernel
theorem dL_law_3326 : decode cL_law 3326 = .ok (.iadd, 1) := by decide +kernel
theorem dL_law_3327 : decode cL_law 3327 = .ok (.iastore, 1) := by decide +kernel
theorem dL_law_3328 : decode cL_law 3328 = .ok (.aload_n 2, 1) := by decide +kernel
theorem dL_law_3329 : decode cL_law 3329 = .ok (.iload 15, 2) := by decide +kernel
theorem dL_law_3331 : decode cL_law 3331 = .ok (.bipush 12, 2) := by decide +kernel
theorem dL_law_3333 : decode cL_law 3333 = .ok (.iadd, 1) := by decide +kernel
theorem dL_law_3334 : decode cL_law 3334 = .ok (.aload_n 2, 1) := by decide +kernel
theorem dL_law_3335 : decode cL_law 3335 = .ok (.iload 15, 2) := by decide +kernel
theorem dL_law_3337 : decode cL_law 3337 = .ok (.bipush 11, 2) := by decide +kernel
theorem dL_law_3339 : decode cL_law 3339 = .ok (.iadd, 1) := by decide +kernel
theorem dL_law_3340 : decode cL_law 3340 = .ok (.iaload, 1) := by decide +kernel
theorem dL_law_3341 : decode cL_law 3341 = .ok (.iconst 1, 1) := by decide +kernel
theorem dL_law_3342 : decode cL_law 3342 = .ok (.if_icmp .ne 13, 3) := by decide +kernel
theorem dL_law_3345 : decode cL_law 3345 = .ok (.aload 10, 2) := by decide +kernel
theorem dL_law_3347 : decode cL_law 3347 = .ok (.iconst 0, 1) := by decide +kernel
theorem dL_law_3348 : decode cL_law 3348 = .ok (.iaload, 1) := by decide +kernel
theorem dL_law_3349 : decode cL_law 3349 = .ok (.bipush 90, 2) := by decide +kernel
theorem dL_law_3351 : decode cL_law 3351 = .ok (.iadd, 1) := by decide +kernel
theorem dL_law_3352 : decode cL_law 3352 = .ok (.goto 27, 3) := by decide +kernel
theorem dL_law_3355 : decode cL_law 3355 = .ok (.aload_n 2, 1) := by decide +kernel
theorem dL_law_3356 : decode cL_law 3356 = .ok (.iload 15, 2) := by decide +kernel
theorem dL_law_3358 : decode cL_law 3358 = .ok (.bipush 11, 2) := by decide +kernel
theorem dL_law_3360 : decode cL_law 3360 = .ok (.iadd, 1) := by decide +kernel
theorem dL_law_3361 : decode cL_law 3361 = .ok (.iaload, 1) := by decide +kernel
theorem dL_law_3362 : decode cL_law 3362 = .ok (.iconst 2, 1) := by decide +kernel
theorem dL_law_3363 : decode cL_law 3363 = .ok (.if_icmp .ne 14, 3) := by decide +kernel
theorem dL_law_3366 : decode cL_law 3366 = .ok (.aload 10, 2) := by decide +kernel
theorem dL_law_3368 : decode cL_law 3368 = .ok (.iconst 0, 1) := by decide +kernel
theorem dL_law_3369 : decode cL_law 3369 = .ok (.iaload, 1) := by decide +kernel
theorem dL_law_3370 : decode cL_law 3370 = .ok (.sipush 360, 3) := by decide +kernel
theorem dL_law_3373 : decode cL_law 3373 = .ok (.iadd, 1) := by decide +kernel
theorem dL_law_3374 : decode cL_law 3374 = .ok (.goto 5, 3) := by decide +kernel
theorem dL_law_3377 : decode cL_law 3377 = .ok (.ldc 201, 2) := by decide +kernel
theorem dL_law_3379 : decode cL_law 3379 = .ok (.iastore, 1) := by decide +kernel
theorem dL_law_3380 : decode cL_law 3380 = .ok (.aload_n 2, 1) := by decide +kernel
theorem dL_law_3381 : decode cL_law 3381 = .ok (.iload 15, 2) := by decide +kernel
theorem dL_law_3383 : decode cL_law 3383 = .ok (.bipush 10, 2) := by decide +kernel
theorem dL_law_3385 : decode cL_law 3385 = .ok (.iadd, 1) := by decide +kernel
theorem dL_law_3386 : decode cL_law 3386 = .ok (.iconst 0, 1) := by decide +kernel
theorem dL_law_3387 : decode cL_law 3387 = .ok (.iastore, 1) := by decide +kernel
theorem dL_law_3388 : decode cL_law 3388 = .ok (.iconst 1, 1) := by decide +kernel
theorem dL_law_3389 : decode cL_law 3389 = .ok (.iload 13, 2) := by decide +kernel
theorem dL_law_3391 : decode cL_law 3391 = .ok (.iload 13, 2) := by decide +kernel
theorem dL_law_3393 : decode cL_law 3393 = .ok (.ldc 174, 2) := by decide +kernel
theorem dL_law_3395 : decode cL_law 3395 = .ok (.iand, 1) := by decide +kernel
theorem dL_law_3396 : decode cL_law 3396 = .ok (.ifCond .ne 9, 3) := by decide +kernel
theorem dL_law_3399 : decode cL_law 3399 = .ok (.sipush 300, 3) := by decide +kernel
theorem dL_law_3402 : decode cL_law 3402 = .ok (.goto 5, 3) := by decide +kernel
theorem dL_law_3405 : decode cL_law 3405 = .ok (.bipush 20, 2) := by decide +kernel
theorem dL_law_3407 : decode cL_law 3407 = .ok (.invokestatic 134, 3) := by decide +kernel
theorem dL_law_3410 : decode cL_law 3410 = .ok (.iadd, 1) := by decide +kernel
theorem dL_law_3411 : decode cL_law 3411 = .ok (.istore 35, 2) := by decide +kernel
theorem dL_law_3413 : decode cL_law 3413 = .ok (.aload 10, 2) := by decide +kernel
theorem dL_law_3415 : decode cL_law 3415 = .ok (.iconst 0, 1) := by decide +kernel
theorem dL_law_3416 : decode cL_law 3416 = .ok (.iaload, 1) := by decide +kernel
theorem dL_law_3417 : decode cL_law 3417 = .ok (.iload 35, 2) := by decide +kernel
theorem dL_law_3419 : decode cL_law 3419 = .ok (.iadd, 1) := by decide +kernel
theorem dL_law_3420 : decode cL_law 3420 = .ok (.sipush 9000, 3) := by decide +kernel
theorem dL_law_3423 : decode cL_law 3423 = .ok (.if_icmp .le 6, 3) := by decide +kernel
theorem dL_law_3426 : decode cL_law 3426 = .ok (.goto 35, 3) := by decide +kernel
theorem dL_law_3429 : decode cL_law 3429 = .ok (.aload 10, 2) := by decide +kernel
theorem dL_law_3431 : decode cL_law 3431 = .ok (.iconst 0, 1) := by decide +kernel
theorem dL_law_3432 : decode cL_law 3432 = .ok (.dup2, 1) := by decide +kernel
theorem dL_law_3433 : decode cL_law 3433 = .ok (.iaload, 1) := by decide +kernel
theorem dL_law_3434 : decode cL_law 3434 = .ok (.iload 35, 2) := by decide +kernel
theorem dL_law_3436 : decode cL_law 3436 = .ok (.iadd, 1) := by decide +kernel
theorem dL_law_3437 : decode cL_law 3437 = .ok (.iastore, 1) := by decide +kernel
theorem dL_law_3438 : decode cL_law 3438 = .ok (.iload 17, 2) := by decide +kernel
theorem dL_law_3440 : decode cL_law 3440 = .ok (.aload_n 1, 1) := by decide +kernel
theorem dL_law_3441 : decode cL_law 3441 = .ok (.iload 35, 2) := by decide +kernel
theorem dL_law_3443 : decode cL_law 3443 = .ok (.invokestatic 202, 3) := by decide +kernel
theorem dL_law_3446 : decode cL_law 3446 = .ok (.aload 10, 2) := by decide +kernel
theorem dL_law_3448 : decode cL_law 3448 = .ok (.iconst 0, 1) := by decide +kernel
theorem dL_law_3449 : decode cL_law 3449 = .ok (.iaload, 1) := by decide +kernel
theorem dL_law_3450 : decode cL_law 3450 = .ok (.if_icmp .ne 7, 3) := by decide +kernel
theorem dL_law_3453 : decode cL_law 3453 = .ok (.iconst 1, 1) := by decide +kernel
theorem dL_law_3454 : decode cL_law 3454 = .ok (.goto 4, 3) := by decide +kernel
theorem dL_law_3457 : decode cL_law 3457 = .ok (.iconst 0, 1) := by decide +kernel
theorem dL_law_3458 : decode cL_law 3458 = .ok (.iand, 1) := by decide +kernel
theorem dL_law_3459 : decode cL_law 3459 = .ok (.istore 17, 2) := by decide +kernel
theorem dL_law_3461 : decode cL_law 3461 = .ok (.iload 17, 2) := by decide +kernel
theorem dL_law_3463 : decode cL_law 3463 = .ok (.ifCond .eq 28, 3) := by decide +kernel
theorem dL_law_3466 : decode cL_law 3466 = .ok (.aload_n 1, 1) := by decide +kernel
theorem dL_law_3467 : decode cL_law 3467 = .ok (.iload 13, 2) := by decide +kernel
theorem dL_law_3469 : decode cL_law 3469 = .ok (.aload_n 2, 1) := by decide +kernel
theorem dL_law_3470 : decode cL_law 3470 = .ok (.aload_n 3, 1) := by decide +kernel
theorem dL_law_3471 : decode cL_law 3471 = .ok (.aload 4, 2) := by decide +kernel
theorem dL_law_3473 : decode cL_law 3473 = .ok (.aload 5, 2) := by decide +kernel
theorem dL_law_3475 : decode cL_law 3475 = .ok (.aload 6, 2) := by decide +kernel
theorem dL_law_3477 : decode cL_law 3477 = .ok (.aload 7, 2) := by decide +kernel
theorem dL_law_3479 : decode cL_law 3479 = .ok (.aload 8, 2) := by decide +kernel
theorem dL_law_3481 : decode cL_law 3481 = .ok (.aload 9, 2) := by decide +kernel
theorem dL_law_3483 : decode cL_law 3483 = .ok (.aload 10, 2) := by decide +kernel
theorem dL_law_3485 : decode cL_law 3485 = .ok (.invokestatic 204, 3) := by decide +kernel
theorem dL_law_3488 : decode cL_law 3488 = .ok (.ifCond .ne 5, 3) := by decide +kernel
theorem dL_law_3491 : decode cL_law 3491 = .ok (.iconst 0, 1) := by decide +kernel
theorem dL_law_3492 : decode cL_law 3492 = .ok (.ireturn, 1) := by decide +kernel
theorem dL_law_3493 : decode cL_law 3493 = .ok (.iinc 11 1, 3) := by decide +kernel
theorem dL_law_3496 : decode cL_law 3496 = .ok (.goto (-3410), 3) := by decide +kernel
theorem dL_law_3499 : decode cL_law 3499 = .ok (.aload_n 1, 1) := by decide +kernel
theorem dL_law_3500 : decode cL_law 3500 = .ok (.iconst 4, 1) := by decide +kernel
theorem dL_law_3501 : decode cL_law 3501 = .ok (.iconst 4, 1) := by decide +kernel
theorem dL_law_3502 : decode cL_law 3502 = .ok (.invokestatic 179, 3) := by decide +kernel
theorem dL_law_3505 : decode cL_law 3505 = .ok (.sipush (-7100), 3) := by decide +kernel
theorem dL_law_3508 : decode cL_law 3508 = .ok (.if_icmp .ne 20, 3) := by decide +kernel
theorem dL_law_3511 : decode cL_law 3511 = .ok (.aload_n 1, 1) := by decide +kernel
theorem dL_law_3512 : decode cL_law 3512 = .ok (.iconst 4, 1) := by decide +kernel
theorem dL_law_3513 : decode cL_law 3513 = .ok (.iconst 0, 1) := by decide +kernel
theorem dL_law_3514 : decode cL_law 3514 = .ok (.iconst 1, 1) := by decide +kernel
theorem dL_law_3515 : decode cL_law 3515 = .ok (.invokestatic 175, 3) := by decide +kernel
theorem dL_law_3518 : decode cL_law 3518 = .ok (.sipush (-7100), 3) := by decide +kernel
theorem dL_law_3521 : decode cL_law 3521 = .ok (.if_icmp .ne 7, 3) := by decide +kernel
theorem dL_law_3524 : decode cL_law 3524 = .ok (.iconst 1, 1) := by decide +kernel
theorem dL_law_3525 : decode cL_law 3525 = .ok (.goto 4, 3) := by decide +kernel
theorem dL_law_3528 : decode cL_law 3528 = .ok (.iconst 0, 1) := by decide +kernel
theorem dL_law_3529 : decode cL_law 3529 = .ok (.ireturn, 1) := by decide +kernel

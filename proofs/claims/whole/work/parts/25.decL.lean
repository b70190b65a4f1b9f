theorem d_L_paper_0 : decode cL_paper 0 = .ok (.aload_n 3, 1) := by decide +kernel
theorem d_L_paper_1 : decode cL_paper 1 = .ok (.iconst 0, 1) := by decide +kernel
theorem d_L_paper_2 : decode cL_paper 2 = .ok (.aload_n 0, 1) := by decide +kernel
theorem d_L_paper_3 : decode cL_paper 3 = .ok (.iload_n 1, 1) := by decide +kernel
theorem d_L_paper_4 : decode cL_paper 4 = .ok (.iload_n 2, 1) := by decide +kernel
theorem d_L_paper_5 : decode cL_paper 5 = .ok (.invokevirtual 7, 3) := by decide +kernel
theorem d_L_paper_8 : decode cL_paper 8 = .ok (.i2l, 1) := by decide +kernel
theorem d_L_paper_9 : decode cL_paper 9 = .ok (.lastore, 1) := by decide +kernel
theorem d_L_paper_10 : decode cL_paper 10 = .ok (.goto 11, 3) := by decide +kernel
theorem d_L_paper_13 : decode cL_paper 13 = .ok (.astore 4, 2) := by decide +kernel
theorem d_L_paper_15 : decode cL_paper 15 = .ok (.iconst 1, 1) := by decide +kernel
theorem d_L_paper_16 : decode cL_paper 16 = .ok (.ireturn, 1) := by decide +kernel
theorem d_L_paper_17 : decode cL_paper 17 = .ok (.astore 4, 2) := by decide +kernel
theorem d_L_paper_19 : decode cL_paper 19 = .ok (.iconst 2, 1) := by decide +kernel
theorem d_L_paper_20 : decode cL_paper 20 = .ok (.ireturn, 1) := by decide +kernel
theorem d_L_paper_21 : decode cL_paper 21 = .ok (.iconst 0, 1) := by decide +kernel
theorem d_L_paper_22 : decode cL_paper 22 = .ok (.ireturn, 1) := by decide +kernel
theorem d_L_session_0 : decode cL_session 0 = .ok (.aload_n 3, 1) := by decide +kernel
theorem d_L_session_1 : decode cL_session 1 = .ok (.iconst 0, 1) := by decide +kernel
theorem d_L_session_2 : decode cL_session 2 = .ok (.aload_n 0, 1) := by decide +kernel
theorem d_L_session_3 : decode cL_session 3 = .ok (.iload_n 1, 1) := by decide +kernel
theorem d_L_session_4 : decode cL_session 4 = .ok (.iload_n 2, 1) := by decide +kernel
theorem d_L_session_5 : decode cL_session 5 = .ok (.invokevirtual 17, 3) := by decide +kernel
theorem d_L_session_8 : decode cL_session 8 = .ok (.i2l, 1) := by decide +kernel
theorem d_L_session_9 : decode cL_session 9 = .ok (.lastore, 1) := by decide +kernel
theorem d_L_session_10 : decode cL_session 10 = .ok (.goto 11, 3) := by decide +kernel
theorem d_L_session_13 : decode cL_session 13 = .ok (.astore 4, 2) := by decide +kernel
theorem d_L_session_15 : decode cL_session 15 = .ok (.iconst 1, 1) := by decide +kernel
theorem d_L_session_16 : decode cL_session 16 = .ok (.ireturn, 1) := by decide +kernel
theorem d_L_session_17 : decode cL_session 17 = .ok (.astore 4, 2) := by decide +kernel
theorem d_L_session_19 : decode cL_session 19 = .ok (.iconst 2, 1) := by decide +kernel
theorem d_L_session_20 : decode cL_session 20 = .ok (.ireturn, 1) := by decide +kernel
theorem d_L_session_21 : decode cL_session 21 = .ok (.iconst 0, 1) := by decide +kernel
theorem d_L_session_22 : decode cL_session 22 = .ok (.ireturn, 1) := by decide +kernel
theorem d_L_enrol_0 : decode cL_enrol 0 = .ok (.aload 4, 2) := by decide +kernel
theorem d_L_enrol_2 : decode cL_enrol 2 = .ok (.iconst 0, 1) := by decide +kernel
theorem d_L_enrol_3 : decode cL_enrol 3 = .ok (.aload_n 0, 1) := by decide +kernel
theorem d_L_enrol_4 : decode cL_enrol 4 = .ok (.iload_n 1, 1) := by decide +kernel
theorem d_L_enrol_5 : decode cL_enrol 5 = .ok (.iload_n 2, 1) := by decide +kernel
theorem d_L_enrol_6 : decode cL_enrol 6 = .ok (.iload_n 3, 1) := by decide +kernel
theorem d_L_enrol_7 : decode cL_enrol 7 = .ok (.invokevirtual 20, 3) := by decide +kernel
theorem d_L_enrol_10 : decode cL_enrol 10 = .ok (.ifCond .eq 7, 3) := by decide +kernel
theorem d_L_enrol_13 : decode cL_enrol 13 = .ok (.lconst 1, 1) := by decide +kernel
theorem d_L_enrol_14 : decode cL_enrol 14 = .ok (.goto 4, 3) := by decide +kernel
theorem d_L_enrol_17 : decode cL_enrol 17 = .ok (.lconst 0, 1) := by decide +kernel
theorem d_L_enrol_18 : decode cL_enrol 18 = .ok (.lastore, 1) := by decide +kernel
theorem d_L_enrol_19 : decode cL_enrol 19 = .ok (.goto 7, 3) := by decide +kernel
theorem d_L_enrol_22 : decode cL_enrol 22 = .ok (.astore 5, 2) := by decide +kernel
theorem d_L_enrol_24 : decode cL_enrol 24 = .ok (.iconst 1, 1) := by decide +kernel
theorem d_L_enrol_25 : decode cL_enrol 25 = .ok (.ireturn, 1) := by decide +kernel
theorem d_L_enrol_26 : decode cL_enrol 26 = .ok (.iconst 0, 1) := by decide +kernel
theorem d_L_enrol_27 : decode cL_enrol 27 = .ok (.ireturn, 1) := by decide +kernel
theorem d_L_extra_0 : decode cL_extra 0 = .ok (.aload_n 3, 1) := by decide +kernel
theorem d_L_extra_1 : decode cL_extra 1 = .ok (.iconst 0, 1) := by decide +kernel
theorem d_L_extra_2 : decode cL_extra 2 = .ok (.aload_n 0, 1) := by decide +kernel
theorem d_L_extra_3 : decode cL_extra 3 = .ok (.iload_n 1, 1) := by decide +kernel
theorem d_L_extra_4 : decode cL_extra 4 = .ok (.iload_n 2, 1) := by decide +kernel
theorem d_L_extra_5 : decode cL_extra 5 = .ok (.invokevirtual 24, 3) := by decide +kernel
theorem d_L_extra_8 : decode cL_extra 8 = .ok (.ifCond .eq 7, 3) := by decide +kernel
theorem d_L_extra_11 : decode cL_extra 11 = .ok (.lconst 1, 1) := by decide +kernel
theorem d_L_extra_12 : decode cL_extra 12 = .ok (.goto 4, 3) := by decide +kernel
theorem d_L_extra_15 : decode cL_extra 15 = .ok (.lconst 0, 1) := by decide +kernel
theorem d_L_extra_16 : decode cL_extra 16 = .ok (.lastore, 1) := by decide +kernel
theorem d_L_extra_17 : decode cL_extra 17 = .ok (.goto 7, 3) := by decide +kernel
theorem d_L_extra_20 : decode cL_extra 20 = .ok (.astore 4, 2) := by decide +kernel
theorem d_L_extra_22 : decode cL_extra 22 = .ok (.iconst 1, 1) := by decide +kernel
theorem d_L_extra_23 : decode cL_extra 23 = .ok (.ireturn, 1) := by decide +kernel
theorem d_L_extra_24 : decode cL_extra 24 = .ok (.iconst 0, 1) := by decide +kernel
theorem d_L_extra_25 : decode cL_extra 25 = .ok (.ireturn, 1) := by decide +kernel
theorem d_L_rule_0 : decode cL_rule 0 = .ok (.aload 5, 2) := by decide +kernel
theorem d_L_rule_2 : decode cL_rule 2 = .ok (.iconst 0, 1) := by decide +kernel
theorem d_L_rule_3 : decode cL_rule 3 = .ok (.aload_n 0, 1) := by decide +kernel
theorem d_L_rule_4 : decode cL_rule 4 = .ok (.iload_n 1, 1) := by decide +kernel
theorem d_L_rule_5 : decode cL_rule 5 = .ok (.iload_n 2, 1) := by decide +kernel
theorem d_L_rule_6 : decode cL_rule 6 = .ok (.iload_n 3, 1) := by decide +kernel
theorem d_L_rule_7 : decode cL_rule 7 = .ok (.iload 4, 2) := by decide +kernel
theorem d_L_rule_9 : decode cL_rule 9 = .ok (.invokevirtual 28, 3) := by decide +kernel
theorem d_L_rule_12 : decode cL_rule 12 = .ok (.ifCond .eq 7, 3) := by decide +kernel
theorem d_L_rule_15 : decode cL_rule 15 = .ok (.lconst 1, 1) := by decide +kernel
theorem d_L_rule_16 : decode cL_rule 16 = .ok (.goto 4, 3) := by decide +kernel
theorem d_L_rule_19 : decode cL_rule 19 = .ok (.lconst 0, 1) := by decide +kernel
theorem d_L_rule_20 : decode cL_rule 20 = .ok (.lastore, 1) := by decide +kernel
theorem d_L_rule_21 : decode cL_rule 21 = .ok (.goto 11, 3) := by decide +kernel
theorem d_L_rule_24 : decode cL_rule 24 = .ok (.astore 6, 2) := by decide +kernel
theorem d_L_rule_26 : decode cL_rule 26 = .ok (.iconst 1, 1) := by decide +kernel
theorem d_L_rule_27 : decode cL_rule 27 = .ok (.ireturn, 1) := by decide +kernel
theorem d_L_rule_28 : decode cL_rule 28 = .ok (.astore 6, 2) := by decide +kernel
theorem d_L_rule_30 : decode cL_rule 30 = .ok (.iconst 2, 1) := by decide +kernel
theorem d_L_rule_31 : decode cL_rule 31 = .ok (.ireturn, 1) := by decide +kernel
theorem d_L_rule_32 : decode cL_rule 32 = .ok (.iconst 0, 1) := by decide +kernel
theorem d_L_rule_33 : decode cL_rule 33 = .ok (.ireturn, 1) := by decide +kernel
theorem d_L_fix_0 : decode cL_fix 0 = .ok (.aload_n 3, 1) := by decide +kernel
theorem d_L_fix_1 : decode cL_fix 1 = .ok (.iconst 0, 1) := by decide +kernel
theorem d_L_fix_2 : decode cL_fix 2 = .ok (.aload_n 0, 1) := by decide +kernel
theorem d_L_fix_3 : decode cL_fix 3 = .ok (.iload_n 1, 1) := by decide +kernel
theorem d_L_fix_4 : decode cL_fix 4 = .ok (.iload_n 2, 1) := by decide +kernel
theorem d_L_fix_5 : decode cL_fix 5 = .ok (.invokevirtual 32, 3) := by decide +kernel
theorem d_L_fix_8 : decode cL_fix 8 = .ok (.i2l, 1) := by decide +kernel
theorem d_L_fix_9 : decode cL_fix 9 = .ok (.lastore, 1) := by decide +kernel
theorem d_L_fix_10 : decode cL_fix 10 = .ok (.goto 7, 3) := by decide +kernel
theorem d_L_fix_13 : decode cL_fix 13 = .ok (.astore 4, 2) := by decide +kernel
theorem d_L_fix_15 : decode cL_fix 15 = .ok (.iconst 1, 1) := by decide +kernel
theorem d_L_fix_16 : decode cL_fix 16 = .ok (.ireturn, 1) := by decide +kernel
theorem d_L_fix_17 : decode cL_fix 17 = .ok (.iconst 0, 1) := by decide +kernel
theorem d_L_fix_18 : decode cL_fix 18 = .ok (.ireturn, 1) := by decide +kernel
theorem d_L_clash_0 : decode cL_clash 0 = .ok (.aload_n 3, 1) := by decide +kernel
theorem d_L_clash_1 : decode cL_clash 1 = .ok (.iconst 0, 1) := by decide +kernel
theorem d_L_clash_2 : decode cL_clash 2 = .ok (.aload_n 0, 1) := by decide +kernel
theorem d_L_clash_3 : decode cL_clash 3 = .ok (.iload_n 1, 1) := by decide +kernel
theorem d_L_clash_4 : decode cL_clash 4 = .ok (.iload_n 2, 1) := by decide +kernel
theorem d_L_clash_5 : decode cL_clash 5 = .ok (.invokevirtual 35, 3) := by decide +kernel
theorem d_L_clash_8 : decode cL_clash 8 = .ok (.i2l, 1) := by decide +kernel
theorem d_L_clash_9 : decode cL_clash 9 = .ok (.lastore, 1) := by decide +kernel
theorem d_L_clash_10 : decode cL_clash 10 = .ok (.goto 7, 3) := by decide +kernel
theorem d_L_clash_13 : decode cL_clash 13 = .ok (.astore 4, 2) := by decide +kernel
theorem d_L_clash_15 : decode cL_clash 15 = .ok (.iconst 1, 1) := by decide +kernel
theorem d_L_clash_16 : decode cL_clash 16 = .ok (.ireturn, 1) := by decide +kernel
theorem d_L_clash_17 : decode cL_clash 17 = .ok (.iconst 0, 1) := by decide +kernel
theorem d_L_clash_18 : decode cL_clash 18 = .ok (.ireturn, 1) := by decide +kernel
theorem d_L_planned_0 : decode cL_planned 0 = .ok (.aload_n 2, 1) := by decide +kernel
theorem d_L_planned_1 : decode cL_planned 1 = .ok (.iconst 0, 1) := by decide +kernel
theorem d_L_planned_2 : decode cL_planned 2 = .ok (.aload_n 0, 1) := by decide +kernel
theorem d_L_planned_3 : decode cL_planned 3 = .ok (.iload_n 1, 1) := by decide +kernel
theorem d_L_planned_4 : decode cL_planned 4 = .ok (.invokevirtual 38, 3) := by decide +kernel
theorem d_L_planned_7 : decode cL_planned 7 = .ok (.i2l, 1) := by decide +kernel
theorem d_L_planned_8 : decode cL_planned 8 = .ok (.lastore, 1) := by decide +kernel
theorem d_L_planned_9 : decode cL_planned 9 = .ok (.goto 6, 3) := by decide +kernel
theorem d_L_planned_12 : decode cL_planned 12 = .ok (.astore_n 3, 1) := by decide +kernel
theorem d_L_planned_13 : decode cL_planned 13 = .ok (.iconst 1, 1) := by decide +kernel
theorem d_L_planned_14 : decode cL_planned 14 = .ok (.ireturn, 1) := by decide +kernel
theorem d_L_planned_15 : decode cL_planned 15 = .ok (.iconst 0, 1) := by decide +kernel
theorem d_L_planned_16 : decode cL_planned 16 = .ok (.ireturn, 1) := by decide +kernel
theorem d_L_room_0 : decode cL_room 0 = .ok (.aload_n 0, 1) := by decide +kernel
theorem d_L_room_1 : decode cL_room 1 = .ok (.iload_n 1, 1) := by decide +kernel
theorem d_L_room_2 : decode cL_room 2 = .ok (.iload_n 2, 1) := by decide +kernel
theorem d_L_room_3 : decode cL_room 3 = .ok (.iload_n 3, 1) := by decide +kernel
theorem d_L_room_4 : decode cL_room 4 = .ok (.iload 4, 2) := by decide +kernel
theorem d_L_room_6 : decode cL_room 6 = .ok (.invokevirtual 42, 3) := by decide +kernel
theorem d_L_room_9 : decode cL_room 9 = .ok (.goto 11, 3) := by decide +kernel
theorem d_L_room_12 : decode cL_room 12 = .ok (.astore 5, 2) := by decide +kernel
theorem d_L_room_14 : decode cL_room 14 = .ok (.iconst 1, 1) := by decide +kernel
theorem d_L_room_15 : decode cL_room 15 = .ok (.ireturn, 1) := by decide +kernel
theorem d_L_room_16 : decode cL_room 16 = .ok (.astore 5, 2) := by decide +kernel
theorem d_L_room_18 : decode cL_room 18 = .ok (.iconst 2, 1) := by decide +kernel
theorem d_L_room_19 : decode cL_room 19 = .ok (.ireturn, 1) := by decide +kernel
theorem d_L_room_20 : decode cL_room 20 = .ok (.iconst 0, 1) := by decide +kernel
theorem d_L_room_21 : decode cL_room 21 = .ok (.ireturn, 1) := by decide +kernel
theorem d_L_block_0 : decode cL_block 0 = .ok (.aload 5, 2) := by decide +kernel
theorem d_L_block_2 : decode cL_block 2 = .ok (.iconst 0, 1) := by decide +kernel
theorem d_L_block_3 : decode cL_block 3 = .ok (.aload_n 0, 1) := by decide +kernel
theorem d_L_block_4 : decode cL_block 4 = .ok (.iload_n 1, 1) := by decide +kernel
theorem d_L_block_5 : decode cL_block 5 = .ok (.iload_n 2, 1) := by decide +kernel
theorem d_L_block_6 : decode cL_block 6 = .ok (.iload_n 3, 1) := by decide +kernel
theorem d_L_block_7 : decode cL_block 7 = .ok (.iload 4, 2) := by decide +kernel
theorem d_L_block_9 : decode cL_block 9 = .ok (.invokevirtual 46, 3) := by decide +kernel
theorem d_L_block_12 : decode cL_block 12 = .ok (.ifCond .eq 7, 3) := by decide +kernel
theorem d_L_block_15 : decode cL_block 15 = .ok (.lconst 1, 1) := by decide +kernel
theorem d_L_block_16 : decode cL_block 16 = .ok (.goto 4, 3) := by decide +kernel
theorem d_L_block_19 : decode cL_block 19 = .ok (.lconst 0, 1) := by decide +kernel
theorem d_L_block_20 : decode cL_block 20 = .ok (.lastore, 1) := by decide +kernel
theorem d_L_block_21 : decode cL_block 21 = .ok (.goto 11, 3) := by decide +kernel
theorem d_L_block_24 : decode cL_block 24 = .ok (.astore 6, 2) := by decide +kernel
theorem d_L_block_26 : decode cL_block 26 = .ok (.iconst 1, 1) := by decide +kernel
theorem d_L_block_27 : decode cL_block 27 = .ok (.ireturn, 1) := by decide +kernel
theorem d_L_block_28 : decode cL_block 28 = .ok (.astore 6, 2) := by decide +kernel
theorem d_L_block_30 : decode cL_block 30 = .ok (.iconst 2, 1) := by decide +kernel
theorem d_L_block_31 : decode cL_block 31 = .ok (.ireturn, 1) := by decide +kernel
theorem d_L_block_32 : decode cL_block 32 = .ok (.iconst 0, 1) := by decide +kernel
theorem d_L_block_33 : decode cL_block 33 = .ok (.ireturn, 1) := by decide +kernel
theorem d_L_seat_0 : decode cL_seat 0 = .ok (.aload_n 2, 1) := by decide +kernel
theorem d_L_seat_1 : decode cL_seat 1 = .ok (.iconst 0, 1) := by decide +kernel
theorem d_L_seat_2 : decode cL_seat 2 = .ok (.aload_n 0, 1) := by decide +kernel
theorem d_L_seat_3 : decode cL_seat 3 = .ok (.iload_n 1, 1) := by decide +kernel
theorem d_L_seat_4 : decode cL_seat 4 = .ok (.invokevirtual 51, 3) := by decide +kernel
theorem d_L_seat_7 : decode cL_seat 7 = .ok (.i2l, 1) := by decide +kernel
theorem d_L_seat_8 : decode cL_seat 8 = .ok (.lastore, 1) := by decide +kernel
theorem d_L_seat_9 : decode cL_seat 9 = .ok (.goto 9, 3) := by decide +kernel
theorem d_L_seat_12 : decode cL_seat 12 = .ok (.astore_n 3, 1) := by decide +kernel
theorem d_L_seat_13 : decode cL_seat 13 = .ok (.iconst 1, 1) := by decide +kernel
theorem d_L_seat_14 : decode cL_seat 14 = .ok (.ireturn, 1) := by decide +kernel
theorem d_L_seat_15 : decode cL_seat 15 = .ok (.astore_n 3, 1) := by decide +kernel
theorem d_L_seat_16 : decode cL_seat 16 = .ok (.iconst 2, 1) := by decide +kernel
theorem d_L_seat_17 : decode cL_seat 17 = .ok (.ireturn, 1) := by decide +kernel
theorem d_L_seat_18 : decode cL_seat 18 = .ok (.iconst 0, 1) := by decide +kernel
theorem d_L_seat_19 : decode cL_seat 19 = .ok (.ireturn, 1) := by decide +kernel
theorem d_L_leave_0 : decode cL_leave 0 = .ok (.aload_n 3, 1) := by decide +kernel
theorem d_L_leave_1 : decode cL_leave 1 = .ok (.iconst 0, 1) := by decide +kernel
theorem d_L_leave_2 : decode cL_leave 2 = .ok (.aload_n 0, 1) := by decide +kernel
theorem d_L_leave_3 : decode cL_leave 3 = .ok (.iload_n 1, 1) := by decide +kernel
theorem d_L_leave_4 : decode cL_leave 4 = .ok (.iload_n 2, 1) := by decide +kernel
theorem d_L_leave_5 : decode cL_leave 5 = .ok (.invokevirtual 54, 3) := by decide +kernel
theorem d_L_leave_8 : decode cL_leave 8 = .ok (.i2l, 1) := by decide +kernel
theorem d_L_leave_9 : decode cL_leave 9 = .ok (.lastore, 1) := by decide +kernel
theorem d_L_leave_10 : decode cL_leave 10 = .ok (.goto 7, 3) := by decide +kernel
theorem d_L_leave_13 : decode cL_leave 13 = .ok (.astore 4, 2) := by decide +kernel
theorem d_L_leave_15 : decode cL_leave 15 = .ok (.iconst 1, 1) := by decide +kernel
theorem d_L_leave_16 : decode cL_leave 16 = .ok (.ireturn, 1) := by decide +kernel
theorem d_L_leave_17 : decode cL_leave 17 = .ok (.iconst 0, 1) := by decide +kernel
theorem d_L_leave_18 : decode cL_leave 18 = .ok (.ireturn, 1) := by decide +kernel
theorem d_L_where_0 : decode cL_where 0 = .ok (.aload_n 3, 1) := by decide +kernel
theorem d_L_where_1 : decode cL_where 1 = .ok (.iconst 0, 1) := by decide +kernel
theorem d_L_where_2 : decode cL_where 2 = .ok (.aload_n 0, 1) := by decide +kernel
theorem d_L_where_3 : decode cL_where 3 = .ok (.iload_n 1, 1) := by decide +kernel
theorem d_L_where_4 : decode cL_where 4 = .ok (.iload_n 2, 1) := by decide +kernel
theorem d_L_where_5 : decode cL_where 5 = .ok (.invokevirtual 57, 3) := by decide +kernel
theorem d_L_where_8 : decode cL_where 8 = .ok (.i2l, 1) := by decide +kernel
theorem d_L_where_9 : decode cL_where 9 = .ok (.lastore, 1) := by decide +kernel
theorem d_L_where_10 : decode cL_where 10 = .ok (.goto 7, 3) := by decide +kernel
theorem d_L_where_13 : decode cL_where 13 = .ok (.astore 4, 2) := by decide +kernel
theorem d_L_where_15 : decode cL_where 15 = .ok (.iconst 1, 1) := by decide +kernel
theorem d_L_where_16 : decode cL_where 16 = .ok (.ireturn, 1) := by decide +kernel
theorem d_L_where_17 : decode cL_where 17 = .ok (.iconst 0, 1) := by decide +kernel
theorem d_L_where_18 : decode cL_where 18 = .ok (.ireturn, 1) := by decide +kernel
theorem d_L_who_0 : decode cL_who 0 = .ok (.aload 5, 2) := by decide +kernel
theorem d_L_who_2 : decode cL_who 2 = .ok (.iconst 0, 1) := by decide +kernel
theorem d_L_who_3 : decode cL_who 3 = .ok (.aload_n 0, 1) := by decide +kernel
theorem d_L_who_4 : decode cL_who 4 = .ok (.iload_n 1, 1) := by decide +kernel
theorem d_L_who_5 : decode cL_who 5 = .ok (.iload_n 2, 1) := by decide +kernel
theorem d_L_who_6 : decode cL_who 6 = .ok (.iload_n 3, 1) := by decide +kernel
theorem d_L_who_7 : decode cL_who 7 = .ok (.iload 4, 2) := by decide +kernel
theorem d_L_who_9 : decode cL_who 9 = .ok (.invokevirtual 60, 3) := by decide +kernel
theorem d_L_who_12 : decode cL_who 12 = .ok (.i2l, 1) := by decide +kernel
theorem d_L_who_13 : decode cL_who 13 = .ok (.lastore, 1) := by decide +kernel
theorem d_L_who_14 : decode cL_who 14 = .ok (.goto 7, 3) := by decide +kernel
theorem d_L_who_17 : decode cL_who 17 = .ok (.astore 6, 2) := by decide +kernel
theorem d_L_who_19 : decode cL_who 19 = .ok (.iconst 1, 1) := by decide +kernel
theorem d_L_who_20 : decode cL_who 20 = .ok (.ireturn, 1) := by decide +kernel
theorem d_L_who_21 : decode cL_who 21 = .ok (.iconst 0, 1) := by decide +kernel
theorem d_L_who_22 : decode cL_who 22 = .ok (.ireturn, 1) := by decide +kernel
theorem d_L_most_0 : decode cL_most 0 = .ok (.aload_n 3, 1) := by decide +kernel
theorem d_L_most_1 : decode cL_most 1 = .ok (.iconst 0, 1) := by decide +kernel
theorem d_L_most_2 : decode cL_most 2 = .ok (.aload_n 0, 1) := by decide +kernel
theorem d_L_most_3 : decode cL_most 3 = .ok (.iload_n 1, 1) := by decide +kernel
theorem d_L_most_4 : decode cL_most 4 = .ok (.iload_n 2, 1) := by decide +kernel
theorem d_L_most_5 : decode cL_most 5 = .ok (.invokevirtual 64, 3) := by decide +kernel
theorem d_L_most_8 : decode cL_most 8 = .ok (.i2l, 1) := by decide +kernel
theorem d_L_most_9 : decode cL_most 9 = .ok (.lastore, 1) := by decide +kernel
theorem d_L_most_10 : decode cL_most 10 = .ok (.goto 11, 3) := by decide +kernel
theorem d_L_most_13 : decode cL_most 13 = .ok (.astore 4, 2) := by decide +kernel
theorem d_L_most_15 : decode cL_most 15 = .ok (.iconst 1, 1) := by decide +kernel
theorem d_L_most_16 : decode cL_most 16 = .ok (.ireturn, 1) := by decide +kernel
theorem d_L_most_17 : decode cL_most 17 = .ok (.astore 4, 2) := by decide +kernel
theorem d_L_most_19 : decode cL_most 19 = .ok (.iconst 2, 1) := by decide +kernel
theorem d_L_most_20 : decode cL_most 20 = .ok (.ireturn, 1) := by decide +kernel
theorem d_L_most_21 : decode cL_most 21 = .ok (.iconst 0, 1) := by decide +kernel
theorem d_L_most_22 : decode cL_most 22 = .ok (.ireturn, 1) := by decide +kernel
theorem d_L_own_0 : decode cL_own 0 = .ok (.aload 4, 2) := by decide +kernel
theorem d_L_own_2 : decode cL_own 2 = .ok (.iconst 0, 1) := by decide +kernel
theorem d_L_own_3 : decode cL_own 3 = .ok (.aload_n 0, 1) := by decide +kernel
theorem d_L_own_4 : decode cL_own 4 = .ok (.iload_n 1, 1) := by decide +kernel
theorem d_L_own_5 : decode cL_own 5 = .ok (.iload_n 2, 1) := by decide +kernel
theorem d_L_own_6 : decode cL_own 6 = .ok (.iload_n 3, 1) := by decide +kernel
theorem d_L_own_7 : decode cL_own 7 = .ok (.invokevirtual 67, 3) := by decide +kernel
theorem d_L_own_10 : decode cL_own 10 = .ok (.ifCond .eq 7, 3) := by decide +kernel
theorem d_L_own_13 : decode cL_own 13 = .ok (.lconst 1, 1) := by decide +kernel
theorem d_L_own_14 : decode cL_own 14 = .ok (.goto 4, 3) := by decide +kernel
theorem d_L_own_17 : decode cL_own 17 = .ok (.lconst 0, 1) := by decide +kernel
theorem d_L_own_18 : decode cL_own 18 = .ok (.lastore, 1) := by decide +kernel
theorem d_L_own_19 : decode cL_own 19 = .ok (.goto 7, 3) := by decide +kernel
theorem d_L_own_22 : decode cL_own 22 = .ok (.astore 5, 2) := by decide +kernel
theorem d_L_own_24 : decode cL_own 24 = .ok (.iconst 1, 1) := by decide +kernel
theorem d_L_own_25 : decode cL_own 25 = .ok (.ireturn, 1) := by decide +kernel
theorem d_L_own_26 : decode cL_own 26 = .ok (.iconst 0, 1) := by decide +kernel
theorem d_L_own_27 : decode cL_own 27 = .ok (.ireturn, 1) := by decide +kernel
theorem d_L_watch_0 : decode cL_watch 0 = .ok (.aload_n 2, 1) := by decide +kernel
theorem d_L_watch_1 : decode cL_watch 1 = .ok (.iconst 0, 1) := by decide +kernel
theorem d_L_watch_2 : decode cL_watch 2 = .ok (.aload_n 0, 1) := by decide +kernel
theorem d_L_watch_3 : decode cL_watch 3 = .ok (.iload_n 1, 1) := by decide +kernel
theorem d_L_watch_4 : decode cL_watch 4 = .ok (.invokevirtual 70, 3) := by decide +kernel
theorem d_L_watch_7 : decode cL_watch 7 = .ok (.ifCond .eq 7, 3) := by decide +kernel
theorem d_L_watch_10 : decode cL_watch 10 = .ok (.lconst 1, 1) := by decide +kernel
theorem d_L_watch_11 : decode cL_watch 11 = .ok (.goto 4, 3) := by decide +kernel
theorem d_L_watch_14 : decode cL_watch 14 = .ok (.lconst 0, 1) := by decide +kernel
theorem d_L_watch_15 : decode cL_watch 15 = .ok (.lastore, 1) := by decide +kernel
theorem d_L_watch_16 : decode cL_watch 16 = .ok (.goto 6, 3) := by decide +kernel
theorem d_L_watch_19 : decode cL_watch 19 = .ok (.astore_n 3, 1) := by decide +kernel
theorem d_L_watch_20 : decode cL_watch 20 = .ok (.iconst 1, 1) := by decide +kernel
theorem d_L_watch_21 : decode cL_watch 21 = .ok (.ireturn, 1) := by decide +kernel
theorem d_L_watch_22 : decode cL_watch 22 = .ok (.iconst 0, 1) := by decide +kernel
theorem d_L_watch_23 : decode cL_watch 23 = .ok (.ireturn, 1) := by decide +kernel
theorem d_L_watcher_0 : decode cL_watcher 0 = .ok (.aload 4, 2) := by decide +kernel
theorem d_L_watcher_2 : decode cL_watcher 2 = .ok (.iconst 0, 1) := by decide +kernel
theorem d_L_watcher_3 : decode cL_watcher 3 = .ok (.aload_n 0, 1) := by decide +kernel
theorem d_L_watcher_4 : decode cL_watcher 4 = .ok (.iload_n 1, 1) := by decide +kernel
theorem d_L_watcher_5 : decode cL_watcher 5 = .ok (.iload_n 2, 1) := by decide +kernel
theorem d_L_watcher_6 : decode cL_watcher 6 = .ok (.iload_n 3, 1) := by decide +kernel
theorem d_L_watcher_7 : decode cL_watcher 7 = .ok (.invokevirtual 74, 3) := by decide +kernel
theorem d_L_watcher_10 : decode cL_watcher 10 = .ok (.i2l, 1) := by decide +kernel
theorem d_L_watcher_11 : decode cL_watcher 11 = .ok (.lastore, 1) := by decide +kernel
theorem d_L_watcher_12 : decode cL_watcher 12 = .ok (.goto 7, 3) := by decide +kernel
theorem d_L_watcher_15 : decode cL_watcher 15 = .ok (.astore 5, 2) := by decide +kernel
theorem d_L_watcher_17 : decode cL_watcher 17 = .ok (.iconst 1, 1) := by decide +kernel
theorem d_L_watcher_18 : decode cL_watcher 18 = .ok (.ireturn, 1) := by decide +kernel
theorem d_L_watcher_19 : decode cL_watcher 19 = .ok (.iconst 0, 1) := by decide +kernel
theorem d_L_watcher_20 : decode cL_watcher 20 = .ok (.ireturn, 1) := by decide +kernel
theorem d_L_count_0 : decode cL_count 0 = .ok (.aload_n 2, 1) := by decide +kernel
theorem d_L_count_1 : decode cL_count 1 = .ok (.iconst 0, 1) := by decide +kernel
theorem d_L_count_2 : decode cL_count 2 = .ok (.aload_n 0, 1) := by decide +kernel
theorem d_L_count_3 : decode cL_count 3 = .ok (.iload_n 1, 1) := by decide +kernel
theorem d_L_count_4 : decode cL_count 4 = .ok (.invokevirtual 78, 3) := by decide +kernel
theorem d_L_count_7 : decode cL_count 7 = .ok (.i2l, 1) := by decide +kernel
theorem d_L_count_8 : decode cL_count 8 = .ok (.lastore, 1) := by decide +kernel
theorem d_L_count_9 : decode cL_count 9 = .ok (.goto 6, 3) := by decide +kernel
theorem d_L_count_12 : decode cL_count 12 = .ok (.astore_n 3, 1) := by decide +kernel
theorem d_L_count_13 : decode cL_count 13 = .ok (.iconst 1, 1) := by decide +kernel
theorem d_L_count_14 : decode cL_count 14 = .ok (.ireturn, 1) := by decide +kernel
theorem d_L_count_15 : decode cL_count 15 = .ok (.iconst 0, 1) := by decide +kernel
theorem d_L_count_16 : decode cL_count 16 = .ok (.ireturn, 1) := by decide +kernel

theorem d_M_channel_0 : decode b_M_channel 0 = .ok (.aload_n 0, 1) := by decide +kernel
theorem d_M_channel_1 : decode b_M_channel 1 = .ok (.getfield 80, 3) := by decide +kernel
theorem d_M_channel_4 : decode b_M_channel 4 = .ok (.ifCond .ne 12, 3) := by decide +kernel
theorem d_M_channel_7 : decode b_M_channel 7 = .ok (.aload_n 0, 1) := by decide +kernel
theorem d_M_channel_8 : decode b_M_channel 8 = .ok (.getfield 84, 3) := by decide +kernel
theorem d_M_channel_11 : decode b_M_channel 11 = .ok (.bipush 8, 2) := by decide +kernel
theorem d_M_channel_13 : decode b_M_channel 13 = .ok (.if_icmp .lt 5, 3) := by decide +kernel
theorem d_M_channel_16 : decode b_M_channel 16 = .ok (.iconst (-1), 1) := by decide +kernel
theorem d_M_channel_17 : decode b_M_channel 17 = .ok (.ireturn, 1) := by decide +kernel
theorem d_M_channel_18 : decode b_M_channel 18 = .ok (.aload_n 0, 1) := by decide +kernel
theorem d_M_channel_19 : decode b_M_channel 19 = .ok (.getfield 7, 3) := by decide +kernel
theorem d_M_channel_22 : decode b_M_channel 22 = .ok (.aload_n 0, 1) := by decide +kernel
theorem d_M_channel_23 : decode b_M_channel 23 = .ok (.getfield 84, 3) := by decide +kernel
theorem d_M_channel_26 : decode b_M_channel 26 = .ok (.iload_n 1, 1) := by decide +kernel
theorem d_M_channel_27 : decode b_M_channel 27 = .ok (.bastore, 1) := by decide +kernel
theorem d_M_channel_28 : decode b_M_channel 28 = .ok (.aload_n 0, 1) := by decide +kernel
theorem d_M_channel_29 : decode b_M_channel 29 = .ok (.aload_n 0, 1) := by decide +kernel
theorem d_M_channel_30 : decode b_M_channel 30 = .ok (.getfield 84, 3) := by decide +kernel
theorem d_M_channel_33 : decode b_M_channel 33 = .ok (.iconst 1, 1) := by decide +kernel
theorem d_M_channel_34 : decode b_M_channel 34 = .ok (.iadd, 1) := by decide +kernel
theorem d_M_channel_35 : decode b_M_channel 35 = .ok (.putfield 84, 3) := by decide +kernel
theorem d_M_channel_38 : decode b_M_channel 38 = .ok (.aload_n 0, 1) := by decide +kernel
theorem d_M_channel_39 : decode b_M_channel 39 = .ok (.getfield 84, 3) := by decide +kernel
theorem d_M_channel_42 : decode b_M_channel 42 = .ok (.iconst 1, 1) := by decide +kernel
theorem d_M_channel_43 : decode b_M_channel 43 = .ok (.isub, 1) := by decide +kernel
theorem d_M_channel_44 : decode b_M_channel 44 = .ok (.ireturn, 1) := by decide +kernel
theorem d_M_reaction_0 : decode b_M_reaction 0 = .ok (.aload_n 0, 1) := by decide +kernel
theorem d_M_reaction_1 : decode b_M_reaction 1 = .ok (.getfield 80, 3) := by decide +kernel
theorem d_M_reaction_4 : decode b_M_reaction 4 = .ok (.ifCond .ne 12, 3) := by decide +kernel
theorem d_M_reaction_7 : decode b_M_reaction 7 = .ok (.aload_n 0, 1) := by decide +kernel
theorem d_M_reaction_8 : decode b_M_reaction 8 = .ok (.getfield 88, 3) := by decide +kernel
theorem d_M_reaction_11 : decode b_M_reaction 11 = .ok (.bipush 8, 2) := by decide +kernel
theorem d_M_reaction_13 : decode b_M_reaction 13 = .ok (.if_icmp .lt 5, 3) := by decide +kernel
theorem d_M_reaction_16 : decode b_M_reaction 16 = .ok (.iconst (-1), 1) := by decide +kernel
theorem d_M_reaction_17 : decode b_M_reaction 17 = .ok (.ireturn, 1) := by decide +kernel
theorem d_M_reaction_18 : decode b_M_reaction 18 = .ok (.aload_n 0, 1) := by decide +kernel
theorem d_M_reaction_19 : decode b_M_reaction 19 = .ok (.aload_n 0, 1) := by decide +kernel
theorem d_M_reaction_20 : decode b_M_reaction 20 = .ok (.getfield 88, 3) := by decide +kernel
theorem d_M_reaction_23 : decode b_M_reaction 23 = .ok (.iconst 1, 1) := by decide +kernel
theorem d_M_reaction_24 : decode b_M_reaction 24 = .ok (.iadd, 1) := by decide +kernel
theorem d_M_reaction_25 : decode b_M_reaction 25 = .ok (.putfield 88, 3) := by decide +kernel
theorem d_M_reaction_28 : decode b_M_reaction 28 = .ok (.aload_n 0, 1) := by decide +kernel
theorem d_M_reaction_29 : decode b_M_reaction 29 = .ok (.getfield 88, 3) := by decide +kernel
theorem d_M_reaction_32 : decode b_M_reaction 32 = .ok (.iconst 1, 1) := by decide +kernel
theorem d_M_reaction_33 : decode b_M_reaction 33 = .ok (.isub, 1) := by decide +kernel
theorem d_M_reaction_34 : decode b_M_reaction 34 = .ok (.ireturn, 1) := by decide +kernel
theorem d_M_open_0 : decode b_M_open 0 = .ok (.aload_n 0, 1) := by decide +kernel
theorem d_M_open_1 : decode b_M_open 1 = .ok (.getfield 80, 3) := by decide +kernel
theorem d_M_open_4 : decode b_M_open 4 = .ok (.ifCond .ne 19, 3) := by decide +kernel
theorem d_M_open_7 : decode b_M_open 7 = .ok (.iload_n 1, 1) := by decide +kernel
theorem d_M_open_8 : decode b_M_open 8 = .ok (.ifCond .lt 15, 3) := by decide +kernel
theorem d_M_open_11 : decode b_M_open 11 = .ok (.iload_n 1, 1) := by decide +kernel
theorem d_M_open_12 : decode b_M_open 12 = .ok (.aload_n 0, 1) := by decide +kernel
theorem d_M_open_13 : decode b_M_open 13 = .ok (.getfield 88, 3) := by decide +kernel
theorem d_M_open_16 : decode b_M_open 16 = .ok (.if_icmp .ge 7, 3) := by decide +kernel
theorem d_M_open_19 : decode b_M_open 19 = .ok (.iconst 1, 1) := by decide +kernel
theorem d_M_open_20 : decode b_M_open 20 = .ok (.goto 4, 3) := by decide +kernel
theorem d_M_open_23 : decode b_M_open 23 = .ok (.iconst 0, 1) := by decide +kernel
theorem d_M_open_24 : decode b_M_open 24 = .ok (.ireturn, 1) := by decide +kernel
theorem d_M_isChannel_0 : decode b_M_isChannel 0 = .ok (.iload_n 1, 1) := by decide +kernel
theorem d_M_isChannel_1 : decode b_M_isChannel 1 = .ok (.ifCond .lt 15, 3) := by decide +kernel
theorem d_M_isChannel_4 : decode b_M_isChannel 4 = .ok (.iload_n 1, 1) := by decide +kernel
theorem d_M_isChannel_5 : decode b_M_isChannel 5 = .ok (.aload_n 0, 1) := by decide +kernel
theorem d_M_isChannel_6 : decode b_M_isChannel 6 = .ok (.getfield 84, 3) := by decide +kernel
theorem d_M_isChannel_9 : decode b_M_isChannel 9 = .ok (.if_icmp .ge 7, 3) := by decide +kernel
theorem d_M_isChannel_12 : decode b_M_isChannel 12 = .ok (.iconst 1, 1) := by decide +kernel
theorem d_M_isChannel_13 : decode b_M_isChannel 13 = .ok (.goto 4, 3) := by decide +kernel
theorem d_M_isChannel_16 : decode b_M_isChannel 16 = .ok (.iconst 0, 1) := by decide +kernel
theorem d_M_isChannel_17 : decode b_M_isChannel 17 = .ok (.ireturn, 1) := by decide +kernel
theorem d_M_hasPart_0 : decode b_M_hasPart 0 = .ok (.iload_n 2, 1) := by decide +kernel
theorem d_M_hasPart_1 : decode b_M_hasPart 1 = .ok (.ifCond .lt 17, 3) := by decide +kernel
theorem d_M_hasPart_4 : decode b_M_hasPart 4 = .ok (.iload_n 2, 1) := by decide +kernel
theorem d_M_hasPart_5 : decode b_M_hasPart 5 = .ok (.aload_n 0, 1) := by decide +kernel
theorem d_M_hasPart_6 : decode b_M_hasPart 6 = .ok (.getfield 13, 3) := by decide +kernel
theorem d_M_hasPart_9 : decode b_M_hasPart 9 = .ok (.iload_n 1, 1) := by decide +kernel
theorem d_M_hasPart_10 : decode b_M_hasPart 10 = .ok (.iaload, 1) := by decide +kernel
theorem d_M_hasPart_11 : decode b_M_hasPart 11 = .ok (.if_icmp .ge 7, 3) := by decide +kernel
theorem d_M_hasPart_14 : decode b_M_hasPart 14 = .ok (.iconst 1, 1) := by decide +kernel
theorem d_M_hasPart_15 : decode b_M_hasPart 15 = .ok (.goto 4, 3) := by decide +kernel
theorem d_M_hasPart_18 : decode b_M_hasPart 18 = .ok (.iconst 0, 1) := by decide +kernel
theorem d_M_hasPart_19 : decode b_M_hasPart 19 = .ok (.ireturn, 1) := by decide +kernel
theorem d_M_part_0 : decode b_M_part 0 = .ok (.aload_n 0, 1) := by decide +kernel
theorem d_M_part_1 : decode b_M_part 1 = .ok (.iload_n 1, 1) := by decide +kernel
theorem d_M_part_2 : decode b_M_part 2 = .ok (.invokevirtual 91, 3) := by decide +kernel
theorem d_M_part_5 : decode b_M_part 5 = .ok (.ifCond .eq 30, 3) := by decide +kernel
theorem d_M_part_8 : decode b_M_part 8 = .ok (.aload_n 0, 1) := by decide +kernel
theorem d_M_part_9 : decode b_M_part 9 = .ok (.iload_n 2, 1) := by decide +kernel
theorem d_M_part_10 : decode b_M_part 10 = .ok (.invokevirtual 95, 3) := by decide +kernel
theorem d_M_part_13 : decode b_M_part 13 = .ok (.ifCond .eq 22, 3) := by decide +kernel
theorem d_M_part_16 : decode b_M_part 16 = .ok (.iload_n 3, 1) := by decide +kernel
theorem d_M_part_17 : decode b_M_part 17 = .ok (.ifCond .lt 18, 3) := by decide +kernel
theorem d_M_part_20 : decode b_M_part 20 = .ok (.iload_n 3, 1) := by decide +kernel
theorem d_M_part_21 : decode b_M_part 21 = .ok (.iconst 4, 1) := by decide +kernel
theorem d_M_part_22 : decode b_M_part 22 = .ok (.if_icmp .gt 13, 3) := by decide +kernel
theorem d_M_part_25 : decode b_M_part 25 = .ok (.aload_n 0, 1) := by decide +kernel
theorem d_M_part_26 : decode b_M_part 26 = .ok (.getfield 13, 3) := by decide +kernel
theorem d_M_part_29 : decode b_M_part 29 = .ok (.iload_n 1, 1) := by decide +kernel
theorem d_M_part_30 : decode b_M_part 30 = .ok (.iaload, 1) := by decide +kernel
theorem d_M_part_31 : decode b_M_part 31 = .ok (.iconst 4, 1) := by decide +kernel
theorem d_M_part_32 : decode b_M_part 32 = .ok (.if_icmp .lt 5, 3) := by decide +kernel
theorem d_M_part_35 : decode b_M_part 35 = .ok (.iconst (-1), 1) := by decide +kernel
theorem d_M_part_36 : decode b_M_part 36 = .ok (.ireturn, 1) := by decide +kernel
theorem d_M_part_37 : decode b_M_part 37 = .ok (.iconst 4, 1) := by decide +kernel
theorem d_M_part_38 : decode b_M_part 38 = .ok (.iload_n 1, 1) := by decide +kernel
theorem d_M_part_39 : decode b_M_part 39 = .ok (.imul, 1) := by decide +kernel
theorem d_M_part_40 : decode b_M_part 40 = .ok (.aload_n 0, 1) := by decide +kernel
theorem d_M_part_41 : decode b_M_part 41 = .ok (.getfield 13, 3) := by decide +kernel
theorem d_M_part_44 : decode b_M_part 44 = .ok (.iload_n 1, 1) := by decide +kernel
theorem d_M_part_45 : decode b_M_part 45 = .ok (.iaload, 1) := by decide +kernel
theorem d_M_part_46 : decode b_M_part 46 = .ok (.iadd, 1) := by decide +kernel
theorem d_M_part_47 : decode b_M_part 47 = .ok (.istore 5, 2) := by decide +kernel
theorem d_M_part_49 : decode b_M_part 49 = .ok (.aload_n 0, 1) := by decide +kernel
theorem d_M_part_50 : decode b_M_part 50 = .ok (.getfield 17, 3) := by decide +kernel
theorem d_M_part_53 : decode b_M_part 53 = .ok (.iload 5, 2) := by decide +kernel
theorem d_M_part_55 : decode b_M_part 55 = .ok (.iload_n 2, 1) := by decide +kernel
theorem d_M_part_56 : decode b_M_part 56 = .ok (.iastore, 1) := by decide +kernel
theorem d_M_part_57 : decode b_M_part 57 = .ok (.aload_n 0, 1) := by decide +kernel
theorem d_M_part_58 : decode b_M_part 58 = .ok (.getfield 20, 3) := by decide +kernel
theorem d_M_part_61 : decode b_M_part 61 = .ok (.iload 5, 2) := by decide +kernel
theorem d_M_part_63 : decode b_M_part 63 = .ok (.iload_n 3, 1) := by decide +kernel
theorem d_M_part_64 : decode b_M_part 64 = .ok (.iastore, 1) := by decide +kernel
theorem d_M_part_65 : decode b_M_part 65 = .ok (.aload_n 0, 1) := by decide +kernel
theorem d_M_part_66 : decode b_M_part 66 = .ok (.getfield 23, 3) := by decide +kernel
theorem d_M_part_69 : decode b_M_part 69 = .ok (.iload 5, 2) := by decide +kernel
theorem d_M_part_71 : decode b_M_part 71 = .ok (.iload 4, 2) := by decide +kernel
theorem d_M_part_73 : decode b_M_part 73 = .ok (.iastore, 1) := by decide +kernel
theorem d_M_part_74 : decode b_M_part 74 = .ok (.aload_n 0, 1) := by decide +kernel
theorem d_M_part_75 : decode b_M_part 75 = .ok (.getfield 13, 3) := by decide +kernel
theorem d_M_part_78 : decode b_M_part 78 = .ok (.iload_n 1, 1) := by decide +kernel
theorem d_M_part_79 : decode b_M_part 79 = .ok (.aload_n 0, 1) := by decide +kernel
theorem d_M_part_80 : decode b_M_part 80 = .ok (.getfield 13, 3) := by decide +kernel
theorem d_M_part_83 : decode b_M_part 83 = .ok (.iload_n 1, 1) := by decide +kernel
theorem d_M_part_84 : decode b_M_part 84 = .ok (.iaload, 1) := by decide +kernel
theorem d_M_part_85 : decode b_M_part 85 = .ok (.iconst 1, 1) := by decide +kernel
theorem d_M_part_86 : decode b_M_part 86 = .ok (.iadd, 1) := by decide +kernel
theorem d_M_part_87 : decode b_M_part 87 = .ok (.iastore, 1) := by decide +kernel
theorem d_M_part_88 : decode b_M_part 88 = .ok (.aload_n 0, 1) := by decide +kernel
theorem d_M_part_89 : decode b_M_part 89 = .ok (.getfield 13, 3) := by decide +kernel
theorem d_M_part_92 : decode b_M_part 92 = .ok (.iload_n 1, 1) := by decide +kernel
theorem d_M_part_93 : decode b_M_part 93 = .ok (.iaload, 1) := by decide +kernel
theorem d_M_part_94 : decode b_M_part 94 = .ok (.iconst 1, 1) := by decide +kernel
theorem d_M_part_95 : decode b_M_part 95 = .ok (.isub, 1) := by decide +kernel
theorem d_M_part_96 : decode b_M_part 96 = .ok (.ireturn, 1) := by decide +kernel
theorem d_M_guard_0 : decode b_M_guard 0 = .ok (.aload_n 0, 1) := by decide +kernel
theorem d_M_guard_1 : decode b_M_guard 1 = .ok (.iload_n 1, 1) := by decide +kernel
theorem d_M_guard_2 : decode b_M_guard 2 = .ok (.invokevirtual 91, 3) := by decide +kernel
theorem d_M_guard_5 : decode b_M_guard 5 = .ok (.ifCond .eq 12, 3) := by decide +kernel
theorem d_M_guard_8 : decode b_M_guard 8 = .ok (.iload_n 2, 1) := by decide +kernel
theorem d_M_guard_9 : decode b_M_guard 9 = .ok (.ifCond .lt 8, 3) := by decide +kernel
theorem d_M_guard_12 : decode b_M_guard 12 = .ok (.iload_n 2, 1) := by decide +kernel
theorem d_M_guard_13 : decode b_M_guard 13 = .ok (.iconst 5, 1) := by decide +kernel
theorem d_M_guard_14 : decode b_M_guard 14 = .ok (.if_icmp .le 5, 3) := by decide +kernel
theorem d_M_guard_17 : decode b_M_guard 17 = .ok (.iconst 0, 1) := by decide +kernel
theorem d_M_guard_18 : decode b_M_guard 18 = .ok (.ireturn, 1) := by decide +kernel
theorem d_M_guard_19 : decode b_M_guard 19 = .ok (.aload_n 0, 1) := by decide +kernel
theorem d_M_guard_20 : decode b_M_guard 20 = .ok (.getfield 26, 3) := by decide +kernel
theorem d_M_guard_23 : decode b_M_guard 23 = .ok (.iload_n 1, 1) := by decide +kernel
theorem d_M_guard_24 : decode b_M_guard 24 = .ok (.iload_n 2, 1) := by decide +kernel
theorem d_M_guard_25 : decode b_M_guard 25 = .ok (.iastore, 1) := by decide +kernel
theorem d_M_guard_26 : decode b_M_guard 26 = .ok (.aload_n 0, 1) := by decide +kernel
theorem d_M_guard_27 : decode b_M_guard 27 = .ok (.getfield 29, 3) := by decide +kernel
theorem d_M_guard_30 : decode b_M_guard 30 = .ok (.iload_n 1, 1) := by decide +kernel
theorem d_M_guard_31 : decode b_M_guard 31 = .ok (.iload_n 3, 1) := by decide +kernel
theorem d_M_guard_32 : decode b_M_guard 32 = .ok (.iastore, 1) := by decide +kernel
theorem d_M_guard_33 : decode b_M_guard 33 = .ok (.iconst 1, 1) := by decide +kernel
theorem d_M_guard_34 : decode b_M_guard 34 = .ok (.ireturn, 1) := by decide +kernel
theorem d_M_expression_0 : decode b_M_expression 0 = .ok (.iload_n 2, 1) := by decide +kernel
theorem d_M_expression_1 : decode b_M_expression 1 = .ok (.ifCond .lt 31, 3) := by decide +kernel
theorem d_M_expression_4 : decode b_M_expression 4 = .ok (.iload_n 2, 1) := by decide +kernel
theorem d_M_expression_5 : decode b_M_expression 5 = .ok (.iconst 4, 1) := by decide +kernel
theorem d_M_expression_6 : decode b_M_expression 6 = .ok (.if_icmp .gt 26, 3) := by decide +kernel
theorem d_M_expression_9 : decode b_M_expression 9 = .ok (.iload_n 2, 1) := by decide +kernel
theorem d_M_expression_10 : decode b_M_expression 10 = .ok (.iconst 1, 1) := by decide +kernel
theorem d_M_expression_11 : decode b_M_expression 11 = .ok (.if_icmp .eq 8, 3) := by decide +kernel
theorem d_M_expression_14 : decode b_M_expression 14 = .ok (.iload_n 2, 1) := by decide +kernel
theorem d_M_expression_15 : decode b_M_expression 15 = .ok (.iconst 2, 1) := by decide +kernel
theorem d_M_expression_16 : decode b_M_expression 16 = .ok (.if_icmp .ne 12, 3) := by decide +kernel
theorem d_M_expression_19 : decode b_M_expression 19 = .ok (.aload_n 0, 1) := by decide +kernel
theorem d_M_expression_20 : decode b_M_expression 20 = .ok (.iload_n 1, 1) := by decide +kernel
theorem d_M_expression_21 : decode b_M_expression 21 = .ok (.iload_n 3, 1) := by decide +kernel
theorem d_M_expression_22 : decode b_M_expression 22 = .ok (.invokevirtual 98, 3) := by decide +kernel
theorem d_M_expression_25 : decode b_M_expression 25 = .ok (.ifCond .eq 7, 3) := by decide +kernel
theorem d_M_expression_28 : decode b_M_expression 28 = .ok (.iconst 1, 1) := by decide +kernel
theorem d_M_expression_29 : decode b_M_expression 29 = .ok (.goto 4, 3) := by decide +kernel
theorem d_M_expression_32 : decode b_M_expression 32 = .ok (.iconst 0, 1) := by decide +kernel
theorem d_M_expression_33 : decode b_M_expression 33 = .ok (.ireturn, 1) := by decide +kernel
theorem d_M_act_0 : decode b_M_act 0 = .ok (.iconst 4, 1) := by decide +kernel
theorem d_M_act_1 : decode b_M_act 1 = .ok (.iload_n 1, 1) := by decide +kernel
theorem d_M_act_2 : decode b_M_act 2 = .ok (.imul, 1) := by decide +kernel
theorem d_M_act_3 : decode b_M_act 3 = .ok (.aload_n 0, 1) := by decide +kernel
theorem d_M_act_4 : decode b_M_act 4 = .ok (.getfield 32, 3) := by decide +kernel
theorem d_M_act_7 : decode b_M_act 7 = .ok (.iload_n 1, 1) := by decide +kernel
theorem d_M_act_8 : decode b_M_act 8 = .ok (.iaload, 1) := by decide +kernel
theorem d_M_act_9 : decode b_M_act 9 = .ok (.iadd, 1) := by decide +kernel
theorem d_M_act_10 : decode b_M_act 10 = .ok (.istore 6, 2) := by decide +kernel
theorem d_M_act_12 : decode b_M_act 12 = .ok (.aload_n 0, 1) := by decide +kernel
theorem d_M_act_13 : decode b_M_act 13 = .ok (.getfield 35, 3) := by decide +kernel
theorem d_M_act_16 : decode b_M_act 16 = .ok (.iload 6, 2) := by decide +kernel
theorem d_M_act_18 : decode b_M_act 18 = .ok (.iload_n 2, 1) := by decide +kernel
theorem d_M_act_19 : decode b_M_act 19 = .ok (.iastore, 1) := by decide +kernel
theorem d_M_act_20 : decode b_M_act 20 = .ok (.aload_n 0, 1) := by decide +kernel
theorem d_M_act_21 : decode b_M_act 21 = .ok (.getfield 38, 3) := by decide +kernel
theorem d_M_act_24 : decode b_M_act 24 = .ok (.iload 6, 2) := by decide +kernel
theorem d_M_act_26 : decode b_M_act 26 = .ok (.iload_n 3, 1) := by decide +kernel
theorem d_M_act_27 : decode b_M_act 27 = .ok (.iastore, 1) := by decide +kernel
theorem d_M_act_28 : decode b_M_act 28 = .ok (.aload_n 0, 1) := by decide +kernel
theorem d_M_act_29 : decode b_M_act 29 = .ok (.getfield 41, 3) := by decide +kernel
theorem d_M_act_32 : decode b_M_act 32 = .ok (.iload 6, 2) := by decide +kernel
theorem d_M_act_34 : decode b_M_act 34 = .ok (.iload 4, 2) := by decide +kernel
theorem d_M_act_36 : decode b_M_act 36 = .ok (.iastore, 1) := by decide +kernel
theorem d_M_act_37 : decode b_M_act 37 = .ok (.aload_n 0, 1) := by decide +kernel
theorem d_M_act_38 : decode b_M_act 38 = .ok (.getfield 44, 3) := by decide +kernel
theorem d_M_act_41 : decode b_M_act 41 = .ok (.iload 6, 2) := by decide +kernel
theorem d_M_act_43 : decode b_M_act 43 = .ok (.iload 5, 2) := by decide +kernel
theorem d_M_act_45 : decode b_M_act 45 = .ok (.iastore, 1) := by decide +kernel
theorem d_M_act_46 : decode b_M_act 46 = .ok (.aload_n 0, 1) := by decide +kernel
theorem d_M_act_47 : decode b_M_act 47 = .ok (.getfield 32, 3) := by decide +kernel
theorem d_M_act_50 : decode b_M_act 50 = .ok (.iload_n 1, 1) := by decide +kernel
theorem d_M_act_51 : decode b_M_act 51 = .ok (.aload_n 0, 1) := by decide +kernel
theorem d_M_act_52 : decode b_M_act 52 = .ok (.getfield 32, 3) := by decide +kernel
theorem d_M_act_55 : decode b_M_act 55 = .ok (.iload_n 1, 1) := by decide +kernel
theorem d_M_act_56 : decode b_M_act 56 = .ok (.iaload, 1) := by decide +kernel
theorem d_M_act_57 : decode b_M_act 57 = .ok (.iconst 1, 1) := by decide +kernel
theorem d_M_act_58 : decode b_M_act 58 = .ok (.iadd, 1) := by decide +kernel
theorem d_M_act_59 : decode b_M_act 59 = .ok (.iastore, 1) := by decide +kernel
theorem d_M_act_60 : decode b_M_act 60 = .ok (.return_, 1) := by decide +kernel
theorem d_M_emit_0 : decode b_M_emit 0 = .ok (.aload_n 0, 1) := by decide +kernel
theorem d_M_emit_1 : decode b_M_emit 1 = .ok (.iload_n 1, 1) := by decide +kernel
theorem d_M_emit_2 : decode b_M_emit 2 = .ok (.invokevirtual 91, 3) := by decide +kernel
theorem d_M_emit_5 : decode b_M_emit 5 = .ok (.ifCond .eq 41, 3) := by decide +kernel
theorem d_M_emit_8 : decode b_M_emit 8 = .ok (.aload_n 0, 1) := by decide +kernel
theorem d_M_emit_9 : decode b_M_emit 9 = .ok (.iload_n 2, 1) := by decide +kernel
theorem d_M_emit_10 : decode b_M_emit 10 = .ok (.invokevirtual 95, 3) := by decide +kernel
theorem d_M_emit_13 : decode b_M_emit 13 = .ok (.ifCond .eq 33, 3) := by decide +kernel
theorem d_M_emit_16 : decode b_M_emit 16 = .ok (.aload_n 0, 1) := by decide +kernel
theorem d_M_emit_17 : decode b_M_emit 17 = .ok (.getfield 7, 3) := by decide +kernel
theorem d_M_emit_20 : decode b_M_emit 20 = .ok (.iload_n 2, 1) := by decide +kernel
theorem d_M_emit_21 : decode b_M_emit 21 = .ok (.baload, 1) := by decide +kernel
theorem d_M_emit_22 : decode b_M_emit 22 = .ok (.ifCond .ne 24, 3) := by decide +kernel
theorem d_M_emit_25 : decode b_M_emit 25 = .ok (.aload_n 0, 1) := by decide +kernel
theorem d_M_emit_26 : decode b_M_emit 26 = .ok (.iload_n 1, 1) := by decide +kernel
theorem d_M_emit_27 : decode b_M_emit 27 = .ok (.iload_n 3, 1) := by decide +kernel
theorem d_M_emit_28 : decode b_M_emit 28 = .ok (.iload 4, 2) := by decide +kernel
theorem d_M_emit_30 : decode b_M_emit 30 = .ok (.invokevirtual 102, 3) := by decide +kernel
theorem d_M_emit_33 : decode b_M_emit 33 = .ok (.ifCond .eq 13, 3) := by decide +kernel
theorem d_M_emit_36 : decode b_M_emit 36 = .ok (.aload_n 0, 1) := by decide +kernel
theorem d_M_emit_37 : decode b_M_emit 37 = .ok (.getfield 32, 3) := by decide +kernel
theorem d_M_emit_40 : decode b_M_emit 40 = .ok (.iload_n 1, 1) := by decide +kernel
theorem d_M_emit_41 : decode b_M_emit 41 = .ok (.iaload, 1) := by decide +kernel
theorem d_M_emit_42 : decode b_M_emit 42 = .ok (.iconst 4, 1) := by decide +kernel
theorem d_M_emit_43 : decode b_M_emit 43 = .ok (.if_icmp .lt 5, 3) := by decide +kernel
theorem d_M_emit_46 : decode b_M_emit 46 = .ok (.iconst 0, 1) := by decide +kernel
theorem d_M_emit_47 : decode b_M_emit 47 = .ok (.ireturn, 1) := by decide +kernel
theorem d_M_emit_48 : decode b_M_emit 48 = .ok (.aload_n 0, 1) := by decide +kernel
theorem d_M_emit_49 : decode b_M_emit 49 = .ok (.getfield 47, 3) := by decide +kernel
theorem d_M_emit_52 : decode b_M_emit 52 = .ok (.iconst 4, 1) := by decide +kernel
theorem d_M_emit_53 : decode b_M_emit 53 = .ok (.iload_n 1, 1) := by decide +kernel
theorem d_M_emit_54 : decode b_M_emit 54 = .ok (.imul, 1) := by decide +kernel
theorem d_M_emit_55 : decode b_M_emit 55 = .ok (.aload_n 0, 1) := by decide +kernel
theorem d_M_emit_56 : decode b_M_emit 56 = .ok (.getfield 32, 3) := by decide +kernel
theorem d_M_emit_59 : decode b_M_emit 59 = .ok (.iload_n 1, 1) := by decide +kernel
theorem d_M_emit_60 : decode b_M_emit 60 = .ok (.iaload, 1) := by decide +kernel
theorem d_M_emit_61 : decode b_M_emit 61 = .ok (.iadd, 1) := by decide +kernel
theorem d_M_emit_62 : decode b_M_emit 62 = .ok (.iload 5, 2) := by decide +kernel
theorem d_M_emit_64 : decode b_M_emit 64 = .ok (.iastore, 1) := by decide +kernel
theorem d_M_emit_65 : decode b_M_emit 65 = .ok (.aload_n 0, 1) := by decide +kernel
theorem d_M_emit_66 : decode b_M_emit 66 = .ok (.iload_n 1, 1) := by decide +kernel
theorem d_M_emit_67 : decode b_M_emit 67 = .ok (.iload_n 2, 1) := by decide +kernel
theorem d_M_emit_68 : decode b_M_emit 68 = .ok (.iconst (-1), 1) := by decide +kernel
theorem d_M_emit_69 : decode b_M_emit 69 = .ok (.iload_n 3, 1) := by decide +kernel
theorem d_M_emit_70 : decode b_M_emit 70 = .ok (.iload 4, 2) := by decide +kernel
theorem d_M_emit_72 : decode b_M_emit 72 = .ok (.invokevirtual 106, 3) := by decide +kernel
theorem d_M_emit_75 : decode b_M_emit 75 = .ok (.iconst 1, 1) := by decide +kernel
theorem d_M_emit_76 : decode b_M_emit 76 = .ok (.ireturn, 1) := by decide +kernel
theorem d_M_answersPart_0 : decode b_M_answersPart 0 = .ok (.iconst 0, 1) := by decide +kernel
theorem d_M_answersPart_1 : decode b_M_answersPart 1 = .ok (.istore_n 3, 1) := by decide +kernel
theorem d_M_answersPart_2 : decode b_M_answersPart 2 = .ok (.iconst 0, 1) := by decide +kernel
theorem d_M_answersPart_3 : decode b_M_answersPart 3 = .ok (.istore 4, 2) := by decide +kernel
theorem d_M_answersPart_5 : decode b_M_answersPart 5 = .ok (.iload 4, 2) := by decide +kernel
theorem d_M_answersPart_7 : decode b_M_answersPart 7 = .ok (.aload_n 0, 1) := by decide +kernel
theorem d_M_answersPart_8 : decode b_M_answersPart 8 = .ok (.getfield 32, 3) := by decide +kernel
theorem d_M_answersPart_11 : decode b_M_answersPart 11 = .ok (.iload_n 1, 1) := by decide +kernel
theorem d_M_answersPart_12 : decode b_M_answersPart 12 = .ok (.iaload, 1) := by decide +kernel
theorem d_M_answersPart_13 : decode b_M_answersPart 13 = .ok (.if_icmp .ge 48, 3) := by decide +kernel
theorem d_M_answersPart_16 : decode b_M_answersPart 16 = .ok (.iload_n 3, 1) := by decide +kernel
theorem d_M_answersPart_17 : decode b_M_answersPart 17 = .ok (.ifCond .ne 32, 3) := by decide +kernel
theorem d_M_answersPart_20 : decode b_M_answersPart 20 = .ok (.aload_n 0, 1) := by decide +kernel
theorem d_M_answersPart_21 : decode b_M_answersPart 21 = .ok (.getfield 35, 3) := by decide +kernel
theorem d_M_answersPart_24 : decode b_M_answersPart 24 = .ok (.iconst 4, 1) := by decide +kernel
theorem d_M_answersPart_25 : decode b_M_answersPart 25 = .ok (.iload_n 1, 1) := by decide +kernel
theorem d_M_answersPart_26 : decode b_M_answersPart 26 = .ok (.imul, 1) := by decide +kernel
theorem d_M_answersPart_27 : decode b_M_answersPart 27 = .ok (.iload 4, 2) := by decide +kernel
theorem d_M_answersPart_29 : decode b_M_answersPart 29 = .ok (.iadd, 1) := by decide +kernel
theorem d_M_answersPart_30 : decode b_M_answersPart 30 = .ok (.iaload, 1) := by decide +kernel
theorem d_M_answersPart_31 : decode b_M_answersPart 31 = .ok (.ifCond .ge 22, 3) := by decide +kernel
theorem d_M_answersPart_34 : decode b_M_answersPart 34 = .ok (.aload_n 0, 1) := by decide +kernel
theorem d_M_answersPart_35 : decode b_M_answersPart 35 = .ok (.getfield 38, 3) := by decide +kernel
theorem d_M_answersPart_38 : decode b_M_answersPart 38 = .ok (.iconst 4, 1) := by decide +kernel
theorem d_M_answersPart_39 : decode b_M_answersPart 39 = .ok (.iload_n 1, 1) := by decide +kernel
theorem d_M_answersPart_40 : decode b_M_answersPart 40 = .ok (.imul, 1) := by decide +kernel
theorem d_M_answersPart_41 : decode b_M_answersPart 41 = .ok (.iload 4, 2) := by decide +kernel
theorem d_M_answersPart_43 : decode b_M_answersPart 43 = .ok (.iadd, 1) := by decide +kernel
theorem d_M_answersPart_44 : decode b_M_answersPart 44 = .ok (.iaload, 1) := by decide +kernel
theorem d_M_answersPart_45 : decode b_M_answersPart 45 = .ok (.iload_n 2, 1) := by decide +kernel
theorem d_M_answersPart_46 : decode b_M_answersPart 46 = .ok (.if_icmp .ne 7, 3) := by decide +kernel
theorem d_M_answersPart_49 : decode b_M_answersPart 49 = .ok (.iconst 1, 1) := by decide +kernel
theorem d_M_answersPart_50 : decode b_M_answersPart 50 = .ok (.goto 4, 3) := by decide +kernel
theorem d_M_answersPart_53 : decode b_M_answersPart 53 = .ok (.iconst 0, 1) := by decide +kernel
theorem d_M_answersPart_54 : decode b_M_answersPart 54 = .ok (.istore_n 3, 1) := by decide +kernel
theorem d_M_answersPart_55 : decode b_M_answersPart 55 = .ok (.iinc 4 1, 3) := by decide +kernel
theorem d_M_answersPart_58 : decode b_M_answersPart 58 = .ok (.goto (-53), 3) := by decide +kernel
theorem d_M_answersPart_61 : decode b_M_answersPart 61 = .ok (.iload_n 3, 1) := by decide +kernel
theorem d_M_answersPart_62 : decode b_M_answersPart 62 = .ok (.ireturn, 1) := by decide +kernel
theorem d_M_reply_0 : decode b_M_reply 0 = .ok (.aload_n 0, 1) := by decide +kernel
theorem d_M_reply_1 : decode b_M_reply 1 = .ok (.iload_n 1, 1) := by decide +kernel
theorem d_M_reply_2 : decode b_M_reply 2 = .ok (.invokevirtual 91, 3) := by decide +kernel
theorem d_M_reply_5 : decode b_M_reply 5 = .ok (.ifCond .eq 30, 3) := by decide +kernel
theorem d_M_reply_8 : decode b_M_reply 8 = .ok (.aload_n 0, 1) := by decide +kernel
theorem d_M_reply_9 : decode b_M_reply 9 = .ok (.iload_n 1, 1) := by decide +kernel
theorem d_M_reply_10 : decode b_M_reply 10 = .ok (.iload_n 2, 1) := by decide +kernel
theorem d_M_reply_11 : decode b_M_reply 11 = .ok (.invokevirtual 98, 3) := by decide +kernel
theorem d_M_reply_14 : decode b_M_reply 14 = .ok (.ifCond .eq 21, 3) := by decide +kernel
theorem d_M_reply_17 : decode b_M_reply 17 = .ok (.aload_n 0, 1) := by decide +kernel
theorem d_M_reply_18 : decode b_M_reply 18 = .ok (.getfield 7, 3) := by decide +kernel
theorem d_M_reply_21 : decode b_M_reply 21 = .ok (.aload_n 0, 1) := by decide +kernel
theorem d_M_reply_22 : decode b_M_reply 22 = .ok (.getfield 17, 3) := by decide +kernel
theorem d_M_reply_25 : decode b_M_reply 25 = .ok (.iconst 4, 1) := by decide +kernel
theorem d_M_reply_26 : decode b_M_reply 26 = .ok (.iload_n 1, 1) := by decide +kernel
theorem d_M_reply_27 : decode b_M_reply 27 = .ok (.imul, 1) := by decide +kernel
theorem d_M_reply_28 : decode b_M_reply 28 = .ok (.iload_n 2, 1) := by decide +kernel
theorem d_M_reply_29 : decode b_M_reply 29 = .ok (.iadd, 1) := by decide +kernel
theorem d_M_reply_30 : decode b_M_reply 30 = .ok (.iaload, 1) := by decide +kernel
theorem d_M_reply_31 : decode b_M_reply 31 = .ok (.baload, 1) := by decide +kernel
theorem d_M_reply_32 : decode b_M_reply 32 = .ok (.ifCond .ne 5, 3) := by decide +kernel
theorem d_M_reply_35 : decode b_M_reply 35 = .ok (.iconst 0, 1) := by decide +kernel
theorem d_M_reply_36 : decode b_M_reply 36 = .ok (.ireturn, 1) := by decide +kernel
theorem d_M_reply_37 : decode b_M_reply 37 = .ok (.aload_n 0, 1) := by decide +kernel
theorem d_M_reply_38 : decode b_M_reply 38 = .ok (.iload_n 1, 1) := by decide +kernel
theorem d_M_reply_39 : decode b_M_reply 39 = .ok (.iload_n 2, 1) := by decide +kernel
theorem d_M_reply_40 : decode b_M_reply 40 = .ok (.invokevirtual 110, 3) := by decide +kernel
theorem d_M_reply_43 : decode b_M_reply 43 = .ok (.ifCond .ne 24, 3) := by decide +kernel
theorem d_M_reply_46 : decode b_M_reply 46 = .ok (.aload_n 0, 1) := by decide +kernel
theorem d_M_reply_47 : decode b_M_reply 47 = .ok (.iload_n 1, 1) := by decide +kernel
theorem d_M_reply_48 : decode b_M_reply 48 = .ok (.iload_n 3, 1) := by decide +kernel
theorem d_M_reply_49 : decode b_M_reply 49 = .ok (.iload 4, 2) := by decide +kernel
theorem d_M_reply_51 : decode b_M_reply 51 = .ok (.invokevirtual 102, 3) := by decide +kernel
theorem d_M_reply_54 : decode b_M_reply 54 = .ok (.ifCond .eq 13, 3) := by decide +kernel
theorem d_M_reply_57 : decode b_M_reply 57 = .ok (.aload_n 0, 1) := by decide +kernel
theorem d_M_reply_58 : decode b_M_reply 58 = .ok (.getfield 32, 3) := by decide +kernel
theorem d_M_reply_61 : decode b_M_reply 61 = .ok (.iload_n 1, 1) := by decide +kernel
theorem d_M_reply_62 : decode b_M_reply 62 = .ok (.iaload, 1) := by decide +kernel
theorem d_M_reply_63 : decode b_M_reply 63 = .ok (.iconst 4, 1) := by decide +kernel
theorem d_M_reply_64 : decode b_M_reply 64 = .ok (.if_icmp .lt 5, 3) := by decide +kernel
theorem d_M_reply_67 : decode b_M_reply 67 = .ok (.iconst 0, 1) := by decide +kernel
theorem d_M_reply_68 : decode b_M_reply 68 = .ok (.ireturn, 1) := by decide +kernel
theorem d_M_reply_69 : decode b_M_reply 69 = .ok (.aload_n 0, 1) := by decide +kernel
theorem d_M_reply_70 : decode b_M_reply 70 = .ok (.getfield 47, 3) := by decide +kernel
theorem d_M_reply_73 : decode b_M_reply 73 = .ok (.iconst 4, 1) := by decide +kernel
theorem d_M_reply_74 : decode b_M_reply 74 = .ok (.iload_n 1, 1) := by decide +kernel
theorem d_M_reply_75 : decode b_M_reply 75 = .ok (.imul, 1) := by decide +kernel
theorem d_M_reply_76 : decode b_M_reply 76 = .ok (.aload_n 0, 1) := by decide +kernel
theorem d_M_reply_77 : decode b_M_reply 77 = .ok (.getfield 32, 3) := by decide +kernel
theorem d_M_reply_80 : decode b_M_reply 80 = .ok (.iload_n 1, 1) := by decide +kernel
theorem d_M_reply_81 : decode b_M_reply 81 = .ok (.iaload, 1) := by decide +kernel
theorem d_M_reply_82 : decode b_M_reply 82 = .ok (.iadd, 1) := by decide +kernel
theorem d_M_reply_83 : decode b_M_reply 83 = .ok (.iload 5, 2) := by decide +kernel
theorem d_M_reply_85 : decode b_M_reply 85 = .ok (.iastore, 1) := by decide +kernel
theorem d_M_reply_86 : decode b_M_reply 86 = .ok (.aload_n 0, 1) := by decide +kernel
theorem d_M_reply_87 : decode b_M_reply 87 = .ok (.iload_n 1, 1) := by decide +kernel
theorem d_M_reply_88 : decode b_M_reply 88 = .ok (.iconst (-1), 1) := by decide +kernel
theorem d_M_reply_89 : decode b_M_reply 89 = .ok (.iload_n 2, 1) := by decide +kernel
theorem d_M_reply_90 : decode b_M_reply 90 = .ok (.iload_n 3, 1) := by decide +kernel
theorem d_M_reply_91 : decode b_M_reply 91 = .ok (.iload 4, 2) := by decide +kernel
theorem d_M_reply_93 : decode b_M_reply 93 = .ok (.invokevirtual 106, 3) := by decide +kernel
theorem d_M_reply_96 : decode b_M_reply 96 = .ok (.iconst 1, 1) := by decide +kernel
theorem d_M_reply_97 : decode b_M_reply 97 = .ok (.ireturn, 1) := by decide +kernel
theorem d_M_seal_0 : decode b_M_seal 0 = .ok (.aload_n 0, 1) := by decide +kernel
theorem d_M_seal_1 : decode b_M_seal 1 = .ok (.getfield 80, 3) := by decide +kernel
theorem d_M_seal_4 : decode b_M_seal 4 = .ok (.ifCond .eq 5, 3) := by decide +kernel
theorem d_M_seal_7 : decode b_M_seal 7 = .ok (.iconst 1, 1) := by decide +kernel
theorem d_M_seal_8 : decode b_M_seal 8 = .ok (.ireturn, 1) := by decide +kernel
theorem d_M_seal_9 : decode b_M_seal 9 = .ok (.aload_n 0, 1) := by decide +kernel
theorem d_M_seal_10 : decode b_M_seal 10 = .ok (.getfield 88, 3) := by decide +kernel
theorem d_M_seal_13 : decode b_M_seal 13 = .ok (.ifCond .ne 5, 3) := by decide +kernel
theorem d_M_seal_16 : decode b_M_seal 16 = .ok (.iconst 2, 1) := by decide +kernel
theorem d_M_seal_17 : decode b_M_seal 17 = .ok (.ireturn, 1) := by decide +kernel
theorem d_M_seal_18 : decode b_M_seal 18 = .ok (.iconst 0, 1) := by decide +kernel
theorem d_M_seal_19 : decode b_M_seal 19 = .ok (.istore_n 1, 1) := by decide +kernel
theorem d_M_seal_20 : decode b_M_seal 20 = .ok (.iconst 0, 1) := by decide +kernel
theorem d_M_seal_21 : decode b_M_seal 21 = .ok (.istore_n 2, 1) := by decide +kernel
theorem d_M_seal_22 : decode b_M_seal 22 = .ok (.iconst 0, 1) := by decide +kernel
theorem d_M_seal_23 : decode b_M_seal 23 = .ok (.istore_n 3, 1) := by decide +kernel
theorem d_M_seal_24 : decode b_M_seal 24 = .ok (.iload_n 3, 1) := by decide +kernel
theorem d_M_seal_25 : decode b_M_seal 25 = .ok (.aload_n 0, 1) := by decide +kernel
theorem d_M_seal_26 : decode b_M_seal 26 = .ok (.getfield 88, 3) := by decide +kernel
theorem d_M_seal_29 : decode b_M_seal 29 = .ok (.if_icmp .ge 87, 3) := by decide +kernel
theorem d_M_seal_32 : decode b_M_seal 32 = .ok (.iload_n 1, 1) := by decide +kernel
theorem d_M_seal_33 : decode b_M_seal 33 = .ok (.ifCond .ne 12, 3) := by decide +kernel
theorem d_M_seal_36 : decode b_M_seal 36 = .ok (.aload_n 0, 1) := by decide +kernel
theorem d_M_seal_37 : decode b_M_seal 37 = .ok (.getfield 13, 3) := by decide +kernel
theorem d_M_seal_40 : decode b_M_seal 40 = .ok (.iload_n 3, 1) := by decide +kernel
theorem d_M_seal_41 : decode b_M_seal 41 = .ok (.iaload, 1) := by decide +kernel
theorem d_M_seal_42 : decode b_M_seal 42 = .ok (.ifCond .ne 7, 3) := by decide +kernel
theorem d_M_seal_45 : decode b_M_seal 45 = .ok (.iconst 1, 1) := by decide +kernel
theorem d_M_seal_46 : decode b_M_seal 46 = .ok (.goto 4, 3) := by decide +kernel
theorem d_M_seal_49 : decode b_M_seal 49 = .ok (.iconst 0, 1) := by decide +kernel
theorem d_M_seal_50 : decode b_M_seal 50 = .ok (.istore_n 1, 1) := by decide +kernel
theorem d_M_seal_51 : decode b_M_seal 51 = .ok (.iconst 0, 1) := by decide +kernel
theorem d_M_seal_52 : decode b_M_seal 52 = .ok (.istore 4, 2) := by decide +kernel
theorem d_M_seal_54 : decode b_M_seal 54 = .ok (.iload 4, 2) := by decide +kernel
theorem d_M_seal_56 : decode b_M_seal 56 = .ok (.aload_n 0, 1) := by decide +kernel
theorem d_M_seal_57 : decode b_M_seal 57 = .ok (.getfield 13, 3) := by decide +kernel
theorem d_M_seal_60 : decode b_M_seal 60 = .ok (.iload_n 3, 1) := by decide +kernel
theorem d_M_seal_61 : decode b_M_seal 61 = .ok (.iaload, 1) := by decide +kernel
theorem d_M_seal_62 : decode b_M_seal 62 = .ok (.if_icmp .ge 48, 3) := by decide +kernel
theorem d_M_seal_65 : decode b_M_seal 65 = .ok (.iload_n 2, 1) := by decide +kernel
theorem d_M_seal_66 : decode b_M_seal 66 = .ok (.ifCond .ne 32, 3) := by decide +kernel
theorem d_M_seal_69 : decode b_M_seal 69 = .ok (.aload_n 0, 1) := by decide +kernel
theorem d_M_seal_70 : decode b_M_seal 70 = .ok (.getfield 7, 3) := by decide +kernel
theorem d_M_seal_73 : decode b_M_seal 73 = .ok (.aload_n 0, 1) := by decide +kernel
theorem d_M_seal_74 : decode b_M_seal 74 = .ok (.getfield 17, 3) := by decide +kernel
theorem d_M_seal_77 : decode b_M_seal 77 = .ok (.iconst 4, 1) := by decide +kernel
theorem d_M_seal_78 : decode b_M_seal 78 = .ok (.iload_n 3, 1) := by decide +kernel
theorem d_M_seal_79 : decode b_M_seal 79 = .ok (.imul, 1) := by decide +kernel
theorem d_M_seal_80 : decode b_M_seal 80 = .ok (.iload 4, 2) := by decide +kernel
theorem d_M_seal_82 : decode b_M_seal 82 = .ok (.iadd, 1) := by decide +kernel
theorem d_M_seal_83 : decode b_M_seal 83 = .ok (.iaload, 1) := by decide +kernel
theorem d_M_seal_84 : decode b_M_seal 84 = .ok (.baload, 1) := by decide +kernel
theorem d_M_seal_85 : decode b_M_seal 85 = .ok (.ifCond .eq 17, 3) := by decide +kernel
theorem d_M_seal_88 : decode b_M_seal 88 = .ok (.aload_n 0, 1) := by decide +kernel
theorem d_M_seal_89 : decode b_M_seal 89 = .ok (.iload_n 3, 1) := by decide +kernel
theorem d_M_seal_90 : decode b_M_seal 90 = .ok (.iload 4, 2) := by decide +kernel
theorem d_M_seal_92 : decode b_M_seal 92 = .ok (.invokevirtual 110, 3) := by decide +kernel
theorem d_M_seal_95 : decode b_M_seal 95 = .ok (.ifCond .ne 7, 3) := by decide +kernel
theorem d_M_seal_98 : decode b_M_seal 98 = .ok (.iconst 1, 1) := by decide +kernel
theorem d_M_seal_99 : decode b_M_seal 99 = .ok (.goto 4, 3) := by decide +kernel
theorem d_M_seal_102 : decode b_M_seal 102 = .ok (.iconst 0, 1) := by decide +kernel
theorem d_M_seal_103 : decode b_M_seal 103 = .ok (.istore_n 2, 1) := by decide +kernel
theorem d_M_seal_104 : decode b_M_seal 104 = .ok (.iinc 4 1, 3) := by decide +kernel
theorem d_M_seal_107 : decode b_M_seal 107 = .ok (.goto (-53), 3) := by decide +kernel
theorem d_M_seal_110 : decode b_M_seal 110 = .ok (.iinc 3 1, 3) := by decide +kernel
theorem d_M_seal_113 : decode b_M_seal 113 = .ok (.goto (-89), 3) := by decide +kernel
theorem d_M_seal_116 : decode b_M_seal 116 = .ok (.iload_n 1, 1) := by decide +kernel
theorem d_M_seal_117 : decode b_M_seal 117 = .ok (.ifCond .eq 5, 3) := by decide +kernel
theorem d_M_seal_120 : decode b_M_seal 120 = .ok (.iconst 3, 1) := by decide +kernel
theorem d_M_seal_121 : decode b_M_seal 121 = .ok (.ireturn, 1) := by decide +kernel
theorem d_M_seal_122 : decode b_M_seal 122 = .ok (.aload_n 0, 1) := by decide +kernel
theorem d_M_seal_123 : decode b_M_seal 123 = .ok (.iload_n 2, 1) := by decide +kernel
theorem d_M_seal_124 : decode b_M_seal 124 = .ok (.ifCond .ne 7, 3) := by decide +kernel
theorem d_M_seal_127 : decode b_M_seal 127 = .ok (.iconst 1, 1) := by decide +kernel
theorem d_M_seal_128 : decode b_M_seal 128 = .ok (.goto 4, 3) := by decide +kernel
theorem d_M_seal_131 : decode b_M_seal 131 = .ok (.iconst 0, 1) := by decide +kernel
theorem d_M_seal_132 : decode b_M_seal 132 = .ok (.putfield 80, 3) := by decide +kernel
theorem d_M_seal_135 : decode b_M_seal 135 = .ok (.iload_n 2, 1) := by decide +kernel
theorem d_M_seal_136 : decode b_M_seal 136 = .ok (.ifCond .eq 7, 3) := by decide +kernel
theorem d_M_seal_139 : decode b_M_seal 139 = .ok (.iconst 4, 1) := by decide +kernel
theorem d_M_seal_140 : decode b_M_seal 140 = .ok (.goto 4, 3) := by decide +kernel
theorem d_M_seal_143 : decode b_M_seal 143 = .ok (.iconst 0, 1) := by decide +kernel
theorem d_M_seal_144 : decode b_M_seal 144 = .ok (.ireturn, 1) := by decide +kernel
theorem d_M_make_0 : decode b_M_make 0 = .ok (.aload_n 0, 1) := by decide +kernel
theorem d_M_make_1 : decode b_M_make 1 = .ok (.getfield 50, 3) := by decide +kernel
theorem d_M_make_4 : decode b_M_make 4 = .ok (.aload_n 0, 1) := by decide +kernel
theorem d_M_make_5 : decode b_M_make 5 = .ok (.getfield 113, 3) := by decide +kernel
theorem d_M_make_8 : decode b_M_make 8 = .ok (.iload_n 1, 1) := by decide +kernel
theorem d_M_make_9 : decode b_M_make 9 = .ok (.iastore, 1) := by decide +kernel
theorem d_M_make_10 : decode b_M_make 10 = .ok (.aload_n 0, 1) := by decide +kernel
theorem d_M_make_11 : decode b_M_make 11 = .ok (.getfield 53, 3) := by decide +kernel
theorem d_M_make_14 : decode b_M_make 14 = .ok (.aload_n 0, 1) := by decide +kernel
theorem d_M_make_15 : decode b_M_make 15 = .ok (.getfield 113, 3) := by decide +kernel
theorem d_M_make_18 : decode b_M_make 18 = .ok (.iload_n 2, 1) := by decide +kernel
theorem d_M_make_19 : decode b_M_make 19 = .ok (.iastore, 1) := by decide +kernel
theorem d_M_make_20 : decode b_M_make 20 = .ok (.aload_n 0, 1) := by decide +kernel
theorem d_M_make_21 : decode b_M_make 21 = .ok (.getfield 56, 3) := by decide +kernel
theorem d_M_make_24 : decode b_M_make 24 = .ok (.aload_n 0, 1) := by decide +kernel
theorem d_M_make_25 : decode b_M_make 25 = .ok (.getfield 113, 3) := by decide +kernel
theorem d_M_make_28 : decode b_M_make 28 = .ok (.iconst 1, 1) := by decide +kernel
theorem d_M_make_29 : decode b_M_make 29 = .ok (.iastore, 1) := by decide +kernel
theorem d_M_make_30 : decode b_M_make 30 = .ok (.aload_n 0, 1) := by decide +kernel
theorem d_M_make_31 : decode b_M_make 31 = .ok (.getfield 59, 3) := by decide +kernel
theorem d_M_make_34 : decode b_M_make 34 = .ok (.aload_n 0, 1) := by decide +kernel
theorem d_M_make_35 : decode b_M_make 35 = .ok (.getfield 113, 3) := by decide +kernel
theorem d_M_make_38 : decode b_M_make 38 = .ok (.iconst (-1), 1) := by decide +kernel
theorem d_M_make_39 : decode b_M_make 39 = .ok (.iastore, 1) := by decide +kernel
theorem d_M_make_40 : decode b_M_make 40 = .ok (.aload_n 0, 1) := by decide +kernel
theorem d_M_make_41 : decode b_M_make 41 = .ok (.aload_n 0, 1) := by decide +kernel
theorem d_M_make_42 : decode b_M_make 42 = .ok (.getfield 113, 3) := by decide +kernel
theorem d_M_make_45 : decode b_M_make 45 = .ok (.iconst 1, 1) := by decide +kernel
theorem d_M_make_46 : decode b_M_make 46 = .ok (.iadd, 1) := by decide +kernel
theorem d_M_make_47 : decode b_M_make 47 = .ok (.putfield 113, 3) := by decide +kernel
theorem d_M_make_50 : decode b_M_make 50 = .ok (.aload_n 0, 1) := by decide +kernel
theorem d_M_make_51 : decode b_M_make 51 = .ok (.getfield 113, 3) := by decide +kernel
theorem d_M_make_54 : decode b_M_make 54 = .ok (.iconst 1, 1) := by decide +kernel
theorem d_M_make_55 : decode b_M_make 55 = .ok (.isub, 1) := by decide +kernel
theorem d_M_make_56 : decode b_M_make 56 = .ok (.ireturn, 1) := by decide +kernel
theorem d_M_gather_0 : decode b_M_gather 0 = .ok (.iconst 0, 1) := by decide +kernel
theorem d_M_gather_1 : decode b_M_gather 1 = .ok (.istore_n 1, 1) := by decide +kernel
theorem d_M_gather_2 : decode b_M_gather 2 = .ok (.iload_n 1, 1) := by decide +kernel
theorem d_M_gather_3 : decode b_M_gather 3 = .ok (.bipush 8, 2) := by decide +kernel
theorem d_M_gather_5 : decode b_M_gather 5 = .ok (.if_icmp .ge 16, 3) := by decide +kernel
theorem d_M_gather_8 : decode b_M_gather 8 = .ok (.aload_n 0, 1) := by decide +kernel
theorem d_M_gather_9 : decode b_M_gather 9 = .ok (.getfield 71, 3) := by decide +kernel
theorem d_M_gather_12 : decode b_M_gather 12 = .ok (.iload_n 1, 1) := by decide +kernel
theorem d_M_gather_13 : decode b_M_gather 13 = .ok (.iconst 0, 1) := by decide +kernel
theorem d_M_gather_14 : decode b_M_gather 14 = .ok (.iastore, 1) := by decide +kernel
theorem d_M_gather_15 : decode b_M_gather 15 = .ok (.iinc 1 1, 3) := by decide +kernel
theorem d_M_gather_18 : decode b_M_gather 18 = .ok (.goto (-16), 3) := by decide +kernel
theorem d_M_gather_21 : decode b_M_gather 21 = .ok (.iconst 0, 1) := by decide +kernel
theorem d_M_gather_22 : decode b_M_gather 22 = .ok (.istore_n 1, 1) := by decide +kernel
theorem d_M_gather_23 : decode b_M_gather 23 = .ok (.iload_n 1, 1) := by decide +kernel
theorem d_M_gather_24 : decode b_M_gather 24 = .ok (.aload_n 0, 1) := by decide +kernel
theorem d_M_gather_25 : decode b_M_gather 25 = .ok (.getfield 113, 3) := by decide +kernel
theorem d_M_gather_28 : decode b_M_gather 28 = .ok (.if_icmp .ge 57, 3) := by decide +kernel
theorem d_M_gather_31 : decode b_M_gather 31 = .ok (.aload_n 0, 1) := by decide +kernel
theorem d_M_gather_32 : decode b_M_gather 32 = .ok (.getfield 50, 3) := by decide +kernel
theorem d_M_gather_35 : decode b_M_gather 35 = .ok (.iload_n 1, 1) := by decide +kernel
theorem d_M_gather_36 : decode b_M_gather 36 = .ok (.iaload, 1) := by decide +kernel
theorem d_M_gather_37 : decode b_M_gather 37 = .ok (.istore_n 2, 1) := by decide +kernel
theorem d_M_gather_38 : decode b_M_gather 38 = .ok (.aload_n 0, 1) := by decide +kernel
theorem d_M_gather_39 : decode b_M_gather 39 = .ok (.getfield 56, 3) := by decide +kernel
theorem d_M_gather_42 : decode b_M_gather 42 = .ok (.iload_n 1, 1) := by decide +kernel
theorem d_M_gather_43 : decode b_M_gather 43 = .ok (.iaload, 1) := by decide +kernel
theorem d_M_gather_44 : decode b_M_gather 44 = .ok (.iconst 1, 1) := by decide +kernel
theorem d_M_gather_45 : decode b_M_gather 45 = .ok (.if_icmp .ne 34, 3) := by decide +kernel
theorem d_M_gather_48 : decode b_M_gather 48 = .ok (.aload_n 0, 1) := by decide +kernel
theorem d_M_gather_49 : decode b_M_gather 49 = .ok (.getfield 68, 3) := by decide +kernel
theorem d_M_gather_52 : decode b_M_gather 52 = .ok (.bipush 6, 2) := by decide +kernel
theorem d_M_gather_54 : decode b_M_gather 54 = .ok (.iload_n 2, 1) := by decide +kernel
theorem d_M_gather_55 : decode b_M_gather 55 = .ok (.imul, 1) := by decide +kernel
theorem d_M_gather_56 : decode b_M_gather 56 = .ok (.aload_n 0, 1) := by decide +kernel
theorem d_M_gather_57 : decode b_M_gather 57 = .ok (.getfield 71, 3) := by decide +kernel
theorem d_M_gather_60 : decode b_M_gather 60 = .ok (.iload_n 2, 1) := by decide +kernel
theorem d_M_gather_61 : decode b_M_gather 61 = .ok (.iaload, 1) := by decide +kernel
theorem d_M_gather_62 : decode b_M_gather 62 = .ok (.iadd, 1) := by decide +kernel
theorem d_M_gather_63 : decode b_M_gather 63 = .ok (.iload_n 1, 1) := by decide +kernel
theorem d_M_gather_64 : decode b_M_gather 64 = .ok (.iastore, 1) := by decide +kernel
theorem d_M_gather_65 : decode b_M_gather 65 = .ok (.aload_n 0, 1) := by decide +kernel
theorem d_M_gather_66 : decode b_M_gather 66 = .ok (.getfield 71, 3) := by decide +kernel
theorem d_M_gather_69 : decode b_M_gather 69 = .ok (.iload_n 2, 1) := by decide +kernel
theorem d_M_gather_70 : decode b_M_gather 70 = .ok (.aload_n 0, 1) := by decide +kernel
theorem d_M_gather_71 : decode b_M_gather 71 = .ok (.getfield 71, 3) := by decide +kernel
theorem d_M_gather_74 : decode b_M_gather 74 = .ok (.iload_n 2, 1) := by decide +kernel
theorem d_M_gather_75 : decode b_M_gather 75 = .ok (.iaload, 1) := by decide +kernel
theorem d_M_gather_76 : decode b_M_gather 76 = .ok (.iconst 1, 1) := by decide +kernel
theorem d_M_gather_77 : decode b_M_gather 77 = .ok (.iadd, 1) := by decide +kernel
theorem d_M_gather_78 : decode b_M_gather 78 = .ok (.iastore, 1) := by decide +kernel
theorem d_M_gather_79 : decode b_M_gather 79 = .ok (.iinc 1 1, 3) := by decide +kernel
theorem d_M_gather_82 : decode b_M_gather 82 = .ok (.goto (-59), 3) := by decide +kernel
theorem d_M_gather_85 : decode b_M_gather 85 = .ok (.return_, 1) := by decide +kernel
theorem d_M_enter_0 : decode b_M_enter 0 = .ok (.aload_n 0, 1) := by decide +kernel
theorem d_M_enter_1 : decode b_M_enter 1 = .ok (.invokevirtual 116, 3) := by decide +kernel
theorem d_M_enter_4 : decode b_M_enter 4 = .ok (.aload_n 0, 1) := by decide +kernel
theorem d_M_enter_5 : decode b_M_enter 5 = .ok (.getfield 80, 3) := by decide +kernel
theorem d_M_enter_8 : decode b_M_enter 8 = .ok (.ifCond .eq 42, 3) := by decide +kernel
theorem d_M_enter_11 : decode b_M_enter 11 = .ok (.aload_n 0, 1) := by decide +kernel
theorem d_M_enter_12 : decode b_M_enter 12 = .ok (.iload_n 1, 1) := by decide +kernel
theorem d_M_enter_13 : decode b_M_enter 13 = .ok (.invokevirtual 95, 3) := by decide +kernel
theorem d_M_enter_16 : decode b_M_enter 16 = .ok (.ifCond .eq 34, 3) := by decide +kernel
theorem d_M_enter_19 : decode b_M_enter 19 = .ok (.aload_n 0, 1) := by decide +kernel
theorem d_M_enter_20 : decode b_M_enter 20 = .ok (.getfield 7, 3) := by decide +kernel
theorem d_M_enter_23 : decode b_M_enter 23 = .ok (.iload_n 1, 1) := by decide +kernel
theorem d_M_enter_24 : decode b_M_enter 24 = .ok (.baload, 1) := by decide +kernel
theorem d_M_enter_25 : decode b_M_enter 25 = .ok (.iload_n 3, 1) := by decide +kernel
theorem d_M_enter_26 : decode b_M_enter 26 = .ok (.if_icmp .ne 24, 3) := by decide +kernel
theorem d_M_enter_29 : decode b_M_enter 29 = .ok (.aload_n 0, 1) := by decide +kernel
theorem d_M_enter_30 : decode b_M_enter 30 = .ok (.getfield 71, 3) := by decide +kernel
theorem d_M_enter_33 : decode b_M_enter 33 = .ok (.iload_n 1, 1) := by decide +kernel
theorem d_M_enter_34 : decode b_M_enter 34 = .ok (.iaload, 1) := by decide +kernel
theorem d_M_enter_35 : decode b_M_enter 35 = .ok (.bipush 6, 2) := by decide +kernel
theorem d_M_enter_37 : decode b_M_enter 37 = .ok (.if_icmp .ge 13, 3) := by decide +kernel
theorem d_M_enter_40 : decode b_M_enter 40 = .ok (.aload_n 0, 1) := by decide +kernel
theorem d_M_enter_41 : decode b_M_enter 41 = .ok (.getfield 113, 3) := by decide +kernel
theorem d_M_enter_44 : decode b_M_enter 44 = .ok (.sipush 300, 3) := by decide +kernel
theorem d_M_enter_47 : decode b_M_enter 47 = .ok (.if_icmp .lt 5, 3) := by decide +kernel
theorem d_M_enter_50 : decode b_M_enter 50 = .ok (.iconst (-1), 1) := by decide +kernel
theorem d_M_enter_51 : decode b_M_enter 51 = .ok (.ireturn, 1) := by decide +kernel
theorem d_M_enter_52 : decode b_M_enter 52 = .ok (.aload_n 0, 1) := by decide +kernel
theorem d_M_enter_53 : decode b_M_enter 53 = .ok (.iload_n 1, 1) := by decide +kernel
theorem d_M_enter_54 : decode b_M_enter 54 = .ok (.iload_n 2, 1) := by decide +kernel
theorem d_M_enter_55 : decode b_M_enter 55 = .ok (.invokevirtual 119, 3) := by decide +kernel
theorem d_M_enter_58 : decode b_M_enter 58 = .ok (.ireturn, 1) := by decide +kernel
theorem d_M_put_0 : decode b_M_put 0 = .ok (.aload_n 0, 1) := by decide +kernel
theorem d_M_put_1 : decode b_M_put 1 = .ok (.iload_n 1, 1) := by decide +kernel
theorem d_M_put_2 : decode b_M_put 2 = .ok (.iload_n 2, 1) := by decide +kernel
theorem d_M_put_3 : decode b_M_put 3 = .ok (.iconst 0, 1) := by decide +kernel
theorem d_M_put_4 : decode b_M_put 4 = .ok (.invokevirtual 123, 3) := by decide +kernel
theorem d_M_put_7 : decode b_M_put 7 = .ok (.ireturn, 1) := by decide +kernel
theorem d_M_call_0 : decode b_M_call 0 = .ok (.aload_n 0, 1) := by decide +kernel
theorem d_M_call_1 : decode b_M_call 1 = .ok (.iload_n 1, 1) := by decide +kernel
theorem d_M_call_2 : decode b_M_call 2 = .ok (.iload_n 2, 1) := by decide +kernel
theorem d_M_call_3 : decode b_M_call 3 = .ok (.iconst 1, 1) := by decide +kernel
theorem d_M_call_4 : decode b_M_call 4 = .ok (.invokevirtual 123, 3) := by decide +kernel
theorem d_M_call_7 : decode b_M_call 7 = .ok (.ireturn, 1) := by decide +kernel
theorem d_M_isMessage_0 : decode b_M_isMessage 0 = .ok (.iload_n 1, 1) := by decide +kernel
theorem d_M_isMessage_1 : decode b_M_isMessage 1 = .ok (.ifCond .lt 15, 3) := by decide +kernel
theorem d_M_isMessage_4 : decode b_M_isMessage 4 = .ok (.iload_n 1, 1) := by decide +kernel
theorem d_M_isMessage_5 : decode b_M_isMessage 5 = .ok (.aload_n 0, 1) := by decide +kernel
theorem d_M_isMessage_6 : decode b_M_isMessage 6 = .ok (.getfield 113, 3) := by decide +kernel
theorem d_M_isMessage_9 : decode b_M_isMessage 9 = .ok (.if_icmp .ge 7, 3) := by decide +kernel
theorem d_M_isMessage_12 : decode b_M_isMessage 12 = .ok (.iconst 1, 1) := by decide +kernel
theorem d_M_isMessage_13 : decode b_M_isMessage 13 = .ok (.goto 4, 3) := by decide +kernel
theorem d_M_isMessage_16 : decode b_M_isMessage 16 = .ok (.iconst 0, 1) := by decide +kernel
theorem d_M_isMessage_17 : decode b_M_isMessage 17 = .ok (.ireturn, 1) := by decide +kernel
theorem d_M_withdraw_0 : decode b_M_withdraw 0 = .ok (.aload_n 0, 1) := by decide +kernel
theorem d_M_withdraw_1 : decode b_M_withdraw 1 = .ok (.iload_n 1, 1) := by decide +kernel
theorem d_M_withdraw_2 : decode b_M_withdraw 2 = .ok (.invokevirtual 127, 3) := by decide +kernel
theorem d_M_withdraw_5 : decode b_M_withdraw 5 = .ok (.ifCond .eq 27, 3) := by decide +kernel
theorem d_M_withdraw_8 : decode b_M_withdraw 8 = .ok (.aload_n 0, 1) := by decide +kernel
theorem d_M_withdraw_9 : decode b_M_withdraw 9 = .ok (.getfield 7, 3) := by decide +kernel
theorem d_M_withdraw_12 : decode b_M_withdraw 12 = .ok (.aload_n 0, 1) := by decide +kernel
theorem d_M_withdraw_13 : decode b_M_withdraw 13 = .ok (.getfield 50, 3) := by decide +kernel
theorem d_M_withdraw_16 : decode b_M_withdraw 16 = .ok (.iload_n 1, 1) := by decide +kernel
theorem d_M_withdraw_17 : decode b_M_withdraw 17 = .ok (.iaload, 1) := by decide +kernel
theorem d_M_withdraw_18 : decode b_M_withdraw 18 = .ok (.baload, 1) := by decide +kernel
theorem d_M_withdraw_19 : decode b_M_withdraw 19 = .ok (.ifCond .eq 13, 3) := by decide +kernel
theorem d_M_withdraw_22 : decode b_M_withdraw 22 = .ok (.aload_n 0, 1) := by decide +kernel
theorem d_M_withdraw_23 : decode b_M_withdraw 23 = .ok (.getfield 56, 3) := by decide +kernel
theorem d_M_withdraw_26 : decode b_M_withdraw 26 = .ok (.iload_n 1, 1) := by decide +kernel
theorem d_M_withdraw_27 : decode b_M_withdraw 27 = .ok (.iaload, 1) := by decide +kernel
theorem d_M_withdraw_28 : decode b_M_withdraw 28 = .ok (.iconst 1, 1) := by decide +kernel
theorem d_M_withdraw_29 : decode b_M_withdraw 29 = .ok (.if_icmp .eq 5, 3) := by decide +kernel
theorem d_M_withdraw_32 : decode b_M_withdraw 32 = .ok (.iconst 0, 1) := by decide +kernel
theorem d_M_withdraw_33 : decode b_M_withdraw 33 = .ok (.ireturn, 1) := by decide +kernel
theorem d_M_withdraw_34 : decode b_M_withdraw 34 = .ok (.aload_n 0, 1) := by decide +kernel
theorem d_M_withdraw_35 : decode b_M_withdraw 35 = .ok (.getfield 56, 3) := by decide +kernel
theorem d_M_withdraw_38 : decode b_M_withdraw 38 = .ok (.iload_n 1, 1) := by decide +kernel
theorem d_M_withdraw_39 : decode b_M_withdraw 39 = .ok (.iconst 3, 1) := by decide +kernel
theorem d_M_withdraw_40 : decode b_M_withdraw 40 = .ok (.iastore, 1) := by decide +kernel
theorem d_M_withdraw_41 : decode b_M_withdraw 41 = .ok (.iconst 1, 1) := by decide +kernel
theorem d_M_withdraw_42 : decode b_M_withdraw 42 = .ok (.ireturn, 1) := by decide +kernel
theorem d_M_passes_0 : decode b_M_passes 0 = .ok (.aload_n 0, 1) := by decide +kernel
theorem d_M_passes_1 : decode b_M_passes 1 = .ok (.getfield 23, 3) := by decide +kernel
theorem d_M_passes_4 : decode b_M_passes 4 = .ok (.iload_n 1, 1) := by decide +kernel
theorem d_M_passes_5 : decode b_M_passes 5 = .ok (.iaload, 1) := by decide +kernel
theorem d_M_passes_6 : decode b_M_passes 6 = .ok (.istore_n 3, 1) := by decide +kernel
theorem d_M_passes_7 : decode b_M_passes 7 = .ok (.aload_n 0, 1) := by decide +kernel
theorem d_M_passes_8 : decode b_M_passes 8 = .ok (.getfield 20, 3) := by decide +kernel
theorem d_M_passes_11 : decode b_M_passes 11 = .ok (.iload_n 1, 1) := by decide +kernel
theorem d_M_passes_12 : decode b_M_passes 12 = .ok (.iaload, 1) := by decide +kernel
theorem d_M_passes_13 : decode b_M_passes 13 = .ok (.istore 4, 2) := by decide +kernel
theorem d_M_passes_15 : decode b_M_passes 15 = .ok (.iload 4, 2) := by decide +kernel
theorem d_M_passes_17 : decode b_M_passes 17 = .ok (.ifCond .eq 48, 3) := by decide +kernel
theorem d_M_passes_20 : decode b_M_passes 20 = .ok (.iload 4, 2) := by decide +kernel
theorem d_M_passes_22 : decode b_M_passes 22 = .ok (.iconst 1, 1) := by decide +kernel
theorem d_M_passes_23 : decode b_M_passes 23 = .ok (.if_icmp .ne 8, 3) := by decide +kernel
theorem d_M_passes_26 : decode b_M_passes 26 = .ok (.iload_n 2, 1) := by decide +kernel
theorem d_M_passes_27 : decode b_M_passes 27 = .ok (.iload_n 3, 1) := by decide +kernel
theorem d_M_passes_28 : decode b_M_passes 28 = .ok (.if_icmp .eq 37, 3) := by decide +kernel
theorem d_M_passes_31 : decode b_M_passes 31 = .ok (.iload 4, 2) := by decide +kernel
theorem d_M_passes_33 : decode b_M_passes 33 = .ok (.iconst 2, 1) := by decide +kernel
theorem d_M_passes_34 : decode b_M_passes 34 = .ok (.if_icmp .ne 8, 3) := by decide +kernel
theorem d_M_passes_37 : decode b_M_passes 37 = .ok (.iload_n 2, 1) := by decide +kernel
theorem d_M_passes_38 : decode b_M_passes 38 = .ok (.iload_n 3, 1) := by decide +kernel
theorem d_M_passes_39 : decode b_M_passes 39 = .ok (.if_icmp .lt 26, 3) := by decide +kernel
theorem d_M_passes_42 : decode b_M_passes 42 = .ok (.iload 4, 2) := by decide +kernel
theorem d_M_passes_44 : decode b_M_passes 44 = .ok (.iconst 3, 1) := by decide +kernel
theorem d_M_passes_45 : decode b_M_passes 45 = .ok (.if_icmp .ne 8, 3) := by decide +kernel
theorem d_M_passes_48 : decode b_M_passes 48 = .ok (.iload_n 2, 1) := by decide +kernel
theorem d_M_passes_49 : decode b_M_passes 49 = .ok (.iload_n 3, 1) := by decide +kernel
theorem d_M_passes_50 : decode b_M_passes 50 = .ok (.if_icmp .ge 15, 3) := by decide +kernel
theorem d_M_passes_53 : decode b_M_passes 53 = .ok (.iload 4, 2) := by decide +kernel
theorem d_M_passes_55 : decode b_M_passes 55 = .ok (.iconst 4, 1) := by decide +kernel
theorem d_M_passes_56 : decode b_M_passes 56 = .ok (.if_icmp .ne 13, 3) := by decide +kernel
theorem d_M_passes_59 : decode b_M_passes 59 = .ok (.iload_n 2, 1) := by decide +kernel
theorem d_M_passes_60 : decode b_M_passes 60 = .ok (.iload_n 3, 1) := by decide +kernel
theorem d_M_passes_61 : decode b_M_passes 61 = .ok (.iand, 1) := by decide +kernel
theorem d_M_passes_62 : decode b_M_passes 62 = .ok (.ifCond .eq 7, 3) := by decide +kernel
theorem d_M_passes_65 : decode b_M_passes 65 = .ok (.iconst 1, 1) := by decide +kernel
theorem d_M_passes_66 : decode b_M_passes 66 = .ok (.goto 4, 3) := by decide +kernel
theorem d_M_passes_69 : decode b_M_passes 69 = .ok (.iconst 0, 1) := by decide +kernel
theorem d_M_passes_70 : decode b_M_passes 70 = .ok (.ireturn, 1) := by decide +kernel
theorem d_M_guarded_0 : decode b_M_guarded 0 = .ok (.aload_n 0, 1) := by decide +kernel
theorem d_M_guarded_1 : decode b_M_guarded 1 = .ok (.getfield 26, 3) := by decide +kernel
theorem d_M_guarded_4 : decode b_M_guarded 4 = .ok (.iload_n 1, 1) := by decide +kernel
theorem d_M_guarded_5 : decode b_M_guarded 5 = .ok (.iaload, 1) := by decide +kernel
theorem d_M_guarded_6 : decode b_M_guarded 6 = .ok (.istore_n 2, 1) := by decide +kernel
theorem d_M_guarded_7 : decode b_M_guarded 7 = .ok (.aload_n 0, 1) := by decide +kernel
theorem d_M_guarded_8 : decode b_M_guarded 8 = .ok (.getfield 29, 3) := by decide +kernel
theorem d_M_guarded_11 : decode b_M_guarded 11 = .ok (.iload_n 1, 1) := by decide +kernel
theorem d_M_guarded_12 : decode b_M_guarded 12 = .ok (.iaload, 1) := by decide +kernel
theorem d_M_guarded_13 : decode b_M_guarded 13 = .ok (.istore_n 3, 1) := by decide +kernel
theorem d_M_guarded_14 : decode b_M_guarded 14 = .ok (.lconst 0, 1) := by decide +kernel
theorem d_M_guarded_15 : decode b_M_guarded 15 = .ok (.lstore 4, 2) := by decide +kernel
theorem d_M_guarded_17 : decode b_M_guarded 17 = .ok (.iconst 1, 1) := by decide +kernel
theorem d_M_guarded_18 : decode b_M_guarded 18 = .ok (.istore 6, 2) := by decide +kernel
theorem d_M_guarded_20 : decode b_M_guarded 20 = .ok (.iconst 1, 1) := by decide +kernel
theorem d_M_guarded_21 : decode b_M_guarded 21 = .ok (.istore 7, 2) := by decide +kernel
theorem d_M_guarded_23 : decode b_M_guarded 23 = .ok (.iconst 1, 1) := by decide +kernel
theorem d_M_guarded_24 : decode b_M_guarded 24 = .ok (.istore 8, 2) := by decide +kernel
theorem d_M_guarded_26 : decode b_M_guarded 26 = .ok (.iconst 0, 1) := by decide +kernel
theorem d_M_guarded_27 : decode b_M_guarded 27 = .ok (.istore 9, 2) := by decide +kernel
theorem d_M_guarded_29 : decode b_M_guarded 29 = .ok (.iload 9, 2) := by decide +kernel
theorem d_M_guarded_31 : decode b_M_guarded 31 = .ok (.aload_n 0, 1) := by decide +kernel
theorem d_M_guarded_32 : decode b_M_guarded 32 = .ok (.getfield 13, 3) := by decide +kernel
theorem d_M_guarded_35 : decode b_M_guarded 35 = .ok (.iload_n 1, 1) := by decide +kernel
theorem d_M_guarded_36 : decode b_M_guarded 36 = .ok (.iaload, 1) := by decide +kernel
theorem d_M_guarded_37 : decode b_M_guarded 37 = .ok (.if_icmp .ge 134, 3) := by decide +kernel
theorem d_M_guarded_40 : decode b_M_guarded 40 = .ok (.lload 4, 2) := by decide +kernel
theorem d_M_guarded_42 : decode b_M_guarded 42 = .ok (.aload_n 0, 1) := by decide +kernel
theorem d_M_guarded_43 : decode b_M_guarded 43 = .ok (.getfield 77, 3) := by decide +kernel
theorem d_M_guarded_46 : decode b_M_guarded 46 = .ok (.iload 9, 2) := by decide +kernel
theorem d_M_guarded_48 : decode b_M_guarded 48 = .ok (.iaload, 1) := by decide +kernel
theorem d_M_guarded_49 : decode b_M_guarded 49 = .ok (.i2l, 1) := by decide +kernel
theorem d_M_guarded_50 : decode b_M_guarded 50 = .ok (.ladd, 1) := by decide +kernel
theorem d_M_guarded_51 : decode b_M_guarded 51 = .ok (.lstore 4, 2) := by decide +kernel
theorem d_M_guarded_53 : decode b_M_guarded 53 = .ok (.iconst 0, 1) := by decide +kernel
theorem d_M_guarded_54 : decode b_M_guarded 54 = .ok (.istore 10, 2) := by decide +kernel
theorem d_M_guarded_56 : decode b_M_guarded 56 = .ok (.iload 10, 2) := by decide +kernel
theorem d_M_guarded_58 : decode b_M_guarded 58 = .ok (.iload 9, 2) := by decide +kernel
theorem d_M_guarded_60 : decode b_M_guarded 60 = .ok (.if_icmp .ge 105, 3) := by decide +kernel
theorem d_M_guarded_63 : decode b_M_guarded 63 = .ok (.iload 6, 2) := by decide +kernel
theorem d_M_guarded_65 : decode b_M_guarded 65 = .ok (.ifCond .eq 33, 3) := by decide +kernel
theorem d_M_guarded_68 : decode b_M_guarded 68 = .ok (.iload 10, 2) := by decide +kernel
theorem d_M_guarded_70 : decode b_M_guarded 70 = .ok (.iload 9, 2) := by decide +kernel
theorem d_M_guarded_72 : decode b_M_guarded 72 = .ok (.iconst 1, 1) := by decide +kernel
theorem d_M_guarded_73 : decode b_M_guarded 73 = .ok (.isub, 1) := by decide +kernel
theorem d_M_guarded_74 : decode b_M_guarded 74 = .ok (.if_icmp .lt 20, 3) := by decide +kernel
theorem d_M_guarded_77 : decode b_M_guarded 77 = .ok (.aload_n 0, 1) := by decide +kernel
theorem d_M_guarded_78 : decode b_M_guarded 78 = .ok (.getfield 77, 3) := by decide +kernel
theorem d_M_guarded_81 : decode b_M_guarded 81 = .ok (.iload 10, 2) := by decide +kernel
theorem d_M_guarded_83 : decode b_M_guarded 83 = .ok (.iaload, 1) := by decide +kernel
theorem d_M_guarded_84 : decode b_M_guarded 84 = .ok (.aload_n 0, 1) := by decide +kernel
theorem d_M_guarded_85 : decode b_M_guarded 85 = .ok (.getfield 77, 3) := by decide +kernel
theorem d_M_guarded_88 : decode b_M_guarded 88 = .ok (.iload 9, 2) := by decide +kernel
theorem d_M_guarded_90 : decode b_M_guarded 90 = .ok (.iaload, 1) := by decide +kernel
theorem d_M_guarded_91 : decode b_M_guarded 91 = .ok (.if_icmp .ge 7, 3) := by decide +kernel
theorem d_M_guarded_94 : decode b_M_guarded 94 = .ok (.iconst 1, 1) := by decide +kernel
theorem d_M_guarded_95 : decode b_M_guarded 95 = .ok (.goto 4, 3) := by decide +kernel
theorem d_M_guarded_98 : decode b_M_guarded 98 = .ok (.iconst 0, 1) := by decide +kernel
theorem d_M_guarded_99 : decode b_M_guarded 99 = .ok (.istore 6, 2) := by decide +kernel
theorem d_M_guarded_101 : decode b_M_guarded 101 = .ok (.iload 7, 2) := by decide +kernel
theorem d_M_guarded_103 : decode b_M_guarded 103 = .ok (.ifCond .eq 24, 3) := by decide +kernel
theorem d_M_guarded_106 : decode b_M_guarded 106 = .ok (.aload_n 0, 1) := by decide +kernel
theorem d_M_guarded_107 : decode b_M_guarded 107 = .ok (.getfield 77, 3) := by decide +kernel
theorem d_M_guarded_110 : decode b_M_guarded 110 = .ok (.iload 10, 2) := by decide +kernel
theorem d_M_guarded_112 : decode b_M_guarded 112 = .ok (.iaload, 1) := by decide +kernel
theorem d_M_guarded_113 : decode b_M_guarded 113 = .ok (.aload_n 0, 1) := by decide +kernel
theorem d_M_guarded_114 : decode b_M_guarded 114 = .ok (.getfield 77, 3) := by decide +kernel
theorem d_M_guarded_117 : decode b_M_guarded 117 = .ok (.iload 9, 2) := by decide +kernel
theorem d_M_guarded_119 : decode b_M_guarded 119 = .ok (.iaload, 1) := by decide +kernel
theorem d_M_guarded_120 : decode b_M_guarded 120 = .ok (.if_icmp .ne 7, 3) := by decide +kernel
theorem d_M_guarded_123 : decode b_M_guarded 123 = .ok (.iconst 1, 1) := by decide +kernel
theorem d_M_guarded_124 : decode b_M_guarded 124 = .ok (.goto 4, 3) := by decide +kernel
theorem d_M_guarded_127 : decode b_M_guarded 127 = .ok (.iconst 0, 1) := by decide +kernel
theorem d_M_guarded_128 : decode b_M_guarded 128 = .ok (.istore 7, 2) := by decide +kernel
theorem d_M_guarded_130 : decode b_M_guarded 130 = .ok (.iload 8, 2) := by decide +kernel
theorem d_M_guarded_132 : decode b_M_guarded 132 = .ok (.ifCond .eq 24, 3) := by decide +kernel
theorem d_M_guarded_135 : decode b_M_guarded 135 = .ok (.aload_n 0, 1) := by decide +kernel
theorem d_M_guarded_136 : decode b_M_guarded 136 = .ok (.getfield 77, 3) := by decide +kernel
theorem d_M_guarded_139 : decode b_M_guarded 139 = .ok (.iload 10, 2) := by decide +kernel
theorem d_M_guarded_141 : decode b_M_guarded 141 = .ok (.iaload, 1) := by decide +kernel
theorem d_M_guarded_142 : decode b_M_guarded 142 = .ok (.aload_n 0, 1) := by decide +kernel
theorem d_M_guarded_143 : decode b_M_guarded 143 = .ok (.getfield 77, 3) := by decide +kernel
theorem d_M_guarded_146 : decode b_M_guarded 146 = .ok (.iload 9, 2) := by decide +kernel
theorem d_M_guarded_148 : decode b_M_guarded 148 = .ok (.iaload, 1) := by decide +kernel
theorem d_M_guarded_149 : decode b_M_guarded 149 = .ok (.if_icmp .eq 7, 3) := by decide +kernel
theorem d_M_guarded_152 : decode b_M_guarded 152 = .ok (.iconst 1, 1) := by decide +kernel
theorem d_M_guarded_153 : decode b_M_guarded 153 = .ok (.goto 4, 3) := by decide +kernel
theorem d_M_guarded_156 : decode b_M_guarded 156 = .ok (.iconst 0, 1) := by decide +kernel
theorem d_M_guarded_157 : decode b_M_guarded 157 = .ok (.istore 8, 2) := by decide +kernel
theorem d_M_guarded_159 : decode b_M_guarded 159 = .ok (.iinc 10 1, 3) := by decide +kernel
theorem d_M_guarded_162 : decode b_M_guarded 162 = .ok (.goto (-106), 3) := by decide +kernel
theorem d_M_guarded_165 : decode b_M_guarded 165 = .ok (.iinc 9 1, 3) := by decide +kernel
theorem d_M_guarded_168 : decode b_M_guarded 168 = .ok (.goto (-139), 3) := by decide +kernel
theorem d_M_guarded_171 : decode b_M_guarded 171 = .ok (.iload_n 2, 1) := by decide +kernel
theorem d_M_guarded_172 : decode b_M_guarded 172 = .ok (.ifCond .eq 65, 3) := by decide +kernel
theorem d_M_guarded_175 : decode b_M_guarded 175 = .ok (.iload_n 2, 1) := by decide +kernel
theorem d_M_guarded_176 : decode b_M_guarded 176 = .ok (.iconst 1, 1) := by decide +kernel
theorem d_M_guarded_177 : decode b_M_guarded 177 = .ok (.if_icmp .ne 8, 3) := by decide +kernel
theorem d_M_guarded_180 : decode b_M_guarded 180 = .ok (.iload 6, 2) := by decide +kernel
theorem d_M_guarded_182 : decode b_M_guarded 182 = .ok (.ifCond .ne 55, 3) := by decide +kernel
theorem d_M_guarded_185 : decode b_M_guarded 185 = .ok (.iload_n 2, 1) := by decide +kernel
theorem d_M_guarded_186 : decode b_M_guarded 186 = .ok (.iconst 2, 1) := by decide +kernel
theorem d_M_guarded_187 : decode b_M_guarded 187 = .ok (.if_icmp .ne 8, 3) := by decide +kernel
theorem d_M_guarded_190 : decode b_M_guarded 190 = .ok (.iload 7, 2) := by decide +kernel
theorem d_M_guarded_192 : decode b_M_guarded 192 = .ok (.ifCond .ne 45, 3) := by decide +kernel
theorem d_M_guarded_195 : decode b_M_guarded 195 = .ok (.iload_n 2, 1) := by decide +kernel
theorem d_M_guarded_196 : decode b_M_guarded 196 = .ok (.iconst 3, 1) := by decide +kernel
theorem d_M_guarded_197 : decode b_M_guarded 197 = .ok (.if_icmp .ne 8, 3) := by decide +kernel
theorem d_M_guarded_200 : decode b_M_guarded 200 = .ok (.iload 8, 2) := by decide +kernel
theorem d_M_guarded_202 : decode b_M_guarded 202 = .ok (.ifCond .ne 35, 3) := by decide +kernel
theorem d_M_guarded_205 : decode b_M_guarded 205 = .ok (.iload_n 2, 1) := by decide +kernel
theorem d_M_guarded_206 : decode b_M_guarded 206 = .ok (.iconst 4, 1) := by decide +kernel
theorem d_M_guarded_207 : decode b_M_guarded 207 = .ok (.if_icmp .ne 11, 3) := by decide +kernel
theorem d_M_guarded_210 : decode b_M_guarded 210 = .ok (.lload 4, 2) := by decide +kernel
theorem d_M_guarded_212 : decode b_M_guarded 212 = .ok (.iload_n 3, 1) := by decide +kernel
theorem d_M_guarded_213 : decode b_M_guarded 213 = .ok (.i2l, 1) := by decide +kernel
theorem d_M_guarded_214 : decode b_M_guarded 214 = .ok (.lcmp, 1) := by decide +kernel
theorem d_M_guarded_215 : decode b_M_guarded 215 = .ok (.ifCond .le 22, 3) := by decide +kernel
theorem d_M_guarded_218 : decode b_M_guarded 218 = .ok (.iload_n 2, 1) := by decide +kernel
theorem d_M_guarded_219 : decode b_M_guarded 219 = .ok (.iconst 5, 1) := by decide +kernel
theorem d_M_guarded_220 : decode b_M_guarded 220 = .ok (.if_icmp .ne 21, 3) := by decide +kernel
theorem d_M_guarded_223 : decode b_M_guarded 223 = .ok (.iload_n 3, 1) := by decide +kernel
theorem d_M_guarded_224 : decode b_M_guarded 224 = .ok (.ifCond .eq 17, 3) := by decide +kernel
theorem d_M_guarded_227 : decode b_M_guarded 227 = .ok (.lload 4, 2) := by decide +kernel
theorem d_M_guarded_229 : decode b_M_guarded 229 = .ok (.iload_n 3, 1) := by decide +kernel
theorem d_M_guarded_230 : decode b_M_guarded 230 = .ok (.i2l, 1) := by decide +kernel
theorem d_M_guarded_231 : decode b_M_guarded 231 = .ok (.lrem, 1) := by decide +kernel
theorem d_M_guarded_232 : decode b_M_guarded 232 = .ok (.lconst 0, 1) := by decide +kernel
theorem d_M_guarded_233 : decode b_M_guarded 233 = .ok (.lcmp, 1) := by decide +kernel
theorem d_M_guarded_234 : decode b_M_guarded 234 = .ok (.ifCond .ne 7, 3) := by decide +kernel
theorem d_M_guarded_237 : decode b_M_guarded 237 = .ok (.iconst 1, 1) := by decide +kernel
theorem d_M_guarded_238 : decode b_M_guarded 238 = .ok (.goto 4, 3) := by decide +kernel
theorem d_M_guarded_241 : decode b_M_guarded 241 = .ok (.iconst 0, 1) := by decide +kernel
theorem d_M_guarded_242 : decode b_M_guarded 242 = .ok (.ireturn, 1) := by decide +kernel
theorem d_M_chosen_0 : decode b_M_chosen 0 = .ok (.aload_n 0, 1) := by decide +kernel
theorem d_M_chosen_1 : decode b_M_chosen 1 = .ok (.getfield 68, 3) := by decide +kernel
theorem d_M_chosen_4 : decode b_M_chosen 4 = .ok (.bipush 6, 2) := by decide +kernel
theorem d_M_chosen_6 : decode b_M_chosen 6 = .ok (.aload_n 0, 1) := by decide +kernel
theorem d_M_chosen_7 : decode b_M_chosen 7 = .ok (.getfield 17, 3) := by decide +kernel
theorem d_M_chosen_10 : decode b_M_chosen 10 = .ok (.iconst 4, 1) := by decide +kernel
theorem d_M_chosen_11 : decode b_M_chosen 11 = .ok (.iload_n 1, 1) := by decide +kernel
theorem d_M_chosen_12 : decode b_M_chosen 12 = .ok (.imul, 1) := by decide +kernel
theorem d_M_chosen_13 : decode b_M_chosen 13 = .ok (.iload_n 2, 1) := by decide +kernel
theorem d_M_chosen_14 : decode b_M_chosen 14 = .ok (.iadd, 1) := by decide +kernel
theorem d_M_chosen_15 : decode b_M_chosen 15 = .ok (.iaload, 1) := by decide +kernel
theorem d_M_chosen_16 : decode b_M_chosen 16 = .ok (.imul, 1) := by decide +kernel
theorem d_M_chosen_17 : decode b_M_chosen 17 = .ok (.aload_n 0, 1) := by decide +kernel
theorem d_M_chosen_18 : decode b_M_chosen 18 = .ok (.getfield 74, 3) := by decide +kernel
theorem d_M_chosen_21 : decode b_M_chosen 21 = .ok (.iload_n 2, 1) := by decide +kernel
theorem d_M_chosen_22 : decode b_M_chosen 22 = .ok (.iaload, 1) := by decide +kernel
theorem d_M_chosen_23 : decode b_M_chosen 23 = .ok (.iadd, 1) := by decide +kernel
theorem d_M_chosen_24 : decode b_M_chosen 24 = .ok (.iaload, 1) := by decide +kernel
theorem d_M_chosen_25 : decode b_M_chosen 25 = .ok (.ireturn, 1) := by decide +kernel
theorem d_M_matches_0 : decode b_M_matches 0 = .ok (.iconst 1, 1) := by decide +kernel
theorem d_M_matches_1 : decode b_M_matches 1 = .ok (.istore_n 2, 1) := by decide +kernel
theorem d_M_matches_2 : decode b_M_matches 2 = .ok (.iconst 0, 1) := by decide +kernel
theorem d_M_matches_3 : decode b_M_matches 3 = .ok (.istore_n 3, 1) := by decide +kernel
theorem d_M_matches_4 : decode b_M_matches 4 = .ok (.iload_n 3, 1) := by decide +kernel
theorem d_M_matches_5 : decode b_M_matches 5 = .ok (.aload_n 0, 1) := by decide +kernel
theorem d_M_matches_6 : decode b_M_matches 6 = .ok (.getfield 13, 3) := by decide +kernel
theorem d_M_matches_9 : decode b_M_matches 9 = .ok (.iload_n 1, 1) := by decide +kernel
theorem d_M_matches_10 : decode b_M_matches 10 = .ok (.iaload, 1) := by decide +kernel
theorem d_M_matches_11 : decode b_M_matches 11 = .ok (.if_icmp .ge 96, 3) := by decide +kernel
theorem d_M_matches_14 : decode b_M_matches 14 = .ok (.aload_n 0, 1) := by decide +kernel
theorem d_M_matches_15 : decode b_M_matches 15 = .ok (.iload_n 1, 1) := by decide +kernel
theorem d_M_matches_16 : decode b_M_matches 16 = .ok (.iload_n 3, 1) := by decide +kernel
theorem d_M_matches_17 : decode b_M_matches 17 = .ok (.invokevirtual 130, 3) := by decide +kernel
theorem d_M_matches_20 : decode b_M_matches 20 = .ok (.istore 4, 2) := by decide +kernel
theorem d_M_matches_22 : decode b_M_matches 22 = .ok (.aload_n 0, 1) := by decide +kernel
theorem d_M_matches_23 : decode b_M_matches 23 = .ok (.getfield 77, 3) := by decide +kernel
theorem d_M_matches_26 : decode b_M_matches 26 = .ok (.iload_n 3, 1) := by decide +kernel
theorem d_M_matches_27 : decode b_M_matches 27 = .ok (.aload_n 0, 1) := by decide +kernel
theorem d_M_matches_28 : decode b_M_matches 28 = .ok (.getfield 53, 3) := by decide +kernel
theorem d_M_matches_31 : decode b_M_matches 31 = .ok (.iload 4, 2) := by decide +kernel
theorem d_M_matches_33 : decode b_M_matches 33 = .ok (.iaload, 1) := by decide +kernel
theorem d_M_matches_34 : decode b_M_matches 34 = .ok (.iastore, 1) := by decide +kernel
theorem d_M_matches_35 : decode b_M_matches 35 = .ok (.iload_n 2, 1) := by decide +kernel
theorem d_M_matches_36 : decode b_M_matches 36 = .ok (.ifCond .eq 26, 3) := by decide +kernel
theorem d_M_matches_39 : decode b_M_matches 39 = .ok (.aload_n 0, 1) := by decide +kernel
theorem d_M_matches_40 : decode b_M_matches 40 = .ok (.iconst 4, 1) := by decide +kernel
theorem d_M_matches_41 : decode b_M_matches 41 = .ok (.iload_n 1, 1) := by decide +kernel
theorem d_M_matches_42 : decode b_M_matches 42 = .ok (.imul, 1) := by decide +kernel
theorem d_M_matches_43 : decode b_M_matches 43 = .ok (.iload_n 3, 1) := by decide +kernel
theorem d_M_matches_44 : decode b_M_matches 44 = .ok (.iadd, 1) := by decide +kernel
theorem d_M_matches_45 : decode b_M_matches 45 = .ok (.aload_n 0, 1) := by decide +kernel
theorem d_M_matches_46 : decode b_M_matches 46 = .ok (.getfield 53, 3) := by decide +kernel
theorem d_M_matches_49 : decode b_M_matches 49 = .ok (.iload 4, 2) := by decide +kernel
theorem d_M_matches_51 : decode b_M_matches 51 = .ok (.iaload, 1) := by decide +kernel
theorem d_M_matches_52 : decode b_M_matches 52 = .ok (.invokevirtual 133, 3) := by decide +kernel
theorem d_M_matches_55 : decode b_M_matches 55 = .ok (.ifCond .eq 7, 3) := by decide +kernel
theorem d_M_matches_58 : decode b_M_matches 58 = .ok (.iconst 1, 1) := by decide +kernel
theorem d_M_matches_59 : decode b_M_matches 59 = .ok (.goto 4, 3) := by decide +kernel
theorem d_M_matches_62 : decode b_M_matches 62 = .ok (.iconst 0, 1) := by decide +kernel
theorem d_M_matches_63 : decode b_M_matches 63 = .ok (.istore_n 2, 1) := by decide +kernel
theorem d_M_matches_64 : decode b_M_matches 64 = .ok (.iconst 0, 1) := by decide +kernel
theorem d_M_matches_65 : decode b_M_matches 65 = .ok (.istore 5, 2) := by decide +kernel
theorem d_M_matches_67 : decode b_M_matches 67 = .ok (.iload 5, 2) := by decide +kernel
theorem d_M_matches_69 : decode b_M_matches 69 = .ok (.iload_n 3, 1) := by decide +kernel
theorem d_M_matches_70 : decode b_M_matches 70 = .ok (.if_icmp .ge 31, 3) := by decide +kernel
theorem d_M_matches_73 : decode b_M_matches 73 = .ok (.iload_n 2, 1) := by decide +kernel
theorem d_M_matches_74 : decode b_M_matches 74 = .ok (.ifCond .eq 19, 3) := by decide +kernel
theorem d_M_matches_77 : decode b_M_matches 77 = .ok (.aload_n 0, 1) := by decide +kernel
theorem d_M_matches_78 : decode b_M_matches 78 = .ok (.iload_n 1, 1) := by decide +kernel
theorem d_M_matches_79 : decode b_M_matches 79 = .ok (.iload 5, 2) := by decide +kernel
theorem d_M_matches_81 : decode b_M_matches 81 = .ok (.invokevirtual 130, 3) := by decide +kernel
theorem d_M_matches_84 : decode b_M_matches 84 = .ok (.iload 4, 2) := by decide +kernel
theorem d_M_matches_86 : decode b_M_matches 86 = .ok (.if_icmp .eq 7, 3) := by decide +kernel
theorem d_M_matches_89 : decode b_M_matches 89 = .ok (.iconst 1, 1) := by decide +kernel
theorem d_M_matches_90 : decode b_M_matches 90 = .ok (.goto 4, 3) := by decide +kernel
theorem d_M_matches_93 : decode b_M_matches 93 = .ok (.iconst 0, 1) := by decide +kernel
theorem d_M_matches_94 : decode b_M_matches 94 = .ok (.istore_n 2, 1) := by decide +kernel
theorem d_M_matches_95 : decode b_M_matches 95 = .ok (.iinc 5 1, 3) := by decide +kernel
theorem d_M_matches_98 : decode b_M_matches 98 = .ok (.goto (-31), 3) := by decide +kernel
theorem d_M_matches_101 : decode b_M_matches 101 = .ok (.iinc 3 1, 3) := by decide +kernel
theorem d_M_matches_104 : decode b_M_matches 104 = .ok (.goto (-100), 3) := by decide +kernel
theorem d_M_matches_107 : decode b_M_matches 107 = .ok (.iload_n 2, 1) := by decide +kernel
theorem d_M_matches_108 : decode b_M_matches 108 = .ok (.ifCond .eq 15, 3) := by decide +kernel
theorem d_M_matches_111 : decode b_M_matches 111 = .ok (.aload_n 0, 1) := by decide +kernel
theorem d_M_matches_112 : decode b_M_matches 112 = .ok (.iload_n 1, 1) := by decide +kernel
theorem d_M_matches_113 : decode b_M_matches 113 = .ok (.invokevirtual 136, 3) := by decide +kernel
theorem d_M_matches_116 : decode b_M_matches 116 = .ok (.ifCond .eq 7, 3) := by decide +kernel
theorem d_M_matches_119 : decode b_M_matches 119 = .ok (.iconst 1, 1) := by decide +kernel
theorem d_M_matches_120 : decode b_M_matches 120 = .ok (.goto 4, 3) := by decide +kernel
theorem d_M_matches_123 : decode b_M_matches 123 = .ok (.iconst 0, 1) := by decide +kernel
theorem d_M_matches_124 : decode b_M_matches 124 = .ok (.ireturn, 1) := by decide +kernel
theorem d_M_find_0 : decode b_M_find 0 = .ok (.iconst 1, 1) := by decide +kernel
theorem d_M_find_1 : decode b_M_find 1 = .ok (.istore_n 2, 1) := by decide +kernel
theorem d_M_find_2 : decode b_M_find 2 = .ok (.iconst 0, 1) := by decide +kernel
theorem d_M_find_3 : decode b_M_find 3 = .ok (.istore_n 3, 1) := by decide +kernel
theorem d_M_find_4 : decode b_M_find 4 = .ok (.iload_n 3, 1) := by decide +kernel
theorem d_M_find_5 : decode b_M_find 5 = .ok (.aload_n 0, 1) := by decide +kernel
theorem d_M_find_6 : decode b_M_find 6 = .ok (.getfield 13, 3) := by decide +kernel
theorem d_M_find_9 : decode b_M_find 9 = .ok (.iload_n 1, 1) := by decide +kernel
theorem d_M_find_10 : decode b_M_find 10 = .ok (.iaload, 1) := by decide +kernel
theorem d_M_find_11 : decode b_M_find 11 = .ok (.if_icmp .ge 27, 3) := by decide +kernel
theorem d_M_find_14 : decode b_M_find 14 = .ok (.iload_n 2, 1) := by decide +kernel
theorem d_M_find_15 : decode b_M_find 15 = .ok (.aload_n 0, 1) := by decide +kernel
theorem d_M_find_16 : decode b_M_find 16 = .ok (.getfield 71, 3) := by decide +kernel
theorem d_M_find_19 : decode b_M_find 19 = .ok (.aload_n 0, 1) := by decide +kernel
theorem d_M_find_20 : decode b_M_find 20 = .ok (.getfield 17, 3) := by decide +kernel
theorem d_M_find_23 : decode b_M_find 23 = .ok (.iconst 4, 1) := by decide +kernel
theorem d_M_find_24 : decode b_M_find 24 = .ok (.iload_n 1, 1) := by decide +kernel
theorem d_M_find_25 : decode b_M_find 25 = .ok (.imul, 1) := by decide +kernel
theorem d_M_find_26 : decode b_M_find 26 = .ok (.iload_n 3, 1) := by decide +kernel
theorem d_M_find_27 : decode b_M_find 27 = .ok (.iadd, 1) := by decide +kernel
theorem d_M_find_28 : decode b_M_find 28 = .ok (.iaload, 1) := by decide +kernel
theorem d_M_find_29 : decode b_M_find 29 = .ok (.iaload, 1) := by decide +kernel
theorem d_M_find_30 : decode b_M_find 30 = .ok (.imul, 1) := by decide +kernel
theorem d_M_find_31 : decode b_M_find 31 = .ok (.istore_n 2, 1) := by decide +kernel
theorem d_M_find_32 : decode b_M_find 32 = .ok (.iinc 3 1, 3) := by decide +kernel
theorem d_M_find_35 : decode b_M_find 35 = .ok (.goto (-31), 3) := by decide +kernel
theorem d_M_find_38 : decode b_M_find 38 = .ok (.iconst 0, 1) := by decide +kernel
theorem d_M_find_39 : decode b_M_find 39 = .ok (.istore_n 3, 1) := by decide +kernel
theorem d_M_find_40 : decode b_M_find 40 = .ok (.iload_n 3, 1) := by decide +kernel
theorem d_M_find_41 : decode b_M_find 41 = .ok (.iload_n 2, 1) := by decide +kernel
theorem d_M_find_42 : decode b_M_find 42 = .ok (.if_icmp .ge 80, 3) := by decide +kernel
theorem d_M_find_45 : decode b_M_find 45 = .ok (.iload_n 3, 1) := by decide +kernel
theorem d_M_find_46 : decode b_M_find 46 = .ok (.istore 4, 2) := by decide +kernel
theorem d_M_find_48 : decode b_M_find 48 = .ok (.aload_n 0, 1) := by decide +kernel
theorem d_M_find_49 : decode b_M_find 49 = .ok (.getfield 13, 3) := by decide +kernel
theorem d_M_find_52 : decode b_M_find 52 = .ok (.iload_n 1, 1) := by decide +kernel
theorem d_M_find_53 : decode b_M_find 53 = .ok (.iaload, 1) := by decide +kernel
theorem d_M_find_54 : decode b_M_find 54 = .ok (.iconst 1, 1) := by decide +kernel
theorem d_M_find_55 : decode b_M_find 55 = .ok (.isub, 1) := by decide +kernel
theorem d_M_find_56 : decode b_M_find 56 = .ok (.istore 5, 2) := by decide +kernel
theorem d_M_find_58 : decode b_M_find 58 = .ok (.iload 5, 2) := by decide +kernel
theorem d_M_find_60 : decode b_M_find 60 = .ok (.ifCond .lt 46, 3) := by decide +kernel
theorem d_M_find_63 : decode b_M_find 63 = .ok (.aload_n 0, 1) := by decide +kernel
theorem d_M_find_64 : decode b_M_find 64 = .ok (.getfield 71, 3) := by decide +kernel
theorem d_M_find_67 : decode b_M_find 67 = .ok (.aload_n 0, 1) := by decide +kernel
theorem d_M_find_68 : decode b_M_find 68 = .ok (.getfield 17, 3) := by decide +kernel
theorem d_M_find_71 : decode b_M_find 71 = .ok (.iconst 4, 1) := by decide +kernel
theorem d_M_find_72 : decode b_M_find 72 = .ok (.iload_n 1, 1) := by decide +kernel
theorem d_M_find_73 : decode b_M_find 73 = .ok (.imul, 1) := by decide +kernel
theorem d_M_find_74 : decode b_M_find 74 = .ok (.iload 5, 2) := by decide +kernel
theorem d_M_find_76 : decode b_M_find 76 = .ok (.iadd, 1) := by decide +kernel
theorem d_M_find_77 : decode b_M_find 77 = .ok (.iaload, 1) := by decide +kernel
theorem d_M_find_78 : decode b_M_find 78 = .ok (.iaload, 1) := by decide +kernel
theorem d_M_find_79 : decode b_M_find 79 = .ok (.istore 6, 2) := by decide +kernel
theorem d_M_find_81 : decode b_M_find 81 = .ok (.aload_n 0, 1) := by decide +kernel
theorem d_M_find_82 : decode b_M_find 82 = .ok (.getfield 74, 3) := by decide +kernel
theorem d_M_find_85 : decode b_M_find 85 = .ok (.iload 5, 2) := by decide +kernel
theorem d_M_find_87 : decode b_M_find 87 = .ok (.iload 4, 2) := by decide +kernel
theorem d_M_find_89 : decode b_M_find 89 = .ok (.iload 6, 2) := by decide +kernel
theorem d_M_find_91 : decode b_M_find 91 = .ok (.irem, 1) := by decide +kernel
theorem d_M_find_92 : decode b_M_find 92 = .ok (.iastore, 1) := by decide +kernel
theorem d_M_find_93 : decode b_M_find 93 = .ok (.iload 4, 2) := by decide +kernel
theorem d_M_find_95 : decode b_M_find 95 = .ok (.iload 6, 2) := by decide +kernel
theorem d_M_find_97 : decode b_M_find 97 = .ok (.idiv, 1) := by decide +kernel
theorem d_M_find_98 : decode b_M_find 98 = .ok (.istore 4, 2) := by decide +kernel
theorem d_M_find_100 : decode b_M_find 100 = .ok (.iinc 5 (-1), 3) := by decide +kernel
theorem d_M_find_103 : decode b_M_find 103 = .ok (.goto (-45), 3) := by decide +kernel
theorem d_M_find_106 : decode b_M_find 106 = .ok (.aload_n 0, 1) := by decide +kernel
theorem d_M_find_107 : decode b_M_find 107 = .ok (.iload_n 1, 1) := by decide +kernel
theorem d_M_find_108 : decode b_M_find 108 = .ok (.invokevirtual 139, 3) := by decide +kernel
theorem d_M_find_111 : decode b_M_find 111 = .ok (.ifCond .eq 5, 3) := by decide +kernel
theorem d_M_find_114 : decode b_M_find 114 = .ok (.iconst 1, 1) := by decide +kernel
theorem d_M_find_115 : decode b_M_find 115 = .ok (.ireturn, 1) := by decide +kernel
theorem d_M_find_116 : decode b_M_find 116 = .ok (.iinc 3 1, 3) := by decide +kernel
theorem d_M_find_119 : decode b_M_find 119 = .ok (.goto (-79), 3) := by decide +kernel
theorem d_M_find_122 : decode b_M_find 122 = .ok (.iconst 0, 1) := by decide +kernel
theorem d_M_find_123 : decode b_M_find 123 = .ok (.ireturn, 1) := by decide +kernel
theorem d_M_room_0 : decode b_M_room 0 = .ok (.iconst 0, 1) := by decide +kernel
theorem d_M_room_1 : decode b_M_room 1 = .ok (.istore_n 2, 1) := by decide +kernel
theorem d_M_room_2 : decode b_M_room 2 = .ok (.iconst 1, 1) := by decide +kernel
theorem d_M_room_3 : decode b_M_room 3 = .ok (.istore_n 3, 1) := by decide +kernel
theorem d_M_room_4 : decode b_M_room 4 = .ok (.iconst 0, 1) := by decide +kernel
theorem d_M_room_5 : decode b_M_room 5 = .ok (.istore 4, 2) := by decide +kernel
theorem d_M_room_7 : decode b_M_room 7 = .ok (.iload 4, 2) := by decide +kernel
theorem d_M_room_9 : decode b_M_room 9 = .ok (.aload_n 0, 1) := by decide +kernel
theorem d_M_room_10 : decode b_M_room 10 = .ok (.getfield 84, 3) := by decide +kernel
theorem d_M_room_13 : decode b_M_room 13 = .ok (.if_icmp .ge 151, 3) := by decide +kernel
theorem d_M_room_16 : decode b_M_room 16 = .ok (.aload_n 0, 1) := by decide +kernel
theorem d_M_room_17 : decode b_M_room 17 = .ok (.getfield 71, 3) := by decide +kernel
theorem d_M_room_20 : decode b_M_room 20 = .ok (.iload 4, 2) := by decide +kernel
theorem d_M_room_22 : decode b_M_room 22 = .ok (.iaload, 1) := by decide +kernel
theorem d_M_room_23 : decode b_M_room 23 = .ok (.istore 5, 2) := by decide +kernel
theorem d_M_room_25 : decode b_M_room 25 = .ok (.iconst 0, 1) := by decide +kernel
theorem d_M_room_26 : decode b_M_room 26 = .ok (.istore 6, 2) := by decide +kernel
theorem d_M_room_28 : decode b_M_room 28 = .ok (.iload 6, 2) := by decide +kernel
theorem d_M_room_30 : decode b_M_room 30 = .ok (.iconst 4, 1) := by decide +kernel
theorem d_M_room_31 : decode b_M_room 31 = .ok (.if_icmp .ge 110, 3) := by decide +kernel
theorem d_M_room_34 : decode b_M_room 34 = .ok (.iload 6, 2) := by decide +kernel
theorem d_M_room_36 : decode b_M_room 36 = .ok (.aload_n 0, 1) := by decide +kernel
theorem d_M_room_37 : decode b_M_room 37 = .ok (.getfield 13, 3) := by decide +kernel
theorem d_M_room_40 : decode b_M_room 40 = .ok (.iload_n 1, 1) := by decide +kernel
theorem d_M_room_41 : decode b_M_room 41 = .ok (.iaload, 1) := by decide +kernel
theorem d_M_room_42 : decode b_M_room 42 = .ok (.if_icmp .ge 26, 3) := by decide +kernel
theorem d_M_room_45 : decode b_M_room 45 = .ok (.aload_n 0, 1) := by decide +kernel
theorem d_M_room_46 : decode b_M_room 46 = .ok (.getfield 17, 3) := by decide +kernel
theorem d_M_room_49 : decode b_M_room 49 = .ok (.iconst 4, 1) := by decide +kernel
theorem d_M_room_50 : decode b_M_room 50 = .ok (.iload_n 1, 1) := by decide +kernel
theorem d_M_room_51 : decode b_M_room 51 = .ok (.imul, 1) := by decide +kernel
theorem d_M_room_52 : decode b_M_room 52 = .ok (.iload 6, 2) := by decide +kernel
theorem d_M_room_54 : decode b_M_room 54 = .ok (.iadd, 1) := by decide +kernel
theorem d_M_room_55 : decode b_M_room 55 = .ok (.iaload, 1) := by decide +kernel
theorem d_M_room_56 : decode b_M_room 56 = .ok (.iload 4, 2) := by decide +kernel
theorem d_M_room_58 : decode b_M_room 58 = .ok (.if_icmp .ne 10, 3) := by decide +kernel
theorem d_M_room_61 : decode b_M_room 61 = .ok (.iload 5, 2) := by decide +kernel
theorem d_M_room_63 : decode b_M_room 63 = .ok (.iconst 1, 1) := by decide +kernel
theorem d_M_room_64 : decode b_M_room 64 = .ok (.isub, 1) := by decide +kernel
theorem d_M_room_65 : decode b_M_room 65 = .ok (.goto 5, 3) := by decide +kernel
theorem d_M_room_68 : decode b_M_room 68 = .ok (.iload 5, 2) := by decide +kernel
theorem d_M_room_70 : decode b_M_room 70 = .ok (.istore 5, 2) := by decide +kernel
theorem d_M_room_72 : decode b_M_room 72 = .ok (.iload 6, 2) := by decide +kernel
theorem d_M_room_74 : decode b_M_room 74 = .ok (.aload_n 0, 1) := by decide +kernel
theorem d_M_room_75 : decode b_M_room 75 = .ok (.getfield 32, 3) := by decide +kernel
theorem d_M_room_78 : decode b_M_room 78 = .ok (.iload_n 1, 1) := by decide +kernel
theorem d_M_room_79 : decode b_M_room 79 = .ok (.iaload, 1) := by decide +kernel
theorem d_M_room_80 : decode b_M_room 80 = .ok (.if_icmp .ge 23, 3) := by decide +kernel
theorem d_M_room_83 : decode b_M_room 83 = .ok (.aload_n 0, 1) := by decide +kernel
theorem d_M_room_84 : decode b_M_room 84 = .ok (.getfield 35, 3) := by decide +kernel
theorem d_M_room_87 : decode b_M_room 87 = .ok (.iconst 4, 1) := by decide +kernel
theorem d_M_room_88 : decode b_M_room 88 = .ok (.iload_n 1, 1) := by decide +kernel
theorem d_M_room_89 : decode b_M_room 89 = .ok (.imul, 1) := by decide +kernel
theorem d_M_room_90 : decode b_M_room 90 = .ok (.iload 6, 2) := by decide +kernel
theorem d_M_room_92 : decode b_M_room 92 = .ok (.iadd, 1) := by decide +kernel
theorem d_M_room_93 : decode b_M_room 93 = .ok (.iaload, 1) := by decide +kernel
theorem d_M_room_94 : decode b_M_room 94 = .ok (.iload 4, 2) := by decide +kernel
theorem d_M_room_96 : decode b_M_room 96 = .ok (.if_icmp .ne 7, 3) := by decide +kernel
theorem d_M_room_99 : decode b_M_room 99 = .ok (.iconst 1, 1) := by decide +kernel
theorem d_M_room_100 : decode b_M_room 100 = .ok (.goto 4, 3) := by decide +kernel
theorem d_M_room_103 : decode b_M_room 103 = .ok (.iconst 0, 1) := by decide +kernel
theorem d_M_room_104 : decode b_M_room 104 = .ok (.istore 7, 2) := by decide +kernel
theorem d_M_room_106 : decode b_M_room 106 = .ok (.iload 7, 2) := by decide +kernel
theorem d_M_room_108 : decode b_M_room 108 = .ok (.ifCond .eq 10, 3) := by decide +kernel
theorem d_M_room_111 : decode b_M_room 111 = .ok (.iload 5, 2) := by decide +kernel
theorem d_M_room_113 : decode b_M_room 113 = .ok (.iconst 1, 1) := by decide +kernel
theorem d_M_room_114 : decode b_M_room 114 = .ok (.iadd, 1) := by decide +kernel
theorem d_M_room_115 : decode b_M_room 115 = .ok (.goto 5, 3) := by decide +kernel
theorem d_M_room_118 : decode b_M_room 118 = .ok (.iload 5, 2) := by decide +kernel
theorem d_M_room_120 : decode b_M_room 120 = .ok (.istore 5, 2) := by decide +kernel
theorem d_M_room_122 : decode b_M_room 122 = .ok (.iload 7, 2) := by decide +kernel
theorem d_M_room_124 : decode b_M_room 124 = .ok (.ifCond .eq 9, 3) := by decide +kernel
theorem d_M_room_127 : decode b_M_room 127 = .ok (.iload_n 2, 1) := by decide +kernel
theorem d_M_room_128 : decode b_M_room 128 = .ok (.iconst 1, 1) := by decide +kernel
theorem d_M_room_129 : decode b_M_room 129 = .ok (.iadd, 1) := by decide +kernel
theorem d_M_room_130 : decode b_M_room 130 = .ok (.goto 4, 3) := by decide +kernel
theorem d_M_room_133 : decode b_M_room 133 = .ok (.iload_n 2, 1) := by decide +kernel
theorem d_M_room_134 : decode b_M_room 134 = .ok (.istore_n 2, 1) := by decide +kernel
theorem d_M_room_135 : decode b_M_room 135 = .ok (.iinc 6 1, 3) := by decide +kernel
theorem d_M_room_138 : decode b_M_room 138 = .ok (.goto (-110), 3) := by decide +kernel
theorem d_M_room_141 : decode b_M_room 141 = .ok (.iload_n 3, 1) := by decide +kernel
theorem d_M_room_142 : decode b_M_room 142 = .ok (.ifCond .eq 14, 3) := by decide +kernel
theorem d_M_room_145 : decode b_M_room 145 = .ok (.iload 5, 2) := by decide +kernel
theorem d_M_room_147 : decode b_M_room 147 = .ok (.bipush 6, 2) := by decide +kernel
theorem d_M_room_149 : decode b_M_room 149 = .ok (.if_icmp .gt 7, 3) := by decide +kernel
theorem d_M_room_152 : decode b_M_room 152 = .ok (.iconst 1, 1) := by decide +kernel
theorem d_M_room_153 : decode b_M_room 153 = .ok (.goto 4, 3) := by decide +kernel
theorem d_M_room_156 : decode b_M_room 156 = .ok (.iconst 0, 1) := by decide +kernel
theorem d_M_room_157 : decode b_M_room 157 = .ok (.istore_n 3, 1) := by decide +kernel
theorem d_M_room_158 : decode b_M_room 158 = .ok (.iinc 4 1, 3) := by decide +kernel
theorem d_M_room_161 : decode b_M_room 161 = .ok (.goto (-154), 3) := by decide +kernel
theorem d_M_room_164 : decode b_M_room 164 = .ok (.iload_n 3, 1) := by decide +kernel
theorem d_M_room_165 : decode b_M_room 165 = .ok (.ifCond .eq 19, 3) := by decide +kernel
theorem d_M_room_168 : decode b_M_room 168 = .ok (.aload_n 0, 1) := by decide +kernel
theorem d_M_room_169 : decode b_M_room 169 = .ok (.getfield 113, 3) := by decide +kernel
theorem d_M_room_172 : decode b_M_room 172 = .ok (.iload_n 2, 1) := by decide +kernel
theorem d_M_room_173 : decode b_M_room 173 = .ok (.iadd, 1) := by decide +kernel
theorem d_M_room_174 : decode b_M_room 174 = .ok (.sipush 300, 3) := by decide +kernel
theorem d_M_room_177 : decode b_M_room 177 = .ok (.if_icmp .gt 7, 3) := by decide +kernel
theorem d_M_room_180 : decode b_M_room 180 = .ok (.iconst 1, 1) := by decide +kernel
theorem d_M_room_181 : decode b_M_room 181 = .ok (.goto 4, 3) := by decide +kernel
theorem d_M_room_184 : decode b_M_room 184 = .ok (.iconst 0, 1) := by decide +kernel
theorem d_M_room_185 : decode b_M_room 185 = .ok (.ireturn, 1) := by decide +kernel
theorem d_M_enabled_0 : decode b_M_enabled 0 = .ok (.aload_n 0, 1) := by decide +kernel
theorem d_M_enabled_1 : decode b_M_enabled 1 = .ok (.invokevirtual 116, 3) := by decide +kernel
theorem d_M_enabled_4 : decode b_M_enabled 4 = .ok (.iconst 0, 1) := by decide +kernel
theorem d_M_enabled_5 : decode b_M_enabled 5 = .ok (.istore_n 1, 1) := by decide +kernel
theorem d_M_enabled_6 : decode b_M_enabled 6 = .ok (.iconst 0, 1) := by decide +kernel
theorem d_M_enabled_7 : decode b_M_enabled 7 = .ok (.istore_n 2, 1) := by decide +kernel
theorem d_M_enabled_8 : decode b_M_enabled 8 = .ok (.iload_n 2, 1) := by decide +kernel
theorem d_M_enabled_9 : decode b_M_enabled 9 = .ok (.aload_n 0, 1) := by decide +kernel
theorem d_M_enabled_10 : decode b_M_enabled 10 = .ok (.getfield 88, 3) := by decide +kernel
theorem d_M_enabled_13 : decode b_M_enabled 13 = .ok (.if_icmp .ge 42, 3) := by decide +kernel
theorem d_M_enabled_16 : decode b_M_enabled 16 = .ok (.aload_n 0, 1) := by decide +kernel
theorem d_M_enabled_17 : decode b_M_enabled 17 = .ok (.getfield 80, 3) := by decide +kernel
theorem d_M_enabled_20 : decode b_M_enabled 20 = .ok (.ifCond .eq 35, 3) := by decide +kernel
theorem d_M_enabled_23 : decode b_M_enabled 23 = .ok (.aload_n 0, 1) := by decide +kernel
theorem d_M_enabled_24 : decode b_M_enabled 24 = .ok (.iload_n 2, 1) := by decide +kernel
theorem d_M_enabled_25 : decode b_M_enabled 25 = .ok (.invokevirtual 142, 3) := by decide +kernel
theorem d_M_enabled_28 : decode b_M_enabled 28 = .ok (.ifCond .eq 19, 3) := by decide +kernel
theorem d_M_enabled_31 : decode b_M_enabled 31 = .ok (.aload_n 0, 1) := by decide +kernel
theorem d_M_enabled_32 : decode b_M_enabled 32 = .ok (.iload_n 2, 1) := by decide +kernel
theorem d_M_enabled_33 : decode b_M_enabled 33 = .ok (.invokevirtual 145, 3) := by decide +kernel
theorem d_M_enabled_36 : decode b_M_enabled 36 = .ok (.ifCond .eq 11, 3) := by decide +kernel
theorem d_M_enabled_39 : decode b_M_enabled 39 = .ok (.iload_n 1, 1) := by decide +kernel
theorem d_M_enabled_40 : decode b_M_enabled 40 = .ok (.iconst 1, 1) := by decide +kernel
theorem d_M_enabled_41 : decode b_M_enabled 41 = .ok (.iload_n 2, 1) := by decide +kernel
theorem d_M_enabled_42 : decode b_M_enabled 42 = .ok (.ishl, 1) := by decide +kernel
theorem d_M_enabled_43 : decode b_M_enabled 43 = .ok (.iadd, 1) := by decide +kernel
theorem d_M_enabled_44 : decode b_M_enabled 44 = .ok (.goto 4, 3) := by decide +kernel
theorem d_M_enabled_47 : decode b_M_enabled 47 = .ok (.iload_n 1, 1) := by decide +kernel
theorem d_M_enabled_48 : decode b_M_enabled 48 = .ok (.istore_n 1, 1) := by decide +kernel
theorem d_M_enabled_49 : decode b_M_enabled 49 = .ok (.iinc 2 1, 3) := by decide +kernel
theorem d_M_enabled_52 : decode b_M_enabled 52 = .ok (.goto (-44), 3) := by decide +kernel
theorem d_M_enabled_55 : decode b_M_enabled 55 = .ok (.iload_n 1, 1) := by decide +kernel
theorem d_M_enabled_56 : decode b_M_enabled 56 = .ok (.ireturn, 1) := by decide +kernel
theorem d_M_next_0 : decode b_M_next 0 = .ok (.aload_n 0, 1) := by decide +kernel
theorem d_M_next_1 : decode b_M_next 1 = .ok (.invokevirtual 148, 3) := by decide +kernel
theorem d_M_next_4 : decode b_M_next 4 = .ok (.istore_n 1, 1) := by decide +kernel
theorem d_M_next_5 : decode b_M_next 5 = .ok (.aload_n 0, 1) := by decide +kernel
theorem d_M_next_6 : decode b_M_next 6 = .ok (.getfield 152, 3) := by decide +kernel
theorem d_M_next_9 : decode b_M_next 9 = .ok (.ifCond .ne 7, 3) := by decide +kernel
theorem d_M_next_12 : decode b_M_next 12 = .ok (.iconst 0, 1) := by decide +kernel
theorem d_M_next_13 : decode b_M_next 13 = .ok (.goto 16, 3) := by decide +kernel
theorem d_M_next_16 : decode b_M_next 16 = .ok (.aload_n 0, 1) := by decide +kernel
theorem d_M_next_17 : decode b_M_next 17 = .ok (.getfield 65, 3) := by decide +kernel
theorem d_M_next_20 : decode b_M_next 20 = .ok (.aload_n 0, 1) := by decide +kernel
theorem d_M_next_21 : decode b_M_next 21 = .ok (.getfield 152, 3) := by decide +kernel
theorem d_M_next_24 : decode b_M_next 24 = .ok (.iconst 1, 1) := by decide +kernel
theorem d_M_next_25 : decode b_M_next 25 = .ok (.isub, 1) := by decide +kernel
theorem d_M_next_26 : decode b_M_next 26 = .ok (.iaload, 1) := by decide +kernel
theorem d_M_next_27 : decode b_M_next 27 = .ok (.iconst 1, 1) := by decide +kernel
theorem d_M_next_28 : decode b_M_next 28 = .ok (.iadd, 1) := by decide +kernel
theorem d_M_next_29 : decode b_M_next 29 = .ok (.istore_n 2, 1) := by decide +kernel
theorem d_M_next_30 : decode b_M_next 30 = .ok (.iconst 0, 1) := by decide +kernel
theorem d_M_next_31 : decode b_M_next 31 = .ok (.istore_n 3, 1) := by decide +kernel
theorem d_M_next_32 : decode b_M_next 32 = .ok (.iload_n 3, 1) := by decide +kernel
theorem d_M_next_33 : decode b_M_next 33 = .ok (.aload_n 0, 1) := by decide +kernel
theorem d_M_next_34 : decode b_M_next 34 = .ok (.getfield 88, 3) := by decide +kernel
theorem d_M_next_37 : decode b_M_next 37 = .ok (.if_icmp .ge 32, 3) := by decide +kernel
theorem d_M_next_40 : decode b_M_next 40 = .ok (.iload_n 2, 1) := by decide +kernel
theorem d_M_next_41 : decode b_M_next 41 = .ok (.iload_n 3, 1) := by decide +kernel
theorem d_M_next_42 : decode b_M_next 42 = .ok (.iadd, 1) := by decide +kernel
theorem d_M_next_43 : decode b_M_next 43 = .ok (.aload_n 0, 1) := by decide +kernel
theorem d_M_next_44 : decode b_M_next 44 = .ok (.getfield 88, 3) := by decide +kernel
theorem d_M_next_47 : decode b_M_next 47 = .ok (.irem, 1) := by decide +kernel
theorem d_M_next_48 : decode b_M_next 48 = .ok (.istore 4, 2) := by decide +kernel
theorem d_M_next_50 : decode b_M_next 50 = .ok (.iload_n 1, 1) := by decide +kernel
theorem d_M_next_51 : decode b_M_next 51 = .ok (.iload 4, 2) := by decide +kernel
theorem d_M_next_53 : decode b_M_next 53 = .ok (.ishr, 1) := by decide +kernel
theorem d_M_next_54 : decode b_M_next 54 = .ok (.iconst 1, 1) := by decide +kernel
theorem d_M_next_55 : decode b_M_next 55 = .ok (.iand, 1) := by decide +kernel
theorem d_M_next_56 : decode b_M_next 56 = .ok (.iconst 1, 1) := by decide +kernel
theorem d_M_next_57 : decode b_M_next 57 = .ok (.if_icmp .ne 6, 3) := by decide +kernel
theorem d_M_next_60 : decode b_M_next 60 = .ok (.iload 4, 2) := by decide +kernel
theorem d_M_next_62 : decode b_M_next 62 = .ok (.ireturn, 1) := by decide +kernel
theorem d_M_next_63 : decode b_M_next 63 = .ok (.iinc 3 1, 3) := by decide +kernel
theorem d_M_next_66 : decode b_M_next 66 = .ok (.goto (-34), 3) := by decide +kernel
theorem d_M_next_69 : decode b_M_next 69 = .ok (.iconst (-1), 1) := by decide +kernel
theorem d_M_next_70 : decode b_M_next 70 = .ok (.ireturn, 1) := by decide +kernel
theorem d_M_taken_0 : decode b_M_taken 0 = .ok (.aload_n 0, 1) := by decide +kernel
theorem d_M_taken_1 : decode b_M_taken 1 = .ok (.invokevirtual 155, 3) := by decide +kernel
theorem d_M_taken_4 : decode b_M_taken 4 = .ok (.istore_n 2, 1) := by decide +kernel
theorem d_M_taken_5 : decode b_M_taken 5 = .ok (.iload_n 2, 1) := by decide +kernel
theorem d_M_taken_6 : decode b_M_taken 6 = .ok (.ifCond .lt 12, 3) := by decide +kernel
theorem d_M_taken_9 : decode b_M_taken 9 = .ok (.aload_n 0, 1) := by decide +kernel
theorem d_M_taken_10 : decode b_M_taken 10 = .ok (.iload_n 2, 1) := by decide +kernel
theorem d_M_taken_11 : decode b_M_taken 11 = .ok (.iload_n 1, 1) := by decide +kernel
theorem d_M_taken_12 : decode b_M_taken 12 = .ok (.invokevirtual 98, 3) := by decide +kernel
theorem d_M_taken_15 : decode b_M_taken 15 = .ok (.ifCond .ne 5, 3) := by decide +kernel
theorem d_M_taken_18 : decode b_M_taken 18 = .ok (.iconst (-1), 1) := by decide +kernel
theorem d_M_taken_19 : decode b_M_taken 19 = .ok (.ireturn, 1) := by decide +kernel
theorem d_M_taken_20 : decode b_M_taken 20 = .ok (.aload_n 0, 1) := by decide +kernel
theorem d_M_taken_21 : decode b_M_taken 21 = .ok (.iload_n 2, 1) := by decide +kernel
theorem d_M_taken_22 : decode b_M_taken 22 = .ok (.invokevirtual 145, 3) := by decide +kernel
theorem d_M_taken_25 : decode b_M_taken 25 = .ok (.pop, 1) := by decide +kernel
theorem d_M_taken_26 : decode b_M_taken 26 = .ok (.aload_n 0, 1) := by decide +kernel
theorem d_M_taken_27 : decode b_M_taken 27 = .ok (.iload_n 2, 1) := by decide +kernel
theorem d_M_taken_28 : decode b_M_taken 28 = .ok (.iload_n 1, 1) := by decide +kernel
theorem d_M_taken_29 : decode b_M_taken 29 = .ok (.invokevirtual 130, 3) := by decide +kernel
theorem d_M_taken_32 : decode b_M_taken 32 = .ok (.ireturn, 1) := by decide +kernel
theorem d_M_result_0 : decode b_M_result 0 = .ok (.aload_n 0, 1) := by decide +kernel
theorem d_M_result_1 : decode b_M_result 1 = .ok (.getfield 47, 3) := by decide +kernel
theorem d_M_result_4 : decode b_M_result 4 = .ok (.iload_n 2, 1) := by decide +kernel
theorem d_M_result_5 : decode b_M_result 5 = .ok (.iaload, 1) := by decide +kernel
theorem d_M_result_6 : decode b_M_result 6 = .ok (.istore_n 3, 1) := by decide +kernel
theorem d_M_result_7 : decode b_M_result 7 = .ok (.iconst 0, 1) := by decide +kernel
theorem d_M_result_8 : decode b_M_result 8 = .ok (.istore 4, 2) := by decide +kernel
theorem d_M_result_10 : decode b_M_result 10 = .ok (.aload_n 0, 1) := by decide +kernel
theorem d_M_result_11 : decode b_M_result 11 = .ok (.getfield 77, 3) := by decide +kernel
theorem d_M_result_14 : decode b_M_result 14 = .ok (.iconst 0, 1) := by decide +kernel
theorem d_M_result_15 : decode b_M_result 15 = .ok (.iaload, 1) := by decide +kernel
theorem d_M_result_16 : decode b_M_result 16 = .ok (.istore 5, 2) := by decide +kernel
theorem d_M_result_18 : decode b_M_result 18 = .ok (.iconst 0, 1) := by decide +kernel
theorem d_M_result_19 : decode b_M_result 19 = .ok (.istore 6, 2) := by decide +kernel
theorem d_M_result_21 : decode b_M_result 21 = .ok (.iload 6, 2) := by decide +kernel
theorem d_M_result_23 : decode b_M_result 23 = .ok (.aload_n 0, 1) := by decide +kernel
theorem d_M_result_24 : decode b_M_result 24 = .ok (.getfield 13, 3) := by decide +kernel
theorem d_M_result_27 : decode b_M_result 27 = .ok (.iload_n 1, 1) := by decide +kernel
theorem d_M_result_28 : decode b_M_result 28 = .ok (.iaload, 1) := by decide +kernel
theorem d_M_result_29 : decode b_M_result 29 = .ok (.if_icmp .ge 47, 3) := by decide +kernel
theorem d_M_result_32 : decode b_M_result 32 = .ok (.iload 4, 2) := by decide +kernel
theorem d_M_result_34 : decode b_M_result 34 = .ok (.aload_n 0, 1) := by decide +kernel
theorem d_M_result_35 : decode b_M_result 35 = .ok (.getfield 77, 3) := by decide +kernel
theorem d_M_result_38 : decode b_M_result 38 = .ok (.iload 6, 2) := by decide +kernel
theorem d_M_result_40 : decode b_M_result 40 = .ok (.iaload, 1) := by decide +kernel
theorem d_M_result_41 : decode b_M_result 41 = .ok (.iadd, 1) := by decide +kernel
theorem d_M_result_42 : decode b_M_result 42 = .ok (.istore 4, 2) := by decide +kernel
theorem d_M_result_44 : decode b_M_result 44 = .ok (.aload_n 0, 1) := by decide +kernel
theorem d_M_result_45 : decode b_M_result 45 = .ok (.getfield 77, 3) := by decide +kernel
theorem d_M_result_48 : decode b_M_result 48 = .ok (.iload 6, 2) := by decide +kernel
theorem d_M_result_50 : decode b_M_result 50 = .ok (.iaload, 1) := by decide +kernel
theorem d_M_result_51 : decode b_M_result 51 = .ok (.iload 5, 2) := by decide +kernel
theorem d_M_result_53 : decode b_M_result 53 = .ok (.if_icmp .le 13, 3) := by decide +kernel
theorem d_M_result_56 : decode b_M_result 56 = .ok (.aload_n 0, 1) := by decide +kernel
theorem d_M_result_57 : decode b_M_result 57 = .ok (.getfield 77, 3) := by decide +kernel
theorem d_M_result_60 : decode b_M_result 60 = .ok (.iload 6, 2) := by decide +kernel
theorem d_M_result_62 : decode b_M_result 62 = .ok (.iaload, 1) := by decide +kernel
theorem d_M_result_63 : decode b_M_result 63 = .ok (.goto 5, 3) := by decide +kernel
theorem d_M_result_66 : decode b_M_result 66 = .ok (.iload 5, 2) := by decide +kernel
theorem d_M_result_68 : decode b_M_result 68 = .ok (.istore 5, 2) := by decide +kernel
theorem d_M_result_70 : decode b_M_result 70 = .ok (.iinc 6 1, 3) := by decide +kernel
theorem d_M_result_73 : decode b_M_result 73 = .ok (.goto (-52), 3) := by decide +kernel
theorem d_M_result_76 : decode b_M_result 76 = .ok (.aload_n 0, 1) := by decide +kernel
theorem d_M_result_77 : decode b_M_result 77 = .ok (.getfield 41, 3) := by decide +kernel
theorem d_M_result_80 : decode b_M_result 80 = .ok (.iload_n 2, 1) := by decide +kernel
theorem d_M_result_81 : decode b_M_result 81 = .ok (.iaload, 1) := by decide +kernel
theorem d_M_result_82 : decode b_M_result 82 = .ok (.iconst 1, 1) := by decide +kernel
theorem d_M_result_83 : decode b_M_result 83 = .ok (.if_icmp .ne 17, 3) := by decide +kernel
theorem d_M_result_86 : decode b_M_result 86 = .ok (.aload_n 0, 1) := by decide +kernel
theorem d_M_result_87 : decode b_M_result 87 = .ok (.getfield 77, 3) := by decide +kernel
theorem d_M_result_90 : decode b_M_result 90 = .ok (.aload_n 0, 1) := by decide +kernel
theorem d_M_result_91 : decode b_M_result 91 = .ok (.getfield 44, 3) := by decide +kernel
theorem d_M_result_94 : decode b_M_result 94 = .ok (.iload_n 2, 1) := by decide +kernel
theorem d_M_result_95 : decode b_M_result 95 = .ok (.iaload, 1) := by decide +kernel
theorem d_M_result_96 : decode b_M_result 96 = .ok (.iaload, 1) := by decide +kernel
theorem d_M_result_97 : decode b_M_result 97 = .ok (.iload_n 3, 1) := by decide +kernel
theorem d_M_result_98 : decode b_M_result 98 = .ok (.iadd, 1) := by decide +kernel
theorem d_M_result_99 : decode b_M_result 99 = .ok (.ireturn, 1) := by decide +kernel
theorem d_M_result_100 : decode b_M_result 100 = .ok (.aload_n 0, 1) := by decide +kernel
theorem d_M_result_101 : decode b_M_result 101 = .ok (.getfield 41, 3) := by decide +kernel
theorem d_M_result_104 : decode b_M_result 104 = .ok (.iload_n 2, 1) := by decide +kernel
theorem d_M_result_105 : decode b_M_result 105 = .ok (.iaload, 1) := by decide +kernel
theorem d_M_result_106 : decode b_M_result 106 = .ok (.iconst 2, 1) := by decide +kernel
theorem d_M_result_107 : decode b_M_result 107 = .ok (.if_icmp .ne 17, 3) := by decide +kernel
theorem d_M_result_110 : decode b_M_result 110 = .ok (.aload_n 0, 1) := by decide +kernel
theorem d_M_result_111 : decode b_M_result 111 = .ok (.getfield 77, 3) := by decide +kernel
theorem d_M_result_114 : decode b_M_result 114 = .ok (.aload_n 0, 1) := by decide +kernel
theorem d_M_result_115 : decode b_M_result 115 = .ok (.getfield 44, 3) := by decide +kernel
theorem d_M_result_118 : decode b_M_result 118 = .ok (.iload_n 2, 1) := by decide +kernel
theorem d_M_result_119 : decode b_M_result 119 = .ok (.iaload, 1) := by decide +kernel
theorem d_M_result_120 : decode b_M_result 120 = .ok (.iaload, 1) := by decide +kernel
theorem d_M_result_121 : decode b_M_result 121 = .ok (.iload_n 3, 1) := by decide +kernel
theorem d_M_result_122 : decode b_M_result 122 = .ok (.imul, 1) := by decide +kernel
theorem d_M_result_123 : decode b_M_result 123 = .ok (.ireturn, 1) := by decide +kernel
theorem d_M_result_124 : decode b_M_result 124 = .ok (.aload_n 0, 1) := by decide +kernel
theorem d_M_result_125 : decode b_M_result 125 = .ok (.getfield 41, 3) := by decide +kernel
theorem d_M_result_128 : decode b_M_result 128 = .ok (.iload_n 2, 1) := by decide +kernel
theorem d_M_result_129 : decode b_M_result 129 = .ok (.iaload, 1) := by decide +kernel
theorem d_M_result_130 : decode b_M_result 130 = .ok (.ifCond .ne 7, 3) := by decide +kernel
theorem d_M_result_133 : decode b_M_result 133 = .ok (.iload_n 3, 1) := by decide +kernel
theorem d_M_result_134 : decode b_M_result 134 = .ok (.goto 22, 3) := by decide +kernel
theorem d_M_result_137 : decode b_M_result 137 = .ok (.aload_n 0, 1) := by decide +kernel
theorem d_M_result_138 : decode b_M_result 138 = .ok (.getfield 41, 3) := by decide +kernel
theorem d_M_result_141 : decode b_M_result 141 = .ok (.iload_n 2, 1) := by decide +kernel
theorem d_M_result_142 : decode b_M_result 142 = .ok (.iaload, 1) := by decide +kernel
theorem d_M_result_143 : decode b_M_result 143 = .ok (.iconst 3, 1) := by decide +kernel
theorem d_M_result_144 : decode b_M_result 144 = .ok (.if_icmp .ne 10, 3) := by decide +kernel
theorem d_M_result_147 : decode b_M_result 147 = .ok (.iload 4, 2) := by decide +kernel
theorem d_M_result_149 : decode b_M_result 149 = .ok (.iload_n 3, 1) := by decide +kernel
theorem d_M_result_150 : decode b_M_result 150 = .ok (.iadd, 1) := by decide +kernel
theorem d_M_result_151 : decode b_M_result 151 = .ok (.goto 5, 3) := by decide +kernel
theorem d_M_result_154 : decode b_M_result 154 = .ok (.iload 5, 2) := by decide +kernel
theorem d_M_result_156 : decode b_M_result 156 = .ok (.ireturn, 1) := by decide +kernel
theorem d_M_fire_0 : decode b_M_fire 0 = .ok (.aload_n 0, 1) := by decide +kernel
theorem d_M_fire_1 : decode b_M_fire 1 = .ok (.iload_n 1, 1) := by decide +kernel
theorem d_M_fire_2 : decode b_M_fire 2 = .ok (.invokevirtual 145, 3) := by decide +kernel
theorem d_M_fire_5 : decode b_M_fire 5 = .ok (.pop, 1) := by decide +kernel
theorem d_M_fire_6 : decode b_M_fire 6 = .ok (.iconst 0, 1) := by decide +kernel
theorem d_M_fire_7 : decode b_M_fire 7 = .ok (.istore_n 2, 1) := by decide +kernel
theorem d_M_fire_8 : decode b_M_fire 8 = .ok (.iload_n 2, 1) := by decide +kernel
theorem d_M_fire_9 : decode b_M_fire 9 = .ok (.aload_n 0, 1) := by decide +kernel
theorem d_M_fire_10 : decode b_M_fire 10 = .ok (.getfield 13, 3) := by decide +kernel
theorem d_M_fire_13 : decode b_M_fire 13 = .ok (.iload_n 1, 1) := by decide +kernel
theorem d_M_fire_14 : decode b_M_fire 14 = .ok (.iaload, 1) := by decide +kernel
theorem d_M_fire_15 : decode b_M_fire 15 = .ok (.if_icmp .ge 33, 3) := by decide +kernel
theorem d_M_fire_18 : decode b_M_fire 18 = .ok (.aload_n 0, 1) := by decide +kernel
theorem d_M_fire_19 : decode b_M_fire 19 = .ok (.iload_n 1, 1) := by decide +kernel
theorem d_M_fire_20 : decode b_M_fire 20 = .ok (.iload_n 2, 1) := by decide +kernel
theorem d_M_fire_21 : decode b_M_fire 21 = .ok (.invokevirtual 130, 3) := by decide +kernel
theorem d_M_fire_24 : decode b_M_fire 24 = .ok (.istore_n 3, 1) := by decide +kernel
theorem d_M_fire_25 : decode b_M_fire 25 = .ok (.aload_n 0, 1) := by decide +kernel
theorem d_M_fire_26 : decode b_M_fire 26 = .ok (.getfield 56, 3) := by decide +kernel
theorem d_M_fire_29 : decode b_M_fire 29 = .ok (.iload_n 3, 1) := by decide +kernel
theorem d_M_fire_30 : decode b_M_fire 30 = .ok (.iconst 2, 1) := by decide +kernel
theorem d_M_fire_31 : decode b_M_fire 31 = .ok (.iastore, 1) := by decide +kernel
theorem d_M_fire_32 : decode b_M_fire 32 = .ok (.aload_n 0, 1) := by decide +kernel
theorem d_M_fire_33 : decode b_M_fire 33 = .ok (.getfield 59, 3) := by decide +kernel
theorem d_M_fire_36 : decode b_M_fire 36 = .ok (.iload_n 3, 1) := by decide +kernel
theorem d_M_fire_37 : decode b_M_fire 37 = .ok (.aload_n 0, 1) := by decide +kernel
theorem d_M_fire_38 : decode b_M_fire 38 = .ok (.getfield 152, 3) := by decide +kernel
theorem d_M_fire_41 : decode b_M_fire 41 = .ok (.iastore, 1) := by decide +kernel
theorem d_M_fire_42 : decode b_M_fire 42 = .ok (.iinc 2 1, 3) := by decide +kernel
theorem d_M_fire_45 : decode b_M_fire 45 = .ok (.goto (-37), 3) := by decide +kernel
theorem d_M_fire_48 : decode b_M_fire 48 = .ok (.iconst 0, 1) := by decide +kernel
theorem d_M_fire_49 : decode b_M_fire 49 = .ok (.istore_n 2, 1) := by decide +kernel
theorem d_M_fire_50 : decode b_M_fire 50 = .ok (.iload_n 2, 1) := by decide +kernel
theorem d_M_fire_51 : decode b_M_fire 51 = .ok (.aload_n 0, 1) := by decide +kernel
theorem d_M_fire_52 : decode b_M_fire 52 = .ok (.getfield 32, 3) := by decide +kernel
theorem d_M_fire_55 : decode b_M_fire 55 = .ok (.iload_n 1, 1) := by decide +kernel
theorem d_M_fire_56 : decode b_M_fire 56 = .ok (.iaload, 1) := by decide +kernel
theorem d_M_fire_57 : decode b_M_fire 57 = .ok (.if_icmp .ge 66, 3) := by decide +kernel
theorem d_M_fire_60 : decode b_M_fire 60 = .ok (.iconst 4, 1) := by decide +kernel
theorem d_M_fire_61 : decode b_M_fire 61 = .ok (.iload_n 1, 1) := by decide +kernel
theorem d_M_fire_62 : decode b_M_fire 62 = .ok (.imul, 1) := by decide +kernel
theorem d_M_fire_63 : decode b_M_fire 63 = .ok (.iload_n 2, 1) := by decide +kernel
theorem d_M_fire_64 : decode b_M_fire 64 = .ok (.iadd, 1) := by decide +kernel
theorem d_M_fire_65 : decode b_M_fire 65 = .ok (.istore_n 3, 1) := by decide +kernel
theorem d_M_fire_66 : decode b_M_fire 66 = .ok (.aload_n 0, 1) := by decide +kernel
theorem d_M_fire_67 : decode b_M_fire 67 = .ok (.iload_n 1, 1) := by decide +kernel
theorem d_M_fire_68 : decode b_M_fire 68 = .ok (.iload_n 3, 1) := by decide +kernel
theorem d_M_fire_69 : decode b_M_fire 69 = .ok (.invokevirtual 158, 3) := by decide +kernel
theorem d_M_fire_72 : decode b_M_fire 72 = .ok (.istore 4, 2) := by decide +kernel
theorem d_M_fire_74 : decode b_M_fire 74 = .ok (.aload_n 0, 1) := by decide +kernel
theorem d_M_fire_75 : decode b_M_fire 75 = .ok (.getfield 35, 3) := by decide +kernel
theorem d_M_fire_78 : decode b_M_fire 78 = .ok (.iload_n 3, 1) := by decide +kernel
theorem d_M_fire_79 : decode b_M_fire 79 = .ok (.iaload, 1) := by decide +kernel
theorem d_M_fire_80 : decode b_M_fire 80 = .ok (.ifCond .lt 19, 3) := by decide +kernel
theorem d_M_fire_83 : decode b_M_fire 83 = .ok (.aload_n 0, 1) := by decide +kernel
theorem d_M_fire_84 : decode b_M_fire 84 = .ok (.aload_n 0, 1) := by decide +kernel
theorem d_M_fire_85 : decode b_M_fire 85 = .ok (.getfield 35, 3) := by decide +kernel
theorem d_M_fire_88 : decode b_M_fire 88 = .ok (.iload_n 3, 1) := by decide +kernel
theorem d_M_fire_89 : decode b_M_fire 89 = .ok (.iaload, 1) := by decide +kernel
theorem d_M_fire_90 : decode b_M_fire 90 = .ok (.iload 4, 2) := by decide +kernel
theorem d_M_fire_92 : decode b_M_fire 92 = .ok (.invokevirtual 119, 3) := by decide +kernel
theorem d_M_fire_95 : decode b_M_fire 95 = .ok (.pop, 1) := by decide +kernel
theorem d_M_fire_96 : decode b_M_fire 96 = .ok (.goto 21, 3) := by decide +kernel
theorem d_M_fire_99 : decode b_M_fire 99 = .ok (.aload_n 0, 1) := by decide +kernel
theorem d_M_fire_100 : decode b_M_fire 100 = .ok (.getfield 62, 3) := by decide +kernel
theorem d_M_fire_103 : decode b_M_fire 103 = .ok (.aload_n 0, 1) := by decide +kernel
theorem d_M_fire_104 : decode b_M_fire 104 = .ok (.iload_n 1, 1) := by decide +kernel
theorem d_M_fire_105 : decode b_M_fire 105 = .ok (.aload_n 0, 1) := by decide +kernel
theorem d_M_fire_106 : decode b_M_fire 106 = .ok (.getfield 38, 3) := by decide +kernel
theorem d_M_fire_109 : decode b_M_fire 109 = .ok (.iload_n 3, 1) := by decide +kernel
theorem d_M_fire_110 : decode b_M_fire 110 = .ok (.iaload, 1) := by decide +kernel
theorem d_M_fire_111 : decode b_M_fire 111 = .ok (.invokevirtual 130, 3) := by decide +kernel
theorem d_M_fire_114 : decode b_M_fire 114 = .ok (.iload 4, 2) := by decide +kernel
theorem d_M_fire_116 : decode b_M_fire 116 = .ok (.iastore, 1) := by decide +kernel
theorem d_M_fire_117 : decode b_M_fire 117 = .ok (.iinc 2 1, 3) := by decide +kernel
theorem d_M_fire_120 : decode b_M_fire 120 = .ok (.goto (-70), 3) := by decide +kernel
theorem d_M_fire_123 : decode b_M_fire 123 = .ok (.aload_n 0, 1) := by decide +kernel
theorem d_M_fire_124 : decode b_M_fire 124 = .ok (.getfield 65, 3) := by decide +kernel
theorem d_M_fire_127 : decode b_M_fire 127 = .ok (.aload_n 0, 1) := by decide +kernel
theorem d_M_fire_128 : decode b_M_fire 128 = .ok (.getfield 152, 3) := by decide +kernel
theorem d_M_fire_131 : decode b_M_fire 131 = .ok (.iload_n 1, 1) := by decide +kernel
theorem d_M_fire_132 : decode b_M_fire 132 = .ok (.iastore, 1) := by decide +kernel
theorem d_M_fire_133 : decode b_M_fire 133 = .ok (.aload_n 0, 1) := by decide +kernel
theorem d_M_fire_134 : decode b_M_fire 134 = .ok (.aload_n 0, 1) := by decide +kernel
theorem d_M_fire_135 : decode b_M_fire 135 = .ok (.getfield 152, 3) := by decide +kernel
theorem d_M_fire_138 : decode b_M_fire 138 = .ok (.iconst 1, 1) := by decide +kernel
theorem d_M_fire_139 : decode b_M_fire 139 = .ok (.iadd, 1) := by decide +kernel
theorem d_M_fire_140 : decode b_M_fire 140 = .ok (.putfield 152, 3) := by decide +kernel
theorem d_M_fire_143 : decode b_M_fire 143 = .ok (.return_, 1) := by decide +kernel
theorem d_M_react_0 : decode b_M_react 0 = .ok (.aload_n 0, 1) := by decide +kernel
theorem d_M_react_1 : decode b_M_react 1 = .ok (.getfield 80, 3) := by decide +kernel
theorem d_M_react_4 : decode b_M_react 4 = .ok (.ifCond .eq 12, 3) := by decide +kernel
theorem d_M_react_7 : decode b_M_react 7 = .ok (.iload_n 1, 1) := by decide +kernel
theorem d_M_react_8 : decode b_M_react 8 = .ok (.ifCond .lt 8, 3) := by decide +kernel
theorem d_M_react_11 : decode b_M_react 11 = .ok (.iload_n 1, 1) := by decide +kernel
theorem d_M_react_12 : decode b_M_react 12 = .ok (.iconst 5, 1) := by decide +kernel
theorem d_M_react_13 : decode b_M_react 13 = .ok (.if_icmp .le 5, 3) := by decide +kernel
theorem d_M_react_16 : decode b_M_react 16 = .ok (.iconst (-1), 1) := by decide +kernel
theorem d_M_react_17 : decode b_M_react 17 = .ok (.ireturn, 1) := by decide +kernel
theorem d_M_react_18 : decode b_M_react 18 = .ok (.iconst 0, 1) := by decide +kernel
theorem d_M_react_19 : decode b_M_react 19 = .ok (.istore_n 2, 1) := by decide +kernel
theorem d_M_react_20 : decode b_M_react 20 = .ok (.iload_n 2, 1) := by decide +kernel
theorem d_M_react_21 : decode b_M_react 21 = .ok (.iload_n 1, 1) := by decide +kernel
theorem d_M_react_22 : decode b_M_react 22 = .ok (.if_icmp .ge 25, 3) := by decide +kernel
theorem d_M_react_25 : decode b_M_react 25 = .ok (.aload_n 0, 1) := by decide +kernel
theorem d_M_react_26 : decode b_M_react 26 = .ok (.invokevirtual 155, 3) := by decide +kernel
theorem d_M_react_29 : decode b_M_react 29 = .ok (.istore_n 3, 1) := by decide +kernel
theorem d_M_react_30 : decode b_M_react 30 = .ok (.iload_n 3, 1) := by decide +kernel
theorem d_M_react_31 : decode b_M_react 31 = .ok (.ifCond .ge 5, 3) := by decide +kernel
theorem d_M_react_34 : decode b_M_react 34 = .ok (.iload_n 2, 1) := by decide +kernel
theorem d_M_react_35 : decode b_M_react 35 = .ok (.ireturn, 1) := by decide +kernel
theorem d_M_react_36 : decode b_M_react 36 = .ok (.aload_n 0, 1) := by decide +kernel
theorem d_M_react_37 : decode b_M_react 37 = .ok (.iload_n 3, 1) := by decide +kernel
theorem d_M_react_38 : decode b_M_react 38 = .ok (.invokevirtual 161, 3) := by decide +kernel
theorem d_M_react_41 : decode b_M_react 41 = .ok (.iinc 2 1, 3) := by decide +kernel
theorem d_M_react_44 : decode b_M_react 44 = .ok (.goto (-24), 3) := by decide +kernel
theorem d_M_react_47 : decode b_M_react 47 = .ok (.iload_n 1, 1) := by decide +kernel
theorem d_M_react_48 : decode b_M_react 48 = .ok (.ireturn, 1) := by decide +kernel
theorem d_M_pendingAt_0 : decode b_M_pendingAt 0 = .ok (.aload_n 0, 1) := by decide +kernel
theorem d_M_pendingAt_1 : decode b_M_pendingAt 1 = .ok (.invokevirtual 116, 3) := by decide +kernel
theorem d_M_pendingAt_4 : decode b_M_pendingAt 4 = .ok (.aload_n 0, 1) := by decide +kernel
theorem d_M_pendingAt_5 : decode b_M_pendingAt 5 = .ok (.iload_n 1, 1) := by decide +kernel
theorem d_M_pendingAt_6 : decode b_M_pendingAt 6 = .ok (.invokevirtual 95, 3) := by decide +kernel
theorem d_M_pendingAt_9 : decode b_M_pendingAt 9 = .ok (.ifCond .eq 31, 3) := by decide +kernel
theorem d_M_pendingAt_12 : decode b_M_pendingAt 12 = .ok (.iload_n 2, 1) := by decide +kernel
theorem d_M_pendingAt_13 : decode b_M_pendingAt 13 = .ok (.ifCond .lt 27, 3) := by decide +kernel
theorem d_M_pendingAt_16 : decode b_M_pendingAt 16 = .ok (.iload_n 2, 1) := by decide +kernel
theorem d_M_pendingAt_17 : decode b_M_pendingAt 17 = .ok (.aload_n 0, 1) := by decide +kernel
theorem d_M_pendingAt_18 : decode b_M_pendingAt 18 = .ok (.getfield 71, 3) := by decide +kernel
theorem d_M_pendingAt_21 : decode b_M_pendingAt 21 = .ok (.iload_n 1, 1) := by decide +kernel
theorem d_M_pendingAt_22 : decode b_M_pendingAt 22 = .ok (.iaload, 1) := by decide +kernel
theorem d_M_pendingAt_23 : decode b_M_pendingAt 23 = .ok (.if_icmp .ge 17, 3) := by decide +kernel
theorem d_M_pendingAt_26 : decode b_M_pendingAt 26 = .ok (.aload_n 0, 1) := by decide +kernel
theorem d_M_pendingAt_27 : decode b_M_pendingAt 27 = .ok (.getfield 68, 3) := by decide +kernel
theorem d_M_pendingAt_30 : decode b_M_pendingAt 30 = .ok (.bipush 6, 2) := by decide +kernel
theorem d_M_pendingAt_32 : decode b_M_pendingAt 32 = .ok (.iload_n 1, 1) := by decide +kernel
theorem d_M_pendingAt_33 : decode b_M_pendingAt 33 = .ok (.imul, 1) := by decide +kernel
theorem d_M_pendingAt_34 : decode b_M_pendingAt 34 = .ok (.iload_n 2, 1) := by decide +kernel
theorem d_M_pendingAt_35 : decode b_M_pendingAt 35 = .ok (.iadd, 1) := by decide +kernel
theorem d_M_pendingAt_36 : decode b_M_pendingAt 36 = .ok (.iaload, 1) := by decide +kernel
theorem d_M_pendingAt_37 : decode b_M_pendingAt 37 = .ok (.goto 4, 3) := by decide +kernel
theorem d_M_pendingAt_40 : decode b_M_pendingAt 40 = .ok (.iconst (-1), 1) := by decide +kernel
theorem d_M_pendingAt_41 : decode b_M_pendingAt 41 = .ok (.ireturn, 1) := by decide +kernel
theorem d_M_value_0 : decode b_M_value 0 = .ok (.aload_n 0, 1) := by decide +kernel
theorem d_M_value_1 : decode b_M_value 1 = .ok (.iload_n 1, 1) := by decide +kernel
theorem d_M_value_2 : decode b_M_value 2 = .ok (.invokevirtual 127, 3) := by decide +kernel
theorem d_M_value_5 : decode b_M_value 5 = .ok (.ifCond .eq 12, 3) := by decide +kernel
theorem d_M_value_8 : decode b_M_value 8 = .ok (.aload_n 0, 1) := by decide +kernel
theorem d_M_value_9 : decode b_M_value 9 = .ok (.getfield 53, 3) := by decide +kernel
theorem d_M_value_12 : decode b_M_value 12 = .ok (.iload_n 1, 1) := by decide +kernel
theorem d_M_value_13 : decode b_M_value 13 = .ok (.iaload, 1) := by decide +kernel
theorem d_M_value_14 : decode b_M_value 14 = .ok (.goto 4, 3) := by decide +kernel
theorem d_M_value_17 : decode b_M_value 17 = .ok (.iconst 0, 1) := by decide +kernel
theorem d_M_value_18 : decode b_M_value 18 = .ok (.ireturn, 1) := by decide +kernel
theorem d_M_state_0 : decode b_M_state 0 = .ok (.aload_n 0, 1) := by decide +kernel
theorem d_M_state_1 : decode b_M_state 1 = .ok (.iload_n 1, 1) := by decide +kernel
theorem d_M_state_2 : decode b_M_state 2 = .ok (.invokevirtual 127, 3) := by decide +kernel
theorem d_M_state_5 : decode b_M_state 5 = .ok (.ifCond .eq 12, 3) := by decide +kernel
theorem d_M_state_8 : decode b_M_state 8 = .ok (.aload_n 0, 1) := by decide +kernel
theorem d_M_state_9 : decode b_M_state 9 = .ok (.getfield 56, 3) := by decide +kernel
theorem d_M_state_12 : decode b_M_state 12 = .ok (.iload_n 1, 1) := by decide +kernel
theorem d_M_state_13 : decode b_M_state 13 = .ok (.iaload, 1) := by decide +kernel
theorem d_M_state_14 : decode b_M_state 14 = .ok (.goto 4, 3) := by decide +kernel
theorem d_M_state_17 : decode b_M_state 17 = .ok (.iconst 0, 1) := by decide +kernel
theorem d_M_state_18 : decode b_M_state 18 = .ok (.ireturn, 1) := by decide +kernel
theorem d_M_consumer_0 : decode b_M_consumer 0 = .ok (.aload_n 0, 1) := by decide +kernel
theorem d_M_consumer_1 : decode b_M_consumer 1 = .ok (.iload_n 1, 1) := by decide +kernel
theorem d_M_consumer_2 : decode b_M_consumer 2 = .ok (.invokevirtual 127, 3) := by decide +kernel
theorem d_M_consumer_5 : decode b_M_consumer 5 = .ok (.ifCond .eq 12, 3) := by decide +kernel
theorem d_M_consumer_8 : decode b_M_consumer 8 = .ok (.aload_n 0, 1) := by decide +kernel
theorem d_M_consumer_9 : decode b_M_consumer 9 = .ok (.getfield 59, 3) := by decide +kernel
theorem d_M_consumer_12 : decode b_M_consumer 12 = .ok (.iload_n 1, 1) := by decide +kernel
theorem d_M_consumer_13 : decode b_M_consumer 13 = .ok (.iaload, 1) := by decide +kernel
theorem d_M_consumer_14 : decode b_M_consumer 14 = .ok (.goto 4, 3) := by decide +kernel
theorem d_M_consumer_17 : decode b_M_consumer 17 = .ok (.iconst (-1), 1) := by decide +kernel
theorem d_M_consumer_18 : decode b_M_consumer 18 = .ok (.ireturn, 1) := by decide +kernel
theorem d_M_answer_0 : decode b_M_answer 0 = .ok (.aload_n 0, 1) := by decide +kernel
theorem d_M_answer_1 : decode b_M_answer 1 = .ok (.iload_n 1, 1) := by decide +kernel
theorem d_M_answer_2 : decode b_M_answer 2 = .ok (.invokevirtual 127, 3) := by decide +kernel
theorem d_M_answer_5 : decode b_M_answer 5 = .ok (.ifCond .eq 12, 3) := by decide +kernel
theorem d_M_answer_8 : decode b_M_answer 8 = .ok (.aload_n 0, 1) := by decide +kernel
theorem d_M_answer_9 : decode b_M_answer 9 = .ok (.getfield 62, 3) := by decide +kernel
theorem d_M_answer_12 : decode b_M_answer 12 = .ok (.iload_n 1, 1) := by decide +kernel
theorem d_M_answer_13 : decode b_M_answer 13 = .ok (.iaload, 1) := by decide +kernel
theorem d_M_answer_14 : decode b_M_answer 14 = .ok (.goto 4, 3) := by decide +kernel
theorem d_M_answer_17 : decode b_M_answer 17 = .ok (.iconst 0, 1) := by decide +kernel
theorem d_M_answer_18 : decode b_M_answer 18 = .ok (.ireturn, 1) := by decide +kernel
theorem d_M_fired_0 : decode b_M_fired 0 = .ok (.iload_n 1, 1) := by decide +kernel
theorem d_M_fired_1 : decode b_M_fired 1 = .ok (.ifCond .lt 20, 3) := by decide +kernel
theorem d_M_fired_4 : decode b_M_fired 4 = .ok (.iload_n 1, 1) := by decide +kernel
theorem d_M_fired_5 : decode b_M_fired 5 = .ok (.aload_n 0, 1) := by decide +kernel
theorem d_M_fired_6 : decode b_M_fired 6 = .ok (.getfield 152, 3) := by decide +kernel
theorem d_M_fired_9 : decode b_M_fired 9 = .ok (.if_icmp .ge 12, 3) := by decide +kernel
theorem d_M_fired_12 : decode b_M_fired 12 = .ok (.aload_n 0, 1) := by decide +kernel
theorem d_M_fired_13 : decode b_M_fired 13 = .ok (.getfield 65, 3) := by decide +kernel
theorem d_M_fired_16 : decode b_M_fired 16 = .ok (.iload_n 1, 1) := by decide +kernel
theorem d_M_fired_17 : decode b_M_fired 17 = .ok (.iaload, 1) := by decide +kernel
theorem d_M_fired_18 : decode b_M_fired 18 = .ok (.goto 4, 3) := by decide +kernel
theorem d_M_fired_21 : decode b_M_fired 21 = .ok (.iconst (-1), 1) := by decide +kernel
theorem d_M_fired_22 : decode b_M_fired 22 = .ok (.ireturn, 1) := by decide +kernel

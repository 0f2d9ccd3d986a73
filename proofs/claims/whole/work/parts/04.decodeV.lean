theorem d_V_channel_0 : decode b_V_channel 0 = .ok (.aload_n 0, 1) := by decide +kernel
theorem d_V_channel_1 : decode b_V_channel 1 = .ok (.getfield 28, 3) := by decide +kernel
theorem d_V_channel_4 : decode b_V_channel 4 = .ok (.ifCond .ne 12, 3) := by decide +kernel
theorem d_V_channel_7 : decode b_V_channel 7 = .ok (.aload_n 0, 1) := by decide +kernel
theorem d_V_channel_8 : decode b_V_channel 8 = .ok (.getfield 15, 3) := by decide +kernel
theorem d_V_channel_11 : decode b_V_channel 11 = .ok (.bipush 8, 2) := by decide +kernel
theorem d_V_channel_13 : decode b_V_channel 13 = .ok (.if_icmp .lt 5, 3) := by decide +kernel
theorem d_V_channel_16 : decode b_V_channel 16 = .ok (.iconst (-1), 1) := by decide +kernel
theorem d_V_channel_17 : decode b_V_channel 17 = .ok (.ireturn, 1) := by decide +kernel
theorem d_V_channel_18 : decode b_V_channel 18 = .ok (.aload_n 0, 1) := by decide +kernel
theorem d_V_channel_19 : decode b_V_channel 19 = .ok (.getfield 11, 3) := by decide +kernel
theorem d_V_channel_22 : decode b_V_channel 22 = .ok (.aload_n 0, 1) := by decide +kernel
theorem d_V_channel_23 : decode b_V_channel 23 = .ok (.getfield 15, 3) := by decide +kernel
theorem d_V_channel_26 : decode b_V_channel 26 = .ok (.aaload, 1) := by decide +kernel
theorem d_V_channel_27 : decode b_V_channel 27 = .ok (.iload_n 1, 1) := by decide +kernel
theorem d_V_channel_28 : decode b_V_channel 28 = .ok (.putfield 55, 3) := by decide +kernel
theorem d_V_channel_31 : decode b_V_channel 31 = .ok (.aload_n 0, 1) := by decide +kernel
theorem d_V_channel_32 : decode b_V_channel 32 = .ok (.dup, 1) := by decide +kernel
theorem d_V_channel_33 : decode b_V_channel 33 = .ok (.getfield 15, 3) := by decide +kernel
theorem d_V_channel_36 : decode b_V_channel 36 = .ok (.iconst 1, 1) := by decide +kernel
theorem d_V_channel_37 : decode b_V_channel 37 = .ok (.iadd, 1) := by decide +kernel
theorem d_V_channel_38 : decode b_V_channel 38 = .ok (.putfield 15, 3) := by decide +kernel
theorem d_V_channel_41 : decode b_V_channel 41 = .ok (.aload_n 0, 1) := by decide +kernel
theorem d_V_channel_42 : decode b_V_channel 42 = .ok (.getfield 15, 3) := by decide +kernel
theorem d_V_channel_45 : decode b_V_channel 45 = .ok (.iconst 1, 1) := by decide +kernel
theorem d_V_channel_46 : decode b_V_channel 46 = .ok (.isub, 1) := by decide +kernel
theorem d_V_channel_47 : decode b_V_channel 47 = .ok (.ireturn, 1) := by decide +kernel
theorem d_V_reaction_0 : decode b_V_reaction 0 = .ok (.aload_n 0, 1) := by decide +kernel
theorem d_V_reaction_1 : decode b_V_reaction 1 = .ok (.getfield 28, 3) := by decide +kernel
theorem d_V_reaction_4 : decode b_V_reaction 4 = .ok (.ifCond .ne 12, 3) := by decide +kernel
theorem d_V_reaction_7 : decode b_V_reaction 7 = .ok (.aload_n 0, 1) := by decide +kernel
theorem d_V_reaction_8 : decode b_V_reaction 8 = .ok (.getfield 25, 3) := by decide +kernel
theorem d_V_reaction_11 : decode b_V_reaction 11 = .ok (.bipush 8, 2) := by decide +kernel
theorem d_V_reaction_13 : decode b_V_reaction 13 = .ok (.if_icmp .lt 5, 3) := by decide +kernel
theorem d_V_reaction_16 : decode b_V_reaction 16 = .ok (.iconst (-1), 1) := by decide +kernel
theorem d_V_reaction_17 : decode b_V_reaction 17 = .ok (.ireturn, 1) := by decide +kernel
theorem d_V_reaction_18 : decode b_V_reaction 18 = .ok (.aload_n 0, 1) := by decide +kernel
theorem d_V_reaction_19 : decode b_V_reaction 19 = .ok (.dup, 1) := by decide +kernel
theorem d_V_reaction_20 : decode b_V_reaction 20 = .ok (.getfield 25, 3) := by decide +kernel
theorem d_V_reaction_23 : decode b_V_reaction 23 = .ok (.iconst 1, 1) := by decide +kernel
theorem d_V_reaction_24 : decode b_V_reaction 24 = .ok (.iadd, 1) := by decide +kernel
theorem d_V_reaction_25 : decode b_V_reaction 25 = .ok (.putfield 25, 3) := by decide +kernel
theorem d_V_reaction_28 : decode b_V_reaction 28 = .ok (.aload_n 0, 1) := by decide +kernel
theorem d_V_reaction_29 : decode b_V_reaction 29 = .ok (.getfield 25, 3) := by decide +kernel
theorem d_V_reaction_32 : decode b_V_reaction 32 = .ok (.iconst 1, 1) := by decide +kernel
theorem d_V_reaction_33 : decode b_V_reaction 33 = .ok (.isub, 1) := by decide +kernel
theorem d_V_reaction_34 : decode b_V_reaction 34 = .ok (.ireturn, 1) := by decide +kernel
theorem d_V_mayBuild_0 : decode b_V_mayBuild 0 = .ok (.aload_n 0, 1) := by decide +kernel
theorem d_V_mayBuild_1 : decode b_V_mayBuild 1 = .ok (.getfield 28, 3) := by decide +kernel
theorem d_V_mayBuild_4 : decode b_V_mayBuild 4 = .ok (.ifCond .ne 19, 3) := by decide +kernel
theorem d_V_mayBuild_7 : decode b_V_mayBuild 7 = .ok (.iload_n 1, 1) := by decide +kernel
theorem d_V_mayBuild_8 : decode b_V_mayBuild 8 = .ok (.ifCond .lt 15, 3) := by decide +kernel
theorem d_V_mayBuild_11 : decode b_V_mayBuild 11 = .ok (.iload_n 1, 1) := by decide +kernel
theorem d_V_mayBuild_12 : decode b_V_mayBuild 12 = .ok (.aload_n 0, 1) := by decide +kernel
theorem d_V_mayBuild_13 : decode b_V_mayBuild 13 = .ok (.getfield 25, 3) := by decide +kernel
theorem d_V_mayBuild_16 : decode b_V_mayBuild 16 = .ok (.if_icmp .ge 7, 3) := by decide +kernel
theorem d_V_mayBuild_19 : decode b_V_mayBuild 19 = .ok (.iconst 1, 1) := by decide +kernel
theorem d_V_mayBuild_20 : decode b_V_mayBuild 20 = .ok (.goto 4, 3) := by decide +kernel
theorem d_V_mayBuild_23 : decode b_V_mayBuild 23 = .ok (.iconst 0, 1) := by decide +kernel
theorem d_V_mayBuild_24 : decode b_V_mayBuild 24 = .ok (.ireturn, 1) := by decide +kernel
theorem d_V_isChannel_0 : decode b_V_isChannel 0 = .ok (.iload_n 1, 1) := by decide +kernel
theorem d_V_isChannel_1 : decode b_V_isChannel 1 = .ok (.ifCond .lt 15, 3) := by decide +kernel
theorem d_V_isChannel_4 : decode b_V_isChannel 4 = .ok (.iload_n 1, 1) := by decide +kernel
theorem d_V_isChannel_5 : decode b_V_isChannel 5 = .ok (.aload_n 0, 1) := by decide +kernel
theorem d_V_isChannel_6 : decode b_V_isChannel 6 = .ok (.getfield 15, 3) := by decide +kernel
theorem d_V_isChannel_9 : decode b_V_isChannel 9 = .ok (.if_icmp .ge 7, 3) := by decide +kernel
theorem d_V_isChannel_12 : decode b_V_isChannel 12 = .ok (.iconst 1, 1) := by decide +kernel
theorem d_V_isChannel_13 : decode b_V_isChannel 13 = .ok (.goto 4, 3) := by decide +kernel
theorem d_V_isChannel_16 : decode b_V_isChannel 16 = .ok (.iconst 0, 1) := by decide +kernel
theorem d_V_isChannel_17 : decode b_V_isChannel 17 = .ok (.ireturn, 1) := by decide +kernel
theorem d_V_isWithin_0 : decode b_V_isWithin 0 = .ok (.iload_n 0, 1) := by decide +kernel
theorem d_V_isWithin_1 : decode b_V_isWithin 1 = .ok (.ifCond .lt 12, 3) := by decide +kernel
theorem d_V_isWithin_4 : decode b_V_isWithin 4 = .ok (.iload_n 0, 1) := by decide +kernel
theorem d_V_isWithin_5 : decode b_V_isWithin 5 = .ok (.iload_n 1, 1) := by decide +kernel
theorem d_V_isWithin_6 : decode b_V_isWithin 6 = .ok (.if_icmp .gt 7, 3) := by decide +kernel
theorem d_V_isWithin_9 : decode b_V_isWithin 9 = .ok (.iconst 1, 1) := by decide +kernel
theorem d_V_isWithin_10 : decode b_V_isWithin 10 = .ok (.goto 4, 3) := by decide +kernel
theorem d_V_isWithin_13 : decode b_V_isWithin 13 = .ok (.iconst 0, 1) := by decide +kernel
theorem d_V_isWithin_14 : decode b_V_isWithin 14 = .ok (.ireturn, 1) := by decide +kernel
theorem d_Re_addPart_0 : decode b_Re_addPart 0 = .ok (.aload_n 0, 1) := by decide +kernel
theorem d_Re_addPart_1 : decode b_Re_addPart 1 = .ok (.getfield 9, 3) := by decide +kernel
theorem d_Re_addPart_4 : decode b_Re_addPart 4 = .ok (.istore 4, 2) := by decide +kernel
theorem d_Re_addPart_6 : decode b_Re_addPart 6 = .ok (.aload_n 0, 1) := by decide +kernel
theorem d_Re_addPart_7 : decode b_Re_addPart 7 = .ok (.getfield 15, 3) := by decide +kernel
theorem d_Re_addPart_10 : decode b_Re_addPart 10 = .ok (.iload 4, 2) := by decide +kernel
theorem d_Re_addPart_12 : decode b_Re_addPart 12 = .ok (.iload_n 1, 1) := by decide +kernel
theorem d_Re_addPart_13 : decode b_Re_addPart 13 = .ok (.iastore, 1) := by decide +kernel
theorem d_Re_addPart_14 : decode b_Re_addPart 14 = .ok (.aload_n 0, 1) := by decide +kernel
theorem d_Re_addPart_15 : decode b_Re_addPart 15 = .ok (.getfield 19, 3) := by decide +kernel
theorem d_Re_addPart_18 : decode b_Re_addPart 18 = .ok (.iload 4, 2) := by decide +kernel
theorem d_Re_addPart_20 : decode b_Re_addPart 20 = .ok (.iload_n 2, 1) := by decide +kernel
theorem d_Re_addPart_21 : decode b_Re_addPart 21 = .ok (.iastore, 1) := by decide +kernel
theorem d_Re_addPart_22 : decode b_Re_addPart 22 = .ok (.aload_n 0, 1) := by decide +kernel
theorem d_Re_addPart_23 : decode b_Re_addPart 23 = .ok (.getfield 22, 3) := by decide +kernel
theorem d_Re_addPart_26 : decode b_Re_addPart 26 = .ok (.iload 4, 2) := by decide +kernel
theorem d_Re_addPart_28 : decode b_Re_addPart 28 = .ok (.iload_n 3, 1) := by decide +kernel
theorem d_Re_addPart_29 : decode b_Re_addPart 29 = .ok (.iastore, 1) := by decide +kernel
theorem d_Re_addPart_30 : decode b_Re_addPart 30 = .ok (.aload_n 0, 1) := by decide +kernel
theorem d_Re_addPart_31 : decode b_Re_addPart 31 = .ok (.dup, 1) := by decide +kernel
theorem d_Re_addPart_32 : decode b_Re_addPart 32 = .ok (.getfield 9, 3) := by decide +kernel
theorem d_Re_addPart_35 : decode b_Re_addPart 35 = .ok (.iconst 1, 1) := by decide +kernel
theorem d_Re_addPart_36 : decode b_Re_addPart 36 = .ok (.iadd, 1) := by decide +kernel
theorem d_Re_addPart_37 : decode b_Re_addPart 37 = .ok (.putfield 9, 3) := by decide +kernel
theorem d_Re_addPart_40 : decode b_Re_addPart 40 = .ok (.iload 4, 2) := by decide +kernel
theorem d_Re_addPart_42 : decode b_Re_addPart 42 = .ok (.ireturn, 1) := by decide +kernel
theorem d_V_part_0 : decode b_V_part 0 = .ok (.aload_n 0, 1) := by decide +kernel
theorem d_V_part_1 : decode b_V_part 1 = .ok (.iload_n 1, 1) := by decide +kernel
theorem d_V_part_2 : decode b_V_part 2 = .ok (.invokevirtual 58, 3) := by decide +kernel
theorem d_V_part_5 : decode b_V_part 5 = .ok (.ifCond .eq 19, 3) := by decide +kernel
theorem d_V_part_8 : decode b_V_part 8 = .ok (.aload_n 0, 1) := by decide +kernel
theorem d_V_part_9 : decode b_V_part 9 = .ok (.iload_n 2, 1) := by decide +kernel
theorem d_V_part_10 : decode b_V_part 10 = .ok (.invokevirtual 62, 3) := by decide +kernel
theorem d_V_part_13 : decode b_V_part 13 = .ok (.ifCond .eq 11, 3) := by decide +kernel
theorem d_V_part_16 : decode b_V_part 16 = .ok (.iload_n 3, 1) := by decide +kernel
theorem d_V_part_17 : decode b_V_part 17 = .ok (.iconst 4, 1) := by decide +kernel
theorem d_V_part_18 : decode b_V_part 18 = .ok (.invokestatic 65, 3) := by decide +kernel
theorem d_V_part_21 : decode b_V_part 21 = .ok (.ifCond .ne 5, 3) := by decide +kernel
theorem d_V_part_24 : decode b_V_part 24 = .ok (.iconst (-1), 1) := by decide +kernel
theorem d_V_part_25 : decode b_V_part 25 = .ok (.ireturn, 1) := by decide +kernel
theorem d_V_part_26 : decode b_V_part 26 = .ok (.aload_n 0, 1) := by decide +kernel
theorem d_V_part_27 : decode b_V_part 27 = .ok (.getfield 21, 3) := by decide +kernel
theorem d_V_part_30 : decode b_V_part 30 = .ok (.iload_n 1, 1) := by decide +kernel
theorem d_V_part_31 : decode b_V_part 31 = .ok (.aaload, 1) := by decide +kernel
theorem d_V_part_32 : decode b_V_part 32 = .ok (.getfield 69, 3) := by decide +kernel
theorem d_V_part_35 : decode b_V_part 35 = .ok (.iconst 4, 1) := by decide +kernel
theorem d_V_part_36 : decode b_V_part 36 = .ok (.if_icmp .lt 5, 3) := by decide +kernel
theorem d_V_part_39 : decode b_V_part 39 = .ok (.iconst (-1), 1) := by decide +kernel
theorem d_V_part_40 : decode b_V_part 40 = .ok (.ireturn, 1) := by decide +kernel
theorem d_V_part_41 : decode b_V_part 41 = .ok (.aload_n 0, 1) := by decide +kernel
theorem d_V_part_42 : decode b_V_part 42 = .ok (.getfield 21, 3) := by decide +kernel
theorem d_V_part_45 : decode b_V_part 45 = .ok (.iload_n 1, 1) := by decide +kernel
theorem d_V_part_46 : decode b_V_part 46 = .ok (.aaload, 1) := by decide +kernel
theorem d_V_part_47 : decode b_V_part 47 = .ok (.iload_n 2, 1) := by decide +kernel
theorem d_V_part_48 : decode b_V_part 48 = .ok (.iload_n 3, 1) := by decide +kernel
theorem d_V_part_49 : decode b_V_part 49 = .ok (.iload 4, 2) := by decide +kernel
theorem d_V_part_51 : decode b_V_part 51 = .ok (.invokevirtual 72, 3) := by decide +kernel
theorem d_V_part_54 : decode b_V_part 54 = .ok (.ireturn, 1) := by decide +kernel
theorem d_V_guard_0 : decode b_V_guard 0 = .ok (.aload_n 0, 1) := by decide +kernel
theorem d_V_guard_1 : decode b_V_guard 1 = .ok (.iload_n 1, 1) := by decide +kernel
theorem d_V_guard_2 : decode b_V_guard 2 = .ok (.invokevirtual 58, 3) := by decide +kernel
theorem d_V_guard_5 : decode b_V_guard 5 = .ok (.ifCond .eq 11, 3) := by decide +kernel
theorem d_V_guard_8 : decode b_V_guard 8 = .ok (.iload_n 2, 1) := by decide +kernel
theorem d_V_guard_9 : decode b_V_guard 9 = .ok (.iconst 5, 1) := by decide +kernel
theorem d_V_guard_10 : decode b_V_guard 10 = .ok (.invokestatic 65, 3) := by decide +kernel
theorem d_V_guard_13 : decode b_V_guard 13 = .ok (.ifCond .ne 5, 3) := by decide +kernel
theorem d_V_guard_16 : decode b_V_guard 16 = .ok (.iconst 0, 1) := by decide +kernel
theorem d_V_guard_17 : decode b_V_guard 17 = .ok (.ireturn, 1) := by decide +kernel
theorem d_V_guard_18 : decode b_V_guard 18 = .ok (.aload_n 0, 1) := by decide +kernel
theorem d_V_guard_19 : decode b_V_guard 19 = .ok (.getfield 21, 3) := by decide +kernel
theorem d_V_guard_22 : decode b_V_guard 22 = .ok (.iload_n 1, 1) := by decide +kernel
theorem d_V_guard_23 : decode b_V_guard 23 = .ok (.aaload, 1) := by decide +kernel
theorem d_V_guard_24 : decode b_V_guard 24 = .ok (.iload_n 2, 1) := by decide +kernel
theorem d_V_guard_25 : decode b_V_guard 25 = .ok (.putfield 76, 3) := by decide +kernel
theorem d_V_guard_28 : decode b_V_guard 28 = .ok (.aload_n 0, 1) := by decide +kernel
theorem d_V_guard_29 : decode b_V_guard 29 = .ok (.getfield 21, 3) := by decide +kernel
theorem d_V_guard_32 : decode b_V_guard 32 = .ok (.iload_n 1, 1) := by decide +kernel
theorem d_V_guard_33 : decode b_V_guard 33 = .ok (.aaload, 1) := by decide +kernel
theorem d_V_guard_34 : decode b_V_guard 34 = .ok (.iload_n 3, 1) := by decide +kernel
theorem d_V_guard_35 : decode b_V_guard 35 = .ok (.putfield 79, 3) := by decide +kernel
theorem d_V_guard_38 : decode b_V_guard 38 = .ok (.iconst 1, 1) := by decide +kernel
theorem d_V_guard_39 : decode b_V_guard 39 = .ok (.ireturn, 1) := by decide +kernel
theorem d_V_isChannelOf_0 : decode b_V_isChannelOf 0 = .ok (.aload_n 0, 1) := by decide +kernel
theorem d_V_isChannelOf_1 : decode b_V_isChannelOf 1 = .ok (.iload_n 1, 1) := by decide +kernel
theorem d_V_isChannelOf_2 : decode b_V_isChannelOf 2 = .ok (.invokevirtual 62, 3) := by decide +kernel
theorem d_V_isChannelOf_5 : decode b_V_isChannelOf 5 = .ok (.ifCond .eq 20, 3) := by decide +kernel
theorem d_V_isChannelOf_8 : decode b_V_isChannelOf 8 = .ok (.aload_n 0, 1) := by decide +kernel
theorem d_V_isChannelOf_9 : decode b_V_isChannelOf 9 = .ok (.getfield 11, 3) := by decide +kernel
theorem d_V_isChannelOf_12 : decode b_V_isChannelOf 12 = .ok (.iload_n 1, 1) := by decide +kernel
theorem d_V_isChannelOf_13 : decode b_V_isChannelOf 13 = .ok (.aaload, 1) := by decide +kernel
theorem d_V_isChannelOf_14 : decode b_V_isChannelOf 14 = .ok (.getfield 55, 3) := by decide +kernel
theorem d_V_isChannelOf_17 : decode b_V_isChannelOf 17 = .ok (.iload_n 2, 1) := by decide +kernel
theorem d_V_isChannelOf_18 : decode b_V_isChannelOf 18 = .ok (.if_icmp .ne 7, 3) := by decide +kernel
theorem d_V_isChannelOf_21 : decode b_V_isChannelOf 21 = .ok (.iconst 1, 1) := by decide +kernel
theorem d_V_isChannelOf_22 : decode b_V_isChannelOf 22 = .ok (.goto 4, 3) := by decide +kernel
theorem d_V_isChannelOf_25 : decode b_V_isChannelOf 25 = .ok (.iconst 0, 1) := by decide +kernel
theorem d_V_isChannelOf_26 : decode b_V_isChannelOf 26 = .ok (.ireturn, 1) := by decide +kernel
theorem d_Re_hasPart_0 : decode b_Re_hasPart 0 = .ok (.iload_n 1, 1) := by decide +kernel
theorem d_Re_hasPart_1 : decode b_Re_hasPart 1 = .ok (.ifCond .lt 15, 3) := by decide +kernel
theorem d_Re_hasPart_4 : decode b_Re_hasPart 4 = .ok (.iload_n 1, 1) := by decide +kernel
theorem d_Re_hasPart_5 : decode b_Re_hasPart 5 = .ok (.aload_n 0, 1) := by decide +kernel
theorem d_Re_hasPart_6 : decode b_Re_hasPart 6 = .ok (.getfield 9, 3) := by decide +kernel
theorem d_Re_hasPart_9 : decode b_Re_hasPart 9 = .ok (.if_icmp .ge 7, 3) := by decide +kernel
theorem d_Re_hasPart_12 : decode b_Re_hasPart 12 = .ok (.iconst 1, 1) := by decide +kernel
theorem d_Re_hasPart_13 : decode b_Re_hasPart 13 = .ok (.goto 4, 3) := by decide +kernel
theorem d_Re_hasPart_16 : decode b_Re_hasPart 16 = .ok (.iconst 0, 1) := by decide +kernel
theorem d_Re_hasPart_17 : decode b_Re_hasPart 17 = .ok (.ireturn, 1) := by decide +kernel
theorem d_Re_mayAddAction_0 : decode b_Re_mayAddAction 0 = .ok (.iload_n 1, 1) := by decide +kernel
theorem d_Re_mayAddAction_1 : decode b_Re_mayAddAction 1 = .ok (.iconst 4, 1) := by decide +kernel
theorem d_Re_mayAddAction_2 : decode b_Re_mayAddAction 2 = .ok (.invokestatic 50, 3) := by decide +kernel
theorem d_Re_mayAddAction_5 : decode b_Re_mayAddAction 5 = .ok (.ifCond .eq 11, 3) := by decide +kernel
theorem d_Re_mayAddAction_8 : decode b_Re_mayAddAction 8 = .ok (.aload_n 0, 1) := by decide +kernel
theorem d_Re_mayAddAction_9 : decode b_Re_mayAddAction 9 = .ok (.getfield 31, 3) := by decide +kernel
theorem d_Re_mayAddAction_12 : decode b_Re_mayAddAction 12 = .ok (.iconst 4, 1) := by decide +kernel
theorem d_Re_mayAddAction_13 : decode b_Re_mayAddAction 13 = .ok (.if_icmp .lt 5, 3) := by decide +kernel
theorem d_Re_mayAddAction_16 : decode b_Re_mayAddAction 16 = .ok (.iconst 0, 1) := by decide +kernel
theorem d_Re_mayAddAction_17 : decode b_Re_mayAddAction 17 = .ok (.ireturn, 1) := by decide +kernel
theorem d_Re_mayAddAction_18 : decode b_Re_mayAddAction 18 = .ok (.iload_n 1, 1) := by decide +kernel
theorem d_Re_mayAddAction_19 : decode b_Re_mayAddAction 19 = .ok (.iconst 1, 1) := by decide +kernel
theorem d_Re_mayAddAction_20 : decode b_Re_mayAddAction 20 = .ok (.if_icmp .eq 8, 3) := by decide +kernel
theorem d_Re_mayAddAction_23 : decode b_Re_mayAddAction 23 = .ok (.iload_n 1, 1) := by decide +kernel
theorem d_Re_mayAddAction_24 : decode b_Re_mayAddAction 24 = .ok (.iconst 2, 1) := by decide +kernel
theorem d_Re_mayAddAction_25 : decode b_Re_mayAddAction 25 = .ok (.if_icmp .ne 7, 3) := by decide +kernel
theorem d_Re_mayAddAction_28 : decode b_Re_mayAddAction 28 = .ok (.iconst 1, 1) := by decide +kernel
theorem d_Re_mayAddAction_29 : decode b_Re_mayAddAction 29 = .ok (.goto 4, 3) := by decide +kernel
theorem d_Re_mayAddAction_32 : decode b_Re_mayAddAction 32 = .ok (.iconst 0, 1) := by decide +kernel
theorem d_Re_mayAddAction_33 : decode b_Re_mayAddAction 33 = .ok (.istore_n 3, 1) := by decide +kernel
theorem d_Re_mayAddAction_34 : decode b_Re_mayAddAction 34 = .ok (.iload_n 3, 1) := by decide +kernel
theorem d_Re_mayAddAction_35 : decode b_Re_mayAddAction 35 = .ok (.ifCond .eq 11, 3) := by decide +kernel
theorem d_Re_mayAddAction_38 : decode b_Re_mayAddAction 38 = .ok (.aload_n 0, 1) := by decide +kernel
theorem d_Re_mayAddAction_39 : decode b_Re_mayAddAction 39 = .ok (.iload_n 2, 1) := by decide +kernel
theorem d_Re_mayAddAction_40 : decode b_Re_mayAddAction 40 = .ok (.invokevirtual 54, 3) := by decide +kernel
theorem d_Re_mayAddAction_43 : decode b_Re_mayAddAction 43 = .ok (.ifCond .eq 7, 3) := by decide +kernel
theorem d_Re_mayAddAction_46 : decode b_Re_mayAddAction 46 = .ok (.iconst 1, 1) := by decide +kernel
theorem d_Re_mayAddAction_47 : decode b_Re_mayAddAction 47 = .ok (.goto 4, 3) := by decide +kernel
theorem d_Re_mayAddAction_50 : decode b_Re_mayAddAction 50 = .ok (.iconst 0, 1) := by decide +kernel
theorem d_Re_mayAddAction_51 : decode b_Re_mayAddAction 51 = .ok (.ireturn, 1) := by decide +kernel
theorem d_Re_addAction_0 : decode b_Re_addAction 0 = .ok (.aload_n 0, 1) := by decide +kernel
theorem d_Re_addAction_1 : decode b_Re_addAction 1 = .ok (.getfield 31, 3) := by decide +kernel
theorem d_Re_addAction_4 : decode b_Re_addAction 4 = .ok (.istore 6, 2) := by decide +kernel
theorem d_Re_addAction_6 : decode b_Re_addAction 6 = .ok (.aload_n 0, 1) := by decide +kernel
theorem d_Re_addAction_7 : decode b_Re_addAction 7 = .ok (.getfield 34, 3) := by decide +kernel
theorem d_Re_addAction_10 : decode b_Re_addAction 10 = .ok (.iload 6, 2) := by decide +kernel
theorem d_Re_addAction_12 : decode b_Re_addAction 12 = .ok (.iload_n 1, 1) := by decide +kernel
theorem d_Re_addAction_13 : decode b_Re_addAction 13 = .ok (.bastore, 1) := by decide +kernel
theorem d_Re_addAction_14 : decode b_Re_addAction 14 = .ok (.aload_n 0, 1) := by decide +kernel
theorem d_Re_addAction_15 : decode b_Re_addAction 15 = .ok (.getfield 38, 3) := by decide +kernel
theorem d_Re_addAction_18 : decode b_Re_addAction 18 = .ok (.iload 6, 2) := by decide +kernel
theorem d_Re_addAction_20 : decode b_Re_addAction 20 = .ok (.iload_n 2, 1) := by decide +kernel
theorem d_Re_addAction_21 : decode b_Re_addAction 21 = .ok (.iastore, 1) := by decide +kernel
theorem d_Re_addAction_22 : decode b_Re_addAction 22 = .ok (.aload_n 0, 1) := by decide +kernel
theorem d_Re_addAction_23 : decode b_Re_addAction 23 = .ok (.getfield 41, 3) := by decide +kernel
theorem d_Re_addAction_26 : decode b_Re_addAction 26 = .ok (.iload 6, 2) := by decide +kernel
theorem d_Re_addAction_28 : decode b_Re_addAction 28 = .ok (.iload_n 3, 1) := by decide +kernel
theorem d_Re_addAction_29 : decode b_Re_addAction 29 = .ok (.iastore, 1) := by decide +kernel
theorem d_Re_addAction_30 : decode b_Re_addAction 30 = .ok (.aload_n 0, 1) := by decide +kernel
theorem d_Re_addAction_31 : decode b_Re_addAction 31 = .ok (.getfield 44, 3) := by decide +kernel
theorem d_Re_addAction_34 : decode b_Re_addAction 34 = .ok (.iload 6, 2) := by decide +kernel
theorem d_Re_addAction_36 : decode b_Re_addAction 36 = .ok (.iload 4, 2) := by decide +kernel
theorem d_Re_addAction_38 : decode b_Re_addAction 38 = .ok (.iastore, 1) := by decide +kernel
theorem d_Re_addAction_39 : decode b_Re_addAction 39 = .ok (.aload_n 0, 1) := by decide +kernel
theorem d_Re_addAction_40 : decode b_Re_addAction 40 = .ok (.getfield 47, 3) := by decide +kernel
theorem d_Re_addAction_43 : decode b_Re_addAction 43 = .ok (.iload 6, 2) := by decide +kernel
theorem d_Re_addAction_45 : decode b_Re_addAction 45 = .ok (.iload 5, 2) := by decide +kernel
theorem d_Re_addAction_47 : decode b_Re_addAction 47 = .ok (.iastore, 1) := by decide +kernel
theorem d_Re_addAction_48 : decode b_Re_addAction 48 = .ok (.aload_n 0, 1) := by decide +kernel
theorem d_Re_addAction_49 : decode b_Re_addAction 49 = .ok (.dup, 1) := by decide +kernel
theorem d_Re_addAction_50 : decode b_Re_addAction 50 = .ok (.getfield 31, 3) := by decide +kernel
theorem d_Re_addAction_53 : decode b_Re_addAction 53 = .ok (.iconst 1, 1) := by decide +kernel
theorem d_Re_addAction_54 : decode b_Re_addAction 54 = .ok (.iadd, 1) := by decide +kernel
theorem d_Re_addAction_55 : decode b_Re_addAction 55 = .ok (.putfield 31, 3) := by decide +kernel
theorem d_Re_addAction_58 : decode b_Re_addAction 58 = .ok (.return_, 1) := by decide +kernel
theorem d_V_emit_0 : decode b_V_emit 0 = .ok (.aload_n 0, 1) := by decide +kernel
theorem d_V_emit_1 : decode b_V_emit 1 = .ok (.iload_n 1, 1) := by decide +kernel
theorem d_V_emit_2 : decode b_V_emit 2 = .ok (.invokevirtual 58, 3) := by decide +kernel
theorem d_V_emit_5 : decode b_V_emit 5 = .ok (.ifCond .eq 12, 3) := by decide +kernel
theorem d_V_emit_8 : decode b_V_emit 8 = .ok (.aload_n 0, 1) := by decide +kernel
theorem d_V_emit_9 : decode b_V_emit 9 = .ok (.iload_n 2, 1) := by decide +kernel
theorem d_V_emit_10 : decode b_V_emit 10 = .ok (.iconst 0, 1) := by decide +kernel
theorem d_V_emit_11 : decode b_V_emit 11 = .ok (.invokevirtual 82, 3) := by decide +kernel
theorem d_V_emit_14 : decode b_V_emit 14 = .ok (.ifCond .ne 5, 3) := by decide +kernel
theorem d_V_emit_17 : decode b_V_emit 17 = .ok (.iconst 0, 1) := by decide +kernel
theorem d_V_emit_18 : decode b_V_emit 18 = .ok (.ireturn, 1) := by decide +kernel
theorem d_V_emit_19 : decode b_V_emit 19 = .ok (.aload_n 0, 1) := by decide +kernel
theorem d_V_emit_20 : decode b_V_emit 20 = .ok (.getfield 21, 3) := by decide +kernel
theorem d_V_emit_23 : decode b_V_emit 23 = .ok (.iload_n 1, 1) := by decide +kernel
theorem d_V_emit_24 : decode b_V_emit 24 = .ok (.aaload, 1) := by decide +kernel
theorem d_V_emit_25 : decode b_V_emit 25 = .ok (.iload_n 3, 1) := by decide +kernel
theorem d_V_emit_26 : decode b_V_emit 26 = .ok (.iload 4, 2) := by decide +kernel
theorem d_V_emit_28 : decode b_V_emit 28 = .ok (.invokevirtual 86, 3) := by decide +kernel
theorem d_V_emit_31 : decode b_V_emit 31 = .ok (.ifCond .ne 5, 3) := by decide +kernel
theorem d_V_emit_34 : decode b_V_emit 34 = .ok (.iconst 0, 1) := by decide +kernel
theorem d_V_emit_35 : decode b_V_emit 35 = .ok (.ireturn, 1) := by decide +kernel
theorem d_V_emit_36 : decode b_V_emit 36 = .ok (.aload_n 0, 1) := by decide +kernel
theorem d_V_emit_37 : decode b_V_emit 37 = .ok (.getfield 21, 3) := by decide +kernel
theorem d_V_emit_40 : decode b_V_emit 40 = .ok (.iload_n 1, 1) := by decide +kernel
theorem d_V_emit_41 : decode b_V_emit 41 = .ok (.aaload, 1) := by decide +kernel
theorem d_V_emit_42 : decode b_V_emit 42 = .ok (.iconst 1, 1) := by decide +kernel
theorem d_V_emit_43 : decode b_V_emit 43 = .ok (.iload_n 2, 1) := by decide +kernel
theorem d_V_emit_44 : decode b_V_emit 44 = .ok (.iload_n 3, 1) := by decide +kernel
theorem d_V_emit_45 : decode b_V_emit 45 = .ok (.iload 4, 2) := by decide +kernel
theorem d_V_emit_47 : decode b_V_emit 47 = .ok (.iload 5, 2) := by decide +kernel
theorem d_V_emit_49 : decode b_V_emit 49 = .ok (.invokevirtual 89, 3) := by decide +kernel
theorem d_V_emit_52 : decode b_V_emit 52 = .ok (.iconst 1, 1) := by decide +kernel
theorem d_V_emit_53 : decode b_V_emit 53 = .ok (.ireturn, 1) := by decide +kernel
theorem d_Re_hasReplyTo_0 : decode b_Re_hasReplyTo 0 = .ok (.iconst 0, 1) := by decide +kernel
theorem d_Re_hasReplyTo_1 : decode b_Re_hasReplyTo 1 = .ok (.istore_n 2, 1) := by decide +kernel
theorem d_Re_hasReplyTo_2 : decode b_Re_hasReplyTo 2 = .ok (.iload_n 2, 1) := by decide +kernel
theorem d_Re_hasReplyTo_3 : decode b_Re_hasReplyTo 3 = .ok (.aload_n 0, 1) := by decide +kernel
theorem d_Re_hasReplyTo_4 : decode b_Re_hasReplyTo 4 = .ok (.getfield 31, 3) := by decide +kernel
theorem d_Re_hasReplyTo_7 : decode b_Re_hasReplyTo 7 = .ok (.if_icmp .ge 30, 3) := by decide +kernel
theorem d_Re_hasReplyTo_10 : decode b_Re_hasReplyTo 10 = .ok (.aload_n 0, 1) := by decide +kernel
theorem d_Re_hasReplyTo_11 : decode b_Re_hasReplyTo 11 = .ok (.getfield 34, 3) := by decide +kernel
theorem d_Re_hasReplyTo_14 : decode b_Re_hasReplyTo 14 = .ok (.iload_n 2, 1) := by decide +kernel
theorem d_Re_hasReplyTo_15 : decode b_Re_hasReplyTo 15 = .ok (.baload, 1) := by decide +kernel
theorem d_Re_hasReplyTo_16 : decode b_Re_hasReplyTo 16 = .ok (.ifCond .ne 15, 3) := by decide +kernel
theorem d_Re_hasReplyTo_19 : decode b_Re_hasReplyTo 19 = .ok (.aload_n 0, 1) := by decide +kernel
theorem d_Re_hasReplyTo_20 : decode b_Re_hasReplyTo 20 = .ok (.getfield 38, 3) := by decide +kernel
theorem d_Re_hasReplyTo_23 : decode b_Re_hasReplyTo 23 = .ok (.iload_n 2, 1) := by decide +kernel
theorem d_Re_hasReplyTo_24 : decode b_Re_hasReplyTo 24 = .ok (.iaload, 1) := by decide +kernel
theorem d_Re_hasReplyTo_25 : decode b_Re_hasReplyTo 25 = .ok (.iload_n 1, 1) := by decide +kernel
theorem d_Re_hasReplyTo_26 : decode b_Re_hasReplyTo 26 = .ok (.if_icmp .ne 5, 3) := by decide +kernel
theorem d_Re_hasReplyTo_29 : decode b_Re_hasReplyTo 29 = .ok (.iconst 1, 1) := by decide +kernel
theorem d_Re_hasReplyTo_30 : decode b_Re_hasReplyTo 30 = .ok (.ireturn, 1) := by decide +kernel
theorem d_Re_hasReplyTo_31 : decode b_Re_hasReplyTo 31 = .ok (.iinc 2 1, 3) := by decide +kernel
theorem d_Re_hasReplyTo_34 : decode b_Re_hasReplyTo 34 = .ok (.goto (-32), 3) := by decide +kernel
theorem d_Re_hasReplyTo_37 : decode b_Re_hasReplyTo 37 = .ok (.iconst 0, 1) := by decide +kernel
theorem d_Re_hasReplyTo_38 : decode b_Re_hasReplyTo 38 = .ok (.ireturn, 1) := by decide +kernel
theorem d_V_reply_0 : decode b_V_reply 0 = .ok (.aload_n 0, 1) := by decide +kernel
theorem d_V_reply_1 : decode b_V_reply 1 = .ok (.iload_n 1, 1) := by decide +kernel
theorem d_V_reply_2 : decode b_V_reply 2 = .ok (.invokevirtual 58, 3) := by decide +kernel
theorem d_V_reply_5 : decode b_V_reply 5 = .ok (.ifCond .eq 16, 3) := by decide +kernel
theorem d_V_reply_8 : decode b_V_reply 8 = .ok (.aload_n 0, 1) := by decide +kernel
theorem d_V_reply_9 : decode b_V_reply 9 = .ok (.getfield 21, 3) := by decide +kernel
theorem d_V_reply_12 : decode b_V_reply 12 = .ok (.iload_n 1, 1) := by decide +kernel
theorem d_V_reply_13 : decode b_V_reply 13 = .ok (.aaload, 1) := by decide +kernel
theorem d_V_reply_14 : decode b_V_reply 14 = .ok (.iload_n 2, 1) := by decide +kernel
theorem d_V_reply_15 : decode b_V_reply 15 = .ok (.invokevirtual 93, 3) := by decide +kernel
theorem d_V_reply_18 : decode b_V_reply 18 = .ok (.ifCond .ne 5, 3) := by decide +kernel
theorem d_V_reply_21 : decode b_V_reply 21 = .ok (.iconst 0, 1) := by decide +kernel
theorem d_V_reply_22 : decode b_V_reply 22 = .ok (.ireturn, 1) := by decide +kernel
theorem d_V_reply_23 : decode b_V_reply 23 = .ok (.aload_n 0, 1) := by decide +kernel
theorem d_V_reply_24 : decode b_V_reply 24 = .ok (.getfield 21, 3) := by decide +kernel
theorem d_V_reply_27 : decode b_V_reply 27 = .ok (.iload_n 1, 1) := by decide +kernel
theorem d_V_reply_28 : decode b_V_reply 28 = .ok (.aaload, 1) := by decide +kernel
theorem d_V_reply_29 : decode b_V_reply 29 = .ok (.astore 6, 2) := by decide +kernel
theorem d_V_reply_31 : decode b_V_reply 31 = .ok (.aload_n 0, 1) := by decide +kernel
theorem d_V_reply_32 : decode b_V_reply 32 = .ok (.getfield 11, 3) := by decide +kernel
theorem d_V_reply_35 : decode b_V_reply 35 = .ok (.aload 6, 2) := by decide +kernel
theorem d_V_reply_37 : decode b_V_reply 37 = .ok (.getfield 96, 3) := by decide +kernel
theorem d_V_reply_40 : decode b_V_reply 40 = .ok (.iload_n 2, 1) := by decide +kernel
theorem d_V_reply_41 : decode b_V_reply 41 = .ok (.iaload, 1) := by decide +kernel
theorem d_V_reply_42 : decode b_V_reply 42 = .ok (.aaload, 1) := by decide +kernel
theorem d_V_reply_43 : decode b_V_reply 43 = .ok (.getfield 55, 3) := by decide +kernel
theorem d_V_reply_46 : decode b_V_reply 46 = .ok (.ifCond .eq 12, 3) := by decide +kernel
theorem d_V_reply_49 : decode b_V_reply 49 = .ok (.aload 6, 2) := by decide +kernel
theorem d_V_reply_51 : decode b_V_reply 51 = .ok (.iload_n 2, 1) := by decide +kernel
theorem d_V_reply_52 : decode b_V_reply 52 = .ok (.invokevirtual 99, 3) := by decide +kernel
theorem d_V_reply_55 : decode b_V_reply 55 = .ok (.ifCond .eq 5, 3) := by decide +kernel
theorem d_V_reply_58 : decode b_V_reply 58 = .ok (.iconst 0, 1) := by decide +kernel
theorem d_V_reply_59 : decode b_V_reply 59 = .ok (.ireturn, 1) := by decide +kernel
theorem d_V_reply_60 : decode b_V_reply 60 = .ok (.aload 6, 2) := by decide +kernel
theorem d_V_reply_62 : decode b_V_reply 62 = .ok (.iload_n 3, 1) := by decide +kernel
theorem d_V_reply_63 : decode b_V_reply 63 = .ok (.iload 4, 2) := by decide +kernel
theorem d_V_reply_65 : decode b_V_reply 65 = .ok (.invokevirtual 86, 3) := by decide +kernel
theorem d_V_reply_68 : decode b_V_reply 68 = .ok (.ifCond .ne 5, 3) := by decide +kernel
theorem d_V_reply_71 : decode b_V_reply 71 = .ok (.iconst 0, 1) := by decide +kernel
theorem d_V_reply_72 : decode b_V_reply 72 = .ok (.ireturn, 1) := by decide +kernel
theorem d_V_reply_73 : decode b_V_reply 73 = .ok (.aload 6, 2) := by decide +kernel
theorem d_V_reply_75 : decode b_V_reply 75 = .ok (.iconst 0, 1) := by decide +kernel
theorem d_V_reply_76 : decode b_V_reply 76 = .ok (.iload_n 2, 1) := by decide +kernel
theorem d_V_reply_77 : decode b_V_reply 77 = .ok (.iload_n 3, 1) := by decide +kernel
theorem d_V_reply_78 : decode b_V_reply 78 = .ok (.iload 4, 2) := by decide +kernel
theorem d_V_reply_80 : decode b_V_reply 80 = .ok (.iload 5, 2) := by decide +kernel
theorem d_V_reply_82 : decode b_V_reply 82 = .ok (.invokevirtual 89, 3) := by decide +kernel
theorem d_V_reply_85 : decode b_V_reply 85 = .ok (.iconst 1, 1) := by decide +kernel
theorem d_V_reply_86 : decode b_V_reply 86 = .ok (.ireturn, 1) := by decide +kernel
theorem d_V_leavesCallUnanswered_0 : decode b_V_leavesCallUnanswered 0 = .ok (.iconst 0, 1) := by decide +kernel
theorem d_V_leavesCallUnanswered_1 : decode b_V_leavesCallUnanswered 1 = .ok (.istore_n 2, 1) := by decide +kernel
theorem d_V_leavesCallUnanswered_2 : decode b_V_leavesCallUnanswered 2 = .ok (.iload_n 2, 1) := by decide +kernel
theorem d_V_leavesCallUnanswered_3 : decode b_V_leavesCallUnanswered 3 = .ok (.aload_n 1, 1) := by decide +kernel
theorem d_V_leavesCallUnanswered_4 : decode b_V_leavesCallUnanswered 4 = .ok (.getfield 69, 3) := by decide +kernel
theorem d_V_leavesCallUnanswered_7 : decode b_V_leavesCallUnanswered 7 = .ok (.if_icmp .ge 36, 3) := by decide +kernel
theorem d_V_leavesCallUnanswered_10 : decode b_V_leavesCallUnanswered 10 = .ok (.aload_n 0, 1) := by decide +kernel
theorem d_V_leavesCallUnanswered_11 : decode b_V_leavesCallUnanswered 11 = .ok (.getfield 11, 3) := by decide +kernel
theorem d_V_leavesCallUnanswered_14 : decode b_V_leavesCallUnanswered 14 = .ok (.aload_n 1, 1) := by decide +kernel
theorem d_V_leavesCallUnanswered_15 : decode b_V_leavesCallUnanswered 15 = .ok (.getfield 96, 3) := by decide +kernel
theorem d_V_leavesCallUnanswered_18 : decode b_V_leavesCallUnanswered 18 = .ok (.iload_n 2, 1) := by decide +kernel
theorem d_V_leavesCallUnanswered_19 : decode b_V_leavesCallUnanswered 19 = .ok (.iaload, 1) := by decide +kernel
theorem d_V_leavesCallUnanswered_20 : decode b_V_leavesCallUnanswered 20 = .ok (.aaload, 1) := by decide +kernel
theorem d_V_leavesCallUnanswered_21 : decode b_V_leavesCallUnanswered 21 = .ok (.getfield 55, 3) := by decide +kernel
theorem d_V_leavesCallUnanswered_24 : decode b_V_leavesCallUnanswered 24 = .ok (.ifCond .eq 13, 3) := by decide +kernel
theorem d_V_leavesCallUnanswered_27 : decode b_V_leavesCallUnanswered 27 = .ok (.aload_n 1, 1) := by decide +kernel
theorem d_V_leavesCallUnanswered_28 : decode b_V_leavesCallUnanswered 28 = .ok (.iload_n 2, 1) := by decide +kernel
theorem d_V_leavesCallUnanswered_29 : decode b_V_leavesCallUnanswered 29 = .ok (.invokevirtual 99, 3) := by decide +kernel
theorem d_V_leavesCallUnanswered_32 : decode b_V_leavesCallUnanswered 32 = .ok (.ifCond .ne 5, 3) := by decide +kernel
theorem d_V_leavesCallUnanswered_35 : decode b_V_leavesCallUnanswered 35 = .ok (.iconst 1, 1) := by decide +kernel
theorem d_V_leavesCallUnanswered_36 : decode b_V_leavesCallUnanswered 36 = .ok (.ireturn, 1) := by decide +kernel
theorem d_V_leavesCallUnanswered_37 : decode b_V_leavesCallUnanswered 37 = .ok (.iinc 2 1, 3) := by decide +kernel
theorem d_V_leavesCallUnanswered_40 : decode b_V_leavesCallUnanswered 40 = .ok (.goto (-38), 3) := by decide +kernel
theorem d_V_leavesCallUnanswered_43 : decode b_V_leavesCallUnanswered 43 = .ok (.iconst 0, 1) := by decide +kernel
theorem d_V_leavesCallUnanswered_44 : decode b_V_leavesCallUnanswered 44 = .ok (.ireturn, 1) := by decide +kernel
theorem d_V_obstacleToSealing_0 : decode b_V_obstacleToSealing 0 = .ok (.aload_n 0, 1) := by decide +kernel
theorem d_V_obstacleToSealing_1 : decode b_V_obstacleToSealing 1 = .ok (.getfield 28, 3) := by decide +kernel
theorem d_V_obstacleToSealing_4 : decode b_V_obstacleToSealing 4 = .ok (.ifCond .eq 5, 3) := by decide +kernel
theorem d_V_obstacleToSealing_7 : decode b_V_obstacleToSealing 7 = .ok (.iconst 1, 1) := by decide +kernel
theorem d_V_obstacleToSealing_8 : decode b_V_obstacleToSealing 8 = .ok (.ireturn, 1) := by decide +kernel
theorem d_V_obstacleToSealing_9 : decode b_V_obstacleToSealing 9 = .ok (.aload_n 0, 1) := by decide +kernel
theorem d_V_obstacleToSealing_10 : decode b_V_obstacleToSealing 10 = .ok (.getfield 25, 3) := by decide +kernel
theorem d_V_obstacleToSealing_13 : decode b_V_obstacleToSealing 13 = .ok (.ifCond .ne 5, 3) := by decide +kernel
theorem d_V_obstacleToSealing_16 : decode b_V_obstacleToSealing 16 = .ok (.iconst 2, 1) := by decide +kernel
theorem d_V_obstacleToSealing_17 : decode b_V_obstacleToSealing 17 = .ok (.ireturn, 1) := by decide +kernel
theorem d_V_obstacleToSealing_18 : decode b_V_obstacleToSealing 18 = .ok (.iconst 0, 1) := by decide +kernel
theorem d_V_obstacleToSealing_19 : decode b_V_obstacleToSealing 19 = .ok (.istore_n 1, 1) := by decide +kernel
theorem d_V_obstacleToSealing_20 : decode b_V_obstacleToSealing 20 = .ok (.iload_n 1, 1) := by decide +kernel
theorem d_V_obstacleToSealing_21 : decode b_V_obstacleToSealing 21 = .ok (.aload_n 0, 1) := by decide +kernel
theorem d_V_obstacleToSealing_22 : decode b_V_obstacleToSealing 22 = .ok (.getfield 25, 3) := by decide +kernel
theorem d_V_obstacleToSealing_25 : decode b_V_obstacleToSealing 25 = .ok (.if_icmp .ge 23, 3) := by decide +kernel
theorem d_V_obstacleToSealing_28 : decode b_V_obstacleToSealing 28 = .ok (.aload_n 0, 1) := by decide +kernel
theorem d_V_obstacleToSealing_29 : decode b_V_obstacleToSealing 29 = .ok (.getfield 21, 3) := by decide +kernel
theorem d_V_obstacleToSealing_32 : decode b_V_obstacleToSealing 32 = .ok (.iload_n 1, 1) := by decide +kernel
theorem d_V_obstacleToSealing_33 : decode b_V_obstacleToSealing 33 = .ok (.aaload, 1) := by decide +kernel
theorem d_V_obstacleToSealing_34 : decode b_V_obstacleToSealing 34 = .ok (.getfield 69, 3) := by decide +kernel
theorem d_V_obstacleToSealing_37 : decode b_V_obstacleToSealing 37 = .ok (.ifCond .ne 5, 3) := by decide +kernel
theorem d_V_obstacleToSealing_40 : decode b_V_obstacleToSealing 40 = .ok (.iconst 3, 1) := by decide +kernel
theorem d_V_obstacleToSealing_41 : decode b_V_obstacleToSealing 41 = .ok (.ireturn, 1) := by decide +kernel
theorem d_V_obstacleToSealing_42 : decode b_V_obstacleToSealing 42 = .ok (.iinc 1 1, 3) := by decide +kernel
theorem d_V_obstacleToSealing_45 : decode b_V_obstacleToSealing 45 = .ok (.goto (-25), 3) := by decide +kernel
theorem d_V_obstacleToSealing_48 : decode b_V_obstacleToSealing 48 = .ok (.iconst 0, 1) := by decide +kernel
theorem d_V_obstacleToSealing_49 : decode b_V_obstacleToSealing 49 = .ok (.istore_n 1, 1) := by decide +kernel
theorem d_V_obstacleToSealing_50 : decode b_V_obstacleToSealing 50 = .ok (.iload_n 1, 1) := by decide +kernel
theorem d_V_obstacleToSealing_51 : decode b_V_obstacleToSealing 51 = .ok (.aload_n 0, 1) := by decide +kernel
theorem d_V_obstacleToSealing_52 : decode b_V_obstacleToSealing 52 = .ok (.getfield 25, 3) := by decide +kernel
theorem d_V_obstacleToSealing_55 : decode b_V_obstacleToSealing 55 = .ok (.if_icmp .ge 24, 3) := by decide +kernel
theorem d_V_obstacleToSealing_58 : decode b_V_obstacleToSealing 58 = .ok (.aload_n 0, 1) := by decide +kernel
theorem d_V_obstacleToSealing_59 : decode b_V_obstacleToSealing 59 = .ok (.aload_n 0, 1) := by decide +kernel
theorem d_V_obstacleToSealing_60 : decode b_V_obstacleToSealing 60 = .ok (.getfield 21, 3) := by decide +kernel
theorem d_V_obstacleToSealing_63 : decode b_V_obstacleToSealing 63 = .ok (.iload_n 1, 1) := by decide +kernel
theorem d_V_obstacleToSealing_64 : decode b_V_obstacleToSealing 64 = .ok (.aaload, 1) := by decide +kernel
theorem d_V_obstacleToSealing_65 : decode b_V_obstacleToSealing 65 = .ok (.invokevirtual 150, 3) := by decide +kernel
theorem d_V_obstacleToSealing_68 : decode b_V_obstacleToSealing 68 = .ok (.ifCond .eq 5, 3) := by decide +kernel
theorem d_V_obstacleToSealing_71 : decode b_V_obstacleToSealing 71 = .ok (.iconst 4, 1) := by decide +kernel
theorem d_V_obstacleToSealing_72 : decode b_V_obstacleToSealing 72 = .ok (.ireturn, 1) := by decide +kernel
theorem d_V_obstacleToSealing_73 : decode b_V_obstacleToSealing 73 = .ok (.iinc 1 1, 3) := by decide +kernel
theorem d_V_obstacleToSealing_76 : decode b_V_obstacleToSealing 76 = .ok (.goto (-26), 3) := by decide +kernel
theorem d_V_obstacleToSealing_79 : decode b_V_obstacleToSealing 79 = .ok (.iconst 0, 1) := by decide +kernel
theorem d_V_obstacleToSealing_80 : decode b_V_obstacleToSealing 80 = .ok (.ireturn, 1) := by decide +kernel
theorem d_V_seal_0 : decode b_V_seal 0 = .ok (.aload_n 0, 1) := by decide +kernel
theorem d_V_seal_1 : decode b_V_seal 1 = .ok (.invokevirtual 102, 3) := by decide +kernel
theorem d_V_seal_4 : decode b_V_seal 4 = .ok (.istore_n 1, 1) := by decide +kernel
theorem d_V_seal_5 : decode b_V_seal 5 = .ok (.iload_n 1, 1) := by decide +kernel
theorem d_V_seal_6 : decode b_V_seal 6 = .ok (.ifCond .ne 8, 3) := by decide +kernel
theorem d_V_seal_9 : decode b_V_seal 9 = .ok (.aload_n 0, 1) := by decide +kernel
theorem d_V_seal_10 : decode b_V_seal 10 = .ok (.iconst 1, 1) := by decide +kernel
theorem d_V_seal_11 : decode b_V_seal 11 = .ok (.putfield 28, 3) := by decide +kernel
theorem d_V_seal_14 : decode b_V_seal 14 = .ok (.iload_n 1, 1) := by decide +kernel
theorem d_V_seal_15 : decode b_V_seal 15 = .ok (.ireturn, 1) := by decide +kernel
theorem d_Ms_add_0 : decode b_Ms_add 0 = .ok (.aload_n 0, 1) := by decide +kernel
theorem d_Ms_add_1 : decode b_Ms_add 1 = .ok (.getfield 9, 3) := by decide +kernel
theorem d_Ms_add_4 : decode b_Ms_add 4 = .ok (.istore_n 3, 1) := by decide +kernel
theorem d_Ms_add_5 : decode b_Ms_add 5 = .ok (.aload_n 0, 1) := by decide +kernel
theorem d_Ms_add_6 : decode b_Ms_add 6 = .ok (.getfield 15, 3) := by decide +kernel
theorem d_Ms_add_9 : decode b_Ms_add 9 = .ok (.iload_n 3, 1) := by decide +kernel
theorem d_Ms_add_10 : decode b_Ms_add 10 = .ok (.iload_n 1, 1) := by decide +kernel
theorem d_Ms_add_11 : decode b_Ms_add 11 = .ok (.iastore, 1) := by decide +kernel
theorem d_Ms_add_12 : decode b_Ms_add 12 = .ok (.aload_n 0, 1) := by decide +kernel
theorem d_Ms_add_13 : decode b_Ms_add 13 = .ok (.getfield 19, 3) := by decide +kernel
theorem d_Ms_add_16 : decode b_Ms_add 16 = .ok (.iload_n 3, 1) := by decide +kernel
theorem d_Ms_add_17 : decode b_Ms_add 17 = .ok (.iload_n 2, 1) := by decide +kernel
theorem d_Ms_add_18 : decode b_Ms_add 18 = .ok (.iastore, 1) := by decide +kernel
theorem d_Ms_add_19 : decode b_Ms_add 19 = .ok (.aload_n 0, 1) := by decide +kernel
theorem d_Ms_add_20 : decode b_Ms_add 20 = .ok (.getfield 22, 3) := by decide +kernel
theorem d_Ms_add_23 : decode b_Ms_add 23 = .ok (.iload_n 3, 1) := by decide +kernel
theorem d_Ms_add_24 : decode b_Ms_add 24 = .ok (.iconst 1, 1) := by decide +kernel
theorem d_Ms_add_25 : decode b_Ms_add 25 = .ok (.iastore, 1) := by decide +kernel
theorem d_Ms_add_26 : decode b_Ms_add 26 = .ok (.aload_n 0, 1) := by decide +kernel
theorem d_Ms_add_27 : decode b_Ms_add 27 = .ok (.getfield 25, 3) := by decide +kernel
theorem d_Ms_add_30 : decode b_Ms_add 30 = .ok (.iload_n 3, 1) := by decide +kernel
theorem d_Ms_add_31 : decode b_Ms_add 31 = .ok (.iconst (-1), 1) := by decide +kernel
theorem d_Ms_add_32 : decode b_Ms_add 32 = .ok (.iastore, 1) := by decide +kernel
theorem d_Ms_add_33 : decode b_Ms_add 33 = .ok (.aload_n 0, 1) := by decide +kernel
theorem d_Ms_add_34 : decode b_Ms_add 34 = .ok (.dup, 1) := by decide +kernel
theorem d_Ms_add_35 : decode b_Ms_add 35 = .ok (.getfield 9, 3) := by decide +kernel
theorem d_Ms_add_38 : decode b_Ms_add 38 = .ok (.iconst 1, 1) := by decide +kernel
theorem d_Ms_add_39 : decode b_Ms_add 39 = .ok (.iadd, 1) := by decide +kernel
theorem d_Ms_add_40 : decode b_Ms_add 40 = .ok (.putfield 9, 3) := by decide +kernel
theorem d_Ms_add_43 : decode b_Ms_add 43 = .ok (.iload_n 3, 1) := by decide +kernel
theorem d_Ms_add_44 : decode b_Ms_add 44 = .ok (.ireturn, 1) := by decide +kernel
theorem d_Ch_addPending_0 : decode b_Ch_addPending 0 = .ok (.aload_n 0, 1) := by decide +kernel
theorem d_Ch_addPending_1 : decode b_Ch_addPending 1 = .ok (.getfield 15, 3) := by decide +kernel
theorem d_Ch_addPending_4 : decode b_Ch_addPending 4 = .ok (.aload_n 0, 1) := by decide +kernel
theorem d_Ch_addPending_5 : decode b_Ch_addPending 5 = .ok (.getfield 19, 3) := by decide +kernel
theorem d_Ch_addPending_8 : decode b_Ch_addPending 8 = .ok (.iload_n 1, 1) := by decide +kernel
theorem d_Ch_addPending_9 : decode b_Ch_addPending 9 = .ok (.iastore, 1) := by decide +kernel
theorem d_Ch_addPending_10 : decode b_Ch_addPending 10 = .ok (.aload_n 0, 1) := by decide +kernel
theorem d_Ch_addPending_11 : decode b_Ch_addPending 11 = .ok (.dup, 1) := by decide +kernel
theorem d_Ch_addPending_12 : decode b_Ch_addPending 12 = .ok (.getfield 19, 3) := by decide +kernel
theorem d_Ch_addPending_15 : decode b_Ch_addPending 15 = .ok (.iconst 1, 1) := by decide +kernel
theorem d_Ch_addPending_16 : decode b_Ch_addPending 16 = .ok (.iadd, 1) := by decide +kernel
theorem d_Ch_addPending_17 : decode b_Ch_addPending 17 = .ok (.putfield 19, 3) := by decide +kernel
theorem d_Ch_addPending_20 : decode b_Ch_addPending 20 = .ok (.return_, 1) := by decide +kernel
theorem d_V_makeMessage_0 : decode b_V_makeMessage 0 = .ok (.aload_n 0, 1) := by decide +kernel
theorem d_V_makeMessage_1 : decode b_V_makeMessage 1 = .ok (.getfield 35, 3) := by decide +kernel
theorem d_V_makeMessage_4 : decode b_V_makeMessage 4 = .ok (.iload_n 1, 1) := by decide +kernel
theorem d_V_makeMessage_5 : decode b_V_makeMessage 5 = .ok (.iload_n 2, 1) := by decide +kernel
theorem d_V_makeMessage_6 : decode b_V_makeMessage 6 = .ok (.invokevirtual 161, 3) := by decide +kernel
theorem d_V_makeMessage_9 : decode b_V_makeMessage 9 = .ok (.istore_n 3, 1) := by decide +kernel
theorem d_V_makeMessage_10 : decode b_V_makeMessage 10 = .ok (.aload_n 0, 1) := by decide +kernel
theorem d_V_makeMessage_11 : decode b_V_makeMessage 11 = .ok (.getfield 11, 3) := by decide +kernel
theorem d_V_makeMessage_14 : decode b_V_makeMessage 14 = .ok (.iload_n 1, 1) := by decide +kernel
theorem d_V_makeMessage_15 : decode b_V_makeMessage 15 = .ok (.aaload, 1) := by decide +kernel
theorem d_V_makeMessage_16 : decode b_V_makeMessage 16 = .ok (.iload_n 3, 1) := by decide +kernel
theorem d_V_makeMessage_17 : decode b_V_makeMessage 17 = .ok (.invokevirtual 164, 3) := by decide +kernel
theorem d_V_makeMessage_20 : decode b_V_makeMessage 20 = .ok (.iload_n 3, 1) := by decide +kernel
theorem d_V_makeMessage_21 : decode b_V_makeMessage 21 = .ok (.ireturn, 1) := by decide +kernel
theorem d_V_admit_0 : decode b_V_admit 0 = .ok (.aload_n 0, 1) := by decide +kernel
theorem d_V_admit_1 : decode b_V_admit 1 = .ok (.getfield 28, 3) := by decide +kernel
theorem d_V_admit_4 : decode b_V_admit 4 = .ok (.ifCond .eq 12, 3) := by decide +kernel
theorem d_V_admit_7 : decode b_V_admit 7 = .ok (.aload_n 0, 1) := by decide +kernel
theorem d_V_admit_8 : decode b_V_admit 8 = .ok (.iload_n 1, 1) := by decide +kernel
theorem d_V_admit_9 : decode b_V_admit 9 = .ok (.iload_n 3, 1) := by decide +kernel
theorem d_V_admit_10 : decode b_V_admit 10 = .ok (.invokevirtual 82, 3) := by decide +kernel
theorem d_V_admit_13 : decode b_V_admit 13 = .ok (.ifCond .ne 5, 3) := by decide +kernel
theorem d_V_admit_16 : decode b_V_admit 16 = .ok (.iconst (-1), 1) := by decide +kernel
theorem d_V_admit_17 : decode b_V_admit 17 = .ok (.ireturn, 1) := by decide +kernel
theorem d_V_admit_18 : decode b_V_admit 18 = .ok (.aload_n 0, 1) := by decide +kernel
theorem d_V_admit_19 : decode b_V_admit 19 = .ok (.getfield 11, 3) := by decide +kernel
theorem d_V_admit_22 : decode b_V_admit 22 = .ok (.iload_n 1, 1) := by decide +kernel
theorem d_V_admit_23 : decode b_V_admit 23 = .ok (.aaload, 1) := by decide +kernel
theorem d_V_admit_24 : decode b_V_admit 24 = .ok (.getfield 135, 3) := by decide +kernel
theorem d_V_admit_27 : decode b_V_admit 27 = .ok (.bipush 6, 2) := by decide +kernel
theorem d_V_admit_29 : decode b_V_admit 29 = .ok (.if_icmp .ge 16, 3) := by decide +kernel
theorem d_V_admit_32 : decode b_V_admit 32 = .ok (.aload_n 0, 1) := by decide +kernel
theorem d_V_admit_33 : decode b_V_admit 33 = .ok (.getfield 35, 3) := by decide +kernel
theorem d_V_admit_36 : decode b_V_admit 36 = .ok (.getfield 154, 3) := by decide +kernel
theorem d_V_admit_39 : decode b_V_admit 39 = .ok (.sipush 300, 3) := by decide +kernel
theorem d_V_admit_42 : decode b_V_admit 42 = .ok (.if_icmp .lt 5, 3) := by decide +kernel
theorem d_V_admit_45 : decode b_V_admit 45 = .ok (.iconst (-1), 1) := by decide +kernel
theorem d_V_admit_46 : decode b_V_admit 46 = .ok (.ireturn, 1) := by decide +kernel
theorem d_V_admit_47 : decode b_V_admit 47 = .ok (.aload_n 0, 1) := by decide +kernel
theorem d_V_admit_48 : decode b_V_admit 48 = .ok (.iload_n 1, 1) := by decide +kernel
theorem d_V_admit_49 : decode b_V_admit 49 = .ok (.iload_n 2, 1) := by decide +kernel
theorem d_V_admit_50 : decode b_V_admit 50 = .ok (.invokevirtual 157, 3) := by decide +kernel
theorem d_V_admit_53 : decode b_V_admit 53 = .ok (.ireturn, 1) := by decide +kernel
theorem d_V_put_0 : decode b_V_put 0 = .ok (.aload_n 0, 1) := by decide +kernel
theorem d_V_put_1 : decode b_V_put 1 = .ok (.iload_n 1, 1) := by decide +kernel
theorem d_V_put_2 : decode b_V_put 2 = .ok (.iload_n 2, 1) := by decide +kernel
theorem d_V_put_3 : decode b_V_put 3 = .ok (.iconst 0, 1) := by decide +kernel
theorem d_V_put_4 : decode b_V_put 4 = .ok (.invokevirtual 106, 3) := by decide +kernel
theorem d_V_put_7 : decode b_V_put 7 = .ok (.ireturn, 1) := by decide +kernel
theorem d_V_call_0 : decode b_V_call 0 = .ok (.aload_n 0, 1) := by decide +kernel
theorem d_V_call_1 : decode b_V_call 1 = .ok (.iload_n 1, 1) := by decide +kernel
theorem d_V_call_2 : decode b_V_call 2 = .ok (.iload_n 2, 1) := by decide +kernel
theorem d_V_call_3 : decode b_V_call 3 = .ok (.iconst 1, 1) := by decide +kernel
theorem d_V_call_4 : decode b_V_call 4 = .ok (.invokevirtual 106, 3) := by decide +kernel
theorem d_V_call_7 : decode b_V_call 7 = .ok (.ireturn, 1) := by decide +kernel
theorem d_Ms_has_0 : decode b_Ms_has 0 = .ok (.iload_n 1, 1) := by decide +kernel
theorem d_Ms_has_1 : decode b_Ms_has 1 = .ok (.ifCond .lt 15, 3) := by decide +kernel
theorem d_Ms_has_4 : decode b_Ms_has 4 = .ok (.iload_n 1, 1) := by decide +kernel
theorem d_Ms_has_5 : decode b_Ms_has 5 = .ok (.aload_n 0, 1) := by decide +kernel
theorem d_Ms_has_6 : decode b_Ms_has 6 = .ok (.getfield 9, 3) := by decide +kernel
theorem d_Ms_has_9 : decode b_Ms_has 9 = .ok (.if_icmp .ge 7, 3) := by decide +kernel
theorem d_Ms_has_12 : decode b_Ms_has 12 = .ok (.iconst 1, 1) := by decide +kernel
theorem d_Ms_has_13 : decode b_Ms_has 13 = .ok (.goto 4, 3) := by decide +kernel
theorem d_Ms_has_16 : decode b_Ms_has 16 = .ok (.iconst 0, 1) := by decide +kernel
theorem d_Ms_has_17 : decode b_Ms_has 17 = .ok (.ireturn, 1) := by decide +kernel
theorem d_Ch_removePending_0 : decode b_Ch_removePending 0 = .ok (.iconst 0, 1) := by decide +kernel
theorem d_Ch_removePending_1 : decode b_Ch_removePending 1 = .ok (.istore_n 2, 1) := by decide +kernel
theorem d_Ch_removePending_2 : decode b_Ch_removePending 2 = .ok (.iconst 0, 1) := by decide +kernel
theorem d_Ch_removePending_3 : decode b_Ch_removePending 3 = .ok (.istore_n 3, 1) := by decide +kernel
theorem d_Ch_removePending_4 : decode b_Ch_removePending 4 = .ok (.iload_n 3, 1) := by decide +kernel
theorem d_Ch_removePending_5 : decode b_Ch_removePending 5 = .ok (.aload_n 0, 1) := by decide +kernel
theorem d_Ch_removePending_6 : decode b_Ch_removePending 6 = .ok (.getfield 19, 3) := by decide +kernel
theorem d_Ch_removePending_9 : decode b_Ch_removePending 9 = .ok (.if_icmp .ge 34, 3) := by decide +kernel
theorem d_Ch_removePending_12 : decode b_Ch_removePending 12 = .ok (.aload_n 0, 1) := by decide +kernel
theorem d_Ch_removePending_13 : decode b_Ch_removePending 13 = .ok (.getfield 15, 3) := by decide +kernel
theorem d_Ch_removePending_16 : decode b_Ch_removePending 16 = .ok (.iload_n 3, 1) := by decide +kernel
theorem d_Ch_removePending_17 : decode b_Ch_removePending 17 = .ok (.iaload, 1) := by decide +kernel
theorem d_Ch_removePending_18 : decode b_Ch_removePending 18 = .ok (.iload_n 1, 1) := by decide +kernel
theorem d_Ch_removePending_19 : decode b_Ch_removePending 19 = .ok (.if_icmp .eq 18, 3) := by decide +kernel
theorem d_Ch_removePending_22 : decode b_Ch_removePending 22 = .ok (.aload_n 0, 1) := by decide +kernel
theorem d_Ch_removePending_23 : decode b_Ch_removePending 23 = .ok (.getfield 15, 3) := by decide +kernel
theorem d_Ch_removePending_26 : decode b_Ch_removePending 26 = .ok (.iload_n 2, 1) := by decide +kernel
theorem d_Ch_removePending_27 : decode b_Ch_removePending 27 = .ok (.aload_n 0, 1) := by decide +kernel
theorem d_Ch_removePending_28 : decode b_Ch_removePending 28 = .ok (.getfield 15, 3) := by decide +kernel
theorem d_Ch_removePending_31 : decode b_Ch_removePending 31 = .ok (.iload_n 3, 1) := by decide +kernel
theorem d_Ch_removePending_32 : decode b_Ch_removePending 32 = .ok (.iaload, 1) := by decide +kernel
theorem d_Ch_removePending_33 : decode b_Ch_removePending 33 = .ok (.iastore, 1) := by decide +kernel
theorem d_Ch_removePending_34 : decode b_Ch_removePending 34 = .ok (.iinc 2 1, 3) := by decide +kernel
theorem d_Ch_removePending_37 : decode b_Ch_removePending 37 = .ok (.iinc 3 1, 3) := by decide +kernel
theorem d_Ch_removePending_40 : decode b_Ch_removePending 40 = .ok (.goto (-36), 3) := by decide +kernel
theorem d_Ch_removePending_43 : decode b_Ch_removePending 43 = .ok (.aload_n 0, 1) := by decide +kernel
theorem d_Ch_removePending_44 : decode b_Ch_removePending 44 = .ok (.iload_n 2, 1) := by decide +kernel
theorem d_Ch_removePending_45 : decode b_Ch_removePending 45 = .ok (.putfield 19, 3) := by decide +kernel
theorem d_Ch_removePending_48 : decode b_Ch_removePending 48 = .ok (.return_, 1) := by decide +kernel
theorem d_V_withdraw_0 : decode b_V_withdraw 0 = .ok (.aload_n 0, 1) := by decide +kernel
theorem d_V_withdraw_1 : decode b_V_withdraw 1 = .ok (.getfield 35, 3) := by decide +kernel
theorem d_V_withdraw_4 : decode b_V_withdraw 4 = .ok (.iload_n 1, 1) := by decide +kernel
theorem d_V_withdraw_5 : decode b_V_withdraw 5 = .ok (.invokevirtual 110, 3) := by decide +kernel
theorem d_V_withdraw_8 : decode b_V_withdraw 8 = .ok (.ifCond .eq 16, 3) := by decide +kernel
theorem d_V_withdraw_11 : decode b_V_withdraw 11 = .ok (.aload_n 0, 1) := by decide +kernel
theorem d_V_withdraw_12 : decode b_V_withdraw 12 = .ok (.getfield 35, 3) := by decide +kernel
theorem d_V_withdraw_15 : decode b_V_withdraw 15 = .ok (.getfield 113, 3) := by decide +kernel
theorem d_V_withdraw_18 : decode b_V_withdraw 18 = .ok (.iload_n 1, 1) := by decide +kernel
theorem d_V_withdraw_19 : decode b_V_withdraw 19 = .ok (.iaload, 1) := by decide +kernel
theorem d_V_withdraw_20 : decode b_V_withdraw 20 = .ok (.iconst 1, 1) := by decide +kernel
theorem d_V_withdraw_21 : decode b_V_withdraw 21 = .ok (.if_icmp .eq 5, 3) := by decide +kernel
theorem d_V_withdraw_24 : decode b_V_withdraw 24 = .ok (.iconst 0, 1) := by decide +kernel
theorem d_V_withdraw_25 : decode b_V_withdraw 25 = .ok (.ireturn, 1) := by decide +kernel
theorem d_V_withdraw_26 : decode b_V_withdraw 26 = .ok (.aload_n 0, 1) := by decide +kernel
theorem d_V_withdraw_27 : decode b_V_withdraw 27 = .ok (.getfield 11, 3) := by decide +kernel
theorem d_V_withdraw_30 : decode b_V_withdraw 30 = .ok (.aload_n 0, 1) := by decide +kernel
theorem d_V_withdraw_31 : decode b_V_withdraw 31 = .ok (.getfield 35, 3) := by decide +kernel
theorem d_V_withdraw_34 : decode b_V_withdraw 34 = .ok (.getfield 116, 3) := by decide +kernel
theorem d_V_withdraw_37 : decode b_V_withdraw 37 = .ok (.iload_n 1, 1) := by decide +kernel
theorem d_V_withdraw_38 : decode b_V_withdraw 38 = .ok (.iaload, 1) := by decide +kernel
theorem d_V_withdraw_39 : decode b_V_withdraw 39 = .ok (.aaload, 1) := by decide +kernel
theorem d_V_withdraw_40 : decode b_V_withdraw 40 = .ok (.astore_n 2, 1) := by decide +kernel
theorem d_V_withdraw_41 : decode b_V_withdraw 41 = .ok (.aload_n 2, 1) := by decide +kernel
theorem d_V_withdraw_42 : decode b_V_withdraw 42 = .ok (.getfield 55, 3) := by decide +kernel
theorem d_V_withdraw_45 : decode b_V_withdraw 45 = .ok (.ifCond .ne 5, 3) := by decide +kernel
theorem d_V_withdraw_48 : decode b_V_withdraw 48 = .ok (.iconst 0, 1) := by decide +kernel
theorem d_V_withdraw_49 : decode b_V_withdraw 49 = .ok (.ireturn, 1) := by decide +kernel
theorem d_V_withdraw_50 : decode b_V_withdraw 50 = .ok (.aload_n 0, 1) := by decide +kernel
theorem d_V_withdraw_51 : decode b_V_withdraw 51 = .ok (.getfield 35, 3) := by decide +kernel
theorem d_V_withdraw_54 : decode b_V_withdraw 54 = .ok (.getfield 113, 3) := by decide +kernel
theorem d_V_withdraw_57 : decode b_V_withdraw 57 = .ok (.iload_n 1, 1) := by decide +kernel
theorem d_V_withdraw_58 : decode b_V_withdraw 58 = .ok (.iconst 3, 1) := by decide +kernel
theorem d_V_withdraw_59 : decode b_V_withdraw 59 = .ok (.iastore, 1) := by decide +kernel
theorem d_V_withdraw_60 : decode b_V_withdraw 60 = .ok (.aload_n 2, 1) := by decide +kernel
theorem d_V_withdraw_61 : decode b_V_withdraw 61 = .ok (.iload_n 1, 1) := by decide +kernel
theorem d_V_withdraw_62 : decode b_V_withdraw 62 = .ok (.invokevirtual 119, 3) := by decide +kernel
theorem d_V_withdraw_65 : decode b_V_withdraw 65 = .ok (.iconst 1, 1) := by decide +kernel
theorem d_V_withdraw_66 : decode b_V_withdraw 66 = .ok (.ireturn, 1) := by decide +kernel
theorem d_Re_sendCount_0 : decode b_Re_sendCount 0 = .ok (.iconst 0, 1) := by decide +kernel
theorem d_Re_sendCount_1 : decode b_Re_sendCount 1 = .ok (.istore_n 1, 1) := by decide +kernel
theorem d_Re_sendCount_2 : decode b_Re_sendCount 2 = .ok (.iconst 0, 1) := by decide +kernel
theorem d_Re_sendCount_3 : decode b_Re_sendCount 3 = .ok (.istore_n 2, 1) := by decide +kernel
theorem d_Re_sendCount_4 : decode b_Re_sendCount 4 = .ok (.iload_n 2, 1) := by decide +kernel
theorem d_Re_sendCount_5 : decode b_Re_sendCount 5 = .ok (.aload_n 0, 1) := by decide +kernel
theorem d_Re_sendCount_6 : decode b_Re_sendCount 6 = .ok (.getfield 31, 3) := by decide +kernel
theorem d_Re_sendCount_9 : decode b_Re_sendCount 9 = .ok (.if_icmp .ge 21, 3) := by decide +kernel
theorem d_Re_sendCount_12 : decode b_Re_sendCount 12 = .ok (.aload_n 0, 1) := by decide +kernel
theorem d_Re_sendCount_13 : decode b_Re_sendCount 13 = .ok (.getfield 34, 3) := by decide +kernel
theorem d_Re_sendCount_16 : decode b_Re_sendCount 16 = .ok (.iload_n 2, 1) := by decide +kernel
theorem d_Re_sendCount_17 : decode b_Re_sendCount 17 = .ok (.baload, 1) := by decide +kernel
theorem d_Re_sendCount_18 : decode b_Re_sendCount 18 = .ok (.ifCond .eq 6, 3) := by decide +kernel
theorem d_Re_sendCount_21 : decode b_Re_sendCount 21 = .ok (.iinc 1 1, 3) := by decide +kernel
theorem d_Re_sendCount_24 : decode b_Re_sendCount 24 = .ok (.iinc 2 1, 3) := by decide +kernel
theorem d_Re_sendCount_27 : decode b_Re_sendCount 27 = .ok (.goto (-23), 3) := by decide +kernel
theorem d_Re_sendCount_30 : decode b_Re_sendCount 30 = .ok (.iload_n 1, 1) := by decide +kernel
theorem d_Re_sendCount_31 : decode b_Re_sendCount 31 = .ok (.ireturn, 1) := by decide +kernel
theorem d_Re_partsOn_0 : decode b_Re_partsOn 0 = .ok (.iconst 0, 1) := by decide +kernel
theorem d_Re_partsOn_1 : decode b_Re_partsOn 1 = .ok (.istore_n 2, 1) := by decide +kernel
theorem d_Re_partsOn_2 : decode b_Re_partsOn 2 = .ok (.iconst 0, 1) := by decide +kernel
theorem d_Re_partsOn_3 : decode b_Re_partsOn 3 = .ok (.istore_n 3, 1) := by decide +kernel
theorem d_Re_partsOn_4 : decode b_Re_partsOn 4 = .ok (.iload_n 3, 1) := by decide +kernel
theorem d_Re_partsOn_5 : decode b_Re_partsOn 5 = .ok (.aload_n 0, 1) := by decide +kernel
theorem d_Re_partsOn_6 : decode b_Re_partsOn 6 = .ok (.getfield 9, 3) := by decide +kernel
theorem d_Re_partsOn_9 : decode b_Re_partsOn 9 = .ok (.if_icmp .ge 22, 3) := by decide +kernel
theorem d_Re_partsOn_12 : decode b_Re_partsOn 12 = .ok (.aload_n 0, 1) := by decide +kernel
theorem d_Re_partsOn_13 : decode b_Re_partsOn 13 = .ok (.getfield 15, 3) := by decide +kernel
theorem d_Re_partsOn_16 : decode b_Re_partsOn 16 = .ok (.iload_n 3, 1) := by decide +kernel
theorem d_Re_partsOn_17 : decode b_Re_partsOn 17 = .ok (.iaload, 1) := by decide +kernel
theorem d_Re_partsOn_18 : decode b_Re_partsOn 18 = .ok (.iload_n 1, 1) := by decide +kernel
theorem d_Re_partsOn_19 : decode b_Re_partsOn 19 = .ok (.if_icmp .ne 6, 3) := by decide +kernel
theorem d_Re_partsOn_22 : decode b_Re_partsOn 22 = .ok (.iinc 2 1, 3) := by decide +kernel
theorem d_Re_partsOn_25 : decode b_Re_partsOn 25 = .ok (.iinc 3 1, 3) := by decide +kernel
theorem d_Re_partsOn_28 : decode b_Re_partsOn 28 = .ok (.goto (-24), 3) := by decide +kernel
theorem d_Re_partsOn_31 : decode b_Re_partsOn 31 = .ok (.iload_n 2, 1) := by decide +kernel
theorem d_Re_partsOn_32 : decode b_Re_partsOn 32 = .ok (.ireturn, 1) := by decide +kernel
theorem d_Re_sendsTo_0 : decode b_Re_sendsTo 0 = .ok (.iconst 0, 1) := by decide +kernel
theorem d_Re_sendsTo_1 : decode b_Re_sendsTo 1 = .ok (.istore_n 2, 1) := by decide +kernel
theorem d_Re_sendsTo_2 : decode b_Re_sendsTo 2 = .ok (.iconst 0, 1) := by decide +kernel
theorem d_Re_sendsTo_3 : decode b_Re_sendsTo 3 = .ok (.istore_n 3, 1) := by decide +kernel
theorem d_Re_sendsTo_4 : decode b_Re_sendsTo 4 = .ok (.iload_n 3, 1) := by decide +kernel
theorem d_Re_sendsTo_5 : decode b_Re_sendsTo 5 = .ok (.aload_n 0, 1) := by decide +kernel
theorem d_Re_sendsTo_6 : decode b_Re_sendsTo 6 = .ok (.getfield 31, 3) := by decide +kernel
theorem d_Re_sendsTo_9 : decode b_Re_sendsTo 9 = .ok (.if_icmp .ge 31, 3) := by decide +kernel
theorem d_Re_sendsTo_12 : decode b_Re_sendsTo 12 = .ok (.aload_n 0, 1) := by decide +kernel
theorem d_Re_sendsTo_13 : decode b_Re_sendsTo 13 = .ok (.getfield 34, 3) := by decide +kernel
theorem d_Re_sendsTo_16 : decode b_Re_sendsTo 16 = .ok (.iload_n 3, 1) := by decide +kernel
theorem d_Re_sendsTo_17 : decode b_Re_sendsTo 17 = .ok (.baload, 1) := by decide +kernel
theorem d_Re_sendsTo_18 : decode b_Re_sendsTo 18 = .ok (.ifCond .eq 16, 3) := by decide +kernel
theorem d_Re_sendsTo_21 : decode b_Re_sendsTo 21 = .ok (.aload_n 0, 1) := by decide +kernel
theorem d_Re_sendsTo_22 : decode b_Re_sendsTo 22 = .ok (.getfield 38, 3) := by decide +kernel
theorem d_Re_sendsTo_25 : decode b_Re_sendsTo 25 = .ok (.iload_n 3, 1) := by decide +kernel
theorem d_Re_sendsTo_26 : decode b_Re_sendsTo 26 = .ok (.iaload, 1) := by decide +kernel
theorem d_Re_sendsTo_27 : decode b_Re_sendsTo 27 = .ok (.iload_n 1, 1) := by decide +kernel
theorem d_Re_sendsTo_28 : decode b_Re_sendsTo 28 = .ok (.if_icmp .ne 6, 3) := by decide +kernel
theorem d_Re_sendsTo_31 : decode b_Re_sendsTo 31 = .ok (.iinc 2 1, 3) := by decide +kernel
theorem d_Re_sendsTo_34 : decode b_Re_sendsTo 34 = .ok (.iinc 3 1, 3) := by decide +kernel
theorem d_Re_sendsTo_37 : decode b_Re_sendsTo 37 = .ok (.goto (-33), 3) := by decide +kernel
theorem d_Re_sendsTo_40 : decode b_Re_sendsTo 40 = .ok (.iload_n 2, 1) := by decide +kernel
theorem d_Re_sendsTo_41 : decode b_Re_sendsTo 41 = .ok (.ireturn, 1) := by decide +kernel
theorem d_V_hasRoom_0 : decode b_V_hasRoom 0 = .ok (.aload_n 0, 1) := by decide +kernel
theorem d_V_hasRoom_1 : decode b_V_hasRoom 1 = .ok (.getfield 35, 3) := by decide +kernel
theorem d_V_hasRoom_4 : decode b_V_hasRoom 4 = .ok (.getfield 154, 3) := by decide +kernel
theorem d_V_hasRoom_7 : decode b_V_hasRoom 7 = .ok (.aload_n 1, 1) := by decide +kernel
theorem d_V_hasRoom_8 : decode b_V_hasRoom 8 = .ok (.invokevirtual 174, 3) := by decide +kernel
theorem d_V_hasRoom_11 : decode b_V_hasRoom 11 = .ok (.iadd, 1) := by decide +kernel
theorem d_V_hasRoom_12 : decode b_V_hasRoom 12 = .ok (.sipush 300, 3) := by decide +kernel
theorem d_V_hasRoom_15 : decode b_V_hasRoom 15 = .ok (.if_icmp .le 5, 3) := by decide +kernel
theorem d_V_hasRoom_18 : decode b_V_hasRoom 18 = .ok (.iconst 0, 1) := by decide +kernel
theorem d_V_hasRoom_19 : decode b_V_hasRoom 19 = .ok (.ireturn, 1) := by decide +kernel
theorem d_V_hasRoom_20 : decode b_V_hasRoom 20 = .ok (.iconst 0, 1) := by decide +kernel
theorem d_V_hasRoom_21 : decode b_V_hasRoom 21 = .ok (.istore_n 2, 1) := by decide +kernel
theorem d_V_hasRoom_22 : decode b_V_hasRoom 22 = .ok (.iload_n 2, 1) := by decide +kernel
theorem d_V_hasRoom_23 : decode b_V_hasRoom 23 = .ok (.aload_n 0, 1) := by decide +kernel
theorem d_V_hasRoom_24 : decode b_V_hasRoom 24 = .ok (.getfield 15, 3) := by decide +kernel
theorem d_V_hasRoom_27 : decode b_V_hasRoom 27 = .ok (.if_icmp .ge 39, 3) := by decide +kernel
theorem d_V_hasRoom_30 : decode b_V_hasRoom 30 = .ok (.aload_n 0, 1) := by decide +kernel
theorem d_V_hasRoom_31 : decode b_V_hasRoom 31 = .ok (.getfield 11, 3) := by decide +kernel
theorem d_V_hasRoom_34 : decode b_V_hasRoom 34 = .ok (.iload_n 2, 1) := by decide +kernel
theorem d_V_hasRoom_35 : decode b_V_hasRoom 35 = .ok (.aaload, 1) := by decide +kernel
theorem d_V_hasRoom_36 : decode b_V_hasRoom 36 = .ok (.getfield 135, 3) := by decide +kernel
theorem d_V_hasRoom_39 : decode b_V_hasRoom 39 = .ok (.aload_n 1, 1) := by decide +kernel
theorem d_V_hasRoom_40 : decode b_V_hasRoom 40 = .ok (.iload_n 2, 1) := by decide +kernel
theorem d_V_hasRoom_41 : decode b_V_hasRoom 41 = .ok (.invokevirtual 177, 3) := by decide +kernel
theorem d_V_hasRoom_44 : decode b_V_hasRoom 44 = .ok (.isub, 1) := by decide +kernel
theorem d_V_hasRoom_45 : decode b_V_hasRoom 45 = .ok (.aload_n 1, 1) := by decide +kernel
theorem d_V_hasRoom_46 : decode b_V_hasRoom 46 = .ok (.iload_n 2, 1) := by decide +kernel
theorem d_V_hasRoom_47 : decode b_V_hasRoom 47 = .ok (.invokevirtual 181, 3) := by decide +kernel
theorem d_V_hasRoom_50 : decode b_V_hasRoom 50 = .ok (.iadd, 1) := by decide +kernel
theorem d_V_hasRoom_51 : decode b_V_hasRoom 51 = .ok (.istore_n 3, 1) := by decide +kernel
theorem d_V_hasRoom_52 : decode b_V_hasRoom 52 = .ok (.iload_n 3, 1) := by decide +kernel
theorem d_V_hasRoom_53 : decode b_V_hasRoom 53 = .ok (.bipush 6, 2) := by decide +kernel
theorem d_V_hasRoom_55 : decode b_V_hasRoom 55 = .ok (.if_icmp .le 5, 3) := by decide +kernel
theorem d_V_hasRoom_58 : decode b_V_hasRoom 58 = .ok (.iconst 0, 1) := by decide +kernel
theorem d_V_hasRoom_59 : decode b_V_hasRoom 59 = .ok (.ireturn, 1) := by decide +kernel
theorem d_V_hasRoom_60 : decode b_V_hasRoom 60 = .ok (.iinc 2 1, 3) := by decide +kernel
theorem d_V_hasRoom_63 : decode b_V_hasRoom 63 = .ok (.goto (-41), 3) := by decide +kernel
theorem d_V_hasRoom_66 : decode b_V_hasRoom 66 = .ok (.iconst 1, 1) := by decide +kernel
theorem d_V_hasRoom_67 : decode b_V_hasRoom 67 = .ok (.ireturn, 1) := by decide +kernel
theorem d_V_allRise_0 : decode b_V_allRise 0 = .ok (.iconst 1, 1) := by decide +kernel
theorem d_V_allRise_1 : decode b_V_allRise 1 = .ok (.istore_n 2, 1) := by decide +kernel
theorem d_V_allRise_2 : decode b_V_allRise 2 = .ok (.iload_n 2, 1) := by decide +kernel
theorem d_V_allRise_3 : decode b_V_allRise 3 = .ok (.iload_n 1, 1) := by decide +kernel
theorem d_V_allRise_4 : decode b_V_allRise 4 = .ok (.if_icmp .ge 22, 3) := by decide +kernel
theorem d_V_allRise_7 : decode b_V_allRise 7 = .ok (.aload_n 0, 1) := by decide +kernel
theorem d_V_allRise_8 : decode b_V_allRise 8 = .ok (.iload_n 2, 1) := by decide +kernel
theorem d_V_allRise_9 : decode b_V_allRise 9 = .ok (.iconst 1, 1) := by decide +kernel
theorem d_V_allRise_10 : decode b_V_allRise 10 = .ok (.isub, 1) := by decide +kernel
theorem d_V_allRise_11 : decode b_V_allRise 11 = .ok (.iaload, 1) := by decide +kernel
theorem d_V_allRise_12 : decode b_V_allRise 12 = .ok (.aload_n 0, 1) := by decide +kernel
theorem d_V_allRise_13 : decode b_V_allRise 13 = .ok (.iload_n 2, 1) := by decide +kernel
theorem d_V_allRise_14 : decode b_V_allRise 14 = .ok (.iaload, 1) := by decide +kernel
theorem d_V_allRise_15 : decode b_V_allRise 15 = .ok (.if_icmp .lt 5, 3) := by decide +kernel
theorem d_V_allRise_18 : decode b_V_allRise 18 = .ok (.iconst 0, 1) := by decide +kernel
theorem d_V_allRise_19 : decode b_V_allRise 19 = .ok (.ireturn, 1) := by decide +kernel
theorem d_V_allRise_20 : decode b_V_allRise 20 = .ok (.iinc 2 1, 3) := by decide +kernel
theorem d_V_allRise_23 : decode b_V_allRise 23 = .ok (.goto (-21), 3) := by decide +kernel
theorem d_V_allRise_26 : decode b_V_allRise 26 = .ok (.iconst 1, 1) := by decide +kernel
theorem d_V_allRise_27 : decode b_V_allRise 27 = .ok (.ireturn, 1) := by decide +kernel
theorem d_V_allEqual_0 : decode b_V_allEqual 0 = .ok (.iconst 1, 1) := by decide +kernel
theorem d_V_allEqual_1 : decode b_V_allEqual 1 = .ok (.istore_n 2, 1) := by decide +kernel
theorem d_V_allEqual_2 : decode b_V_allEqual 2 = .ok (.iload_n 2, 1) := by decide +kernel
theorem d_V_allEqual_3 : decode b_V_allEqual 3 = .ok (.iload_n 1, 1) := by decide +kernel
theorem d_V_allEqual_4 : decode b_V_allEqual 4 = .ok (.if_icmp .ge 20, 3) := by decide +kernel
theorem d_V_allEqual_7 : decode b_V_allEqual 7 = .ok (.aload_n 0, 1) := by decide +kernel
theorem d_V_allEqual_8 : decode b_V_allEqual 8 = .ok (.iload_n 2, 1) := by decide +kernel
theorem d_V_allEqual_9 : decode b_V_allEqual 9 = .ok (.iaload, 1) := by decide +kernel
theorem d_V_allEqual_10 : decode b_V_allEqual 10 = .ok (.aload_n 0, 1) := by decide +kernel
theorem d_V_allEqual_11 : decode b_V_allEqual 11 = .ok (.iconst 0, 1) := by decide +kernel
theorem d_V_allEqual_12 : decode b_V_allEqual 12 = .ok (.iaload, 1) := by decide +kernel
theorem d_V_allEqual_13 : decode b_V_allEqual 13 = .ok (.if_icmp .eq 5, 3) := by decide +kernel
theorem d_V_allEqual_16 : decode b_V_allEqual 16 = .ok (.iconst 0, 1) := by decide +kernel
theorem d_V_allEqual_17 : decode b_V_allEqual 17 = .ok (.ireturn, 1) := by decide +kernel
theorem d_V_allEqual_18 : decode b_V_allEqual 18 = .ok (.iinc 2 1, 3) := by decide +kernel
theorem d_V_allEqual_21 : decode b_V_allEqual 21 = .ok (.goto (-19), 3) := by decide +kernel
theorem d_V_allEqual_24 : decode b_V_allEqual 24 = .ok (.iconst 1, 1) := by decide +kernel
theorem d_V_allEqual_25 : decode b_V_allEqual 25 = .ok (.ireturn, 1) := by decide +kernel
theorem d_V_allDiffer_0 : decode b_V_allDiffer 0 = .ok (.iconst 1, 1) := by decide +kernel
theorem d_V_allDiffer_1 : decode b_V_allDiffer 1 = .ok (.istore_n 2, 1) := by decide +kernel
theorem d_V_allDiffer_2 : decode b_V_allDiffer 2 = .ok (.iload_n 2, 1) := by decide +kernel
theorem d_V_allDiffer_3 : decode b_V_allDiffer 3 = .ok (.iload_n 1, 1) := by decide +kernel
theorem d_V_allDiffer_4 : decode b_V_allDiffer 4 = .ok (.if_icmp .ge 33, 3) := by decide +kernel
theorem d_V_allDiffer_7 : decode b_V_allDiffer 7 = .ok (.iconst 0, 1) := by decide +kernel
theorem d_V_allDiffer_8 : decode b_V_allDiffer 8 = .ok (.istore_n 3, 1) := by decide +kernel
theorem d_V_allDiffer_9 : decode b_V_allDiffer 9 = .ok (.iload_n 3, 1) := by decide +kernel
theorem d_V_allDiffer_10 : decode b_V_allDiffer 10 = .ok (.iload_n 2, 1) := by decide +kernel
theorem d_V_allDiffer_11 : decode b_V_allDiffer 11 = .ok (.if_icmp .ge 20, 3) := by decide +kernel
theorem d_V_allDiffer_14 : decode b_V_allDiffer 14 = .ok (.aload_n 0, 1) := by decide +kernel
theorem d_V_allDiffer_15 : decode b_V_allDiffer 15 = .ok (.iload_n 2, 1) := by decide +kernel
theorem d_V_allDiffer_16 : decode b_V_allDiffer 16 = .ok (.iaload, 1) := by decide +kernel
theorem d_V_allDiffer_17 : decode b_V_allDiffer 17 = .ok (.aload_n 0, 1) := by decide +kernel
theorem d_V_allDiffer_18 : decode b_V_allDiffer 18 = .ok (.iload_n 3, 1) := by decide +kernel
theorem d_V_allDiffer_19 : decode b_V_allDiffer 19 = .ok (.iaload, 1) := by decide +kernel
theorem d_V_allDiffer_20 : decode b_V_allDiffer 20 = .ok (.if_icmp .ne 5, 3) := by decide +kernel
theorem d_V_allDiffer_23 : decode b_V_allDiffer 23 = .ok (.iconst 0, 1) := by decide +kernel
theorem d_V_allDiffer_24 : decode b_V_allDiffer 24 = .ok (.ireturn, 1) := by decide +kernel
theorem d_V_allDiffer_25 : decode b_V_allDiffer 25 = .ok (.iinc 3 1, 3) := by decide +kernel
theorem d_V_allDiffer_28 : decode b_V_allDiffer 28 = .ok (.goto (-19), 3) := by decide +kernel
theorem d_V_allDiffer_31 : decode b_V_allDiffer 31 = .ok (.iinc 2 1, 3) := by decide +kernel
theorem d_V_allDiffer_34 : decode b_V_allDiffer 34 = .ok (.goto (-32), 3) := by decide +kernel
theorem d_V_allDiffer_37 : decode b_V_allDiffer 37 = .ok (.iconst 1, 1) := by decide +kernel
theorem d_V_allDiffer_38 : decode b_V_allDiffer 38 = .ok (.ireturn, 1) := by decide +kernel
theorem d_V_sum_0 : decode b_V_sum 0 = .ok (.lconst 0, 1) := by decide +kernel
theorem d_V_sum_1 : decode b_V_sum 1 = .ok (.lstore_n 2, 1) := by decide +kernel
theorem d_V_sum_2 : decode b_V_sum 2 = .ok (.iconst 0, 1) := by decide +kernel
theorem d_V_sum_3 : decode b_V_sum 3 = .ok (.istore 4, 2) := by decide +kernel
theorem d_V_sum_5 : decode b_V_sum 5 = .ok (.iload 4, 2) := by decide +kernel
theorem d_V_sum_7 : decode b_V_sum 7 = .ok (.iload_n 1, 1) := by decide +kernel
theorem d_V_sum_8 : decode b_V_sum 8 = .ok (.if_icmp .ge 17, 3) := by decide +kernel
theorem d_V_sum_11 : decode b_V_sum 11 = .ok (.lload_n 2, 1) := by decide +kernel
theorem d_V_sum_12 : decode b_V_sum 12 = .ok (.aload_n 0, 1) := by decide +kernel
theorem d_V_sum_13 : decode b_V_sum 13 = .ok (.iload 4, 2) := by decide +kernel
theorem d_V_sum_15 : decode b_V_sum 15 = .ok (.iaload, 1) := by decide +kernel
theorem d_V_sum_16 : decode b_V_sum 16 = .ok (.i2l, 1) := by decide +kernel
theorem d_V_sum_17 : decode b_V_sum 17 = .ok (.ladd, 1) := by decide +kernel
theorem d_V_sum_18 : decode b_V_sum 18 = .ok (.lstore_n 2, 1) := by decide +kernel
theorem d_V_sum_19 : decode b_V_sum 19 = .ok (.iinc 4 1, 3) := by decide +kernel
theorem d_V_sum_22 : decode b_V_sum 22 = .ok (.goto (-17), 3) := by decide +kernel
theorem d_V_sum_25 : decode b_V_sum 25 = .ok (.lload_n 2, 1) := by decide +kernel
theorem d_V_sum_26 : decode b_V_sum 26 = .ok (.lreturn, 1) := by decide +kernel
theorem d_Re_guardHolds_0 : decode b_Re_guardHolds 0 = .ok (.aload_n 0, 1) := by decide +kernel
theorem d_Re_guardHolds_1 : decode b_Re_guardHolds 1 = .ok (.getfield 25, 3) := by decide +kernel
theorem d_Re_guardHolds_4 : decode b_Re_guardHolds 4 = .ok (.tableswitch 118 1 5 #[36, 45, 54, 63, 86], 36) := by decide +kernel
theorem d_Re_guardHolds_40 : decode b_Re_guardHolds 40 = .ok (.aload_n 1, 1) := by decide +kernel
theorem d_Re_guardHolds_41 : decode b_Re_guardHolds 41 = .ok (.aload_n 0, 1) := by decide +kernel
theorem d_Re_guardHolds_42 : decode b_Re_guardHolds 42 = .ok (.getfield 9, 3) := by decide +kernel
theorem d_Re_guardHolds_45 : decode b_Re_guardHolds 45 = .ok (.invokestatic 58, 3) := by decide +kernel
theorem d_Re_guardHolds_48 : decode b_Re_guardHolds 48 = .ok (.ireturn, 1) := by decide +kernel
theorem d_Re_guardHolds_49 : decode b_Re_guardHolds 49 = .ok (.aload_n 1, 1) := by decide +kernel
theorem d_Re_guardHolds_50 : decode b_Re_guardHolds 50 = .ok (.aload_n 0, 1) := by decide +kernel
theorem d_Re_guardHolds_51 : decode b_Re_guardHolds 51 = .ok (.getfield 9, 3) := by decide +kernel
theorem d_Re_guardHolds_54 : decode b_Re_guardHolds 54 = .ok (.invokestatic 62, 3) := by decide +kernel
theorem d_Re_guardHolds_57 : decode b_Re_guardHolds 57 = .ok (.ireturn, 1) := by decide +kernel
theorem d_Re_guardHolds_58 : decode b_Re_guardHolds 58 = .ok (.aload_n 1, 1) := by decide +kernel
theorem d_Re_guardHolds_59 : decode b_Re_guardHolds 59 = .ok (.aload_n 0, 1) := by decide +kernel
theorem d_Re_guardHolds_60 : decode b_Re_guardHolds 60 = .ok (.getfield 9, 3) := by decide +kernel
theorem d_Re_guardHolds_63 : decode b_Re_guardHolds 63 = .ok (.invokestatic 65, 3) := by decide +kernel
theorem d_Re_guardHolds_66 : decode b_Re_guardHolds 66 = .ok (.ireturn, 1) := by decide +kernel
theorem d_Re_guardHolds_67 : decode b_Re_guardHolds 67 = .ok (.aload_n 1, 1) := by decide +kernel
theorem d_Re_guardHolds_68 : decode b_Re_guardHolds 68 = .ok (.aload_n 0, 1) := by decide +kernel
theorem d_Re_guardHolds_69 : decode b_Re_guardHolds 69 = .ok (.getfield 9, 3) := by decide +kernel
theorem d_Re_guardHolds_72 : decode b_Re_guardHolds 72 = .ok (.invokestatic 68, 3) := by decide +kernel
theorem d_Re_guardHolds_75 : decode b_Re_guardHolds 75 = .ok (.aload_n 0, 1) := by decide +kernel
theorem d_Re_guardHolds_76 : decode b_Re_guardHolds 76 = .ok (.getfield 28, 3) := by decide +kernel
theorem d_Re_guardHolds_79 : decode b_Re_guardHolds 79 = .ok (.i2l, 1) := by decide +kernel
theorem d_Re_guardHolds_80 : decode b_Re_guardHolds 80 = .ok (.lcmp, 1) := by decide +kernel
theorem d_Re_guardHolds_81 : decode b_Re_guardHolds 81 = .ok (.ifCond .gt 7, 3) := by decide +kernel
theorem d_Re_guardHolds_84 : decode b_Re_guardHolds 84 = .ok (.iconst 1, 1) := by decide +kernel
theorem d_Re_guardHolds_85 : decode b_Re_guardHolds 85 = .ok (.goto 4, 3) := by decide +kernel
theorem d_Re_guardHolds_88 : decode b_Re_guardHolds 88 = .ok (.iconst 0, 1) := by decide +kernel
theorem d_Re_guardHolds_89 : decode b_Re_guardHolds 89 = .ok (.ireturn, 1) := by decide +kernel
theorem d_Re_guardHolds_90 : decode b_Re_guardHolds 90 = .ok (.aload_n 0, 1) := by decide +kernel
theorem d_Re_guardHolds_91 : decode b_Re_guardHolds 91 = .ok (.getfield 28, 3) := by decide +kernel
theorem d_Re_guardHolds_94 : decode b_Re_guardHolds 94 = .ok (.ifCond .eq 26, 3) := by decide +kernel
theorem d_Re_guardHolds_97 : decode b_Re_guardHolds 97 = .ok (.aload_n 1, 1) := by decide +kernel
theorem d_Re_guardHolds_98 : decode b_Re_guardHolds 98 = .ok (.aload_n 0, 1) := by decide +kernel
theorem d_Re_guardHolds_99 : decode b_Re_guardHolds 99 = .ok (.getfield 9, 3) := by decide +kernel
theorem d_Re_guardHolds_102 : decode b_Re_guardHolds 102 = .ok (.invokestatic 68, 3) := by decide +kernel
theorem d_Re_guardHolds_105 : decode b_Re_guardHolds 105 = .ok (.aload_n 0, 1) := by decide +kernel
theorem d_Re_guardHolds_106 : decode b_Re_guardHolds 106 = .ok (.getfield 28, 3) := by decide +kernel
theorem d_Re_guardHolds_109 : decode b_Re_guardHolds 109 = .ok (.i2l, 1) := by decide +kernel
theorem d_Re_guardHolds_110 : decode b_Re_guardHolds 110 = .ok (.lrem, 1) := by decide +kernel
theorem d_Re_guardHolds_111 : decode b_Re_guardHolds 111 = .ok (.lconst 0, 1) := by decide +kernel
theorem d_Re_guardHolds_112 : decode b_Re_guardHolds 112 = .ok (.lcmp, 1) := by decide +kernel
theorem d_Re_guardHolds_113 : decode b_Re_guardHolds 113 = .ok (.ifCond .ne 7, 3) := by decide +kernel
theorem d_Re_guardHolds_116 : decode b_Re_guardHolds 116 = .ok (.iconst 1, 1) := by decide +kernel
theorem d_Re_guardHolds_117 : decode b_Re_guardHolds 117 = .ok (.goto 4, 3) := by decide +kernel
theorem d_Re_guardHolds_120 : decode b_Re_guardHolds 120 = .ok (.iconst 0, 1) := by decide +kernel
theorem d_Re_guardHolds_121 : decode b_Re_guardHolds 121 = .ok (.ireturn, 1) := by decide +kernel
theorem d_Re_guardHolds_122 : decode b_Re_guardHolds 122 = .ok (.iconst 1, 1) := by decide +kernel
theorem d_Re_guardHolds_123 : decode b_Re_guardHolds 123 = .ok (.ireturn, 1) := by decide +kernel
theorem d_Re_passesTest_0 : decode b_Re_passesTest 0 = .ok (.aload_n 0, 1) := by decide +kernel
theorem d_Re_passesTest_1 : decode b_Re_passesTest 1 = .ok (.getfield 22, 3) := by decide +kernel
theorem d_Re_passesTest_4 : decode b_Re_passesTest 4 = .ok (.iload_n 1, 1) := by decide +kernel
theorem d_Re_passesTest_5 : decode b_Re_passesTest 5 = .ok (.iaload, 1) := by decide +kernel
theorem d_Re_passesTest_6 : decode b_Re_passesTest 6 = .ok (.istore_n 3, 1) := by decide +kernel
theorem d_Re_passesTest_7 : decode b_Re_passesTest 7 = .ok (.aload_n 0, 1) := by decide +kernel
theorem d_Re_passesTest_8 : decode b_Re_passesTest 8 = .ok (.getfield 19, 3) := by decide +kernel
theorem d_Re_passesTest_11 : decode b_Re_passesTest 11 = .ok (.iload_n 1, 1) := by decide +kernel
theorem d_Re_passesTest_12 : decode b_Re_passesTest 12 = .ok (.iaload, 1) := by decide +kernel
theorem d_Re_passesTest_13 : decode b_Re_passesTest 13 = .ok (.tableswitch 76 1 4 #[31, 42, 53, 64], 31) := by decide +kernel
theorem d_Re_passesTest_44 : decode b_Re_passesTest 44 = .ok (.iload_n 2, 1) := by decide +kernel
theorem d_Re_passesTest_45 : decode b_Re_passesTest 45 = .ok (.iload_n 3, 1) := by decide +kernel
theorem d_Re_passesTest_46 : decode b_Re_passesTest 46 = .ok (.if_icmp .ne 7, 3) := by decide +kernel
theorem d_Re_passesTest_49 : decode b_Re_passesTest 49 = .ok (.iconst 1, 1) := by decide +kernel
theorem d_Re_passesTest_50 : decode b_Re_passesTest 50 = .ok (.goto 4, 3) := by decide +kernel
theorem d_Re_passesTest_53 : decode b_Re_passesTest 53 = .ok (.iconst 0, 1) := by decide +kernel
theorem d_Re_passesTest_54 : decode b_Re_passesTest 54 = .ok (.ireturn, 1) := by decide +kernel
theorem d_Re_passesTest_55 : decode b_Re_passesTest 55 = .ok (.iload_n 2, 1) := by decide +kernel
theorem d_Re_passesTest_56 : decode b_Re_passesTest 56 = .ok (.iload_n 3, 1) := by decide +kernel
theorem d_Re_passesTest_57 : decode b_Re_passesTest 57 = .ok (.if_icmp .ge 7, 3) := by decide +kernel
theorem d_Re_passesTest_60 : decode b_Re_passesTest 60 = .ok (.iconst 1, 1) := by decide +kernel
theorem d_Re_passesTest_61 : decode b_Re_passesTest 61 = .ok (.goto 4, 3) := by decide +kernel
theorem d_Re_passesTest_64 : decode b_Re_passesTest 64 = .ok (.iconst 0, 1) := by decide +kernel
theorem d_Re_passesTest_65 : decode b_Re_passesTest 65 = .ok (.ireturn, 1) := by decide +kernel
theorem d_Re_passesTest_66 : decode b_Re_passesTest 66 = .ok (.iload_n 2, 1) := by decide +kernel
theorem d_Re_passesTest_67 : decode b_Re_passesTest 67 = .ok (.iload_n 3, 1) := by decide +kernel
theorem d_Re_passesTest_68 : decode b_Re_passesTest 68 = .ok (.if_icmp .lt 7, 3) := by decide +kernel
theorem d_Re_passesTest_71 : decode b_Re_passesTest 71 = .ok (.iconst 1, 1) := by decide +kernel
theorem d_Re_passesTest_72 : decode b_Re_passesTest 72 = .ok (.goto 4, 3) := by decide +kernel
theorem d_Re_passesTest_75 : decode b_Re_passesTest 75 = .ok (.iconst 0, 1) := by decide +kernel
theorem d_Re_passesTest_76 : decode b_Re_passesTest 76 = .ok (.ireturn, 1) := by decide +kernel
theorem d_Re_passesTest_77 : decode b_Re_passesTest 77 = .ok (.iload_n 2, 1) := by decide +kernel
theorem d_Re_passesTest_78 : decode b_Re_passesTest 78 = .ok (.iload_n 3, 1) := by decide +kernel
theorem d_Re_passesTest_79 : decode b_Re_passesTest 79 = .ok (.iand, 1) := by decide +kernel
theorem d_Re_passesTest_80 : decode b_Re_passesTest 80 = .ok (.ifCond .eq 7, 3) := by decide +kernel
theorem d_Re_passesTest_83 : decode b_Re_passesTest 83 = .ok (.iconst 1, 1) := by decide +kernel
theorem d_Re_passesTest_84 : decode b_Re_passesTest 84 = .ok (.goto 4, 3) := by decide +kernel
theorem d_Re_passesTest_87 : decode b_Re_passesTest 87 = .ok (.iconst 0, 1) := by decide +kernel
theorem d_Re_passesTest_88 : decode b_Re_passesTest 88 = .ok (.ireturn, 1) := by decide +kernel
theorem d_Re_passesTest_89 : decode b_Re_passesTest 89 = .ok (.iconst 1, 1) := by decide +kernel
theorem d_Re_passesTest_90 : decode b_Re_passesTest 90 = .ok (.ireturn, 1) := by decide +kernel
theorem d_Mt_holdsBefore_0 : decode b_Mt_holdsBefore 0 = .ok (.iconst 0, 1) := by decide +kernel
theorem d_Mt_holdsBefore_1 : decode b_Mt_holdsBefore 1 = .ok (.istore_n 3, 1) := by decide +kernel
theorem d_Mt_holdsBefore_2 : decode b_Mt_holdsBefore 2 = .ok (.iload_n 3, 1) := by decide +kernel
theorem d_Mt_holdsBefore_3 : decode b_Mt_holdsBefore 3 = .ok (.iload_n 1, 1) := by decide +kernel
theorem d_Mt_holdsBefore_4 : decode b_Mt_holdsBefore 4 = .ok (.if_icmp .ge 21, 3) := by decide +kernel
theorem d_Mt_holdsBefore_7 : decode b_Mt_holdsBefore 7 = .ok (.aload_n 0, 1) := by decide +kernel
theorem d_Mt_holdsBefore_8 : decode b_Mt_holdsBefore 8 = .ok (.getfield 9, 3) := by decide +kernel
theorem d_Mt_holdsBefore_11 : decode b_Mt_holdsBefore 11 = .ok (.iload_n 3, 1) := by decide +kernel
theorem d_Mt_holdsBefore_12 : decode b_Mt_holdsBefore 12 = .ok (.iaload, 1) := by decide +kernel
theorem d_Mt_holdsBefore_13 : decode b_Mt_holdsBefore 13 = .ok (.iload_n 2, 1) := by decide +kernel
theorem d_Mt_holdsBefore_14 : decode b_Mt_holdsBefore 14 = .ok (.if_icmp .ne 5, 3) := by decide +kernel
theorem d_Mt_holdsBefore_17 : decode b_Mt_holdsBefore 17 = .ok (.iconst 1, 1) := by decide +kernel
theorem d_Mt_holdsBefore_18 : decode b_Mt_holdsBefore 18 = .ok (.ireturn, 1) := by decide +kernel
theorem d_Mt_holdsBefore_19 : decode b_Mt_holdsBefore 19 = .ok (.iinc 3 1, 3) := by decide +kernel
theorem d_Mt_holdsBefore_22 : decode b_Mt_holdsBefore 22 = .ok (.goto (-20), 3) := by decide +kernel
theorem d_Mt_holdsBefore_25 : decode b_Mt_holdsBefore 25 = .ok (.iconst 0, 1) := by decide +kernel
theorem d_Mt_holdsBefore_26 : decode b_Mt_holdsBefore 26 = .ok (.ireturn, 1) := by decide +kernel
theorem d_V_fillMatch_0 : decode b_V_fillMatch 0 = .ok (.iload 4, 2) := by decide +kernel
theorem d_V_fillMatch_2 : decode b_V_fillMatch 2 = .ok (.iconst 4, 1) := by decide +kernel
theorem d_V_fillMatch_3 : decode b_V_fillMatch 3 = .ok (.if_icmp .ge 12, 3) := by decide +kernel
theorem d_V_fillMatch_6 : decode b_V_fillMatch 6 = .ok (.iload 4, 2) := by decide +kernel
theorem d_V_fillMatch_8 : decode b_V_fillMatch 8 = .ok (.aload_n 1, 1) := by decide +kernel
theorem d_V_fillMatch_9 : decode b_V_fillMatch 9 = .ok (.getfield 69, 3) := by decide +kernel
theorem d_V_fillMatch_12 : decode b_V_fillMatch 12 = .ok (.if_icmp .lt 12, 3) := by decide +kernel
theorem d_V_fillMatch_15 : decode b_V_fillMatch 15 = .ok (.aload_n 1, 1) := by decide +kernel
theorem d_V_fillMatch_16 : decode b_V_fillMatch 16 = .ok (.aload_n 0, 1) := by decide +kernel
theorem d_V_fillMatch_17 : decode b_V_fillMatch 17 = .ok (.getfield 184, 3) := by decide +kernel
theorem d_V_fillMatch_20 : decode b_V_fillMatch 20 = .ok (.invokevirtual 185, 3) := by decide +kernel
theorem d_V_fillMatch_23 : decode b_V_fillMatch 23 = .ok (.ireturn, 1) := by decide +kernel
theorem d_V_fillMatch_24 : decode b_V_fillMatch 24 = .ok (.aload_n 2, 1) := by decide +kernel
theorem d_V_fillMatch_25 : decode b_V_fillMatch 25 = .ok (.aload_n 1, 1) := by decide +kernel
theorem d_V_fillMatch_26 : decode b_V_fillMatch 26 = .ok (.getfield 96, 3) := by decide +kernel
theorem d_V_fillMatch_29 : decode b_V_fillMatch 29 = .ok (.iload 4, 2) := by decide +kernel
theorem d_V_fillMatch_31 : decode b_V_fillMatch 31 = .ok (.iaload, 1) := by decide +kernel
theorem d_V_fillMatch_32 : decode b_V_fillMatch 32 = .ok (.aaload, 1) := by decide +kernel
theorem d_V_fillMatch_33 : decode b_V_fillMatch 33 = .ok (.astore 5, 2) := by decide +kernel
theorem d_V_fillMatch_35 : decode b_V_fillMatch 35 = .ok (.iconst 0, 1) := by decide +kernel
theorem d_V_fillMatch_36 : decode b_V_fillMatch 36 = .ok (.istore 6, 2) := by decide +kernel
theorem d_V_fillMatch_38 : decode b_V_fillMatch 38 = .ok (.iload 6, 2) := by decide +kernel
theorem d_V_fillMatch_40 : decode b_V_fillMatch 40 = .ok (.aload 5, 2) := by decide +kernel
theorem d_V_fillMatch_42 : decode b_V_fillMatch 42 = .ok (.getfield 135, 3) := by decide +kernel
theorem d_V_fillMatch_45 : decode b_V_fillMatch 45 = .ok (.if_icmp .ge 84, 3) := by decide +kernel
theorem d_V_fillMatch_48 : decode b_V_fillMatch 48 = .ok (.aload 5, 2) := by decide +kernel
theorem d_V_fillMatch_50 : decode b_V_fillMatch 50 = .ok (.getfield 138, 3) := by decide +kernel
theorem d_V_fillMatch_53 : decode b_V_fillMatch 53 = .ok (.iload 6, 2) := by decide +kernel
theorem d_V_fillMatch_55 : decode b_V_fillMatch 55 = .ok (.iaload, 1) := by decide +kernel
theorem d_V_fillMatch_56 : decode b_V_fillMatch 56 = .ok (.istore 7, 2) := by decide +kernel
theorem d_V_fillMatch_58 : decode b_V_fillMatch 58 = .ok (.aload_n 3, 1) := by decide +kernel
theorem d_V_fillMatch_59 : decode b_V_fillMatch 59 = .ok (.getfield 141, 3) := by decide +kernel
theorem d_V_fillMatch_62 : decode b_V_fillMatch 62 = .ok (.iload 7, 2) := by decide +kernel
theorem d_V_fillMatch_64 : decode b_V_fillMatch 64 = .ok (.iaload, 1) := by decide +kernel
theorem d_V_fillMatch_65 : decode b_V_fillMatch 65 = .ok (.istore 8, 2) := by decide +kernel
theorem d_V_fillMatch_67 : decode b_V_fillMatch 67 = .ok (.aload_n 1, 1) := by decide +kernel
theorem d_V_fillMatch_68 : decode b_V_fillMatch 68 = .ok (.iload 4, 2) := by decide +kernel
theorem d_V_fillMatch_70 : decode b_V_fillMatch 70 = .ok (.iload 8, 2) := by decide +kernel
theorem d_V_fillMatch_72 : decode b_V_fillMatch 72 = .ok (.invokevirtual 189, 3) := by decide +kernel
theorem d_V_fillMatch_75 : decode b_V_fillMatch 75 = .ok (.ifCond .eq 48, 3) := by decide +kernel
theorem d_V_fillMatch_78 : decode b_V_fillMatch 78 = .ok (.aload_n 0, 1) := by decide +kernel
theorem d_V_fillMatch_79 : decode b_V_fillMatch 79 = .ok (.iload 4, 2) := by decide +kernel
theorem d_V_fillMatch_81 : decode b_V_fillMatch 81 = .ok (.iload 7, 2) := by decide +kernel
theorem d_V_fillMatch_83 : decode b_V_fillMatch 83 = .ok (.invokevirtual 192, 3) := by decide +kernel
theorem d_V_fillMatch_86 : decode b_V_fillMatch 86 = .ok (.ifCond .ne 37, 3) := by decide +kernel
theorem d_V_fillMatch_89 : decode b_V_fillMatch 89 = .ok (.aload_n 0, 1) := by decide +kernel
theorem d_V_fillMatch_90 : decode b_V_fillMatch 90 = .ok (.getfield 132, 3) := by decide +kernel
theorem d_V_fillMatch_93 : decode b_V_fillMatch 93 = .ok (.iload 4, 2) := by decide +kernel
theorem d_V_fillMatch_95 : decode b_V_fillMatch 95 = .ok (.iload 7, 2) := by decide +kernel
theorem d_V_fillMatch_97 : decode b_V_fillMatch 97 = .ok (.iastore, 1) := by decide +kernel
theorem d_V_fillMatch_98 : decode b_V_fillMatch 98 = .ok (.aload_n 0, 1) := by decide +kernel
theorem d_V_fillMatch_99 : decode b_V_fillMatch 99 = .ok (.getfield 184, 3) := by decide +kernel
theorem d_V_fillMatch_102 : decode b_V_fillMatch 102 = .ok (.iload 4, 2) := by decide +kernel
theorem d_V_fillMatch_104 : decode b_V_fillMatch 104 = .ok (.iload 8, 2) := by decide +kernel
theorem d_V_fillMatch_106 : decode b_V_fillMatch 106 = .ok (.iastore, 1) := by decide +kernel
theorem d_V_fillMatch_107 : decode b_V_fillMatch 107 = .ok (.aload_n 0, 1) := by decide +kernel
theorem d_V_fillMatch_108 : decode b_V_fillMatch 108 = .ok (.aload_n 1, 1) := by decide +kernel
theorem d_V_fillMatch_109 : decode b_V_fillMatch 109 = .ok (.aload_n 2, 1) := by decide +kernel
theorem d_V_fillMatch_110 : decode b_V_fillMatch 110 = .ok (.aload_n 3, 1) := by decide +kernel
theorem d_V_fillMatch_111 : decode b_V_fillMatch 111 = .ok (.iload 4, 2) := by decide +kernel
theorem d_V_fillMatch_113 : decode b_V_fillMatch 113 = .ok (.iconst 1, 1) := by decide +kernel
theorem d_V_fillMatch_114 : decode b_V_fillMatch 114 = .ok (.iadd, 1) := by decide +kernel
theorem d_V_fillMatch_115 : decode b_V_fillMatch 115 = .ok (.invokestatic 170, 3) := by decide +kernel
theorem d_V_fillMatch_118 : decode b_V_fillMatch 118 = .ok (.ifCond .eq 5, 3) := by decide +kernel
theorem d_V_fillMatch_121 : decode b_V_fillMatch 121 = .ok (.iconst 1, 1) := by decide +kernel
theorem d_V_fillMatch_122 : decode b_V_fillMatch 122 = .ok (.ireturn, 1) := by decide +kernel
theorem d_V_fillMatch_123 : decode b_V_fillMatch 123 = .ok (.iinc 6 1, 3) := by decide +kernel
theorem d_V_fillMatch_126 : decode b_V_fillMatch 126 = .ok (.goto (-88), 3) := by decide +kernel
theorem d_V_fillMatch_129 : decode b_V_fillMatch 129 = .ok (.iconst 0, 1) := by decide +kernel
theorem d_V_fillMatch_130 : decode b_V_fillMatch 130 = .ok (.ireturn, 1) := by decide +kernel
theorem d_V_findEnabledMatch_0 : decode b_V_findEnabledMatch 0 = .ok (.aload_n 0, 1) := by decide +kernel
theorem d_V_findEnabledMatch_1 : decode b_V_findEnabledMatch 1 = .ok (.getfield 28, 3) := by decide +kernel
theorem d_V_findEnabledMatch_4 : decode b_V_findEnabledMatch 4 = .ok (.ifCond .eq 45, 3) := by decide +kernel
theorem d_V_findEnabledMatch_7 : decode b_V_findEnabledMatch 7 = .ok (.aload_n 0, 1) := by decide +kernel
theorem d_V_findEnabledMatch_8 : decode b_V_findEnabledMatch 8 = .ok (.aload_n 0, 1) := by decide +kernel
theorem d_V_findEnabledMatch_9 : decode b_V_findEnabledMatch 9 = .ok (.getfield 21, 3) := by decide +kernel
theorem d_V_findEnabledMatch_12 : decode b_V_findEnabledMatch 12 = .ok (.iload_n 1, 1) := by decide +kernel
theorem d_V_findEnabledMatch_13 : decode b_V_findEnabledMatch 13 = .ok (.aaload, 1) := by decide +kernel
theorem d_V_findEnabledMatch_14 : decode b_V_findEnabledMatch 14 = .ok (.invokevirtual 167, 3) := by decide +kernel
theorem d_V_findEnabledMatch_17 : decode b_V_findEnabledMatch 17 = .ok (.ifCond .eq 32, 3) := by decide +kernel
theorem d_V_findEnabledMatch_20 : decode b_V_findEnabledMatch 20 = .ok (.aload_n 0, 1) := by decide +kernel
theorem d_V_findEnabledMatch_21 : decode b_V_findEnabledMatch 21 = .ok (.getfield 42, 3) := by decide +kernel
theorem d_V_findEnabledMatch_24 : decode b_V_findEnabledMatch 24 = .ok (.aload_n 0, 1) := by decide +kernel
theorem d_V_findEnabledMatch_25 : decode b_V_findEnabledMatch 25 = .ok (.getfield 21, 3) := by decide +kernel
theorem d_V_findEnabledMatch_28 : decode b_V_findEnabledMatch 28 = .ok (.iload_n 1, 1) := by decide +kernel
theorem d_V_findEnabledMatch_29 : decode b_V_findEnabledMatch 29 = .ok (.aaload, 1) := by decide +kernel
theorem d_V_findEnabledMatch_30 : decode b_V_findEnabledMatch 30 = .ok (.aload_n 0, 1) := by decide +kernel
theorem d_V_findEnabledMatch_31 : decode b_V_findEnabledMatch 31 = .ok (.getfield 11, 3) := by decide +kernel
theorem d_V_findEnabledMatch_34 : decode b_V_findEnabledMatch 34 = .ok (.aload_n 0, 1) := by decide +kernel
theorem d_V_findEnabledMatch_35 : decode b_V_findEnabledMatch 35 = .ok (.getfield 35, 3) := by decide +kernel
theorem d_V_findEnabledMatch_38 : decode b_V_findEnabledMatch 38 = .ok (.iconst 0, 1) := by decide +kernel
theorem d_V_findEnabledMatch_39 : decode b_V_findEnabledMatch 39 = .ok (.invokestatic 170, 3) := by decide +kernel
theorem d_V_findEnabledMatch_42 : decode b_V_findEnabledMatch 42 = .ok (.ifCond .eq 7, 3) := by decide +kernel
theorem d_V_findEnabledMatch_45 : decode b_V_findEnabledMatch 45 = .ok (.iconst 1, 1) := by decide +kernel
theorem d_V_findEnabledMatch_46 : decode b_V_findEnabledMatch 46 = .ok (.goto 4, 3) := by decide +kernel
theorem d_V_findEnabledMatch_49 : decode b_V_findEnabledMatch 49 = .ok (.iconst 0, 1) := by decide +kernel
theorem d_V_findEnabledMatch_50 : decode b_V_findEnabledMatch 50 = .ok (.ireturn, 1) := by decide +kernel
theorem d_V_findNext_0 : decode b_V_findNext 0 = .ok (.aload_n 0, 1) := by decide +kernel
theorem d_V_findNext_1 : decode b_V_findNext 1 = .ok (.getfield 50, 3) := by decide +kernel
theorem d_V_findNext_4 : decode b_V_findNext 4 = .ok (.ifCond .ne 7, 3) := by decide +kernel
theorem d_V_findNext_7 : decode b_V_findNext 7 = .ok (.iconst 0, 1) := by decide +kernel
theorem d_V_findNext_8 : decode b_V_findNext 8 = .ok (.goto 16, 3) := by decide +kernel
theorem d_V_findNext_11 : decode b_V_findNext 11 = .ok (.aload_n 0, 1) := by decide +kernel
theorem d_V_findNext_12 : decode b_V_findNext 12 = .ok (.getfield 46, 3) := by decide +kernel
theorem d_V_findNext_15 : decode b_V_findNext 15 = .ok (.aload_n 0, 1) := by decide +kernel
theorem d_V_findNext_16 : decode b_V_findNext 16 = .ok (.getfield 50, 3) := by decide +kernel
theorem d_V_findNext_19 : decode b_V_findNext 19 = .ok (.iconst 1, 1) := by decide +kernel
theorem d_V_findNext_20 : decode b_V_findNext 20 = .ok (.isub, 1) := by decide +kernel
theorem d_V_findNext_21 : decode b_V_findNext 21 = .ok (.iaload, 1) := by decide +kernel
theorem d_V_findNext_22 : decode b_V_findNext 22 = .ok (.iconst 1, 1) := by decide +kernel
theorem d_V_findNext_23 : decode b_V_findNext 23 = .ok (.iadd, 1) := by decide +kernel
theorem d_V_findNext_24 : decode b_V_findNext 24 = .ok (.istore_n 1, 1) := by decide +kernel
theorem d_V_findNext_25 : decode b_V_findNext 25 = .ok (.iconst 0, 1) := by decide +kernel
theorem d_V_findNext_26 : decode b_V_findNext 26 = .ok (.istore_n 2, 1) := by decide +kernel
theorem d_V_findNext_27 : decode b_V_findNext 27 = .ok (.iload_n 2, 1) := by decide +kernel
theorem d_V_findNext_28 : decode b_V_findNext 28 = .ok (.aload_n 0, 1) := by decide +kernel
theorem d_V_findNext_29 : decode b_V_findNext 29 = .ok (.getfield 25, 3) := by decide +kernel
theorem d_V_findNext_32 : decode b_V_findNext 32 = .ok (.if_icmp .ge 28, 3) := by decide +kernel
theorem d_V_findNext_35 : decode b_V_findNext 35 = .ok (.iload_n 1, 1) := by decide +kernel
theorem d_V_findNext_36 : decode b_V_findNext 36 = .ok (.iload_n 2, 1) := by decide +kernel
theorem d_V_findNext_37 : decode b_V_findNext 37 = .ok (.iadd, 1) := by decide +kernel
theorem d_V_findNext_38 : decode b_V_findNext 38 = .ok (.aload_n 0, 1) := by decide +kernel
theorem d_V_findNext_39 : decode b_V_findNext 39 = .ok (.getfield 25, 3) := by decide +kernel
theorem d_V_findNext_42 : decode b_V_findNext 42 = .ok (.irem, 1) := by decide +kernel
theorem d_V_findNext_43 : decode b_V_findNext 43 = .ok (.istore_n 3, 1) := by decide +kernel
theorem d_V_findNext_44 : decode b_V_findNext 44 = .ok (.aload_n 0, 1) := by decide +kernel
theorem d_V_findNext_45 : decode b_V_findNext 45 = .ok (.iload_n 3, 1) := by decide +kernel
theorem d_V_findNext_46 : decode b_V_findNext 46 = .ok (.invokevirtual 129, 3) := by decide +kernel
theorem d_V_findNext_49 : decode b_V_findNext 49 = .ok (.ifCond .eq 5, 3) := by decide +kernel
theorem d_V_findNext_52 : decode b_V_findNext 52 = .ok (.iload_n 3, 1) := by decide +kernel
theorem d_V_findNext_53 : decode b_V_findNext 53 = .ok (.ireturn, 1) := by decide +kernel
theorem d_V_findNext_54 : decode b_V_findNext 54 = .ok (.iinc 2 1, 3) := by decide +kernel
theorem d_V_findNext_57 : decode b_V_findNext 57 = .ok (.goto (-30), 3) := by decide +kernel
theorem d_V_findNext_60 : decode b_V_findNext 60 = .ok (.iconst (-1), 1) := by decide +kernel
theorem d_V_findNext_61 : decode b_V_findNext 61 = .ok (.ireturn, 1) := by decide +kernel
theorem d_V_consume_0 : decode b_V_consume 0 = .ok (.aload_n 0, 1) := by decide +kernel
theorem d_V_consume_1 : decode b_V_consume 1 = .ok (.getfield 35, 3) := by decide +kernel
theorem d_V_consume_4 : decode b_V_consume 4 = .ok (.getfield 113, 3) := by decide +kernel
theorem d_V_consume_7 : decode b_V_consume 7 = .ok (.iload_n 1, 1) := by decide +kernel
theorem d_V_consume_8 : decode b_V_consume 8 = .ok (.iconst 2, 1) := by decide +kernel
theorem d_V_consume_9 : decode b_V_consume 9 = .ok (.iastore, 1) := by decide +kernel
theorem d_V_consume_10 : decode b_V_consume 10 = .ok (.aload_n 0, 1) := by decide +kernel
theorem d_V_consume_11 : decode b_V_consume 11 = .ok (.getfield 35, 3) := by decide +kernel
theorem d_V_consume_14 : decode b_V_consume 14 = .ok (.getfield 144, 3) := by decide +kernel
theorem d_V_consume_17 : decode b_V_consume 17 = .ok (.iload_n 1, 1) := by decide +kernel
theorem d_V_consume_18 : decode b_V_consume 18 = .ok (.aload_n 0, 1) := by decide +kernel
theorem d_V_consume_19 : decode b_V_consume 19 = .ok (.getfield 50, 3) := by decide +kernel
theorem d_V_consume_22 : decode b_V_consume 22 = .ok (.iastore, 1) := by decide +kernel
theorem d_V_consume_23 : decode b_V_consume 23 = .ok (.aload_n 0, 1) := by decide +kernel
theorem d_V_consume_24 : decode b_V_consume 24 = .ok (.getfield 11, 3) := by decide +kernel
theorem d_V_consume_27 : decode b_V_consume 27 = .ok (.aload_n 0, 1) := by decide +kernel
theorem d_V_consume_28 : decode b_V_consume 28 = .ok (.getfield 35, 3) := by decide +kernel
theorem d_V_consume_31 : decode b_V_consume 31 = .ok (.getfield 116, 3) := by decide +kernel
theorem d_V_consume_34 : decode b_V_consume 34 = .ok (.iload_n 1, 1) := by decide +kernel
theorem d_V_consume_35 : decode b_V_consume 35 = .ok (.iaload, 1) := by decide +kernel
theorem d_V_consume_36 : decode b_V_consume 36 = .ok (.aaload, 1) := by decide +kernel
theorem d_V_consume_37 : decode b_V_consume 37 = .ok (.iload_n 1, 1) := by decide +kernel
theorem d_V_consume_38 : decode b_V_consume 38 = .ok (.invokevirtual 119, 3) := by decide +kernel
theorem d_V_consume_41 : decode b_V_consume 41 = .ok (.return_, 1) := by decide +kernel
theorem d_V_greatest_0 : decode b_V_greatest 0 = .ok (.aload_n 0, 1) := by decide +kernel
theorem d_V_greatest_1 : decode b_V_greatest 1 = .ok (.iconst 0, 1) := by decide +kernel
theorem d_V_greatest_2 : decode b_V_greatest 2 = .ok (.iaload, 1) := by decide +kernel
theorem d_V_greatest_3 : decode b_V_greatest 3 = .ok (.istore_n 2, 1) := by decide +kernel
theorem d_V_greatest_4 : decode b_V_greatest 4 = .ok (.iconst 1, 1) := by decide +kernel
theorem d_V_greatest_5 : decode b_V_greatest 5 = .ok (.istore_n 3, 1) := by decide +kernel
theorem d_V_greatest_6 : decode b_V_greatest 6 = .ok (.iload_n 3, 1) := by decide +kernel
theorem d_V_greatest_7 : decode b_V_greatest 7 = .ok (.iload_n 1, 1) := by decide +kernel
theorem d_V_greatest_8 : decode b_V_greatest 8 = .ok (.if_icmp .ge 17, 3) := by decide +kernel
theorem d_V_greatest_11 : decode b_V_greatest 11 = .ok (.iload_n 2, 1) := by decide +kernel
theorem d_V_greatest_12 : decode b_V_greatest 12 = .ok (.aload_n 0, 1) := by decide +kernel
theorem d_V_greatest_13 : decode b_V_greatest 13 = .ok (.iload_n 3, 1) := by decide +kernel
theorem d_V_greatest_14 : decode b_V_greatest 14 = .ok (.iaload, 1) := by decide +kernel
theorem d_V_greatest_15 : decode b_V_greatest 15 = .ok (.invokestatic 212, 3) := by decide +kernel
theorem d_V_greatest_18 : decode b_V_greatest 18 = .ok (.istore_n 2, 1) := by decide +kernel
theorem d_V_greatest_19 : decode b_V_greatest 19 = .ok (.iinc 3 1, 3) := by decide +kernel
theorem d_V_greatest_22 : decode b_V_greatest 22 = .ok (.goto (-16), 3) := by decide +kernel
theorem d_V_greatest_25 : decode b_V_greatest 25 = .ok (.iload_n 2, 1) := by decide +kernel
theorem d_V_greatest_26 : decode b_V_greatest 26 = .ok (.ireturn, 1) := by decide +kernel
theorem d_Re_evaluate_0 : decode b_Re_evaluate 0 = .ok (.aload_n 0, 1) := by decide +kernel
theorem d_Re_evaluate_1 : decode b_Re_evaluate 1 = .ok (.getfield 47, 3) := by decide +kernel
theorem d_Re_evaluate_4 : decode b_Re_evaluate 4 = .ok (.iload_n 1, 1) := by decide +kernel
theorem d_Re_evaluate_5 : decode b_Re_evaluate 5 = .ok (.iaload, 1) := by decide +kernel
theorem d_Re_evaluate_6 : decode b_Re_evaluate 6 = .ok (.istore_n 3, 1) := by decide +kernel
theorem d_Re_evaluate_7 : decode b_Re_evaluate 7 = .ok (.aload_n 0, 1) := by decide +kernel
theorem d_Re_evaluate_8 : decode b_Re_evaluate 8 = .ok (.getfield 41, 3) := by decide +kernel
theorem d_Re_evaluate_11 : decode b_Re_evaluate 11 = .ok (.iload_n 1, 1) := by decide +kernel
theorem d_Re_evaluate_12 : decode b_Re_evaluate 12 = .ok (.iaload, 1) := by decide +kernel
theorem d_Re_evaluate_13 : decode b_Re_evaluate 13 = .ok (.tableswitch 74 1 4 #[31, 42, 53, 65], 31) := by decide +kernel
theorem d_Re_evaluate_44 : decode b_Re_evaluate 44 = .ok (.aload_n 2, 1) := by decide +kernel
theorem d_Re_evaluate_45 : decode b_Re_evaluate 45 = .ok (.aload_n 0, 1) := by decide +kernel
theorem d_Re_evaluate_46 : decode b_Re_evaluate 46 = .ok (.getfield 44, 3) := by decide +kernel
theorem d_Re_evaluate_49 : decode b_Re_evaluate 49 = .ok (.iload_n 1, 1) := by decide +kernel
theorem d_Re_evaluate_50 : decode b_Re_evaluate 50 = .ok (.iaload, 1) := by decide +kernel
theorem d_Re_evaluate_51 : decode b_Re_evaluate 51 = .ok (.iaload, 1) := by decide +kernel
theorem d_Re_evaluate_52 : decode b_Re_evaluate 52 = .ok (.iload_n 3, 1) := by decide +kernel
theorem d_Re_evaluate_53 : decode b_Re_evaluate 53 = .ok (.iadd, 1) := by decide +kernel
theorem d_Re_evaluate_54 : decode b_Re_evaluate 54 = .ok (.ireturn, 1) := by decide +kernel
theorem d_Re_evaluate_55 : decode b_Re_evaluate 55 = .ok (.aload_n 2, 1) := by decide +kernel
theorem d_Re_evaluate_56 : decode b_Re_evaluate 56 = .ok (.aload_n 0, 1) := by decide +kernel
theorem d_Re_evaluate_57 : decode b_Re_evaluate 57 = .ok (.getfield 44, 3) := by decide +kernel
theorem d_Re_evaluate_60 : decode b_Re_evaluate 60 = .ok (.iload_n 1, 1) := by decide +kernel
theorem d_Re_evaluate_61 : decode b_Re_evaluate 61 = .ok (.iaload, 1) := by decide +kernel
theorem d_Re_evaluate_62 : decode b_Re_evaluate 62 = .ok (.iaload, 1) := by decide +kernel
theorem d_Re_evaluate_63 : decode b_Re_evaluate 63 = .ok (.iload_n 3, 1) := by decide +kernel
theorem d_Re_evaluate_64 : decode b_Re_evaluate 64 = .ok (.imul, 1) := by decide +kernel
theorem d_Re_evaluate_65 : decode b_Re_evaluate 65 = .ok (.ireturn, 1) := by decide +kernel
theorem d_Re_evaluate_66 : decode b_Re_evaluate 66 = .ok (.aload_n 2, 1) := by decide +kernel
theorem d_Re_evaluate_67 : decode b_Re_evaluate 67 = .ok (.aload_n 0, 1) := by decide +kernel
theorem d_Re_evaluate_68 : decode b_Re_evaluate 68 = .ok (.getfield 9, 3) := by decide +kernel
theorem d_Re_evaluate_71 : decode b_Re_evaluate 71 = .ok (.invokestatic 68, 3) := by decide +kernel
theorem d_Re_evaluate_74 : decode b_Re_evaluate 74 = .ok (.l2i, 1) := by decide +kernel
theorem d_Re_evaluate_75 : decode b_Re_evaluate 75 = .ok (.iload_n 3, 1) := by decide +kernel
theorem d_Re_evaluate_76 : decode b_Re_evaluate 76 = .ok (.iadd, 1) := by decide +kernel
theorem d_Re_evaluate_77 : decode b_Re_evaluate 77 = .ok (.ireturn, 1) := by decide +kernel
theorem d_Re_evaluate_78 : decode b_Re_evaluate 78 = .ok (.aload_n 2, 1) := by decide +kernel
theorem d_Re_evaluate_79 : decode b_Re_evaluate 79 = .ok (.aload_n 0, 1) := by decide +kernel
theorem d_Re_evaluate_80 : decode b_Re_evaluate 80 = .ok (.getfield 9, 3) := by decide +kernel
theorem d_Re_evaluate_83 : decode b_Re_evaluate 83 = .ok (.invokestatic 72, 3) := by decide +kernel
theorem d_Re_evaluate_86 : decode b_Re_evaluate 86 = .ok (.ireturn, 1) := by decide +kernel
theorem d_Re_evaluate_87 : decode b_Re_evaluate 87 = .ok (.iload_n 3, 1) := by decide +kernel
theorem d_Re_evaluate_88 : decode b_Re_evaluate 88 = .ok (.ireturn, 1) := by decide +kernel
theorem d_V_fire_0 : decode b_V_fire 0 = .ok (.aload_n 0, 1) := by decide +kernel
theorem d_V_fire_1 : decode b_V_fire 1 = .ok (.getfield 21, 3) := by decide +kernel
theorem d_V_fire_4 : decode b_V_fire 4 = .ok (.iload_n 1, 1) := by decide +kernel
theorem d_V_fire_5 : decode b_V_fire 5 = .ok (.aaload, 1) := by decide +kernel
theorem d_V_fire_6 : decode b_V_fire 6 = .ok (.astore_n 2, 1) := by decide +kernel
theorem d_V_fire_7 : decode b_V_fire 7 = .ok (.iconst 0, 1) := by decide +kernel
theorem d_V_fire_8 : decode b_V_fire 8 = .ok (.istore_n 3, 1) := by decide +kernel
theorem d_V_fire_9 : decode b_V_fire 9 = .ok (.iload_n 3, 1) := by decide +kernel
theorem d_V_fire_10 : decode b_V_fire 10 = .ok (.aload_n 2, 1) := by decide +kernel
theorem d_V_fire_11 : decode b_V_fire 11 = .ok (.getfield 69, 3) := by decide +kernel
theorem d_V_fire_14 : decode b_V_fire 14 = .ok (.if_icmp .ge 22, 3) := by decide +kernel
theorem d_V_fire_17 : decode b_V_fire 17 = .ok (.aload_n 0, 1) := by decide +kernel
theorem d_V_fire_18 : decode b_V_fire 18 = .ok (.aload_n 0, 1) := by decide +kernel
theorem d_V_fire_19 : decode b_V_fire 19 = .ok (.getfield 42, 3) := by decide +kernel
theorem d_V_fire_22 : decode b_V_fire 22 = .ok (.getfield 132, 3) := by decide +kernel
theorem d_V_fire_25 : decode b_V_fire 25 = .ok (.iload_n 3, 1) := by decide +kernel
theorem d_V_fire_26 : decode b_V_fire 26 = .ok (.iaload, 1) := by decide +kernel
theorem d_V_fire_27 : decode b_V_fire 27 = .ok (.invokevirtual 195, 3) := by decide +kernel
theorem d_V_fire_30 : decode b_V_fire 30 = .ok (.iinc 3 1, 3) := by decide +kernel
theorem d_V_fire_33 : decode b_V_fire 33 = .ok (.goto (-24), 3) := by decide +kernel
theorem d_V_fire_36 : decode b_V_fire 36 = .ok (.iconst 0, 1) := by decide +kernel
theorem d_V_fire_37 : decode b_V_fire 37 = .ok (.istore_n 3, 1) := by decide +kernel
theorem d_V_fire_38 : decode b_V_fire 38 = .ok (.iload_n 3, 1) := by decide +kernel
theorem d_V_fire_39 : decode b_V_fire 39 = .ok (.aload_n 2, 1) := by decide +kernel
theorem d_V_fire_40 : decode b_V_fire 40 = .ok (.getfield 198, 3) := by decide +kernel
theorem d_V_fire_43 : decode b_V_fire 43 = .ok (.if_icmp .ge 72, 3) := by decide +kernel
theorem d_V_fire_46 : decode b_V_fire 46 = .ok (.aload_n 2, 1) := by decide +kernel
theorem d_V_fire_47 : decode b_V_fire 47 = .ok (.iload_n 3, 1) := by decide +kernel
theorem d_V_fire_48 : decode b_V_fire 48 = .ok (.aload_n 0, 1) := by decide +kernel
theorem d_V_fire_49 : decode b_V_fire 49 = .ok (.getfield 42, 3) := by decide +kernel
theorem d_V_fire_52 : decode b_V_fire 52 = .ok (.getfield 184, 3) := by decide +kernel
theorem d_V_fire_55 : decode b_V_fire 55 = .ok (.invokevirtual 201, 3) := by decide +kernel
theorem d_V_fire_58 : decode b_V_fire 58 = .ok (.istore 4, 2) := by decide +kernel
theorem d_V_fire_60 : decode b_V_fire 60 = .ok (.aload_n 2, 1) := by decide +kernel
theorem d_V_fire_61 : decode b_V_fire 61 = .ok (.getfield 205, 3) := by decide +kernel
theorem d_V_fire_64 : decode b_V_fire 64 = .ok (.iload_n 3, 1) := by decide +kernel
theorem d_V_fire_65 : decode b_V_fire 65 = .ok (.baload, 1) := by decide +kernel
theorem d_V_fire_66 : decode b_V_fire 66 = .ok (.ifCond .eq 19, 3) := by decide +kernel
theorem d_V_fire_69 : decode b_V_fire 69 = .ok (.aload_n 0, 1) := by decide +kernel
theorem d_V_fire_70 : decode b_V_fire 70 = .ok (.aload_n 2, 1) := by decide +kernel
theorem d_V_fire_71 : decode b_V_fire 71 = .ok (.getfield 209, 3) := by decide +kernel
theorem d_V_fire_74 : decode b_V_fire 74 = .ok (.iload_n 3, 1) := by decide +kernel
theorem d_V_fire_75 : decode b_V_fire 75 = .ok (.iaload, 1) := by decide +kernel
theorem d_V_fire_76 : decode b_V_fire 76 = .ok (.iload 4, 2) := by decide +kernel
theorem d_V_fire_78 : decode b_V_fire 78 = .ok (.invokevirtual 157, 3) := by decide +kernel
theorem d_V_fire_81 : decode b_V_fire 81 = .ok (.pop, 1) := by decide +kernel
theorem d_V_fire_82 : decode b_V_fire 82 = .ok (.goto 27, 3) := by decide +kernel
theorem d_V_fire_85 : decode b_V_fire 85 = .ok (.aload_n 0, 1) := by decide +kernel
theorem d_V_fire_86 : decode b_V_fire 86 = .ok (.getfield 35, 3) := by decide +kernel
theorem d_V_fire_89 : decode b_V_fire 89 = .ok (.getfield 147, 3) := by decide +kernel
theorem d_V_fire_92 : decode b_V_fire 92 = .ok (.aload_n 0, 1) := by decide +kernel
theorem d_V_fire_93 : decode b_V_fire 93 = .ok (.getfield 42, 3) := by decide +kernel
theorem d_V_fire_96 : decode b_V_fire 96 = .ok (.getfield 132, 3) := by decide +kernel
theorem d_V_fire_99 : decode b_V_fire 99 = .ok (.aload_n 2, 1) := by decide +kernel
theorem d_V_fire_100 : decode b_V_fire 100 = .ok (.getfield 209, 3) := by decide +kernel
theorem d_V_fire_103 : decode b_V_fire 103 = .ok (.iload_n 3, 1) := by decide +kernel
theorem d_V_fire_104 : decode b_V_fire 104 = .ok (.iaload, 1) := by decide +kernel
theorem d_V_fire_105 : decode b_V_fire 105 = .ok (.iaload, 1) := by decide +kernel
theorem d_V_fire_106 : decode b_V_fire 106 = .ok (.iload 4, 2) := by decide +kernel
theorem d_V_fire_108 : decode b_V_fire 108 = .ok (.iastore, 1) := by decide +kernel
theorem d_V_fire_109 : decode b_V_fire 109 = .ok (.iinc 3 1, 3) := by decide +kernel
theorem d_V_fire_112 : decode b_V_fire 112 = .ok (.goto (-74), 3) := by decide +kernel
theorem d_V_fire_115 : decode b_V_fire 115 = .ok (.aload_n 0, 1) := by decide +kernel
theorem d_V_fire_116 : decode b_V_fire 116 = .ok (.getfield 46, 3) := by decide +kernel
theorem d_V_fire_119 : decode b_V_fire 119 = .ok (.aload_n 0, 1) := by decide +kernel
theorem d_V_fire_120 : decode b_V_fire 120 = .ok (.getfield 50, 3) := by decide +kernel
theorem d_V_fire_123 : decode b_V_fire 123 = .ok (.iload_n 1, 1) := by decide +kernel
theorem d_V_fire_124 : decode b_V_fire 124 = .ok (.iastore, 1) := by decide +kernel
theorem d_V_fire_125 : decode b_V_fire 125 = .ok (.aload_n 0, 1) := by decide +kernel
theorem d_V_fire_126 : decode b_V_fire 126 = .ok (.dup, 1) := by decide +kernel
theorem d_V_fire_127 : decode b_V_fire 127 = .ok (.getfield 50, 3) := by decide +kernel
theorem d_V_fire_130 : decode b_V_fire 130 = .ok (.iconst 1, 1) := by decide +kernel
theorem d_V_fire_131 : decode b_V_fire 131 = .ok (.iadd, 1) := by decide +kernel
theorem d_V_fire_132 : decode b_V_fire 132 = .ok (.putfield 50, 3) := by decide +kernel
theorem d_V_fire_135 : decode b_V_fire 135 = .ok (.return_, 1) := by decide +kernel
theorem d_V_react_0 : decode b_V_react 0 = .ok (.aload_n 0, 1) := by decide +kernel
theorem d_V_react_1 : decode b_V_react 1 = .ok (.getfield 28, 3) := by decide +kernel
theorem d_V_react_4 : decode b_V_react 4 = .ok (.ifCond .eq 11, 3) := by decide +kernel
theorem d_V_react_7 : decode b_V_react 7 = .ok (.iload_n 1, 1) := by decide +kernel
theorem d_V_react_8 : decode b_V_react 8 = .ok (.iconst 5, 1) := by decide +kernel
theorem d_V_react_9 : decode b_V_react 9 = .ok (.invokestatic 65, 3) := by decide +kernel
theorem d_V_react_12 : decode b_V_react 12 = .ok (.ifCond .ne 5, 3) := by decide +kernel
theorem d_V_react_15 : decode b_V_react 15 = .ok (.iconst (-1), 1) := by decide +kernel
theorem d_V_react_16 : decode b_V_react 16 = .ok (.ireturn, 1) := by decide +kernel
theorem d_V_react_17 : decode b_V_react 17 = .ok (.iconst 0, 1) := by decide +kernel
theorem d_V_react_18 : decode b_V_react 18 = .ok (.istore_n 2, 1) := by decide +kernel
theorem d_V_react_19 : decode b_V_react 19 = .ok (.iload_n 2, 1) := by decide +kernel
theorem d_V_react_20 : decode b_V_react 20 = .ok (.iload_n 1, 1) := by decide +kernel
theorem d_V_react_21 : decode b_V_react 21 = .ok (.if_icmp .ge 26, 3) := by decide +kernel
theorem d_V_react_24 : decode b_V_react 24 = .ok (.aload_n 0, 1) := by decide +kernel
theorem d_V_react_25 : decode b_V_react 25 = .ok (.invokevirtual 123, 3) := by decide +kernel
theorem d_V_react_28 : decode b_V_react 28 = .ok (.istore_n 3, 1) := by decide +kernel
theorem d_V_react_29 : decode b_V_react 29 = .ok (.iload_n 3, 1) := by decide +kernel
theorem d_V_react_30 : decode b_V_react 30 = .ok (.iconst (-1), 1) := by decide +kernel
theorem d_V_react_31 : decode b_V_react 31 = .ok (.if_icmp .ne 5, 3) := by decide +kernel
theorem d_V_react_34 : decode b_V_react 34 = .ok (.iload_n 2, 1) := by decide +kernel
theorem d_V_react_35 : decode b_V_react 35 = .ok (.ireturn, 1) := by decide +kernel
theorem d_V_react_36 : decode b_V_react 36 = .ok (.aload_n 0, 1) := by decide +kernel
theorem d_V_react_37 : decode b_V_react 37 = .ok (.iload_n 3, 1) := by decide +kernel
theorem d_V_react_38 : decode b_V_react 38 = .ok (.invokevirtual 126, 3) := by decide +kernel
theorem d_V_react_41 : decode b_V_react 41 = .ok (.iinc 2 1, 3) := by decide +kernel
theorem d_V_react_44 : decode b_V_react 44 = .ok (.goto (-25), 3) := by decide +kernel
theorem d_V_react_47 : decode b_V_react 47 = .ok (.iload_n 1, 1) := by decide +kernel
theorem d_V_react_48 : decode b_V_react 48 = .ok (.ireturn, 1) := by decide +kernel
theorem d_V_enabled_0 : decode b_V_enabled 0 = .ok (.iconst 0, 1) := by decide +kernel
theorem d_V_enabled_1 : decode b_V_enabled 1 = .ok (.istore_n 1, 1) := by decide +kernel
theorem d_V_enabled_2 : decode b_V_enabled 2 = .ok (.iconst 0, 1) := by decide +kernel
theorem d_V_enabled_3 : decode b_V_enabled 3 = .ok (.istore_n 2, 1) := by decide +kernel
theorem d_V_enabled_4 : decode b_V_enabled 4 = .ok (.iload_n 2, 1) := by decide +kernel
theorem d_V_enabled_5 : decode b_V_enabled 5 = .ok (.aload_n 0, 1) := by decide +kernel
theorem d_V_enabled_6 : decode b_V_enabled 6 = .ok (.getfield 25, 3) := by decide +kernel
theorem d_V_enabled_9 : decode b_V_enabled 9 = .ok (.if_icmp .ge 23, 3) := by decide +kernel
theorem d_V_enabled_12 : decode b_V_enabled 12 = .ok (.aload_n 0, 1) := by decide +kernel
theorem d_V_enabled_13 : decode b_V_enabled 13 = .ok (.iload_n 2, 1) := by decide +kernel
theorem d_V_enabled_14 : decode b_V_enabled 14 = .ok (.invokevirtual 129, 3) := by decide +kernel
theorem d_V_enabled_17 : decode b_V_enabled 17 = .ok (.ifCond .eq 9, 3) := by decide +kernel
theorem d_V_enabled_20 : decode b_V_enabled 20 = .ok (.iload_n 1, 1) := by decide +kernel
theorem d_V_enabled_21 : decode b_V_enabled 21 = .ok (.iconst 1, 1) := by decide +kernel
theorem d_V_enabled_22 : decode b_V_enabled 22 = .ok (.iload_n 2, 1) := by decide +kernel
theorem d_V_enabled_23 : decode b_V_enabled 23 = .ok (.ishl, 1) := by decide +kernel
theorem d_V_enabled_24 : decode b_V_enabled 24 = .ok (.ior, 1) := by decide +kernel
theorem d_V_enabled_25 : decode b_V_enabled 25 = .ok (.istore_n 1, 1) := by decide +kernel
theorem d_V_enabled_26 : decode b_V_enabled 26 = .ok (.iinc 2 1, 3) := by decide +kernel
theorem d_V_enabled_29 : decode b_V_enabled 29 = .ok (.goto (-25), 3) := by decide +kernel
theorem d_V_enabled_32 : decode b_V_enabled 32 = .ok (.iload_n 1, 1) := by decide +kernel
theorem d_V_enabled_33 : decode b_V_enabled 33 = .ok (.ireturn, 1) := by decide +kernel
theorem d_V_next_0 : decode b_V_next 0 = .ok (.aload_n 0, 1) := by decide +kernel
theorem d_V_next_1 : decode b_V_next 1 = .ok (.invokevirtual 123, 3) := by decide +kernel
theorem d_V_next_4 : decode b_V_next 4 = .ok (.ireturn, 1) := by decide +kernel
theorem d_V_taken_0 : decode b_V_taken 0 = .ok (.aload_n 0, 1) := by decide +kernel
theorem d_V_taken_1 : decode b_V_taken 1 = .ok (.invokevirtual 123, 3) := by decide +kernel
theorem d_V_taken_4 : decode b_V_taken 4 = .ok (.istore_n 2, 1) := by decide +kernel
theorem d_V_taken_5 : decode b_V_taken 5 = .ok (.iload_n 2, 1) := by decide +kernel
theorem d_V_taken_6 : decode b_V_taken 6 = .ok (.iconst (-1), 1) := by decide +kernel
theorem d_V_taken_7 : decode b_V_taken 7 = .ok (.if_icmp .eq 16, 3) := by decide +kernel
theorem d_V_taken_10 : decode b_V_taken 10 = .ok (.aload_n 0, 1) := by decide +kernel
theorem d_V_taken_11 : decode b_V_taken 11 = .ok (.getfield 21, 3) := by decide +kernel
theorem d_V_taken_14 : decode b_V_taken 14 = .ok (.iload_n 2, 1) := by decide +kernel
theorem d_V_taken_15 : decode b_V_taken 15 = .ok (.aaload, 1) := by decide +kernel
theorem d_V_taken_16 : decode b_V_taken 16 = .ok (.iload_n 1, 1) := by decide +kernel
theorem d_V_taken_17 : decode b_V_taken 17 = .ok (.invokevirtual 93, 3) := by decide +kernel
theorem d_V_taken_20 : decode b_V_taken 20 = .ok (.ifCond .ne 5, 3) := by decide +kernel
theorem d_V_taken_23 : decode b_V_taken 23 = .ok (.iconst (-1), 1) := by decide +kernel
theorem d_V_taken_24 : decode b_V_taken 24 = .ok (.ireturn, 1) := by decide +kernel
theorem d_V_taken_25 : decode b_V_taken 25 = .ok (.aload_n 0, 1) := by decide +kernel
theorem d_V_taken_26 : decode b_V_taken 26 = .ok (.getfield 42, 3) := by decide +kernel
theorem d_V_taken_29 : decode b_V_taken 29 = .ok (.getfield 132, 3) := by decide +kernel
theorem d_V_taken_32 : decode b_V_taken 32 = .ok (.iload_n 1, 1) := by decide +kernel
theorem d_V_taken_33 : decode b_V_taken 33 = .ok (.iaload, 1) := by decide +kernel
theorem d_V_taken_34 : decode b_V_taken 34 = .ok (.ireturn, 1) := by decide +kernel
theorem d_V_pendingAt_0 : decode b_V_pendingAt 0 = .ok (.aload_n 0, 1) := by decide +kernel
theorem d_V_pendingAt_1 : decode b_V_pendingAt 1 = .ok (.iload_n 1, 1) := by decide +kernel
theorem d_V_pendingAt_2 : decode b_V_pendingAt 2 = .ok (.invokevirtual 62, 3) := by decide +kernel
theorem d_V_pendingAt_5 : decode b_V_pendingAt 5 = .ok (.ifCond .eq 20, 3) := by decide +kernel
theorem d_V_pendingAt_8 : decode b_V_pendingAt 8 = .ok (.iload_n 2, 1) := by decide +kernel
theorem d_V_pendingAt_9 : decode b_V_pendingAt 9 = .ok (.ifCond .lt 16, 3) := by decide +kernel
theorem d_V_pendingAt_12 : decode b_V_pendingAt 12 = .ok (.iload_n 2, 1) := by decide +kernel
theorem d_V_pendingAt_13 : decode b_V_pendingAt 13 = .ok (.aload_n 0, 1) := by decide +kernel
theorem d_V_pendingAt_14 : decode b_V_pendingAt 14 = .ok (.getfield 11, 3) := by decide +kernel
theorem d_V_pendingAt_17 : decode b_V_pendingAt 17 = .ok (.iload_n 1, 1) := by decide +kernel
theorem d_V_pendingAt_18 : decode b_V_pendingAt 18 = .ok (.aaload, 1) := by decide +kernel
theorem d_V_pendingAt_19 : decode b_V_pendingAt 19 = .ok (.getfield 135, 3) := by decide +kernel
theorem d_V_pendingAt_22 : decode b_V_pendingAt 22 = .ok (.if_icmp .lt 5, 3) := by decide +kernel
theorem d_V_pendingAt_25 : decode b_V_pendingAt 25 = .ok (.iconst (-1), 1) := by decide +kernel
theorem d_V_pendingAt_26 : decode b_V_pendingAt 26 = .ok (.ireturn, 1) := by decide +kernel
theorem d_V_pendingAt_27 : decode b_V_pendingAt 27 = .ok (.aload_n 0, 1) := by decide +kernel
theorem d_V_pendingAt_28 : decode b_V_pendingAt 28 = .ok (.getfield 11, 3) := by decide +kernel
theorem d_V_pendingAt_31 : decode b_V_pendingAt 31 = .ok (.iload_n 1, 1) := by decide +kernel
theorem d_V_pendingAt_32 : decode b_V_pendingAt 32 = .ok (.aaload, 1) := by decide +kernel
theorem d_V_pendingAt_33 : decode b_V_pendingAt 33 = .ok (.getfield 138, 3) := by decide +kernel
theorem d_V_pendingAt_36 : decode b_V_pendingAt 36 = .ok (.iload_n 2, 1) := by decide +kernel
theorem d_V_pendingAt_37 : decode b_V_pendingAt 37 = .ok (.iaload, 1) := by decide +kernel
theorem d_V_pendingAt_38 : decode b_V_pendingAt 38 = .ok (.ireturn, 1) := by decide +kernel
theorem d_V_value_0 : decode b_V_value 0 = .ok (.aload_n 0, 1) := by decide +kernel
theorem d_V_value_1 : decode b_V_value 1 = .ok (.getfield 35, 3) := by decide +kernel
theorem d_V_value_4 : decode b_V_value 4 = .ok (.iload_n 1, 1) := by decide +kernel
theorem d_V_value_5 : decode b_V_value 5 = .ok (.invokevirtual 110, 3) := by decide +kernel
theorem d_V_value_8 : decode b_V_value 8 = .ok (.ifCond .eq 15, 3) := by decide +kernel
theorem d_V_value_11 : decode b_V_value 11 = .ok (.aload_n 0, 1) := by decide +kernel
theorem d_V_value_12 : decode b_V_value 12 = .ok (.getfield 35, 3) := by decide +kernel
theorem d_V_value_15 : decode b_V_value 15 = .ok (.getfield 141, 3) := by decide +kernel
theorem d_V_value_18 : decode b_V_value 18 = .ok (.iload_n 1, 1) := by decide +kernel
theorem d_V_value_19 : decode b_V_value 19 = .ok (.iaload, 1) := by decide +kernel
theorem d_V_value_20 : decode b_V_value 20 = .ok (.goto 4, 3) := by decide +kernel
theorem d_V_value_23 : decode b_V_value 23 = .ok (.iconst 0, 1) := by decide +kernel
theorem d_V_value_24 : decode b_V_value 24 = .ok (.ireturn, 1) := by decide +kernel
theorem d_V_state_0 : decode b_V_state 0 = .ok (.aload_n 0, 1) := by decide +kernel
theorem d_V_state_1 : decode b_V_state 1 = .ok (.getfield 35, 3) := by decide +kernel
theorem d_V_state_4 : decode b_V_state 4 = .ok (.iload_n 1, 1) := by decide +kernel
theorem d_V_state_5 : decode b_V_state 5 = .ok (.invokevirtual 110, 3) := by decide +kernel
theorem d_V_state_8 : decode b_V_state 8 = .ok (.ifCond .eq 15, 3) := by decide +kernel
theorem d_V_state_11 : decode b_V_state 11 = .ok (.aload_n 0, 1) := by decide +kernel
theorem d_V_state_12 : decode b_V_state 12 = .ok (.getfield 35, 3) := by decide +kernel
theorem d_V_state_15 : decode b_V_state 15 = .ok (.getfield 113, 3) := by decide +kernel
theorem d_V_state_18 : decode b_V_state 18 = .ok (.iload_n 1, 1) := by decide +kernel
theorem d_V_state_19 : decode b_V_state 19 = .ok (.iaload, 1) := by decide +kernel
theorem d_V_state_20 : decode b_V_state 20 = .ok (.goto 4, 3) := by decide +kernel
theorem d_V_state_23 : decode b_V_state 23 = .ok (.iconst 0, 1) := by decide +kernel
theorem d_V_state_24 : decode b_V_state 24 = .ok (.ireturn, 1) := by decide +kernel
theorem d_V_consumer_0 : decode b_V_consumer 0 = .ok (.aload_n 0, 1) := by decide +kernel
theorem d_V_consumer_1 : decode b_V_consumer 1 = .ok (.getfield 35, 3) := by decide +kernel
theorem d_V_consumer_4 : decode b_V_consumer 4 = .ok (.iload_n 1, 1) := by decide +kernel
theorem d_V_consumer_5 : decode b_V_consumer 5 = .ok (.invokevirtual 110, 3) := by decide +kernel
theorem d_V_consumer_8 : decode b_V_consumer 8 = .ok (.ifCond .eq 15, 3) := by decide +kernel
theorem d_V_consumer_11 : decode b_V_consumer 11 = .ok (.aload_n 0, 1) := by decide +kernel
theorem d_V_consumer_12 : decode b_V_consumer 12 = .ok (.getfield 35, 3) := by decide +kernel
theorem d_V_consumer_15 : decode b_V_consumer 15 = .ok (.getfield 144, 3) := by decide +kernel
theorem d_V_consumer_18 : decode b_V_consumer 18 = .ok (.iload_n 1, 1) := by decide +kernel
theorem d_V_consumer_19 : decode b_V_consumer 19 = .ok (.iaload, 1) := by decide +kernel
theorem d_V_consumer_20 : decode b_V_consumer 20 = .ok (.goto 4, 3) := by decide +kernel
theorem d_V_consumer_23 : decode b_V_consumer 23 = .ok (.iconst (-1), 1) := by decide +kernel
theorem d_V_consumer_24 : decode b_V_consumer 24 = .ok (.ireturn, 1) := by decide +kernel
theorem d_V_answer_0 : decode b_V_answer 0 = .ok (.aload_n 0, 1) := by decide +kernel
theorem d_V_answer_1 : decode b_V_answer 1 = .ok (.getfield 35, 3) := by decide +kernel
theorem d_V_answer_4 : decode b_V_answer 4 = .ok (.iload_n 1, 1) := by decide +kernel
theorem d_V_answer_5 : decode b_V_answer 5 = .ok (.invokevirtual 110, 3) := by decide +kernel
theorem d_V_answer_8 : decode b_V_answer 8 = .ok (.ifCond .eq 15, 3) := by decide +kernel
theorem d_V_answer_11 : decode b_V_answer 11 = .ok (.aload_n 0, 1) := by decide +kernel
theorem d_V_answer_12 : decode b_V_answer 12 = .ok (.getfield 35, 3) := by decide +kernel
theorem d_V_answer_15 : decode b_V_answer 15 = .ok (.getfield 147, 3) := by decide +kernel
theorem d_V_answer_18 : decode b_V_answer 18 = .ok (.iload_n 1, 1) := by decide +kernel
theorem d_V_answer_19 : decode b_V_answer 19 = .ok (.iaload, 1) := by decide +kernel
theorem d_V_answer_20 : decode b_V_answer 20 = .ok (.goto 4, 3) := by decide +kernel
theorem d_V_answer_23 : decode b_V_answer 23 = .ok (.iconst 0, 1) := by decide +kernel
theorem d_V_answer_24 : decode b_V_answer 24 = .ok (.ireturn, 1) := by decide +kernel
theorem d_V_fired_0 : decode b_V_fired 0 = .ok (.iload_n 1, 1) := by decide +kernel
theorem d_V_fired_1 : decode b_V_fired 1 = .ok (.ifCond .lt 20, 3) := by decide +kernel
theorem d_V_fired_4 : decode b_V_fired 4 = .ok (.iload_n 1, 1) := by decide +kernel
theorem d_V_fired_5 : decode b_V_fired 5 = .ok (.aload_n 0, 1) := by decide +kernel
theorem d_V_fired_6 : decode b_V_fired 6 = .ok (.getfield 50, 3) := by decide +kernel
theorem d_V_fired_9 : decode b_V_fired 9 = .ok (.if_icmp .ge 12, 3) := by decide +kernel
theorem d_V_fired_12 : decode b_V_fired 12 = .ok (.aload_n 0, 1) := by decide +kernel
theorem d_V_fired_13 : decode b_V_fired 13 = .ok (.getfield 46, 3) := by decide +kernel
theorem d_V_fired_16 : decode b_V_fired 16 = .ok (.iload_n 1, 1) := by decide +kernel
theorem d_V_fired_17 : decode b_V_fired 17 = .ok (.iaload, 1) := by decide +kernel
theorem d_V_fired_18 : decode b_V_fired 18 = .ok (.goto 4, 3) := by decide +kernel
theorem d_V_fired_21 : decode b_V_fired 21 = .ok (.iconst (-1), 1) := by decide +kernel
theorem d_V_fired_22 : decode b_V_fired 22 = .ok (.ireturn, 1) := by decide +kernel

theorem dX10_doing_70 : decode cX10_doing 70 = .ok (.iload_n 1, 1) := by decide +kernel
theorem dX10_doing_71 : decode cX10_doing 71 = .ok (.invokevirtual 145, 3) := by decide +kernel
theorem dX10_doing_74 : decode cX10_doing 74 = .ok (.aload_n 0, 1) := by decide +kernel
theorem dX10_doing_75 : decode cX10_doing 75 = .ok (.iload 4, 2) := by decide +kernel
theorem dX10_doing_77 : decode cX10_doing 77 = .ok (.iconst 1, 1) := by decide +kernel
theorem dX10_doing_78 : decode cX10_doing 78 = .ok (.iload_n 2, 1) := by decide +kernel
theorem dX10_doing_79 : decode cX10_doing 79 = .ok (.invokevirtual 145, 3) := by decide +kernel
theorem dX10_doing_82 : decode cX10_doing 82 = .ok (.aload_n 0, 1) := by decide +kernel
theorem dX10_doing_83 : decode cX10_doing 83 = .ok (.iload 4, 2) := by decide +kernel
theorem dX10_doing_85 : decode cX10_doing 85 = .ok (.iconst 2, 1) := by decide +kernel
theorem dX10_doing_86 : decode cX10_doing 86 = .ok (.iload_n 3, 1) := by decide +kernel
theorem dX10_doing_87 : decode cX10_doing 87 = .ok (.invokevirtual 145, 3) := by decide +kernel
theorem dX10_doing_90 : decode cX10_doing 90 = .ok (.aload_n 0, 1) := by decide +kernel
theorem dX10_doing_91 : decode cX10_doing 91 = .ok (.getfield 7, 3) := by decide +kernel
theorem dX10_doing_94 : decode cX10_doing 94 = .ok (.iconst 5, 1) := by decide +kernel
theorem dX10_doing_95 : decode cX10_doing 95 = .ok (.dup2, 1) := by decide +kernel
theorem dX10_doing_96 : decode cX10_doing 96 = .ok (.iaload, 1) := by decide +kernel
theorem dX10_doing_97 : decode cX10_doing 97 = .ok (.iconst 1, 1) := by decide +kernel
theorem dX10_doing_98 : decode cX10_doing 98 = .ok (.iadd, 1) := by decide +kernel
theorem dX10_doing_99 : decode cX10_doing 99 = .ok (.iastore, 1) := by decide +kernel
theorem dX10_doing_100 : decode cX10_doing 100 = .ok (.iload 4, 2) := by decide +kernel
theorem dX10_doing_102 : decode cX10_doing 102 = .ok (.ireturn, 1) := by decide +kernel
theorem dX10_doingIs_0 : decode cX10_doingIs 0 = .ok (.aload_n 0, 1) := by decide +kernel
theorem dX10_doingIs_1 : decode cX10_doingIs 1 = .ok (.iload_n 1, 1) := by decide +kernel
theorem dX10_doingIs_2 : decode cX10_doingIs 2 = .ok (.invokevirtual 178, 3) := by decide +kernel
theorem dX10_doingIs_5 : decode cX10_doingIs 5 = .ok (.ifCond .eq 12, 3) := by decide +kernel
theorem dX10_doingIs_8 : decode cX10_doingIs 8 = .ok (.iload_n 2, 1) := by decide +kernel
theorem dX10_doingIs_9 : decode cX10_doingIs 9 = .ok (.iconst 0, 1) := by decide +kernel
theorem dX10_doingIs_10 : decode cX10_doingIs 10 = .ok (.iconst 3, 1) := by decide +kernel
theorem dX10_doingIs_11 : decode cX10_doingIs 11 = .ok (.invokestatic 47, 3) := by decide +kernel
theorem dX10_doingIs_14 : decode cX10_doingIs 14 = .ok (.ifCond .ne 9, 3) := by decide +kernel
theorem dX10_doingIs_17 : decode cX10_doingIs 17 = .ok (.aload_n 0, 1) := by decide +kernel
theorem dX10_doingIs_18 : decode cX10_doingIs 18 = .ok (.iconst 1, 1) := by decide +kernel
theorem dX10_doingIs_19 : decode cX10_doingIs 19 = .ok (.invokevirtual 51, 3) := by decide +kernel
theorem dX10_doingIs_22 : decode cX10_doingIs 22 = .ok (.ireturn, 1) := by decide +kernel
theorem dX10_doingIs_23 : decode cX10_doingIs 23 = .ok (.iload_n 2, 1) := by decide +kernel
theorem dX10_doingIs_24 : decode cX10_doingIs 24 = .ok (.iconst 3, 1) := by decide +kernel
theorem dX10_doingIs_25 : decode cX10_doingIs 25 = .ok (.if_icmp .ge 12, 3) := by decide +kernel
theorem dX10_doingIs_28 : decode cX10_doingIs 28 = .ok (.aload_n 0, 1) := by decide +kernel
theorem dX10_doingIs_29 : decode cX10_doingIs 29 = .ok (.iload_n 1, 1) := by decide +kernel
theorem dX10_doingIs_30 : decode cX10_doingIs 30 = .ok (.iload_n 2, 1) := by decide +kernel
theorem dX10_doingIs_31 : decode cX10_doingIs 31 = .ok (.invokevirtual 130, 3) := by decide +kernel
theorem dX10_doingIs_34 : decode cX10_doingIs 34 = .ok (.goto 12, 3) := by decide +kernel
theorem dX10_doingIs_37 : decode cX10_doingIs 37 = .ok (.aload_n 0, 1) := by decide +kernel
theorem dX10_doingIs_38 : decode cX10_doingIs 38 = .ok (.iload_n 1, 1) := by decide +kernel
theorem dX10_doingIs_39 : decode cX10_doingIs 39 = .ok (.aload_n 0, 1) := by decide +kernel
theorem dX10_doingIs_40 : decode cX10_doingIs 40 = .ok (.invokevirtual 149, 3) := by decide +kernel
theorem dX10_doingIs_43 : decode cX10_doingIs 43 = .ok (.invokevirtual 142, 3) := by decide +kernel
theorem dX10_doingIs_46 : decode cX10_doingIs 46 = .ok (.ireturn, 1) := by decide +kernel
theorem dX10_sets_0 : decode cX10_sets 0 = .ok (.aload_n 0, 1) := by decide +kernel
theorem dX10_sets_1 : decode cX10_sets 1 = .ok (.iload_n 1, 1) := by decide +kernel
theorem dX10_sets_2 : decode cX10_sets 2 = .ok (.invokevirtual 178, 3) := by decide +kernel
theorem dX10_sets_5 : decode cX10_sets 5 = .ok (.ifCond .eq 29, 3) := by decide +kernel
theorem dX10_sets_8 : decode cX10_sets 8 = .ok (.iload_n 2, 1) := by decide +kernel
theorem dX10_sets_9 : decode cX10_sets 9 = .ok (.iconst 0, 1) := by decide +kernel
theorem dX10_sets_10 : decode cX10_sets 10 = .ok (.bipush 99, 2) := by decide +kernel
theorem dX10_sets_12 : decode cX10_sets 12 = .ok (.invokestatic 47, 3) := by decide +kernel
theorem dX10_sets_15 : decode cX10_sets 15 = .ok (.ifCond .eq 19, 3) := by decide +kernel
theorem dX10_sets_18 : decode cX10_sets 18 = .ok (.aload_n 0, 1) := by decide +kernel
theorem dX10_sets_19 : decode cX10_sets 19 = .ok (.bipush 32, 2) := by decide +kernel
theorem dX10_sets_21 : decode cX10_sets 21 = .ok (.iconst 3, 1) := by decide +kernel
theorem dX10_sets_22 : decode cX10_sets 22 = .ok (.iload_n 1, 1) := by decide +kernel
theorem dX10_sets_23 : decode cX10_sets 23 = .ok (.imul, 1) := by decide +kernel
theorem dX10_sets_24 : decode cX10_sets 24 = .ok (.iadd, 1) := by decide +kernel
theorem dX10_sets_25 : decode cX10_sets 25 = .ok (.iconst 1, 1) := by decide +kernel
theorem dX10_sets_26 : decode cX10_sets 26 = .ok (.iadd, 1) := by decide +kernel
theorem dX10_sets_27 : decode cX10_sets 27 = .ok (.iload_n 2, 1) := by decide +kernel
theorem dX10_sets_28 : decode cX10_sets 28 = .ok (.invokevirtual 169, 3) := by decide +kernel
theorem dX10_sets_31 : decode cX10_sets 31 = .ok (.goto 8, 3) := by decide +kernel
theorem dX10_sets_34 : decode cX10_sets 34 = .ok (.aload_n 0, 1) := by decide +kernel
theorem dX10_sets_35 : decode cX10_sets 35 = .ok (.iconst 1, 1) := by decide +kernel
theorem dX10_sets_36 : decode cX10_sets 36 = .ok (.invokevirtual 51, 3) := by decide +kernel
theorem dX10_sets_39 : decode cX10_sets 39 = .ok (.ireturn, 1) := by decide +kernel
theorem dX10_shut_0 : decode cX10_shut 0 = .ok (.aload_n 0, 1) := by decide +kernel
theorem dX10_shut_1 : decode cX10_shut 1 = .ok (.invokevirtual 149, 3) := by decide +kernel
theorem dX10_shut_4 : decode cX10_shut 4 = .ok (.ireturn, 1) := by decide +kernel
theorem dX10_law_0 : decode cX10_law 0 = .ok (.iload_n 1, 1) := by decide +kernel
theorem dX10_law_1 : decode cX10_law 1 = .ok (.iconst 0, 1) := by decide +kernel
theorem dX10_law_2 : decode cX10_law 2 = .ok (.iconst 1, 1) := by decide +kernel
theorem dX10_law_3 : decode cX10_law 3 = .ok (.invokestatic 47, 3) := by decide +kernel
theorem dX10_law_6 : decode cX10_law 6 = .ok (.ifCond .ne 9, 3) := by decide +kernel
theorem dX10_law_9 : decode cX10_law 9 = .ok (.aload_n 0, 1) := by decide +kernel
theorem dX10_law_10 : decode cX10_law 10 = .ok (.iconst 1, 1) := by decide +kernel
theorem dX10_law_11 : decode cX10_law 11 = .ok (.invokevirtual 51, 3) := by decide +kernel
theorem dX10_law_14 : decode cX10_law 14 = .ok (.ireturn, 1) := by decide +kernel
theorem dX10_law_15 : decode cX10_law 15 = .ok (.iload_n 1, 1) := by decide +kernel
theorem dX10_law_16 : decode cX10_law 16 = .ok (.ifCond .ne 14, 3) := by decide +kernel
theorem dX10_law_19 : decode cX10_law 19 = .ok (.aload_n 0, 1) := by decide +kernel
theorem dX10_law_20 : decode cX10_law 20 = .ok (.iload_n 2, 1) := by decide +kernel
theorem dX10_law_21 : decode cX10_law 21 = .ok (.iload_n 3, 1) := by decide +kernel
theorem dX10_law_22 : decode cX10_law 22 = .ok (.iload 4, 2) := by decide +kernel
theorem dX10_law_24 : decode cX10_law 24 = .ok (.invokevirtual 124, 3) := by decide +kernel
theorem dX10_law_27 : decode cX10_law 27 = .ok (.goto 11, 3) := by decide +kernel
theorem dX10_law_30 : decode cX10_law 30 = .ok (.aload_n 0, 1) := by decide +kernel
theorem dX10_law_31 : decode cX10_law 31 = .ok (.iload_n 2, 1) := by decide +kernel
theorem dX10_law_32 : decode cX10_law 32 = .ok (.iload_n 3, 1) := by decide +kernel
theorem dX10_law_33 : decode cX10_law 33 = .ok (.iload 4, 2) := by decide +kernel
theorem dX10_law_35 : decode cX10_law 35 = .ok (.invokevirtual 139, 3) := by decide +kernel
theorem dX10_law_38 : decode cX10_law 38 = .ok (.ireturn, 1) := by decide +kernel
theorem dX10_whyNot_0 : decode cX10_whyNot 0 = .ok (.iload_n 1, 1) := by decide +kernel
theorem dX10_whyNot_1 : decode cX10_whyNot 1 = .ok (.iconst 1, 1) := by decide +kernel
theorem dX10_whyNot_2 : decode cX10_whyNot 2 = .ok (.iload_n 2, 1) := by decide +kernel
theorem dX10_whyNot_3 : decode cX10_whyNot 3 = .ok (.invokestatic 47, 3) := by decide +kernel
theorem dX10_whyNot_6 : decode cX10_whyNot 6 = .ok (.ifCond .ne 7, 3) := by decide +kernel
theorem dX10_whyNot_9 : decode cX10_whyNot 9 = .ok (.iconst 1, 1) := by decide +kernel
theorem dX10_whyNot_10 : decode cX10_whyNot 10 = .ok (.goto 21, 3) := by decide +kernel
theorem dX10_whyNot_13 : decode cX10_whyNot 13 = .ok (.aload_n 0, 1) := by decide +kernel
theorem dX10_whyNot_14 : decode cX10_whyNot 14 = .ok (.getfield 7, 3) := by decide +kernel
theorem dX10_whyNot_17 : decode cX10_whyNot 17 = .ok (.iconst 0, 1) := by decide +kernel
theorem dX10_whyNot_18 : decode cX10_whyNot 18 = .ok (.iaload, 1) := by decide +kernel
theorem dX10_whyNot_19 : decode cX10_whyNot 19 = .ok (.iload_n 1, 1) := by decide +kernel
theorem dX10_whyNot_20 : decode cX10_whyNot 20 = .ok (.iadd, 1) := by decide +kernel
theorem dX10_whyNot_21 : decode cX10_whyNot 21 = .ok (.ldc 181, 2) := by decide +kernel
theorem dX10_whyNot_23 : decode cX10_whyNot 23 = .ok (.if_icmp .le 7, 3) := by decide +kernel
theorem dX10_whyNot_26 : decode cX10_whyNot 26 = .ok (.iconst 3, 1) := by decide +kernel
theorem dX10_whyNot_27 : decode cX10_whyNot 27 = .ok (.goto 4, 3) := by decide +kernel
theorem dX10_whyNot_30 : decode cX10_whyNot 30 = .ok (.iconst 0, 1) := by decide +kernel
theorem dX10_whyNot_31 : decode cX10_whyNot 31 = .ok (.ireturn, 1) := by decide +kernel
theorem dX10_ticks_0 : decode cX10_ticks 0 = .ok (.aload_n 0, 1) := by decide +kernel
theorem dX10_ticks_1 : decode cX10_ticks 1 = .ok (.iload_n 1, 1) := by decide +kernel
theorem dX10_ticks_2 : decode cX10_ticks 2 = .ok (.sipush 200, 3) := by decide +kernel
theorem dX10_ticks_5 : decode cX10_ticks 5 = .ok (.invokevirtual 182, 3) := by decide +kernel
theorem dX10_ticks_8 : decode cX10_ticks 8 = .ok (.istore_n 2, 1) := by decide +kernel
theorem dX10_ticks_9 : decode cX10_ticks 9 = .ok (.iload_n 2, 1) := by decide +kernel
theorem dX10_ticks_10 : decode cX10_ticks 10 = .ok (.ifCond .eq 9, 3) := by decide +kernel
theorem dX10_ticks_13 : decode cX10_ticks 13 = .ok (.aload_n 0, 1) := by decide +kernel
theorem dX10_ticks_14 : decode cX10_ticks 14 = .ok (.iload_n 2, 1) := by decide +kernel
theorem dX10_ticks_15 : decode cX10_ticks 15 = .ok (.invokevirtual 51, 3) := by decide +kernel
theorem dX10_ticks_18 : decode cX10_ticks 18 = .ok (.ireturn, 1) := by decide +kernel
theorem dX10_ticks_19 : decode cX10_ticks 19 = .ok (.iconst 0, 1) := by decide +kernel
theorem dX10_ticks_20 : decode cX10_ticks 20 = .ok (.istore_n 3, 1) := by decide +kernel
theorem dX10_ticks_21 : decode cX10_ticks 21 = .ok (.iconst 0, 1) := by decide +kernel
theorem dX10_ticks_22 : decode cX10_ticks 22 = .ok (.istore 4, 2) := by decide +kernel
theorem dX10_ticks_24 : decode cX10_ticks 24 = .ok (.iload 4, 2) := by decide +kernel
theorem dX10_ticks_26 : decode cX10_ticks 26 = .ok (.iload_n 1, 1) := by decide +kernel
theorem dX10_ticks_27 : decode cX10_ticks 27 = .ok (.if_icmp .ge 16, 3) := by decide +kernel
theorem dX10_ticks_30 : decode cX10_ticks 30 = .ok (.iload_n 3, 1) := by decide +kernel
theorem dX10_ticks_31 : decode cX10_ticks 31 = .ok (.aload_n 0, 1) := by decide +kernel
theorem dX10_ticks_32 : decode cX10_ticks 32 = .ok (.invokevirtual 185, 3) := by decide +kernel
theorem dX10_ticks_35 : decode cX10_ticks 35 = .ok (.iadd, 1) := by decide +kernel
theorem dX10_ticks_36 : decode cX10_ticks 36 = .ok (.istore_n 3, 1) := by decide +kernel
theorem dX10_ticks_37 : decode cX10_ticks 37 = .ok (.iinc 4 1, 3) := by decide +kernel
theorem dX10_ticks_40 : decode cX10_ticks 40 = .ok (.goto (-16), 3) := by decide +kernel
theorem dX10_ticks_43 : decode cX10_ticks 43 = .ok (.iload_n 3, 1) := by decide +kernel
theorem dX10_ticks_44 : decode cX10_ticks 44 = .ok (.ireturn, 1) := by decide +kernel
theorem dX10_shifts_0 : decode cX10_shifts 0 = .ok (.aload_n 0, 1) := by decide +kernel
theorem dX10_shifts_1 : decode cX10_shifts 1 = .ok (.getfield 7, 3) := by decide +kernel
theorem dX10_shifts_4 : decode cX10_shifts 4 = .ok (.iconst 4, 1) := by decide +kernel
theorem dX10_shifts_5 : decode cX10_shifts 5 = .ok (.iaload, 1) := by decide +kernel
theorem dX10_shifts_6 : decode cX10_shifts 6 = .ok (.ifCond .le 41, 3) := by decide +kernel
theorem dX10_shifts_9 : decode cX10_shifts 9 = .ok (.aload_n 0, 1) := by decide +kernel
theorem dX10_shifts_10 : decode cX10_shifts 10 = .ok (.invokevirtual 188, 3) := by decide +kernel
theorem dX10_shifts_13 : decode cX10_shifts 13 = .ok (.iconst 4, 1) := by decide +kernel
theorem dX10_shifts_14 : decode cX10_shifts 14 = .ok (.irem, 1) := by decide +kernel
theorem dX10_shifts_15 : decode cX10_shifts 15 = .ok (.ifCond .ne 32, 3) := by decide +kernel
theorem dX10_shifts_18 : decode cX10_shifts 18 = .ok (.aload_n 0, 1) := by decide +kernel
theorem dX10_shifts_19 : decode cX10_shifts 19 = .ok (.invokevirtual 188, 3) := by decide +kernel
theorem dX10_shifts_22 : decode cX10_shifts 22 = .ok (.aload_n 0, 1) := by decide +kernel
theorem dX10_shifts_23 : decode cX10_shifts 23 = .ok (.getfield 7, 3) := by decide +kernel
theorem dX10_shifts_26 : decode cX10_shifts 26 = .ok (.iconst 4, 1) := by decide +kernel
theorem dX10_shifts_27 : decode cX10_shifts 27 = .ok (.iaload, 1) := by decide +kernel
theorem dX10_shifts_28 : decode cX10_shifts 28 = .ok (.irem, 1) := by decide +kernel
theorem dX10_shifts_29 : decode cX10_shifts 29 = .ok (.istore_n 1, 1) := by decide +kernel
theorem dX10_shifts_30 : decode cX10_shifts 30 = .ok (.aload_n 0, 1) := by decide +kernel
theorem dX10_shifts_31 : decode cX10_shifts 31 = .ok (.iload_n 1, 1) := by decide +kernel
theorem dX10_shifts_32 : decode cX10_shifts 32 = .ok (.iconst 3, 1) := by decide +kernel
theorem dX10_shifts_33 : decode cX10_shifts 33 = .ok (.aload_n 0, 1) := by decide +kernel
theorem dX10_shifts_34 : decode cX10_shifts 34 = .ok (.invokevirtual 188, 3) := by decide +kernel
theorem dX10_shifts_37 : decode cX10_shifts 37 = .ok (.aload_n 0, 1) := by decide +kernel
theorem dX10_shifts_38 : decode cX10_shifts 38 = .ok (.iload_n 1, 1) := by decide +kernel
theorem dX10_shifts_39 : decode cX10_shifts 39 = .ok (.iconst 2, 1) := by decide +kernel
theorem dX10_shifts_40 : decode cX10_shifts 40 = .ok (.invokevirtual 111, 3) := by decide +kernel
theorem dX10_shifts_43 : decode cX10_shifts 43 = .ok (.irem, 1) := by decide +kernel
theorem dX10_shifts_44 : decode cX10_shifts 44 = .ok (.invokevirtual 163, 3) := by decide +kernel
theorem dX10_shifts_47 : decode cX10_shifts 47 = .ok (.return_, 1) := by decide +kernel
theorem dX10_loose_0 : decode cX10_loose 0 = .ok (.aload_n 0, 1) := by decide +kernel
theorem dX10_loose_1 : decode cX10_loose 1 = .ok (.iload_n 1, 1) := by decide +kernel
theorem dX10_loose_2 : decode cX10_loose 2 = .ok (.bipush 30, 2) := by decide +kernel
theorem dX10_loose_4 : decode cX10_loose 4 = .ok (.invokevirtual 182, 3) := by decide +kernel
theorem dX10_loose_7 : decode cX10_loose 7 = .ok (.istore_n 2, 1) := by decide +kernel
theorem dX10_loose_8 : decode cX10_loose 8 = .ok (.iload_n 2, 1) := by decide +kernel
theorem dX10_loose_9 : decode cX10_loose 9 = .ok (.ifCond .eq 9, 3) := by decide +kernel
theorem dX10_loose_12 : decode cX10_loose 12 = .ok (.aload_n 0, 1) := by decide +kernel
theorem dX10_loose_13 : decode cX10_loose 13 = .ok (.iload_n 2, 1) := by decide +kernel
theorem dX10_loose_14 : decode cX10_loose 14 = .ok (.invokevirtual 51, 3) := by decide +kernel
theorem dX10_loose_17 : decode cX10_loose 17 = .ok (.ireturn, 1) := by decide +kernel
theorem dX10_loose_18 : decode cX10_loose 18 = .ok (.iconst 0, 1) := by decide +kernel
theorem dX10_loose_19 : decode cX10_loose 19 = .ok (.istore_n 3, 1) := by decide +kernel
theorem dX10_loose_20 : decode cX10_loose 20 = .ok (.iconst 0, 1) := by decide +kernel
theorem dX10_loose_21 : decode cX10_loose 21 = .ok (.istore 4, 2) := by decide +kernel
theorem dX10_loose_23 : decode cX10_loose 23 = .ok (.iload 4, 2) := by decide +kernel
theorem dX10_loose_25 : decode cX10_loose 25 = .ok (.iload_n 1, 1) := by decide +kernel
theorem dX10_loose_26 : decode cX10_loose 26 = .ok (.if_icmp .ge 20, 3) := by decide +kernel
theorem dX10_loose_29 : decode cX10_loose 29 = .ok (.aload_n 0, 1) := by decide +kernel
theorem dX10_loose_30 : decode cX10_loose 30 = .ok (.invokevirtual 191, 3) := by decide +kernel
theorem dX10_loose_33 : decode cX10_loose 33 = .ok (.iload_n 3, 1) := by decide +kernel
theorem dX10_loose_34 : decode cX10_loose 34 = .ok (.aload_n 0, 1) := by decide +kernel
theorem dX10_loose_35 : decode cX10_loose 35 = .ok (.invokevirtual 185, 3) := by decide +kernel
theorem dX10_loose_38 : decode cX10_loose 38 = .ok (.iadd, 1) := by decide +kernel
theorem dX10_loose_39 : decode cX10_loose 39 = .ok (.istore_n 3, 1) := by decide +kernel
theorem dX10_loose_40 : decode cX10_loose 40 = .ok (.iinc 4 1, 3) := by decide +kernel
theorem dX10_loose_43 : decode cX10_loose 43 = .ok (.goto (-20), 3) := by decide +kernel
theorem dX10_loose_46 : decode cX10_loose 46 = .ok (.iload_n 3, 1) := by decide +kernel
theorem dX10_loose_47 : decode cX10_loose 47 = .ok (.ireturn, 1) := by decide +kernel
theorem dX10_tick_0 : decode cX10_tick 0 = .ok (.iload_n 1, 1) := by decide +kernel
theorem dX10_tick_1 : decode cX10_tick 1 = .ok (.iconst 0, 1) := by decide +kernel
theorem dX10_tick_2 : decode cX10_tick 2 = .ok (.ldc 181, 2) := by decide +kernel
theorem dX10_tick_4 : decode cX10_tick 4 = .ok (.invokestatic 47, 3) := by decide +kernel
theorem dX10_tick_7 : decode cX10_tick 7 = .ok (.ifCond .eq 12, 3) := by decide +kernel
theorem dX10_tick_10 : decode cX10_tick 10 = .ok (.aload_n 0, 1) := by decide +kernel
theorem dX10_tick_11 : decode cX10_tick 11 = .ok (.iconst 0, 1) := by decide +kernel
theorem dX10_tick_12 : decode cX10_tick 12 = .ok (.iload_n 1, 1) := by decide +kernel
theorem dX10_tick_13 : decode cX10_tick 13 = .ok (.invokevirtual 169, 3) := by decide +kernel
theorem dX10_tick_16 : decode cX10_tick 16 = .ok (.goto 8, 3) := by decide +kernel
theorem dX10_tick_19 : decode cX10_tick 19 = .ok (.aload_n 0, 1) := by decide +kernel
theorem dX10_tick_20 : decode cX10_tick 20 = .ok (.iconst 1, 1) := by decide +kernel
theorem dX10_tick_21 : decode cX10_tick 21 = .ok (.invokevirtual 51, 3) := by decide +kernel
theorem dX10_tick_24 : decode cX10_tick 24 = .ok (.ireturn, 1) := by decide +kernel
theorem dX10_seed_0 : decode cX10_seed 0 = .ok (.aload_n 0, 1) := by decide +kernel
theorem dX10_seed_1 : decode cX10_seed 1 = .ok (.iconst 1, 1) := by decide +kernel
theorem dX10_seed_2 : decode cX10_seed 2 = .ok (.iload_n 1, 1) := by decide +kernel
theorem dX10_seed_3 : decode cX10_seed 3 = .ok (.invokevirtual 169, 3) := by decide +kernel
theorem dX10_seed_6 : decode cX10_seed 6 = .ok (.ireturn, 1) := by decide +kernel
theorem dX10_then_0 : decode cX10_then 0 = .ok (.aload_n 0, 1) := by decide +kernel
theorem dX10_then_1 : decode cX10_then 1 = .ok (.iload_n 1, 1) := by decide +kernel
theorem dX10_then_2 : decode cX10_then 2 = .ok (.invokevirtual 178, 3) := by decide +kernel
theorem dX10_then_5 : decode cX10_then 5 = .ok (.ifCond .eq 14, 3) := by decide +kernel
theorem dX10_then_8 : decode cX10_then 8 = .ok (.iload_n 2, 1) := by decide +kernel
theorem dX10_then_9 : decode cX10_then 9 = .ok (.iconst 0, 1) := by decide +kernel
theorem dX10_then_10 : decode cX10_then 10 = .ok (.sipush 200, 3) := by decide +kernel
theorem dX10_then_13 : decode cX10_then 13 = .ok (.invokestatic 47, 3) := by decide +kernel
theorem dX10_then_16 : decode cX10_then 16 = .ok (.ifCond .ne 9, 3) := by decide +kernel
theorem dX10_then_19 : decode cX10_then 19 = .ok (.aload_n 0, 1) := by decide +kernel
theorem dX10_then_20 : decode cX10_then 20 = .ok (.iconst 1, 1) := by decide +kernel
theorem dX10_then_21 : decode cX10_then 21 = .ok (.invokevirtual 51, 3) := by decide +kernel
theorem dX10_then_24 : decode cX10_then 24 = .ok (.ireturn, 1) := by decide +kernel
theorem dX10_then_25 : decode cX10_then 25 = .ok (.aload_n 0, 1) := by decide +kernel
theorem dX10_then_26 : decode cX10_then 26 = .ok (.invokevirtual 194, 3) := by decide +kernel
theorem dX10_then_29 : decode cX10_then 29 = .ok (.iconst 0, 1) := by decide +kernel
theorem dX10_then_30 : decode cX10_then 30 = .ok (.istore_n 3, 1) := by decide +kernel
theorem dX10_then_31 : decode cX10_then 31 = .ok (.iload_n 3, 1) := by decide +kernel
theorem dX10_then_32 : decode cX10_then 32 = .ok (.iload_n 2, 1) := by decide +kernel
theorem dX10_then_33 : decode cX10_then 33 = .ok (.if_icmp .ge 30, 3) := by decide +kernel
theorem dX10_then_36 : decode cX10_then 36 = .ok (.aload_n 0, 1) := by decide +kernel
theorem dX10_then_37 : decode cX10_then 37 = .ok (.iload_n 1, 1) := by decide +kernel
theorem dX10_then_38 : decode cX10_then 38 = .ok (.aload_n 0, 1) := by decide +kernel
theorem dX10_then_39 : decode cX10_then 39 = .ok (.invokevirtual 149, 3) := by decide +kernel
theorem dX10_then_42 : decode cX10_then 42 = .ok (.invokevirtual 152, 3) := by decide +kernel
theorem dX10_then_45 : decode cX10_then 45 = .ok (.istore 4, 2) := by decide +kernel
theorem dX10_then_47 : decode cX10_then 47 = .ok (.aload_n 0, 1) := by decide +kernel
theorem dX10_then_48 : decode cX10_then 48 = .ok (.getfield 7, 3) := by decide +kernel
theorem dX10_then_51 : decode cX10_then 51 = .ok (.iconst 0, 1) := by decide +kernel
theorem dX10_then_52 : decode cX10_then 52 = .ok (.dup2, 1) := by decide +kernel
theorem dX10_then_53 : decode cX10_then 53 = .ok (.iaload, 1) := by decide +kernel
theorem dX10_then_54 : decode cX10_then 54 = .ok (.iconst 1, 1) := by decide +kernel
theorem dX10_then_55 : decode cX10_then 55 = .ok (.iadd, 1) := by decide +kernel
theorem dX10_then_56 : decode cX10_then 56 = .ok (.iastore, 1) := by decide +kernel
theorem dX10_then_57 : decode cX10_then 57 = .ok (.iinc 3 1, 3) := by decide +kernel
theorem dX10_then_60 : decode cX10_then 60 = .ok (.goto (-29), 3) := by decide +kernel
theorem dX10_then_63 : decode cX10_then 63 = .ok (.aload_n 0, 1) := by decide +kernel
theorem dX10_then_64 : decode cX10_then 64 = .ok (.iload_n 1, 1) := by decide +kernel
theorem dX10_then_65 : decode cX10_then 65 = .ok (.iconst 1, 1) := by decide +kernel
theorem dX10_then_66 : decode cX10_then 66 = .ok (.invokevirtual 130, 3) := by decide +kernel
theorem dX10_then_69 : decode cX10_then 69 = .ok (.istore_n 3, 1) := by decide +kernel
theorem dX10_then_70 : decode cX10_then 70 = .ok (.aload_n 0, 1) := by decide +kernel
theorem dX10_then_71 : decode cX10_then 71 = .ok (.invokevirtual 197, 3) := by decide +kernel
theorem dX10_then_74 : decode cX10_then 74 = .ok (.iload_n 3, 1) := by decide +kernel
theorem dX10_then_75 : decode cX10_then 75 = .ok (.ireturn, 1) := by decide +kernel
theorem dX10_doneBy_0 : decode cX10_doneBy 0 = .ok (.iconst 0, 1) := by decide +kernel
theorem dX10_doneBy_1 : decode cX10_doneBy 1 = .ok (.istore_n 3, 1) := by decide +kernel
theorem dX10_doneBy_2 : decode cX10_doneBy 2 = .ok (.iload_n 3, 1) := by decide +kernel
theorem dX10_doneBy_3 : decode cX10_doneBy 3 = .ok (.iload_n 2, 1) := by decide +kernel
theorem dX10_doneBy_4 : decode cX10_doneBy 4 = .ok (.if_icmp .gt 39, 3) := by decide +kernel
theorem dX10_doneBy_7 : decode cX10_doneBy 7 = .ok (.aload_n 0, 1) := by decide +kernel
theorem dX10_doneBy_8 : decode cX10_doneBy 8 = .ok (.iload_n 1, 1) := by decide +kernel
theorem dX10_doneBy_9 : decode cX10_doneBy 9 = .ok (.iconst 1, 1) := by decide +kernel
theorem dX10_doneBy_10 : decode cX10_doneBy 10 = .ok (.invokevirtual 130, 3) := by decide +kernel
theorem dX10_doneBy_13 : decode cX10_doneBy 13 = .ok (.ifCond .le 30, 3) := by decide +kernel
theorem dX10_doneBy_16 : decode cX10_doneBy 16 = .ok (.aload_n 0, 1) := by decide +kernel
theorem dX10_doneBy_17 : decode cX10_doneBy 17 = .ok (.iload_n 1, 1) := by decide +kernel
theorem dX10_doneBy_18 : decode cX10_doneBy 18 = .ok (.aload_n 0, 1) := by decide +kernel
theorem dX10_doneBy_19 : decode cX10_doneBy 19 = .ok (.invokevirtual 149, 3) := by decide +kernel
theorem dX10_doneBy_22 : decode cX10_doneBy 22 = .ok (.invokevirtual 152, 3) := by decide +kernel
theorem dX10_doneBy_25 : decode cX10_doneBy 25 = .ok (.istore 4, 2) := by decide +kernel
theorem dX10_doneBy_27 : decode cX10_doneBy 27 = .ok (.aload_n 0, 1) := by decide +kernel
theorem dX10_doneBy_28 : decode cX10_doneBy 28 = .ok (.getfield 7, 3) := by decide +kernel
theorem dX10_doneBy_31 : decode cX10_doneBy 31 = .ok (.iconst 0, 1) := by decide +kernel
theorem dX10_doneBy_32 : decode cX10_doneBy 32 = .ok (.dup2, 1) := by decide +kernel
theorem dX10_doneBy_33 : decode cX10_doneBy 33 = .ok (.iaload, 1) := by decide +kernel
theorem dX10_doneBy_34 : decode cX10_doneBy 34 = .ok (.iconst 1, 1) := by decide +kernel
theorem dX10_doneBy_35 : decode cX10_doneBy 35 = .ok (.iadd, 1) := by decide +kernel
theorem dX10_doneBy_36 : decode cX10_doneBy 36 = .ok (.iastore, 1) := by decide +kernel
theorem dX10_doneBy_37 : decode cX10_doneBy 37 = .ok (.iinc 3 1, 3) := by decide +kernel
theorem dX10_doneBy_40 : decode cX10_doneBy 40 = .ok (.goto (-38), 3) := by decide +kernel
theorem dX10_doneBy_43 : decode cX10_doneBy 43 = .ok (.aload_n 0, 1) := by decide +kernel
theorem dX10_doneBy_44 : decode cX10_doneBy 44 = .ok (.invokevirtual 197, 3) := by decide +kernel
theorem dX10_doneBy_47 : decode cX10_doneBy 47 = .ok (.iload_n 3, 1) := by decide +kernel
theorem dX10_doneBy_48 : decode cX10_doneBy 48 = .ok (.iload_n 2, 1) := by decide +kernel
theorem dX10_doneBy_49 : decode cX10_doneBy 49 = .ok (.if_icmp .le 7, 3) := by decide +kernel
theorem dX10_doneBy_52 : decode cX10_doneBy 52 = .ok (.iconst (-1), 1) := by decide +kernel
theorem dX10_doneBy_53 : decode cX10_doneBy 53 = .ok (.goto 4, 3) := by decide +kernel
theorem dX10_doneBy_56 : decode cX10_doneBy 56 = .ok (.iload_n 3, 1) := by decide +kernel
theorem dX10_doneBy_57 : decode cX10_doneBy 57 = .ok (.ireturn, 1) := by decide +kernel
theorem dX10_soonest_0 : decode cX10_soonest 0 = .ok (.aload_n 0, 1) := by decide +kernel
theorem dX10_soonest_1 : decode cX10_soonest 1 = .ok (.iload_n 1, 1) := by decide +kernel
theorem dX10_soonest_2 : decode cX10_soonest 2 = .ok (.invokevirtual 178, 3) := by decide +kernel
theorem dX10_soonest_5 : decode cX10_soonest 5 = .ok (.ifCond .ne 9, 3) := by decide +kernel
theorem dX10_soonest_8 : decode cX10_soonest 8 = .ok (.aload_n 0, 1) := by decide +kernel
theorem dX10_soonest_9 : decode cX10_soonest 9 = .ok (.iconst 1, 1) := by decide +kernel
theorem dX10_soonest_10 : decode cX10_soonest 10 = .ok (.invokevirtual 51, 3) := by decide +kernel
theorem dX10_soonest_13 : decode cX10_soonest 13 = .ok (.ireturn, 1) := by decide +kernel
theorem dX10_soonest_14 : decode cX10_soonest 14 = .ok (.aload_n 0, 1) := by decide +kernel
theorem dX10_soonest_15 : decode cX10_soonest 15 = .ok (.invokevirtual 194, 3) := by decide +kernel
theorem dX10_soonest_18 : decode cX10_soonest 18 = .ok (.aload_n 0, 1) := by decide +kernel
theorem dX10_soonest_19 : decode cX10_soonest 19 = .ok (.iload_n 1, 1) := by decide +kernel
theorem dX10_soonest_20 : decode cX10_soonest 20 = .ok (.sipush 200, 3) := by decide +kernel
theorem dX10_soonest_23 : decode cX10_soonest 23 = .ok (.invokevirtual 200, 3) := by decide +kernel
theorem dX10_soonest_26 : decode cX10_soonest 26 = .ok (.istore_n 2, 1) := by decide +kernel
theorem dX10_soonest_27 : decode cX10_soonest 27 = .ok (.iload_n 2, 1) := by decide +kernel
theorem dX10_soonest_28 : decode cX10_soonest 28 = .ok (.iconst (-1), 1) := by decide +kernel
theorem dX10_soonest_29 : decode cX10_soonest 29 = .ok (.if_icmp .ne 11, 3) := by decide +kernel
theorem dX10_soonest_32 : decode cX10_soonest 32 = .ok (.aload_n 0, 1) := by decide +kernel
theorem dX10_soonest_33 : decode cX10_soonest 33 = .ok (.iconst 2, 1) := by decide +kernel
theorem dX10_soonest_34 : decode cX10_soonest 34 = .ok (.invokevirtual 51, 3) := by decide +kernel
theorem dX10_soonest_37 : decode cX10_soonest 37 = .ok (.goto 4, 3) := by decide +kernel
theorem dX10_soonest_40 : decode cX10_soonest 40 = .ok (.iload_n 2, 1) := by decide +kernel
theorem dX10_soonest_41 : decode cX10_soonest 41 = .ok (.ireturn, 1) := by decide +kernel
theorem dX10_isMoment_0 : decode cX10_isMoment 0 = .ok (.iconst 1, 1) := by decide +kernel
theorem dX10_isMoment_1 : decode cX10_isMoment 1 = .ok (.istore_n 2, 1) := by decide +kernel
theorem dX10_isMoment_2 : decode cX10_isMoment 2 = .ok (.iconst 0, 1) := by decide +kernel
theorem dX10_isMoment_3 : decode cX10_isMoment 3 = .ok (.istore_n 3, 1) := by decide +kernel
theorem dX10_isMoment_4 : decode cX10_isMoment 4 = .ok (.iload_n 3, 1) := by decide +kernel
theorem dX10_isMoment_5 : decode cX10_isMoment 5 = .ok (.aload_n 0, 1) := by decide +kernel
theorem dX10_isMoment_6 : decode cX10_isMoment 6 = .ok (.getfield 7, 3) := by decide +kernel
theorem dX10_isMoment_9 : decode cX10_isMoment 9 = .ok (.iconst 4, 1) := by decide +kernel
theorem dX10_isMoment_10 : decode cX10_isMoment 10 = .ok (.iaload, 1) := by decide +kernel
theorem dX10_isMoment_11 : decode cX10_isMoment 11 = .ok (.if_icmp .ge 36, 3) := by decide +kernel
theorem dX10_isMoment_14 : decode cX10_isMoment 14 = .ok (.iload_n 2, 1) := by decide +kernel
theorem dX10_isMoment_15 : decode cX10_isMoment 15 = .ok (.ifCond .eq 32, 3) := by decide +kernel
theorem dX10_isMoment_18 : decode cX10_isMoment 18 = .ok (.iload_n 1, 1) := by decide +kernel
theorem dX10_isMoment_19 : decode cX10_isMoment 19 = .ok (.iload_n 3, 1) := by decide +kernel
theorem dX10_isMoment_20 : decode cX10_isMoment 20 = .ok (.ishr, 1) := by decide +kernel
theorem dX10_isMoment_21 : decode cX10_isMoment 21 = .ok (.iconst 1, 1) := by decide +kernel
theorem dX10_isMoment_22 : decode cX10_isMoment 22 = .ok (.iand, 1) := by decide +kernel
theorem dX10_isMoment_23 : decode cX10_isMoment 23 = .ok (.ifCond .eq 12, 3) := by decide +kernel
theorem dX10_isMoment_26 : decode cX10_isMoment 26 = .ok (.aload_n 0, 1) := by decide +kernel
theorem dX10_isMoment_27 : decode cX10_isMoment 27 = .ok (.iload_n 3, 1) := by decide +kernel
theorem dX10_isMoment_28 : decode cX10_isMoment 28 = .ok (.invokevirtual 127, 3) := by decide +kernel
theorem dX10_isMoment_31 : decode cX10_isMoment 31 = .ok (.iconst 1, 1) := by decide +kernel
theorem dX10_isMoment_32 : decode cX10_isMoment 32 = .ok (.if_icmp .ne 7, 3) := by decide +kernel
theorem dX10_isMoment_35 : decode cX10_isMoment 35 = .ok (.iconst 1, 1) := by decide +kernel
theorem dX10_isMoment_36 : decode cX10_isMoment 36 = .ok (.goto 4, 3) := by decide +kernel
theorem dX10_isMoment_39 : decode cX10_isMoment 39 = .ok (.iconst 0, 1) := by decide +kernel
theorem dX10_isMoment_40 : decode cX10_isMoment 40 = .ok (.istore_n 2, 1) := by decide +kernel
theorem dX10_isMoment_41 : decode cX10_isMoment 41 = .ok (.iinc 3 1, 3) := by decide +kernel
theorem dX10_isMoment_44 : decode cX10_isMoment 44 = .ok (.goto (-40), 3) := by decide +kernel
theorem dX10_isMoment_47 : decode cX10_isMoment 47 = .ok (.iload_n 2, 1) := by decide +kernel
theorem dX10_isMoment_48 : decode cX10_isMoment 48 = .ok (.ireturn, 1) := by decide +kernel
theorem dX10_moment_0 : decode cX10_moment 0 = .ok (.aload_n 0, 1) := by decide +kernel
theorem dX10_moment_1 : decode cX10_moment 1 = .ok (.iload_n 1, 1) := by decide +kernel
theorem dX10_moment_2 : decode cX10_moment 2 = .ok (.invokevirtual 175, 3) := by decide +kernel
theorem dX10_moment_5 : decode cX10_moment 5 = .ok (.ifCond .ne 9, 3) := by decide +kernel
theorem dX10_moment_8 : decode cX10_moment 8 = .ok (.aload_n 0, 1) := by decide +kernel
theorem dX10_moment_9 : decode cX10_moment 9 = .ok (.iconst 1, 1) := by decide +kernel
theorem dX10_moment_10 : decode cX10_moment 10 = .ok (.invokevirtual 51, 3) := by decide +kernel
theorem dX10_moment_13 : decode cX10_moment 13 = .ok (.ireturn, 1) := by decide +kernel
theorem dX10_moment_14 : decode cX10_moment 14 = .ok (.aload_n 0, 1) := by decide +kernel
theorem dX10_moment_15 : decode cX10_moment 15 = .ok (.getfield 7, 3) := by decide +kernel
theorem dX10_moment_18 : decode cX10_moment 18 = .ok (.iconst 0, 1) := by decide +kernel
theorem dX10_moment_19 : decode cX10_moment 19 = .ok (.iaload, 1) := by decide +kernel
theorem dX10_moment_20 : decode cX10_moment 20 = .ok (.istore_n 2, 1) := by decide +kernel
theorem dX10_moment_21 : decode cX10_moment 21 = .ok (.iconst 0, 1) := by decide +kernel
theorem dX10_moment_22 : decode cX10_moment 22 = .ok (.istore_n 3, 1) := by decide +kernel
theorem dX10_moment_23 : decode cX10_moment 23 = .ok (.iload_n 3, 1) := by decide +kernel
theorem dX10_moment_24 : decode cX10_moment 24 = .ok (.sipush 400, 3) := by decide +kernel
theorem dX10_moment_27 : decode cX10_moment 27 = .ok (.if_icmp .gt 27, 3) := by decide +kernel
theorem dX10_moment_30 : decode cX10_moment 30 = .ok (.aload_n 0, 1) := by decide +kernel
theorem dX10_moment_31 : decode cX10_moment 31 = .ok (.iload_n 1, 1) := by decide +kernel
theorem dX10_moment_32 : decode cX10_moment 32 = .ok (.invokevirtual 203, 3) := by decide +kernel
theorem dX10_moment_35 : decode cX10_moment 35 = .ok (.ifCond .ne 19, 3) := by decide +kernel
theorem dX10_moment_38 : decode cX10_moment 38 = .ok (.aload_n 0, 1) := by decide +kernel
theorem dX10_moment_39 : decode cX10_moment 39 = .ok (.getfield 7, 3) := by decide +kernel
theorem dX10_moment_42 : decode cX10_moment 42 = .ok (.iconst 0, 1) := by decide +kernel
theorem dX10_moment_43 : decode cX10_moment 43 = .ok (.dup2, 1) := by decide +kernel
theorem dX10_moment_44 : decode cX10_moment 44 = .ok (.iaload, 1) := by decide +kernel
theorem dX10_moment_45 : decode cX10_moment 45 = .ok (.iconst 1, 1) := by decide +kernel
theorem dX10_moment_46 : decode cX10_moment 46 = .ok (.iadd, 1) := by decide +kernel
theorem dX10_moment_47 : decode cX10_moment 47 = .ok (.iastore, 1) := by decide +kernel
theorem dX10_moment_48 : decode cX10_moment 48 = .ok (.iinc 3 1, 3) := by decide +kernel
theorem dX10_moment_51 : decode cX10_moment 51 = .ok (.goto (-28), 3) := by decide +kernel
theorem dX10_moment_54 : decode cX10_moment 54 = .ok (.aload_n 0, 1) := by decide +kernel
theorem dX10_moment_55 : decode cX10_moment 55 = .ok (.getfield 7, 3) := by decide +kernel
theorem dX10_moment_58 : decode cX10_moment 58 = .ok (.iconst 0, 1) := by decide +kernel
theorem dX10_moment_59 : decode cX10_moment 59 = .ok (.iload_n 2, 1) := by decide +kernel
theorem dX10_moment_60 : decode cX10_moment 60 = .ok (.iastore, 1) := by decide +kernel
theorem dX10_moment_61 : decode cX10_moment 61 = .ok (.iload_n 3, 1) := by decide +kernel
theorem dX10_moment_62 : decode cX10_moment 62 = .ok (.sipush 400, 3) := by decide +kernel
theorem dX10_moment_65 : decode cX10_moment 65 = .ok (.if_icmp .le 11, 3) := by decide +kernel
theorem dX10_moment_68 : decode cX10_moment 68 = .ok (.aload_n 0, 1) := by decide +kernel
theorem dX10_moment_69 : decode cX10_moment 69 = .ok (.iconst 2, 1) := by decide +kernel
theorem dX10_moment_70 : decode cX10_moment 70 = .ok (.invokevirtual 51, 3) := by decide +kernel
theorem dX10_moment_73 : decode cX10_moment 73 = .ok (.goto 4, 3) := by decide +kernel
theorem dX10_moment_76 : decode cX10_moment 76 = .ok (.iload_n 3, 1) := by decide +kernel
theorem dX10_moment_77 : decode cX10_moment 77 = .ok (.ireturn, 1) := by decide +kernel
theorem dX10_momentsOf_0 : decode cX10_momentsOf 0 = .ok (.aload_n 0, 1) := by decide +kernel
theorem dX10_momentsOf_1 : decode cX10_momentsOf 1 = .ok (.getfield 7, 3) := by decide +kernel
theorem dX10_momentsOf_4 : decode cX10_momentsOf 4 = .ok (.iconst 0, 1) := by decide +kernel
theorem dX10_momentsOf_5 : decode cX10_momentsOf 5 = .ok (.iaload, 1) := by decide +kernel
theorem dX10_momentsOf_6 : decode cX10_momentsOf 6 = .ok (.istore_n 3, 1) := by decide +kernel
theorem dX10_momentsOf_7 : decode cX10_momentsOf 7 = .ok (.iconst 0, 1) := by decide +kernel
theorem dX10_momentsOf_8 : decode cX10_momentsOf 8 = .ok (.istore 4, 2) := by decide +kernel
theorem dX10_momentsOf_10 : decode cX10_momentsOf 10 = .ok (.iconst 0, 1) := by decide +kernel
theorem dX10_momentsOf_11 : decode cX10_momentsOf 11 = .ok (.istore 5, 2) := by decide +kernel
theorem dX10_momentsOf_13 : decode cX10_momentsOf 13 = .ok (.iload 5, 2) := by decide +kernel
theorem dX10_momentsOf_15 : decode cX10_momentsOf 15 = .ok (.iload_n 2, 1) := by decide +kernel
theorem dX10_momentsOf_16 : decode cX10_momentsOf 16 = .ok (.if_icmp .ge 37, 3) := by decide +kernel
theorem dX10_momentsOf_19 : decode cX10_momentsOf 19 = .ok (.iload 4, 2) := by decide +kernel
theorem dX10_momentsOf_21 : decode cX10_momentsOf 21 = .ok (.aload_n 0, 1) := by decide +kernel
theorem dX10_momentsOf_22 : decode cX10_momentsOf 22 = .ok (.iload_n 1, 1) := by decide +kernel
theorem dX10_momentsOf_23 : decode cX10_momentsOf 23 = .ok (.invokevirtual 203, 3) := by decide +kernel
theorem dX10_momentsOf_26 : decode cX10_momentsOf 26 = .ok (.ifCond .eq 7, 3) := by decide +kernel
theorem dX10_momentsOf_29 : decode cX10_momentsOf 29 = .ok (.iconst 1, 1) := by decide +kernel
theorem dX10_momentsOf_30 : decode cX10_momentsOf 30 = .ok (.goto 4, 3) := by decide +kernel
theorem dX10_momentsOf_33 : decode cX10_momentsOf 33 = .ok (.iconst 0, 1) := by decide +kernel
theorem dX10_momentsOf_34 : decode cX10_momentsOf 34 = .ok (.iadd, 1) := by decide +kernel
theorem dX10_momentsOf_35 : decode cX10_momentsOf 35 = .ok (.istore 4, 2) := by decide +kernel
theorem dX10_momentsOf_37 : decode cX10_momentsOf 37 = .ok (.aload_n 0, 1) := by decide +kernel
theorem dX10_momentsOf_38 : decode cX10_momentsOf 38 = .ok (.getfield 7, 3) := by decide +kernel
theorem dX10_momentsOf_41 : decode cX10_momentsOf 41 = .ok (.iconst 0, 1) := by decide +kernel
theorem dX10_momentsOf_42 : decode cX10_momentsOf 42 = .ok (.dup2, 1) := by decide +kernel
theorem dX10_momentsOf_43 : decode cX10_momentsOf 43 = .ok (.iaload, 1) := by decide +kernel
theorem dX10_momentsOf_44 : decode cX10_momentsOf 44 = .ok (.iconst 1, 1) := by decide +kernel
theorem dX10_momentsOf_45 : decode cX10_momentsOf 45 = .ok (.iadd, 1) := by decide +kernel
theorem dX10_momentsOf_46 : decode cX10_momentsOf 46 = .ok (.iastore, 1) := by decide +kernel
theorem dX10_momentsOf_47 : decode cX10_momentsOf 47 = .ok (.iinc 5 1, 3) := by decide +kernel
theorem dX10_momentsOf_50 : decode cX10_momentsOf 50 = .ok (.goto (-37), 3) := by decide +kernel
theorem dX10_momentsOf_53 : decode cX10_momentsOf 53 = .ok (.aload_n 0, 1) := by decide +kernel
theorem dX10_momentsOf_54 : decode cX10_momentsOf 54 = .ok (.getfield 7, 3) := by decide +kernel
theorem dX10_momentsOf_57 : decode cX10_momentsOf 57 = .ok (.iconst 0, 1) := by decide +kernel
theorem dX10_momentsOf_58 : decode cX10_momentsOf 58 = .ok (.iload_n 3, 1) := by decide +kernel
theorem dX10_momentsOf_59 : decode cX10_momentsOf 59 = .ok (.iastore, 1) := by decide +kernel
theorem dX10_momentsOf_60 : decode cX10_momentsOf 60 = .ok (.iload 4, 2) := by decide +kernel
theorem dX10_momentsOf_62 : decode cX10_momentsOf 62 = .ok (.ireturn, 1) := by decide +kernel
theorem dX10_moments_0 : decode cX10_moments 0 = .ok (.aload_n 0, 1) := by decide +kernel
theorem dX10_moments_1 : decode cX10_moments 1 = .ok (.iload_n 1, 1) := by decide +kernel
theorem dX10_moments_2 : decode cX10_moments 2 = .ok (.invokevirtual 175, 3) := by decide +kernel
theorem dX10_moments_5 : decode cX10_moments 5 = .ok (.ifCond .eq 22, 3) := by decide +kernel
theorem dX10_moments_8 : decode cX10_moments 8 = .ok (.iload_n 2, 1) := by decide +kernel
theorem dX10_moments_9 : decode cX10_moments 9 = .ok (.iconst 0, 1) := by decide +kernel
theorem dX10_moments_10 : decode cX10_moments 10 = .ok (.bipush 99, 2) := by decide +kernel
theorem dX10_moments_12 : decode cX10_moments 12 = .ok (.invokestatic 47, 3) := by decide +kernel
theorem dX10_moments_15 : decode cX10_moments 15 = .ok (.ifCond .eq 12, 3) := by decide +kernel
theorem dX10_moments_18 : decode cX10_moments 18 = .ok (.aload_n 0, 1) := by decide +kernel
theorem dX10_moments_19 : decode cX10_moments 19 = .ok (.iload_n 1, 1) := by decide +kernel
theorem dX10_moments_20 : decode cX10_moments 20 = .ok (.iload_n 2, 1) := by decide +kernel
theorem dX10_moments_21 : decode cX10_moments 21 = .ok (.invokevirtual 206, 3) := by decide +kernel
theorem dX10_moments_24 : decode cX10_moments 24 = .ok (.goto 8, 3) := by decide +kernel
theorem dX10_moments_27 : decode cX10_moments 27 = .ok (.aload_n 0, 1) := by decide +kernel
theorem dX10_moments_28 : decode cX10_moments 28 = .ok (.iconst 1, 1) := by decide +kernel
theorem dX10_moments_29 : decode cX10_moments 29 = .ok (.invokevirtual 51, 3) := by decide +kernel
theorem dX10_moments_32 : decode cX10_moments 32 = .ok (.ireturn, 1) := by decide +kernel
theorem dX10_isDoneWithout_0 : decode cX10_isDoneWithout 0 = .ok (.aload_n 0, 1) := by decide +kernel
theorem dX10_isDoneWithout_1 : decode cX10_isDoneWithout 1 = .ok (.invokevirtual 194, 3) := by decide +kernel
theorem dX10_isDoneWithout_4 : decode cX10_isDoneWithout 4 = .ok (.aload_n 0, 1) := by decide +kernel
theorem dX10_isDoneWithout_5 : decode cX10_isDoneWithout 5 = .ok (.iload_n 1, 1) := by decide +kernel
theorem dX10_isDoneWithout_6 : decode cX10_isDoneWithout 6 = .ok (.iconst 2, 1) := by decide +kernel
theorem dX10_isDoneWithout_7 : decode cX10_isDoneWithout 7 = .ok (.aload_n 0, 1) := by decide +kernel
theorem dX10_isDoneWithout_8 : decode cX10_isDoneWithout 8 = .ok (.iload_n 1, 1) := by decide +kernel
theorem dX10_isDoneWithout_9 : decode cX10_isDoneWithout 9 = .ok (.iconst 2, 1) := by decide +kernel
theorem dX10_isDoneWithout_10 : decode cX10_isDoneWithout 10 = .ok (.invokevirtual 130, 3) := by decide +kernel
theorem dX10_isDoneWithout_13 : decode cX10_isDoneWithout 13 = .ok (.iload_n 2, 1) := by decide +kernel
theorem dX10_isDoneWithout_14 : decode cX10_isDoneWithout 14 = .ok (.iconst (-1), 1) := by decide +kernel
theorem dX10_isDoneWithout_15 : decode cX10_isDoneWithout 15 = .ok (.ixor, 1) := by decide +kernel
theorem dX10_isDoneWithout_16 : decode cX10_isDoneWithout 16 = .ok (.iand, 1) := by decide +kernel
theorem dX10_isDoneWithout_17 : decode cX10_isDoneWithout 17 = .ok (.invokevirtual 145, 3) := by decide +kernel
theorem dX10_isDoneWithout_20 : decode cX10_isDoneWithout 20 = .ok (.aload_n 0, 1) := by decide +kernel
theorem dX10_isDoneWithout_21 : decode cX10_isDoneWithout 21 = .ok (.iload_n 1, 1) := by decide +kernel
theorem dX10_isDoneWithout_22 : decode cX10_isDoneWithout 22 = .ok (.iload_n 3, 1) := by decide +kernel
theorem dX10_isDoneWithout_23 : decode cX10_isDoneWithout 23 = .ok (.invokevirtual 200, 3) := by decide +kernel
theorem dX10_isDoneWithout_26 : decode cX10_isDoneWithout 26 = .ok (.iconst (-1), 1) := by decide +kernel
theorem dX10_isDoneWithout_27 : decode cX10_isDoneWithout 27 = .ok (.if_icmp .eq 7, 3) := by decide +kernel
theorem dX10_isDoneWithout_30 : decode cX10_isDoneWithout 30 = .ok (.iconst 1, 1) := by decide +kernel
theorem dX10_isDoneWithout_31 : decode cX10_isDoneWithout 31 = .ok (.goto 4, 3) := by decide +kernel
theorem dX10_isDoneWithout_34 : decode cX10_isDoneWithout 34 = .ok (.iconst 0, 1) := by decide +kernel
theorem dX10_isDoneWithout_35 : decode cX10_isDoneWithout 35 = .ok (.ireturn, 1) := by decide +kernel
theorem dX10_away_0 : decode cX10_away 0 = .ok (.aload_n 0, 1) := by decide +kernel
theorem dX10_away_1 : decode cX10_away 1 = .ok (.iload_n 1, 1) := by decide +kernel
theorem dX10_away_2 : decode cX10_away 2 = .ok (.invokevirtual 178, 3) := by decide +kernel
theorem dX10_away_5 : decode cX10_away 5 = .ok (.ifCond .eq 22, 3) := by decide +kernel
theorem dX10_away_8 : decode cX10_away 8 = .ok (.iload_n 2, 1) := by decide +kernel
theorem dX10_away_9 : decode cX10_away 9 = .ok (.iconst 0, 1) := by decide +kernel
theorem dX10_away_10 : decode cX10_away 10 = .ok (.bipush 99, 2) := by decide +kernel
theorem dX10_away_12 : decode cX10_away 12 = .ok (.invokestatic 47, 3) := by decide +kernel
theorem dX10_away_15 : decode cX10_away 15 = .ok (.ifCond .eq 12, 3) := by decide +kernel
theorem dX10_away_18 : decode cX10_away 18 = .ok (.iload_n 3, 1) := by decide +kernel
theorem dX10_away_19 : decode cX10_away 19 = .ok (.iconst 0, 1) := by decide +kernel
theorem dX10_away_20 : decode cX10_away 20 = .ok (.iconst 1, 1) := by decide +kernel
theorem dX10_away_21 : decode cX10_away 21 = .ok (.invokestatic 47, 3) := by decide +kernel
theorem dX10_away_24 : decode cX10_away 24 = .ok (.ifCond .ne 9, 3) := by decide +kernel
theorem dX10_away_27 : decode cX10_away 27 = .ok (.aload_n 0, 1) := by decide +kernel
theorem dX10_away_28 : decode cX10_away 28 = .ok (.iconst 1, 1) := by decide +kernel
theorem dX10_away_29 : decode cX10_away 29 = .ok (.invokevirtual 51, 3) := by decide +kernel
theorem dX10_away_32 : decode cX10_away 32 = .ok (.ireturn, 1) := by decide +kernel
theorem dX10_away_33 : decode cX10_away 33 = .ok (.aload_n 0, 1) := by decide +kernel
theorem dX10_away_34 : decode cX10_away 34 = .ok (.iload_n 1, 1) := by decide +kernel
theorem dX10_away_35 : decode cX10_away 35 = .ok (.iconst 2, 1) := by decide +kernel
theorem dX10_away_36 : decode cX10_away 36 = .ok (.invokevirtual 130, 3) := by decide +kernel
theorem dX10_away_39 : decode cX10_away 39 = .ok (.istore 4, 2) := by decide +kernel
theorem dX10_away_41 : decode cX10_away 41 = .ok (.iconst (-1), 1) := by decide +kernel
theorem dX10_away_42 : decode cX10_away 42 = .ok (.istore 5, 2) := by decide +kernel
theorem dX10_away_44 : decode cX10_away 44 = .ok (.iconst 0, 1) := by decide +kernel
theorem dX10_away_45 : decode cX10_away 45 = .ok (.istore 6, 2) := by decide +kernel
theorem dX10_away_47 : decode cX10_away 47 = .ok (.iload 6, 2) := by decide +kernel
theorem dX10_away_49 : decode cX10_away 49 = .ok (.iload 4, 2) := by decide +kernel
theorem dX10_away_51 : decode cX10_away 51 = .ok (.if_icmp .gt 70, 3) := by decide +kernel
theorem dX10_away_54 : decode cX10_away 54 = .ok (.iload 6, 2) := by decide +kernel
theorem dX10_away_56 : decode cX10_away 56 = .ok (.iload 4, 2) := by decide +kernel
theorem dX10_away_58 : decode cX10_away 58 = .ok (.iconst (-1), 1) := by decide +kernel
theorem dX10_away_59 : decode cX10_away 59 = .ok (.ixor, 1) := by decide +kernel
theorem dX10_away_60 : decode cX10_away 60 = .ok (.iand, 1) := by decide +kernel
theorem dX10_away_61 : decode cX10_away 61 = .ok (.ifCond .ne 26, 3) := by decide +kernel
theorem dX10_away_64 : decode cX10_away 64 = .ok (.iload 5, 2) := by decide +kernel
theorem dX10_away_66 : decode cX10_away 66 = .ok (.iconst (-1), 1) := by decide +kernel
theorem dX10_away_67 : decode cX10_away 67 = .ok (.if_icmp .eq 16, 3) := by decide +kernel
theorem dX10_away_70 : decode cX10_away 70 = .ok (.iload 6, 2) := by decide +kernel
theorem dX10_away_72 : decode cX10_away 72 = .ok (.invokestatic 136, 3) := by decide +kernel
theorem dX10_away_75 : decode cX10_away 75 = .ok (.iload 5, 2) := by decide +kernel
theorem dX10_away_77 : decode cX10_away 77 = .ok (.invokestatic 136, 3) := by decide +kernel
theorem dX10_away_80 : decode cX10_away 80 = .ok (.if_icmp .ge 7, 3) := by decide +kernel
theorem dX10_away_83 : decode cX10_away 83 = .ok (.iconst 1, 1) := by decide +kernel
theorem dX10_away_84 : decode cX10_away 84 = .ok (.goto 4, 3) := by decide +kernel
theorem dX10_away_87 : decode cX10_away 87 = .ok (.iconst 0, 1) := by decide +kernel
theorem dX10_away_88 : decode cX10_away 88 = .ok (.istore 7, 2) := by decide +kernel
theorem dX10_away_90 : decode cX10_away 90 = .ok (.iload 7, 2) := by decide +kernel
theorem dX10_away_92 : decode cX10_away 92 = .ok (.ifCond .eq 19, 3) := by decide +kernel
theorem dX10_away_95 : decode cX10_away 95 = .ok (.aload_n 0, 1) := by decide +kernel
theorem dX10_away_96 : decode cX10_away 96 = .ok (.iload_n 1, 1) := by decide +kernel
theorem dX10_away_97 : decode cX10_away 97 = .ok (.iload 6, 2) := by decide +kernel
theorem dX10_away_99 : decode cX10_away 99 = .ok (.iload_n 2, 1) := by decide +kernel
theorem dX10_away_100 : decode cX10_away 100 = .ok (.invokevirtual 209, 3) := by decide +kernel
theorem dX10_away_103 : decode cX10_away 103 = .ok (.ifCond .eq 8, 3) := by decide +kernel
theorem dX10_away_106 : decode cX10_away 106 = .ok (.iload 6, 2) := by decide +kernel
theorem dX10_away_108 : decode cX10_away 108 = .ok (.goto 5, 3) := by decide +kernel
theorem dX10_away_111 : decode cX10_away 111 = .ok (.iload 5, 2) := by decide +kernel
theorem dX10_away_113 : decode cX10_away 113 = .ok (.istore 5, 2) := by decide +kernel
theorem dX10_away_115 : decode cX10_away 115 = .ok (.iinc 6 1, 3) := by decide +kernel
theorem dX10_away_118 : decode cX10_away 118 = .ok (.goto (-71), 3) := by decide +kernel
theorem dX10_away_121 : decode cX10_away 121 = .ok (.iload 5, 2) := by decide +kernel
theorem dX10_away_123 : decode cX10_away 123 = .ok (.iconst (-1), 1) := by decide +kernel
theorem dX10_away_124 : decode cX10_away 124 = .ok (.if_icmp .ne 11, 3) := by decide +kernel
theorem dX10_away_127 : decode cX10_away 127 = .ok (.aload_n 0, 1) := by decide +kernel
theorem dX10_away_128 : decode cX10_away 128 = .ok (.iconst 2, 1) := by decide +kernel
theorem dX10_away_129 : decode cX10_away 129 = .ok (.invokevirtual 51, 3) := by decide +kernel
theorem dX10_away_132 : decode cX10_away 132 = .ok (.goto 17, 3) := by decide +kernel
theorem dX10_away_135 : decode cX10_away 135 = .ok (.iload_n 3, 1) := by decide +kernel
theorem dX10_away_136 : decode cX10_away 136 = .ok (.ifCond .ne 11, 3) := by decide +kernel
theorem dX10_away_139 : decode cX10_away 139 = .ok (.iload 5, 2) := by decide +kernel
theorem dX10_away_141 : decode cX10_away 141 = .ok (.invokestatic 136, 3) := by decide +kernel
theorem dX10_away_144 : decode cX10_away 144 = .ok (.goto 5, 3) := by decide +kernel
theorem dX10_away_147 : decode cX10_away 147 = .ok (.iload 5, 2) := by decide +kernel
theorem dX10_away_149 : decode cX10_away 149 = .ok (.ireturn, 1) := by decide +kernel
theorem dX10_phaseFor_0 : decode cX10_phaseFor 0 = .ok (.aload_n 0, 1) := by decide +kernel
theorem dX10_phaseFor_1 : decode cX10_phaseFor 1 = .ok (.iload_n 1, 1) := by decide +kernel
theorem dX10_phaseFor_2 : decode cX10_phaseFor 2 = .ok (.invokevirtual 166, 3) := by decide +kernel
theorem dX10_phaseFor_5 : decode cX10_phaseFor 5 = .ok (.ifCond .eq 20, 3) := by decide +kernel
theorem dX10_phaseFor_8 : decode cX10_phaseFor 8 = .ok (.aload_n 0, 1) := by decide +kernel
theorem dX10_phaseFor_9 : decode cX10_phaseFor 9 = .ok (.iload_n 2, 1) := by decide +kernel
theorem dX10_phaseFor_10 : decode cX10_phaseFor 10 = .ok (.invokevirtual 178, 3) := by decide +kernel
theorem dX10_phaseFor_13 : decode cX10_phaseFor 13 = .ok (.ifCond .eq 12, 3) := by decide +kernel
theorem dX10_phaseFor_16 : decode cX10_phaseFor 16 = .ok (.iload_n 3, 1) := by decide +kernel
theorem dX10_phaseFor_17 : decode cX10_phaseFor 17 = .ok (.iconst 0, 1) := by decide +kernel
theorem dX10_phaseFor_18 : decode cX10_phaseFor 18 = .ok (.iconst 1, 1) := by decide +kernel
theorem dX10_phaseFor_19 : decode cX10_phaseFor 19 = .ok (.invokestatic 47, 3) := by decide +kernel
theorem dX10_phaseFor_22 : decode cX10_phaseFor 22 = .ok (.ifCond .ne 9, 3) := by decide +kernel
theorem dX10_phaseFor_25 : decode cX10_phaseFor 25 = .ok (.aload_n 0, 1) := by decide +kernel
theorem dX10_phaseFor_26 : decode cX10_phaseFor 26 = .ok (.iconst 1, 1) := by decide +kernel
theorem dX10_phaseFor_27 : decode cX10_phaseFor 27 = .ok (.invokevirtual 51, 3) := by decide +kernel
theorem dX10_phaseFor_30 : decode cX10_phaseFor 30 = .ok (.ireturn, 1) := by decide +kernel
theorem dX10_phaseFor_31 : decode cX10_phaseFor 31 = .ok (.iconst (-1), 1) := by decide +kernel
theorem dX10_phaseFor_32 : decode cX10_phaseFor 32 = .ok (.istore 4, 2) := by decide +kernel
theorem dX10_phaseFor_34 : decode cX10_phaseFor 34 = .ok (.bipush 100, 2) := by decide +kernel
theorem dX10_phaseFor_36 : decode cX10_phaseFor 36 = .ok (.istore 5, 2) := by decide +kernel
theorem dX10_phaseFor_38 : decode cX10_phaseFor 38 = .ok (.iconst 0, 1) := by decide +kernel
theorem dX10_phaseFor_39 : decode cX10_phaseFor 39 = .ok (.istore 6, 2) := by decide +kernel
theorem dX10_phaseFor_41 : decode cX10_phaseFor 41 = .ok (.iload 6, 2) := by decide +kernel
theorem dX10_phaseFor_43 : decode cX10_phaseFor 43 = .ok (.aload_n 0, 1) := by decide +kernel
theorem dX10_phaseFor_44 : decode cX10_phaseFor 44 = .ok (.iload_n 1, 1) := by decide +kernel
theorem dX10_phaseFor_45 : decode cX10_phaseFor 45 = .ok (.iconst 2, 1) := by decide +kernel
theorem dX10_phaseFor_46 : decode cX10_phaseFor 46 = .ok (.invokevirtual 111, 3) := by decide +kernel
theorem dX10_phaseFor_49 : decode cX10_phaseFor 49 = .ok (.if_icmp .ge 78, 3) := by decide +kernel
theorem dX10_phaseFor_52 : decode cX10_phaseFor 52 = .ok (.aload_n 0, 1) := by decide +kernel
theorem dX10_phaseFor_53 : decode cX10_phaseFor 53 = .ok (.invokevirtual 194, 3) := by decide +kernel
theorem dX10_phaseFor_56 : decode cX10_phaseFor 56 = .ok (.aload_n 0, 1) := by decide +kernel
theorem dX10_phaseFor_57 : decode cX10_phaseFor 57 = .ok (.iload_n 1, 1) := by decide +kernel
theorem dX10_phaseFor_58 : decode cX10_phaseFor 58 = .ok (.iconst 3, 1) := by decide +kernel
theorem dX10_phaseFor_59 : decode cX10_phaseFor 59 = .ok (.iload 6, 2) := by decide +kernel
theorem dX10_phaseFor_61 : decode cX10_phaseFor 61 = .ok (.invokevirtual 163, 3) := by decide +kernel
theorem dX10_phaseFor_64 : decode cX10_phaseFor 64 = .ok (.aload_n 0, 1) := by decide +kernel
theorem dX10_phaseFor_65 : decode cX10_phaseFor 65 = .ok (.iload_n 2, 1) := by decide +kernel
theorem dX10_phaseFor_66 : decode cX10_phaseFor 66 = .ok (.bipush 99, 2) := by decide +kernel
theorem dX10_phaseFor_68 : decode cX10_phaseFor 68 = .ok (.invokevirtual 200, 3) := by decide +kernel
theorem dX10_phaseFor_71 : decode cX10_phaseFor 71 = .ok (.istore 7, 2) := by decide +kernel
theorem dX10_phaseFor_73 : decode cX10_phaseFor 73 = .ok (.iload 7, 2) := by decide +kernel
theorem dX10_phaseFor_75 : decode cX10_phaseFor 75 = .ok (.iconst (-1), 1) := by decide +kernel
theorem dX10_phaseFor_76 : decode cX10_phaseFor 76 = .ok (.if_icmp .eq 14, 3) := by decide +kernel
theorem dX10_phaseFor_79 : decode cX10_phaseFor 79 = .ok (.iload 7, 2) := by decide +kernel
theorem dX10_phaseFor_81 : decode cX10_phaseFor 81 = .ok (.iload 5, 2) := by decide +kernel
theorem dX10_phaseFor_83 : decode cX10_phaseFor 83 = .ok (.if_icmp .ge 7, 3) := by decide +kernel
theorem dX10_phaseFor_86 : decode cX10_phaseFor 86 = .ok (.iconst 1, 1) := by decide +kernel
theorem dX10_phaseFor_87 : decode cX10_phaseFor 87 = .ok (.goto 4, 3) := by decide +kernel
theorem dX10_phaseFor_90 : decode cX10_phaseFor 90 = .ok (.iconst 0, 1) := by decide +kernel
theorem dX10_phaseFor_91 : decode cX10_phaseFor 91 = .ok (.istore 8, 2) := by decide +kernel
theorem dX10_phaseFor_93 : decode cX10_phaseFor 93 = .ok (.iload 8, 2) := by decide +kernel
theorem dX10_phaseFor_95 : decode cX10_phaseFor 95 = .ok (.ifCond .eq 8, 3) := by decide +kernel
theorem dX10_phaseFor_98 : decode cX10_phaseFor 98 = .ok (.iload 6, 2) := by decide +kernel
theorem dX10_phaseFor_100 : decode cX10_phaseFor 100 = .ok (.goto 5, 3) := by decide +kernel
theorem dX10_phaseFor_103 : decode cX10_phaseFor 103 = .ok (.iload 4, 2) := by decide +kernel
theorem dX10_phaseFor_105 : decode cX10_phaseFor 105 = .ok (.istore 4, 2) := by decide +kernel
theorem dX10_phaseFor_107 : decode cX10_phaseFor 107 = .ok (.iload 8, 2) := by decide +kernel
theorem dX10_phaseFor_109 : decode cX10_phaseFor 109 = .ok (.ifCond .eq 8, 3) := by decide +kernel
theorem dX10_phaseFor_112 : decode cX10_phaseFor 112 = .ok (.iload 7, 2) := by decide +kernel
theorem dX10_phaseFor_114 : decode cX10_phaseFor 114 = .ok (.goto 5, 3) := by decide +kernel
theorem dX10_phaseFor_117 : decode cX10_phaseFor 117 = .ok (.iload 5, 2) := by decide +kernel
theorem dX10_phaseFor_119 : decode cX10_phaseFor 119 = .ok (.istore 5, 2) := by decide +kernel
theorem dX10_phaseFor_121 : decode cX10_phaseFor 121 = .ok (.iinc 6 1, 3) := by decide +kernel
theorem dX10_phaseFor_124 : decode cX10_phaseFor 124 = .ok (.goto (-83), 3) := by decide +kernel
theorem dX10_phaseFor_127 : decode cX10_phaseFor 127 = .ok (.iload 4, 2) := by decide +kernel
theorem dX10_phaseFor_129 : decode cX10_phaseFor 129 = .ok (.iconst (-1), 1) := by decide +kernel
theorem dX10_phaseFor_130 : decode cX10_phaseFor 130 = .ok (.if_icmp .ne 11, 3) := by decide +kernel
theorem dX10_phaseFor_133 : decode cX10_phaseFor 133 = .ok (.aload_n 0, 1) := by decide +kernel
theorem dX10_phaseFor_134 : decode cX10_phaseFor 134 = .ok (.iconst 2, 1) := by decide +kernel
theorem dX10_phaseFor_135 : decode cX10_phaseFor 135 = .ok (.invokevirtual 51, 3) := by decide +kernel
theorem dX10_phaseFor_138 : decode cX10_phaseFor 138 = .ok (.goto 14, 3) := by decide +kernel
theorem dX10_phaseFor_141 : decode cX10_phaseFor 141 = .ok (.iload_n 3, 1) := by decide +kernel
theorem dX10_phaseFor_142 : decode cX10_phaseFor 142 = .ok (.ifCond .ne 8, 3) := by decide +kernel
theorem dX10_phaseFor_145 : decode cX10_phaseFor 145 = .ok (.iload 4, 2) := by decide +kernel
theorem dX10_phaseFor_147 : decode cX10_phaseFor 147 = .ok (.goto 5, 3) := by decide +kernel
theorem dX10_phaseFor_150 : decode cX10_phaseFor 150 = .ok (.iload 5, 2) := by decide +kernel
theorem dX10_phaseFor_152 : decode cX10_phaseFor 152 = .ok (.ireturn, 1) := by decide +kernel
theorem dX10_divisor_0 : decode cX10_divisor 0 = .ok (.iload_n 0, 1) := by decide +kernel
theorem dX10_divisor_1 : decode cX10_divisor 1 = .ok (.istore_n 2, 1) := by decide +kernel
theorem dX10_divisor_2 : decode cX10_divisor 2 = .ok (.iload_n 1, 1) := by decide +kernel
theorem dX10_divisor_3 : decode cX10_divisor 3 = .ok (.istore_n 3, 1) := by decide +kernel
theorem dX10_divisor_4 : decode cX10_divisor 4 = .ok (.iload_n 3, 1) := by decide +kernel
theorem dX10_divisor_5 : decode cX10_divisor 5 = .ok (.ifCond .eq 16, 3) := by decide +kernel
theorem dX10_divisor_8 : decode cX10_divisor 8 = .ok (.iload_n 2, 1) := by decide +kernel
theorem dX10_divisor_9 : decode cX10_divisor 9 = .ok (.iload_n 3, 1) := by decide +kernel
theorem dX10_divisor_10 : decode cX10_divisor 10 = .ok (.irem, 1) := by decide +kernel
theorem dX10_divisor_11 : decode cX10_divisor 11 = .ok (.istore 4, 2) := by decide +kernel
theorem dX10_divisor_13 : decode cX10_divisor 13 = .ok (.iload_n 3, 1) := by decide +kernel
theorem dX10_divisor_14 : decode cX10_divisor 14 = .ok (.istore_n 2, 1) := by decide +kernel
theorem dX10_divisor_15 : decode cX10_divisor 15 = .ok (.iload 4, 2) := by decide +kernel
theorem dX10_divisor_17 : decode cX10_divisor 17 = .ok (.istore_n 3, 1) := by decide +kernel
theorem dX10_divisor_18 : decode cX10_divisor 18 = .ok (.goto (-14), 3) := by decide +kernel
theorem dX10_divisor_21 : decode cX10_divisor 21 = .ok (.iload_n 2, 1) := by decide +kernel
theorem dX10_divisor_22 : decode cX10_divisor 22 = .ok (.ireturn, 1) := by decide +kernel
theorem dX10_odds_0 : decode cX10_odds 0 = .ok (.aload_n 0, 1) := by decide +kernel
theorem dX10_odds_1 : decode cX10_odds 1 = .ok (.iload_n 1, 1) := by decide +kernel
theorem dX10_odds_2 : decode cX10_odds 2 = .ok (.invokevirtual 175, 3) := by decide +kernel
theorem dX10_odds_5 : decode cX10_odds 5 = .ok (.ifCond .eq 22, 3) := by decide +kernel
theorem dX10_odds_8 : decode cX10_odds 8 = .ok (.iload_n 2, 1) := by decide +kernel
theorem dX10_odds_9 : decode cX10_odds 9 = .ok (.iconst 1, 1) := by decide +kernel
theorem dX10_odds_10 : decode cX10_odds 10 = .ok (.bipush 99, 2) := by decide +kernel
theorem dX10_odds_12 : decode cX10_odds 12 = .ok (.invokestatic 47, 3) := by decide +kernel
theorem dX10_odds_15 : decode cX10_odds 15 = .ok (.ifCond .eq 12, 3) := by decide +kernel
theorem dX10_odds_18 : decode cX10_odds 18 = .ok (.iload_n 3, 1) := by decide +kernel
theorem dX10_odds_19 : decode cX10_odds 19 = .ok (.iconst 0, 1) := by decide +kernel
theorem dX10_odds_20 : decode cX10_odds 20 = .ok (.iconst 1, 1) := by decide +kernel
theorem dX10_odds_21 : decode cX10_odds 21 = .ok (.invokestatic 47, 3) := by decide +kernel
theorem dX10_odds_24 : decode cX10_odds 24 = .ok (.ifCond .ne 9, 3) := by decide +kernel
theorem dX10_odds_27 : decode cX10_odds 27 = .ok (.aload_n 0, 1) := by decide +kernel
theorem dX10_odds_28 : decode cX10_odds 28 = .ok (.iconst 1, 1) := by decide +kernel
theorem dX10_odds_29 : decode cX10_odds 29 = .ok (.invokevirtual 51, 3) := by decide +kernel
theorem dX10_odds_32 : decode cX10_odds 32 = .ok (.ireturn, 1) := by decide +kernel
theorem dX10_odds_33 : decode cX10_odds 33 = .ok (.aload_n 0, 1) := by decide +kernel
theorem dX10_odds_34 : decode cX10_odds 34 = .ok (.iload_n 1, 1) := by decide +kernel
theorem dX10_odds_35 : decode cX10_odds 35 = .ok (.iload_n 2, 1) := by decide +kernel
theorem dX10_odds_36 : decode cX10_odds 36 = .ok (.invokevirtual 206, 3) := by decide +kernel
theorem dX10_odds_39 : decode cX10_odds 39 = .ok (.istore 4, 2) := by decide +kernel
theorem dX10_odds_41 : decode cX10_odds 41 = .ok (.iload 4, 2) := by decide +kernel
theorem dX10_odds_43 : decode cX10_odds 43 = .ok (.iload_n 2, 1) := by decide +kernel
theorem dX10_odds_44 : decode cX10_odds 44 = .ok (.invokestatic 212, 3) := by decide +kernel
theorem dX10_odds_47 : decode cX10_odds 47 = .ok (.istore 5, 2) := by decide +kernel
theorem dX10_odds_49 : decode cX10_odds 49 = .ok (.iload_n 3, 1) := by decide +kernel
theorem dX10_odds_50 : decode cX10_odds 50 = .ok (.ifCond .ne 11, 3) := by decide +kernel
theorem dX10_odds_53 : decode cX10_odds 53 = .ok (.iload 4, 2) := by decide +kernel
theorem dX10_odds_55 : decode cX10_odds 55 = .ok (.iload 5, 2) := by decide +kernel
theorem dX10_odds_57 : decode cX10_odds 57 = .ok (.idiv, 1) := by decide +kernel
theorem dX10_odds_58 : decode cX10_odds 58 = .ok (.goto 7, 3) := by decide +kernel
theorem dX10_odds_61 : decode cX10_odds 61 = .ok (.iload_n 2, 1) := by decide +kernel
theorem dX10_odds_62 : decode cX10_odds 62 = .ok (.iload 5, 2) := by decide +kernel
theorem dX10_odds_64 : decode cX10_odds 64 = .ok (.idiv, 1) := by decide +kernel
theorem dX10_odds_65 : decode cX10_odds 65 = .ok (.ireturn, 1) := by decide +kernel
theorem dX10_isShutSo_0 : decode cX10_isShutSo 0 = .ok (.aload_n 0, 1) := by decide +kernel
theorem dX10_isShutSo_1 : decode cX10_isShutSo 1 = .ok (.invokevirtual 194, 3) := by decide +kernel
theorem dX10_isShutSo_4 : decode cX10_isShutSo 4 = .ok (.aload_n 0, 1) := by decide +kernel
theorem dX10_isShutSo_5 : decode cX10_isShutSo 5 = .ok (.iload_n 2, 1) := by decide +kernel
theorem dX10_isShutSo_6 : decode cX10_isShutSo 6 = .ok (.iconst 2, 1) := by decide +kernel
theorem dX10_isShutSo_7 : decode cX10_isShutSo 7 = .ok (.iload_n 3, 1) := by decide +kernel
theorem dX10_isShutSo_8 : decode cX10_isShutSo 8 = .ok (.invokevirtual 163, 3) := by decide +kernel
theorem dX10_isShutSo_11 : decode cX10_isShutSo 11 = .ok (.aload_n 0, 1) := by decide +kernel
theorem dX10_isShutSo_12 : decode cX10_isShutSo 12 = .ok (.iload_n 2, 1) := by decide +kernel
theorem dX10_isShutSo_13 : decode cX10_isShutSo 13 = .ok (.iconst 3, 1) := by decide +kernel
theorem dX10_isShutSo_14 : decode cX10_isShutSo 14 = .ok (.iload 4, 2) := by decide +kernel
theorem dX10_isShutSo_16 : decode cX10_isShutSo 16 = .ok (.invokevirtual 163, 3) := by decide +kernel
theorem dX10_isShutSo_19 : decode cX10_isShutSo 19 = .ok (.iconst 1, 1) := by decide +kernel
theorem dX10_isShutSo_20 : decode cX10_isShutSo 20 = .ok (.istore 5, 2) := by decide +kernel
theorem dX10_isShutSo_22 : decode cX10_isShutSo 22 = .ok (.iconst 0, 1) := by decide +kernel
theorem dX10_isShutSo_23 : decode cX10_isShutSo 23 = .ok (.istore 6, 2) := by decide +kernel
theorem dX10_isShutSo_25 : decode cX10_isShutSo 25 = .ok (.iload 6, 2) := by decide +kernel
theorem dX10_isShutSo_27 : decode cX10_isShutSo 27 = .ok (.aload_n 0, 1) := by decide +kernel
theorem dX10_isShutSo_28 : decode cX10_isShutSo 28 = .ok (.getfield 37, 3) := by decide +kernel
theorem dX10_isShutSo_31 : decode cX10_isShutSo 31 = .ok (.iload_n 1, 1) := by decide +kernel
theorem dX10_isShutSo_32 : decode cX10_isShutSo 32 = .ok (.iaload, 1) := by decide +kernel
theorem dX10_isShutSo_33 : decode cX10_isShutSo 33 = .ok (.if_icmp .ge 51, 3) := by decide +kernel
theorem dX10_isShutSo_36 : decode cX10_isShutSo 36 = .ok (.iload 5, 2) := by decide +kernel
theorem dX10_isShutSo_38 : decode cX10_isShutSo 38 = .ok (.ifCond .eq 46, 3) := by decide +kernel
theorem dX10_isShutSo_41 : decode cX10_isShutSo 41 = .ok (.aload_n 0, 1) := by decide +kernel
theorem dX10_isShutSo_42 : decode cX10_isShutSo 42 = .ok (.iload_n 2, 1) := by decide +kernel
theorem dX10_isShutSo_43 : decode cX10_isShutSo 43 = .ok (.invokevirtual 127, 3) := by decide +kernel
theorem dX10_isShutSo_46 : decode cX10_isShutSo 46 = .ok (.aload_n 0, 1) := by decide +kernel
theorem dX10_isShutSo_47 : decode cX10_isShutSo 47 = .ok (.getfield 40, 3) := by decide +kernel
theorem dX10_isShutSo_50 : decode cX10_isShutSo 50 = .ok (.bipush 24, 2) := by decide +kernel
theorem dX10_isShutSo_52 : decode cX10_isShutSo 52 = .ok (.iload_n 1, 1) := by decide +kernel
theorem dX10_isShutSo_53 : decode cX10_isShutSo 53 = .ok (.imul, 1) := by decide +kernel
theorem dX10_isShutSo_54 : decode cX10_isShutSo 54 = .ok (.iload 6, 2) := by decide +kernel
theorem dX10_isShutSo_56 : decode cX10_isShutSo 56 = .ok (.iadd, 1) := by decide +kernel
theorem dX10_isShutSo_57 : decode cX10_isShutSo 57 = .ok (.iaload, 1) := by decide +kernel
theorem dX10_isShutSo_58 : decode cX10_isShutSo 58 = .ok (.if_icmp .ne 7, 3) := by decide +kernel
theorem dX10_isShutSo_61 : decode cX10_isShutSo 61 = .ok (.iconst 1, 1) := by decide +kernel
theorem dX10_isShutSo_62 : decode cX10_isShutSo 62 = .ok (.goto 4, 3) := by decide +kernel
theorem dX10_isShutSo_65 : decode cX10_isShutSo 65 = .ok (.iconst 0, 1) := by decide +kernel
theorem dX10_isShutSo_66 : decode cX10_isShutSo 66 = .ok (.istore 5, 2) := by decide +kernel
theorem dX10_isShutSo_68 : decode cX10_isShutSo 68 = .ok (.aload_n 0, 1) := by decide +kernel
theorem dX10_isShutSo_69 : decode cX10_isShutSo 69 = .ok (.getfield 7, 3) := by decide +kernel
theorem dX10_isShutSo_72 : decode cX10_isShutSo 72 = .ok (.iconst 0, 1) := by decide +kernel
theorem dX10_isShutSo_73 : decode cX10_isShutSo 73 = .ok (.dup2, 1) := by decide +kernel
theorem dX10_isShutSo_74 : decode cX10_isShutSo 74 = .ok (.iaload, 1) := by decide +kernel
theorem dX10_isShutSo_75 : decode cX10_isShutSo 75 = .ok (.iconst 1, 1) := by decide +kernel
theorem dX10_isShutSo_76 : decode cX10_isShutSo 76 = .ok (.iadd, 1) := by decide +kernel
theorem dX10_isShutSo_77 : decode cX10_isShutSo 77 = .ok (.iastore, 1) := by decide +kernel
theorem dX10_isShutSo_78 : decode cX10_isShutSo 78 = .ok (.iinc 6 1, 3) := by decide +kernel
theorem dX10_isShutSo_81 : decode cX10_isShutSo 81 = .ok (.goto (-56), 3) := by decide +kernel
theorem dX10_isShutSo_84 : decode cX10_isShutSo 84 = .ok (.aload_n 0, 1) := by decide +kernel
theorem dX10_isShutSo_85 : decode cX10_isShutSo 85 = .ok (.invokevirtual 197, 3) := by decide +kernel
theorem dX10_isShutSo_88 : decode cX10_isShutSo 88 = .ok (.iload 5, 2) := by decide +kernel
theorem dX10_isShutSo_90 : decode cX10_isShutSo 90 = .ok (.ireturn, 1) := by decide +kernel
theorem dX10_fits_0 : decode cX10_fits 0 = .ok (.aload_n 0, 1) := by decide +kernel
theorem dX10_fits_1 : decode cX10_fits 1 = .ok (.iload_n 2, 1) := by decide +kernel
theorem dX10_fits_2 : decode cX10_fits 2 = .ok (.invokevirtual 166, 3) := by decide +kernel
theorem dX10_fits_5 : decode cX10_fits 5 = .ok (.ifCond .eq 20, 3) := by decide +kernel
theorem dX10_fits_8 : decode cX10_fits 8 = .ok (.iload_n 3, 1) := by decide +kernel
theorem dX10_fits_9 : decode cX10_fits 9 = .ok (.iconst 0, 1) := by decide +kernel
theorem dX10_fits_10 : decode cX10_fits 10 = .ok (.iconst 1, 1) := by decide +kernel
theorem dX10_fits_11 : decode cX10_fits 11 = .ok (.invokestatic 47, 3) := by decide +kernel
theorem dX10_fits_14 : decode cX10_fits 14 = .ok (.ifCond .eq 11, 3) := by decide +kernel
theorem dX10_fits_17 : decode cX10_fits 17 = .ok (.aload_n 0, 1) := by decide +kernel
theorem dX10_fits_18 : decode cX10_fits 18 = .ok (.iload_n 1, 1) := by decide +kernel
theorem dX10_fits_19 : decode cX10_fits 19 = .ok (.invokevirtual 215, 3) := by decide +kernel
theorem dX10_fits_22 : decode cX10_fits 22 = .ok (.goto 4, 3) := by decide +kernel
theorem dX10_fits_25 : decode cX10_fits 25 = .ok (.iconst 1, 1) := by decide +kernel
theorem dX10_fits_26 : decode cX10_fits 26 = .ok (.istore 4, 2) := by decide +kernel
theorem dX10_fits_28 : decode cX10_fits 28 = .ok (.iload 4, 2) := by decide +kernel
theorem dX10_fits_30 : decode cX10_fits 30 = .ok (.ifCond .eq 10, 3) := by decide +kernel
theorem dX10_fits_33 : decode cX10_fits 33 = .ok (.aload_n 0, 1) := by decide +kernel
theorem dX10_fits_34 : decode cX10_fits 34 = .ok (.iload 4, 2) := by decide +kernel
theorem dX10_fits_36 : decode cX10_fits 36 = .ok (.invokevirtual 51, 3) := by decide +kernel
theorem dX10_fits_39 : decode cX10_fits 39 = .ok (.ireturn, 1) := by decide +kernel
theorem dX10_fits_40 : decode cX10_fits 40 = .ok (.iconst 0, 1) := by decide +kernel
theorem dX10_fits_41 : decode cX10_fits 41 = .ok (.istore 5, 2) := by decide +kernel
theorem dX10_fits_43 : decode cX10_fits 43 = .ok (.iconst (-1), 1) := by decide +kernel
theorem dX10_fits_44 : decode cX10_fits 44 = .ok (.istore 6, 2) := by decide +kernel
theorem dX10_fits_46 : decode cX10_fits 46 = .ok (.bipush 12, 2) := by decide +kernel
theorem dX10_fits_48 : decode cX10_fits 48 = .ok (.istore 7, 2) := by decide +kernel
theorem dX10_fits_50 : decode cX10_fits 50 = .ok (.iload 7, 2) := by decide +kernel
theorem dX10_fits_52 : decode cX10_fits 52 = .ok (.ifCond .le 73, 3) := by decide +kernel
theorem dX10_fits_55 : decode cX10_fits 55 = .ok (.iload 7, 2) := by decide +kernel
theorem dX10_fits_57 : decode cX10_fits 57 = .ok (.iconst 1, 1) := by decide +kernel
theorem dX10_fits_58 : decode cX10_fits 58 = .ok (.isub, 1) := by decide +kernel
theorem dX10_fits_59 : decode cX10_fits 59 = .ok (.istore 8, 2) := by decide +kernel
theorem dX10_fits_61 : decode cX10_fits 61 = .ok (.iload 8, 2) := by decide +kernel
theorem dX10_fits_63 : decode cX10_fits 63 = .ok (.ifCond .lt 56, 3) := by decide +kernel
theorem dX10_fits_66 : decode cX10_fits 66 = .ok (.aload_n 0, 1) := by decide +kernel
theorem dX10_fits_67 : decode cX10_fits 67 = .ok (.iload_n 1, 1) := by decide +kernel
theorem dX10_fits_68 : decode cX10_fits 68 = .ok (.iload_n 2, 1) := by decide +kernel
theorem dX10_fits_69 : decode cX10_fits 69 = .ok (.iload 7, 2) := by decide +kernel
theorem dX10_fits_71 : decode cX10_fits 71 = .ok (.iload 8, 2) := by decide +kernel
theorem dX10_fits_73 : decode cX10_fits 73 = .ok (.invokevirtual 218, 3) := by decide +kernel
theorem dX10_fits_76 : decode cX10_fits 76 = .ok (.istore 9, 2) := by decide +kernel
theorem dX10_fits_78 : decode cX10_fits 78 = .ok (.iload 5, 2) := by decide +kernel
theorem dX10_fits_80 : decode cX10_fits 80 = .ok (.iload 9, 2) := by decide +kernel
theorem dX10_fits_82 : decode cX10_fits 82 = .ok (.ifCond .eq 7, 3) := by decide +kernel
theorem dX10_fits_85 : decode cX10_fits 85 = .ok (.iconst 1, 1) := by decide +kernel
theorem dX10_fits_86 : decode cX10_fits 86 = .ok (.goto 4, 3) := by decide +kernel
theorem dX10_fits_89 : decode cX10_fits 89 = .ok (.iconst 0, 1) := by decide +kernel
theorem dX10_fits_90 : decode cX10_fits 90 = .ok (.iadd, 1) := by decide +kernel
theorem dX10_fits_91 : decode cX10_fits 91 = .ok (.istore 5, 2) := by decide +kernel
theorem dX10_fits_93 : decode cX10_fits 93 = .ok (.iload 9, 2) := by decide +kernel
theorem dX10_fits_95 : decode cX10_fits 95 = .ok (.ifCond .eq 14, 3) := by decide +kernel
theorem dX10_fits_98 : decode cX10_fits 98 = .ok (.bipush 100, 2) := by decide +kernel
theorem dX10_fits_100 : decode cX10_fits 100 = .ok (.iload 7, 2) := by decide +kernel
theorem dX10_fits_102 : decode cX10_fits 102 = .ok (.imul, 1) := by decide +kernel
theorem dX10_fits_103 : decode cX10_fits 103 = .ok (.iload 8, 2) := by decide +kernel
theorem dX10_fits_105 : decode cX10_fits 105 = .ok (.iadd, 1) := by decide +kernel
theorem dX10_fits_106 : decode cX10_fits 106 = .ok (.goto 5, 3) := by decide +kernel
theorem dX10_fits_109 : decode cX10_fits 109 = .ok (.iload 6, 2) := by decide +kernel
theorem dX10_fits_111 : decode cX10_fits 111 = .ok (.istore 6, 2) := by decide +kernel
theorem dX10_fits_113 : decode cX10_fits 113 = .ok (.iinc 8 (-1), 3) := by decide +kernel
theorem dX10_fits_116 : decode cX10_fits 116 = .ok (.goto (-55), 3) := by decide +kernel
theorem dX10_fits_119 : decode cX10_fits 119 = .ok (.iinc 7 (-1), 3) := by decide +kernel
theorem dX10_fits_122 : decode cX10_fits 122 = .ok (.goto (-72), 3) := by decide +kernel
theorem dX10_fits_125 : decode cX10_fits 125 = .ok (.iload_n 3, 1) := by decide +kernel
theorem dX10_fits_126 : decode cX10_fits 126 = .ok (.ifCond .ne 8, 3) := by decide +kernel
theorem dX10_fits_129 : decode cX10_fits 129 = .ok (.iload 5, 2) := by decide +kernel
theorem dX10_fits_131 : decode cX10_fits 131 = .ok (.goto 19, 3) := by decide +kernel
theorem dX10_fits_134 : decode cX10_fits 134 = .ok (.iload 6, 2) := by decide +kernel
theorem dX10_fits_136 : decode cX10_fits 136 = .ok (.iconst (-1), 1) := by decide +kernel
theorem dX10_fits_137 : decode cX10_fits 137 = .ok (.if_icmp .ne 11, 3) := by decide +kernel
theorem dX10_fits_140 : decode cX10_fits 140 = .ok (.aload_n 0, 1) := by decide +kernel
theorem dX10_fits_141 : decode cX10_fits 141 = .ok (.iconst 2, 1) := by decide +kernel
theorem dX10_fits_142 : decode cX10_fits 142 = .ok (.invokevirtual 51, 3) := by decide +kernel
theorem dX10_fits_145 : decode cX10_fits 145 = .ok (.goto 5, 3) := by decide +kernel
theorem dX10_fits_148 : decode cX10_fits 148 = .ok (.iload 6, 2) := by decide +kernel
theorem dX10_fits_150 : decode cX10_fits 150 = .ok (.ireturn, 1) := by decide +kernel
theorem dX10_starts_0 : decode cX10_starts 0 = .ok (.aload_n 0, 1) := by decide +kernel
theorem dX10_starts_1 : decode cX10_starts 1 = .ok (.getfield 222, 3) := by decide +kernel
theorem dX10_starts_4 : decode cX10_starts 4 = .ok (.bipush 30, 2) := by decide +kernel
theorem dX10_starts_6 : decode cX10_starts 6 = .ok (.if_icmp .ge 23, 3) := by decide +kernel
theorem dX10_starts_9 : decode cX10_starts 9 = .ok (.aload_n 0, 1) := by decide +kernel
theorem dX10_starts_10 : decode cX10_starts 10 = .ok (.getfield 31, 3) := by decide +kernel
theorem dX10_starts_13 : decode cX10_starts 13 = .ok (.aload_n 0, 1) := by decide +kernel
theorem dX10_starts_14 : decode cX10_starts 14 = .ok (.getfield 222, 3) := by decide +kernel
theorem dX10_starts_17 : decode cX10_starts 17 = .ok (.iload_n 1, 1) := by decide +kernel
theorem dX10_starts_18 : decode cX10_starts 18 = .ok (.iastore, 1) := by decide +kernel
theorem dX10_starts_19 : decode cX10_starts 19 = .ok (.aload_n 0, 1) := by decide +kernel
theorem dX10_starts_20 : decode cX10_starts 20 = .ok (.dup, 1) := by decide +kernel
theorem dX10_starts_21 : decode cX10_starts 21 = .ok (.getfield 222, 3) := by decide +kernel
theorem dX10_starts_24 : decode cX10_starts 24 = .ok (.iconst 1, 1) := by decide +kernel
theorem dX10_starts_25 : decode cX10_starts 25 = .ok (.iadd, 1) := by decide +kernel
theorem dX10_starts_26 : decode cX10_starts 26 = .ok (.putfield 222, 3) := by decide +kernel
theorem dX10_starts_29 : decode cX10_starts 29 = .ok (.return_, 1) := by decide +kernel
theorem dX10_above_0 : decode cX10_above 0 = .ok (.iload_n 0, 1) := by decide +kernel
theorem dX10_above_1 : decode cX10_above 1 = .ok (.iconst 4, 1) := by decide +kernel
theorem dX10_above_2 : decode cX10_above 2 = .ok (.if_icmp .ne 7, 3) := by decide +kernel
theorem dX10_above_5 : decode cX10_above 5 = .ok (.iconst 1, 1) := by decide +kernel
theorem dX10_above_6 : decode cX10_above 6 = .ok (.goto 13, 3) := by decide +kernel
theorem dX10_above_9 : decode cX10_above 9 = .ok (.iload_n 0, 1) := by decide +kernel
theorem dX10_above_10 : decode cX10_above 10 = .ok (.iconst 5, 1) := by decide +kernel
theorem dX10_above_11 : decode cX10_above 11 = .ok (.if_icmp .ne 7, 3) := by decide +kernel
theorem dX10_above_14 : decode cX10_above 14 = .ok (.iconst 2, 1) := by decide +kernel
theorem dX10_above_15 : decode cX10_above 15 = .ok (.goto 4, 3) := by decide +kernel
theorem dX10_above_18 : decode cX10_above 18 = .ok (.iconst 0, 1) := by decide +kernel
theorem dX10_above_19 : decode cX10_above 19 = .ok (.ireturn, 1) := by decide +kernel
theorem dX10_kindNow_0 : decode cX10_kindNow 0 = .ok (.aload_n 0, 1) := by decide +kernel
theorem dX10_kindNow_1 : decode cX10_kindNow 1 = .ok (.aload_n 0, 1) := by decide +kernel
theorem dX10_kindNow_2 : decode cX10_kindNow 2 = .ok (.getfield 225, 3) := by decide +kernel
theorem dX10_kindNow_5 : decode cX10_kindNow 5 = .ok (.iconst 0, 1) := by decide +kernel
theorem dX10_kindNow_6 : decode cX10_kindNow 6 = .ok (.invokevirtual 111, 3) := by decide +kernel
theorem dX10_kindNow_9 : decode cX10_kindNow 9 = .ok (.ireturn, 1) := by decide +kernel
theorem dX10_mNow_0 : decode cX10_mNow 0 = .ok (.aload_n 0, 1) := by decide +kernel
theorem dX10_mNow_1 : decode cX10_mNow 1 = .ok (.aload_n 0, 1) := by decide +kernel
theorem dX10_mNow_2 : decode cX10_mNow 2 = .ok (.getfield 225, 3) := by decide +kernel
theorem dX10_mNow_5 : decode cX10_mNow 5 = .ok (.iconst 1, 1) := by decide +kernel
theorem dX10_mNow_6 : decode cX10_mNow 6 = .ok (.invokevirtual 111, 3) := by decide +kernel
theorem dX10_mNow_9 : decode cX10_mNow 9 = .ok (.ireturn, 1) := by decide +kernel
theorem dX10_blinksAs_0 : decode cX10_blinksAs 0 = .ok (.iload_n 1, 1) := by decide +kernel
theorem dX10_blinksAs_1 : decode cX10_blinksAs 1 = .ok (.tableswitch 101 0 6 #[43, 56, 101, 101, 74, 101, 92], 43) := by decide +kernel
theorem dX10_blinksAs_44 : decode cX10_blinksAs 44 = .ok (.aload_n 0, 1) := by decide +kernel
theorem dX10_blinksAs_45 : decode cX10_blinksAs 45 = .ok (.bipush 10, 2) := by decide +kernel
theorem dX10_blinksAs_47 : decode cX10_blinksAs 47 = .ok (.invokevirtual 228, 3) := by decide +kernel
theorem dX10_blinksAs_50 : decode cX10_blinksAs 50 = .ok (.iload_n 2, 1) := by decide +kernel
theorem dX10_blinksAs_51 : decode cX10_blinksAs 51 = .ok (.aload_n 0, 1) := by decide +kernel
theorem dX10_blinksAs_52 : decode cX10_blinksAs 52 = .ok (.getfield 225, 3) := by decide +kernel
theorem dX10_blinksAs_55 : decode cX10_blinksAs 55 = .ok (.iadd, 1) := by decide +kernel
theorem dX10_blinksAs_56 : decode cX10_blinksAs 56 = .ok (.ireturn, 1) := by decide +kernel
theorem dX10_blinksAs_57 : decode cX10_blinksAs 57 = .ok (.aload_n 0, 1) := by decide +kernel
theorem dX10_blinksAs_58 : decode cX10_blinksAs 58 = .ok (.bipush 20, 2) := by decide +kernel
theorem dX10_blinksAs_60 : decode cX10_blinksAs 60 = .ok (.invokevirtual 228, 3) := by decide +kernel
theorem dX10_blinksAs_63 : decode cX10_blinksAs 63 = .ok (.aload_n 0, 1) := by decide +kernel
theorem dX10_blinksAs_64 : decode cX10_blinksAs 64 = .ok (.iconst 1, 1) := by decide +kernel
theorem dX10_blinksAs_65 : decode cX10_blinksAs 65 = .ok (.invokestatic 172, 3) := by decide +kernel
theorem dX10_blinksAs_68 : decode cX10_blinksAs 68 = .ok (.iload_n 2, 1) := by decide +kernel
theorem dX10_blinksAs_69 : decode cX10_blinksAs 69 = .ok (.invokevirtual 232, 3) := by decide +kernel
theorem dX10_blinksAs_72 : decode cX10_blinksAs 72 = .ok (.iconst 4, 1) := by decide +kernel
theorem dX10_blinksAs_73 : decode cX10_blinksAs 73 = .ok (.isub, 1) := by decide +kernel
theorem dX10_blinksAs_74 : decode cX10_blinksAs 74 = .ok (.ireturn, 1) := by decide +kernel
theorem dX10_blinksAs_75 : decode cX10_blinksAs 75 = .ok (.aload_n 0, 1) := by decide +kernel
theorem dX10_blinksAs_76 : decode cX10_blinksAs 76 = .ok (.bipush 50, 2) := by decide +kernel
theorem dX10_blinksAs_78 : decode cX10_blinksAs 78 = .ok (.invokevirtual 228, 3) := by decide +kernel
theorem dX10_blinksAs_81 : decode cX10_blinksAs 81 = .ok (.aload_n 0, 1) := by decide +kernel
theorem dX10_blinksAs_82 : decode cX10_blinksAs 82 = .ok (.iconst 4, 1) := by decide +kernel
theorem dX10_blinksAs_83 : decode cX10_blinksAs 83 = .ok (.invokestatic 172, 3) := by decide +kernel
theorem dX10_blinksAs_86 : decode cX10_blinksAs 86 = .ok (.iload_n 2, 1) := by decide +kernel
theorem dX10_blinksAs_87 : decode cX10_blinksAs 87 = .ok (.invokevirtual 232, 3) := by decide +kernel
theorem dX10_blinksAs_90 : decode cX10_blinksAs 90 = .ok (.iconst 3, 1) := by decide +kernel
theorem dX10_blinksAs_91 : decode cX10_blinksAs 91 = .ok (.imul, 1) := by decide +kernel
theorem dX10_blinksAs_92 : decode cX10_blinksAs 92 = .ok (.ireturn, 1) := by decide +kernel
theorem dX10_blinksAs_93 : decode cX10_blinksAs 93 = .ok (.aload_n 0, 1) := by decide +kernel
theorem dX10_blinksAs_94 : decode cX10_blinksAs 94 = .ok (.bipush 70, 2) := by decide +kernel
theorem dX10_blinksAs_96 : decode cX10_blinksAs 96 = .ok (.invokevirtual 228, 3) := by decide +kernel
theorem dX10_blinksAs_99 : decode cX10_blinksAs 99 = .ok (.bipush 9, 2) := by decide +kernel
theorem dX10_blinksAs_101 : decode cX10_blinksAs 101 = .ok (.ireturn, 1) := by decide +kernel
theorem dX10_blinksAs_102 : decode cX10_blinksAs 102 = .ok (.aload_n 0, 1) := by decide +kernel
theorem dX10_blinksAs_103 : decode cX10_blinksAs 103 = .ok (.iload_n 1, 1) := by decide +kernel
theorem dX10_blinksAs_104 : decode cX10_blinksAs 104 = .ok (.invokestatic 172, 3) := by decide +kernel
theorem dX10_blinksAs_107 : decode cX10_blinksAs 107 = .ok (.iload_n 2, 1) := by decide +kernel
theorem dX10_blinksAs_108 : decode cX10_blinksAs 108 = .ok (.invokevirtual 232, 3) := by decide +kernel
theorem dX10_blinksAs_111 : decode cX10_blinksAs 111 = .ok (.ireturn, 1) := by decide +kernel
theorem dX10_movesAs_0 : decode cX10_movesAs 0 = .ok (.iload_n 1, 1) := by decide +kernel
theorem dX10_movesAs_1 : decode cX10_movesAs 1 = .ok (.tableswitch 119 0 6 #[43, 119, 61, 119, 119, 79, 97], 43) := by decide +kernel
theorem dX10_movesAs_44 : decode cX10_movesAs 44 = .ok (.aload_n 0, 1) := by decide +kernel
theorem dX10_movesAs_45 : decode cX10_movesAs 45 = .ok (.bipush 11, 2) := by decide +kernel
theorem dX10_movesAs_47 : decode cX10_movesAs 47 = .ok (.invokevirtual 228, 3) := by decide +kernel
theorem dX10_movesAs_50 : decode cX10_movesAs 50 = .ok (.aload_n 0, 1) := by decide +kernel
theorem dX10_movesAs_51 : decode cX10_movesAs 51 = .ok (.aload_n 0, 1) := by decide +kernel
theorem dX10_movesAs_52 : decode cX10_movesAs 52 = .ok (.invokevirtual 235, 3) := by decide +kernel
theorem dX10_movesAs_55 : decode cX10_movesAs 55 = .ok (.iload_n 2, 1) := by decide +kernel
theorem dX10_movesAs_56 : decode cX10_movesAs 56 = .ok (.invokevirtual 232, 3) := by decide +kernel
theorem dX10_movesAs_59 : decode cX10_movesAs 59 = .ok (.iconst 2, 1) := by decide +kernel
theorem dX10_movesAs_60 : decode cX10_movesAs 60 = .ok (.imul, 1) := by decide +kernel
theorem dX10_movesAs_61 : decode cX10_movesAs 61 = .ok (.ireturn, 1) := by decide +kernel
theorem dX10_movesAs_62 : decode cX10_movesAs 62 = .ok (.aload_n 0, 1) := by decide +kernel
theorem dX10_movesAs_63 : decode cX10_movesAs 63 = .ok (.bipush 30, 2) := by decide +kernel
theorem dX10_movesAs_65 : decode cX10_movesAs 65 = .ok (.invokevirtual 228, 3) := by decide +kernel
theorem dX10_movesAs_68 : decode cX10_movesAs 68 = .ok (.iconst 0, 1) := by decide +kernel
theorem dX10_movesAs_69 : decode cX10_movesAs 69 = .ok (.aload_n 0, 1) := by decide +kernel
theorem dX10_movesAs_70 : decode cX10_movesAs 70 = .ok (.iconst 2, 1) := by decide +kernel
theorem dX10_movesAs_71 : decode cX10_movesAs 71 = .ok (.invokestatic 172, 3) := by decide +kernel
theorem dX10_movesAs_74 : decode cX10_movesAs 74 = .ok (.iload_n 2, 1) := by decide +kernel
theorem dX10_movesAs_75 : decode cX10_movesAs 75 = .ok (.invokevirtual 238, 3) := by decide +kernel
theorem dX10_movesAs_78 : decode cX10_movesAs 78 = .ok (.isub, 1) := by decide +kernel
theorem dX10_movesAs_79 : decode cX10_movesAs 79 = .ok (.ireturn, 1) := by decide +kernel
theorem dX10_movesAs_80 : decode cX10_movesAs 80 = .ok (.aload_n 0, 1) := by decide +kernel
theorem dX10_movesAs_81 : decode cX10_movesAs 81 = .ok (.bipush 60, 2) := by decide +kernel
theorem dX10_movesAs_83 : decode cX10_movesAs 83 = .ok (.invokevirtual 228, 3) := by decide +kernel
theorem dX10_movesAs_86 : decode cX10_movesAs 86 = .ok (.aload_n 0, 1) := by decide +kernel
theorem dX10_movesAs_87 : decode cX10_movesAs 87 = .ok (.iconst 5, 1) := by decide +kernel
theorem dX10_movesAs_88 : decode cX10_movesAs 88 = .ok (.invokestatic 172, 3) := by decide +kernel
theorem dX10_movesAs_91 : decode cX10_movesAs 91 = .ok (.iload_n 2, 1) := by decide +kernel
theorem dX10_movesAs_92 : decode cX10_movesAs 92 = .ok (.iconst 1, 1) := by decide +kernel
theorem dX10_movesAs_93 : decode cX10_movesAs 93 = .ok (.iadd, 1) := by decide +kernel
theorem dX10_movesAs_94 : decode cX10_movesAs 94 = .ok (.invokevirtual 238, 3) := by decide +kernel
theorem dX10_movesAs_97 : decode cX10_movesAs 97 = .ok (.ireturn, 1) := by decide +kernel
theorem dX10_movesAs_98 : decode cX10_movesAs 98 = .ok (.aload_n 0, 1) := by decide +kernel
theorem dX10_movesAs_99 : decode cX10_movesAs 99 = .ok (.bipush 71, 2) := by decide +kernel
theorem dX10_movesAs_101 : decode cX10_movesAs 101 = .ok (.invokevirtual 228, 3) := by decide +kernel
theorem dX10_movesAs_104 : decode cX10_movesAs 104 = .ok (.aload_n 0, 1) := by decide +kernel
theorem dX10_movesAs_105 : decode cX10_movesAs 105 = .ok (.bipush 6, 2) := by decide +kernel
theorem dX10_movesAs_107 : decode cX10_movesAs 107 = .ok (.invokestatic 172, 3) := by decide +kernel
theorem dX10_movesAs_110 : decode cX10_movesAs 110 = .ok (.iload_n 2, 1) := by decide +kernel
theorem dX10_movesAs_111 : decode cX10_movesAs 111 = .ok (.invokevirtual 238, 3) := by decide +kernel
theorem dX10_movesAs_114 : decode cX10_movesAs 114 = .ok (.aload_n 0, 1) := by decide +kernel
theorem dX10_movesAs_115 : decode cX10_movesAs 115 = .ok (.invokevirtual 241, 3) := by decide +kernel
theorem dX10_movesAs_118 : decode cX10_movesAs 118 = .ok (.iadd, 1) := by decide +kernel
theorem dX10_movesAs_119 : decode cX10_movesAs 119 = .ok (.ireturn, 1) := by decide +kernel
theorem dX10_movesAs_120 : decode cX10_movesAs 120 = .ok (.aload_n 0, 1) := by decide +kernel
theorem dX10_movesAs_121 : decode cX10_movesAs 121 = .ok (.iload_n 1, 1) := by decide +kernel
theorem dX10_movesAs_122 : decode cX10_movesAs 122 = .ok (.invokestatic 172, 3) := by decide +kernel
theorem dX10_movesAs_125 : decode cX10_movesAs 125 = .ok (.iload_n 2, 1) := by decide +kernel
theorem dX10_movesAs_126 : decode cX10_movesAs 126 = .ok (.invokevirtual 238, 3) := by decide +kernel
theorem dX10_movesAs_129 : decode cX10_movesAs 129 = .ok (.ireturn, 1) := by decide +kernel
theorem dX10_looksAs_0 : decode cX10_looksAs 0 = .ok (.iload_n 1, 1) := by decide +kernel
theorem dX10_looksAs_1 : decode cX10_looksAs 1 = .ok (.tableswitch 95 0 4 #[35, 95, 95, 56, 74], 35) := by decide +kernel
theorem dX10_looksAs_36 : decode cX10_looksAs 36 = .ok (.aload_n 0, 1) := by decide +kernel
theorem dX10_looksAs_37 : decode cX10_looksAs 37 = .ok (.bipush 12, 2) := by decide +kernel
theorem dX10_looksAs_39 : decode cX10_looksAs 39 = .ok (.invokevirtual 228, 3) := by decide +kernel
theorem dX10_looksAs_42 : decode cX10_looksAs 42 = .ok (.aload_n 0, 1) := by decide +kernel
theorem dX10_looksAs_43 : decode cX10_looksAs 43 = .ok (.aload_n 0, 1) := by decide +kernel
theorem dX10_looksAs_44 : decode cX10_looksAs 44 = .ok (.invokevirtual 235, 3) := by decide +kernel
theorem dX10_looksAs_47 : decode cX10_looksAs 47 = .ok (.iload_n 2, 1) := by decide +kernel
theorem dX10_looksAs_48 : decode cX10_looksAs 48 = .ok (.invokevirtual 238, 3) := by decide +kernel
theorem dX10_looksAs_51 : decode cX10_looksAs 51 = .ok (.aload_n 0, 1) := by decide +kernel
theorem dX10_looksAs_52 : decode cX10_looksAs 52 = .ok (.invokevirtual 241, 3) := by decide +kernel
theorem dX10_looksAs_55 : decode cX10_looksAs 55 = .ok (.isub, 1) := by decide +kernel
theorem dX10_looksAs_56 : decode cX10_looksAs 56 = .ok (.ireturn, 1) := by decide +kernel
theorem dX10_looksAs_57 : decode cX10_looksAs 57 = .ok (.aload_n 0, 1) := by decide +kernel
theorem dX10_looksAs_58 : decode cX10_looksAs 58 = .ok (.bipush 40, 2) := by decide +kernel
theorem dX10_looksAs_60 : decode cX10_looksAs 60 = .ok (.invokevirtual 228, 3) := by decide +kernel
theorem dX10_looksAs_63 : decode cX10_looksAs 63 = .ok (.aload_n 0, 1) := by decide +kernel
theorem dX10_looksAs_64 : decode cX10_looksAs 64 = .ok (.iconst 3, 1) := by decide +kernel
theorem dX10_looksAs_65 : decode cX10_looksAs 65 = .ok (.invokestatic 172, 3) := by decide +kernel
theorem dX10_looksAs_68 : decode cX10_looksAs 68 = .ok (.iload_n 2, 1) := by decide +kernel
theorem dX10_looksAs_69 : decode cX10_looksAs 69 = .ok (.iconst 2, 1) := by decide +kernel
theorem dX10_looksAs_70 : decode cX10_looksAs 70 = .ok (.idiv, 1) := by decide +kernel
theorem dX10_looksAs_71 : decode cX10_looksAs 71 = .ok (.invokevirtual 244, 3) := by decide +kernel
theorem dX10_looksAs_74 : decode cX10_looksAs 74 = .ok (.ireturn, 1) := by decide +kernel
theorem dX10_looksAs_75 : decode cX10_looksAs 75 = .ok (.aload_n 0, 1) := by decide +kernel
theorem dX10_looksAs_76 : decode cX10_looksAs 76 = .ok (.bipush 51, 2) := by decide +kernel
theorem dX10_looksAs_78 : decode cX10_looksAs 78 = .ok (.invokevirtual 228, 3) := by decide +kernel
theorem dX10_looksAs_81 : decode cX10_looksAs 81 = .ok (.aload_n 0, 1) := by decide +kernel
theorem dX10_looksAs_82 : decode cX10_looksAs 82 = .ok (.iconst 4, 1) := by decide +kernel
theorem dX10_looksAs_83 : decode cX10_looksAs 83 = .ok (.invokestatic 172, 3) := by decide +kernel
theorem dX10_looksAs_86 : decode cX10_looksAs 86 = .ok (.iload_n 2, 1) := by decide +kernel
theorem dX10_looksAs_87 : decode cX10_looksAs 87 = .ok (.invokevirtual 244, 3) := by decide +kernel
theorem dX10_looksAs_90 : decode cX10_looksAs 90 = .ok (.aload_n 0, 1) := by decide +kernel
theorem dX10_looksAs_91 : decode cX10_looksAs 91 = .ok (.getfield 225, 3) := by decide +kernel
theorem dX10_looksAs_94 : decode cX10_looksAs 94 = .ok (.ixor, 1) := by decide +kernel
theorem dX10_looksAs_95 : decode cX10_looksAs 95 = .ok (.ireturn, 1) := by decide +kernel
theorem dX10_looksAs_96 : decode cX10_looksAs 96 = .ok (.aload_n 0, 1) := by decide +kernel
theorem dX10_looksAs_97 : decode cX10_looksAs 97 = .ok (.iload_n 1, 1) := by decide +kernel
theorem dX10_looksAs_98 : decode cX10_looksAs 98 = .ok (.invokestatic 172, 3) := by decide +kernel
theorem dX10_looksAs_101 : decode cX10_looksAs 101 = .ok (.iload_n 2, 1) := by decide +kernel
theorem dX10_looksAs_102 : decode cX10_looksAs 102 = .ok (.invokevirtual 244, 3) := by decide +kernel
theorem dX10_looksAs_105 : decode cX10_looksAs 105 = .ok (.ireturn, 1) := by decide +kernel
theorem dX10_partsAs_0 : decode cX10_partsAs 0 = .ok (.iload_n 1, 1) := by decide +kernel
theorem dX10_partsAs_1 : decode cX10_partsAs 1 = .ok (.lookupswitch 119 #[(0, 27), (1, 78)], 27) := by decide +kernel
theorem dX10_partsAs_28 : decode cX10_partsAs 28 = .ok (.aload_n 0, 1) := by decide +kernel
theorem dX10_partsAs_29 : decode cX10_partsAs 29 = .ok (.bipush 13, 2) := by decide +kernel
theorem dX10_partsAs_31 : decode cX10_partsAs 31 = .ok (.invokevirtual 228, 3) := by decide +kernel
theorem dX10_partsAs_34 : decode cX10_partsAs 34 = .ok (.aload_n 0, 1) := by decide +kernel
theorem dX10_partsAs_35 : decode cX10_partsAs 35 = .ok (.invokevirtual 241, 3) := by decide +kernel
theorem dX10_partsAs_38 : decode cX10_partsAs 38 = .ok (.aload_n 0, 1) := by decide +kernel
theorem dX10_partsAs_39 : decode cX10_partsAs 39 = .ok (.getfield 225, 3) := by decide +kernel
theorem dX10_partsAs_42 : decode cX10_partsAs 42 = .ok (.isub, 1) := by decide +kernel
theorem dX10_partsAs_43 : decode cX10_partsAs 43 = .ok (.istore_n 3, 1) := by decide +kernel
theorem dX10_partsAs_44 : decode cX10_partsAs 44 = .ok (.aload_n 0, 1) := by decide +kernel
theorem dX10_partsAs_45 : decode cX10_partsAs 45 = .ok (.iload_n 3, 1) := by decide +kernel
theorem dX10_partsAs_46 : decode cX10_partsAs 46 = .ok (.ifCond .ne 7, 3) := by decide +kernel
theorem dX10_partsAs_49 : decode cX10_partsAs 49 = .ok (.iconst 1, 1) := by decide +kernel
theorem dX10_partsAs_50 : decode cX10_partsAs 50 = .ok (.goto 4, 3) := by decide +kernel
theorem dX10_partsAs_53 : decode cX10_partsAs 53 = .ok (.iconst 0, 1) := by decide +kernel
theorem dX10_partsAs_54 : decode cX10_partsAs 54 = .ok (.putfield 247, 3) := by decide +kernel
theorem dX10_partsAs_57 : decode cX10_partsAs 57 = .ok (.iload_n 3, 1) := by decide +kernel
theorem dX10_partsAs_58 : decode cX10_partsAs 58 = .ok (.ifCond .ne 7, 3) := by decide +kernel
theorem dX10_partsAs_61 : decode cX10_partsAs 61 = .ok (.iconst 0, 1) := by decide +kernel
theorem dX10_partsAs_62 : decode cX10_partsAs 62 = .ok (.goto 16, 3) := by decide +kernel
theorem dX10_partsAs_65 : decode cX10_partsAs 65 = .ok (.iload_n 3, 1) := by decide +kernel
theorem dX10_partsAs_66 : decode cX10_partsAs 66 = .ok (.iconst (-1), 1) := by decide +kernel
theorem dX10_partsAs_67 : decode cX10_partsAs 67 = .ok (.if_icmp .ne 8, 3) := by decide +kernel
theorem dX10_partsAs_70 : decode cX10_partsAs 70 = .ok (.iload_n 2, 1) := by decide +kernel
theorem dX10_partsAs_71 : decode cX10_partsAs 71 = .ok (.ineg, 1) := by decide +kernel
theorem dX10_partsAs_72 : decode cX10_partsAs 72 = .ok (.goto 6, 3) := by decide +kernel
theorem dX10_partsAs_75 : decode cX10_partsAs 75 = .ok (.iload_n 2, 1) := by decide +kernel
theorem dX10_partsAs_76 : decode cX10_partsAs 76 = .ok (.iload_n 3, 1) := by decide +kernel
theorem dX10_partsAs_77 : decode cX10_partsAs 77 = .ok (.idiv, 1) := by decide +kernel
theorem dX10_partsAs_78 : decode cX10_partsAs 78 = .ok (.ireturn, 1) := by decide +kernel
theorem dX10_partsAs_79 : decode cX10_partsAs 79 = .ok (.aload_n 0, 1) := by decide +kernel
theorem dX10_partsAs_80 : decode cX10_partsAs 80 = .ok (.bipush 21, 2) := by decide +kernel
theorem dX10_partsAs_82 : decode cX10_partsAs 82 = .ok (.invokevirtual 228, 3) := by decide +kernel
theorem dX10_partsAs_85 : decode cX10_partsAs 85 = .ok (.aload_n 0, 1) := by decide +kernel
theorem dX10_partsAs_86 : decode cX10_partsAs 86 = .ok (.iconst 1, 1) := by decide +kernel
theorem dX10_partsAs_87 : decode cX10_partsAs 87 = .ok (.invokestatic 172, 3) := by decide +kernel
theorem dX10_partsAs_90 : decode cX10_partsAs 90 = .ok (.iload_n 2, 1) := by decide +kernel
theorem dX10_partsAs_91 : decode cX10_partsAs 91 = .ok (.invokevirtual 251, 3) := by decide +kernel
theorem dX10_partsAs_94 : decode cX10_partsAs 94 = .ok (.istore 4, 2) := by decide +kernel
theorem dX10_partsAs_96 : decode cX10_partsAs 96 = .ok (.aload_n 0, 1) := by decide +kernel
theorem dX10_partsAs_97 : decode cX10_partsAs 97 = .ok (.getfield 247, 3) := by decide +kernel
theorem dX10_partsAs_100 : decode cX10_partsAs 100 = .ok (.ifCond .eq 7, 3) := by decide +kernel
theorem dX10_partsAs_103 : decode cX10_partsAs 103 = .ok (.iconst 0, 1) := by decide +kernel
theorem dX10_partsAs_104 : decode cX10_partsAs 104 = .ok (.goto 15, 3) := by decide +kernel
theorem dX10_partsAs_107 : decode cX10_partsAs 107 = .ok (.iload 4, 2) := by decide +kernel
theorem dX10_partsAs_109 : decode cX10_partsAs 109 = .ok (.aload_n 0, 1) := by decide +kernel
theorem dX10_partsAs_110 : decode cX10_partsAs 110 = .ok (.aload_n 0, 1) := by decide +kernel
theorem dX10_partsAs_111 : decode cX10_partsAs 111 = .ok (.invokevirtual 235, 3) := by decide +kernel
theorem dX10_partsAs_114 : decode cX10_partsAs 114 = .ok (.iconst 1, 1) := by decide +kernel
theorem dX10_partsAs_115 : decode cX10_partsAs 115 = .ok (.invokevirtual 238, 3) := by decide +kernel
theorem dX10_partsAs_118 : decode cX10_partsAs 118 = .ok (.iadd, 1) := by decide +kernel
theorem dX10_partsAs_119 : decode cX10_partsAs 119 = .ok (.ireturn, 1) := by decide +kernel
theorem dX10_partsAs_120 : decode cX10_partsAs 120 = .ok (.aload_n 0, 1) := by decide +kernel
theorem dX10_partsAs_121 : decode cX10_partsAs 121 = .ok (.iload_n 1, 1) := by decide +kernel
theorem dX10_partsAs_122 : decode cX10_partsAs 122 = .ok (.invokestatic 172, 3) := by decide +kernel
theorem dX10_partsAs_125 : decode cX10_partsAs 125 = .ok (.iload_n 2, 1) := by decide +kernel
theorem dX10_partsAs_126 : decode cX10_partsAs 126 = .ok (.invokevirtual 251, 3) := by decide +kernel
theorem dX10_partsAs_129 : decode cX10_partsAs 129 = .ok (.ireturn, 1) := by decide +kernel
theorem dX10_voice_0 : decode cX10_voice 0 = .ok (.aload_n 0, 1) := by decide +kernel
theorem dX10_voice_1 : decode cX10_voice 1 = .ok (.iload_n 1, 1) := by decide +kernel
theorem dX10_voice_2 : decode cX10_voice 2 = .ok (.invokevirtual 166, 3) := by decide +kernel
theorem dX10_voice_5 : decode cX10_voice 5 = .ok (.ifCond .eq 12, 3) := by decide +kernel
theorem dX10_voice_8 : decode cX10_voice 8 = .ok (.iload_n 2, 1) := by decide +kernel
theorem dX10_voice_9 : decode cX10_voice 9 = .ok (.iconst 0, 1) := by decide +kernel
theorem dX10_voice_10 : decode cX10_voice 10 = .ok (.iconst 3, 1) := by decide +kernel
theorem dX10_voice_11 : decode cX10_voice 11 = .ok (.invokestatic 47, 3) := by decide +kernel
theorem dX10_voice_14 : decode cX10_voice 14 = .ok (.ifCond .ne 9, 3) := by decide +kernel
theorem dX10_voice_17 : decode cX10_voice 17 = .ok (.aload_n 0, 1) := by decide +kernel
theorem dX10_voice_18 : decode cX10_voice 18 = .ok (.iconst 1, 1) := by decide +kernel
theorem dX10_voice_19 : decode cX10_voice 19 = .ok (.invokevirtual 51, 3) := by decide +kernel
theorem dX10_voice_22 : decode cX10_voice 22 = .ok (.ireturn, 1) := by decide +kernel
theorem dX10_voice_23 : decode cX10_voice 23 = .ok (.aload_n 0, 1) := by decide +kernel
theorem dX10_voice_24 : decode cX10_voice 24 = .ok (.iconst 0, 1) := by decide +kernel
theorem dX10_voice_25 : decode cX10_voice 25 = .ok (.putfield 222, 3) := by decide +kernel
theorem dX10_voice_28 : decode cX10_voice 28 = .ok (.aload_n 0, 1) := by decide +kernel
theorem dX10_voice_29 : decode cX10_voice 29 = .ok (.iload_n 1, 1) := by decide +kernel
theorem dX10_voice_30 : decode cX10_voice 30 = .ok (.putfield 225, 3) := by decide +kernel
theorem dX10_voice_33 : decode cX10_voice 33 = .ok (.aload_n 0, 1) := by decide +kernel
theorem dX10_voice_34 : decode cX10_voice 34 = .ok (.iconst 0, 1) := by decide +kernel
theorem dX10_voice_35 : decode cX10_voice 35 = .ok (.putfield 247, 3) := by decide +kernel
theorem dX10_voice_38 : decode cX10_voice 38 = .ok (.aload_n 0, 1) := by decide +kernel
theorem dX10_voice_39 : decode cX10_voice 39 = .ok (.invokevirtual 235, 3) := by decide +kernel
theorem dX10_voice_42 : decode cX10_voice 42 = .ok (.istore 4, 2) := by decide +kernel
theorem dX10_voice_44 : decode cX10_voice 44 = .ok (.iload_n 2, 1) := by decide +kernel
theorem dX10_voice_45 : decode cX10_voice 45 = .ok (.ifCond .ne 13, 3) := by decide +kernel
theorem dX10_voice_48 : decode cX10_voice 48 = .ok (.aload_n 0, 1) := by decide +kernel
theorem dX10_voice_49 : decode cX10_voice 49 = .ok (.iload 4, 2) := by decide +kernel
theorem dX10_voice_51 : decode cX10_voice 51 = .ok (.iload_n 3, 1) := by decide +kernel
theorem dX10_voice_52 : decode cX10_voice 52 = .ok (.invokevirtual 232, 3) := by decide +kernel
theorem dX10_voice_55 : decode cX10_voice 55 = .ok (.goto 40, 3) := by decide +kernel
theorem dX10_voice_58 : decode cX10_voice 58 = .ok (.iload_n 2, 1) := by decide +kernel
theorem dX10_voice_59 : decode cX10_voice 59 = .ok (.iconst 1, 1) := by decide +kernel
theorem dX10_voice_60 : decode cX10_voice 60 = .ok (.if_icmp .ne 13, 3) := by decide +kernel
theorem dX10_voice_63 : decode cX10_voice 63 = .ok (.aload_n 0, 1) := by decide +kernel
theorem dX10_voice_64 : decode cX10_voice 64 = .ok (.iload 4, 2) := by decide +kernel
theorem dX10_voice_66 : decode cX10_voice 66 = .ok (.iload_n 3, 1) := by decide +kernel
theorem dX10_voice_67 : decode cX10_voice 67 = .ok (.invokevirtual 238, 3) := by decide +kernel
theorem dX10_voice_70 : decode cX10_voice 70 = .ok (.goto 25, 3) := by decide +kernel
theorem dX10_voice_73 : decode cX10_voice 73 = .ok (.iload_n 2, 1) := by decide +kernel
theorem dX10_voice_74 : decode cX10_voice 74 = .ok (.iconst 2, 1) := by decide +kernel
theorem dX10_voice_75 : decode cX10_voice 75 = .ok (.if_icmp .ne 13, 3) := by decide +kernel
theorem dX10_voice_78 : decode cX10_voice 78 = .ok (.aload_n 0, 1) := by decide +kernel
theorem dX10_voice_79 : decode cX10_voice 79 = .ok (.iload 4, 2) := by decide +kernel
theorem dX10_voice_81 : decode cX10_voice 81 = .ok (.iload_n 3, 1) := by decide +kernel
theorem dX10_voice_82 : decode cX10_voice 82 = .ok (.invokevirtual 244, 3) := by decide +kernel
theorem dX10_voice_85 : decode cX10_voice 85 = .ok (.goto 10, 3) := by decide +kernel
theorem dX10_voice_88 : decode cX10_voice 88 = .ok (.aload_n 0, 1) := by decide +kernel
theorem dX10_voice_89 : decode cX10_voice 89 = .ok (.iload 4, 2) := by decide +kernel
theorem dX10_voice_91 : decode cX10_voice 91 = .ok (.iload_n 3, 1) := by decide +kernel
theorem dX10_voice_92 : decode cX10_voice 92 = .ok (.invokevirtual 251, 3) := by decide +kernel
theorem dX10_voice_95 : decode cX10_voice 95 = .ok (.istore 5, 2) := by decide +kernel
theorem dX10_voice_97 : decode cX10_voice 97 = .ok (.aload_n 0, 1) := by decide +kernel
theorem dX10_voice_98 : decode cX10_voice 98 = .ok (.getfield 247, 3) := by decide +kernel
theorem dX10_voice_101 : decode cX10_voice 101 = .ok (.ifCond .eq 12, 3) := by decide +kernel
theorem dX10_voice_104 : decode cX10_voice 104 = .ok (.aload_n 0, 1) := by decide +kernel
theorem dX10_voice_105 : decode cX10_voice 105 = .ok (.bipush 6, 2) := by decide +kernel
theorem dX10_voice_107 : decode cX10_voice 107 = .ok (.invokevirtual 51, 3) := by decide +kernel
theorem dX10_voice_110 : decode cX10_voice 110 = .ok (.goto 5, 3) := by decide +kernel
theorem dX10_voice_113 : decode cX10_voice 113 = .ok (.iload 5, 2) := by decide +kernel
theorem dX10_voice_115 : decode cX10_voice 115 = .ok (.ireturn, 1) := by decide +kernel
theorem dX10_body_0 : decode cX10_body 0 = .ok (.iload_n 1, 1) := by decide +kernel
theorem dX10_body_1 : decode cX10_body 1 = .ok (.iconst 0, 1) := by decide +kernel
theorem dX10_body_2 : decode cX10_body 2 = .ok (.aload_n 0, 1) := by decide +kernel
theorem dX10_body_3 : decode cX10_body 3 = .ok (.getfield 222, 3) := by decide +kernel
theorem dX10_body_6 : decode cX10_body 6 = .ok (.iconst 1, 1) := by decide +kernel
theorem dX10_body_7 : decode cX10_body 7 = .ok (.isub, 1) := by decide +kernel
theorem dX10_body_8 : decode cX10_body 8 = .ok (.invokestatic 47, 3) := by decide +kernel
theorem dX10_body_11 : decode cX10_body 11 = .ok (.ifCond .eq 12, 3) := by decide +kernel
theorem dX10_body_14 : decode cX10_body 14 = .ok (.aload_n 0, 1) := by decide +kernel
theorem dX10_body_15 : decode cX10_body 15 = .ok (.getfield 31, 3) := by decide +kernel
theorem dX10_body_18 : decode cX10_body 18 = .ok (.iload_n 1, 1) := by decide +kernel
theorem dX10_body_19 : decode cX10_body 19 = .ok (.iaload, 1) := by decide +kernel
theorem dX10_body_20 : decode cX10_body 20 = .ok (.goto 8, 3) := by decide +kernel
theorem dX10_body_23 : decode cX10_body 23 = .ok (.aload_n 0, 1) := by decide +kernel
theorem dX10_body_24 : decode cX10_body 24 = .ok (.iconst 2, 1) := by decide +kernel
theorem dX10_body_25 : decode cX10_body 25 = .ok (.invokevirtual 51, 3) := by decide +kernel
theorem dX10_body_28 : decode cX10_body 28 = .ok (.ireturn, 1) := by decide +kernel
theorem dX10_isSheet_0 : decode cX10_isSheet 0 = .ok (.iload_n 0, 1) := by decide +kernel
theorem dX10_isSheet_1 : decode cX10_isSheet 1 = .ok (.iconst 0, 1) := by decide +kernel
theorem dX10_isSheet_2 : decode cX10_isSheet 2 = .ok (.iconst 3, 1) := by decide +kernel
theorem dX10_isSheet_3 : decode cX10_isSheet 3 = .ok (.invokestatic 47, 3) := by decide +kernel
theorem dX10_isSheet_6 : decode cX10_isSheet 6 = .ok (.ireturn, 1) := by decide +kernel
theorem dX10_sheet_0 : decode cX10_sheet 0 = .ok (.iload_n 1, 1) := by decide +kernel
theorem dX10_sheet_1 : decode cX10_sheet 1 = .ok (.invokestatic 254, 3) := by decide +kernel
theorem dX10_sheet_4 : decode cX10_sheet 4 = .ok (.ifCond .eq 25, 3) := by decide +kernel
theorem dX10_sheet_7 : decode cX10_sheet 7 = .ok (.iload_n 2, 1) := by decide +kernel
theorem dX10_sheet_8 : decode cX10_sheet 8 = .ok (.ifCond .eq 27, 3) := by decide +kernel
theorem dX10_sheet_11 : decode cX10_sheet 11 = .ok (.iload_n 2, 1) := by decide +kernel
theorem dX10_sheet_12 : decode cX10_sheet 12 = .ok (.bipush 8, 2) := by decide +kernel
theorem dX10_sheet_14 : decode cX10_sheet 14 = .ok (.if_icmp .eq 21, 3) := by decide +kernel
theorem dX10_sheet_17 : decode cX10_sheet 17 = .ok (.iload_n 2, 1) := by decide +kernel
theorem dX10_sheet_18 : decode cX10_sheet 18 = .ok (.bipush 16, 2) := by decide +kernel
theorem dX10_sheet_20 : decode cX10_sheet 20 = .ok (.if_icmp .eq 15, 3) := by decide +kernel
theorem dX10_sheet_23 : decode cX10_sheet 23 = .ok (.iload_n 2, 1) := by decide +kernel
theorem dX10_sheet_24 : decode cX10_sheet 24 = .ok (.bipush 32, 2) := by decide +kernel
theorem dX10_sheet_26 : decode cX10_sheet 26 = .ok (.if_icmp .eq 9, 3) := by decide +kernel
theorem dX10_sheet_29 : decode cX10_sheet 29 = .ok (.aload_n 0, 1) := by decide +kernel
theorem dX10_sheet_30 : decode cX10_sheet 30 = .ok (.iconst 1, 1) := by decide +kernel
theorem dX10_sheet_31 : decode cX10_sheet 31 = .ok (.invokevirtual 51, 3) := by decide +kernel
theorem dX10_sheet_34 : decode cX10_sheet 34 = .ok (.ireturn, 1) := by decide +kernel
theorem dX10_sheet_35 : decode cX10_sheet 35 = .ok (.iload_n 2, 1) := by decide +kernel
theorem dX10_sheet_36 : decode cX10_sheet 36 = .ok (.ifCond .eq 13, 3) := by decide +kernel
theorem dX10_sheet_39 : decode cX10_sheet 39 = .ok (.iload_n 3, 1) := by decide +kernel
theorem dX10_sheet_40 : decode cX10_sheet 40 = .ok (.ifCond .ge 9, 3) := by decide +kernel
theorem dX10_sheet_43 : decode cX10_sheet 43 = .ok (.aload_n 0, 1) := by decide +kernel
theorem dX10_sheet_44 : decode cX10_sheet 44 = .ok (.iconst 3, 1) := by decide +kernel
theorem dX10_sheet_45 : decode cX10_sheet 45 = .ok (.invokevirtual 51, 3) := by decide +kernel
theorem dX10_sheet_48 : decode cX10_sheet 48 = .ok (.ireturn, 1) := by decide +kernel
theorem dX10_sheet_49 : decode cX10_sheet 49 = .ok (.iload_n 2, 1) := by decide +kernel
theorem dX10_sheet_50 : decode cX10_sheet 50 = .ok (.ifCond .eq 15, 3) := by decide +kernel
theorem dX10_sheet_53 : decode cX10_sheet 53 = .ok (.iload_n 3, 1) := by decide +kernel
theorem dX10_sheet_54 : decode cX10_sheet 54 = .ok (.bipush 24, 2) := by decide +kernel
theorem dX10_sheet_56 : decode cX10_sheet 56 = .ok (.if_icmp .le 9, 3) := by decide +kernel
theorem dX10_sheet_59 : decode cX10_sheet 59 = .ok (.aload_n 0, 1) := by decide +kernel
theorem dX10_sheet_60 : decode cX10_sheet 60 = .ok (.iconst 1, 1) := by decide +kernel
theorem dX10_sheet_61 : decode cX10_sheet 61 = .ok (.invokevirtual 51, 3) := by decide +kernel
theorem dX10_sheet_64 : decode cX10_sheet 64 = .ok (.ireturn, 1) := by decide +kernel
theorem dX10_sheet_65 : decode cX10_sheet 65 = .ok (.aload_n 0, 1) := by decide +kernel
theorem dX10_sheet_66 : decode cX10_sheet 66 = .ok (.getfield 34, 3) := by decide +kernel
theorem dX10_sheet_69 : decode cX10_sheet 69 = .ok (.iload_n 1, 1) := by decide +kernel
theorem dX10_sheet_70 : decode cX10_sheet 70 = .ok (.iload_n 2, 1) := by decide +kernel
theorem dX10_sheet_71 : decode cX10_sheet 71 = .ok (.iastore, 1) := by decide +kernel
theorem dX10_sheet_72 : decode cX10_sheet 72 = .ok (.aload_n 0, 1) := by decide +kernel
theorem dX10_sheet_73 : decode cX10_sheet 73 = .ok (.getfield 37, 3) := by decide +kernel
theorem dX10_sheet_76 : decode cX10_sheet 76 = .ok (.iload_n 1, 1) := by decide +kernel
theorem dX10_sheet_77 : decode cX10_sheet 77 = .ok (.iload_n 2, 1) := by decide +kernel
theorem dX10_sheet_78 : decode cX10_sheet 78 = .ok (.ifCond .ne 7, 3) := by decide +kernel
theorem dX10_sheet_81 : decode cX10_sheet 81 = .ok (.iconst 0, 1) := by decide +kernel
theorem dX10_sheet_82 : decode cX10_sheet 82 = .ok (.goto 4, 3) := by decide +kernel
theorem dX10_sheet_85 : decode cX10_sheet 85 = .ok (.iload_n 3, 1) := by decide +kernel
theorem dX10_sheet_86 : decode cX10_sheet 86 = .ok (.iastore, 1) := by decide +kernel
theorem dX10_sheet_87 : decode cX10_sheet 87 = .ok (.iconst 0, 1) := by decide +kernel
theorem dX10_sheet_88 : decode cX10_sheet 88 = .ok (.istore 4, 2) := by decide +kernel
theorem dX10_sheet_90 : decode cX10_sheet 90 = .ok (.iload 4, 2) := by decide +kernel
theorem dX10_sheet_92 : decode cX10_sheet 92 = .ok (.bipush 24, 2) := by decide +kernel
theorem dX10_sheet_94 : decode cX10_sheet 94 = .ok (.if_icmp .ge 22, 3) := by decide +kernel
theorem dX10_sheet_97 : decode cX10_sheet 97 = .ok (.aload_n 0, 1) := by decide +kernel
theorem dX10_sheet_98 : decode cX10_sheet 98 = .ok (.getfield 40, 3) := by decide +kernel
theorem dX10_sheet_101 : decode cX10_sheet 101 = .ok (.bipush 24, 2) := by decide +kernel
theorem dX10_sheet_103 : decode cX10_sheet 103 = .ok (.iload_n 1, 1) := by decide +kernel
theorem dX10_sheet_104 : decode cX10_sheet 104 = .ok (.imul, 1) := by decide +kernel
theorem dX10_sheet_105 : decode cX10_sheet 105 = .ok (.iload 4, 2) := by decide +kernel
theorem dX10_sheet_107 : decode cX10_sheet 107 = .ok (.iadd, 1) := by decide +kernel
theorem dX10_sheet_108 : decode cX10_sheet 108 = .ok (.iconst 0, 1) := by decide +kernel
theorem dX10_sheet_109 : decode cX10_sheet 109 = .ok (.iastore, 1) := by decide +kernel
theorem dX10_sheet_110 : decode cX10_sheet 110 = .ok (.iinc 4 1, 3) := by decide +kernel
theorem dX10_sheet_113 : decode cX10_sheet 113 = .ok (.goto (-23), 3) := by decide +kernel
theorem dX10_sheet_116 : decode cX10_sheet 116 = .ok (.iconst 1, 1) := by decide +kernel
theorem dX10_sheet_117 : decode cX10_sheet 117 = .ok (.ireturn, 1) := by decide +kernel
theorem dX10_put_0 : decode cX10_put 0 = .ok (.iload_n 1, 1) := by decide +kernel
theorem dX10_put_1 : decode cX10_put 1 = .ok (.invokestatic 254, 3) := by decide +kernel
theorem dX10_put_4 : decode cX10_put 4 = .ok (.ifCond .ne 9, 3) := by decide +kernel
theorem dX10_put_7 : decode cX10_put 7 = .ok (.aload_n 0, 1) := by decide +kernel
theorem dX10_put_8 : decode cX10_put 8 = .ok (.iconst 1, 1) := by decide +kernel
theorem dX10_put_9 : decode cX10_put 9 = .ok (.invokevirtual 51, 3) := by decide +kernel
theorem dX10_put_12 : decode cX10_put 12 = .ok (.ireturn, 1) := by decide +kernel
theorem dX10_put_13 : decode cX10_put 13 = .ok (.aload_n 0, 1) := by decide +kernel
theorem dX10_put_14 : decode cX10_put 14 = .ok (.getfield 34, 3) := by decide +kernel
theorem dX10_put_17 : decode cX10_put 17 = .ok (.iload_n 1, 1) := by decide +kernel
theorem dX10_put_18 : decode cX10_put 18 = .ok (.iaload, 1) := by decide +kernel
theorem dX10_put_19 : decode cX10_put 19 = .ok (.ifCond .ne 9, 3) := by decide +kernel
theorem dX10_put_22 : decode cX10_put 22 = .ok (.aload_n 0, 1) := by decide +kernel
theorem dX10_put_23 : decode cX10_put 23 = .ok (.iconst 2, 1) := by decide +kernel
theorem dX10_put_24 : decode cX10_put 24 = .ok (.invokevirtual 51, 3) := by decide +kernel
theorem dX10_put_27 : decode cX10_put 27 = .ok (.ireturn, 1) := by decide +kernel
theorem dX10_put_28 : decode cX10_put 28 = .ok (.iload_n 2, 1) := by decide +kernel
theorem dX10_put_29 : decode cX10_put 29 = .ok (.iconst 0, 1) := by decide +kernel
theorem dX10_put_30 : decode cX10_put 30 = .ok (.aload_n 0, 1) := by decide +kernel
theorem dX10_put_31 : decode cX10_put 31 = .ok (.getfield 37, 3) := by decide +kernel
theorem dX10_put_34 : decode cX10_put 34 = .ok (.iload_n 1, 1) := by decide +kernel
theorem dX10_put_35 : decode cX10_put 35 = .ok (.iaload, 1) := by decide +kernel
theorem dX10_put_36 : decode cX10_put 36 = .ok (.iconst 1, 1) := by decide +kernel
theorem dX10_put_37 : decode cX10_put 37 = .ok (.isub, 1) := by decide +kernel
theorem dX10_put_38 : decode cX10_put 38 = .ok (.invokestatic 47, 3) := by decide +kernel
theorem dX10_put_41 : decode cX10_put 41 = .ok (.ifCond .ne 9, 3) := by decide +kernel
theorem dX10_put_44 : decode cX10_put 44 = .ok (.aload_n 0, 1) := by decide +kernel
theorem dX10_put_45 : decode cX10_put 45 = .ok (.iconst 1, 1) := by decide +kernel
theorem dX10_put_46 : decode cX10_put 46 = .ok (.invokevirtual 51, 3) := by decide +kernel
theorem dX10_put_49 : decode cX10_put 49 = .ok (.ireturn, 1) := by decide +kernel
theorem dX10_put_50 : decode cX10_put 50 = .ok (.bipush 32, 2) := by decide +kernel
theorem dX10_put_52 : decode cX10_put 52 = .ok (.aload_n 0, 1) := by decide +kernel
theorem dX10_put_53 : decode cX10_put 53 = .ok (.getfield 34, 3) := by decide +kernel
theorem dX10_put_56 : decode cX10_put 56 = .ok (.iload_n 1, 1) := by decide +kernel
theorem dX10_put_57 : decode cX10_put 57 = .ok (.iaload, 1) := by decide +kernel
theorem dX10_put_58 : decode cX10_put 58 = .ok (.isub, 1) := by decide +kernel
theorem dX10_put_59 : decode cX10_put 59 = .ok (.istore 4, 2) := by decide +kernel
theorem dX10_put_61 : decode cX10_put 61 = .ok (.aload_n 0, 1) := by decide +kernel
theorem dX10_put_62 : decode cX10_put 62 = .ok (.getfield 40, 3) := by decide +kernel
theorem dX10_put_65 : decode cX10_put 65 = .ok (.bipush 24, 2) := by decide +kernel
theorem dX10_put_67 : decode cX10_put 67 = .ok (.iload_n 1, 1) := by decide +kernel
theorem dX10_put_68 : decode cX10_put 68 = .ok (.imul, 1) := by decide +kernel
theorem dX10_put_69 : decode cX10_put 69 = .ok (.iload_n 2, 1) := by decide +kernel
theorem dX10_put_70 : decode cX10_put 70 = .ok (.iadd, 1) := by decide +kernel
theorem dX10_put_71 : decode cX10_put 71 = .ok (.iload_n 3, 1) := by decide +kernel
theorem dX10_put_72 : decode cX10_put 72 = .ok (.iload 4, 2) := by decide +kernel
theorem dX10_put_74 : decode cX10_put 74 = .ok (.ishl, 1) := by decide +kernel
theorem dX10_put_75 : decode cX10_put 75 = .ok (.iload 4, 2) := by decide +kernel
theorem dX10_put_77 : decode cX10_put 77 = .ok (.ishr, 1) := by decide +kernel
theorem dX10_put_78 : decode cX10_put 78 = .ok (.iastore, 1) := by decide +kernel
theorem dX10_put_79 : decode cX10_put 79 = .ok (.iconst 1, 1) := by decide +kernel
theorem dX10_put_80 : decode cX10_put 80 = .ok (.ireturn, 1) := by decide +kernel
theorem dX10_move_0 : decode cX10_move 0 = .ok (.iload_n 1, 1) := by decide +kernel
theorem dX10_move_1 : decode cX10_move 1 = .ok (.invokestatic 254, 3) := by decide +kernel
theorem dX10_move_4 : decode cX10_move 4 = .ok (.ifCond .eq 10, 3) := by decide +kernel
theorem dX10_move_7 : decode cX10_move 7 = .ok (.iload_n 3, 1) := by decide +kernel
theorem dX10_move_8 : decode cX10_move 8 = .ok (.invokestatic 254, 3) := by decide +kernel
theorem dX10_move_11 : decode cX10_move 11 = .ok (.ifCond .ne 9, 3) := by decide +kernel
theorem dX10_move_14 : decode cX10_move 14 = .ok (.aload_n 0, 1) := by decide +kernel
theorem dX10_move_15 : decode cX10_move 15 = .ok (.iconst 1, 1) := by decide +kernel
theorem dX10_move_16 : decode cX10_move 16 = .ok (.invokevirtual 51, 3) := by decide +kernel
theorem dX10_move_19 : decode cX10_move 19 = .ok (.ireturn, 1) := by decide +kernel
theorem dX10_move_20 : decode cX10_move 20 = .ok (.aload_n 0, 1) := by decide +kernel
theorem dX10_move_21 : decode cX10_move 21 = .ok (.getfield 34, 3) := by decide +kernel
theorem dX10_move_24 : decode cX10_move 24 = .ok (.iload_n 1, 1) := by decide +kernel
theorem dX10_move_25 : decode cX10_move 25 = .ok (.iaload, 1) := by decide +kernel
theorem dX10_move_26 : decode cX10_move 26 = .ok (.ifCond .eq 12, 3) := by decide +kernel
theorem dX10_move_29 : decode cX10_move 29 = .ok (.aload_n 0, 1) := by decide +kernel
theorem dX10_move_30 : decode cX10_move 30 = .ok (.getfield 34, 3) := by decide +kernel
theorem dX10_move_33 : decode cX10_move 33 = .ok (.iload_n 3, 1) := by decide +kernel
theorem dX10_move_34 : decode cX10_move 34 = .ok (.iaload, 1) := by decide +kernel
theorem dX10_move_35 : decode cX10_move 35 = .ok (.ifCond .ne 9, 3) := by decide +kernel
theorem dX10_move_38 : decode cX10_move 38 = .ok (.aload_n 0, 1) := by decide +kernel
theorem dX10_move_39 : decode cX10_move 39 = .ok (.iconst 2, 1) := by decide +kernel
theorem dX10_move_40 : decode cX10_move 40 = .ok (.invokevirtual 51, 3) := by decide +kernel
theorem dX10_move_43 : decode cX10_move 43 = .ok (.ireturn, 1) := by decide +kernel
theorem dX10_move_44 : decode cX10_move 44 = .ok (.aload_n 0, 1) := by decide +kernel
theorem dX10_move_45 : decode cX10_move 45 = .ok (.getfield 34, 3) := by decide +kernel
theorem dX10_move_48 : decode cX10_move 48 = .ok (.iload_n 1, 1) := by decide +kernel
theorem dX10_move_49 : decode cX10_move 49 = .ok (.iaload, 1) := by decide +kernel
theorem dX10_move_50 : decode cX10_move 50 = .ok (.aload_n 0, 1) := by decide +kernel
theorem dX10_move_51 : decode cX10_move 51 = .ok (.getfield 34, 3) := by decide +kernel
theorem dX10_move_54 : decode cX10_move 54 = .ok (.iload_n 3, 1) := by decide +kernel
theorem dX10_move_55 : decode cX10_move 55 = .ok (.iaload, 1) := by decide +kernel
theorem dX10_move_56 : decode cX10_move 56 = .ok (.if_icmp .eq 9, 3) := by decide +kernel
theorem dX10_move_59 : decode cX10_move 59 = .ok (.aload_n 0, 1) := by decide +kernel
theorem dX10_move_60 : decode cX10_move 60 = .ok (.iconst 5, 1) := by decide +kernel
theorem dX10_move_61 : decode cX10_move 61 = .ok (.invokevirtual 51, 3) := by decide +kernel
theorem dX10_move_64 : decode cX10_move 64 = .ok (.ireturn, 1) := by decide +kernel
theorem dX10_move_65 : decode cX10_move 65 = .ok (.iload 5, 2) := by decide +kernel
theorem dX10_move_67 : decode cX10_move 67 = .ok (.ifCond .lt 39, 3) := by decide +kernel
theorem dX10_move_70 : decode cX10_move 70 = .ok (.iload_n 2, 1) := by decide +kernel
theorem dX10_move_71 : decode cX10_move 71 = .ok (.ifCond .lt 35, 3) := by decide +kernel
theorem dX10_move_74 : decode cX10_move 74 = .ok (.iload 4, 2) := by decide +kernel
theorem dX10_move_76 : decode cX10_move 76 = .ok (.ifCond .lt 30, 3) := by decide +kernel
theorem dX10_move_79 : decode cX10_move 79 = .ok (.iload_n 2, 1) := by decide +kernel
theorem dX10_move_80 : decode cX10_move 80 = .ok (.aload_n 0, 1) := by decide +kernel
theorem dX10_move_81 : decode cX10_move 81 = .ok (.getfield 37, 3) := by decide +kernel
theorem dX10_move_84 : decode cX10_move 84 = .ok (.iload_n 1, 1) := by decide +kernel
theorem dX10_move_85 : decode cX10_move 85 = .ok (.iaload, 1) := by decide +kernel
theorem dX10_move_86 : decode cX10_move 86 = .ok (.iload 5, 2) := by decide +kernel
theorem dX10_move_88 : decode cX10_move 88 = .ok (.isub, 1) := by decide +kernel
theorem dX10_move_89 : decode cX10_move 89 = .ok (.if_icmp .gt 17, 3) := by decide +kernel
theorem dX10_move_92 : decode cX10_move 92 = .ok (.iload 4, 2) := by decide +kernel
theorem dX10_move_94 : decode cX10_move 94 = .ok (.aload_n 0, 1) := by decide +kernel
theorem dX10_move_95 : decode cX10_move 95 = .ok (.getfield 37, 3) := by decide +kernel
theorem dX10_move_98 : decode cX10_move 98 = .ok (.iload_n 3, 1) := by decide +kernel
theorem dX10_move_99 : decode cX10_move 99 = .ok (.iaload, 1) := by decide +kernel
theorem dX10_move_100 : decode cX10_move 100 = .ok (.iload 5, 2) := by decide +kernel
theorem dX10_move_102 : decode cX10_move 102 = .ok (.isub, 1) := by decide +kernel
theorem dX10_move_103 : decode cX10_move 103 = .ok (.if_icmp .le 9, 3) := by decide +kernel
theorem dX10_move_106 : decode cX10_move 106 = .ok (.aload_n 0, 1) := by decide +kernel
theorem dX10_move_107 : decode cX10_move 107 = .ok (.iconst 1, 1) := by decide +kernel
theorem dX10_move_108 : decode cX10_move 108 = .ok (.invokevirtual 51, 3) := by decide +kernel
theorem dX10_move_111 : decode cX10_move 111 = .ok (.ireturn, 1) := by decide +kernel
theorem dX10_move_112 : decode cX10_move 112 = .ok (.iconst 0, 1) := by decide +kernel
theorem dX10_move_113 : decode cX10_move 113 = .ok (.istore 6, 2) := by decide +kernel
theorem dX10_move_115 : decode cX10_move 115 = .ok (.iload 6, 2) := by decide +kernel
theorem dX10_move_117 : decode cX10_move 117 = .ok (.iload 5, 2) := by decide +kernel
theorem dX10_move_119 : decode cX10_move 119 = .ok (.if_icmp .ge 30, 3) := by decide +kernel
theorem dX10_move_122 : decode cX10_move 122 = .ok (.aload_n 0, 1) := by decide +kernel
theorem dX10_move_123 : decode cX10_move 123 = .ok (.getfield 43, 3) := by decide +kernel
theorem dX10_move_126 : decode cX10_move 126 = .ok (.iload 6, 2) := by decide +kernel
theorem dX10_move_128 : decode cX10_move 128 = .ok (.aload_n 0, 1) := by decide +kernel
theorem dX10_move_129 : decode cX10_move 129 = .ok (.getfield 40, 3) := by decide +kernel
theorem dX10_move_132 : decode cX10_move 132 = .ok (.bipush 24, 2) := by decide +kernel
theorem dX10_move_134 : decode cX10_move 134 = .ok (.iload_n 1, 1) := by decide +kernel
theorem dX10_move_135 : decode cX10_move 135 = .ok (.imul, 1) := by decide +kernel
theorem dX10_move_136 : decode cX10_move 136 = .ok (.iload_n 2, 1) := by decide +kernel
theorem dX10_move_137 : decode cX10_move 137 = .ok (.iadd, 1) := by decide +kernel
theorem dX10_move_138 : decode cX10_move 138 = .ok (.iload 6, 2) := by decide +kernel
theorem dX10_move_140 : decode cX10_move 140 = .ok (.iadd, 1) := by decide +kernel
theorem dX10_move_141 : decode cX10_move 141 = .ok (.iaload, 1) := by decide +kernel
theorem dX10_move_142 : decode cX10_move 142 = .ok (.iastore, 1) := by decide +kernel
theorem dX10_move_143 : decode cX10_move 143 = .ok (.iinc 6 1, 3) := by decide +kernel
theorem dX10_move_146 : decode cX10_move 146 = .ok (.goto (-31), 3) := by decide +kernel
theorem dX10_move_149 : decode cX10_move 149 = .ok (.iconst 0, 1) := by decide +kernel
theorem dX10_move_150 : decode cX10_move 150 = .ok (.istore 6, 2) := by decide +kernel
theorem dX10_move_152 : decode cX10_move 152 = .ok (.iload 6, 2) := by decide +kernel
theorem dX10_move_154 : decode cX10_move 154 = .ok (.iload 5, 2) := by decide +kernel
theorem dX10_move_156 : decode cX10_move 156 = .ok (.if_icmp .ge 31, 3) := by decide +kernel
theorem dX10_move_159 : decode cX10_move 159 = .ok (.aload_n 0, 1) := by decide +kernel
theorem dX10_move_160 : decode cX10_move 160 = .ok (.getfield 40, 3) := by decide +kernel
theorem dX10_move_163 : decode cX10_move 163 = .ok (.bipush 24, 2) := by decide +kernel
theorem dX10_move_165 : decode cX10_move 165 = .ok (.iload_n 3, 1) := by decide +kernel
theorem dX10_move_166 : decode cX10_move 166 = .ok (.imul, 1) := by decide +kernel
theorem dX10_move_167 : decode cX10_move 167 = .ok (.iload 4, 2) := by decide +kernel
theorem dX10_move_169 : decode cX10_move 169 = .ok (.iadd, 1) := by decide +kernel
theorem dX10_move_170 : decode cX10_move 170 = .ok (.iload 6, 2) := by decide +kernel
theorem dX10_move_172 : decode cX10_move 172 = .ok (.iadd, 1) := by decide +kernel
theorem dX10_move_173 : decode cX10_move 173 = .ok (.aload_n 0, 1) := by decide +kernel
theorem dX10_move_174 : decode cX10_move 174 = .ok (.getfield 43, 3) := by decide +kernel
theorem dX10_move_177 : decode cX10_move 177 = .ok (.iload 6, 2) := by decide +kernel
theorem dX10_move_179 : decode cX10_move 179 = .ok (.iaload, 1) := by decide +kernel
theorem dX10_move_180 : decode cX10_move 180 = .ok (.iastore, 1) := by decide +kernel
theorem dX10_move_181 : decode cX10_move 181 = .ok (.iinc 6 1, 3) := by decide +kernel
theorem dX10_move_184 : decode cX10_move 184 = .ok (.goto (-32), 3) := by decide +kernel
theorem dX10_move_187 : decode cX10_move 187 = .ok (.iload 5, 2) := by decide +kernel
theorem dX10_move_189 : decode cX10_move 189 = .ok (.ireturn, 1) := by decide +kernel
theorem dX10_lacks_0 : decode cX10_lacks 0 = .ok (.iload_n 1, 1) := by decide +kernel
theorem dX10_lacks_1 : decode cX10_lacks 1 = .ok (.invokestatic 254, 3) := by decide +kernel
theorem dX10_lacks_4 : decode cX10_lacks 4 = .ok (.ifCond .ne 7, 3) := by decide +kernel
theorem dX10_lacks_7 : decode cX10_lacks 7 = .ok (.iconst 1, 1) := by decide +kernel
theorem dX10_lacks_8 : decode cX10_lacks 8 = .ok (.goto 17, 3) := by decide +kernel
theorem dX10_lacks_11 : decode cX10_lacks 11 = .ok (.aload_n 0, 1) := by decide +kernel
theorem dX10_lacks_12 : decode cX10_lacks 12 = .ok (.getfield 34, 3) := by decide +kernel
theorem dX10_lacks_15 : decode cX10_lacks 15 = .ok (.iload_n 1, 1) := by decide +kernel
theorem dX10_lacks_16 : decode cX10_lacks 16 = .ok (.iaload, 1) := by decide +kernel
theorem dX10_lacks_17 : decode cX10_lacks 17 = .ok (.ifCond .ne 7, 3) := by decide +kernel
theorem dX10_lacks_20 : decode cX10_lacks 20 = .ok (.iconst 2, 1) := by decide +kernel
theorem dX10_lacks_21 : decode cX10_lacks 21 = .ok (.goto 4, 3) := by decide +kernel
theorem dX10_lacks_24 : decode cX10_lacks 24 = .ok (.iconst 0, 1) := by decide +kernel
theorem dX10_lacks_25 : decode cX10_lacks 25 = .ok (.ireturn, 1) := by decide +kernel
theorem dX10_partsAll_0 : decode cX10_partsAll 0 = .ok (.aload_n 0, 1) := by decide +kernel
theorem dX10_partsAll_1 : decode cX10_partsAll 1 = .ok (.iload_n 1, 1) := by decide +kernel
theorem dX10_partsAll_2 : decode cX10_partsAll 2 = .ok (.invokevirtual 215, 3) := by decide +kernel
theorem dX10_partsAll_5 : decode cX10_partsAll 5 = .ok (.istore_n 2, 1) := by decide +kernel
theorem dX10_partsAll_6 : decode cX10_partsAll 6 = .ok (.iload_n 2, 1) := by decide +kernel
theorem dX10_partsAll_7 : decode cX10_partsAll 7 = .ok (.ifCond .eq 9, 3) := by decide +kernel
theorem dX10_partsAll_10 : decode cX10_partsAll 10 = .ok (.aload_n 0, 1) := by decide +kernel
theorem dX10_partsAll_11 : decode cX10_partsAll 11 = .ok (.iload_n 2, 1) := by decide +kernel
theorem dX10_partsAll_12 : decode cX10_partsAll 12 = .ok (.invokevirtual 51, 3) := by decide +kernel
theorem dX10_partsAll_15 : decode cX10_partsAll 15 = .ok (.ireturn, 1) := by decide +kernel
theorem dX10_partsAll_16 : decode cX10_partsAll 16 = .ok (.iconst 0, 1) := by decide +kernel
theorem dX10_partsAll_17 : decode cX10_partsAll 17 = .ok (.istore_n 3, 1) := by decide +kernel
theorem dX10_partsAll_18 : decode cX10_partsAll 18 = .ok (.iload_n 3, 1) := by decide +kernel
theorem dX10_partsAll_19 : decode cX10_partsAll 19 = .ok (.aload_n 0, 1) := by decide +kernel
theorem dX10_partsAll_20 : decode cX10_partsAll 20 = .ok (.getfield 37, 3) := by decide +kernel
theorem dX10_partsAll_23 : decode cX10_partsAll 23 = .ok (.iload_n 1, 1) := by decide +kernel
theorem dX10_partsAll_24 : decode cX10_partsAll 24 = .ok (.iaload, 1) := by decide +kernel
theorem dX10_partsAll_25 : decode cX10_partsAll 25 = .ok (.if_icmp .ge 54, 3) := by decide +kernel
theorem dX10_partsAll_28 : decode cX10_partsAll 28 = .ok (.aload_n 0, 1) := by decide +kernel
theorem dX10_partsAll_29 : decode cX10_partsAll 29 = .ok (.iload_n 3, 1) := by decide +kernel
theorem dX10_partsAll_30 : decode cX10_partsAll 30 = .ok (.invokevirtual 178, 3) := by decide +kernel
theorem dX10_partsAll_33 : decode cX10_partsAll 33 = .ok (.ifCond .eq 46, 3) := by decide +kernel
theorem dX10_partsAll_36 : decode cX10_partsAll 36 = .ok (.aload_n 0, 1) := by decide +kernel
theorem dX10_partsAll_37 : decode cX10_partsAll 37 = .ok (.getfield 40, 3) := by decide +kernel
theorem dX10_partsAll_40 : decode cX10_partsAll 40 = .ok (.bipush 24, 2) := by decide +kernel
theorem dX10_partsAll_42 : decode cX10_partsAll 42 = .ok (.iload_n 1, 1) := by decide +kernel
theorem dX10_partsAll_43 : decode cX10_partsAll 43 = .ok (.imul, 1) := by decide +kernel
theorem dX10_partsAll_44 : decode cX10_partsAll 44 = .ok (.iload_n 3, 1) := by decide +kernel
theorem dX10_partsAll_45 : decode cX10_partsAll 45 = .ok (.iadd, 1) := by decide +kernel
theorem dX10_partsAll_46 : decode cX10_partsAll 46 = .ok (.iaload, 1) := by decide +kernel
theorem dX10_partsAll_47 : decode cX10_partsAll 47 = .ok (.iconst 0, 1) := by decide +kernel
theorem dX10_partsAll_48 : decode cX10_partsAll 48 = .ok (.bipush 99, 2) := by decide +kernel
theorem dX10_partsAll_50 : decode cX10_partsAll 50 = .ok (.invokestatic 47, 3) := by decide +kernel
theorem dX10_partsAll_53 : decode cX10_partsAll 53 = .ok (.ifCond .eq 26, 3) := by decide +kernel
theorem dX10_partsAll_56 : decode cX10_partsAll 56 = .ok (.aload_n 0, 1) := by decide +kernel
theorem dX10_partsAll_57 : decode cX10_partsAll 57 = .ok (.iload_n 3, 1) := by decide +kernel
theorem dX10_partsAll_58 : decode cX10_partsAll 58 = .ok (.iconst 1, 1) := by decide +kernel
theorem dX10_partsAll_59 : decode cX10_partsAll 59 = .ok (.aload_n 0, 1) := by decide +kernel
theorem dX10_partsAll_60 : decode cX10_partsAll 60 = .ok (.getfield 40, 3) := by decide +kernel
theorem dX10_partsAll_63 : decode cX10_partsAll 63 = .ok (.bipush 24, 2) := by decide +kernel
theorem dX10_partsAll_65 : decode cX10_partsAll 65 = .ok (.iload_n 1, 1) := by decide +kernel
theorem dX10_partsAll_66 : decode cX10_partsAll 66 = .ok (.imul, 1) := by decide +kernel
theorem dX10_partsAll_67 : decode cX10_partsAll 67 = .ok (.iload_n 3, 1) := by decide +kernel
theorem dX10_partsAll_68 : decode cX10_partsAll 68 = .ok (.iadd, 1) := by decide +kernel
theorem dX10_partsAll_69 : decode cX10_partsAll 69 = .ok (.iaload, 1) := by decide +kernel
theorem dX10_partsAll_70 : decode cX10_partsAll 70 = .ok (.invokevirtual 145, 3) := by decide +kernel
theorem dX10_partsAll_73 : decode cX10_partsAll 73 = .ok (.iinc 3 1, 3) := by decide +kernel
theorem dX10_partsAll_76 : decode cX10_partsAll 76 = .ok (.goto (-58), 3) := by decide +kernel
theorem dX10_partsAll_79 : decode cX10_partsAll 79 = .ok (.iload_n 3, 1) := by decide +kernel
theorem dX10_partsAll_80 : decode cX10_partsAll 80 = .ok (.ireturn, 1) := by decide +kernel
theorem dX10_judge_0 : decode cX10_judge 0 = .ok (.aload_n 0, 1) := by decide +kernel
theorem dX10_judge_1 : decode cX10_judge 1 = .ok (.iload_n 1, 1) := by decide +kernel
theorem dX10_judge_2 : decode cX10_judge 2 = .ok (.invokevirtual 215, 3) := by decide +kernel
theorem dX10_judge_5 : decode cX10_judge 5 = .ok (.istore_n 2, 1) := by decide +kernel
theorem dX10_judge_6 : decode cX10_judge 6 = .ok (.iload_n 2, 1) := by decide +kernel
theorem dX10_judge_7 : decode cX10_judge 7 = .ok (.ifCond .eq 9, 3) := by decide +kernel
theorem dX10_judge_10 : decode cX10_judge 10 = .ok (.aload_n 0, 1) := by decide +kernel
theorem dX10_judge_11 : decode cX10_judge 11 = .ok (.iload_n 2, 1) := by decide +kernel
theorem dX10_judge_12 : decode cX10_judge 12 = .ok (.invokevirtual 51, 3) := by decide +kernel
theorem dX10_judge_15 : decode cX10_judge 15 = .ok (.ireturn, 1) := by decide +kernel
theorem dX10_judge_16 : decode cX10_judge 16 = .ok (.aload_n 0, 1) := by decide +kernel
theorem dX10_judge_17 : decode cX10_judge 17 = .ok (.getfield 7, 3) := by decide +kernel
theorem dX10_judge_20 : decode cX10_judge 20 = .ok (.iconst 0, 1) := by decide +kernel
theorem dX10_judge_21 : decode cX10_judge 21 = .ok (.iaload, 1) := by decide +kernel
theorem dX10_judge_22 : decode cX10_judge 22 = .ok (.istore_n 3, 1) := by decide +kernel
theorem dX10_judge_23 : decode cX10_judge 23 = .ok (.iconst 0, 1) := by decide +kernel
theorem dX10_judge_24 : decode cX10_judge 24 = .ok (.istore 4, 2) := by decide +kernel
theorem dX10_judge_26 : decode cX10_judge 26 = .ok (.iload 4, 2) := by decide +kernel
theorem dX10_judge_28 : decode cX10_judge 28 = .ok (.aload_n 0, 1) := by decide +kernel
theorem dX10_judge_29 : decode cX10_judge 29 = .ok (.getfield 37, 3) := by decide +kernel
theorem dX10_judge_32 : decode cX10_judge 32 = .ok (.iload_n 1, 1) := by decide +kernel
theorem dX10_judge_33 : decode cX10_judge 33 = .ok (.iaload, 1) := by decide +kernel
theorem dX10_judge_34 : decode cX10_judge 34 = .ok (.if_icmp .ge 38, 3) := by decide +kernel
theorem dX10_judge_37 : decode cX10_judge 37 = .ok (.aload_n 0, 1) := by decide +kernel
theorem dX10_judge_38 : decode cX10_judge 38 = .ok (.invokevirtual 149, 3) := by decide +kernel
theorem dX10_judge_41 : decode cX10_judge 41 = .ok (.aload_n 0, 1) := by decide +kernel
theorem dX10_judge_42 : decode cX10_judge 42 = .ok (.getfield 40, 3) := by decide +kernel
theorem dX10_judge_45 : decode cX10_judge 45 = .ok (.bipush 24, 2) := by decide +kernel
theorem dX10_judge_47 : decode cX10_judge 47 = .ok (.iload_n 1, 1) := by decide +kernel
theorem dX10_judge_48 : decode cX10_judge 48 = .ok (.imul, 1) := by decide +kernel
theorem dX10_judge_49 : decode cX10_judge 49 = .ok (.iload 4, 2) := by decide +kernel
theorem dX10_judge_51 : decode cX10_judge 51 = .ok (.iadd, 1) := by decide +kernel
theorem dX10_judge_52 : decode cX10_judge 52 = .ok (.iaload, 1) := by decide +kernel
theorem dX10_judge_53 : decode cX10_judge 53 = .ok (.if_icmp .ne 19, 3) := by decide +kernel
theorem dX10_judge_56 : decode cX10_judge 56 = .ok (.aload_n 0, 1) := by decide +kernel
theorem dX10_judge_57 : decode cX10_judge 57 = .ok (.getfield 7, 3) := by decide +kernel
theorem dX10_judge_60 : decode cX10_judge 60 = .ok (.iconst 0, 1) := by decide +kernel
theorem dX10_judge_61 : decode cX10_judge 61 = .ok (.dup2, 1) := by decide +kernel
theorem dX10_judge_62 : decode cX10_judge 62 = .ok (.iaload, 1) := by decide +kernel
theorem dX10_judge_63 : decode cX10_judge 63 = .ok (.iconst 1, 1) := by decide +kernel
theorem dX10_judge_64 : decode cX10_judge 64 = .ok (.iadd, 1) := by decide +kernel
theorem dX10_judge_65 : decode cX10_judge 65 = .ok (.iastore, 1) := by decide +kernel
theorem dX10_judge_66 : decode cX10_judge 66 = .ok (.iinc 4 1, 3) := by decide +kernel
theorem dX10_judge_69 : decode cX10_judge 69 = .ok (.goto (-43), 3) := by decide +kernel
theorem dX10_judge_72 : decode cX10_judge 72 = .ok (.aload_n 0, 1) := by decide +kernel
theorem dX10_judge_73 : decode cX10_judge 73 = .ok (.getfield 7, 3) := by decide +kernel
theorem dX10_judge_76 : decode cX10_judge 76 = .ok (.iconst 0, 1) := by decide +kernel
theorem dX10_judge_77 : decode cX10_judge 77 = .ok (.iload_n 3, 1) := by decide +kernel
theorem dX10_judge_78 : decode cX10_judge 78 = .ok (.iastore, 1) := by decide +kernel
theorem dX10_judge_79 : decode cX10_judge 79 = .ok (.iload 4, 2) := by decide +kernel
theorem dX10_judge_81 : decode cX10_judge 81 = .ok (.ireturn, 1) := by decide +kernel
theorem dX10_image_0 : decode cX10_image 0 = .ok (.aload_n 0, 1) := by decide +kernel
theorem dX10_image_1 : decode cX10_image 1 = .ok (.getfield 7, 3) := by decide +kernel
theorem dX10_image_4 : decode cX10_image 4 = .ok (.aload_n 0, 1) := by decide +kernel
theorem dX10_image_5 : decode cX10_image 5 = .ok (.getfield 13, 3) := by decide +kernel
theorem dX10_image_8 : decode cX10_image 8 = .ok (.invokestatic 257, 3) := by decide +kernel
theorem dX10_image_11 : decode cX10_image 11 = .ok (.aload_n 0, 1) := by decide +kernel
theorem dX10_image_12 : decode cX10_image 12 = .ok (.dup, 1) := by decide +kernel
theorem dX10_image_13 : decode cX10_image 13 = .ok (.getfield 261, 3) := by decide +kernel
theorem dX10_image_16 : decode cX10_image 16 = .ok (.iconst 1, 1) := by decide +kernel
theorem dX10_image_17 : decode cX10_image 17 = .ok (.iadd, 1) := by decide +kernel
theorem dX10_image_18 : decode cX10_image 18 = .ok (.putfield 261, 3) := by decide +kernel
theorem dX10_image_21 : decode cX10_image 21 = .ok (.aload_n 0, 1) := by decide +kernel
theorem dX10_image_22 : decode cX10_image 22 = .ok (.getfield 261, 3) := by decide +kernel
theorem dX10_image_25 : decode cX10_image 25 = .ok (.ireturn, 1) := by decide +kernel
theorem dX10_restore_0 : decode cX10_restore 0 = .ok (.aload_n 0, 1) := by decide +kernel
theorem dX10_restore_1 : decode cX10_restore 1 = .ok (.getfield 261, 3) := by decide +kernel
theorem dX10_restore_4 : decode cX10_restore 4 = .ok (.ifCond .ne 9, 3) := by decide +kernel
theorem dX10_restore_7 : decode cX10_restore 7 = .ok (.aload_n 0, 1) := by decide +kernel
theorem dX10_restore_8 : decode cX10_restore 8 = .ok (.iconst 2, 1) := by decide +kernel
theorem dX10_restore_9 : decode cX10_restore 9 = .ok (.invokevirtual 51, 3) := by decide +kernel
theorem dX10_restore_12 : decode cX10_restore 12 = .ok (.ireturn, 1) := by decide +kernel
theorem dX10_restore_13 : decode cX10_restore 13 = .ok (.aload_n 0, 1) := by decide +kernel
theorem dX10_restore_14 : decode cX10_restore 14 = .ok (.getfield 13, 3) := by decide +kernel
theorem dX10_restore_17 : decode cX10_restore 17 = .ok (.aload_n 0, 1) := by decide +kernel
theorem dX10_restore_18 : decode cX10_restore 18 = .ok (.getfield 7, 3) := by decide +kernel
theorem dX10_restore_21 : decode cX10_restore 21 = .ok (.invokestatic 257, 3) := by decide +kernel
theorem dX10_restore_24 : decode cX10_restore 24 = .ok (.aload_n 0, 1) := by decide +kernel
theorem dX10_restore_25 : decode cX10_restore 25 = .ok (.getfield 7, 3) := by decide +kernel
theorem dX10_restore_28 : decode cX10_restore 28 = .ok (.iconst 0, 1) := by decide +kernel
theorem dX10_restore_29 : decode cX10_restore 29 = .ok (.iaload, 1) := by decide +kernel
theorem dX10_restore_30 : decode cX10_restore 30 = .ok (.ireturn, 1) := by decide +kernel
theorem dX10_tell_0 : decode cX10_tell 0 = .ok (.aload_n 0, 1) := by decide +kernel
theorem dX10_tell_1 : decode cX10_tell 1 = .ok (.getfield 7, 3) := by decide +kernel
theorem dX10_tell_4 : decode cX10_tell 4 = .ok (.iconst 3, 1) := by decide +kernel
theorem dX10_tell_5 : decode cX10_tell 5 = .ok (.iaload, 1) := by decide +kernel
theorem dX10_tell_6 : decode cX10_tell 6 = .ok (.bipush 24, 2) := by decide +kernel
theorem dX10_tell_8 : decode cX10_tell 8 = .ok (.if_icmp .ne 9, 3) := by decide +kernel
theorem dX10_tell_11 : decode cX10_tell 11 = .ok (.aload_n 0, 1) := by decide +kernel
theorem dX10_tell_12 : decode cX10_tell 12 = .ok (.iconst 4, 1) := by decide +kernel
theorem dX10_tell_13 : decode cX10_tell 13 = .ok (.invokevirtual 51, 3) := by decide +kernel
theorem dX10_tell_16 : decode cX10_tell 16 = .ok (.ireturn, 1) := by decide +kernel
theorem dX10_tell_17 : decode cX10_tell 17 = .ok (.aload_n 0, 1) := by decide +kernel
theorem dX10_tell_18 : decode cX10_tell 18 = .ok (.getfield 7, 3) := by decide +kernel
theorem dX10_tell_21 : decode cX10_tell 21 = .ok (.sipush 360, 3) := by decide +kernel
theorem dX10_tell_24 : decode cX10_tell 24 = .ok (.aload_n 0, 1) := by decide +kernel
theorem dX10_tell_25 : decode cX10_tell 25 = .ok (.getfield 7, 3) := by decide +kernel
theorem dX10_tell_28 : decode cX10_tell 28 = .ok (.iconst 3, 1) := by decide +kernel
theorem dX10_tell_29 : decode cX10_tell 29 = .ok (.iaload, 1) := by decide +kernel
theorem dX10_tell_30 : decode cX10_tell 30 = .ok (.iadd, 1) := by decide +kernel
theorem dX10_tell_31 : decode cX10_tell 31 = .ok (.iload_n 1, 1) := by decide +kernel
theorem dX10_tell_32 : decode cX10_tell 32 = .ok (.iastore, 1) := by decide +kernel
theorem dX10_tell_33 : decode cX10_tell 33 = .ok (.aload_n 0, 1) := by decide +kernel
theorem dX10_tell_34 : decode cX10_tell 34 = .ok (.getfield 7, 3) := by decide +kernel
theorem dX10_tell_37 : decode cX10_tell 37 = .ok (.iconst 3, 1) := by decide +kernel
theorem dX10_tell_38 : decode cX10_tell 38 = .ok (.dup2, 1) := by decide +kernel
theorem dX10_tell_39 : decode cX10_tell 39 = .ok (.iaload, 1) := by decide +kernel
theorem dX10_tell_40 : decode cX10_tell 40 = .ok (.iconst 1, 1) := by decide +kernel
theorem dX10_tell_41 : decode cX10_tell 41 = .ok (.iadd, 1) := by decide +kernel
theorem dX10_tell_42 : decode cX10_tell 42 = .ok (.iastore, 1) := by decide +kernel
theorem dX10_tell_43 : decode cX10_tell 43 = .ok (.aload_n 0, 1) := by decide +kernel
theorem dX10_tell_44 : decode cX10_tell 44 = .ok (.getfield 7, 3) := by decide +kernel
theorem dX10_tell_47 : decode cX10_tell 47 = .ok (.iconst 3, 1) := by decide +kernel
theorem dX10_tell_48 : decode cX10_tell 48 = .ok (.iaload, 1) := by decide +kernel
theorem dX10_tell_49 : decode cX10_tell 49 = .ok (.ireturn, 1) := by decide +kernel
theorem dX10_check_0 : decode cX10_check 0 = .ok (.aload_n 0, 1) := by decide +kernel
theorem dX10_check_1 : decode cX10_check 1 = .ok (.getfield 7, 3) := by decide +kernel
theorem dX10_check_4 : decode cX10_check 4 = .ok (.iconst 3, 1) := by decide +kernel
theorem dX10_check_5 : decode cX10_check 5 = .ok (.iaload, 1) := by decide +kernel
theorem dX10_check_6 : decode cX10_check 6 = .ok (.istore_n 1, 1) := by decide +kernel
theorem dX10_check_7 : decode cX10_check 7 = .ok (.aload_n 0, 1) := by decide +kernel
theorem dX10_check_8 : decode cX10_check 8 = .ok (.getfield 7, 3) := by decide +kernel
theorem dX10_check_11 : decode cX10_check 11 = .ok (.iconst 3, 1) := by decide +kernel
theorem dX10_check_12 : decode cX10_check 12 = .ok (.iconst 0, 1) := by decide +kernel
theorem dX10_check_13 : decode cX10_check 13 = .ok (.iastore, 1) := by decide +kernel
theorem dX10_check_14 : decode cX10_check 14 = .ok (.iconst 0, 1) := by decide +kernel
theorem dX10_check_15 : decode cX10_check 15 = .ok (.istore_n 2, 1) := by decide +kernel
theorem dX10_check_16 : decode cX10_check 16 = .ok (.iload_n 2, 1) := by decide +kernel
theorem dX10_check_17 : decode cX10_check 17 = .ok (.iload_n 1, 1) := by decide +kernel
theorem dX10_check_18 : decode cX10_check 18 = .ok (.if_icmp .ge 40, 3) := by decide +kernel
theorem dX10_check_21 : decode cX10_check 21 = .ok (.aload_n 0, 1) := by decide +kernel
theorem dX10_check_22 : decode cX10_check 22 = .ok (.iload_n 2, 1) := by decide +kernel
theorem dX10_check_23 : decode cX10_check 23 = .ok (.invokevirtual 178, 3) := by decide +kernel
theorem dX10_check_26 : decode cX10_check 26 = .ok (.ifCond .eq 22, 3) := by decide +kernel
theorem dX10_check_29 : decode cX10_check 29 = .ok (.aload_n 0, 1) := by decide +kernel
theorem dX10_check_30 : decode cX10_check 30 = .ok (.getfield 7, 3) := by decide +kernel
theorem dX10_check_33 : decode cX10_check 33 = .ok (.sipush 360, 3) := by decide +kernel
theorem dX10_check_36 : decode cX10_check 36 = .ok (.iload_n 2, 1) := by decide +kernel
theorem dX10_check_37 : decode cX10_check 37 = .ok (.iadd, 1) := by decide +kernel
theorem dX10_check_38 : decode cX10_check 38 = .ok (.iaload, 1) := by decide +kernel
theorem dX10_check_39 : decode cX10_check 39 = .ok (.aload_n 0, 1) := by decide +kernel
theorem dX10_check_40 : decode cX10_check 40 = .ok (.iload_n 2, 1) := by decide +kernel
theorem dX10_check_41 : decode cX10_check 41 = .ok (.iconst 1, 1) := by decide +kernel
theorem dX10_check_42 : decode cX10_check 42 = .ok (.invokevirtual 130, 3) := by decide +kernel
theorem dX10_check_45 : decode cX10_check 45 = .ok (.if_icmp .eq 7, 3) := by decide +kernel
theorem dX10_check_48 : decode cX10_check 48 = .ok (.iconst 1, 1) := by decide +kernel
theorem dX10_check_49 : decode cX10_check 49 = .ok (.iload_n 2, 1) := by decide +kernel
theorem dX10_check_50 : decode cX10_check 50 = .ok (.iadd, 1) := by decide +kernel
theorem dX10_check_51 : decode cX10_check 51 = .ok (.ireturn, 1) := by decide +kernel
theorem dX10_check_52 : decode cX10_check 52 = .ok (.iinc 2 1, 3) := by decide +kernel
theorem dX10_check_55 : decode cX10_check 55 = .ok (.goto (-39), 3) := by decide +kernel
theorem dX10_check_58 : decode cX10_check 58 = .ok (.iconst 0, 1) := by decide +kernel
theorem dX10_check_59 : decode cX10_check 59 = .ok (.ireturn, 1) := by decide +kernel
theorem dX10_allParts_0 : decode cX10_allParts 0 = .ok (.iconst 0, 1) := by decide +kernel
theorem dX10_allParts_1 : decode cX10_allParts 1 = .ok (.istore_n 1, 1) := by decide +kernel
theorem dX10_allParts_2 : decode cX10_allParts 2 = .ok (.iconst 0, 1) := by decide +kernel
theorem dX10_allParts_3 : decode cX10_allParts 3 = .ok (.istore_n 2, 1) := by decide +kernel
theorem dX10_allParts_4 : decode cX10_allParts 4 = .ok (.iload_n 2, 1) := by decide +kernel
theorem dX10_allParts_5 : decode cX10_allParts 5 = .ok (.aload_n 0, 1) := by decide +kernel
theorem dX10_allParts_6 : decode cX10_allParts 6 = .ok (.getfield 7, 3) := by decide +kernel
theorem dX10_allParts_9 : decode cX10_allParts 9 = .ok (.iconst 5, 1) := by decide +kernel
theorem dX10_allParts_10 : decode cX10_allParts 10 = .ok (.iaload, 1) := by decide +kernel
theorem dX10_allParts_11 : decode cX10_allParts 11 = .ok (.if_icmp .ge 18, 3) := by decide +kernel
theorem dX10_allParts_14 : decode cX10_allParts 14 = .ok (.iload_n 1, 1) := by decide +kernel
theorem dX10_allParts_15 : decode cX10_allParts 15 = .ok (.aload_n 0, 1) := by decide +kernel
theorem dX10_allParts_16 : decode cX10_allParts 16 = .ok (.iload_n 2, 1) := by decide +kernel
theorem dX10_allParts_17 : decode cX10_allParts 17 = .ok (.iconst 1, 1) := by decide +kernel
theorem dX10_allParts_18 : decode cX10_allParts 18 = .ok (.invokevirtual 130, 3) := by decide +kernel
theorem dX10_allParts_21 : decode cX10_allParts 21 = .ok (.iadd, 1) := by decide +kernel
theorem dX10_allParts_22 : decode cX10_allParts 22 = .ok (.istore_n 1, 1) := by decide +kernel
theorem dX10_allParts_23 : decode cX10_allParts 23 = .ok (.iinc 2 1, 3) := by decide +kernel
theorem dX10_allParts_26 : decode cX10_allParts 26 = .ok (.goto (-22), 3) := by decide +kernel
theorem dX10_allParts_29 : decode cX10_allParts 29 = .ok (.iload_n 1, 1) := by decide +kernel
theorem dX10_allParts_30 : decode cX10_allParts 30 = .ok (.ireturn, 1) := by decide +kernel
theorem dX10_count_0 : decode cX10_count 0 = .ok (.iload_n 1, 1) := by decide +kernel
theorem dX10_count_1 : decode cX10_count 1 = .ok (.tableswitch 99 0 7 #[47, 54, 61, 68, 73, 80, 87, 92], 47) := by decide +kernel
theorem dX10_count_48 : decode cX10_count 48 = .ok (.aload_n 0, 1) := by decide +kernel
theorem dX10_count_49 : decode cX10_count 49 = .ok (.getfield 7, 3) := by decide +kernel
theorem dX10_count_52 : decode cX10_count 52 = .ok (.iconst 4, 1) := by decide +kernel
theorem dX10_count_53 : decode cX10_count 53 = .ok (.iaload, 1) := by decide +kernel
theorem dX10_count_54 : decode cX10_count 54 = .ok (.ireturn, 1) := by decide +kernel
theorem dX10_count_55 : decode cX10_count 55 = .ok (.aload_n 0, 1) := by decide +kernel
theorem dX10_count_56 : decode cX10_count 56 = .ok (.getfield 7, 3) := by decide +kernel
theorem dX10_count_59 : decode cX10_count 59 = .ok (.iconst 5, 1) := by decide +kernel
theorem dX10_count_60 : decode cX10_count 60 = .ok (.iaload, 1) := by decide +kernel
theorem dX10_count_61 : decode cX10_count 61 = .ok (.ireturn, 1) := by decide +kernel
theorem dX10_count_62 : decode cX10_count 62 = .ok (.aload_n 0, 1) := by decide +kernel
theorem dX10_count_63 : decode cX10_count 63 = .ok (.getfield 7, 3) := by decide +kernel
theorem dX10_count_66 : decode cX10_count 66 = .ok (.iconst 0, 1) := by decide +kernel
theorem dX10_count_67 : decode cX10_count 67 = .ok (.iaload, 1) := by decide +kernel
theorem dX10_count_68 : decode cX10_count 68 = .ok (.ireturn, 1) := by decide +kernel
theorem dX10_count_69 : decode cX10_count 69 = .ok (.aload_n 0, 1) := by decide +kernel
theorem dX10_count_70 : decode cX10_count 70 = .ok (.invokevirtual 264, 3) := by decide +kernel
theorem dX10_count_73 : decode cX10_count 73 = .ok (.ireturn, 1) := by decide +kernel
theorem dX10_count_74 : decode cX10_count 74 = .ok (.aload_n 0, 1) := by decide +kernel
theorem dX10_count_75 : decode cX10_count 75 = .ok (.getfield 7, 3) := by decide +kernel
theorem dX10_count_78 : decode cX10_count 78 = .ok (.iconst 2, 1) := by decide +kernel
theorem dX10_count_79 : decode cX10_count 79 = .ok (.iaload, 1) := by decide +kernel
theorem dX10_count_80 : decode cX10_count 80 = .ok (.ireturn, 1) := by decide +kernel
theorem dX10_count_81 : decode cX10_count 81 = .ok (.aload_n 0, 1) := by decide +kernel
theorem dX10_count_82 : decode cX10_count 82 = .ok (.getfield 7, 3) := by decide +kernel
theorem dX10_count_85 : decode cX10_count 85 = .ok (.iconst 3, 1) := by decide +kernel
theorem dX10_count_86 : decode cX10_count 86 = .ok (.iaload, 1) := by decide +kernel
theorem dX10_count_87 : decode cX10_count 87 = .ok (.ireturn, 1) := by decide +kernel
theorem dX10_count_88 : decode cX10_count 88 = .ok (.aload_n 0, 1) := by decide +kernel
theorem dX10_count_89 : decode cX10_count 89 = .ok (.getfield 222, 3) := by decide +kernel
theorem dX10_count_92 : decode cX10_count 92 = .ok (.ireturn, 1) := by decide +kernel
theorem dX10_count_93 : decode cX10_count 93 = .ok (.aload_n 0, 1) := by decide +kernel
theorem dX10_count_94 : decode cX10_count 94 = .ok (.getfield 7, 3) := by decide +kernel
theorem dX10_count_97 : decode cX10_count 97 = .ok (.iconst 1, 1) := by decide +kernel
theorem dX10_count_98 : decode cX10_count 98 = .ok (.iaload, 1) := by decide +kernel
theorem dX10_count_99 : decode cX10_count 99 = .ok (.ireturn, 1) := by decide +kernel
theorem dX10_count_100 : decode cX10_count 100 = .ok (.aload_n 0, 1) := by decide +kernel
theorem dX10_count_101 : decode cX10_count 101 = .ok (.iconst 1, 1) := by decide +kernel
theorem dX10_count_102 : decode cX10_count 102 = .ok (.invokevirtual 51, 3) := by decide +kernel
theorem dX10_count_105 : decode cX10_count 105 = .ok (.ireturn, 1) := by decide +kernel
theorem dX10_told_0 : decode cX10_told 0 = .ok (.iload_n 1, 1) := by decide +kernel
theorem dX10_told_1 : decode cX10_told 1 = .ok (.iconst 1, 1) := by decide +kernel
theorem dX10_told_2 : decode cX10_told 2 = .ok (.bipush 6, 2) := by decide +kernel
theorem dX10_told_4 : decode cX10_told 4 = .ok (.invokestatic 47, 3) := by decide +kernel
theorem dX10_told_7 : decode cX10_told 7 = .ok (.ifCond .eq 12, 3) := by decide +kernel
theorem dX10_told_10 : decode cX10_told 10 = .ok (.aload_n 0, 1) := by decide +kernel
theorem dX10_told_11 : decode cX10_told 11 = .ok (.getfield 19, 3) := by decide +kernel
theorem dX10_told_14 : decode cX10_told 14 = .ok (.iload_n 1, 1) := by decide +kernel
theorem dX10_told_15 : decode cX10_told 15 = .ok (.iaload, 1) := by decide +kernel
theorem dX10_told_16 : decode cX10_told 16 = .ok (.goto 8, 3) := by decide +kernel
theorem dX10_told_19 : decode cX10_told 19 = .ok (.aload_n 0, 1) := by decide +kernel
theorem dX10_told_20 : decode cX10_told 20 = .ok (.iconst 1, 1) := by decide +kernel
theorem dX10_told_21 : decode cX10_told 21 = .ok (.invokevirtual 51, 3) := by decide +kernel
theorem dX10_told_24 : decode cX10_told 24 = .ok (.ireturn, 1) := by decide +kernel
theorem dJ6_bitCount_0f7a4_0 : decode cJ6_bitCount_0f7a4 0 = .ok (.iload_n 0, 1) := by decide +kernel
theorem dJ6_bitCount_0f7a4_1 : decode cJ6_bitCount_0f7a4 1 = .ok (.iload_n 0, 1) := by decide +kernel
theorem dJ6_bitCount_0f7a4_2 : decode cJ6_bitCount_0f7a4 2 = .ok (.iconst 1, 1) := by decide +kernel
theorem dJ6_bitCount_0f7a4_3 : decode cJ6_bitCount_0f7a4 3 = .ok (.iushr, 1) := by decide +kernel
theorem dJ6_bitCount_0f7a4_4 : decode cJ6_bitCount_0f7a4 4 = .ok (.ldc_w 265, 3) := by decide +kernel
theorem dJ6_bitCount_0f7a4_7 : decode cJ6_bitCount_0f7a4 7 = .ok (.iand, 1) := by decide +kernel
theorem dJ6_bitCount_0f7a4_8 : decode cJ6_bitCount_0f7a4 8 = .ok (.isub, 1) := by decide +kernel
theorem dJ6_bitCount_0f7a4_9 : decode cJ6_bitCount_0f7a4 9 = .ok (.istore_n 0, 1) := by decide +kernel
theorem dJ6_bitCount_0f7a4_10 : decode cJ6_bitCount_0f7a4 10 = .ok (.iload_n 0, 1) := by decide +kernel
theorem dJ6_bitCount_0f7a4_11 : decode cJ6_bitCount_0f7a4 11 = .ok (.ldc_w 266, 3) := by decide +kernel
theorem dJ6_bitCount_0f7a4_14 : decode cJ6_bitCount_0f7a4 14 = .ok (.iand, 1) := by decide +kernel
theorem dJ6_bitCount_0f7a4_15 : decode cJ6_bitCount_0f7a4 15 = .ok (.iload_n 0, 1) := by decide +kernel
theorem dJ6_bitCount_0f7a4_16 : decode cJ6_bitCount_0f7a4 16 = .ok (.iconst 2, 1) := by decide +kernel
theorem dJ6_bitCount_0f7a4_17 : decode cJ6_bitCount_0f7a4 17 = .ok (.iushr, 1) := by decide +kernel
theorem dJ6_bitCount_0f7a4_18 : decode cJ6_bitCount_0f7a4 18 = .ok (.ldc_w 266, 3) := by decide +kernel
theorem dJ6_bitCount_0f7a4_21 : decode cJ6_bitCount_0f7a4 21 = .ok (.iand, 1) := by decide +kernel
theorem dJ6_bitCount_0f7a4_22 : decode cJ6_bitCount_0f7a4 22 = .ok (.iadd, 1) := by decide +kernel
theorem dJ6_bitCount_0f7a4_23 : decode cJ6_bitCount_0f7a4 23 = .ok (.istore_n 0, 1) := by decide +kernel
theorem dJ6_bitCount_0f7a4_24 : decode cJ6_bitCount_0f7a4 24 = .ok (.iload_n 0, 1) := by decide +kernel
theorem dJ6_bitCount_0f7a4_25 : decode cJ6_bitCount_0f7a4 25 = .ok (.iload_n 0, 1) := by decide +kernel
theorem dJ6_bitCount_0f7a4_26 : decode cJ6_bitCount_0f7a4 26 = .ok (.iconst 4, 1) := by decide +kernel
theorem dJ6_bitCount_0f7a4_27 : decode cJ6_bitCount_0f7a4 27 = .ok (.iushr, 1) := by decide +kernel
theorem dJ6_bitCount_0f7a4_28 : decode cJ6_bitCount_0f7a4 28 = .ok (.iadd, 1) := by decide +kernel
theorem dJ6_bitCount_0f7a4_29 : decode cJ6_bitCount_0f7a4 29 = .ok (.ldc_w 267, 3) := by decide +kernel
theorem dJ6_bitCount_0f7a4_32 : decode cJ6_bitCount_0f7a4 32 = .ok (.iand, 1) := by decide +kernel
theorem dJ6_bitCount_0f7a4_33 : decode cJ6_bitCount_0f7a4 33 = .ok (.istore_n 0, 1) := by decide +kernel
theorem dJ6_bitCount_0f7a4_34 : decode cJ6_bitCount_0f7a4 34 = .ok (.iload_n 0, 1) := by decide +kernel
theorem dJ6_bitCount_0f7a4_35 : decode cJ6_bitCount_0f7a4 35 = .ok (.iload_n 0, 1) := by decide +kernel
theorem dJ6_bitCount_0f7a4_36 : decode cJ6_bitCount_0f7a4 36 = .ok (.bipush 8, 2) := by decide +kernel
theorem dJ6_bitCount_0f7a4_38 : decode cJ6_bitCount_0f7a4 38 = .ok (.iushr, 1) := by decide +kernel
theorem dJ6_bitCount_0f7a4_39 : decode cJ6_bitCount_0f7a4 39 = .ok (.iadd, 1) := by decide +kernel
theorem dJ6_bitCount_0f7a4_40 : decode cJ6_bitCount_0f7a4 40 = .ok (.istore_n 0, 1) := by decide +kernel

theorem dX0_init_0 : decode cX0_init 0 = .ok (.aload_n 0, 1) := by decide +kernel
theorem dX0_init_1 : decode cX0_init 1 = .ok (.invokespecial 1, 3) := by decide +kernel
theorem dX0_init_4 : decode cX0_init 4 = .ok (.return_, 1) := by decide +kernel
theorem dX0_beLike_0 : decode cX0_beLike 0 = .ok (.aload_n 0, 1) := by decide +kernel
theorem dX0_beLike_1 : decode cX0_beLike 1 = .ok (.aload_n 1, 1) := by decide +kernel
theorem dX0_beLike_2 : decode cX0_beLike 2 = .ok (.getfield 7, 3) := by decide +kernel
theorem dX0_beLike_5 : decode cX0_beLike 5 = .ok (.putfield 7, 3) := by decide +kernel
theorem dX0_beLike_8 : decode cX0_beLike 8 = .ok (.aload_n 0, 1) := by decide +kernel
theorem dX0_beLike_9 : decode cX0_beLike 9 = .ok (.aload_n 1, 1) := by decide +kernel
theorem dX0_beLike_10 : decode cX0_beLike 10 = .ok (.getfield 13, 3) := by decide +kernel
theorem dX0_beLike_13 : decode cX0_beLike 13 = .ok (.putfield 13, 3) := by decide +kernel
theorem dX0_beLike_16 : decode cX0_beLike 16 = .ok (.aload_n 0, 1) := by decide +kernel
theorem dX0_beLike_17 : decode cX0_beLike 17 = .ok (.aload_n 1, 1) := by decide +kernel
theorem dX0_beLike_18 : decode cX0_beLike 18 = .ok (.getfield 16, 3) := by decide +kernel
theorem dX0_beLike_21 : decode cX0_beLike 21 = .ok (.putfield 16, 3) := by decide +kernel
theorem dX0_beLike_24 : decode cX0_beLike 24 = .ok (.return_, 1) := by decide +kernel
theorem dX1_init_0 : decode cX1_init 0 = .ok (.aload_n 0, 1) := by decide +kernel
theorem dX1_init_1 : decode cX1_init 1 = .ok (.invokespecial 3, 3) := by decide +kernel
theorem dX1_init_4 : decode cX1_init 4 = .ok (.aload_n 0, 1) := by decide +kernel
theorem dX1_init_5 : decode cX1_init 5 = .ok (.bipush 99, 2) := by decide +kernel
theorem dX1_init_7 : decode cX1_init 7 = .ok (.newarray .int, 2) := by decide +kernel
theorem dX1_init_9 : decode cX1_init 9 = .ok (.putfield 9, 3) := by decide +kernel
theorem dX1_init_12 : decode cX1_init 12 = .ok (.aload_n 0, 1) := by decide +kernel
theorem dX1_init_13 : decode cX1_init 13 = .ok (.aload_n 1, 1) := by decide +kernel
theorem dX1_init_14 : decode cX1_init 14 = .ok (.putfield 15, 3) := by decide +kernel
theorem dX1_init_17 : decode cX1_init 17 = .ok (.return_, 1) := by decide +kernel
theorem dX1_partsBehind_0 : decode cX1_partsBehind 0 = .ok (.aload_n 1, 1) := by decide +kernel
theorem dX1_partsBehind_1 : decode cX1_partsBehind 1 = .ok (.getfield 19, 3) := by decide +kernel
theorem dX1_partsBehind_4 : decode cX1_partsBehind 4 = .ok (.istore_n 3, 1) := by decide +kernel
theorem dX1_partsBehind_5 : decode cX1_partsBehind 5 = .ok (.iconst 0, 1) := by decide +kernel
theorem dX1_partsBehind_6 : decode cX1_partsBehind 6 = .ok (.istore 4, 2) := by decide +kernel
theorem dX1_partsBehind_8 : decode cX1_partsBehind 8 = .ok (.iload 4, 2) := by decide +kernel
theorem dX1_partsBehind_10 : decode cX1_partsBehind 10 = .ok (.iload_n 2, 1) := by decide +kernel
theorem dX1_partsBehind_11 : decode cX1_partsBehind 11 = .ok (.if_icmp .ge 48, 3) := by decide +kernel
theorem dX1_partsBehind_14 : decode cX1_partsBehind 14 = .ok (.iload_n 3, 1) := by decide +kernel
theorem dX1_partsBehind_15 : decode cX1_partsBehind 15 = .ok (.ifCond .le 44, 3) := by decide +kernel
theorem dX1_partsBehind_18 : decode cX1_partsBehind 18 = .ok (.aload_n 0, 1) := by decide +kernel
theorem dX1_partsBehind_19 : decode cX1_partsBehind 19 = .ok (.getfield 15, 3) := by decide +kernel
theorem dX1_partsBehind_22 : decode cX1_partsBehind 22 = .ok (.aload_n 0, 1) := by decide +kernel
theorem dX1_partsBehind_23 : decode cX1_partsBehind 23 = .ok (.getfield 15, 3) := by decide +kernel
theorem dX1_partsBehind_26 : decode cX1_partsBehind 26 = .ok (.getfield 25, 3) := by decide +kernel
theorem dX1_partsBehind_29 : decode cX1_partsBehind 29 = .ok (.iload 4, 2) := by decide +kernel
theorem dX1_partsBehind_31 : decode cX1_partsBehind 31 = .ok (.iadd, 1) := by decide +kernel
theorem dX1_partsBehind_32 : decode cX1_partsBehind 32 = .ok (.invokevirtual 30, 3) := by decide +kernel
theorem dX1_partsBehind_35 : decode cX1_partsBehind 35 = .ok (.istore 5, 2) := by decide +kernel
theorem dX1_partsBehind_37 : decode cX1_partsBehind 37 = .ok (.aload_n 0, 1) := by decide +kernel
theorem dX1_partsBehind_38 : decode cX1_partsBehind 38 = .ok (.getfield 15, 3) := by decide +kernel
theorem dX1_partsBehind_41 : decode cX1_partsBehind 41 = .ok (.aload_n 1, 1) := by decide +kernel
theorem dX1_partsBehind_42 : decode cX1_partsBehind 42 = .ok (.iload_n 3, 1) := by decide +kernel
theorem dX1_partsBehind_43 : decode cX1_partsBehind 43 = .ok (.aload_n 1, 1) := by decide +kernel
theorem dX1_partsBehind_44 : decode cX1_partsBehind 44 = .ok (.getfield 34, 3) := by decide +kernel
theorem dX1_partsBehind_47 : decode cX1_partsBehind 47 = .ok (.iload 5, 2) := by decide +kernel
theorem dX1_partsBehind_49 : decode cX1_partsBehind 49 = .ok (.invokevirtual 37, 3) := by decide +kernel
theorem dX1_partsBehind_52 : decode cX1_partsBehind 52 = .ok (.istore_n 3, 1) := by decide +kernel
theorem dX1_partsBehind_53 : decode cX1_partsBehind 53 = .ok (.iinc 4 1, 3) := by decide +kernel
theorem dX1_partsBehind_56 : decode cX1_partsBehind 56 = .ok (.goto (-48), 3) := by decide +kernel
theorem dX1_partsBehind_59 : decode cX1_partsBehind 59 = .ok (.iload_n 3, 1) := by decide +kernel
theorem dX1_partsBehind_60 : decode cX1_partsBehind 60 = .ok (.ireturn, 1) := by decide +kernel
theorem dX1_soonestDone_0 : decode cX1_soonestDone 0 = .ok (.aload_n 1, 1) := by decide +kernel
theorem dX1_soonestDone_1 : decode cX1_soonestDone 1 = .ok (.getfield 19, 3) := by decide +kernel
theorem dX1_soonestDone_4 : decode cX1_soonestDone 4 = .ok (.istore_n 2, 1) := by decide +kernel
theorem dX1_soonestDone_5 : decode cX1_soonestDone 5 = .ok (.iconst 0, 1) := by decide +kernel
theorem dX1_soonestDone_6 : decode cX1_soonestDone 6 = .ok (.istore_n 3, 1) := by decide +kernel
theorem dX1_soonestDone_7 : decode cX1_soonestDone 7 = .ok (.iload_n 3, 1) := by decide +kernel
theorem dX1_soonestDone_8 : decode cX1_soonestDone 8 = .ok (.sipush 200, 3) := by decide +kernel
theorem dX1_soonestDone_11 : decode cX1_soonestDone 11 = .ok (.if_icmp .ge 55, 3) := by decide +kernel
theorem dX1_soonestDone_14 : decode cX1_soonestDone 14 = .ok (.iload_n 2, 1) := by decide +kernel
theorem dX1_soonestDone_15 : decode cX1_soonestDone 15 = .ok (.ifCond .le 51, 3) := by decide +kernel
theorem dX1_soonestDone_18 : decode cX1_soonestDone 18 = .ok (.aload_n 0, 1) := by decide +kernel
theorem dX1_soonestDone_19 : decode cX1_soonestDone 19 = .ok (.getfield 15, 3) := by decide +kernel
theorem dX1_soonestDone_22 : decode cX1_soonestDone 22 = .ok (.aload_n 0, 1) := by decide +kernel
theorem dX1_soonestDone_23 : decode cX1_soonestDone 23 = .ok (.getfield 15, 3) := by decide +kernel
theorem dX1_soonestDone_26 : decode cX1_soonestDone 26 = .ok (.getfield 25, 3) := by decide +kernel
theorem dX1_soonestDone_29 : decode cX1_soonestDone 29 = .ok (.iload_n 3, 1) := by decide +kernel
theorem dX1_soonestDone_30 : decode cX1_soonestDone 30 = .ok (.iadd, 1) := by decide +kernel
theorem dX1_soonestDone_31 : decode cX1_soonestDone 31 = .ok (.invokevirtual 30, 3) := by decide +kernel
theorem dX1_soonestDone_34 : decode cX1_soonestDone 34 = .ok (.istore 4, 2) := by decide +kernel
theorem dX1_soonestDone_36 : decode cX1_soonestDone 36 = .ok (.aload_n 0, 1) := by decide +kernel
theorem dX1_soonestDone_37 : decode cX1_soonestDone 37 = .ok (.getfield 15, 3) := by decide +kernel
theorem dX1_soonestDone_40 : decode cX1_soonestDone 40 = .ok (.aload_n 1, 1) := by decide +kernel
theorem dX1_soonestDone_41 : decode cX1_soonestDone 41 = .ok (.iload_n 2, 1) := by decide +kernel
theorem dX1_soonestDone_42 : decode cX1_soonestDone 42 = .ok (.aload_n 1, 1) := by decide +kernel
theorem dX1_soonestDone_43 : decode cX1_soonestDone 43 = .ok (.getfield 34, 3) := by decide +kernel
theorem dX1_soonestDone_46 : decode cX1_soonestDone 46 = .ok (.iload 4, 2) := by decide +kernel
theorem dX1_soonestDone_48 : decode cX1_soonestDone 48 = .ok (.invokevirtual 37, 3) := by decide +kernel
theorem dX1_soonestDone_51 : decode cX1_soonestDone 51 = .ok (.istore_n 2, 1) := by decide +kernel
theorem dX1_soonestDone_52 : decode cX1_soonestDone 52 = .ok (.iload_n 2, 1) := by decide +kernel
theorem dX1_soonestDone_53 : decode cX1_soonestDone 53 = .ok (.ifCond .ne 7, 3) := by decide +kernel
theorem dX1_soonestDone_56 : decode cX1_soonestDone 56 = .ok (.iload_n 3, 1) := by decide +kernel
theorem dX1_soonestDone_57 : decode cX1_soonestDone 57 = .ok (.iconst 1, 1) := by decide +kernel
theorem dX1_soonestDone_58 : decode cX1_soonestDone 58 = .ok (.iadd, 1) := by decide +kernel
theorem dX1_soonestDone_59 : decode cX1_soonestDone 59 = .ok (.ireturn, 1) := by decide +kernel
theorem dX1_soonestDone_60 : decode cX1_soonestDone 60 = .ok (.iinc 3 1, 3) := by decide +kernel
theorem dX1_soonestDone_63 : decode cX1_soonestDone 63 = .ok (.goto (-56), 3) := by decide +kernel
theorem dX1_soonestDone_66 : decode cX1_soonestDone 66 = .ok (.iload_n 2, 1) := by decide +kernel
theorem dX1_soonestDone_67 : decode cX1_soonestDone 67 = .ok (.ifCond .ne 7, 3) := by decide +kernel
theorem dX1_soonestDone_70 : decode cX1_soonestDone 70 = .ok (.iconst 0, 1) := by decide +kernel
theorem dX1_soonestDone_71 : decode cX1_soonestDone 71 = .ok (.goto 4, 3) := by decide +kernel
theorem dX1_soonestDone_74 : decode cX1_soonestDone 74 = .ok (.iconst (-1), 1) := by decide +kernel
theorem dX1_soonestDone_75 : decode cX1_soonestDone 75 = .ok (.ireturn, 1) := by decide +kernel
theorem dX1_lookAhead_0 : decode cX1_lookAhead 0 = .ok (.iconst 0, 1) := by decide +kernel
theorem dX1_lookAhead_1 : decode cX1_lookAhead 1 = .ok (.istore_n 2, 1) := by decide +kernel
theorem dX1_lookAhead_2 : decode cX1_lookAhead 2 = .ok (.iload_n 2, 1) := by decide +kernel
theorem dX1_lookAhead_3 : decode cX1_lookAhead 3 = .ok (.iload_n 1, 1) := by decide +kernel
theorem dX1_lookAhead_4 : decode cX1_lookAhead 4 = .ok (.if_icmp .ge 37, 3) := by decide +kernel
theorem dX1_lookAhead_7 : decode cX1_lookAhead 7 = .ok (.iload_n 2, 1) := by decide +kernel
theorem dX1_lookAhead_8 : decode cX1_lookAhead 8 = .ok (.bipush 99, 2) := by decide +kernel
theorem dX1_lookAhead_10 : decode cX1_lookAhead 10 = .ok (.if_icmp .ge 31, 3) := by decide +kernel
theorem dX1_lookAhead_13 : decode cX1_lookAhead 13 = .ok (.aload_n 0, 1) := by decide +kernel
theorem dX1_lookAhead_14 : decode cX1_lookAhead 14 = .ok (.getfield 9, 3) := by decide +kernel
theorem dX1_lookAhead_17 : decode cX1_lookAhead 17 = .ok (.iload_n 2, 1) := by decide +kernel
theorem dX1_lookAhead_18 : decode cX1_lookAhead 18 = .ok (.aload_n 0, 1) := by decide +kernel
theorem dX1_lookAhead_19 : decode cX1_lookAhead 19 = .ok (.getfield 15, 3) := by decide +kernel
theorem dX1_lookAhead_22 : decode cX1_lookAhead 22 = .ok (.aload_n 0, 1) := by decide +kernel
theorem dX1_lookAhead_23 : decode cX1_lookAhead 23 = .ok (.getfield 15, 3) := by decide +kernel
theorem dX1_lookAhead_26 : decode cX1_lookAhead 26 = .ok (.getfield 25, 3) := by decide +kernel
theorem dX1_lookAhead_29 : decode cX1_lookAhead 29 = .ok (.iload_n 2, 1) := by decide +kernel
theorem dX1_lookAhead_30 : decode cX1_lookAhead 30 = .ok (.iadd, 1) := by decide +kernel
theorem dX1_lookAhead_31 : decode cX1_lookAhead 31 = .ok (.invokevirtual 30, 3) := by decide +kernel
theorem dX1_lookAhead_34 : decode cX1_lookAhead 34 = .ok (.iastore, 1) := by decide +kernel
theorem dX1_lookAhead_35 : decode cX1_lookAhead 35 = .ok (.iinc 2 1, 3) := by decide +kernel
theorem dX1_lookAhead_38 : decode cX1_lookAhead 38 = .ok (.goto (-36), 3) := by decide +kernel
theorem dX1_lookAhead_41 : decode cX1_lookAhead 41 = .ok (.return_, 1) := by decide +kernel
theorem dX1_doneBehind_0 : decode cX1_doneBehind 0 = .ok (.aload_n 1, 1) := by decide +kernel
theorem dX1_doneBehind_1 : decode cX1_doneBehind 1 = .ok (.getfield 19, 3) := by decide +kernel
theorem dX1_doneBehind_4 : decode cX1_doneBehind 4 = .ok (.istore 4, 2) := by decide +kernel
theorem dX1_doneBehind_6 : decode cX1_doneBehind 6 = .ok (.iconst 0, 1) := by decide +kernel
theorem dX1_doneBehind_7 : decode cX1_doneBehind 7 = .ok (.istore 5, 2) := by decide +kernel
theorem dX1_doneBehind_9 : decode cX1_doneBehind 9 = .ok (.iload 5, 2) := by decide +kernel
theorem dX1_doneBehind_11 : decode cX1_doneBehind 11 = .ok (.iload_n 3, 1) := by decide +kernel
theorem dX1_doneBehind_12 : decode cX1_doneBehind 12 = .ok (.if_icmp .ge 51, 3) := by decide +kernel
theorem dX1_doneBehind_15 : decode cX1_doneBehind 15 = .ok (.iload 5, 2) := by decide +kernel
theorem dX1_doneBehind_17 : decode cX1_doneBehind 17 = .ok (.bipush 99, 2) := by decide +kernel
theorem dX1_doneBehind_19 : decode cX1_doneBehind 19 = .ok (.if_icmp .ge 44, 3) := by decide +kernel
theorem dX1_doneBehind_22 : decode cX1_doneBehind 22 = .ok (.iload 4, 2) := by decide +kernel
theorem dX1_doneBehind_24 : decode cX1_doneBehind 24 = .ok (.ifCond .le 39, 3) := by decide +kernel
theorem dX1_doneBehind_27 : decode cX1_doneBehind 27 = .ok (.aload_n 0, 1) := by decide +kernel
theorem dX1_doneBehind_28 : decode cX1_doneBehind 28 = .ok (.getfield 15, 3) := by decide +kernel
theorem dX1_doneBehind_31 : decode cX1_doneBehind 31 = .ok (.aload_n 1, 1) := by decide +kernel
theorem dX1_doneBehind_32 : decode cX1_doneBehind 32 = .ok (.iload 4, 2) := by decide +kernel
theorem dX1_doneBehind_34 : decode cX1_doneBehind 34 = .ok (.iload_n 2, 1) := by decide +kernel
theorem dX1_doneBehind_35 : decode cX1_doneBehind 35 = .ok (.aload_n 0, 1) := by decide +kernel
theorem dX1_doneBehind_36 : decode cX1_doneBehind 36 = .ok (.getfield 9, 3) := by decide +kernel
theorem dX1_doneBehind_39 : decode cX1_doneBehind 39 = .ok (.iload 5, 2) := by decide +kernel
theorem dX1_doneBehind_41 : decode cX1_doneBehind 41 = .ok (.iaload, 1) := by decide +kernel
theorem dX1_doneBehind_42 : decode cX1_doneBehind 42 = .ok (.invokevirtual 37, 3) := by decide +kernel
theorem dX1_doneBehind_45 : decode cX1_doneBehind 45 = .ok (.istore 4, 2) := by decide +kernel
theorem dX1_doneBehind_47 : decode cX1_doneBehind 47 = .ok (.iload 4, 2) := by decide +kernel
theorem dX1_doneBehind_49 : decode cX1_doneBehind 49 = .ok (.ifCond .ne 8, 3) := by decide +kernel
theorem dX1_doneBehind_52 : decode cX1_doneBehind 52 = .ok (.iload 5, 2) := by decide +kernel
theorem dX1_doneBehind_54 : decode cX1_doneBehind 54 = .ok (.iconst 1, 1) := by decide +kernel
theorem dX1_doneBehind_55 : decode cX1_doneBehind 55 = .ok (.iadd, 1) := by decide +kernel
theorem dX1_doneBehind_56 : decode cX1_doneBehind 56 = .ok (.ireturn, 1) := by decide +kernel
theorem dX1_doneBehind_57 : decode cX1_doneBehind 57 = .ok (.iinc 5 1, 3) := by decide +kernel
theorem dX1_doneBehind_60 : decode cX1_doneBehind 60 = .ok (.goto (-51), 3) := by decide +kernel
theorem dX1_doneBehind_63 : decode cX1_doneBehind 63 = .ok (.iload 4, 2) := by decide +kernel
theorem dX1_doneBehind_65 : decode cX1_doneBehind 65 = .ok (.ifCond .ne 7, 3) := by decide +kernel
theorem dX1_doneBehind_68 : decode cX1_doneBehind 68 = .ok (.iconst 0, 1) := by decide +kernel
theorem dX1_doneBehind_69 : decode cX1_doneBehind 69 = .ok (.goto 4, 3) := by decide +kernel
theorem dX1_doneBehind_72 : decode cX1_doneBehind 72 = .ok (.iconst (-1), 1) := by decide +kernel
theorem dX1_doneBehind_73 : decode cX1_doneBehind 73 = .ok (.ireturn, 1) := by decide +kernel
theorem dX1_firstMoment_0 : decode cX1_firstMoment 0 = .ok (.iconst 0, 1) := by decide +kernel
theorem dX1_firstMoment_1 : decode cX1_firstMoment 1 = .ok (.istore_n 2, 1) := by decide +kernel
theorem dX1_firstMoment_2 : decode cX1_firstMoment 2 = .ok (.iload_n 2, 1) := by decide +kernel
theorem dX1_firstMoment_3 : decode cX1_firstMoment 3 = .ok (.sipush 400, 3) := by decide +kernel
theorem dX1_firstMoment_6 : decode cX1_firstMoment 6 = .ok (.if_icmp .gt 31, 3) := by decide +kernel
theorem dX1_firstMoment_9 : decode cX1_firstMoment 9 = .ok (.aload_n 0, 1) := by decide +kernel
theorem dX1_firstMoment_10 : decode cX1_firstMoment 10 = .ok (.getfield 15, 3) := by decide +kernel
theorem dX1_firstMoment_13 : decode cX1_firstMoment 13 = .ok (.iload_n 1, 1) := by decide +kernel
theorem dX1_firstMoment_14 : decode cX1_firstMoment 14 = .ok (.aload_n 0, 1) := by decide +kernel
theorem dX1_firstMoment_15 : decode cX1_firstMoment 15 = .ok (.getfield 15, 3) := by decide +kernel
theorem dX1_firstMoment_18 : decode cX1_firstMoment 18 = .ok (.getfield 25, 3) := by decide +kernel
theorem dX1_firstMoment_21 : decode cX1_firstMoment 21 = .ok (.iload_n 2, 1) := by decide +kernel
theorem dX1_firstMoment_22 : decode cX1_firstMoment 22 = .ok (.iadd, 1) := by decide +kernel
theorem dX1_firstMoment_23 : decode cX1_firstMoment 23 = .ok (.invokevirtual 41, 3) := by decide +kernel
theorem dX1_firstMoment_26 : decode cX1_firstMoment 26 = .ok (.ifCond .eq 5, 3) := by decide +kernel
theorem dX1_firstMoment_29 : decode cX1_firstMoment 29 = .ok (.iload_n 2, 1) := by decide +kernel
theorem dX1_firstMoment_30 : decode cX1_firstMoment 30 = .ok (.ireturn, 1) := by decide +kernel
theorem dX1_firstMoment_31 : decode cX1_firstMoment 31 = .ok (.iinc 2 1, 3) := by decide +kernel
theorem dX1_firstMoment_34 : decode cX1_firstMoment 34 = .ok (.goto (-32), 3) := by decide +kernel
theorem dX1_firstMoment_37 : decode cX1_firstMoment 37 = .ok (.iconst (-1), 1) := by decide +kernel
theorem dX1_firstMoment_38 : decode cX1_firstMoment 38 = .ok (.ireturn, 1) := by decide +kernel
theorem dX1_momentsAmong_0 : decode cX1_momentsAmong 0 = .ok (.iconst 0, 1) := by decide +kernel
theorem dX1_momentsAmong_1 : decode cX1_momentsAmong 1 = .ok (.istore_n 3, 1) := by decide +kernel
theorem dX1_momentsAmong_2 : decode cX1_momentsAmong 2 = .ok (.iconst 0, 1) := by decide +kernel
theorem dX1_momentsAmong_3 : decode cX1_momentsAmong 3 = .ok (.istore 4, 2) := by decide +kernel
theorem dX1_momentsAmong_5 : decode cX1_momentsAmong 5 = .ok (.iload 4, 2) := by decide +kernel
theorem dX1_momentsAmong_7 : decode cX1_momentsAmong 7 = .ok (.iload_n 2, 1) := by decide +kernel
theorem dX1_momentsAmong_8 : decode cX1_momentsAmong 8 = .ok (.if_icmp .ge 33, 3) := by decide +kernel
theorem dX1_momentsAmong_11 : decode cX1_momentsAmong 11 = .ok (.aload_n 0, 1) := by decide +kernel
theorem dX1_momentsAmong_12 : decode cX1_momentsAmong 12 = .ok (.getfield 15, 3) := by decide +kernel
theorem dX1_momentsAmong_15 : decode cX1_momentsAmong 15 = .ok (.iload_n 1, 1) := by decide +kernel
theorem dX1_momentsAmong_16 : decode cX1_momentsAmong 16 = .ok (.aload_n 0, 1) := by decide +kernel
theorem dX1_momentsAmong_17 : decode cX1_momentsAmong 17 = .ok (.getfield 15, 3) := by decide +kernel
theorem dX1_momentsAmong_20 : decode cX1_momentsAmong 20 = .ok (.getfield 25, 3) := by decide +kernel
theorem dX1_momentsAmong_23 : decode cX1_momentsAmong 23 = .ok (.iload 4, 2) := by decide +kernel
theorem dX1_momentsAmong_25 : decode cX1_momentsAmong 25 = .ok (.iadd, 1) := by decide +kernel
theorem dX1_momentsAmong_26 : decode cX1_momentsAmong 26 = .ok (.invokevirtual 41, 3) := by decide +kernel
theorem dX1_momentsAmong_29 : decode cX1_momentsAmong 29 = .ok (.ifCond .eq 6, 3) := by decide +kernel
theorem dX1_momentsAmong_32 : decode cX1_momentsAmong 32 = .ok (.iinc 3 1, 3) := by decide +kernel
theorem dX1_momentsAmong_35 : decode cX1_momentsAmong 35 = .ok (.iinc 4 1, 3) := by decide +kernel
theorem dX1_momentsAmong_38 : decode cX1_momentsAmong 38 = .ok (.goto (-33), 3) := by decide +kernel
theorem dX1_momentsAmong_41 : decode cX1_momentsAmong 41 = .ok (.iload_n 3, 1) := by decide +kernel
theorem dX1_momentsAmong_42 : decode cX1_momentsAmong 42 = .ok (.ireturn, 1) := by decide +kernel
theorem dX1_fewestAway_0 : decode cX1_fewestAway 0 = .ok (.aload_n 0, 1) := by decide +kernel
theorem dX1_fewestAway_1 : decode cX1_fewestAway 1 = .ok (.iload_n 2, 1) := by decide +kernel
theorem dX1_fewestAway_2 : decode cX1_fewestAway 2 = .ok (.invokevirtual 45, 3) := by decide +kernel
theorem dX1_fewestAway_5 : decode cX1_fewestAway 5 = .ok (.iconst (-1), 1) := by decide +kernel
theorem dX1_fewestAway_6 : decode cX1_fewestAway 6 = .ok (.istore_n 3, 1) := by decide +kernel
theorem dX1_fewestAway_7 : decode cX1_fewestAway 7 = .ok (.iconst 0, 1) := by decide +kernel
theorem dX1_fewestAway_8 : decode cX1_fewestAway 8 = .ok (.istore 4, 2) := by decide +kernel
theorem dX1_fewestAway_10 : decode cX1_fewestAway 10 = .ok (.iload 4, 2) := by decide +kernel
theorem dX1_fewestAway_12 : decode cX1_fewestAway 12 = .ok (.aload_n 1, 1) := by decide +kernel
theorem dX1_fewestAway_13 : decode cX1_fewestAway 13 = .ok (.getfield 34, 3) := by decide +kernel
theorem dX1_fewestAway_16 : decode cX1_fewestAway 16 = .ok (.if_icmp .gt 70, 3) := by decide +kernel
theorem dX1_fewestAway_19 : decode cX1_fewestAway 19 = .ok (.iload_n 3, 1) := by decide +kernel
theorem dX1_fewestAway_20 : decode cX1_fewestAway 20 = .ok (.ifCond .lt 15, 3) := by decide +kernel
theorem dX1_fewestAway_23 : decode cX1_fewestAway 23 = .ok (.iload 4, 2) := by decide +kernel
theorem dX1_fewestAway_25 : decode cX1_fewestAway 25 = .ok (.invokestatic 49, 3) := by decide +kernel
theorem dX1_fewestAway_28 : decode cX1_fewestAway 28 = .ok (.iload_n 3, 1) := by decide +kernel
theorem dX1_fewestAway_29 : decode cX1_fewestAway 29 = .ok (.invokestatic 49, 3) := by decide +kernel
theorem dX1_fewestAway_32 : decode cX1_fewestAway 32 = .ok (.if_icmp .ge 7, 3) := by decide +kernel
theorem dX1_fewestAway_35 : decode cX1_fewestAway 35 = .ok (.iconst 1, 1) := by decide +kernel
theorem dX1_fewestAway_36 : decode cX1_fewestAway 36 = .ok (.goto 4, 3) := by decide +kernel
theorem dX1_fewestAway_39 : decode cX1_fewestAway 39 = .ok (.iconst 0, 1) := by decide +kernel
theorem dX1_fewestAway_40 : decode cX1_fewestAway 40 = .ok (.istore 5, 2) := by decide +kernel
theorem dX1_fewestAway_42 : decode cX1_fewestAway 42 = .ok (.iload 4, 2) := by decide +kernel
theorem dX1_fewestAway_44 : decode cX1_fewestAway 44 = .ok (.aload_n 1, 1) := by decide +kernel
theorem dX1_fewestAway_45 : decode cX1_fewestAway 45 = .ok (.getfield 34, 3) := by decide +kernel
theorem dX1_fewestAway_48 : decode cX1_fewestAway 48 = .ok (.iconst (-1), 1) := by decide +kernel
theorem dX1_fewestAway_49 : decode cX1_fewestAway 49 = .ok (.ixor, 1) := by decide +kernel
theorem dX1_fewestAway_50 : decode cX1_fewestAway 50 = .ok (.iand, 1) := by decide +kernel
theorem dX1_fewestAway_51 : decode cX1_fewestAway 51 = .ok (.ifCond .ne 29, 3) := by decide +kernel
theorem dX1_fewestAway_54 : decode cX1_fewestAway 54 = .ok (.iload 5, 2) := by decide +kernel
theorem dX1_fewestAway_56 : decode cX1_fewestAway 56 = .ok (.ifCond .eq 24, 3) := by decide +kernel
theorem dX1_fewestAway_59 : decode cX1_fewestAway 59 = .ok (.aload_n 0, 1) := by decide +kernel
theorem dX1_fewestAway_60 : decode cX1_fewestAway 60 = .ok (.aload_n 1, 1) := by decide +kernel
theorem dX1_fewestAway_61 : decode cX1_fewestAway 61 = .ok (.aload_n 1, 1) := by decide +kernel
theorem dX1_fewestAway_62 : decode cX1_fewestAway 62 = .ok (.getfield 34, 3) := by decide +kernel
theorem dX1_fewestAway_65 : decode cX1_fewestAway 65 = .ok (.iload 4, 2) := by decide +kernel
theorem dX1_fewestAway_67 : decode cX1_fewestAway 67 = .ok (.iconst (-1), 1) := by decide +kernel
theorem dX1_fewestAway_68 : decode cX1_fewestAway 68 = .ok (.ixor, 1) := by decide +kernel
theorem dX1_fewestAway_69 : decode cX1_fewestAway 69 = .ok (.iand, 1) := by decide +kernel
theorem dX1_fewestAway_70 : decode cX1_fewestAway 70 = .ok (.iload_n 2, 1) := by decide +kernel
theorem dX1_fewestAway_71 : decode cX1_fewestAway 71 = .ok (.invokevirtual 54, 3) := by decide +kernel
theorem dX1_fewestAway_74 : decode cX1_fewestAway 74 = .ok (.ifCond .lt 6, 3) := by decide +kernel
theorem dX1_fewestAway_77 : decode cX1_fewestAway 77 = .ok (.iload 4, 2) := by decide +kernel
theorem dX1_fewestAway_79 : decode cX1_fewestAway 79 = .ok (.istore_n 3, 1) := by decide +kernel
theorem dX1_fewestAway_80 : decode cX1_fewestAway 80 = .ok (.iinc 4 1, 3) := by decide +kernel
theorem dX1_fewestAway_83 : decode cX1_fewestAway 83 = .ok (.goto (-73), 3) := by decide +kernel
theorem dX1_fewestAway_86 : decode cX1_fewestAway 86 = .ok (.iload_n 3, 1) := by decide +kernel
theorem dX1_fewestAway_87 : decode cX1_fewestAway 87 = .ok (.ireturn, 1) := by decide +kernel
theorem dX1_findPhase_0 : decode cX1_findPhase 0 = .ok (.iconst 0, 1) := by decide +kernel
theorem dX1_findPhase_1 : decode cX1_findPhase 1 = .ok (.istore_n 3, 1) := by decide +kernel
theorem dX1_findPhase_2 : decode cX1_findPhase 2 = .ok (.aload_n 0, 1) := by decide +kernel
theorem dX1_findPhase_3 : decode cX1_findPhase 3 = .ok (.getfield 15, 3) := by decide +kernel
theorem dX1_findPhase_6 : decode cX1_findPhase 6 = .ok (.iload_n 1, 1) := by decide +kernel
theorem dX1_findPhase_7 : decode cX1_findPhase 7 = .ok (.invokevirtual 58, 3) := by decide +kernel
theorem dX1_findPhase_10 : decode cX1_findPhase 10 = .ok (.ifCond .eq 18, 3) := by decide +kernel
theorem dX1_findPhase_13 : decode cX1_findPhase 13 = .ok (.aload_n 0, 1) := by decide +kernel
theorem dX1_findPhase_14 : decode cX1_findPhase 14 = .ok (.getfield 15, 3) := by decide +kernel
theorem dX1_findPhase_17 : decode cX1_findPhase 17 = .ok (.getfield 62, 3) := by decide +kernel
theorem dX1_findPhase_20 : decode cX1_findPhase 20 = .ok (.iload_n 1, 1) := by decide +kernel
theorem dX1_findPhase_21 : decode cX1_findPhase 21 = .ok (.aaload, 1) := by decide +kernel
theorem dX1_findPhase_22 : decode cX1_findPhase 22 = .ok (.getfield 66, 3) := by decide +kernel
theorem dX1_findPhase_25 : decode cX1_findPhase 25 = .ok (.goto 4, 3) := by decide +kernel
theorem dX1_findPhase_28 : decode cX1_findPhase 28 = .ok (.iconst 0, 1) := by decide +kernel
theorem dX1_findPhase_29 : decode cX1_findPhase 29 = .ok (.istore 4, 2) := by decide +kernel
theorem dX1_findPhase_31 : decode cX1_findPhase 31 = .ok (.aload_n 0, 1) := by decide +kernel
theorem dX1_findPhase_32 : decode cX1_findPhase 32 = .ok (.bipush 99, 2) := by decide +kernel
theorem dX1_findPhase_34 : decode cX1_findPhase 34 = .ok (.invokevirtual 45, 3) := by decide +kernel
theorem dX1_findPhase_37 : decode cX1_findPhase 37 = .ok (.iconst 0, 1) := by decide +kernel
theorem dX1_findPhase_38 : decode cX1_findPhase 38 = .ok (.istore 5, 2) := by decide +kernel
theorem dX1_findPhase_40 : decode cX1_findPhase 40 = .ok (.iload 5, 2) := by decide +kernel
theorem dX1_findPhase_42 : decode cX1_findPhase 42 = .ok (.iload 4, 2) := by decide +kernel
theorem dX1_findPhase_44 : decode cX1_findPhase 44 = .ok (.if_icmp .ge 63, 3) := by decide +kernel
theorem dX1_findPhase_47 : decode cX1_findPhase 47 = .ok (.aload_n 0, 1) := by decide +kernel
theorem dX1_findPhase_48 : decode cX1_findPhase 48 = .ok (.iload_n 1, 1) := by decide +kernel
theorem dX1_findPhase_49 : decode cX1_findPhase 49 = .ok (.iload 4, 2) := by decide +kernel
theorem dX1_findPhase_51 : decode cX1_findPhase 51 = .ok (.iload 5, 2) := by decide +kernel
theorem dX1_findPhase_53 : decode cX1_findPhase 53 = .ok (.invokevirtual 71, 3) := by decide +kernel
theorem dX1_findPhase_56 : decode cX1_findPhase 56 = .ok (.aload_n 0, 1) := by decide +kernel
theorem dX1_findPhase_57 : decode cX1_findPhase 57 = .ok (.aload_n 2, 1) := by decide +kernel
theorem dX1_findPhase_58 : decode cX1_findPhase 58 = .ok (.aload_n 2, 1) := by decide +kernel
theorem dX1_findPhase_59 : decode cX1_findPhase 59 = .ok (.getfield 34, 3) := by decide +kernel
theorem dX1_findPhase_62 : decode cX1_findPhase 62 = .ok (.bipush 99, 2) := by decide +kernel
theorem dX1_findPhase_64 : decode cX1_findPhase 64 = .ok (.invokevirtual 54, 3) := by decide +kernel
theorem dX1_findPhase_67 : decode cX1_findPhase 67 = .ok (.istore 6, 2) := by decide +kernel
theorem dX1_findPhase_69 : decode cX1_findPhase 69 = .ok (.iload 6, 2) := by decide +kernel
theorem dX1_findPhase_71 : decode cX1_findPhase 71 = .ok (.ifCond .lt 30, 3) := by decide +kernel
theorem dX1_findPhase_74 : decode cX1_findPhase 74 = .ok (.iload_n 3, 1) := by decide +kernel
theorem dX1_findPhase_75 : decode cX1_findPhase 75 = .ok (.ifCond .eq 12, 3) := by decide +kernel
theorem dX1_findPhase_78 : decode cX1_findPhase 78 = .ok (.iload 6, 2) := by decide +kernel
theorem dX1_findPhase_80 : decode cX1_findPhase 80 = .ok (.aload_n 0, 1) := by decide +kernel
theorem dX1_findPhase_81 : decode cX1_findPhase 81 = .ok (.getfield 75, 3) := by decide +kernel
theorem dX1_findPhase_84 : decode cX1_findPhase 84 = .ok (.if_icmp .ge 17, 3) := by decide +kernel
theorem dX1_findPhase_87 : decode cX1_findPhase 87 = .ok (.iconst 1, 1) := by decide +kernel
theorem dX1_findPhase_88 : decode cX1_findPhase 88 = .ok (.istore_n 3, 1) := by decide +kernel
theorem dX1_findPhase_89 : decode cX1_findPhase 89 = .ok (.aload_n 0, 1) := by decide +kernel
theorem dX1_findPhase_90 : decode cX1_findPhase 90 = .ok (.iload 5, 2) := by decide +kernel
theorem dX1_findPhase_92 : decode cX1_findPhase 92 = .ok (.putfield 78, 3) := by decide +kernel
theorem dX1_findPhase_95 : decode cX1_findPhase 95 = .ok (.aload_n 0, 1) := by decide +kernel
theorem dX1_findPhase_96 : decode cX1_findPhase 96 = .ok (.iload 6, 2) := by decide +kernel
theorem dX1_findPhase_98 : decode cX1_findPhase 98 = .ok (.putfield 75, 3) := by decide +kernel
theorem dX1_findPhase_101 : decode cX1_findPhase 101 = .ok (.iinc 5 1, 3) := by decide +kernel
theorem dX1_findPhase_104 : decode cX1_findPhase 104 = .ok (.goto (-64), 3) := by decide +kernel
theorem dX1_findPhase_107 : decode cX1_findPhase 107 = .ok (.iload_n 3, 1) := by decide +kernel
theorem dX1_findPhase_108 : decode cX1_findPhase 108 = .ok (.ireturn, 1) := by decide +kernel
theorem dX1_tryPhase_0 : decode cX1_tryPhase 0 = .ok (.iconst 1, 1) := by decide +kernel
theorem dX1_tryPhase_1 : decode cX1_tryPhase 1 = .ok (.iload_n 1, 1) := by decide +kernel
theorem dX1_tryPhase_2 : decode cX1_tryPhase 2 = .ok (.ishl, 1) := by decide +kernel
theorem dX1_tryPhase_3 : decode cX1_tryPhase 3 = .ok (.istore 4, 2) := by decide +kernel
theorem dX1_tryPhase_5 : decode cX1_tryPhase 5 = .ok (.iconst 0, 1) := by decide +kernel
theorem dX1_tryPhase_6 : decode cX1_tryPhase 6 = .ok (.istore 5, 2) := by decide +kernel
theorem dX1_tryPhase_8 : decode cX1_tryPhase 8 = .ok (.iload 5, 2) := by decide +kernel
theorem dX1_tryPhase_10 : decode cX1_tryPhase 10 = .ok (.bipush 99, 2) := by decide +kernel
theorem dX1_tryPhase_12 : decode cX1_tryPhase 12 = .ok (.if_icmp .ge 68, 3) := by decide +kernel
theorem dX1_tryPhase_15 : decode cX1_tryPhase 15 = .ok (.aload_n 0, 1) := by decide +kernel
theorem dX1_tryPhase_16 : decode cX1_tryPhase 16 = .ok (.getfield 15, 3) := by decide +kernel
theorem dX1_tryPhase_19 : decode cX1_tryPhase 19 = .ok (.iload_n 1, 1) := by decide +kernel
theorem dX1_tryPhase_20 : decode cX1_tryPhase 20 = .ok (.aload_n 0, 1) := by decide +kernel
theorem dX1_tryPhase_21 : decode cX1_tryPhase 21 = .ok (.getfield 15, 3) := by decide +kernel
theorem dX1_tryPhase_24 : decode cX1_tryPhase 24 = .ok (.getfield 25, 3) := by decide +kernel
theorem dX1_tryPhase_27 : decode cX1_tryPhase 27 = .ok (.iload 5, 2) := by decide +kernel
theorem dX1_tryPhase_29 : decode cX1_tryPhase 29 = .ok (.iadd, 1) := by decide +kernel
theorem dX1_tryPhase_30 : decode cX1_tryPhase 30 = .ok (.iload_n 2, 1) := by decide +kernel
theorem dX1_tryPhase_31 : decode cX1_tryPhase 31 = .ok (.iload_n 3, 1) := by decide +kernel
theorem dX1_tryPhase_32 : decode cX1_tryPhase 32 = .ok (.invokevirtual 81, 3) := by decide +kernel
theorem dX1_tryPhase_35 : decode cX1_tryPhase 35 = .ok (.istore 6, 2) := by decide +kernel
theorem dX1_tryPhase_37 : decode cX1_tryPhase 37 = .ok (.aload_n 0, 1) := by decide +kernel
theorem dX1_tryPhase_38 : decode cX1_tryPhase 38 = .ok (.getfield 9, 3) := by decide +kernel
theorem dX1_tryPhase_41 : decode cX1_tryPhase 41 = .ok (.iload 5, 2) := by decide +kernel
theorem dX1_tryPhase_43 : decode cX1_tryPhase 43 = .ok (.iload 6, 2) := by decide +kernel
theorem dX1_tryPhase_45 : decode cX1_tryPhase 45 = .ok (.ifCond .eq 16, 3) := by decide +kernel
theorem dX1_tryPhase_48 : decode cX1_tryPhase 48 = .ok (.aload_n 0, 1) := by decide +kernel
theorem dX1_tryPhase_49 : decode cX1_tryPhase 49 = .ok (.getfield 9, 3) := by decide +kernel
theorem dX1_tryPhase_52 : decode cX1_tryPhase 52 = .ok (.iload 5, 2) := by decide +kernel
theorem dX1_tryPhase_54 : decode cX1_tryPhase 54 = .ok (.iaload, 1) := by decide +kernel
theorem dX1_tryPhase_55 : decode cX1_tryPhase 55 = .ok (.iload 4, 2) := by decide +kernel
theorem dX1_tryPhase_57 : decode cX1_tryPhase 57 = .ok (.ior, 1) := by decide +kernel
theorem dX1_tryPhase_58 : decode cX1_tryPhase 58 = .ok (.goto 15, 3) := by decide +kernel
theorem dX1_tryPhase_61 : decode cX1_tryPhase 61 = .ok (.aload_n 0, 1) := by decide +kernel
theorem dX1_tryPhase_62 : decode cX1_tryPhase 62 = .ok (.getfield 9, 3) := by decide +kernel
theorem dX1_tryPhase_65 : decode cX1_tryPhase 65 = .ok (.iload 5, 2) := by decide +kernel
theorem dX1_tryPhase_67 : decode cX1_tryPhase 67 = .ok (.iaload, 1) := by decide +kernel
theorem dX1_tryPhase_68 : decode cX1_tryPhase 68 = .ok (.iload 4, 2) := by decide +kernel
theorem dX1_tryPhase_70 : decode cX1_tryPhase 70 = .ok (.iconst (-1), 1) := by decide +kernel
theorem dX1_tryPhase_71 : decode cX1_tryPhase 71 = .ok (.ixor, 1) := by decide +kernel
theorem dX1_tryPhase_72 : decode cX1_tryPhase 72 = .ok (.iand, 1) := by decide +kernel
theorem dX1_tryPhase_73 : decode cX1_tryPhase 73 = .ok (.iastore, 1) := by decide +kernel
theorem dX1_tryPhase_74 : decode cX1_tryPhase 74 = .ok (.iinc 5 1, 3) := by decide +kernel
theorem dX1_tryPhase_77 : decode cX1_tryPhase 77 = .ok (.goto (-69), 3) := by decide +kernel
theorem dX1_tryPhase_80 : decode cX1_tryPhase 80 = .ok (.return_, 1) := by decide +kernel
theorem dX1_findFits_0 : decode cX1_findFits 0 = .ok (.aload_n 0, 1) := by decide +kernel
theorem dX1_findFits_1 : decode cX1_findFits 1 = .ok (.iconst 0, 1) := by decide +kernel
theorem dX1_findFits_2 : decode cX1_findFits 2 = .ok (.putfield 85, 3) := by decide +kernel
theorem dX1_findFits_5 : decode cX1_findFits 5 = .ok (.aload_n 0, 1) := by decide +kernel
theorem dX1_findFits_6 : decode cX1_findFits 6 = .ok (.iconst 0, 1) := by decide +kernel
theorem dX1_findFits_7 : decode cX1_findFits 7 = .ok (.putfield 88, 3) := by decide +kernel
theorem dX1_findFits_10 : decode cX1_findFits 10 = .ok (.iconst 1, 1) := by decide +kernel
theorem dX1_findFits_11 : decode cX1_findFits 11 = .ok (.istore_n 3, 1) := by decide +kernel
theorem dX1_findFits_12 : decode cX1_findFits 12 = .ok (.iload_n 3, 1) := by decide +kernel
theorem dX1_findFits_13 : decode cX1_findFits 13 = .ok (.bipush 12, 2) := by decide +kernel
theorem dX1_findFits_15 : decode cX1_findFits 15 = .ok (.if_icmp .gt 71, 3) := by decide +kernel
theorem dX1_findFits_18 : decode cX1_findFits 18 = .ok (.iconst 0, 1) := by decide +kernel
theorem dX1_findFits_19 : decode cX1_findFits 19 = .ok (.istore 4, 2) := by decide +kernel
theorem dX1_findFits_21 : decode cX1_findFits 21 = .ok (.iload 4, 2) := by decide +kernel
theorem dX1_findFits_23 : decode cX1_findFits 23 = .ok (.iload_n 3, 1) := by decide +kernel
theorem dX1_findFits_24 : decode cX1_findFits 24 = .ok (.if_icmp .ge 56, 3) := by decide +kernel
theorem dX1_findFits_27 : decode cX1_findFits 27 = .ok (.aload_n 0, 1) := by decide +kernel
theorem dX1_findFits_28 : decode cX1_findFits 28 = .ok (.iload_n 1, 1) := by decide +kernel
theorem dX1_findFits_29 : decode cX1_findFits 29 = .ok (.iload_n 3, 1) := by decide +kernel
theorem dX1_findFits_30 : decode cX1_findFits 30 = .ok (.iload 4, 2) := by decide +kernel
theorem dX1_findFits_32 : decode cX1_findFits 32 = .ok (.aload_n 2, 1) := by decide +kernel
theorem dX1_findFits_33 : decode cX1_findFits 33 = .ok (.invokevirtual 91, 3) := by decide +kernel
theorem dX1_findFits_36 : decode cX1_findFits 36 = .ok (.ifCond .eq 38, 3) := by decide +kernel
theorem dX1_findFits_39 : decode cX1_findFits 39 = .ok (.aload_n 0, 1) := by decide +kernel
theorem dX1_findFits_40 : decode cX1_findFits 40 = .ok (.aload_n 0, 1) := by decide +kernel
theorem dX1_findFits_41 : decode cX1_findFits 41 = .ok (.getfield 85, 3) := by decide +kernel
theorem dX1_findFits_44 : decode cX1_findFits 44 = .ok (.ifCond .ne 13, 3) := by decide +kernel
theorem dX1_findFits_47 : decode cX1_findFits 47 = .ok (.bipush 100, 2) := by decide +kernel
theorem dX1_findFits_49 : decode cX1_findFits 49 = .ok (.iload_n 3, 1) := by decide +kernel
theorem dX1_findFits_50 : decode cX1_findFits 50 = .ok (.imul, 1) := by decide +kernel
theorem dX1_findFits_51 : decode cX1_findFits 51 = .ok (.iload 4, 2) := by decide +kernel
theorem dX1_findFits_53 : decode cX1_findFits 53 = .ok (.iadd, 1) := by decide +kernel
theorem dX1_findFits_54 : decode cX1_findFits 54 = .ok (.goto 7, 3) := by decide +kernel
theorem dX1_findFits_57 : decode cX1_findFits 57 = .ok (.aload_n 0, 1) := by decide +kernel
theorem dX1_findFits_58 : decode cX1_findFits 58 = .ok (.getfield 88, 3) := by decide +kernel
theorem dX1_findFits_61 : decode cX1_findFits 61 = .ok (.putfield 88, 3) := by decide +kernel
theorem dX1_findFits_64 : decode cX1_findFits 64 = .ok (.aload_n 0, 1) := by decide +kernel
theorem dX1_findFits_65 : decode cX1_findFits 65 = .ok (.dup, 1) := by decide +kernel
theorem dX1_findFits_66 : decode cX1_findFits 66 = .ok (.getfield 85, 3) := by decide +kernel
theorem dX1_findFits_69 : decode cX1_findFits 69 = .ok (.iconst 1, 1) := by decide +kernel
theorem dX1_findFits_70 : decode cX1_findFits 70 = .ok (.iadd, 1) := by decide +kernel
theorem dX1_findFits_71 : decode cX1_findFits 71 = .ok (.putfield 85, 3) := by decide +kernel
theorem dX1_findFits_74 : decode cX1_findFits 74 = .ok (.iinc 4 1, 3) := by decide +kernel
theorem dX1_findFits_77 : decode cX1_findFits 77 = .ok (.goto (-56), 3) := by decide +kernel
theorem dX1_findFits_80 : decode cX1_findFits 80 = .ok (.iinc 3 1, 3) := by decide +kernel
theorem dX1_findFits_83 : decode cX1_findFits 83 = .ok (.goto (-71), 3) := by decide +kernel
theorem dX1_findFits_86 : decode cX1_findFits 86 = .ok (.return_, 1) := by decide +kernel
theorem dX1_isFit_0 : decode cX1_isFit 0 = .ok (.iconst 0, 1) := by decide +kernel
theorem dX1_isFit_1 : decode cX1_isFit 1 = .ok (.istore 5, 2) := by decide +kernel
theorem dX1_isFit_3 : decode cX1_isFit 3 = .ok (.iload 5, 2) := by decide +kernel
theorem dX1_isFit_5 : decode cX1_isFit 5 = .ok (.aload 4, 2) := by decide +kernel
theorem dX1_isFit_7 : decode cX1_isFit 7 = .ok (.invokevirtual 95, 3) := by decide +kernel
theorem dX1_isFit_10 : decode cX1_isFit 10 = .ok (.if_icmp .ge 53, 3) := by decide +kernel
theorem dX1_isFit_13 : decode cX1_isFit 13 = .ok (.aload_n 0, 1) := by decide +kernel
theorem dX1_isFit_14 : decode cX1_isFit 14 = .ok (.getfield 15, 3) := by decide +kernel
theorem dX1_isFit_17 : decode cX1_isFit 17 = .ok (.iload_n 1, 1) := by decide +kernel
theorem dX1_isFit_18 : decode cX1_isFit 18 = .ok (.aload_n 0, 1) := by decide +kernel
theorem dX1_isFit_19 : decode cX1_isFit 19 = .ok (.getfield 15, 3) := by decide +kernel
theorem dX1_isFit_22 : decode cX1_isFit 22 = .ok (.getfield 25, 3) := by decide +kernel
theorem dX1_isFit_25 : decode cX1_isFit 25 = .ok (.iload 5, 2) := by decide +kernel
theorem dX1_isFit_27 : decode cX1_isFit 27 = .ok (.iadd, 1) := by decide +kernel
theorem dX1_isFit_28 : decode cX1_isFit 28 = .ok (.iload_n 2, 1) := by decide +kernel
theorem dX1_isFit_29 : decode cX1_isFit 29 = .ok (.iload_n 3, 1) := by decide +kernel
theorem dX1_isFit_30 : decode cX1_isFit 30 = .ok (.invokevirtual 81, 3) := by decide +kernel
theorem dX1_isFit_33 : decode cX1_isFit 33 = .ok (.ifCond .eq 7, 3) := by decide +kernel
theorem dX1_isFit_36 : decode cX1_isFit 36 = .ok (.iconst 1, 1) := by decide +kernel
theorem dX1_isFit_37 : decode cX1_isFit 37 = .ok (.goto 4, 3) := by decide +kernel
theorem dX1_isFit_40 : decode cX1_isFit 40 = .ok (.iconst 0, 1) := by decide +kernel
theorem dX1_isFit_41 : decode cX1_isFit 41 = .ok (.istore 6, 2) := by decide +kernel
theorem dX1_isFit_43 : decode cX1_isFit 43 = .ok (.aload 4, 2) := by decide +kernel
theorem dX1_isFit_45 : decode cX1_isFit 45 = .ok (.iload 5, 2) := by decide +kernel
theorem dX1_isFit_47 : decode cX1_isFit 47 = .ok (.invokevirtual 101, 3) := by decide +kernel
theorem dX1_isFit_50 : decode cX1_isFit 50 = .ok (.iload 6, 2) := by decide +kernel
theorem dX1_isFit_52 : decode cX1_isFit 52 = .ok (.if_icmp .eq 5, 3) := by decide +kernel
theorem dX1_isFit_55 : decode cX1_isFit 55 = .ok (.iconst 0, 1) := by decide +kernel
theorem dX1_isFit_56 : decode cX1_isFit 56 = .ok (.ireturn, 1) := by decide +kernel
theorem dX1_isFit_57 : decode cX1_isFit 57 = .ok (.iinc 5 1, 3) := by decide +kernel
theorem dX1_isFit_60 : decode cX1_isFit 60 = .ok (.goto (-57), 3) := by decide +kernel
theorem dX1_isFit_63 : decode cX1_isFit 63 = .ok (.iconst 1, 1) := by decide +kernel
theorem dX1_isFit_64 : decode cX1_isFit 64 = .ok (.ireturn, 1) := by decide +kernel
theorem dX2_init_0 : decode cX2_init 0 = .ok (.aload_n 0, 1) := by decide +kernel
theorem dX2_init_1 : decode cX2_init 1 = .ok (.invokespecial 3, 3) := by decide +kernel
theorem dX2_init_4 : decode cX2_init 4 = .ok (.aload_n 0, 1) := by decide +kernel
theorem dX2_init_5 : decode cX2_init 5 = .ok (.bipush 6, 2) := by decide +kernel
theorem dX2_init_7 : decode cX2_init 7 = .ok (.anewarray 9, 3) := by decide +kernel
theorem dX2_init_10 : decode cX2_init 10 = .ok (.putfield 11, 3) := by decide +kernel
theorem dX2_init_13 : decode cX2_init 13 = .ok (.aload_n 0, 1) := by decide +kernel
theorem dX2_init_14 : decode cX2_init 14 = .ok (.bipush 6, 2) := by decide +kernel
theorem dX2_init_16 : decode cX2_init 16 = .ok (.anewarray 17, 3) := by decide +kernel
theorem dX2_init_19 : decode cX2_init 19 = .ok (.putfield 19, 3) := by decide +kernel
theorem dX2_init_22 : decode cX2_init 22 = .ok (.aload_n 0, 1) := by decide +kernel
theorem dX2_init_23 : decode cX2_init 23 = .ok (.new 23, 3) := by decide +kernel
theorem dX2_init_26 : decode cX2_init 26 = .ok (.dup, 1) := by decide +kernel
theorem dX2_init_27 : decode cX2_init 27 = .ok (.iconst 0, 1) := by decide +kernel
theorem dX2_init_28 : decode cX2_init 28 = .ok (.invokespecial 25, 3) := by decide +kernel
theorem dX2_init_31 : decode cX2_init 31 = .ok (.putfield 28, 3) := by decide +kernel
theorem dX2_init_34 : decode cX2_init 34 = .ok (.aload_n 0, 1) := by decide +kernel
theorem dX2_init_35 : decode cX2_init 35 = .ok (.new 23, 3) := by decide +kernel
theorem dX2_init_38 : decode cX2_init 38 = .ok (.dup, 1) := by decide +kernel
theorem dX2_init_39 : decode cX2_init 39 = .ok (.iconst 1, 1) := by decide +kernel
theorem dX2_init_40 : decode cX2_init 40 = .ok (.invokespecial 25, 3) := by decide +kernel
theorem dX2_init_43 : decode cX2_init 43 = .ok (.putfield 32, 3) := by decide +kernel
theorem dX2_init_46 : decode cX2_init 46 = .ok (.aload_n 0, 1) := by decide +kernel
theorem dX2_init_47 : decode cX2_init 47 = .ok (.new 35, 3) := by decide +kernel
theorem dX2_init_50 : decode cX2_init 50 = .ok (.dup, 1) := by decide +kernel
theorem dX2_init_51 : decode cX2_init 51 = .ok (.bipush 60, 2) := by decide +kernel
theorem dX2_init_53 : decode cX2_init 53 = .ok (.invokespecial 37, 3) := by decide +kernel
theorem dX2_init_56 : decode cX2_init 56 = .ok (.putfield 38, 3) := by decide +kernel
theorem dX2_init_59 : decode cX2_init 59 = .ok (.aload_n 0, 1) := by decide +kernel
theorem dX2_init_60 : decode cX2_init 60 = .ok (.new 35, 3) := by decide +kernel
theorem dX2_init_63 : decode cX2_init 63 = .ok (.dup, 1) := by decide +kernel
theorem dX2_init_64 : decode cX2_init 64 = .ok (.bipush 24, 2) := by decide +kernel
theorem dX2_init_66 : decode cX2_init 66 = .ok (.invokespecial 37, 3) := by decide +kernel
theorem dX2_init_69 : decode cX2_init 69 = .ok (.putfield 42, 3) := by decide +kernel
theorem dX2_init_72 : decode cX2_init 72 = .ok (.aload_n 0, 1) := by decide +kernel
theorem dX2_init_73 : decode cX2_init 73 = .ok (.iconst 1, 1) := by decide +kernel
theorem dX2_init_74 : decode cX2_init 74 = .ok (.putfield 45, 3) := by decide +kernel
theorem dX2_init_77 : decode cX2_init 77 = .ok (.iconst 0, 1) := by decide +kernel
theorem dX2_init_78 : decode cX2_init 78 = .ok (.istore_n 1, 1) := by decide +kernel
theorem dX2_init_79 : decode cX2_init 79 = .ok (.iload_n 1, 1) := by decide +kernel
theorem dX2_init_80 : decode cX2_init 80 = .ok (.bipush 6, 2) := by decide +kernel
theorem dX2_init_82 : decode cX2_init 82 = .ok (.if_icmp .ge 22, 3) := by decide +kernel
theorem dX2_init_85 : decode cX2_init 85 = .ok (.aload_n 0, 1) := by decide +kernel
theorem dX2_init_86 : decode cX2_init 86 = .ok (.getfield 11, 3) := by decide +kernel
theorem dX2_init_89 : decode cX2_init 89 = .ok (.iload_n 1, 1) := by decide +kernel
theorem dX2_init_90 : decode cX2_init 90 = .ok (.new 9, 3) := by decide +kernel
theorem dX2_init_93 : decode cX2_init 93 = .ok (.dup, 1) := by decide +kernel
theorem dX2_init_94 : decode cX2_init 94 = .ok (.invokespecial 49, 3) := by decide +kernel
theorem dX2_init_97 : decode cX2_init 97 = .ok (.aastore, 1) := by decide +kernel
theorem dX2_init_98 : decode cX2_init 98 = .ok (.iinc 1 1, 3) := by decide +kernel
theorem dX2_init_101 : decode cX2_init 101 = .ok (.goto (-22), 3) := by decide +kernel
theorem dX2_init_104 : decode cX2_init 104 = .ok (.iconst 0, 1) := by decide +kernel
theorem dX2_init_105 : decode cX2_init 105 = .ok (.istore_n 1, 1) := by decide +kernel
theorem dX2_init_106 : decode cX2_init 106 = .ok (.iload_n 1, 1) := by decide +kernel
theorem dX2_init_107 : decode cX2_init 107 = .ok (.bipush 6, 2) := by decide +kernel
theorem dX2_init_109 : decode cX2_init 109 = .ok (.if_icmp .ge 22, 3) := by decide +kernel
theorem dX2_init_112 : decode cX2_init 112 = .ok (.aload_n 0, 1) := by decide +kernel
theorem dX2_init_113 : decode cX2_init 113 = .ok (.getfield 19, 3) := by decide +kernel
theorem dX2_init_116 : decode cX2_init 116 = .ok (.iload_n 1, 1) := by decide +kernel
theorem dX2_init_117 : decode cX2_init 117 = .ok (.new 17, 3) := by decide +kernel
theorem dX2_init_120 : decode cX2_init 120 = .ok (.dup, 1) := by decide +kernel
theorem dX2_init_121 : decode cX2_init 121 = .ok (.invokespecial 50, 3) := by decide +kernel
theorem dX2_init_124 : decode cX2_init 124 = .ok (.aastore, 1) := by decide +kernel
theorem dX2_init_125 : decode cX2_init 125 = .ok (.iinc 1 1, 3) := by decide +kernel
theorem dX2_init_128 : decode cX2_init 128 = .ok (.goto (-22), 3) := by decide +kernel
theorem dX2_init_131 : decode cX2_init 131 = .ok (.return_, 1) := by decide +kernel
theorem dX2_beLike_0 : decode cX2_beLike 0 = .ok (.iconst 0, 1) := by decide +kernel
theorem dX2_beLike_1 : decode cX2_beLike 1 = .ok (.istore_n 2, 1) := by decide +kernel
theorem dX2_beLike_2 : decode cX2_beLike 2 = .ok (.iload_n 2, 1) := by decide +kernel
theorem dX2_beLike_3 : decode cX2_beLike 3 = .ok (.bipush 6, 2) := by decide +kernel
theorem dX2_beLike_5 : decode cX2_beLike 5 = .ok (.if_icmp .ge 24, 3) := by decide +kernel
theorem dX2_beLike_8 : decode cX2_beLike 8 = .ok (.aload_n 0, 1) := by decide +kernel
theorem dX2_beLike_9 : decode cX2_beLike 9 = .ok (.getfield 11, 3) := by decide +kernel
theorem dX2_beLike_12 : decode cX2_beLike 12 = .ok (.iload_n 2, 1) := by decide +kernel
theorem dX2_beLike_13 : decode cX2_beLike 13 = .ok (.aaload, 1) := by decide +kernel
theorem dX2_beLike_14 : decode cX2_beLike 14 = .ok (.aload_n 1, 1) := by decide +kernel
theorem dX2_beLike_15 : decode cX2_beLike 15 = .ok (.getfield 11, 3) := by decide +kernel
theorem dX2_beLike_18 : decode cX2_beLike 18 = .ok (.iload_n 2, 1) := by decide +kernel
theorem dX2_beLike_19 : decode cX2_beLike 19 = .ok (.aaload, 1) := by decide +kernel
theorem dX2_beLike_20 : decode cX2_beLike 20 = .ok (.invokevirtual 51, 3) := by decide +kernel
theorem dX2_beLike_23 : decode cX2_beLike 23 = .ok (.iinc 2 1, 3) := by decide +kernel
theorem dX2_beLike_26 : decode cX2_beLike 26 = .ok (.goto (-24), 3) := by decide +kernel
theorem dX2_beLike_29 : decode cX2_beLike 29 = .ok (.iconst 0, 1) := by decide +kernel
theorem dX2_beLike_30 : decode cX2_beLike 30 = .ok (.istore_n 2, 1) := by decide +kernel
theorem dX2_beLike_31 : decode cX2_beLike 31 = .ok (.iload_n 2, 1) := by decide +kernel
theorem dX2_beLike_32 : decode cX2_beLike 32 = .ok (.bipush 6, 2) := by decide +kernel
theorem dX2_beLike_34 : decode cX2_beLike 34 = .ok (.if_icmp .ge 24, 3) := by decide +kernel
theorem dX2_beLike_37 : decode cX2_beLike 37 = .ok (.aload_n 0, 1) := by decide +kernel
theorem dX2_beLike_38 : decode cX2_beLike 38 = .ok (.getfield 19, 3) := by decide +kernel
theorem dX2_beLike_41 : decode cX2_beLike 41 = .ok (.iload_n 2, 1) := by decide +kernel
theorem dX2_beLike_42 : decode cX2_beLike 42 = .ok (.aaload, 1) := by decide +kernel
theorem dX2_beLike_43 : decode cX2_beLike 43 = .ok (.aload_n 1, 1) := by decide +kernel
theorem dX2_beLike_44 : decode cX2_beLike 44 = .ok (.getfield 19, 3) := by decide +kernel
theorem dX2_beLike_47 : decode cX2_beLike 47 = .ok (.iload_n 2, 1) := by decide +kernel
theorem dX2_beLike_48 : decode cX2_beLike 48 = .ok (.aaload, 1) := by decide +kernel
theorem dX2_beLike_49 : decode cX2_beLike 49 = .ok (.invokevirtual 55, 3) := by decide +kernel
theorem dX2_beLike_52 : decode cX2_beLike 52 = .ok (.iinc 2 1, 3) := by decide +kernel
theorem dX2_beLike_55 : decode cX2_beLike 55 = .ok (.goto (-24), 3) := by decide +kernel
theorem dX2_beLike_58 : decode cX2_beLike 58 = .ok (.aload_n 0, 1) := by decide +kernel
theorem dX2_beLike_59 : decode cX2_beLike 59 = .ok (.getfield 28, 3) := by decide +kernel
theorem dX2_beLike_62 : decode cX2_beLike 62 = .ok (.aload_n 1, 1) := by decide +kernel
theorem dX2_beLike_63 : decode cX2_beLike 63 = .ok (.getfield 28, 3) := by decide +kernel
theorem dX2_beLike_66 : decode cX2_beLike 66 = .ok (.invokevirtual 58, 3) := by decide +kernel
theorem dX2_beLike_69 : decode cX2_beLike 69 = .ok (.aload_n 0, 1) := by decide +kernel
theorem dX2_beLike_70 : decode cX2_beLike 70 = .ok (.getfield 32, 3) := by decide +kernel
theorem dX2_beLike_73 : decode cX2_beLike 73 = .ok (.aload_n 1, 1) := by decide +kernel
theorem dX2_beLike_74 : decode cX2_beLike 74 = .ok (.getfield 32, 3) := by decide +kernel
theorem dX2_beLike_77 : decode cX2_beLike 77 = .ok (.invokevirtual 58, 3) := by decide +kernel
theorem dX2_beLike_80 : decode cX2_beLike 80 = .ok (.aload_n 0, 1) := by decide +kernel
theorem dX2_beLike_81 : decode cX2_beLike 81 = .ok (.getfield 38, 3) := by decide +kernel
theorem dX2_beLike_84 : decode cX2_beLike 84 = .ok (.aload_n 1, 1) := by decide +kernel
theorem dX2_beLike_85 : decode cX2_beLike 85 = .ok (.getfield 38, 3) := by decide +kernel
theorem dX2_beLike_88 : decode cX2_beLike 88 = .ok (.invokevirtual 61, 3) := by decide +kernel
theorem dX2_beLike_91 : decode cX2_beLike 91 = .ok (.aload_n 0, 1) := by decide +kernel
theorem dX2_beLike_92 : decode cX2_beLike 92 = .ok (.getfield 42, 3) := by decide +kernel
theorem dX2_beLike_95 : decode cX2_beLike 95 = .ok (.aload_n 1, 1) := by decide +kernel
theorem dX2_beLike_96 : decode cX2_beLike 96 = .ok (.getfield 42, 3) := by decide +kernel
theorem dX2_beLike_99 : decode cX2_beLike 99 = .ok (.invokevirtual 61, 3) := by decide +kernel
theorem dX2_beLike_102 : decode cX2_beLike 102 = .ok (.aload_n 0, 1) := by decide +kernel
theorem dX2_beLike_103 : decode cX2_beLike 103 = .ok (.aload_n 1, 1) := by decide +kernel
theorem dX2_beLike_104 : decode cX2_beLike 104 = .ok (.getfield 64, 3) := by decide +kernel
theorem dX2_beLike_107 : decode cX2_beLike 107 = .ok (.putfield 64, 3) := by decide +kernel
theorem dX2_beLike_110 : decode cX2_beLike 110 = .ok (.aload_n 0, 1) := by decide +kernel
theorem dX2_beLike_111 : decode cX2_beLike 111 = .ok (.aload_n 1, 1) := by decide +kernel
theorem dX2_beLike_112 : decode cX2_beLike 112 = .ok (.getfield 67, 3) := by decide +kernel
theorem dX2_beLike_115 : decode cX2_beLike 115 = .ok (.putfield 67, 3) := by decide +kernel
theorem dX2_beLike_118 : decode cX2_beLike 118 = .ok (.aload_n 0, 1) := by decide +kernel
theorem dX2_beLike_119 : decode cX2_beLike 119 = .ok (.aload_n 1, 1) := by decide +kernel
theorem dX2_beLike_120 : decode cX2_beLike 120 = .ok (.getfield 70, 3) := by decide +kernel
theorem dX2_beLike_123 : decode cX2_beLike 123 = .ok (.putfield 70, 3) := by decide +kernel
theorem dX2_beLike_126 : decode cX2_beLike 126 = .ok (.aload_n 0, 1) := by decide +kernel
theorem dX2_beLike_127 : decode cX2_beLike 127 = .ok (.aload_n 1, 1) := by decide +kernel
theorem dX2_beLike_128 : decode cX2_beLike 128 = .ok (.getfield 45, 3) := by decide +kernel
theorem dX2_beLike_131 : decode cX2_beLike 131 = .ok (.putfield 45, 3) := by decide +kernel
theorem dX2_beLike_134 : decode cX2_beLike 134 = .ok (.return_, 1) := by decide +kernel
theorem dX2_hasPerson_0 : decode cX2_hasPerson 0 = .ok (.iload_n 1, 1) := by decide +kernel
theorem dX2_hasPerson_1 : decode cX2_hasPerson 1 = .ok (.iconst 0, 1) := by decide +kernel
theorem dX2_hasPerson_2 : decode cX2_hasPerson 2 = .ok (.aload_n 0, 1) := by decide +kernel
theorem dX2_hasPerson_3 : decode cX2_hasPerson 3 = .ok (.getfield 64, 3) := by decide +kernel
theorem dX2_hasPerson_6 : decode cX2_hasPerson 6 = .ok (.iconst 1, 1) := by decide +kernel
theorem dX2_hasPerson_7 : decode cX2_hasPerson 7 = .ok (.isub, 1) := by decide +kernel
theorem dX2_hasPerson_8 : decode cX2_hasPerson 8 = .ok (.invokestatic 73, 3) := by decide +kernel
theorem dX2_hasPerson_11 : decode cX2_hasPerson 11 = .ok (.ireturn, 1) := by decide +kernel
theorem dX2_hasDoing_0 : decode cX2_hasDoing 0 = .ok (.iload_n 1, 1) := by decide +kernel
theorem dX2_hasDoing_1 : decode cX2_hasDoing 1 = .ok (.iconst 0, 1) := by decide +kernel
theorem dX2_hasDoing_2 : decode cX2_hasDoing 2 = .ok (.aload_n 0, 1) := by decide +kernel
theorem dX2_hasDoing_3 : decode cX2_hasDoing 3 = .ok (.getfield 67, 3) := by decide +kernel
theorem dX2_hasDoing_6 : decode cX2_hasDoing 6 = .ok (.iconst 1, 1) := by decide +kernel
theorem dX2_hasDoing_7 : decode cX2_hasDoing 7 = .ok (.isub, 1) := by decide +kernel
theorem dX2_hasDoing_8 : decode cX2_hasDoing 8 = .ok (.invokestatic 73, 3) := by decide +kernel
theorem dX2_hasDoing_11 : decode cX2_hasDoing 11 = .ok (.ireturn, 1) := by decide +kernel
theorem dX2_hasSet_0 : decode cX2_hasSet 0 = .ok (.iload_n 1, 1) := by decide +kernel
theorem dX2_hasSet_1 : decode cX2_hasSet 1 = .ok (.iconst 0, 1) := by decide +kernel
theorem dX2_hasSet_2 : decode cX2_hasSet 2 = .ok (.iconst 1, 1) := by decide +kernel
theorem dX2_hasSet_3 : decode cX2_hasSet 3 = .ok (.aload_n 0, 1) := by decide +kernel
theorem dX2_hasSet_4 : decode cX2_hasSet 4 = .ok (.getfield 64, 3) := by decide +kernel
theorem dX2_hasSet_7 : decode cX2_hasSet 7 = .ok (.ishl, 1) := by decide +kernel
theorem dX2_hasSet_8 : decode cX2_hasSet 8 = .ok (.iconst 1, 1) := by decide +kernel
theorem dX2_hasSet_9 : decode cX2_hasSet 9 = .ok (.isub, 1) := by decide +kernel
theorem dX2_hasSet_10 : decode cX2_hasSet 10 = .ok (.invokestatic 73, 3) := by decide +kernel
theorem dX2_hasSet_13 : decode cX2_hasSet 13 = .ok (.ireturn, 1) := by decide +kernel
theorem dX2_lawOf_0 : decode cX2_lawOf 0 = .ok (.iload_n 1, 1) := by decide +kernel
theorem dX2_lawOf_1 : decode cX2_lawOf 1 = .ok (.ifCond .ne 10, 3) := by decide +kernel
theorem dX2_lawOf_4 : decode cX2_lawOf 4 = .ok (.aload_n 0, 1) := by decide +kernel
theorem dX2_lawOf_5 : decode cX2_lawOf 5 = .ok (.getfield 28, 3) := by decide +kernel
theorem dX2_lawOf_8 : decode cX2_lawOf 8 = .ok (.goto 7, 3) := by decide +kernel
theorem dX2_lawOf_11 : decode cX2_lawOf 11 = .ok (.aload_n 0, 1) := by decide +kernel
theorem dX2_lawOf_12 : decode cX2_lawOf 12 = .ok (.getfield 32, 3) := by decide +kernel
theorem dX2_lawOf_15 : decode cX2_lawOf 15 = .ok (.areturn, 1) := by decide +kernel
theorem dX2_isShutBy_0 : decode cX2_isShutBy 0 = .ok (.aload_n 0, 1) := by decide +kernel
theorem dX2_isShutBy_1 : decode cX2_isShutBy 1 = .ok (.iload_n 1, 1) := by decide +kernel
theorem dX2_isShutBy_2 : decode cX2_isShutBy 2 = .ok (.invokevirtual 77, 3) := by decide +kernel
theorem dX2_isShutBy_5 : decode cX2_isShutBy 5 = .ok (.ifCond .ne 5, 3) := by decide +kernel
theorem dX2_isShutBy_8 : decode cX2_isShutBy 8 = .ok (.iconst 0, 1) := by decide +kernel
theorem dX2_isShutBy_9 : decode cX2_isShutBy 9 = .ok (.ireturn, 1) := by decide +kernel
theorem dX2_isShutBy_10 : decode cX2_isShutBy 10 = .ok (.iload_n 2, 1) := by decide +kernel
theorem dX2_isShutBy_11 : decode cX2_isShutBy 11 = .ok (.iload_n 3, 1) := by decide +kernel
theorem dX2_isShutBy_12 : decode cX2_isShutBy 12 = .ok (.iload 4, 2) := by decide +kernel
theorem dX2_isShutBy_14 : decode cX2_isShutBy 14 = .ok (.invokestatic 81, 3) := by decide +kernel
theorem dX2_isShutBy_17 : decode cX2_isShutBy 17 = .ok (.istore 5, 2) := by decide +kernel
theorem dX2_isShutBy_19 : decode cX2_isShutBy 19 = .ok (.aload_n 0, 1) := by decide +kernel
theorem dX2_isShutBy_20 : decode cX2_isShutBy 20 = .ok (.getfield 11, 3) := by decide +kernel
theorem dX2_isShutBy_23 : decode cX2_isShutBy 23 = .ok (.iload_n 1, 1) := by decide +kernel
theorem dX2_isShutBy_24 : decode cX2_isShutBy 24 = .ok (.aaload, 1) := by decide +kernel
theorem dX2_isShutBy_25 : decode cX2_isShutBy 25 = .ok (.iload_n 2, 1) := by decide +kernel
theorem dX2_isShutBy_26 : decode cX2_isShutBy 26 = .ok (.iload 5, 2) := by decide +kernel
theorem dX2_isShutBy_28 : decode cX2_isShutBy 28 = .ok (.invokevirtual 85, 3) := by decide +kernel
theorem dX2_isShutBy_31 : decode cX2_isShutBy 31 = .ok (.ifCond .eq 7, 3) := by decide +kernel
theorem dX2_isShutBy_34 : decode cX2_isShutBy 34 = .ok (.iconst 1, 1) := by decide +kernel
theorem dX2_isShutBy_35 : decode cX2_isShutBy 35 = .ok (.goto 4, 3) := by decide +kernel
theorem dX2_isShutBy_38 : decode cX2_isShutBy 38 = .ok (.iconst 0, 1) := by decide +kernel
theorem dX2_isShutBy_39 : decode cX2_isShutBy 39 = .ok (.istore 6, 2) := by decide +kernel
theorem dX2_isShutBy_41 : decode cX2_isShutBy 41 = .ok (.aload_n 0, 1) := by decide +kernel
theorem dX2_isShutBy_42 : decode cX2_isShutBy 42 = .ok (.getfield 28, 3) := by decide +kernel
theorem dX2_isShutBy_45 : decode cX2_isShutBy 45 = .ok (.iload 5, 2) := by decide +kernel
theorem dX2_isShutBy_47 : decode cX2_isShutBy 47 = .ok (.iload 6, 2) := by decide +kernel
theorem dX2_isShutBy_49 : decode cX2_isShutBy 49 = .ok (.iload_n 2, 1) := by decide +kernel
theorem dX2_isShutBy_50 : decode cX2_isShutBy 50 = .ok (.bipush 24, 2) := by decide +kernel
theorem dX2_isShutBy_52 : decode cX2_isShutBy 52 = .ok (.irem, 1) := by decide +kernel
theorem dX2_isShutBy_53 : decode cX2_isShutBy 53 = .ok (.invokevirtual 89, 3) := by decide +kernel
theorem dX2_isShutBy_56 : decode cX2_isShutBy 56 = .ok (.iconst 1, 1) := by decide +kernel
theorem dX2_isShutBy_57 : decode cX2_isShutBy 57 = .ok (.if_icmp .ne 7, 3) := by decide +kernel
theorem dX2_isShutBy_60 : decode cX2_isShutBy 60 = .ok (.iconst 1, 1) := by decide +kernel
theorem dX2_isShutBy_61 : decode cX2_isShutBy 61 = .ok (.goto 4, 3) := by decide +kernel
theorem dX2_isShutBy_64 : decode cX2_isShutBy 64 = .ok (.iconst 0, 1) := by decide +kernel
theorem dX2_isShutBy_65 : decode cX2_isShutBy 65 = .ok (.ireturn, 1) := by decide +kernel
theorem dX2_isShut_0 : decode cX2_isShut 0 = .ok (.aload_n 0, 1) := by decide +kernel
theorem dX2_isShut_1 : decode cX2_isShut 1 = .ok (.iload_n 1, 1) := by decide +kernel
theorem dX2_isShut_2 : decode cX2_isShut 2 = .ok (.invokevirtual 77, 3) := by decide +kernel
theorem dX2_isShut_5 : decode cX2_isShut 5 = .ok (.ifCond .eq 34, 3) := by decide +kernel
theorem dX2_isShut_8 : decode cX2_isShut 8 = .ok (.aload_n 0, 1) := by decide +kernel
theorem dX2_isShut_9 : decode cX2_isShut 9 = .ok (.iload_n 1, 1) := by decide +kernel
theorem dX2_isShut_10 : decode cX2_isShut 10 = .ok (.iload_n 2, 1) := by decide +kernel
theorem dX2_isShut_11 : decode cX2_isShut 11 = .ok (.aload_n 0, 1) := by decide +kernel
theorem dX2_isShut_12 : decode cX2_isShut 12 = .ok (.getfield 11, 3) := by decide +kernel
theorem dX2_isShut_15 : decode cX2_isShut 15 = .ok (.iload_n 1, 1) := by decide +kernel
theorem dX2_isShut_16 : decode cX2_isShut 16 = .ok (.aaload, 1) := by decide +kernel
theorem dX2_isShut_17 : decode cX2_isShut 17 = .ok (.getfield 92, 3) := by decide +kernel
theorem dX2_isShut_20 : decode cX2_isShut 20 = .ok (.aload_n 0, 1) := by decide +kernel
theorem dX2_isShut_21 : decode cX2_isShut 21 = .ok (.getfield 11, 3) := by decide +kernel
theorem dX2_isShut_24 : decode cX2_isShut 24 = .ok (.iload_n 1, 1) := by decide +kernel
theorem dX2_isShut_25 : decode cX2_isShut 25 = .ok (.aaload, 1) := by decide +kernel
theorem dX2_isShut_26 : decode cX2_isShut 26 = .ok (.getfield 95, 3) := by decide +kernel
theorem dX2_isShut_29 : decode cX2_isShut 29 = .ok (.invokevirtual 98, 3) := by decide +kernel
theorem dX2_isShut_32 : decode cX2_isShut 32 = .ok (.ifCond .eq 7, 3) := by decide +kernel
theorem dX2_isShut_35 : decode cX2_isShut 35 = .ok (.iconst 1, 1) := by decide +kernel
theorem dX2_isShut_36 : decode cX2_isShut 36 = .ok (.goto 4, 3) := by decide +kernel
theorem dX2_isShut_39 : decode cX2_isShut 39 = .ok (.iconst 0, 1) := by decide +kernel
theorem dX2_isShut_40 : decode cX2_isShut 40 = .ok (.ireturn, 1) := by decide +kernel
theorem dX2_shutSet_0 : decode cX2_shutSet 0 = .ok (.iconst 0, 1) := by decide +kernel
theorem dX2_shutSet_1 : decode cX2_shutSet 1 = .ok (.istore_n 2, 1) := by decide +kernel
theorem dX2_shutSet_2 : decode cX2_shutSet 2 = .ok (.iconst 0, 1) := by decide +kernel
theorem dX2_shutSet_3 : decode cX2_shutSet 3 = .ok (.istore_n 3, 1) := by decide +kernel
theorem dX2_shutSet_4 : decode cX2_shutSet 4 = .ok (.iload_n 3, 1) := by decide +kernel
theorem dX2_shutSet_5 : decode cX2_shutSet 5 = .ok (.aload_n 0, 1) := by decide +kernel
theorem dX2_shutSet_6 : decode cX2_shutSet 6 = .ok (.getfield 64, 3) := by decide +kernel
theorem dX2_shutSet_9 : decode cX2_shutSet 9 = .ok (.if_icmp .ge 42, 3) := by decide +kernel
theorem dX2_shutSet_12 : decode cX2_shutSet 12 = .ok (.aload_n 0, 1) := by decide +kernel
theorem dX2_shutSet_13 : decode cX2_shutSet 13 = .ok (.iload_n 3, 1) := by decide +kernel
theorem dX2_shutSet_14 : decode cX2_shutSet 14 = .ok (.iload_n 1, 1) := by decide +kernel
theorem dX2_shutSet_15 : decode cX2_shutSet 15 = .ok (.aload_n 0, 1) := by decide +kernel
theorem dX2_shutSet_16 : decode cX2_shutSet 16 = .ok (.getfield 11, 3) := by decide +kernel
theorem dX2_shutSet_19 : decode cX2_shutSet 19 = .ok (.iload_n 3, 1) := by decide +kernel
theorem dX2_shutSet_20 : decode cX2_shutSet 20 = .ok (.aaload, 1) := by decide +kernel
theorem dX2_shutSet_21 : decode cX2_shutSet 21 = .ok (.getfield 92, 3) := by decide +kernel
theorem dX2_shutSet_24 : decode cX2_shutSet 24 = .ok (.aload_n 0, 1) := by decide +kernel
theorem dX2_shutSet_25 : decode cX2_shutSet 25 = .ok (.getfield 11, 3) := by decide +kernel
theorem dX2_shutSet_28 : decode cX2_shutSet 28 = .ok (.iload_n 3, 1) := by decide +kernel
theorem dX2_shutSet_29 : decode cX2_shutSet 29 = .ok (.aaload, 1) := by decide +kernel
theorem dX2_shutSet_30 : decode cX2_shutSet 30 = .ok (.getfield 95, 3) := by decide +kernel
theorem dX2_shutSet_33 : decode cX2_shutSet 33 = .ok (.invokevirtual 98, 3) := by decide +kernel
theorem dX2_shutSet_36 : decode cX2_shutSet 36 = .ok (.ifCond .eq 9, 3) := by decide +kernel
theorem dX2_shutSet_39 : decode cX2_shutSet 39 = .ok (.iload_n 2, 1) := by decide +kernel
theorem dX2_shutSet_40 : decode cX2_shutSet 40 = .ok (.iconst 1, 1) := by decide +kernel
theorem dX2_shutSet_41 : decode cX2_shutSet 41 = .ok (.iload_n 3, 1) := by decide +kernel
theorem dX2_shutSet_42 : decode cX2_shutSet 42 = .ok (.ishl, 1) := by decide +kernel
theorem dX2_shutSet_43 : decode cX2_shutSet 43 = .ok (.ior, 1) := by decide +kernel
theorem dX2_shutSet_44 : decode cX2_shutSet 44 = .ok (.istore_n 2, 1) := by decide +kernel
theorem dX2_shutSet_45 : decode cX2_shutSet 45 = .ok (.iinc 3 1, 3) := by decide +kernel
theorem dX2_shutSet_48 : decode cX2_shutSet 48 = .ok (.goto (-44), 3) := by decide +kernel
theorem dX2_shutSet_51 : decode cX2_shutSet 51 = .ok (.iload_n 2, 1) := by decide +kernel
theorem dX2_shutSet_52 : decode cX2_shutSet 52 = .ok (.ireturn, 1) := by decide +kernel
theorem dX2_isMoment_0 : decode cX2_isMoment 0 = .ok (.iconst 0, 1) := by decide +kernel
theorem dX2_isMoment_1 : decode cX2_isMoment 1 = .ok (.istore_n 3, 1) := by decide +kernel
theorem dX2_isMoment_2 : decode cX2_isMoment 2 = .ok (.iload_n 3, 1) := by decide +kernel
theorem dX2_isMoment_3 : decode cX2_isMoment 3 = .ok (.aload_n 0, 1) := by decide +kernel
theorem dX2_isMoment_4 : decode cX2_isMoment 4 = .ok (.getfield 64, 3) := by decide +kernel
theorem dX2_isMoment_7 : decode cX2_isMoment 7 = .ok (.if_icmp .ge 28, 3) := by decide +kernel
theorem dX2_isMoment_10 : decode cX2_isMoment 10 = .ok (.iload_n 1, 1) := by decide +kernel
theorem dX2_isMoment_11 : decode cX2_isMoment 11 = .ok (.iload_n 3, 1) := by decide +kernel
theorem dX2_isMoment_12 : decode cX2_isMoment 12 = .ok (.invokestatic 102, 3) := by decide +kernel
theorem dX2_isMoment_15 : decode cX2_isMoment 15 = .ok (.ifCond .eq 14, 3) := by decide +kernel
theorem dX2_isMoment_18 : decode cX2_isMoment 18 = .ok (.aload_n 0, 1) := by decide +kernel
theorem dX2_isMoment_19 : decode cX2_isMoment 19 = .ok (.iload_n 3, 1) := by decide +kernel
theorem dX2_isMoment_20 : decode cX2_isMoment 20 = .ok (.iload_n 2, 1) := by decide +kernel
theorem dX2_isMoment_21 : decode cX2_isMoment 21 = .ok (.invokevirtual 105, 3) := by decide +kernel
theorem dX2_isMoment_24 : decode cX2_isMoment 24 = .ok (.ifCond .ne 5, 3) := by decide +kernel
theorem dX2_isMoment_27 : decode cX2_isMoment 27 = .ok (.iconst 0, 1) := by decide +kernel
theorem dX2_isMoment_28 : decode cX2_isMoment 28 = .ok (.ireturn, 1) := by decide +kernel
theorem dX2_isMoment_29 : decode cX2_isMoment 29 = .ok (.iinc 3 1, 3) := by decide +kernel
theorem dX2_isMoment_32 : decode cX2_isMoment 32 = .ok (.goto (-30), 3) := by decide +kernel
theorem dX2_isMoment_35 : decode cX2_isMoment 35 = .ok (.iconst 1, 1) := by decide +kernel
theorem dX2_isMoment_36 : decode cX2_isMoment 36 = .ok (.ireturn, 1) := by decide +kernel
theorem dX2_getsOnBy_0 : decode cX2_getsOnBy 0 = .ok (.aload_n 0, 1) := by decide +kernel
theorem dX2_getsOnBy_1 : decode cX2_getsOnBy 1 = .ok (.aload_n 1, 1) := by decide +kernel
theorem dX2_getsOnBy_2 : decode cX2_getsOnBy 2 = .ok (.getfield 108, 3) := by decide +kernel
theorem dX2_getsOnBy_5 : decode cX2_getsOnBy 5 = .ok (.invokevirtual 77, 3) := by decide +kernel
theorem dX2_getsOnBy_8 : decode cX2_getsOnBy 8 = .ok (.ifCond .eq 22, 3) := by decide +kernel
theorem dX2_getsOnBy_11 : decode cX2_getsOnBy 11 = .ok (.aload_n 0, 1) := by decide +kernel
theorem dX2_getsOnBy_12 : decode cX2_getsOnBy 12 = .ok (.getfield 11, 3) := by decide +kernel
theorem dX2_getsOnBy_15 : decode cX2_getsOnBy 15 = .ok (.aload_n 1, 1) := by decide +kernel
theorem dX2_getsOnBy_16 : decode cX2_getsOnBy 16 = .ok (.getfield 108, 3) := by decide +kernel
theorem dX2_getsOnBy_19 : decode cX2_getsOnBy 19 = .ok (.aaload, 1) := by decide +kernel
theorem dX2_getsOnBy_20 : decode cX2_getsOnBy 20 = .ok (.aload_n 0, 1) := by decide +kernel
theorem dX2_getsOnBy_21 : decode cX2_getsOnBy 21 = .ok (.getfield 67, 3) := by decide +kernel
theorem dX2_getsOnBy_24 : decode cX2_getsOnBy 24 = .ok (.invokevirtual 111, 3) := by decide +kernel
theorem dX2_getsOnBy_27 : decode cX2_getsOnBy 27 = .ok (.goto 4, 3) := by decide +kernel
theorem dX2_getsOnBy_30 : decode cX2_getsOnBy 30 = .ok (.iconst 0, 1) := by decide +kernel
theorem dX2_getsOnBy_31 : decode cX2_getsOnBy 31 = .ok (.istore 4, 2) := by decide +kernel
theorem dX2_getsOnBy_33 : decode cX2_getsOnBy 33 = .ok (.iload_n 3, 1) := by decide +kernel
theorem dX2_getsOnBy_34 : decode cX2_getsOnBy 34 = .ok (.iconst 1, 1) := by decide +kernel
theorem dX2_getsOnBy_35 : decode cX2_getsOnBy 35 = .ok (.aload_n 1, 1) := by decide +kernel
theorem dX2_getsOnBy_36 : decode cX2_getsOnBy 36 = .ok (.getfield 108, 3) := by decide +kernel
theorem dX2_getsOnBy_39 : decode cX2_getsOnBy 39 = .ok (.ishl, 1) := by decide +kernel
theorem dX2_getsOnBy_40 : decode cX2_getsOnBy 40 = .ok (.iconst (-1), 1) := by decide +kernel
theorem dX2_getsOnBy_41 : decode cX2_getsOnBy 41 = .ok (.ixor, 1) := by decide +kernel
theorem dX2_getsOnBy_42 : decode cX2_getsOnBy 42 = .ok (.iand, 1) := by decide +kernel
theorem dX2_getsOnBy_43 : decode cX2_getsOnBy 43 = .ok (.invokestatic 115, 3) := by decide +kernel
theorem dX2_getsOnBy_46 : decode cX2_getsOnBy 46 = .ok (.istore 5, 2) := by decide +kernel
theorem dX2_getsOnBy_48 : decode cX2_getsOnBy 48 = .ok (.aload_n 0, 1) := by decide +kernel
theorem dX2_getsOnBy_49 : decode cX2_getsOnBy 49 = .ok (.getfield 32, 3) := by decide +kernel
theorem dX2_getsOnBy_52 : decode cX2_getsOnBy 52 = .ok (.iload 4, 2) := by decide +kernel
theorem dX2_getsOnBy_54 : decode cX2_getsOnBy 54 = .ok (.iload 5, 2) := by decide +kernel
theorem dX2_getsOnBy_56 : decode cX2_getsOnBy 56 = .ok (.iload_n 2, 1) := by decide +kernel
theorem dX2_getsOnBy_57 : decode cX2_getsOnBy 57 = .ok (.invokevirtual 89, 3) := by decide +kernel
theorem dX2_getsOnBy_60 : decode cX2_getsOnBy 60 = .ok (.ireturn, 1) := by decide +kernel
theorem dX2_leftBehindTick_0 : decode cX2_leftBehindTick 0 = .ok (.iload_n 2, 1) := by decide +kernel
theorem dX2_leftBehindTick_1 : decode cX2_leftBehindTick 1 = .ok (.ifCond .eq 12, 3) := by decide +kernel
theorem dX2_leftBehindTick_4 : decode cX2_leftBehindTick 4 = .ok (.iload_n 3, 1) := by decide +kernel
theorem dX2_leftBehindTick_5 : decode cX2_leftBehindTick 5 = .ok (.iload 4, 2) := by decide +kernel
theorem dX2_leftBehindTick_7 : decode cX2_leftBehindTick 7 = .ok (.iconst (-1), 1) := by decide +kernel
theorem dX2_leftBehindTick_8 : decode cX2_leftBehindTick 8 = .ok (.ixor, 1) := by decide +kernel
theorem dX2_leftBehindTick_9 : decode cX2_leftBehindTick 9 = .ok (.iand, 1) := by decide +kernel
theorem dX2_leftBehindTick_10 : decode cX2_leftBehindTick 10 = .ok (.ifCond .eq 5, 3) := by decide +kernel
theorem dX2_leftBehindTick_13 : decode cX2_leftBehindTick 13 = .ok (.iload_n 2, 1) := by decide +kernel
theorem dX2_leftBehindTick_14 : decode cX2_leftBehindTick 14 = .ok (.ireturn, 1) := by decide +kernel
theorem dX2_leftBehindTick_15 : decode cX2_leftBehindTick 15 = .ok (.iconst 0, 1) := by decide +kernel
theorem dX2_leftBehindTick_16 : decode cX2_leftBehindTick 16 = .ok (.iload_n 2, 1) := by decide +kernel
theorem dX2_leftBehindTick_17 : decode cX2_leftBehindTick 17 = .ok (.aload_n 0, 1) := by decide +kernel
theorem dX2_leftBehindTick_18 : decode cX2_leftBehindTick 18 = .ok (.aload_n 1, 1) := by decide +kernel
theorem dX2_leftBehindTick_19 : decode cX2_leftBehindTick 19 = .ok (.iload_n 2, 1) := by decide +kernel
theorem dX2_leftBehindTick_20 : decode cX2_leftBehindTick 20 = .ok (.iload 4, 2) := by decide +kernel
theorem dX2_leftBehindTick_22 : decode cX2_leftBehindTick 22 = .ok (.invokevirtual 120, 3) := by decide +kernel
theorem dX2_leftBehindTick_25 : decode cX2_leftBehindTick 25 = .ok (.isub, 1) := by decide +kernel
theorem dX2_leftBehindTick_26 : decode cX2_leftBehindTick 26 = .ok (.invokestatic 124, 3) := by decide +kernel
theorem dX2_leftBehindTick_29 : decode cX2_leftBehindTick 29 = .ok (.ireturn, 1) := by decide +kernel
theorem dX2_goBy_0 : decode cX2_goBy 0 = .ok (.aload_n 0, 1) := by decide +kernel
theorem dX2_goBy_1 : decode cX2_goBy 1 = .ok (.aload_n 0, 1) := by decide +kernel
theorem dX2_goBy_2 : decode cX2_goBy 2 = .ok (.getfield 70, 3) := by decide +kernel
theorem dX2_goBy_5 : decode cX2_goBy 5 = .ok (.invokevirtual 130, 3) := by decide +kernel
theorem dX2_goBy_8 : decode cX2_goBy 8 = .ok (.istore_n 1, 1) := by decide +kernel
theorem dX2_goBy_9 : decode cX2_goBy 9 = .ok (.iconst 0, 1) := by decide +kernel
theorem dX2_goBy_10 : decode cX2_goBy 10 = .ok (.istore_n 2, 1) := by decide +kernel
theorem dX2_goBy_11 : decode cX2_goBy 11 = .ok (.iconst 0, 1) := by decide +kernel
theorem dX2_goBy_12 : decode cX2_goBy 12 = .ok (.istore_n 3, 1) := by decide +kernel
theorem dX2_goBy_13 : decode cX2_goBy 13 = .ok (.iload_n 3, 1) := by decide +kernel
theorem dX2_goBy_14 : decode cX2_goBy 14 = .ok (.aload_n 0, 1) := by decide +kernel
theorem dX2_goBy_15 : decode cX2_goBy 15 = .ok (.getfield 67, 3) := by decide +kernel
theorem dX2_goBy_18 : decode cX2_goBy 18 = .ok (.if_icmp .ge 59, 3) := by decide +kernel
theorem dX2_goBy_21 : decode cX2_goBy 21 = .ok (.aload_n 0, 1) := by decide +kernel
theorem dX2_goBy_22 : decode cX2_goBy 22 = .ok (.getfield 19, 3) := by decide +kernel
theorem dX2_goBy_25 : decode cX2_goBy 25 = .ok (.iload_n 3, 1) := by decide +kernel
theorem dX2_goBy_26 : decode cX2_goBy 26 = .ok (.aaload, 1) := by decide +kernel
theorem dX2_goBy_27 : decode cX2_goBy 27 = .ok (.astore 4, 2) := by decide +kernel
theorem dX2_goBy_29 : decode cX2_goBy 29 = .ok (.aload_n 0, 1) := by decide +kernel
theorem dX2_goBy_30 : decode cX2_goBy 30 = .ok (.aload 4, 2) := by decide +kernel
theorem dX2_goBy_32 : decode cX2_goBy 32 = .ok (.aload 4, 2) := by decide +kernel
theorem dX2_goBy_34 : decode cX2_goBy 34 = .ok (.getfield 133, 3) := by decide +kernel
theorem dX2_goBy_37 : decode cX2_goBy 37 = .ok (.aload 4, 2) := by decide +kernel
theorem dX2_goBy_39 : decode cX2_goBy 39 = .ok (.getfield 136, 3) := by decide +kernel
theorem dX2_goBy_42 : decode cX2_goBy 42 = .ok (.iload_n 1, 1) := by decide +kernel
theorem dX2_goBy_43 : decode cX2_goBy 43 = .ok (.invokevirtual 139, 3) := by decide +kernel
theorem dX2_goBy_46 : decode cX2_goBy 46 = .ok (.istore 5, 2) := by decide +kernel
theorem dX2_goBy_48 : decode cX2_goBy 48 = .ok (.iload 5, 2) := by decide +kernel
theorem dX2_goBy_50 : decode cX2_goBy 50 = .ok (.ifCond .ne 14, 3) := by decide +kernel
theorem dX2_goBy_53 : decode cX2_goBy 53 = .ok (.aload 4, 2) := by decide +kernel
theorem dX2_goBy_55 : decode cX2_goBy 55 = .ok (.getfield 133, 3) := by decide +kernel
theorem dX2_goBy_58 : decode cX2_goBy 58 = .ok (.ifCond .le 6, 3) := by decide +kernel
theorem dX2_goBy_61 : decode cX2_goBy 61 = .ok (.iinc 2 1, 3) := by decide +kernel
theorem dX2_goBy_64 : decode cX2_goBy 64 = .ok (.aload 4, 2) := by decide +kernel
theorem dX2_goBy_66 : decode cX2_goBy 66 = .ok (.iload 5, 2) := by decide +kernel
theorem dX2_goBy_68 : decode cX2_goBy 68 = .ok (.putfield 133, 3) := by decide +kernel
theorem dX2_goBy_71 : decode cX2_goBy 71 = .ok (.iinc 3 1, 3) := by decide +kernel
theorem dX2_goBy_74 : decode cX2_goBy 74 = .ok (.goto (-61), 3) := by decide +kernel
theorem dX2_goBy_77 : decode cX2_goBy 77 = .ok (.aload_n 0, 1) := by decide +kernel
theorem dX2_goBy_78 : decode cX2_goBy 78 = .ok (.dup, 1) := by decide +kernel
theorem dX2_goBy_79 : decode cX2_goBy 79 = .ok (.getfield 70, 3) := by decide +kernel
theorem dX2_goBy_82 : decode cX2_goBy 82 = .ok (.iconst 1, 1) := by decide +kernel
theorem dX2_goBy_83 : decode cX2_goBy 83 = .ok (.iadd, 1) := by decide +kernel
theorem dX2_goBy_84 : decode cX2_goBy 84 = .ok (.putfield 70, 3) := by decide +kernel
theorem dX2_goBy_87 : decode cX2_goBy 87 = .ok (.iload_n 2, 1) := by decide +kernel
theorem dX2_goBy_88 : decode cX2_goBy 88 = .ok (.ireturn, 1) := by decide +kernel
theorem dX2_draw_0 : decode cX2_draw 0 = .ok (.aload_n 0, 1) := by decide +kernel
theorem dX2_draw_1 : decode cX2_draw 1 = .ok (.aload_n 0, 1) := by decide +kernel
theorem dX2_draw_2 : decode cX2_draw 2 = .ok (.getfield 45, 3) := by decide +kernel
theorem dX2_draw_5 : decode cX2_draw 5 = .ok (.ldc 143, 2) := by decide +kernel
theorem dX2_draw_7 : decode cX2_draw 7 = .ok (.imul, 1) := by decide +kernel
theorem dX2_draw_8 : decode cX2_draw 8 = .ok (.sipush 12345, 3) := by decide +kernel
theorem dX2_draw_11 : decode cX2_draw 11 = .ok (.iadd, 1) := by decide +kernel
theorem dX2_draw_12 : decode cX2_draw 12 = .ok (.putfield 45, 3) := by decide +kernel
theorem dX2_draw_15 : decode cX2_draw 15 = .ok (.aload_n 0, 1) := by decide +kernel
theorem dX2_draw_16 : decode cX2_draw 16 = .ok (.getfield 45, 3) := by decide +kernel
theorem dX2_draw_19 : decode cX2_draw 19 = .ok (.bipush 8, 2) := by decide +kernel
theorem dX2_draw_21 : decode cX2_draw 21 = .ok (.iushr, 1) := by decide +kernel
theorem dX2_draw_22 : decode cX2_draw 22 = .ok (.ireturn, 1) := by decide +kernel
theorem dX2_drawPhase_0 : decode cX2_drawPhase 0 = .ok (.aload_n 0, 1) := by decide +kernel
theorem dX2_drawPhase_1 : decode cX2_drawPhase 1 = .ok (.getfield 64, 3) := by decide +kernel
theorem dX2_drawPhase_4 : decode cX2_drawPhase 4 = .ok (.ifCond .eq 12, 3) := by decide +kernel
theorem dX2_drawPhase_7 : decode cX2_drawPhase 7 = .ok (.aload_n 0, 1) := by decide +kernel
theorem dX2_drawPhase_8 : decode cX2_drawPhase 8 = .ok (.invokevirtual 144, 3) := by decide +kernel
theorem dX2_drawPhase_11 : decode cX2_drawPhase 11 = .ok (.iconst 4, 1) := by decide +kernel
theorem dX2_drawPhase_12 : decode cX2_drawPhase 12 = .ok (.irem, 1) := by decide +kernel
theorem dX2_drawPhase_13 : decode cX2_drawPhase 13 = .ok (.ifCond .eq 4, 3) := by decide +kernel
theorem dX2_drawPhase_16 : decode cX2_drawPhase 16 = .ok (.return_, 1) := by decide +kernel
theorem dX2_drawPhase_17 : decode cX2_drawPhase 17 = .ok (.aload_n 0, 1) := by decide +kernel
theorem dX2_drawPhase_18 : decode cX2_drawPhase 18 = .ok (.invokevirtual 144, 3) := by decide +kernel
theorem dX2_drawPhase_21 : decode cX2_drawPhase 21 = .ok (.aload_n 0, 1) := by decide +kernel
theorem dX2_drawPhase_22 : decode cX2_drawPhase 22 = .ok (.getfield 64, 3) := by decide +kernel
theorem dX2_drawPhase_25 : decode cX2_drawPhase 25 = .ok (.irem, 1) := by decide +kernel
theorem dX2_drawPhase_26 : decode cX2_drawPhase 26 = .ok (.istore_n 1, 1) := by decide +kernel
theorem dX2_drawPhase_27 : decode cX2_drawPhase 27 = .ok (.aload_n 0, 1) := by decide +kernel
theorem dX2_drawPhase_28 : decode cX2_drawPhase 28 = .ok (.invokevirtual 144, 3) := by decide +kernel
theorem dX2_drawPhase_31 : decode cX2_drawPhase 31 = .ok (.istore_n 2, 1) := by decide +kernel
theorem dX2_drawPhase_32 : decode cX2_drawPhase 32 = .ok (.aload_n 0, 1) := by decide +kernel
theorem dX2_drawPhase_33 : decode cX2_drawPhase 33 = .ok (.iload_n 1, 1) := by decide +kernel
theorem dX2_drawPhase_34 : decode cX2_drawPhase 34 = .ok (.invokevirtual 77, 3) := by decide +kernel
theorem dX2_drawPhase_37 : decode cX2_drawPhase 37 = .ok (.ifCond .eq 26, 3) := by decide +kernel
theorem dX2_drawPhase_40 : decode cX2_drawPhase 40 = .ok (.aload_n 0, 1) := by decide +kernel
theorem dX2_drawPhase_41 : decode cX2_drawPhase 41 = .ok (.getfield 11, 3) := by decide +kernel
theorem dX2_drawPhase_44 : decode cX2_drawPhase 44 = .ok (.iload_n 1, 1) := by decide +kernel
theorem dX2_drawPhase_45 : decode cX2_drawPhase 45 = .ok (.aaload, 1) := by decide +kernel
theorem dX2_drawPhase_46 : decode cX2_drawPhase 46 = .ok (.iload_n 2, 1) := by decide +kernel
theorem dX2_drawPhase_47 : decode cX2_drawPhase 47 = .ok (.aload_n 0, 1) := by decide +kernel
theorem dX2_drawPhase_48 : decode cX2_drawPhase 48 = .ok (.getfield 11, 3) := by decide +kernel
theorem dX2_drawPhase_51 : decode cX2_drawPhase 51 = .ok (.iload_n 1, 1) := by decide +kernel
theorem dX2_drawPhase_52 : decode cX2_drawPhase 52 = .ok (.aaload, 1) := by decide +kernel
theorem dX2_drawPhase_53 : decode cX2_drawPhase 53 = .ok (.getfield 92, 3) := by decide +kernel
theorem dX2_drawPhase_56 : decode cX2_drawPhase 56 = .ok (.iconst 0, 1) := by decide +kernel
theorem dX2_drawPhase_57 : decode cX2_drawPhase 57 = .ok (.invokestatic 81, 3) := by decide +kernel
theorem dX2_drawPhase_60 : decode cX2_drawPhase 60 = .ok (.putfield 95, 3) := by decide +kernel
theorem dX2_drawPhase_63 : decode cX2_drawPhase 63 = .ok (.return_, 1) := by decide +kernel
theorem dX2_partsTogether_0 : decode cX2_partsTogether 0 = .ok (.iconst 0, 1) := by decide +kernel
theorem dX2_partsTogether_1 : decode cX2_partsTogether 1 = .ok (.istore_n 1, 1) := by decide +kernel
theorem dX2_partsTogether_2 : decode cX2_partsTogether 2 = .ok (.iconst 0, 1) := by decide +kernel
theorem dX2_partsTogether_3 : decode cX2_partsTogether 3 = .ok (.istore_n 2, 1) := by decide +kernel
theorem dX2_partsTogether_4 : decode cX2_partsTogether 4 = .ok (.iload_n 2, 1) := by decide +kernel
theorem dX2_partsTogether_5 : decode cX2_partsTogether 5 = .ok (.aload_n 0, 1) := by decide +kernel
theorem dX2_partsTogether_6 : decode cX2_partsTogether 6 = .ok (.getfield 67, 3) := by decide +kernel
theorem dX2_partsTogether_9 : decode cX2_partsTogether 9 = .ok (.if_icmp .ge 21, 3) := by decide +kernel
theorem dX2_partsTogether_12 : decode cX2_partsTogether 12 = .ok (.iload_n 1, 1) := by decide +kernel
theorem dX2_partsTogether_13 : decode cX2_partsTogether 13 = .ok (.aload_n 0, 1) := by decide +kernel
theorem dX2_partsTogether_14 : decode cX2_partsTogether 14 = .ok (.getfield 19, 3) := by decide +kernel
theorem dX2_partsTogether_17 : decode cX2_partsTogether 17 = .ok (.iload_n 2, 1) := by decide +kernel
theorem dX2_partsTogether_18 : decode cX2_partsTogether 18 = .ok (.aaload, 1) := by decide +kernel
theorem dX2_partsTogether_19 : decode cX2_partsTogether 19 = .ok (.getfield 133, 3) := by decide +kernel
theorem dX2_partsTogether_22 : decode cX2_partsTogether 22 = .ok (.iadd, 1) := by decide +kernel
theorem dX2_partsTogether_23 : decode cX2_partsTogether 23 = .ok (.istore_n 1, 1) := by decide +kernel
theorem dX2_partsTogether_24 : decode cX2_partsTogether 24 = .ok (.iinc 2 1, 3) := by decide +kernel
theorem dX2_partsTogether_27 : decode cX2_partsTogether 27 = .ok (.goto (-23), 3) := by decide +kernel
theorem dX2_partsTogether_30 : decode cX2_partsTogether 30 = .ok (.iload_n 1, 1) := by decide +kernel
theorem dX2_partsTogether_31 : decode cX2_partsTogether 31 = .ok (.ireturn, 1) := by decide +kernel
theorem dX3_init_0 : decode cX3_init 0 = .ok (.aload_n 0, 1) := by decide +kernel
theorem dX3_init_1 : decode cX3_init 1 = .ok (.invokespecial 3, 3) := by decide +kernel
theorem dX3_init_4 : decode cX3_init 4 = .ok (.aload_n 0, 1) := by decide +kernel
theorem dX3_init_5 : decode cX3_init 5 = .ok (.new 9, 3) := by decide +kernel
theorem dX3_init_8 : decode cX3_init 8 = .ok (.dup, 1) := by decide +kernel
theorem dX3_init_9 : decode cX3_init 9 = .ok (.bipush 60, 2) := by decide +kernel
theorem dX3_init_11 : decode cX3_init 11 = .ok (.invokespecial 11, 3) := by decide +kernel
theorem dX3_init_14 : decode cX3_init 14 = .ok (.putfield 14, 3) := by decide +kernel
theorem dX3_init_17 : decode cX3_init 17 = .ok (.aload_n 0, 1) := by decide +kernel
theorem dX3_init_18 : decode cX3_init 18 = .ok (.bipush 60, 2) := by decide +kernel
theorem dX3_init_20 : decode cX3_init 20 = .ok (.newarray .int, 2) := by decide +kernel
theorem dX3_init_22 : decode cX3_init 22 = .ok (.putfield 20, 3) := by decide +kernel
theorem dX3_init_25 : decode cX3_init 25 = .ok (.aload_n 0, 1) := by decide +kernel
theorem dX3_init_26 : decode cX3_init 26 = .ok (.iload_n 1, 1) := by decide +kernel
theorem dX3_init_27 : decode cX3_init 27 = .ok (.putfield 24, 3) := by decide +kernel
theorem dX3_init_30 : decode cX3_init 30 = .ok (.return_, 1) := by decide +kernel
theorem dX3_give_0 : decode cX3_give 0 = .ok (.aload_n 0, 1) := by decide +kernel
theorem dX3_give_1 : decode cX3_give 1 = .ok (.getfield 14, 3) := by decide +kernel
theorem dX3_give_4 : decode cX3_give 4 = .ok (.aload_n 1, 1) := by decide +kernel
theorem dX3_give_5 : decode cX3_give 5 = .ok (.invokevirtual 28, 3) := by decide +kernel
theorem dX3_give_8 : decode cX3_give 8 = .ok (.aload_n 0, 1) := by decide +kernel
theorem dX3_give_9 : decode cX3_give 9 = .ok (.iconst 1, 1) := by decide +kernel
theorem dX3_give_10 : decode cX3_give 10 = .ok (.putfield 32, 3) := by decide +kernel
theorem dX3_give_13 : decode cX3_give 13 = .ok (.return_, 1) := by decide +kernel
theorem dX3_beLike_0 : decode cX3_beLike 0 = .ok (.aload_n 0, 1) := by decide +kernel
theorem dX3_beLike_1 : decode cX3_beLike 1 = .ok (.getfield 14, 3) := by decide +kernel
theorem dX3_beLike_4 : decode cX3_beLike 4 = .ok (.aload_n 1, 1) := by decide +kernel
theorem dX3_beLike_5 : decode cX3_beLike 5 = .ok (.getfield 14, 3) := by decide +kernel
theorem dX3_beLike_8 : decode cX3_beLike 8 = .ok (.invokevirtual 28, 3) := by decide +kernel
theorem dX3_beLike_11 : decode cX3_beLike 11 = .ok (.aload_n 0, 1) := by decide +kernel
theorem dX3_beLike_12 : decode cX3_beLike 12 = .ok (.aload_n 1, 1) := by decide +kernel
theorem dX3_beLike_13 : decode cX3_beLike 13 = .ok (.getfield 32, 3) := by decide +kernel
theorem dX3_beLike_16 : decode cX3_beLike 16 = .ok (.putfield 32, 3) := by decide +kernel
theorem dX3_beLike_19 : decode cX3_beLike 19 = .ok (.return_, 1) := by decide +kernel
theorem dX3_gives_0 : decode cX3_gives 0 = .ok (.aload_n 0, 1) := by decide +kernel
theorem dX3_gives_1 : decode cX3_gives 1 = .ok (.getfield 24, 3) := by decide +kernel
theorem dX3_gives_4 : decode cX3_gives 4 = .ok (.ifCond .ne 26, 3) := by decide +kernel
theorem dX3_gives_7 : decode cX3_gives 7 = .ok (.aload_n 0, 1) := by decide +kernel
theorem dX3_gives_8 : decode cX3_gives 8 = .ok (.getfield 32, 3) := by decide +kernel
theorem dX3_gives_11 : decode cX3_gives 11 = .ok (.ifCond .eq 13, 3) := by decide +kernel
theorem dX3_gives_14 : decode cX3_gives 14 = .ok (.aload_n 0, 1) := by decide +kernel
theorem dX3_gives_15 : decode cX3_gives 15 = .ok (.iload_n 1, 1) := by decide +kernel
theorem dX3_gives_16 : decode cX3_gives 16 = .ok (.iload_n 2, 1) := by decide +kernel
theorem dX3_gives_17 : decode cX3_gives 17 = .ok (.iload_n 3, 1) := by decide +kernel
theorem dX3_gives_18 : decode cX3_gives 18 = .ok (.invokevirtual 36, 3) := by decide +kernel
theorem dX3_gives_21 : decode cX3_gives 21 = .ok (.goto 4, 3) := by decide +kernel
theorem dX3_gives_24 : decode cX3_gives 24 = .ok (.iload_n 2, 1) := by decide +kernel
theorem dX3_gives_25 : decode cX3_gives 25 = .ok (.iconst 1, 1) := by decide +kernel
theorem dX3_gives_26 : decode cX3_gives 26 = .ok (.invokestatic 40, 3) := by decide +kernel
theorem dX3_gives_29 : decode cX3_gives 29 = .ok (.ireturn, 1) := by decide +kernel
theorem dX3_gives_30 : decode cX3_gives 30 = .ok (.aload_n 0, 1) := by decide +kernel
theorem dX3_gives_31 : decode cX3_gives 31 = .ok (.getfield 32, 3) := by decide +kernel
theorem dX3_gives_34 : decode cX3_gives 34 = .ok (.ifCond .eq 13, 3) := by decide +kernel
theorem dX3_gives_37 : decode cX3_gives 37 = .ok (.aload_n 0, 1) := by decide +kernel
theorem dX3_gives_38 : decode cX3_gives 38 = .ok (.iload_n 1, 1) := by decide +kernel
theorem dX3_gives_39 : decode cX3_gives 39 = .ok (.iload_n 2, 1) := by decide +kernel
theorem dX3_gives_40 : decode cX3_gives 40 = .ok (.iload_n 3, 1) := by decide +kernel
theorem dX3_gives_41 : decode cX3_gives 41 = .ok (.invokevirtual 36, 3) := by decide +kernel
theorem dX3_gives_44 : decode cX3_gives 44 = .ok (.goto 4, 3) := by decide +kernel
theorem dX3_gives_47 : decode cX3_gives 47 = .ok (.iload_n 1, 1) := by decide +kernel
theorem dX3_gives_48 : decode cX3_gives 48 = .ok (.bipush 9, 2) := by decide +kernel
theorem dX3_gives_50 : decode cX3_gives 50 = .ok (.invokestatic 40, 3) := by decide +kernel
theorem dX3_gives_53 : decode cX3_gives 53 = .ok (.ireturn, 1) := by decide +kernel
theorem dX3_held_0 : decode cX3_held 0 = .ok (.iconst 0, 1) := by decide +kernel
theorem dX3_held_1 : decode cX3_held 1 = .ok (.iload_n 1, 1) := by decide +kernel
theorem dX3_held_2 : decode cX3_held 2 = .ok (.iload_n 0, 1) := by decide +kernel
theorem dX3_held_3 : decode cX3_held 3 = .ok (.invokestatic 44, 3) := by decide +kernel
theorem dX3_held_6 : decode cX3_held 6 = .ok (.invokestatic 49, 3) := by decide +kernel
theorem dX3_held_9 : decode cX3_held 9 = .ok (.ireturn, 1) := by decide +kernel
theorem dX3_worked_0 : decode cX3_worked 0 = .ok (.iconst 0, 1) := by decide +kernel
theorem dX3_worked_1 : decode cX3_worked 1 = .ok (.istore 4, 2) := by decide +kernel
theorem dX3_worked_3 : decode cX3_worked 3 = .ok (.iconst 0, 1) := by decide +kernel
theorem dX3_worked_4 : decode cX3_worked 4 = .ok (.istore 5, 2) := by decide +kernel
theorem dX3_worked_6 : decode cX3_worked 6 = .ok (.iload 5, 2) := by decide +kernel
theorem dX3_worked_8 : decode cX3_worked 8 = .ok (.aload_n 0, 1) := by decide +kernel
theorem dX3_worked_9 : decode cX3_worked 9 = .ok (.getfield 14, 3) := by decide +kernel
theorem dX3_worked_12 : decode cX3_worked 12 = .ok (.invokevirtual 52, 3) := by decide +kernel
theorem dX3_worked_15 : decode cX3_worked 15 = .ok (.if_icmp .ge 150, 3) := by decide +kernel
theorem dX3_worked_18 : decode cX3_worked 18 = .ok (.aload_n 0, 1) := by decide +kernel
theorem dX3_worked_19 : decode cX3_worked 19 = .ok (.getfield 14, 3) := by decide +kernel
theorem dX3_worked_22 : decode cX3_worked 22 = .ok (.iload 5, 2) := by decide +kernel
theorem dX3_worked_24 : decode cX3_worked 24 = .ok (.invokevirtual 56, 3) := by decide +kernel
theorem dX3_worked_27 : decode cX3_worked 27 = .ok (.istore 6, 2) := by decide +kernel
theorem dX3_worked_29 : decode cX3_worked 29 = .ok (.iload 6, 2) := by decide +kernel
theorem dX3_worked_31 : decode cX3_worked 31 = .ok (.bipush (-33), 2) := by decide +kernel
theorem dX3_worked_33 : decode cX3_worked 33 = .ok (.if_icmp .ne 38, 3) := by decide +kernel
theorem dX3_worked_36 : decode cX3_worked 36 = .ok (.iload 4, 2) := by decide +kernel
theorem dX3_worked_38 : decode cX3_worked 38 = .ok (.iconst 1, 1) := by decide +kernel
theorem dX3_worked_39 : decode cX3_worked 39 = .ok (.if_icmp .lt 32, 3) := by decide +kernel
theorem dX3_worked_42 : decode cX3_worked 42 = .ok (.aload_n 0, 1) := by decide +kernel
theorem dX3_worked_43 : decode cX3_worked 43 = .ok (.getfield 20, 3) := by decide +kernel
theorem dX3_worked_46 : decode cX3_worked 46 = .ok (.iload 4, 2) := by decide +kernel
theorem dX3_worked_48 : decode cX3_worked 48 = .ok (.iconst 1, 1) := by decide +kernel
theorem dX3_worked_49 : decode cX3_worked 49 = .ok (.isub, 1) := by decide +kernel
theorem dX3_worked_50 : decode cX3_worked 50 = .ok (.aload_n 0, 1) := by decide +kernel
theorem dX3_worked_51 : decode cX3_worked 51 = .ok (.getfield 20, 3) := by decide +kernel
theorem dX3_worked_54 : decode cX3_worked 54 = .ok (.iload 4, 2) := by decide +kernel
theorem dX3_worked_56 : decode cX3_worked 56 = .ok (.iconst 1, 1) := by decide +kernel
theorem dX3_worked_57 : decode cX3_worked 57 = .ok (.isub, 1) := by decide +kernel
theorem dX3_worked_58 : decode cX3_worked 58 = .ok (.iaload, 1) := by decide +kernel
theorem dX3_worked_59 : decode cX3_worked 59 = .ok (.ifCond .ne 7, 3) := by decide +kernel
theorem dX3_worked_62 : decode cX3_worked 62 = .ok (.iconst 1, 1) := by decide +kernel
theorem dX3_worked_63 : decode cX3_worked 63 = .ok (.goto 4, 3) := by decide +kernel
theorem dX3_worked_66 : decode cX3_worked 66 = .ok (.iconst 0, 1) := by decide +kernel
theorem dX3_worked_67 : decode cX3_worked 67 = .ok (.iastore, 1) := by decide +kernel
theorem dX3_worked_68 : decode cX3_worked 68 = .ok (.goto 91, 3) := by decide +kernel
theorem dX3_worked_71 : decode cX3_worked 71 = .ok (.iload 6, 2) := by decide +kernel
theorem dX3_worked_73 : decode cX3_worked 73 = .ok (.bipush (-3), 2) := by decide +kernel
theorem dX3_worked_75 : decode cX3_worked 75 = .ok (.if_icmp .ge 46, 3) := by decide +kernel
theorem dX3_worked_78 : decode cX3_worked 78 = .ok (.iload 4, 2) := by decide +kernel
theorem dX3_worked_80 : decode cX3_worked 80 = .ok (.iconst 2, 1) := by decide +kernel
theorem dX3_worked_81 : decode cX3_worked 81 = .ok (.if_icmp .lt 40, 3) := by decide +kernel
theorem dX3_worked_84 : decode cX3_worked 84 = .ok (.iinc 4 (-1), 3) := by decide +kernel
theorem dX3_worked_87 : decode cX3_worked 87 = .ok (.aload_n 0, 1) := by decide +kernel
theorem dX3_worked_88 : decode cX3_worked 88 = .ok (.getfield 20, 3) := by decide +kernel
theorem dX3_worked_91 : decode cX3_worked 91 = .ok (.iload 4, 2) := by decide +kernel
theorem dX3_worked_93 : decode cX3_worked 93 = .ok (.iconst 1, 1) := by decide +kernel
theorem dX3_worked_94 : decode cX3_worked 94 = .ok (.isub, 1) := by decide +kernel
theorem dX3_worked_95 : decode cX3_worked 95 = .ok (.iload 6, 2) := by decide +kernel
theorem dX3_worked_97 : decode cX3_worked 97 = .ok (.ineg, 1) := by decide +kernel
theorem dX3_worked_98 : decode cX3_worked 98 = .ok (.aload_n 0, 1) := by decide +kernel
theorem dX3_worked_99 : decode cX3_worked 99 = .ok (.getfield 20, 3) := by decide +kernel
theorem dX3_worked_102 : decode cX3_worked 102 = .ok (.iload 4, 2) := by decide +kernel
theorem dX3_worked_104 : decode cX3_worked 104 = .ok (.iconst 1, 1) := by decide +kernel
theorem dX3_worked_105 : decode cX3_worked 105 = .ok (.isub, 1) := by decide +kernel
theorem dX3_worked_106 : decode cX3_worked 106 = .ok (.iaload, 1) := by decide +kernel
theorem dX3_worked_107 : decode cX3_worked 107 = .ok (.aload_n 0, 1) := by decide +kernel
theorem dX3_worked_108 : decode cX3_worked 108 = .ok (.getfield 20, 3) := by decide +kernel
theorem dX3_worked_111 : decode cX3_worked 111 = .ok (.iload 4, 2) := by decide +kernel
theorem dX3_worked_113 : decode cX3_worked 113 = .ok (.iaload, 1) := by decide +kernel
theorem dX3_worked_114 : decode cX3_worked 114 = .ok (.invokestatic 60, 3) := by decide +kernel
theorem dX3_worked_117 : decode cX3_worked 117 = .ok (.iastore, 1) := by decide +kernel
theorem dX3_worked_118 : decode cX3_worked 118 = .ok (.goto 41, 3) := by decide +kernel
theorem dX3_worked_121 : decode cX3_worked 121 = .ok (.iload 4, 2) := by decide +kernel
theorem dX3_worked_123 : decode cX3_worked 123 = .ok (.aload_n 0, 1) := by decide +kernel
theorem dX3_worked_124 : decode cX3_worked 124 = .ok (.getfield 20, 3) := by decide +kernel
theorem dX3_worked_127 : decode cX3_worked 127 = .ok (.arraylength, 1) := by decide +kernel
theorem dX3_worked_128 : decode cX3_worked 128 = .ok (.if_icmp .ge 31, 3) := by decide +kernel
theorem dX3_worked_131 : decode cX3_worked 131 = .ok (.aload_n 0, 1) := by decide +kernel
theorem dX3_worked_132 : decode cX3_worked 132 = .ok (.getfield 20, 3) := by decide +kernel
theorem dX3_worked_135 : decode cX3_worked 135 = .ok (.iload 4, 2) := by decide +kernel
theorem dX3_worked_137 : decode cX3_worked 137 = .ok (.iload 6, 2) := by decide +kernel
theorem dX3_worked_139 : decode cX3_worked 139 = .ok (.ifCond .lt 8, 3) := by decide +kernel
theorem dX3_worked_142 : decode cX3_worked 142 = .ok (.iload 6, 2) := by decide +kernel
theorem dX3_worked_144 : decode cX3_worked 144 = .ok (.goto 11, 3) := by decide +kernel
theorem dX3_worked_147 : decode cX3_worked 147 = .ok (.iload 6, 2) := by decide +kernel
theorem dX3_worked_149 : decode cX3_worked 149 = .ok (.iload_n 1, 1) := by decide +kernel
theorem dX3_worked_150 : decode cX3_worked 150 = .ok (.iload_n 2, 1) := by decide +kernel
theorem dX3_worked_151 : decode cX3_worked 151 = .ok (.iload_n 3, 1) := by decide +kernel
theorem dX3_worked_152 : decode cX3_worked 152 = .ok (.invokestatic 63, 3) := by decide +kernel
theorem dX3_worked_155 : decode cX3_worked 155 = .ok (.iastore, 1) := by decide +kernel
theorem dX3_worked_156 : decode cX3_worked 156 = .ok (.iinc 4 1, 3) := by decide +kernel
theorem dX3_worked_159 : decode cX3_worked 159 = .ok (.iinc 5 1, 3) := by decide +kernel
theorem dX3_worked_162 : decode cX3_worked 162 = .ok (.goto (-156), 3) := by decide +kernel
theorem dX3_worked_165 : decode cX3_worked 165 = .ok (.iload 4, 2) := by decide +kernel
theorem dX3_worked_167 : decode cX3_worked 167 = .ok (.ifCond .le 12, 3) := by decide +kernel
theorem dX3_worked_170 : decode cX3_worked 170 = .ok (.aload_n 0, 1) := by decide +kernel
theorem dX3_worked_171 : decode cX3_worked 171 = .ok (.getfield 20, 3) := by decide +kernel
theorem dX3_worked_174 : decode cX3_worked 174 = .ok (.iconst 0, 1) := by decide +kernel
theorem dX3_worked_175 : decode cX3_worked 175 = .ok (.iaload, 1) := by decide +kernel
theorem dX3_worked_176 : decode cX3_worked 176 = .ok (.goto 4, 3) := by decide +kernel
theorem dX3_worked_179 : decode cX3_worked 179 = .ok (.iconst 0, 1) := by decide +kernel
theorem dX3_worked_180 : decode cX3_worked 180 = .ok (.ireturn, 1) := by decide +kernel
theorem dX3_named_0 : decode cX3_named 0 = .ok (.iload_n 0, 1) := by decide +kernel
theorem dX3_named_1 : decode cX3_named 1 = .ok (.iconst (-1), 1) := by decide +kernel
theorem dX3_named_2 : decode cX3_named 2 = .ok (.if_icmp .ne 5, 3) := by decide +kernel
theorem dX3_named_5 : decode cX3_named 5 = .ok (.iload_n 1, 1) := by decide +kernel
theorem dX3_named_6 : decode cX3_named 6 = .ok (.ireturn, 1) := by decide +kernel
theorem dX3_named_7 : decode cX3_named 7 = .ok (.iload_n 0, 1) := by decide +kernel
theorem dX3_named_8 : decode cX3_named 8 = .ok (.bipush (-2), 2) := by decide +kernel
theorem dX3_named_10 : decode cX3_named 10 = .ok (.if_icmp .ne 7, 3) := by decide +kernel
theorem dX3_named_13 : decode cX3_named 13 = .ok (.iload_n 2, 1) := by decide +kernel
theorem dX3_named_14 : decode cX3_named 14 = .ok (.goto 4, 3) := by decide +kernel
theorem dX3_named_17 : decode cX3_named 17 = .ok (.iload_n 3, 1) := by decide +kernel
theorem dX3_named_18 : decode cX3_named 18 = .ok (.ireturn, 1) := by decide +kernel
theorem dX3_joined_0 : decode cX3_joined 0 = .ok (.iload_n 0, 1) := by decide +kernel
theorem dX3_joined_1 : decode cX3_joined 1 = .ok (.lookupswitch 168 #[(38, 97), (42, 152), (43, 144), (45, 148), (47, 156), (60, 111), (61, 122), (62, 133), (124, 83)], 83) := by decide +kernel
theorem dX3_joined_84 : decode cX3_joined 84 = .ok (.iload_n 1, 1) := by decide +kernel
theorem dX3_joined_85 : decode cX3_joined 85 = .ok (.ifCond .ne 7, 3) := by decide +kernel
theorem dX3_joined_88 : decode cX3_joined 88 = .ok (.iload_n 2, 1) := by decide +kernel
theorem dX3_joined_89 : decode cX3_joined 89 = .ok (.ifCond .eq 7, 3) := by decide +kernel
theorem dX3_joined_92 : decode cX3_joined 92 = .ok (.iconst 1, 1) := by decide +kernel
theorem dX3_joined_93 : decode cX3_joined 93 = .ok (.goto 4, 3) := by decide +kernel
theorem dX3_joined_96 : decode cX3_joined 96 = .ok (.iconst 0, 1) := by decide +kernel
theorem dX3_joined_97 : decode cX3_joined 97 = .ok (.ireturn, 1) := by decide +kernel
theorem dX3_joined_98 : decode cX3_joined 98 = .ok (.iload_n 1, 1) := by decide +kernel
theorem dX3_joined_99 : decode cX3_joined 99 = .ok (.ifCond .eq 11, 3) := by decide +kernel
theorem dX3_joined_102 : decode cX3_joined 102 = .ok (.iload_n 2, 1) := by decide +kernel
theorem dX3_joined_103 : decode cX3_joined 103 = .ok (.ifCond .eq 7, 3) := by decide +kernel
theorem dX3_joined_106 : decode cX3_joined 106 = .ok (.iconst 1, 1) := by decide +kernel
theorem dX3_joined_107 : decode cX3_joined 107 = .ok (.goto 4, 3) := by decide +kernel
theorem dX3_joined_110 : decode cX3_joined 110 = .ok (.iconst 0, 1) := by decide +kernel
theorem dX3_joined_111 : decode cX3_joined 111 = .ok (.ireturn, 1) := by decide +kernel
theorem dX3_joined_112 : decode cX3_joined 112 = .ok (.iload_n 1, 1) := by decide +kernel
theorem dX3_joined_113 : decode cX3_joined 113 = .ok (.iload_n 2, 1) := by decide +kernel
theorem dX3_joined_114 : decode cX3_joined 114 = .ok (.if_icmp .ge 7, 3) := by decide +kernel
theorem dX3_joined_117 : decode cX3_joined 117 = .ok (.iconst 1, 1) := by decide +kernel
theorem dX3_joined_118 : decode cX3_joined 118 = .ok (.goto 4, 3) := by decide +kernel
theorem dX3_joined_121 : decode cX3_joined 121 = .ok (.iconst 0, 1) := by decide +kernel
theorem dX3_joined_122 : decode cX3_joined 122 = .ok (.ireturn, 1) := by decide +kernel
theorem dX3_joined_123 : decode cX3_joined 123 = .ok (.iload_n 1, 1) := by decide +kernel
theorem dX3_joined_124 : decode cX3_joined 124 = .ok (.iload_n 2, 1) := by decide +kernel
theorem dX3_joined_125 : decode cX3_joined 125 = .ok (.if_icmp .ne 7, 3) := by decide +kernel
theorem dX3_joined_128 : decode cX3_joined 128 = .ok (.iconst 1, 1) := by decide +kernel
theorem dX3_joined_129 : decode cX3_joined 129 = .ok (.goto 4, 3) := by decide +kernel
theorem dX3_joined_132 : decode cX3_joined 132 = .ok (.iconst 0, 1) := by decide +kernel
theorem dX3_joined_133 : decode cX3_joined 133 = .ok (.ireturn, 1) := by decide +kernel
theorem dX3_joined_134 : decode cX3_joined 134 = .ok (.iload_n 1, 1) := by decide +kernel
theorem dX3_joined_135 : decode cX3_joined 135 = .ok (.iload_n 2, 1) := by decide +kernel
theorem dX3_joined_136 : decode cX3_joined 136 = .ok (.if_icmp .le 7, 3) := by decide +kernel
theorem dX3_joined_139 : decode cX3_joined 139 = .ok (.iconst 1, 1) := by decide +kernel
theorem dX3_joined_140 : decode cX3_joined 140 = .ok (.goto 4, 3) := by decide +kernel
theorem dX3_joined_143 : decode cX3_joined 143 = .ok (.iconst 0, 1) := by decide +kernel
theorem dX3_joined_144 : decode cX3_joined 144 = .ok (.ireturn, 1) := by decide +kernel
theorem dX3_joined_145 : decode cX3_joined 145 = .ok (.iload_n 1, 1) := by decide +kernel
theorem dX3_joined_146 : decode cX3_joined 146 = .ok (.iload_n 2, 1) := by decide +kernel
theorem dX3_joined_147 : decode cX3_joined 147 = .ok (.iadd, 1) := by decide +kernel
theorem dX3_joined_148 : decode cX3_joined 148 = .ok (.ireturn, 1) := by decide +kernel
theorem dX3_joined_149 : decode cX3_joined 149 = .ok (.iload_n 1, 1) := by decide +kernel
theorem dX3_joined_150 : decode cX3_joined 150 = .ok (.iload_n 2, 1) := by decide +kernel
theorem dX3_joined_151 : decode cX3_joined 151 = .ok (.isub, 1) := by decide +kernel
theorem dX3_joined_152 : decode cX3_joined 152 = .ok (.ireturn, 1) := by decide +kernel
theorem dX3_joined_153 : decode cX3_joined 153 = .ok (.iload_n 1, 1) := by decide +kernel
theorem dX3_joined_154 : decode cX3_joined 154 = .ok (.iload_n 2, 1) := by decide +kernel
theorem dX3_joined_155 : decode cX3_joined 155 = .ok (.imul, 1) := by decide +kernel
theorem dX3_joined_156 : decode cX3_joined 156 = .ok (.ireturn, 1) := by decide +kernel
theorem dX3_joined_157 : decode cX3_joined 157 = .ok (.iload_n 2, 1) := by decide +kernel
theorem dX3_joined_158 : decode cX3_joined 158 = .ok (.ifCond .ne 7, 3) := by decide +kernel
theorem dX3_joined_161 : decode cX3_joined 161 = .ok (.iconst 0, 1) := by decide +kernel
theorem dX3_joined_162 : decode cX3_joined 162 = .ok (.goto 6, 3) := by decide +kernel
theorem dX3_joined_165 : decode cX3_joined 165 = .ok (.iload_n 1, 1) := by decide +kernel
theorem dX3_joined_166 : decode cX3_joined 166 = .ok (.iload_n 2, 1) := by decide +kernel
theorem dX3_joined_167 : decode cX3_joined 167 = .ok (.idiv, 1) := by decide +kernel
theorem dX3_joined_168 : decode cX3_joined 168 = .ok (.ireturn, 1) := by decide +kernel
theorem dX3_joined_169 : decode cX3_joined 169 = .ok (.iload_n 2, 1) := by decide +kernel
theorem dX3_joined_170 : decode cX3_joined 170 = .ok (.ifCond .ne 7, 3) := by decide +kernel
theorem dX3_joined_173 : decode cX3_joined 173 = .ok (.iconst 0, 1) := by decide +kernel
theorem dX3_joined_174 : decode cX3_joined 174 = .ok (.goto 6, 3) := by decide +kernel
theorem dX3_joined_177 : decode cX3_joined 177 = .ok (.iload_n 1, 1) := by decide +kernel
theorem dX3_joined_178 : decode cX3_joined 178 = .ok (.iload_n 2, 1) := by decide +kernel
theorem dX3_joined_179 : decode cX3_joined 179 = .ok (.irem, 1) := by decide +kernel
theorem dX3_joined_180 : decode cX3_joined 180 = .ok (.ireturn, 1) := by decide +kernel
theorem dX4_init_0 : decode cX4_init 0 = .ok (.aload_n 0, 1) := by decide +kernel
theorem dX4_init_1 : decode cX4_init 1 = .ok (.invokespecial 3, 3) := by decide +kernel
theorem dX4_init_4 : decode cX4_init 4 = .ok (.aload_n 0, 1) := by decide +kernel
theorem dX4_init_5 : decode cX4_init 5 = .ok (.iconst 1, 1) := by decide +kernel
theorem dX4_init_6 : decode cX4_init 6 = .ok (.putfield 9, 3) := by decide +kernel
theorem dX4_init_9 : decode cX4_init 9 = .ok (.return_, 1) := by decide +kernel
theorem dX4_turnInto_0 : decode cX4_turnInto 0 = .ok (.aload_n 0, 1) := by decide +kernel
theorem dX4_turnInto_1 : decode cX4_turnInto 1 = .ok (.iload_n 1, 1) := by decide +kernel
theorem dX4_turnInto_2 : decode cX4_turnInto 2 = .ok (.bipush 10, 2) := by decide +kernel
theorem dX4_turnInto_4 : decode cX4_turnInto 4 = .ok (.idiv, 1) := by decide +kernel
theorem dX4_turnInto_5 : decode cX4_turnInto 5 = .ok (.putfield 15, 3) := by decide +kernel
theorem dX4_turnInto_8 : decode cX4_turnInto 8 = .ok (.aload_n 0, 1) := by decide +kernel
theorem dX4_turnInto_9 : decode cX4_turnInto 9 = .ok (.iload_n 1, 1) := by decide +kernel
theorem dX4_turnInto_10 : decode cX4_turnInto 10 = .ok (.bipush 10, 2) := by decide +kernel
theorem dX4_turnInto_12 : decode cX4_turnInto 12 = .ok (.irem, 1) := by decide +kernel
theorem dX4_turnInto_13 : decode cX4_turnInto 13 = .ok (.putfield 18, 3) := by decide +kernel
theorem dX4_turnInto_16 : decode cX4_turnInto 16 = .ok (.return_, 1) := by decide +kernel
theorem dX4_beLike_0 : decode cX4_beLike 0 = .ok (.aload_n 0, 1) := by decide +kernel
theorem dX4_beLike_1 : decode cX4_beLike 1 = .ok (.aload_n 1, 1) := by decide +kernel
theorem dX4_beLike_2 : decode cX4_beLike 2 = .ok (.getfield 15, 3) := by decide +kernel
theorem dX4_beLike_5 : decode cX4_beLike 5 = .ok (.putfield 15, 3) := by decide +kernel
theorem dX4_beLike_8 : decode cX4_beLike 8 = .ok (.aload_n 0, 1) := by decide +kernel
theorem dX4_beLike_9 : decode cX4_beLike 9 = .ok (.aload_n 1, 1) := by decide +kernel
theorem dX4_beLike_10 : decode cX4_beLike 10 = .ok (.getfield 18, 3) := by decide +kernel
theorem dX4_beLike_13 : decode cX4_beLike 13 = .ok (.putfield 18, 3) := by decide +kernel
theorem dX4_beLike_16 : decode cX4_beLike 16 = .ok (.aload_n 0, 1) := by decide +kernel
theorem dX4_beLike_17 : decode cX4_beLike 17 = .ok (.aload_n 1, 1) := by decide +kernel
theorem dX4_beLike_18 : decode cX4_beLike 18 = .ok (.getfield 9, 3) := by decide +kernel
theorem dX4_beLike_21 : decode cX4_beLike 21 = .ok (.putfield 9, 3) := by decide +kernel
theorem dX4_beLike_24 : decode cX4_beLike 24 = .ok (.aload_n 0, 1) := by decide +kernel
theorem dX4_beLike_25 : decode cX4_beLike 25 = .ok (.aload_n 1, 1) := by decide +kernel
theorem dX4_beLike_26 : decode cX4_beLike 26 = .ok (.getfield 21, 3) := by decide +kernel
theorem dX4_beLike_29 : decode cX4_beLike 29 = .ok (.putfield 21, 3) := by decide +kernel
theorem dX4_beLike_32 : decode cX4_beLike 32 = .ok (.return_, 1) := by decide +kernel
theorem dX4_blinks_0 : decode cX4_blinks 0 = .ok (.aload_n 0, 1) := by decide +kernel
theorem dX4_blinks_1 : decode cX4_blinks 1 = .ok (.getfield 15, 3) := by decide +kernel
theorem dX4_blinks_4 : decode cX4_blinks 4 = .ok (.tableswitch 123 2 6 #[36, 43, 54, 75, 99], 36) := by decide +kernel
theorem dX4_blinks_40 : decode cX4_blinks 40 = .ok (.aload_n 0, 1) := by decide +kernel
theorem dX4_blinks_41 : decode cX4_blinks 41 = .ok (.iload_n 1, 1) := by decide +kernel
theorem dX4_blinks_42 : decode cX4_blinks 42 = .ok (.iload_n 2, 1) := by decide +kernel
theorem dX4_blinks_43 : decode cX4_blinks 43 = .ok (.invokevirtual 24, 3) := by decide +kernel
theorem dX4_blinks_46 : decode cX4_blinks 46 = .ok (.ireturn, 1) := by decide +kernel
theorem dX4_blinks_47 : decode cX4_blinks 47 = .ok (.iload_n 2, 1) := by decide +kernel
theorem dX4_blinks_48 : decode cX4_blinks 48 = .ok (.iconst 2, 1) := by decide +kernel
theorem dX4_blinks_49 : decode cX4_blinks 49 = .ok (.if_icmp .ge 7, 3) := by decide +kernel
theorem dX4_blinks_52 : decode cX4_blinks 52 = .ok (.iconst 1, 1) := by decide +kernel
theorem dX4_blinks_53 : decode cX4_blinks 53 = .ok (.goto 4, 3) := by decide +kernel
theorem dX4_blinks_56 : decode cX4_blinks 56 = .ok (.iconst 0, 1) := by decide +kernel
theorem dX4_blinks_57 : decode cX4_blinks 57 = .ok (.ireturn, 1) := by decide +kernel
theorem dX4_blinks_58 : decode cX4_blinks 58 = .ok (.iload_n 2, 1) := by decide +kernel
theorem dX4_blinks_59 : decode cX4_blinks 59 = .ok (.ifCond .eq 14, 3) := by decide +kernel
theorem dX4_blinks_62 : decode cX4_blinks 62 = .ok (.iload_n 1, 1) := by decide +kernel
theorem dX4_blinks_63 : decode cX4_blinks 63 = .ok (.bipush 12, 2) := by decide +kernel
theorem dX4_blinks_65 : decode cX4_blinks 65 = .ok (.irem, 1) := by decide +kernel
theorem dX4_blinks_66 : decode cX4_blinks 66 = .ok (.aload_n 0, 1) := by decide +kernel
theorem dX4_blinks_67 : decode cX4_blinks 67 = .ok (.getfield 18, 3) := by decide +kernel
theorem dX4_blinks_70 : decode cX4_blinks 70 = .ok (.if_icmp .ne 7, 3) := by decide +kernel
theorem dX4_blinks_73 : decode cX4_blinks 73 = .ok (.iconst 1, 1) := by decide +kernel
theorem dX4_blinks_74 : decode cX4_blinks 74 = .ok (.goto 4, 3) := by decide +kernel
theorem dX4_blinks_77 : decode cX4_blinks 77 = .ok (.iconst 0, 1) := by decide +kernel
theorem dX4_blinks_78 : decode cX4_blinks 78 = .ok (.ireturn, 1) := by decide +kernel
theorem dX4_blinks_79 : decode cX4_blinks 79 = .ok (.aload_n 0, 1) := by decide +kernel
theorem dX4_blinks_80 : decode cX4_blinks 80 = .ok (.iload_n 1, 1) := by decide +kernel
theorem dX4_blinks_81 : decode cX4_blinks 81 = .ok (.iload_n 2, 1) := by decide +kernel
theorem dX4_blinks_82 : decode cX4_blinks 82 = .ok (.invokevirtual 24, 3) := by decide +kernel
theorem dX4_blinks_85 : decode cX4_blinks 85 = .ok (.ifCond .eq 16, 3) := by decide +kernel
theorem dX4_blinks_88 : decode cX4_blinks 88 = .ok (.aload_n 0, 1) := by decide +kernel
theorem dX4_blinks_89 : decode cX4_blinks 89 = .ok (.getfield 18, 3) := by decide +kernel
theorem dX4_blinks_92 : decode cX4_blinks 92 = .ok (.bipush 6, 2) := by decide +kernel
theorem dX4_blinks_94 : decode cX4_blinks 94 = .ok (.if_icmp .le 7, 3) := by decide +kernel
theorem dX4_blinks_97 : decode cX4_blinks 97 = .ok (.iconst 1, 1) := by decide +kernel
theorem dX4_blinks_98 : decode cX4_blinks 98 = .ok (.goto 4, 3) := by decide +kernel
theorem dX4_blinks_101 : decode cX4_blinks 101 = .ok (.iconst 0, 1) := by decide +kernel
theorem dX4_blinks_102 : decode cX4_blinks 102 = .ok (.ireturn, 1) := by decide +kernel
theorem dX4_blinks_103 : decode cX4_blinks 103 = .ok (.iload_n 2, 1) := by decide +kernel
theorem dX4_blinks_104 : decode cX4_blinks 104 = .ok (.ifCond .eq 17, 3) := by decide +kernel
theorem dX4_blinks_107 : decode cX4_blinks 107 = .ok (.iload_n 1, 1) := by decide +kernel
theorem dX4_blinks_108 : decode cX4_blinks 108 = .ok (.bipush 7, 2) := by decide +kernel
theorem dX4_blinks_110 : decode cX4_blinks 110 = .ok (.irem, 1) := by decide +kernel
theorem dX4_blinks_111 : decode cX4_blinks 111 = .ok (.aload_n 0, 1) := by decide +kernel
theorem dX4_blinks_112 : decode cX4_blinks 112 = .ok (.getfield 18, 3) := by decide +kernel
theorem dX4_blinks_115 : decode cX4_blinks 115 = .ok (.bipush 7, 2) := by decide +kernel
theorem dX4_blinks_117 : decode cX4_blinks 117 = .ok (.irem, 1) := by decide +kernel
theorem dX4_blinks_118 : decode cX4_blinks 118 = .ok (.if_icmp .ne 7, 3) := by decide +kernel
theorem dX4_blinks_121 : decode cX4_blinks 121 = .ok (.iconst 1, 1) := by decide +kernel
theorem dX4_blinks_122 : decode cX4_blinks 122 = .ok (.goto 4, 3) := by decide +kernel
theorem dX4_blinks_125 : decode cX4_blinks 125 = .ok (.iconst 0, 1) := by decide +kernel
theorem dX4_blinks_126 : decode cX4_blinks 126 = .ok (.ireturn, 1) := by decide +kernel
theorem dX4_blinks_127 : decode cX4_blinks 127 = .ok (.iload_n 2, 1) := by decide +kernel
theorem dX4_blinks_128 : decode cX4_blinks 128 = .ok (.ifCond .ne 7, 3) := by decide +kernel
theorem dX4_blinks_131 : decode cX4_blinks 131 = .ok (.iconst 1, 1) := by decide +kernel
theorem dX4_blinks_132 : decode cX4_blinks 132 = .ok (.goto 4, 3) := by decide +kernel
theorem dX4_blinks_135 : decode cX4_blinks 135 = .ok (.iconst 0, 1) := by decide +kernel
theorem dX4_blinks_136 : decode cX4_blinks 136 = .ok (.ireturn, 1) := by decide +kernel
theorem dX4_deafBlinks_0 : decode cX4_deafBlinks 0 = .ok (.iload_n 2, 1) := by decide +kernel
theorem dX4_deafBlinks_1 : decode cX4_deafBlinks 1 = .ok (.ifCond .ne 19, 3) := by decide +kernel
theorem dX4_deafBlinks_4 : decode cX4_deafBlinks 4 = .ok (.iload_n 1, 1) := by decide +kernel
theorem dX4_deafBlinks_5 : decode cX4_deafBlinks 5 = .ok (.iconst 3, 1) := by decide +kernel
theorem dX4_deafBlinks_6 : decode cX4_deafBlinks 6 = .ok (.irem, 1) := by decide +kernel
theorem dX4_deafBlinks_7 : decode cX4_deafBlinks 7 = .ok (.aload_n 0, 1) := by decide +kernel
theorem dX4_deafBlinks_8 : decode cX4_deafBlinks 8 = .ok (.getfield 18, 3) := by decide +kernel
theorem dX4_deafBlinks_11 : decode cX4_deafBlinks 11 = .ok (.iconst 3, 1) := by decide +kernel
theorem dX4_deafBlinks_12 : decode cX4_deafBlinks 12 = .ok (.irem, 1) := by decide +kernel
theorem dX4_deafBlinks_13 : decode cX4_deafBlinks 13 = .ok (.if_icmp .eq 7, 3) := by decide +kernel
theorem dX4_deafBlinks_16 : decode cX4_deafBlinks 16 = .ok (.iconst 1, 1) := by decide +kernel
theorem dX4_deafBlinks_17 : decode cX4_deafBlinks 17 = .ok (.goto 4, 3) := by decide +kernel
theorem dX4_deafBlinks_20 : decode cX4_deafBlinks 20 = .ok (.iconst 0, 1) := by decide +kernel
theorem dX4_deafBlinks_21 : decode cX4_deafBlinks 21 = .ok (.ireturn, 1) := by decide +kernel
theorem dX4_tries_0 : decode cX4_tries 0 = .ok (.aload_n 0, 1) := by decide +kernel
theorem dX4_tries_1 : decode cX4_tries 1 = .ok (.getfield 15, 3) := by decide +kernel
theorem dX4_tries_4 : decode cX4_tries 4 = .ok (.tableswitch 60 1 6 #[40, 60, 45, 49, 56, 58], 40) := by decide +kernel
theorem dX4_tries_44 : decode cX4_tries 44 = .ok (.aload_n 0, 1) := by decide +kernel
theorem dX4_tries_45 : decode cX4_tries 45 = .ok (.invokevirtual 28, 3) := by decide +kernel
theorem dX4_tries_48 : decode cX4_tries 48 = .ok (.ireturn, 1) := by decide +kernel
theorem dX4_tries_49 : decode cX4_tries 49 = .ok (.iconst 1, 1) := by decide +kernel
theorem dX4_tries_50 : decode cX4_tries 50 = .ok (.iload_n 1, 1) := by decide +kernel
theorem dX4_tries_51 : decode cX4_tries 51 = .ok (.iadd, 1) := by decide +kernel
theorem dX4_tries_52 : decode cX4_tries 52 = .ok (.ireturn, 1) := by decide +kernel
theorem dX4_tries_53 : decode cX4_tries 53 = .ok (.iconst 2, 1) := by decide +kernel
theorem dX4_tries_54 : decode cX4_tries 54 = .ok (.aload_n 0, 1) := by decide +kernel
theorem dX4_tries_55 : decode cX4_tries 55 = .ok (.invokevirtual 28, 3) := by decide +kernel
theorem dX4_tries_58 : decode cX4_tries 58 = .ok (.imul, 1) := by decide +kernel
theorem dX4_tries_59 : decode cX4_tries 59 = .ok (.ireturn, 1) := by decide +kernel
theorem dX4_tries_60 : decode cX4_tries 60 = .ok (.iconst 4, 1) := by decide +kernel
theorem dX4_tries_61 : decode cX4_tries 61 = .ok (.ireturn, 1) := by decide +kernel
theorem dX4_tries_62 : decode cX4_tries 62 = .ok (.iconst 0, 1) := by decide +kernel
theorem dX4_tries_63 : decode cX4_tries 63 = .ok (.ireturn, 1) := by decide +kernel
theorem dX4_tries_64 : decode cX4_tries 64 = .ok (.iconst 1, 1) := by decide +kernel
theorem dX4_tries_65 : decode cX4_tries 65 = .ok (.ireturn, 1) := by decide +kernel
theorem dX4_bankerTries_0 : decode cX4_bankerTries 0 = .ok (.iconst 2, 1) := by decide +kernel
theorem dX4_bankerTries_1 : decode cX4_bankerTries 1 = .ok (.aload_n 0, 1) := by decide +kernel
theorem dX4_bankerTries_2 : decode cX4_bankerTries 2 = .ok (.getfield 18, 3) := by decide +kernel
theorem dX4_bankerTries_5 : decode cX4_bankerTries 5 = .ok (.iconst 5, 1) := by decide +kernel
theorem dX4_bankerTries_6 : decode cX4_bankerTries 6 = .ok (.idiv, 1) := by decide +kernel
theorem dX4_bankerTries_7 : decode cX4_bankerTries 7 = .ok (.iadd, 1) := by decide +kernel
theorem dX4_bankerTries_8 : decode cX4_bankerTries 8 = .ok (.ireturn, 1) := by decide +kernel
theorem dX5_init_0 : decode cX5_init 0 = .ok (.aload_n 0, 1) := by decide +kernel
theorem dX5_init_1 : decode cX5_init 1 = .ok (.invokespecial 3, 3) := by decide +kernel
theorem dX5_init_4 : decode cX5_init 4 = .ok (.aload_n 0, 1) := by decide +kernel
theorem dX5_init_5 : decode cX5_init 5 = .ok (.new 9, 3) := by decide +kernel
theorem dX5_init_8 : decode cX5_init 8 = .ok (.dup, 1) := by decide +kernel
theorem dX5_init_9 : decode cX5_init 9 = .ok (.bipush 60, 2) := by decide +kernel
theorem dX5_init_11 : decode cX5_init 11 = .ok (.invokespecial 11, 3) := by decide +kernel
theorem dX5_init_14 : decode cX5_init 14 = .ok (.putfield 14, 3) := by decide +kernel
theorem dX5_init_17 : decode cX5_init 17 = .ok (.aload_n 0, 1) := by decide +kernel
theorem dX5_init_18 : decode cX5_init 18 = .ok (.aload_n 1, 1) := by decide +kernel
theorem dX5_init_19 : decode cX5_init 19 = .ok (.putfield 20, 3) := by decide +kernel
theorem dX5_init_22 : decode cX5_init 22 = .ok (.return_, 1) := by decide +kernel
theorem dX5_reads_0 : decode cX5_reads 0 = .ok (.aload_n 0, 1) := by decide +kernel
theorem dX5_reads_1 : decode cX5_reads 1 = .ok (.iload_n 1, 1) := by decide +kernel
theorem dX5_reads_2 : decode cX5_reads 2 = .ok (.putfield 23, 3) := by decide +kernel
theorem dX5_reads_5 : decode cX5_reads 5 = .ok (.aload_n 0, 1) := by decide +kernel
theorem dX5_reads_6 : decode cX5_reads 6 = .ok (.iconst 0, 1) := by decide +kernel
theorem dX5_reads_7 : decode cX5_reads 7 = .ok (.putfield 27, 3) := by decide +kernel
theorem dX5_reads_10 : decode cX5_reads 10 = .ok (.aload_n 0, 1) := by decide +kernel
theorem dX5_reads_11 : decode cX5_reads 11 = .ok (.getfield 14, 3) := by decide +kernel
theorem dX5_reads_14 : decode cX5_reads 14 = .ok (.invokevirtual 30, 3) := by decide +kernel
theorem dX5_reads_17 : decode cX5_reads 17 = .ok (.aload_n 0, 1) := by decide +kernel
theorem dX5_reads_18 : decode cX5_reads 18 = .ok (.iconst 0, 1) := by decide +kernel
theorem dX5_reads_19 : decode cX5_reads 19 = .ok (.invokevirtual 33, 3) := by decide +kernel
theorem dX5_reads_22 : decode cX5_reads 22 = .ok (.ifCond .eq 21, 3) := by decide +kernel
theorem dX5_reads_25 : decode cX5_reads 25 = .ok (.aload_n 0, 1) := by decide +kernel
theorem dX5_reads_26 : decode cX5_reads 26 = .ok (.getfield 27, 3) := by decide +kernel
theorem dX5_reads_29 : decode cX5_reads 29 = .ok (.aload_n 0, 1) := by decide +kernel
theorem dX5_reads_30 : decode cX5_reads 30 = .ok (.getfield 20, 3) := by decide +kernel
theorem dX5_reads_33 : decode cX5_reads 33 = .ok (.invokevirtual 37, 3) := by decide +kernel
theorem dX5_reads_36 : decode cX5_reads 36 = .ok (.if_icmp .ne 7, 3) := by decide +kernel
theorem dX5_reads_39 : decode cX5_reads 39 = .ok (.iconst 1, 1) := by decide +kernel
theorem dX5_reads_40 : decode cX5_reads 40 = .ok (.goto 4, 3) := by decide +kernel
theorem dX5_reads_43 : decode cX5_reads 43 = .ok (.iconst 0, 1) := by decide +kernel
theorem dX5_reads_44 : decode cX5_reads 44 = .ok (.ireturn, 1) := by decide +kernel
theorem dX5_fault_0 : decode cX5_fault 0 = .ok (.aload_n 0, 1) := by decide +kernel
theorem dX5_fault_1 : decode cX5_fault 1 = .ok (.getfield 27, 3) := by decide +kernel
theorem dX5_fault_4 : decode cX5_fault 4 = .ok (.ireturn, 1) := by decide +kernel
theorem dX5_next_0 : decode cX5_next 0 = .ok (.aload_n 0, 1) := by decide +kernel
theorem dX5_next_1 : decode cX5_next 1 = .ok (.getfield 27, 3) := by decide +kernel
theorem dX5_next_4 : decode cX5_next 4 = .ok (.aload_n 0, 1) := by decide +kernel
theorem dX5_next_5 : decode cX5_next 5 = .ok (.getfield 20, 3) := by decide +kernel
theorem dX5_next_8 : decode cX5_next 8 = .ok (.invokevirtual 37, 3) := by decide +kernel
theorem dX5_next_11 : decode cX5_next 11 = .ok (.if_icmp .ge 17, 3) := by decide +kernel
theorem dX5_next_14 : decode cX5_next 14 = .ok (.aload_n 0, 1) := by decide +kernel
theorem dX5_next_15 : decode cX5_next 15 = .ok (.getfield 20, 3) := by decide +kernel
theorem dX5_next_18 : decode cX5_next 18 = .ok (.aload_n 0, 1) := by decide +kernel
theorem dX5_next_19 : decode cX5_next 19 = .ok (.getfield 27, 3) := by decide +kernel
theorem dX5_next_22 : decode cX5_next 22 = .ok (.invokevirtual 41, 3) := by decide +kernel
theorem dX5_next_25 : decode cX5_next 25 = .ok (.goto 4, 3) := by decide +kernel
theorem dX5_next_28 : decode cX5_next 28 = .ok (.iconst (-1), 1) := by decide +kernel
theorem dX5_next_29 : decode cX5_next 29 = .ok (.ireturn, 1) := by decide +kernel
theorem dX5_takes_0 : decode cX5_takes 0 = .ok (.aload_n 0, 1) := by decide +kernel
theorem dX5_takes_1 : decode cX5_takes 1 = .ok (.invokevirtual 45, 3) := by decide +kernel
theorem dX5_takes_4 : decode cX5_takes 4 = .ok (.iload_n 1, 1) := by decide +kernel
theorem dX5_takes_5 : decode cX5_takes 5 = .ok (.if_icmp .eq 5, 3) := by decide +kernel
theorem dX5_takes_8 : decode cX5_takes 8 = .ok (.iconst 0, 1) := by decide +kernel
theorem dX5_takes_9 : decode cX5_takes 9 = .ok (.ireturn, 1) := by decide +kernel
theorem dX5_takes_10 : decode cX5_takes 10 = .ok (.aload_n 0, 1) := by decide +kernel
theorem dX5_takes_11 : decode cX5_takes 11 = .ok (.dup, 1) := by decide +kernel
theorem dX5_takes_12 : decode cX5_takes 12 = .ok (.getfield 27, 3) := by decide +kernel
theorem dX5_takes_15 : decode cX5_takes 15 = .ok (.iconst 1, 1) := by decide +kernel
theorem dX5_takes_16 : decode cX5_takes 16 = .ok (.iadd, 1) := by decide +kernel
theorem dX5_takes_17 : decode cX5_takes 17 = .ok (.putfield 27, 3) := by decide +kernel
theorem dX5_takes_20 : decode cX5_takes 20 = .ok (.iconst 1, 1) := by decide +kernel
theorem dX5_takes_21 : decode cX5_takes 21 = .ok (.ireturn, 1) := by decide +kernel
theorem dX5_readsAny_0 : decode cX5_readsAny 0 = .ok (.aload_n 0, 1) := by decide +kernel
theorem dX5_readsAny_1 : decode cX5_readsAny 1 = .ok (.iload_n 1, 1) := by decide +kernel
theorem dX5_readsAny_2 : decode cX5_readsAny 2 = .ok (.invokevirtual 48, 3) := by decide +kernel
theorem dX5_readsAny_5 : decode cX5_readsAny 5 = .ok (.istore_n 2, 1) := by decide +kernel
theorem dX5_readsAny_6 : decode cX5_readsAny 6 = .ok (.iconst 0, 1) := by decide +kernel
theorem dX5_readsAny_7 : decode cX5_readsAny 7 = .ok (.istore_n 3, 1) := by decide +kernel
theorem dX5_readsAny_8 : decode cX5_readsAny 8 = .ok (.iload_n 3, 1) := by decide +kernel
theorem dX5_readsAny_9 : decode cX5_readsAny 9 = .ok (.bipush 60, 2) := by decide +kernel
theorem dX5_readsAny_11 : decode cX5_readsAny 11 = .ok (.if_icmp .ge 38, 3) := by decide +kernel
theorem dX5_readsAny_14 : decode cX5_readsAny 14 = .ok (.iload_n 2, 1) := by decide +kernel
theorem dX5_readsAny_15 : decode cX5_readsAny 15 = .ok (.ifCond .eq 34, 3) := by decide +kernel
theorem dX5_readsAny_18 : decode cX5_readsAny 18 = .ok (.aload_n 0, 1) := by decide +kernel
theorem dX5_readsAny_19 : decode cX5_readsAny 19 = .ok (.bipush 124, 2) := by decide +kernel
theorem dX5_readsAny_21 : decode cX5_readsAny 21 = .ok (.invokevirtual 51, 3) := by decide +kernel
theorem dX5_readsAny_24 : decode cX5_readsAny 24 = .ok (.ifCond .eq 25, 3) := by decide +kernel
theorem dX5_readsAny_27 : decode cX5_readsAny 27 = .ok (.aload_n 0, 1) := by decide +kernel
theorem dX5_readsAny_28 : decode cX5_readsAny 28 = .ok (.iload_n 1, 1) := by decide +kernel
theorem dX5_readsAny_29 : decode cX5_readsAny 29 = .ok (.invokevirtual 48, 3) := by decide +kernel
theorem dX5_readsAny_32 : decode cX5_readsAny 32 = .ok (.istore_n 2, 1) := by decide +kernel
theorem dX5_readsAny_33 : decode cX5_readsAny 33 = .ok (.aload_n 0, 1) := by decide +kernel
theorem dX5_readsAny_34 : decode cX5_readsAny 34 = .ok (.getfield 14, 3) := by decide +kernel
theorem dX5_readsAny_37 : decode cX5_readsAny 37 = .ok (.bipush (-124), 2) := by decide +kernel
theorem dX5_readsAny_39 : decode cX5_readsAny 39 = .ok (.invokevirtual 54, 3) := by decide +kernel
theorem dX5_readsAny_42 : decode cX5_readsAny 42 = .ok (.pop, 1) := by decide +kernel
theorem dX5_readsAny_43 : decode cX5_readsAny 43 = .ok (.iinc 3 1, 3) := by decide +kernel
theorem dX5_readsAny_46 : decode cX5_readsAny 46 = .ok (.goto (-38), 3) := by decide +kernel
theorem dX5_readsAny_49 : decode cX5_readsAny 49 = .ok (.iload_n 2, 1) := by decide +kernel
theorem dX5_readsAny_50 : decode cX5_readsAny 50 = .ok (.ireturn, 1) := by decide +kernel
theorem dX5_readsAll_0 : decode cX5_readsAll 0 = .ok (.aload_n 0, 1) := by decide +kernel
theorem dX5_readsAll_1 : decode cX5_readsAll 1 = .ok (.iload_n 1, 1) := by decide +kernel
theorem dX5_readsAll_2 : decode cX5_readsAll 2 = .ok (.invokevirtual 57, 3) := by decide +kernel
theorem dX5_readsAll_5 : decode cX5_readsAll 5 = .ok (.istore_n 2, 1) := by decide +kernel
theorem dX5_readsAll_6 : decode cX5_readsAll 6 = .ok (.iconst 0, 1) := by decide +kernel
theorem dX5_readsAll_7 : decode cX5_readsAll 7 = .ok (.istore_n 3, 1) := by decide +kernel
theorem dX5_readsAll_8 : decode cX5_readsAll 8 = .ok (.iload_n 3, 1) := by decide +kernel
theorem dX5_readsAll_9 : decode cX5_readsAll 9 = .ok (.bipush 60, 2) := by decide +kernel
theorem dX5_readsAll_11 : decode cX5_readsAll 11 = .ok (.if_icmp .ge 38, 3) := by decide +kernel
theorem dX5_readsAll_14 : decode cX5_readsAll 14 = .ok (.iload_n 2, 1) := by decide +kernel
theorem dX5_readsAll_15 : decode cX5_readsAll 15 = .ok (.ifCond .eq 34, 3) := by decide +kernel
theorem dX5_readsAll_18 : decode cX5_readsAll 18 = .ok (.aload_n 0, 1) := by decide +kernel
theorem dX5_readsAll_19 : decode cX5_readsAll 19 = .ok (.bipush 38, 2) := by decide +kernel
theorem dX5_readsAll_21 : decode cX5_readsAll 21 = .ok (.invokevirtual 51, 3) := by decide +kernel
theorem dX5_readsAll_24 : decode cX5_readsAll 24 = .ok (.ifCond .eq 25, 3) := by decide +kernel
theorem dX5_readsAll_27 : decode cX5_readsAll 27 = .ok (.aload_n 0, 1) := by decide +kernel
theorem dX5_readsAll_28 : decode cX5_readsAll 28 = .ok (.iload_n 1, 1) := by decide +kernel
theorem dX5_readsAll_29 : decode cX5_readsAll 29 = .ok (.invokevirtual 57, 3) := by decide +kernel
theorem dX5_readsAll_32 : decode cX5_readsAll 32 = .ok (.istore_n 2, 1) := by decide +kernel
theorem dX5_readsAll_33 : decode cX5_readsAll 33 = .ok (.aload_n 0, 1) := by decide +kernel
theorem dX5_readsAll_34 : decode cX5_readsAll 34 = .ok (.getfield 14, 3) := by decide +kernel
theorem dX5_readsAll_37 : decode cX5_readsAll 37 = .ok (.bipush (-38), 2) := by decide +kernel
theorem dX5_readsAll_39 : decode cX5_readsAll 39 = .ok (.invokevirtual 54, 3) := by decide +kernel
theorem dX5_readsAll_42 : decode cX5_readsAll 42 = .ok (.pop, 1) := by decide +kernel
theorem dX5_readsAll_43 : decode cX5_readsAll 43 = .ok (.iinc 3 1, 3) := by decide +kernel
theorem dX5_readsAll_46 : decode cX5_readsAll 46 = .ok (.goto (-38), 3) := by decide +kernel
theorem dX5_readsAll_49 : decode cX5_readsAll 49 = .ok (.iload_n 2, 1) := by decide +kernel
theorem dX5_readsAll_50 : decode cX5_readsAll 50 = .ok (.ireturn, 1) := by decide +kernel
theorem dX5_readsComparison_0 : decode cX5_readsComparison 0 = .ok (.aload_n 0, 1) := by decide +kernel
theorem dX5_readsComparison_1 : decode cX5_readsComparison 1 = .ok (.iload_n 1, 1) := by decide +kernel
theorem dX5_readsComparison_2 : decode cX5_readsComparison 2 = .ok (.invokevirtual 60, 3) := by decide +kernel
theorem dX5_readsComparison_5 : decode cX5_readsComparison 5 = .ok (.ifCond .ne 5, 3) := by decide +kernel
theorem dX5_readsComparison_8 : decode cX5_readsComparison 8 = .ok (.iconst 0, 1) := by decide +kernel
theorem dX5_readsComparison_9 : decode cX5_readsComparison 9 = .ok (.ireturn, 1) := by decide +kernel
theorem dX5_readsComparison_10 : decode cX5_readsComparison 10 = .ok (.aload_n 0, 1) := by decide +kernel
theorem dX5_readsComparison_11 : decode cX5_readsComparison 11 = .ok (.invokevirtual 45, 3) := by decide +kernel
theorem dX5_readsComparison_14 : decode cX5_readsComparison 14 = .ok (.istore_n 2, 1) := by decide +kernel
theorem dX5_readsComparison_15 : decode cX5_readsComparison 15 = .ok (.iload_n 2, 1) := by decide +kernel
theorem dX5_readsComparison_16 : decode cX5_readsComparison 16 = .ok (.bipush 60, 2) := by decide +kernel
theorem dX5_readsComparison_18 : decode cX5_readsComparison 18 = .ok (.if_icmp .eq 17, 3) := by decide +kernel
theorem dX5_readsComparison_21 : decode cX5_readsComparison 21 = .ok (.iload_n 2, 1) := by decide +kernel
theorem dX5_readsComparison_22 : decode cX5_readsComparison 22 = .ok (.bipush 61, 2) := by decide +kernel
theorem dX5_readsComparison_24 : decode cX5_readsComparison 24 = .ok (.if_icmp .eq 11, 3) := by decide +kernel
theorem dX5_readsComparison_27 : decode cX5_readsComparison 27 = .ok (.iload_n 2, 1) := by decide +kernel
theorem dX5_readsComparison_28 : decode cX5_readsComparison 28 = .ok (.bipush 62, 2) := by decide +kernel
theorem dX5_readsComparison_30 : decode cX5_readsComparison 30 = .ok (.if_icmp .eq 5, 3) := by decide +kernel
theorem dX5_readsComparison_33 : decode cX5_readsComparison 33 = .ok (.iconst 1, 1) := by decide +kernel
theorem dX5_readsComparison_34 : decode cX5_readsComparison 34 = .ok (.ireturn, 1) := by decide +kernel
theorem dX5_readsComparison_35 : decode cX5_readsComparison 35 = .ok (.aload_n 0, 1) := by decide +kernel
theorem dX5_readsComparison_36 : decode cX5_readsComparison 36 = .ok (.dup, 1) := by decide +kernel
theorem dX5_readsComparison_37 : decode cX5_readsComparison 37 = .ok (.getfield 27, 3) := by decide +kernel
theorem dX5_readsComparison_40 : decode cX5_readsComparison 40 = .ok (.iconst 1, 1) := by decide +kernel
theorem dX5_readsComparison_41 : decode cX5_readsComparison 41 = .ok (.iadd, 1) := by decide +kernel
theorem dX5_readsComparison_42 : decode cX5_readsComparison 42 = .ok (.putfield 27, 3) := by decide +kernel
theorem dX5_readsComparison_45 : decode cX5_readsComparison 45 = .ok (.aload_n 0, 1) := by decide +kernel
theorem dX5_readsComparison_46 : decode cX5_readsComparison 46 = .ok (.iload_n 1, 1) := by decide +kernel
theorem dX5_readsComparison_47 : decode cX5_readsComparison 47 = .ok (.invokevirtual 60, 3) := by decide +kernel
theorem dX5_readsComparison_50 : decode cX5_readsComparison 50 = .ok (.ifCond .ne 5, 3) := by decide +kernel
theorem dX5_readsComparison_53 : decode cX5_readsComparison 53 = .ok (.iconst 0, 1) := by decide +kernel
theorem dX5_readsComparison_54 : decode cX5_readsComparison 54 = .ok (.ireturn, 1) := by decide +kernel
theorem dX5_readsComparison_55 : decode cX5_readsComparison 55 = .ok (.aload_n 0, 1) := by decide +kernel
theorem dX5_readsComparison_56 : decode cX5_readsComparison 56 = .ok (.getfield 14, 3) := by decide +kernel
theorem dX5_readsComparison_59 : decode cX5_readsComparison 59 = .ok (.iload_n 2, 1) := by decide +kernel
theorem dX5_readsComparison_60 : decode cX5_readsComparison 60 = .ok (.ineg, 1) := by decide +kernel
theorem dX5_readsComparison_61 : decode cX5_readsComparison 61 = .ok (.invokevirtual 54, 3) := by decide +kernel
theorem dX5_readsComparison_64 : decode cX5_readsComparison 64 = .ok (.pop, 1) := by decide +kernel
theorem dX5_readsComparison_65 : decode cX5_readsComparison 65 = .ok (.iconst 1, 1) := by decide +kernel
theorem dX5_readsComparison_66 : decode cX5_readsComparison 66 = .ok (.ireturn, 1) := by decide +kernel
theorem dX5_readsSum_0 : decode cX5_readsSum 0 = .ok (.aload_n 0, 1) := by decide +kernel
theorem dX5_readsSum_1 : decode cX5_readsSum 1 = .ok (.iload_n 1, 1) := by decide +kernel
theorem dX5_readsSum_2 : decode cX5_readsSum 2 = .ok (.invokevirtual 63, 3) := by decide +kernel
theorem dX5_readsSum_5 : decode cX5_readsSum 5 = .ok (.istore_n 2, 1) := by decide +kernel
theorem dX5_readsSum_6 : decode cX5_readsSum 6 = .ok (.iconst 0, 1) := by decide +kernel
theorem dX5_readsSum_7 : decode cX5_readsSum 7 = .ok (.istore_n 3, 1) := by decide +kernel
theorem dX5_readsSum_8 : decode cX5_readsSum 8 = .ok (.iload_n 3, 1) := by decide +kernel
theorem dX5_readsSum_9 : decode cX5_readsSum 9 = .ok (.bipush 60, 2) := by decide +kernel
theorem dX5_readsSum_11 : decode cX5_readsSum 11 = .ok (.if_icmp .ge 62, 3) := by decide +kernel
theorem dX5_readsSum_14 : decode cX5_readsSum 14 = .ok (.iload_n 2, 1) := by decide +kernel
theorem dX5_readsSum_15 : decode cX5_readsSum 15 = .ok (.ifCond .eq 58, 3) := by decide +kernel
theorem dX5_readsSum_18 : decode cX5_readsSum 18 = .ok (.aload_n 0, 1) := by decide +kernel
theorem dX5_readsSum_19 : decode cX5_readsSum 19 = .ok (.invokevirtual 45, 3) := by decide +kernel
theorem dX5_readsSum_22 : decode cX5_readsSum 22 = .ok (.istore 4, 2) := by decide +kernel
theorem dX5_readsSum_24 : decode cX5_readsSum 24 = .ok (.iload 4, 2) := by decide +kernel
theorem dX5_readsSum_26 : decode cX5_readsSum 26 = .ok (.bipush 43, 2) := by decide +kernel
theorem dX5_readsSum_28 : decode cX5_readsSum 28 = .ok (.if_icmp .eq 12, 3) := by decide +kernel
theorem dX5_readsSum_31 : decode cX5_readsSum 31 = .ok (.iload 4, 2) := by decide +kernel
theorem dX5_readsSum_33 : decode cX5_readsSum 33 = .ok (.bipush 45, 2) := by decide +kernel
theorem dX5_readsSum_35 : decode cX5_readsSum 35 = .ok (.if_icmp .eq 5, 3) := by decide +kernel
theorem dX5_readsSum_38 : decode cX5_readsSum 38 = .ok (.iconst 1, 1) := by decide +kernel
theorem dX5_readsSum_39 : decode cX5_readsSum 39 = .ok (.ireturn, 1) := by decide +kernel
theorem dX5_readsSum_40 : decode cX5_readsSum 40 = .ok (.aload_n 0, 1) := by decide +kernel
theorem dX5_readsSum_41 : decode cX5_readsSum 41 = .ok (.dup, 1) := by decide +kernel
theorem dX5_readsSum_42 : decode cX5_readsSum 42 = .ok (.getfield 27, 3) := by decide +kernel
theorem dX5_readsSum_45 : decode cX5_readsSum 45 = .ok (.iconst 1, 1) := by decide +kernel
theorem dX5_readsSum_46 : decode cX5_readsSum 46 = .ok (.iadd, 1) := by decide +kernel
theorem dX5_readsSum_47 : decode cX5_readsSum 47 = .ok (.putfield 27, 3) := by decide +kernel
theorem dX5_readsSum_50 : decode cX5_readsSum 50 = .ok (.aload_n 0, 1) := by decide +kernel
theorem dX5_readsSum_51 : decode cX5_readsSum 51 = .ok (.iload_n 1, 1) := by decide +kernel
theorem dX5_readsSum_52 : decode cX5_readsSum 52 = .ok (.invokevirtual 63, 3) := by decide +kernel
theorem dX5_readsSum_55 : decode cX5_readsSum 55 = .ok (.istore_n 2, 1) := by decide +kernel
theorem dX5_readsSum_56 : decode cX5_readsSum 56 = .ok (.aload_n 0, 1) := by decide +kernel
theorem dX5_readsSum_57 : decode cX5_readsSum 57 = .ok (.getfield 14, 3) := by decide +kernel
theorem dX5_readsSum_60 : decode cX5_readsSum 60 = .ok (.iload 4, 2) := by decide +kernel
theorem dX5_readsSum_62 : decode cX5_readsSum 62 = .ok (.ineg, 1) := by decide +kernel
theorem dX5_readsSum_63 : decode cX5_readsSum 63 = .ok (.invokevirtual 54, 3) := by decide +kernel
theorem dX5_readsSum_66 : decode cX5_readsSum 66 = .ok (.pop, 1) := by decide +kernel
theorem dX5_readsSum_67 : decode cX5_readsSum 67 = .ok (.iinc 3 1, 3) := by decide +kernel
theorem dX5_readsSum_70 : decode cX5_readsSum 70 = .ok (.goto (-62), 3) := by decide +kernel
theorem dX5_readsSum_73 : decode cX5_readsSum 73 = .ok (.iload_n 2, 1) := by decide +kernel
theorem dX5_readsSum_74 : decode cX5_readsSum 74 = .ok (.ireturn, 1) := by decide +kernel
theorem dX5_readsProduct_0 : decode cX5_readsProduct 0 = .ok (.aload_n 0, 1) := by decide +kernel
theorem dX5_readsProduct_1 : decode cX5_readsProduct 1 = .ok (.iload_n 1, 1) := by decide +kernel
theorem dX5_readsProduct_2 : decode cX5_readsProduct 2 = .ok (.invokevirtual 66, 3) := by decide +kernel
theorem dX5_readsProduct_5 : decode cX5_readsProduct 5 = .ok (.istore_n 2, 1) := by decide +kernel
theorem dX5_readsProduct_6 : decode cX5_readsProduct 6 = .ok (.iconst 0, 1) := by decide +kernel
theorem dX5_readsProduct_7 : decode cX5_readsProduct 7 = .ok (.istore_n 3, 1) := by decide +kernel
theorem dX5_readsProduct_8 : decode cX5_readsProduct 8 = .ok (.iload_n 3, 1) := by decide +kernel
theorem dX5_readsProduct_9 : decode cX5_readsProduct 9 = .ok (.bipush 60, 2) := by decide +kernel
theorem dX5_readsProduct_11 : decode cX5_readsProduct 11 = .ok (.if_icmp .ge 69, 3) := by decide +kernel
theorem dX5_readsProduct_14 : decode cX5_readsProduct 14 = .ok (.iload_n 2, 1) := by decide +kernel
theorem dX5_readsProduct_15 : decode cX5_readsProduct 15 = .ok (.ifCond .eq 65, 3) := by decide +kernel
theorem dX5_readsProduct_18 : decode cX5_readsProduct 18 = .ok (.aload_n 0, 1) := by decide +kernel
theorem dX5_readsProduct_19 : decode cX5_readsProduct 19 = .ok (.invokevirtual 45, 3) := by decide +kernel
theorem dX5_readsProduct_22 : decode cX5_readsProduct 22 = .ok (.istore 4, 2) := by decide +kernel
theorem dX5_readsProduct_24 : decode cX5_readsProduct 24 = .ok (.iload 4, 2) := by decide +kernel
theorem dX5_readsProduct_26 : decode cX5_readsProduct 26 = .ok (.bipush 42, 2) := by decide +kernel
theorem dX5_readsProduct_28 : decode cX5_readsProduct 28 = .ok (.if_icmp .eq 19, 3) := by decide +kernel
theorem dX5_readsProduct_31 : decode cX5_readsProduct 31 = .ok (.iload 4, 2) := by decide +kernel
theorem dX5_readsProduct_33 : decode cX5_readsProduct 33 = .ok (.bipush 47, 2) := by decide +kernel
theorem dX5_readsProduct_35 : decode cX5_readsProduct 35 = .ok (.if_icmp .eq 12, 3) := by decide +kernel
theorem dX5_readsProduct_38 : decode cX5_readsProduct 38 = .ok (.iload 4, 2) := by decide +kernel
theorem dX5_readsProduct_40 : decode cX5_readsProduct 40 = .ok (.bipush 37, 2) := by decide +kernel
theorem dX5_readsProduct_42 : decode cX5_readsProduct 42 = .ok (.if_icmp .eq 5, 3) := by decide +kernel
theorem dX5_readsProduct_45 : decode cX5_readsProduct 45 = .ok (.iconst 1, 1) := by decide +kernel
theorem dX5_readsProduct_46 : decode cX5_readsProduct 46 = .ok (.ireturn, 1) := by decide +kernel
theorem dX5_readsProduct_47 : decode cX5_readsProduct 47 = .ok (.aload_n 0, 1) := by decide +kernel
theorem dX5_readsProduct_48 : decode cX5_readsProduct 48 = .ok (.dup, 1) := by decide +kernel
theorem dX5_readsProduct_49 : decode cX5_readsProduct 49 = .ok (.getfield 27, 3) := by decide +kernel
theorem dX5_readsProduct_52 : decode cX5_readsProduct 52 = .ok (.iconst 1, 1) := by decide +kernel
theorem dX5_readsProduct_53 : decode cX5_readsProduct 53 = .ok (.iadd, 1) := by decide +kernel
theorem dX5_readsProduct_54 : decode cX5_readsProduct 54 = .ok (.putfield 27, 3) := by decide +kernel
theorem dX5_readsProduct_57 : decode cX5_readsProduct 57 = .ok (.aload_n 0, 1) := by decide +kernel
theorem dX5_readsProduct_58 : decode cX5_readsProduct 58 = .ok (.iload_n 1, 1) := by decide +kernel
theorem dX5_readsProduct_59 : decode cX5_readsProduct 59 = .ok (.invokevirtual 66, 3) := by decide +kernel
theorem dX5_readsProduct_62 : decode cX5_readsProduct 62 = .ok (.istore_n 2, 1) := by decide +kernel
theorem dX5_readsProduct_63 : decode cX5_readsProduct 63 = .ok (.aload_n 0, 1) := by decide +kernel
theorem dX5_readsProduct_64 : decode cX5_readsProduct 64 = .ok (.getfield 14, 3) := by decide +kernel
theorem dX5_readsProduct_67 : decode cX5_readsProduct 67 = .ok (.iload 4, 2) := by decide +kernel
theorem dX5_readsProduct_69 : decode cX5_readsProduct 69 = .ok (.ineg, 1) := by decide +kernel
theorem dX5_readsProduct_70 : decode cX5_readsProduct 70 = .ok (.invokevirtual 54, 3) := by decide +kernel
theorem dX5_readsProduct_73 : decode cX5_readsProduct 73 = .ok (.pop, 1) := by decide +kernel
theorem dX5_readsProduct_74 : decode cX5_readsProduct 74 = .ok (.iinc 3 1, 3) := by decide +kernel
theorem dX5_readsProduct_77 : decode cX5_readsProduct 77 = .ok (.goto (-69), 3) := by decide +kernel
theorem dX5_readsProduct_80 : decode cX5_readsProduct 80 = .ok (.iload_n 2, 1) := by decide +kernel
theorem dX5_readsProduct_81 : decode cX5_readsProduct 81 = .ok (.ireturn, 1) := by decide +kernel
theorem dX5_readsFactor_0 : decode cX5_readsFactor 0 = .ok (.aload_n 0, 1) := by decide +kernel
theorem dX5_readsFactor_1 : decode cX5_readsFactor 1 = .ok (.invokevirtual 45, 3) := by decide +kernel
theorem dX5_readsFactor_4 : decode cX5_readsFactor 4 = .ok (.istore_n 2, 1) := by decide +kernel
theorem dX5_readsFactor_5 : decode cX5_readsFactor 5 = .ok (.iload_n 2, 1) := by decide +kernel
theorem dX5_readsFactor_6 : decode cX5_readsFactor 6 = .ok (.invokestatic 69, 3) := by decide +kernel
theorem dX5_readsFactor_9 : decode cX5_readsFactor 9 = .ok (.ifCond .eq 9, 3) := by decide +kernel
theorem dX5_readsFactor_12 : decode cX5_readsFactor 12 = .ok (.aload_n 0, 1) := by decide +kernel
theorem dX5_readsFactor_13 : decode cX5_readsFactor 13 = .ok (.invokevirtual 72, 3) := by decide +kernel
theorem dX5_readsFactor_16 : decode cX5_readsFactor 16 = .ok (.iconst 1, 1) := by decide +kernel
theorem dX5_readsFactor_17 : decode cX5_readsFactor 17 = .ok (.ireturn, 1) := by decide +kernel
theorem dX5_readsFactor_18 : decode cX5_readsFactor 18 = .ok (.aload_n 0, 1) := by decide +kernel
theorem dX5_readsFactor_19 : decode cX5_readsFactor 19 = .ok (.iload_n 2, 1) := by decide +kernel
theorem dX5_readsFactor_20 : decode cX5_readsFactor 20 = .ok (.invokevirtual 75, 3) := by decide +kernel
theorem dX5_readsFactor_23 : decode cX5_readsFactor 23 = .ok (.istore_n 3, 1) := by decide +kernel
theorem dX5_readsFactor_24 : decode cX5_readsFactor 24 = .ok (.iload_n 3, 1) := by decide +kernel
theorem dX5_readsFactor_25 : decode cX5_readsFactor 25 = .ok (.ifCond .le 25, 3) := by decide +kernel
theorem dX5_readsFactor_28 : decode cX5_readsFactor 28 = .ok (.aload_n 0, 1) := by decide +kernel
theorem dX5_readsFactor_29 : decode cX5_readsFactor 29 = .ok (.dup, 1) := by decide +kernel
theorem dX5_readsFactor_30 : decode cX5_readsFactor 30 = .ok (.getfield 27, 3) := by decide +kernel
theorem dX5_readsFactor_33 : decode cX5_readsFactor 33 = .ok (.iconst 1, 1) := by decide +kernel
theorem dX5_readsFactor_34 : decode cX5_readsFactor 34 = .ok (.iadd, 1) := by decide +kernel
theorem dX5_readsFactor_35 : decode cX5_readsFactor 35 = .ok (.putfield 27, 3) := by decide +kernel
theorem dX5_readsFactor_38 : decode cX5_readsFactor 38 = .ok (.aload_n 0, 1) := by decide +kernel
theorem dX5_readsFactor_39 : decode cX5_readsFactor 39 = .ok (.getfield 14, 3) := by decide +kernel
theorem dX5_readsFactor_42 : decode cX5_readsFactor 42 = .ok (.iload_n 3, 1) := by decide +kernel
theorem dX5_readsFactor_43 : decode cX5_readsFactor 43 = .ok (.ineg, 1) := by decide +kernel
theorem dX5_readsFactor_44 : decode cX5_readsFactor 44 = .ok (.invokevirtual 54, 3) := by decide +kernel
theorem dX5_readsFactor_47 : decode cX5_readsFactor 47 = .ok (.pop, 1) := by decide +kernel
theorem dX5_readsFactor_48 : decode cX5_readsFactor 48 = .ok (.iconst 1, 1) := by decide +kernel
theorem dX5_readsFactor_49 : decode cX5_readsFactor 49 = .ok (.ireturn, 1) := by decide +kernel
theorem dX5_readsFactor_50 : decode cX5_readsFactor 50 = .ok (.iload_n 1, 1) := by decide +kernel
theorem dX5_readsFactor_51 : decode cX5_readsFactor 51 = .ok (.iconst 5, 1) := by decide +kernel
theorem dX5_readsFactor_52 : decode cX5_readsFactor 52 = .ok (.if_icmp .lt 5, 3) := by decide +kernel
theorem dX5_readsFactor_55 : decode cX5_readsFactor 55 = .ok (.iconst 0, 1) := by decide +kernel
theorem dX5_readsFactor_56 : decode cX5_readsFactor 56 = .ok (.ireturn, 1) := by decide +kernel
theorem dX5_readsFactor_57 : decode cX5_readsFactor 57 = .ok (.aload_n 0, 1) := by decide +kernel
theorem dX5_readsFactor_58 : decode cX5_readsFactor 58 = .ok (.bipush 33, 2) := by decide +kernel
theorem dX5_readsFactor_60 : decode cX5_readsFactor 60 = .ok (.invokevirtual 51, 3) := by decide +kernel
theorem dX5_readsFactor_63 : decode cX5_readsFactor 63 = .ok (.ifCond .eq 25, 3) := by decide +kernel
theorem dX5_readsFactor_66 : decode cX5_readsFactor 66 = .ok (.aload_n 0, 1) := by decide +kernel
theorem dX5_readsFactor_67 : decode cX5_readsFactor 67 = .ok (.iload_n 1, 1) := by decide +kernel
theorem dX5_readsFactor_68 : decode cX5_readsFactor 68 = .ok (.iconst 1, 1) := by decide +kernel
theorem dX5_readsFactor_69 : decode cX5_readsFactor 69 = .ok (.iadd, 1) := by decide +kernel
theorem dX5_readsFactor_70 : decode cX5_readsFactor 70 = .ok (.invokevirtual 66, 3) := by decide +kernel
theorem dX5_readsFactor_73 : decode cX5_readsFactor 73 = .ok (.istore 4, 2) := by decide +kernel
theorem dX5_readsFactor_75 : decode cX5_readsFactor 75 = .ok (.aload_n 0, 1) := by decide +kernel
theorem dX5_readsFactor_76 : decode cX5_readsFactor 76 = .ok (.getfield 14, 3) := by decide +kernel
theorem dX5_readsFactor_79 : decode cX5_readsFactor 79 = .ok (.bipush (-33), 2) := by decide +kernel
theorem dX5_readsFactor_81 : decode cX5_readsFactor 81 = .ok (.invokevirtual 54, 3) := by decide +kernel
theorem dX5_readsFactor_84 : decode cX5_readsFactor 84 = .ok (.pop, 1) := by decide +kernel
theorem dX5_readsFactor_85 : decode cX5_readsFactor 85 = .ok (.iload 4, 2) := by decide +kernel
theorem dX5_readsFactor_87 : decode cX5_readsFactor 87 = .ok (.ireturn, 1) := by decide +kernel
theorem dX5_readsFactor_88 : decode cX5_readsFactor 88 = .ok (.aload_n 0, 1) := by decide +kernel
theorem dX5_readsFactor_89 : decode cX5_readsFactor 89 = .ok (.bipush 40, 2) := by decide +kernel
theorem dX5_readsFactor_91 : decode cX5_readsFactor 91 = .ok (.invokevirtual 51, 3) := by decide +kernel
theorem dX5_readsFactor_94 : decode cX5_readsFactor 94 = .ok (.ifCond .eq 26, 3) := by decide +kernel
theorem dX5_readsFactor_97 : decode cX5_readsFactor 97 = .ok (.aload_n 0, 1) := by decide +kernel
theorem dX5_readsFactor_98 : decode cX5_readsFactor 98 = .ok (.iload_n 1, 1) := by decide +kernel
theorem dX5_readsFactor_99 : decode cX5_readsFactor 99 = .ok (.iconst 1, 1) := by decide +kernel
theorem dX5_readsFactor_100 : decode cX5_readsFactor 100 = .ok (.iadd, 1) := by decide +kernel
theorem dX5_readsFactor_101 : decode cX5_readsFactor 101 = .ok (.invokevirtual 33, 3) := by decide +kernel
theorem dX5_readsFactor_104 : decode cX5_readsFactor 104 = .ok (.ifCond .eq 16, 3) := by decide +kernel
theorem dX5_readsFactor_107 : decode cX5_readsFactor 107 = .ok (.aload_n 0, 1) := by decide +kernel
theorem dX5_readsFactor_108 : decode cX5_readsFactor 108 = .ok (.bipush 41, 2) := by decide +kernel
theorem dX5_readsFactor_110 : decode cX5_readsFactor 110 = .ok (.invokevirtual 51, 3) := by decide +kernel
theorem dX5_readsFactor_113 : decode cX5_readsFactor 113 = .ok (.ifCond .eq 7, 3) := by decide +kernel
theorem dX5_readsFactor_116 : decode cX5_readsFactor 116 = .ok (.iconst 1, 1) := by decide +kernel
theorem dX5_readsFactor_117 : decode cX5_readsFactor 117 = .ok (.goto 4, 3) := by decide +kernel
theorem dX5_readsFactor_120 : decode cX5_readsFactor 120 = .ok (.iconst 0, 1) := by decide +kernel
theorem dX5_readsFactor_121 : decode cX5_readsFactor 121 = .ok (.ireturn, 1) := by decide +kernel
theorem dX5_readNumber_0 : decode cX5_readNumber 0 = .ok (.iconst 0, 1) := by decide +kernel
theorem dX5_readNumber_1 : decode cX5_readNumber 1 = .ok (.istore_n 1, 1) := by decide +kernel
theorem dX5_readNumber_2 : decode cX5_readNumber 2 = .ok (.iconst 0, 1) := by decide +kernel
theorem dX5_readNumber_3 : decode cX5_readNumber 3 = .ok (.istore_n 2, 1) := by decide +kernel
theorem dX5_readNumber_4 : decode cX5_readNumber 4 = .ok (.iload_n 2, 1) := by decide +kernel
theorem dX5_readNumber_5 : decode cX5_readNumber 5 = .ok (.iconst 4, 1) := by decide +kernel
theorem dX5_readNumber_6 : decode cX5_readNumber 6 = .ok (.if_icmp .ge 42, 3) := by decide +kernel
theorem dX5_readNumber_9 : decode cX5_readNumber 9 = .ok (.aload_n 0, 1) := by decide +kernel
theorem dX5_readNumber_10 : decode cX5_readNumber 10 = .ok (.invokevirtual 45, 3) := by decide +kernel
theorem dX5_readNumber_13 : decode cX5_readNumber 13 = .ok (.invokestatic 69, 3) := by decide +kernel
theorem dX5_readNumber_16 : decode cX5_readNumber 16 = .ok (.ifCond .eq 32, 3) := by decide +kernel
theorem dX5_readNumber_19 : decode cX5_readNumber 19 = .ok (.iload_n 1, 1) := by decide +kernel
theorem dX5_readNumber_20 : decode cX5_readNumber 20 = .ok (.bipush 10, 2) := by decide +kernel
theorem dX5_readNumber_22 : decode cX5_readNumber 22 = .ok (.imul, 1) := by decide +kernel
theorem dX5_readNumber_23 : decode cX5_readNumber 23 = .ok (.aload_n 0, 1) := by decide +kernel
theorem dX5_readNumber_24 : decode cX5_readNumber 24 = .ok (.invokevirtual 45, 3) := by decide +kernel
theorem dX5_readNumber_27 : decode cX5_readNumber 27 = .ok (.iadd, 1) := by decide +kernel
theorem dX5_readNumber_28 : decode cX5_readNumber 28 = .ok (.bipush 48, 2) := by decide +kernel
theorem dX5_readNumber_30 : decode cX5_readNumber 30 = .ok (.isub, 1) := by decide +kernel
theorem dX5_readNumber_31 : decode cX5_readNumber 31 = .ok (.istore_n 1, 1) := by decide +kernel
theorem dX5_readNumber_32 : decode cX5_readNumber 32 = .ok (.aload_n 0, 1) := by decide +kernel
theorem dX5_readNumber_33 : decode cX5_readNumber 33 = .ok (.dup, 1) := by decide +kernel
theorem dX5_readNumber_34 : decode cX5_readNumber 34 = .ok (.getfield 27, 3) := by decide +kernel
theorem dX5_readNumber_37 : decode cX5_readNumber 37 = .ok (.iconst 1, 1) := by decide +kernel
theorem dX5_readNumber_38 : decode cX5_readNumber 38 = .ok (.iadd, 1) := by decide +kernel
theorem dX5_readNumber_39 : decode cX5_readNumber 39 = .ok (.putfield 27, 3) := by decide +kernel
theorem dX5_readNumber_42 : decode cX5_readNumber 42 = .ok (.iinc 2 1, 3) := by decide +kernel
theorem dX5_readNumber_45 : decode cX5_readNumber 45 = .ok (.goto (-41), 3) := by decide +kernel
theorem dX5_readNumber_48 : decode cX5_readNumber 48 = .ok (.aload_n 0, 1) := by decide +kernel
theorem dX5_readNumber_49 : decode cX5_readNumber 49 = .ok (.getfield 14, 3) := by decide +kernel
theorem dX5_readNumber_52 : decode cX5_readNumber 52 = .ok (.iload_n 1, 1) := by decide +kernel
theorem dX5_readNumber_53 : decode cX5_readNumber 53 = .ok (.invokevirtual 54, 3) := by decide +kernel
theorem dX5_readNumber_56 : decode cX5_readNumber 56 = .ok (.pop, 1) := by decide +kernel
theorem dX5_readNumber_57 : decode cX5_readNumber 57 = .ok (.return_, 1) := by decide +kernel
theorem dX5_isDigit_0 : decode cX5_isDigit 0 = .ok (.iload_n 0, 1) := by decide +kernel
theorem dX5_isDigit_1 : decode cX5_isDigit 1 = .ok (.bipush 48, 2) := by decide +kernel
theorem dX5_isDigit_3 : decode cX5_isDigit 3 = .ok (.if_icmp .lt 13, 3) := by decide +kernel
theorem dX5_isDigit_6 : decode cX5_isDigit 6 = .ok (.iload_n 0, 1) := by decide +kernel
theorem dX5_isDigit_7 : decode cX5_isDigit 7 = .ok (.bipush 57, 2) := by decide +kernel
theorem dX5_isDigit_9 : decode cX5_isDigit 9 = .ok (.if_icmp .gt 7, 3) := by decide +kernel
theorem dX5_isDigit_12 : decode cX5_isDigit 12 = .ok (.iconst 1, 1) := by decide +kernel
theorem dX5_isDigit_13 : decode cX5_isDigit 13 = .ok (.goto 4, 3) := by decide +kernel
theorem dX5_isDigit_16 : decode cX5_isDigit 16 = .ok (.iconst 0, 1) := by decide +kernel
theorem dX5_isDigit_17 : decode cX5_isDigit 17 = .ok (.ireturn, 1) := by decide +kernel
theorem dX5_nameOf_0 : decode cX5_nameOf 0 = .ok (.iconst 0, 1) := by decide +kernel
theorem dX5_nameOf_1 : decode cX5_nameOf 1 = .ok (.istore_n 2, 1) := by decide +kernel
theorem dX5_nameOf_2 : decode cX5_nameOf 2 = .ok (.iload_n 2, 1) := by decide +kernel
theorem dX5_nameOf_3 : decode cX5_nameOf 3 = .ok (.iconst 3, 1) := by decide +kernel
theorem dX5_nameOf_4 : decode cX5_nameOf 4 = .ok (.if_icmp .ge 43, 3) := by decide +kernel
theorem dX5_nameOf_7 : decode cX5_nameOf 7 = .ok (.aload_n 0, 1) := by decide +kernel
theorem dX5_nameOf_8 : decode cX5_nameOf 8 = .ok (.getfield 23, 3) := by decide +kernel
theorem dX5_nameOf_11 : decode cX5_nameOf 11 = .ok (.iconst 3, 1) := by decide +kernel
theorem dX5_nameOf_12 : decode cX5_nameOf 12 = .ok (.imul, 1) := by decide +kernel
theorem dX5_nameOf_13 : decode cX5_nameOf 13 = .ok (.iload_n 2, 1) := by decide +kernel
theorem dX5_nameOf_14 : decode cX5_nameOf 14 = .ok (.iadd, 1) := by decide +kernel
theorem dX5_nameOf_15 : decode cX5_nameOf 15 = .ok (.istore_n 3, 1) := by decide +kernel
theorem dX5_nameOf_16 : decode cX5_nameOf 16 = .ok (.iload_n 3, 1) := by decide +kernel
theorem dX5_nameOf_17 : decode cX5_nameOf 17 = .ok (.ifCond .lt 24, 3) := by decide +kernel
theorem dX5_nameOf_20 : decode cX5_nameOf 20 = .ok (.iload_n 3, 1) := by decide +kernel
theorem dX5_nameOf_21 : decode cX5_nameOf 21 = .ok (.getstatic 78, 3) := by decide +kernel
theorem dX5_nameOf_24 : decode cX5_nameOf 24 = .ok (.arraylength, 1) := by decide +kernel
theorem dX5_nameOf_25 : decode cX5_nameOf 25 = .ok (.if_icmp .ge 16, 3) := by decide +kernel
theorem dX5_nameOf_28 : decode cX5_nameOf 28 = .ok (.getstatic 78, 3) := by decide +kernel
theorem dX5_nameOf_31 : decode cX5_nameOf 31 = .ok (.iload_n 3, 1) := by decide +kernel
theorem dX5_nameOf_32 : decode cX5_nameOf 32 = .ok (.caload, 1) := by decide +kernel
theorem dX5_nameOf_33 : decode cX5_nameOf 33 = .ok (.iload_n 1, 1) := by decide +kernel
theorem dX5_nameOf_34 : decode cX5_nameOf 34 = .ok (.if_icmp .ne 7, 3) := by decide +kernel
theorem dX5_nameOf_37 : decode cX5_nameOf 37 = .ok (.iload_n 2, 1) := by decide +kernel
theorem dX5_nameOf_38 : decode cX5_nameOf 38 = .ok (.iconst 1, 1) := by decide +kernel
theorem dX5_nameOf_39 : decode cX5_nameOf 39 = .ok (.iadd, 1) := by decide +kernel
theorem dX5_nameOf_40 : decode cX5_nameOf 40 = .ok (.ireturn, 1) := by decide +kernel
theorem dX5_nameOf_41 : decode cX5_nameOf 41 = .ok (.iinc 2 1, 3) := by decide +kernel
theorem dX5_nameOf_44 : decode cX5_nameOf 44 = .ok (.goto (-42), 3) := by decide +kernel
theorem dX5_nameOf_47 : decode cX5_nameOf 47 = .ok (.iconst 0, 1) := by decide +kernel
theorem dX5_nameOf_48 : decode cX5_nameOf 48 = .ok (.ireturn, 1) := by decide +kernel
theorem dX6_init_0 : decode cX6_init 0 = .ok (.aload_n 0, 1) := by decide +kernel
theorem dX6_init_1 : decode cX6_init 1 = .ok (.invokespecial 1, 3) := by decide +kernel
theorem dX6_init_4 : decode cX6_init 4 = .ok (.aload_n 0, 1) := by decide +kernel
theorem dX6_init_5 : decode cX6_init 5 = .ok (.iconst 0, 1) := by decide +kernel
theorem dX6_init_6 : decode cX6_init 6 = .ok (.iload_n 1, 1) := by decide +kernel
theorem dX6_init_7 : decode cX6_init 7 = .ok (.invokestatic 7, 3) := by decide +kernel
theorem dX6_init_10 : decode cX6_init 10 = .ok (.newarray .int, 2) := by decide +kernel
theorem dX6_init_12 : decode cX6_init 12 = .ok (.putfield 13, 3) := by decide +kernel
theorem dX6_init_15 : decode cX6_init 15 = .ok (.return_, 1) := by decide +kernel
theorem dX6_size_0 : decode cX6_size 0 = .ok (.aload_n 0, 1) := by decide +kernel
theorem dX6_size_1 : decode cX6_size 1 = .ok (.getfield 19, 3) := by decide +kernel
theorem dX6_size_4 : decode cX6_size 4 = .ok (.ireturn, 1) := by decide +kernel
theorem dX6_at_0 : decode cX6_at 0 = .ok (.iload_n 1, 1) := by decide +kernel
theorem dX6_at_1 : decode cX6_at 1 = .ok (.ifCond .lt 20, 3) := by decide +kernel
theorem dX6_at_4 : decode cX6_at 4 = .ok (.iload_n 1, 1) := by decide +kernel
theorem dX6_at_5 : decode cX6_at 5 = .ok (.aload_n 0, 1) := by decide +kernel
theorem dX6_at_6 : decode cX6_at 6 = .ok (.getfield 19, 3) := by decide +kernel
theorem dX6_at_9 : decode cX6_at 9 = .ok (.if_icmp .ge 12, 3) := by decide +kernel
theorem dX6_at_12 : decode cX6_at 12 = .ok (.aload_n 0, 1) := by decide +kernel
theorem dX6_at_13 : decode cX6_at 13 = .ok (.getfield 13, 3) := by decide +kernel
theorem dX6_at_16 : decode cX6_at 16 = .ok (.iload_n 1, 1) := by decide +kernel
theorem dX6_at_17 : decode cX6_at 17 = .ok (.iaload, 1) := by decide +kernel
theorem dX6_at_18 : decode cX6_at 18 = .ok (.goto 4, 3) := by decide +kernel
theorem dX6_at_21 : decode cX6_at 21 = .ok (.iconst 0, 1) := by decide +kernel
theorem dX6_at_22 : decode cX6_at 22 = .ok (.ireturn, 1) := by decide +kernel
theorem dX6_add_0 : decode cX6_add 0 = .ok (.aload_n 0, 1) := by decide +kernel
theorem dX6_add_1 : decode cX6_add 1 = .ok (.getfield 19, 3) := by decide +kernel
theorem dX6_add_4 : decode cX6_add 4 = .ok (.aload_n 0, 1) := by decide +kernel
theorem dX6_add_5 : decode cX6_add 5 = .ok (.getfield 13, 3) := by decide +kernel
theorem dX6_add_8 : decode cX6_add 8 = .ok (.arraylength, 1) := by decide +kernel
theorem dX6_add_9 : decode cX6_add 9 = .ok (.if_icmp .lt 5, 3) := by decide +kernel
theorem dX6_add_12 : decode cX6_add 12 = .ok (.iconst 0, 1) := by decide +kernel
theorem dX6_add_13 : decode cX6_add 13 = .ok (.ireturn, 1) := by decide +kernel
theorem dX6_add_14 : decode cX6_add 14 = .ok (.aload_n 0, 1) := by decide +kernel
theorem dX6_add_15 : decode cX6_add 15 = .ok (.getfield 13, 3) := by decide +kernel
theorem dX6_add_18 : decode cX6_add 18 = .ok (.aload_n 0, 1) := by decide +kernel
theorem dX6_add_19 : decode cX6_add 19 = .ok (.getfield 19, 3) := by decide +kernel
theorem dX6_add_22 : decode cX6_add 22 = .ok (.iload_n 1, 1) := by decide +kernel
theorem dX6_add_23 : decode cX6_add 23 = .ok (.iastore, 1) := by decide +kernel
theorem dX6_add_24 : decode cX6_add 24 = .ok (.aload_n 0, 1) := by decide +kernel
theorem dX6_add_25 : decode cX6_add 25 = .ok (.dup, 1) := by decide +kernel
theorem dX6_add_26 : decode cX6_add 26 = .ok (.getfield 19, 3) := by decide +kernel
theorem dX6_add_29 : decode cX6_add 29 = .ok (.iconst 1, 1) := by decide +kernel
theorem dX6_add_30 : decode cX6_add 30 = .ok (.iadd, 1) := by decide +kernel

theorem dX6_add_31 : decode cX6_add 31 = .ok (.putfield 19, 3) := by decide +kernel
theorem dX6_add_34 : decode cX6_add 34 = .ok (.iconst 1, 1) := by decide +kernel
theorem dX6_add_35 : decode cX6_add 35 = .ok (.ireturn, 1) := by decide +kernel
theorem dX6_change_0 : decode cX6_change 0 = .ok (.iload_n 1, 1) := by decide +kernel
theorem dX6_change_1 : decode cX6_change 1 = .ok (.ifCond .lt 18, 3) := by decide +kernel
theorem dX6_change_4 : decode cX6_change 4 = .ok (.iload_n 1, 1) := by decide +kernel
theorem dX6_change_5 : decode cX6_change 5 = .ok (.aload_n 0, 1) := by decide +kernel
theorem dX6_change_6 : decode cX6_change 6 = .ok (.getfield 19, 3) := by decide +kernel
theorem dX6_change_9 : decode cX6_change 9 = .ok (.if_icmp .ge 10, 3) := by decide +kernel
theorem dX6_change_12 : decode cX6_change 12 = .ok (.aload_n 0, 1) := by decide +kernel
theorem dX6_change_13 : decode cX6_change 13 = .ok (.getfield 13, 3) := by decide +kernel
theorem dX6_change_16 : decode cX6_change 16 = .ok (.iload_n 1, 1) := by decide +kernel
theorem dX6_change_17 : decode cX6_change 17 = .ok (.iload_n 2, 1) := by decide +kernel
theorem dX6_change_18 : decode cX6_change 18 = .ok (.iastore, 1) := by decide +kernel
theorem dX6_change_19 : decode cX6_change 19 = .ok (.return_, 1) := by decide +kernel
theorem dX6_clear_0 : decode cX6_clear 0 = .ok (.aload_n 0, 1) := by decide +kernel
theorem dX6_clear_1 : decode cX6_clear 1 = .ok (.iconst 0, 1) := by decide +kernel
theorem dX6_clear_2 : decode cX6_clear 2 = .ok (.putfield 19, 3) := by decide +kernel
theorem dX6_clear_5 : decode cX6_clear 5 = .ok (.return_, 1) := by decide +kernel
theorem dX6_beZeros_0 : decode cX6_beZeros 0 = .ok (.aload_n 0, 1) := by decide +kernel
theorem dX6_beZeros_1 : decode cX6_beZeros 1 = .ok (.invokevirtual 23, 3) := by decide +kernel
theorem dX6_beZeros_4 : decode cX6_beZeros 4 = .ok (.iconst 0, 1) := by decide +kernel
theorem dX6_beZeros_5 : decode cX6_beZeros 5 = .ok (.istore_n 2, 1) := by decide +kernel
theorem dX6_beZeros_6 : decode cX6_beZeros 6 = .ok (.iload_n 2, 1) := by decide +kernel
theorem dX6_beZeros_7 : decode cX6_beZeros 7 = .ok (.iload_n 1, 1) := by decide +kernel
theorem dX6_beZeros_8 : decode cX6_beZeros 8 = .ok (.if_icmp .ge 15, 3) := by decide +kernel
theorem dX6_beZeros_11 : decode cX6_beZeros 11 = .ok (.aload_n 0, 1) := by decide +kernel
theorem dX6_beZeros_12 : decode cX6_beZeros 12 = .ok (.iconst 0, 1) := by decide +kernel
theorem dX6_beZeros_13 : decode cX6_beZeros 13 = .ok (.invokevirtual 26, 3) := by decide +kernel
theorem dX6_beZeros_16 : decode cX6_beZeros 16 = .ok (.pop, 1) := by decide +kernel
theorem dX6_beZeros_17 : decode cX6_beZeros 17 = .ok (.iinc 2 1, 3) := by decide +kernel
theorem dX6_beZeros_20 : decode cX6_beZeros 20 = .ok (.goto (-14), 3) := by decide +kernel
theorem dX6_beZeros_23 : decode cX6_beZeros 23 = .ok (.return_, 1) := by decide +kernel
theorem dX6_spans_0 : decode cX6_spans 0 = .ok (.iload_n 1, 1) := by decide +kernel
theorem dX6_spans_1 : decode cX6_spans 1 = .ok (.ifCond .lt 29, 3) := by decide +kernel
theorem dX6_spans_4 : decode cX6_spans 4 = .ok (.iload_n 2, 1) := by decide +kernel
theorem dX6_spans_5 : decode cX6_spans 5 = .ok (.ifCond .lt 25, 3) := by decide +kernel
theorem dX6_spans_8 : decode cX6_spans 8 = .ok (.iload_n 1, 1) := by decide +kernel
theorem dX6_spans_9 : decode cX6_spans 9 = .ok (.aload_n 0, 1) := by decide +kernel
theorem dX6_spans_10 : decode cX6_spans 10 = .ok (.getfield 19, 3) := by decide +kernel
theorem dX6_spans_13 : decode cX6_spans 13 = .ok (.if_icmp .gt 17, 3) := by decide +kernel
theorem dX6_spans_16 : decode cX6_spans 16 = .ok (.iload_n 2, 1) := by decide +kernel
theorem dX6_spans_17 : decode cX6_spans 17 = .ok (.aload_n 0, 1) := by decide +kernel
theorem dX6_spans_18 : decode cX6_spans 18 = .ok (.getfield 19, 3) := by decide +kernel
theorem dX6_spans_21 : decode cX6_spans 21 = .ok (.iload_n 1, 1) := by decide +kernel
theorem dX6_spans_22 : decode cX6_spans 22 = .ok (.isub, 1) := by decide +kernel
theorem dX6_spans_23 : decode cX6_spans 23 = .ok (.if_icmp .gt 7, 3) := by decide +kernel
theorem dX6_spans_26 : decode cX6_spans 26 = .ok (.iconst 1, 1) := by decide +kernel
theorem dX6_spans_27 : decode cX6_spans 27 = .ok (.goto 4, 3) := by decide +kernel
theorem dX6_spans_30 : decode cX6_spans 30 = .ok (.iconst 0, 1) := by decide +kernel
theorem dX6_spans_31 : decode cX6_spans 31 = .ok (.ireturn, 1) := by decide +kernel
theorem dX6_takeFrom_0 : decode cX6_takeFrom 0 = .ok (.aload_n 1, 1) := by decide +kernel
theorem dX6_takeFrom_1 : decode cX6_takeFrom 1 = .ok (.iload_n 2, 1) := by decide +kernel
theorem dX6_takeFrom_2 : decode cX6_takeFrom 2 = .ok (.iload 4, 2) := by decide +kernel
theorem dX6_takeFrom_4 : decode cX6_takeFrom 4 = .ok (.invokevirtual 30, 3) := by decide +kernel
theorem dX6_takeFrom_7 : decode cX6_takeFrom 7 = .ok (.ifCond .eq 28, 3) := by decide +kernel
theorem dX6_takeFrom_10 : decode cX6_takeFrom 10 = .ok (.aload_n 0, 1) := by decide +kernel
theorem dX6_takeFrom_11 : decode cX6_takeFrom 11 = .ok (.iload_n 3, 1) := by decide +kernel
theorem dX6_takeFrom_12 : decode cX6_takeFrom 12 = .ok (.iload 4, 2) := by decide +kernel
theorem dX6_takeFrom_14 : decode cX6_takeFrom 14 = .ok (.invokevirtual 30, 3) := by decide +kernel
theorem dX6_takeFrom_17 : decode cX6_takeFrom 17 = .ok (.ifCond .eq 18, 3) := by decide +kernel
theorem dX6_takeFrom_20 : decode cX6_takeFrom 20 = .ok (.aload_n 1, 1) := by decide +kernel
theorem dX6_takeFrom_21 : decode cX6_takeFrom 21 = .ok (.getfield 13, 3) := by decide +kernel
theorem dX6_takeFrom_24 : decode cX6_takeFrom 24 = .ok (.iload_n 2, 1) := by decide +kernel
theorem dX6_takeFrom_25 : decode cX6_takeFrom 25 = .ok (.aload_n 0, 1) := by decide +kernel
theorem dX6_takeFrom_26 : decode cX6_takeFrom 26 = .ok (.getfield 13, 3) := by decide +kernel
theorem dX6_takeFrom_29 : decode cX6_takeFrom 29 = .ok (.iload_n 3, 1) := by decide +kernel
theorem dX6_takeFrom_30 : decode cX6_takeFrom 30 = .ok (.iload 4, 2) := by decide +kernel
theorem dX6_takeFrom_32 : decode cX6_takeFrom 32 = .ok (.invokestatic 34, 3) := by decide +kernel
theorem dX6_takeFrom_35 : decode cX6_takeFrom 35 = .ok (.return_, 1) := by decide +kernel
theorem dX6_beLike_0 : decode cX6_beLike 0 = .ok (.aload_n 0, 1) := by decide +kernel
theorem dX6_beLike_1 : decode cX6_beLike 1 = .ok (.aload_n 1, 1) := by decide +kernel
theorem dX6_beLike_2 : decode cX6_beLike 2 = .ok (.getfield 19, 3) := by decide +kernel
theorem dX6_beLike_5 : decode cX6_beLike 5 = .ok (.invokevirtual 40, 3) := by decide +kernel
theorem dX6_beLike_8 : decode cX6_beLike 8 = .ok (.aload_n 0, 1) := by decide +kernel
theorem dX6_beLike_9 : decode cX6_beLike 9 = .ok (.aload_n 1, 1) := by decide +kernel
theorem dX6_beLike_10 : decode cX6_beLike 10 = .ok (.iconst 0, 1) := by decide +kernel
theorem dX6_beLike_11 : decode cX6_beLike 11 = .ok (.iconst 0, 1) := by decide +kernel
theorem dX6_beLike_12 : decode cX6_beLike 12 = .ok (.aload_n 1, 1) := by decide +kernel
theorem dX6_beLike_13 : decode cX6_beLike 13 = .ok (.getfield 19, 3) := by decide +kernel
theorem dX6_beLike_16 : decode cX6_beLike 16 = .ok (.invokevirtual 44, 3) := by decide +kernel
theorem dX6_beLike_19 : decode cX6_beLike 19 = .ok (.return_, 1) := by decide +kernel
theorem dX7_init_0 : decode cX7_init 0 = .ok (.aload_n 0, 1) := by decide +kernel
theorem dX7_init_1 : decode cX7_init 1 = .ok (.invokespecial 3, 3) := by decide +kernel
theorem dX7_init_4 : decode cX7_init 4 = .ok (.aload_n 0, 1) := by decide +kernel
theorem dX7_init_5 : decode cX7_init 5 = .ok (.new 9, 3) := by decide +kernel
theorem dX7_init_8 : decode cX7_init 8 = .ok (.dup, 1) := by decide +kernel
theorem dX7_init_9 : decode cX7_init 9 = .ok (.bipush 24, 2) := by decide +kernel
theorem dX7_init_11 : decode cX7_init 11 = .ok (.invokespecial 11, 3) := by decide +kernel
theorem dX7_init_14 : decode cX7_init 14 = .ok (.putfield 14, 3) := by decide +kernel
theorem dX7_init_17 : decode cX7_init 17 = .ok (.return_, 1) := by decide +kernel
theorem dX7_isMissing_0 : decode cX7_isMissing 0 = .ok (.aload_n 0, 1) := by decide +kernel
theorem dX7_isMissing_1 : decode cX7_isMissing 1 = .ok (.getfield 20, 3) := by decide +kernel
theorem dX7_isMissing_4 : decode cX7_isMissing 4 = .ok (.ifCond .ne 7, 3) := by decide +kernel
theorem dX7_isMissing_7 : decode cX7_isMissing 7 = .ok (.iconst 1, 1) := by decide +kernel
theorem dX7_isMissing_8 : decode cX7_isMissing 8 = .ok (.goto 4, 3) := by decide +kernel
theorem dX7_isMissing_11 : decode cX7_isMissing 11 = .ok (.iconst 0, 1) := by decide +kernel
theorem dX7_isMissing_12 : decode cX7_isMissing 12 = .ok (.ireturn, 1) := by decide +kernel
theorem dX7_renew_0 : decode cX7_renew 0 = .ok (.aload_n 0, 1) := by decide +kernel
theorem dX7_renew_1 : decode cX7_renew 1 = .ok (.iload_n 1, 1) := by decide +kernel
theorem dX7_renew_2 : decode cX7_renew 2 = .ok (.putfield 20, 3) := by decide +kernel
theorem dX7_renew_5 : decode cX7_renew 5 = .ok (.aload_n 0, 1) := by decide +kernel
theorem dX7_renew_6 : decode cX7_renew 6 = .ok (.getfield 14, 3) := by decide +kernel
theorem dX7_renew_9 : decode cX7_renew 9 = .ok (.iload_n 2, 1) := by decide +kernel
theorem dX7_renew_10 : decode cX7_renew 10 = .ok (.invokevirtual 24, 3) := by decide +kernel
theorem dX7_renew_13 : decode cX7_renew 13 = .ok (.return_, 1) := by decide +kernel
theorem dX7_lowestBits_0 : decode cX7_lowestBits 0 = .ok (.aload_n 0, 1) := by decide +kernel
theorem dX7_lowestBits_1 : decode cX7_lowestBits 1 = .ok (.getfield 20, 3) := by decide +kernel
theorem dX7_lowestBits_4 : decode cX7_lowestBits 4 = .ok (.lookupswitch 39 #[(8, 28), (16, 34)], 28) := by decide +kernel
theorem dX7_lowestBits_32 : decode cX7_lowestBits 32 = .ok (.iload_n 1, 1) := by decide +kernel
theorem dX7_lowestBits_33 : decode cX7_lowestBits 33 = .ok (.sipush 255, 3) := by decide +kernel
theorem dX7_lowestBits_36 : decode cX7_lowestBits 36 = .ok (.iand, 1) := by decide +kernel
theorem dX7_lowestBits_37 : decode cX7_lowestBits 37 = .ok (.ireturn, 1) := by decide +kernel
theorem dX7_lowestBits_38 : decode cX7_lowestBits 38 = .ok (.iload_n 1, 1) := by decide +kernel
theorem dX7_lowestBits_39 : decode cX7_lowestBits 39 = .ok (.ldc 27, 2) := by decide +kernel
theorem dX7_lowestBits_41 : decode cX7_lowestBits 41 = .ok (.iand, 1) := by decide +kernel
theorem dX7_lowestBits_42 : decode cX7_lowestBits 42 = .ok (.ireturn, 1) := by decide +kernel
theorem dX7_lowestBits_43 : decode cX7_lowestBits 43 = .ok (.iload_n 1, 1) := by decide +kernel
theorem dX7_lowestBits_44 : decode cX7_lowestBits 44 = .ok (.ireturn, 1) := by decide +kernel
theorem dX8_init_0 : decode cX8_init 0 = .ok (.aload_n 0, 1) := by decide +kernel
theorem dX8_init_1 : decode cX8_init 1 = .ok (.invokespecial 3, 3) := by decide +kernel
theorem dX8_init_4 : decode cX8_init 4 = .ok (.aload_n 0, 1) := by decide +kernel
theorem dX8_init_5 : decode cX8_init 5 = .ok (.new 9, 3) := by decide +kernel
theorem dX8_init_8 : decode cX8_init 8 = .ok (.dup, 1) := by decide +kernel
theorem dX8_init_9 : decode cX8_init 9 = .ok (.bipush 30, 2) := by decide +kernel
theorem dX8_init_11 : decode cX8_init 11 = .ok (.invokespecial 11, 3) := by decide +kernel
theorem dX8_init_14 : decode cX8_init 14 = .ok (.putfield 14, 3) := by decide +kernel
theorem dX8_init_17 : decode cX8_init 17 = .ok (.return_, 1) := by decide +kernel
theorem dX8_say_0 : decode cX8_say 0 = .ok (.aload_n 0, 1) := by decide +kernel
theorem dX8_say_1 : decode cX8_say 1 = .ok (.getfield 14, 3) := by decide +kernel
theorem dX8_say_4 : decode cX8_say 4 = .ok (.invokevirtual 20, 3) := by decide +kernel
theorem dX8_say_7 : decode cX8_say 7 = .ok (.aload_n 0, 1) := by decide +kernel
theorem dX8_say_8 : decode cX8_say 8 = .ok (.iconst 0, 1) := by decide +kernel
theorem dX8_say_9 : decode cX8_say 9 = .ok (.putfield 23, 3) := by decide +kernel
theorem dX8_say_12 : decode cX8_say 12 = .ok (.aload_n 0, 1) := by decide +kernel
theorem dX8_say_13 : decode cX8_say 13 = .ok (.aload_n 1, 1) := by decide +kernel
theorem dX8_say_14 : decode cX8_say 14 = .ok (.getfield 27, 3) := by decide +kernel
theorem dX8_say_17 : decode cX8_say 17 = .ok (.putfield 33, 3) := by decide +kernel
theorem dX8_say_20 : decode cX8_say 20 = .ok (.aload_n 0, 1) := by decide +kernel
theorem dX8_say_21 : decode cX8_say 21 = .ok (.iload_n 2, 1) := by decide +kernel
theorem dX8_say_22 : decode cX8_say 22 = .ok (.putfield 36, 3) := by decide +kernel
theorem dX8_say_25 : decode cX8_say 25 = .ok (.aload_n 0, 1) := by decide +kernel
theorem dX8_say_26 : decode cX8_say 26 = .ok (.aload_n 1, 1) := by decide +kernel
theorem dX8_say_27 : decode cX8_say 27 = .ok (.getfield 39, 3) := by decide +kernel
theorem dX8_say_30 : decode cX8_say 30 = .ok (.putfield 42, 3) := by decide +kernel
theorem dX8_say_33 : decode cX8_say 33 = .ok (.iload_n 3, 1) := by decide +kernel
theorem dX8_say_34 : decode cX8_say 34 = .ok (.tableswitch 59 0 2 #[26, 37, 48], 26) := by decide +kernel
theorem dX8_say_60 : decode cX8_say 60 = .ok (.aload_n 0, 1) := by decide +kernel
theorem dX8_say_61 : decode cX8_say 61 = .ok (.aload_n 0, 1) := by decide +kernel
theorem dX8_say_62 : decode cX8_say 62 = .ok (.getfield 33, 3) := by decide +kernel
theorem dX8_say_65 : decode cX8_say 65 = .ok (.iload 4, 2) := by decide +kernel
theorem dX8_say_67 : decode cX8_say 67 = .ok (.invokevirtual 43, 3) := by decide +kernel
theorem dX8_say_70 : decode cX8_say 70 = .ok (.ireturn, 1) := by decide +kernel
theorem dX8_say_71 : decode cX8_say 71 = .ok (.aload_n 0, 1) := by decide +kernel
theorem dX8_say_72 : decode cX8_say 72 = .ok (.aload_n 0, 1) := by decide +kernel
theorem dX8_say_73 : decode cX8_say 73 = .ok (.getfield 33, 3) := by decide +kernel
theorem dX8_say_76 : decode cX8_say 76 = .ok (.iload 4, 2) := by decide +kernel
theorem dX8_say_78 : decode cX8_say 78 = .ok (.invokevirtual 47, 3) := by decide +kernel
theorem dX8_say_81 : decode cX8_say 81 = .ok (.ireturn, 1) := by decide +kernel
theorem dX8_say_82 : decode cX8_say 82 = .ok (.aload_n 0, 1) := by decide +kernel
theorem dX8_say_83 : decode cX8_say 83 = .ok (.aload_n 0, 1) := by decide +kernel
theorem dX8_say_84 : decode cX8_say 84 = .ok (.getfield 33, 3) := by decide +kernel
theorem dX8_say_87 : decode cX8_say 87 = .ok (.iload 4, 2) := by decide +kernel
theorem dX8_say_89 : decode cX8_say 89 = .ok (.invokevirtual 50, 3) := by decide +kernel
theorem dX8_say_92 : decode cX8_say 92 = .ok (.ireturn, 1) := by decide +kernel
theorem dX8_say_93 : decode cX8_say 93 = .ok (.aload_n 0, 1) := by decide +kernel
theorem dX8_say_94 : decode cX8_say 94 = .ok (.aload_n 0, 1) := by decide +kernel
theorem dX8_say_95 : decode cX8_say 95 = .ok (.getfield 33, 3) := by decide +kernel
theorem dX8_say_98 : decode cX8_say 98 = .ok (.iload 4, 2) := by decide +kernel
theorem dX8_say_100 : decode cX8_say 100 = .ok (.invokevirtual 53, 3) := by decide +kernel
theorem dX8_say_103 : decode cX8_say 103 = .ok (.ireturn, 1) := by decide +kernel
theorem dX8_blinks_0 : decode cX8_blinks 0 = .ok (.iload_n 1, 1) := by decide +kernel
theorem dX8_blinks_1 : decode cX8_blinks 1 = .ok (.lookupswitch 86 #[(1, 67), (4, 48), (6, 35)], 35) := by decide +kernel
theorem dX8_blinks_36 : decode cX8_blinks 36 = .ok (.aload_n 0, 1) := by decide +kernel
theorem dX8_blinks_37 : decode cX8_blinks 37 = .ok (.getfield 14, 3) := by decide +kernel
theorem dX8_blinks_40 : decode cX8_blinks 40 = .ok (.bipush 70, 2) := by decide +kernel
theorem dX8_blinks_42 : decode cX8_blinks 42 = .ok (.invokevirtual 56, 3) := by decide +kernel
theorem dX8_blinks_45 : decode cX8_blinks 45 = .ok (.pop, 1) := by decide +kernel
theorem dX8_blinks_46 : decode cX8_blinks 46 = .ok (.bipush 9, 2) := by decide +kernel
theorem dX8_blinks_48 : decode cX8_blinks 48 = .ok (.ireturn, 1) := by decide +kernel
theorem dX8_blinks_49 : decode cX8_blinks 49 = .ok (.aload_n 0, 1) := by decide +kernel
theorem dX8_blinks_50 : decode cX8_blinks 50 = .ok (.getfield 14, 3) := by decide +kernel
theorem dX8_blinks_53 : decode cX8_blinks 53 = .ok (.bipush 50, 2) := by decide +kernel
theorem dX8_blinks_55 : decode cX8_blinks 55 = .ok (.invokevirtual 56, 3) := by decide +kernel
theorem dX8_blinks_58 : decode cX8_blinks 58 = .ok (.pop, 1) := by decide +kernel
theorem dX8_blinks_59 : decode cX8_blinks 59 = .ok (.aload_n 0, 1) := by decide +kernel
theorem dX8_blinks_60 : decode cX8_blinks 60 = .ok (.iconst 1, 1) := by decide +kernel
theorem dX8_blinks_61 : decode cX8_blinks 61 = .ok (.iload_n 2, 1) := by decide +kernel
theorem dX8_blinks_62 : decode cX8_blinks 62 = .ok (.invokevirtual 43, 3) := by decide +kernel
theorem dX8_blinks_65 : decode cX8_blinks 65 = .ok (.iconst 3, 1) := by decide +kernel
theorem dX8_blinks_66 : decode cX8_blinks 66 = .ok (.imul, 1) := by decide +kernel
theorem dX8_blinks_67 : decode cX8_blinks 67 = .ok (.ireturn, 1) := by decide +kernel
theorem dX8_blinks_68 : decode cX8_blinks 68 = .ok (.aload_n 0, 1) := by decide +kernel
theorem dX8_blinks_69 : decode cX8_blinks 69 = .ok (.getfield 14, 3) := by decide +kernel
theorem dX8_blinks_72 : decode cX8_blinks 72 = .ok (.bipush 20, 2) := by decide +kernel
theorem dX8_blinks_74 : decode cX8_blinks 74 = .ok (.invokevirtual 56, 3) := by decide +kernel
theorem dX8_blinks_77 : decode cX8_blinks 77 = .ok (.pop, 1) := by decide +kernel
theorem dX8_blinks_78 : decode cX8_blinks 78 = .ok (.aload_n 0, 1) := by decide +kernel
theorem dX8_blinks_79 : decode cX8_blinks 79 = .ok (.iconst 0, 1) := by decide +kernel
theorem dX8_blinks_80 : decode cX8_blinks 80 = .ok (.iload_n 2, 1) := by decide +kernel
theorem dX8_blinks_81 : decode cX8_blinks 81 = .ok (.invokevirtual 43, 3) := by decide +kernel
theorem dX8_blinks_84 : decode cX8_blinks 84 = .ok (.iconst 4, 1) := by decide +kernel
theorem dX8_blinks_85 : decode cX8_blinks 85 = .ok (.isub, 1) := by decide +kernel
theorem dX8_blinks_86 : decode cX8_blinks 86 = .ok (.ireturn, 1) := by decide +kernel
theorem dX8_blinks_87 : decode cX8_blinks 87 = .ok (.aload_n 0, 1) := by decide +kernel
theorem dX8_blinks_88 : decode cX8_blinks 88 = .ok (.getfield 14, 3) := by decide +kernel
theorem dX8_blinks_91 : decode cX8_blinks 91 = .ok (.bipush 10, 2) := by decide +kernel
theorem dX8_blinks_93 : decode cX8_blinks 93 = .ok (.invokevirtual 56, 3) := by decide +kernel
theorem dX8_blinks_96 : decode cX8_blinks 96 = .ok (.pop, 1) := by decide +kernel
theorem dX8_blinks_97 : decode cX8_blinks 97 = .ok (.iload_n 2, 1) := by decide +kernel
theorem dX8_blinks_98 : decode cX8_blinks 98 = .ok (.aload_n 0, 1) := by decide +kernel
theorem dX8_blinks_99 : decode cX8_blinks 99 = .ok (.getfield 36, 3) := by decide +kernel
theorem dX8_blinks_102 : decode cX8_blinks 102 = .ok (.iadd, 1) := by decide +kernel
theorem dX8_blinks_103 : decode cX8_blinks 103 = .ok (.ireturn, 1) := by decide +kernel
theorem dX8_moves_0 : decode cX8_moves 0 = .ok (.iload_n 1, 1) := by decide +kernel
theorem dX8_moves_1 : decode cX8_moves 1 = .ok (.tableswitch 95 2 6 #[76, 95, 95, 57, 35], 35) := by decide +kernel
theorem dX8_moves_36 : decode cX8_moves 36 = .ok (.aload_n 0, 1) := by decide +kernel
theorem dX8_moves_37 : decode cX8_moves 37 = .ok (.getfield 14, 3) := by decide +kernel
theorem dX8_moves_40 : decode cX8_moves 40 = .ok (.bipush 71, 2) := by decide +kernel
theorem dX8_moves_42 : decode cX8_moves 42 = .ok (.invokevirtual 56, 3) := by decide +kernel
theorem dX8_moves_45 : decode cX8_moves 45 = .ok (.pop, 1) := by decide +kernel
theorem dX8_moves_46 : decode cX8_moves 46 = .ok (.aload_n 0, 1) := by decide +kernel
theorem dX8_moves_47 : decode cX8_moves 47 = .ok (.iconst 0, 1) := by decide +kernel
theorem dX8_moves_48 : decode cX8_moves 48 = .ok (.iload_n 2, 1) := by decide +kernel
theorem dX8_moves_49 : decode cX8_moves 49 = .ok (.invokevirtual 47, 3) := by decide +kernel
theorem dX8_moves_52 : decode cX8_moves 52 = .ok (.aload_n 0, 1) := by decide +kernel
theorem dX8_moves_53 : decode cX8_moves 53 = .ok (.getfield 42, 3) := by decide +kernel
theorem dX8_moves_56 : decode cX8_moves 56 = .ok (.iadd, 1) := by decide +kernel
theorem dX8_moves_57 : decode cX8_moves 57 = .ok (.ireturn, 1) := by decide +kernel
theorem dX8_moves_58 : decode cX8_moves 58 = .ok (.aload_n 0, 1) := by decide +kernel
theorem dX8_moves_59 : decode cX8_moves 59 = .ok (.getfield 14, 3) := by decide +kernel
theorem dX8_moves_62 : decode cX8_moves 62 = .ok (.bipush 60, 2) := by decide +kernel
theorem dX8_moves_64 : decode cX8_moves 64 = .ok (.invokevirtual 56, 3) := by decide +kernel
theorem dX8_moves_67 : decode cX8_moves 67 = .ok (.pop, 1) := by decide +kernel
theorem dX8_moves_68 : decode cX8_moves 68 = .ok (.aload_n 0, 1) := by decide +kernel
theorem dX8_moves_69 : decode cX8_moves 69 = .ok (.iconst 2, 1) := by decide +kernel
theorem dX8_moves_70 : decode cX8_moves 70 = .ok (.iload_n 2, 1) := by decide +kernel
theorem dX8_moves_71 : decode cX8_moves 71 = .ok (.iconst 1, 1) := by decide +kernel
theorem dX8_moves_72 : decode cX8_moves 72 = .ok (.iadd, 1) := by decide +kernel
theorem dX8_moves_73 : decode cX8_moves 73 = .ok (.invokevirtual 47, 3) := by decide +kernel
theorem dX8_moves_76 : decode cX8_moves 76 = .ok (.ireturn, 1) := by decide +kernel
theorem dX8_moves_77 : decode cX8_moves 77 = .ok (.aload_n 0, 1) := by decide +kernel
theorem dX8_moves_78 : decode cX8_moves 78 = .ok (.getfield 14, 3) := by decide +kernel
theorem dX8_moves_81 : decode cX8_moves 81 = .ok (.bipush 30, 2) := by decide +kernel
theorem dX8_moves_83 : decode cX8_moves 83 = .ok (.invokevirtual 56, 3) := by decide +kernel
theorem dX8_moves_86 : decode cX8_moves 86 = .ok (.pop, 1) := by decide +kernel
theorem dX8_moves_87 : decode cX8_moves 87 = .ok (.iconst 0, 1) := by decide +kernel
theorem dX8_moves_88 : decode cX8_moves 88 = .ok (.aload_n 0, 1) := by decide +kernel
theorem dX8_moves_89 : decode cX8_moves 89 = .ok (.iconst 0, 1) := by decide +kernel
theorem dX8_moves_90 : decode cX8_moves 90 = .ok (.iload_n 2, 1) := by decide +kernel
theorem dX8_moves_91 : decode cX8_moves 91 = .ok (.invokevirtual 47, 3) := by decide +kernel
theorem dX8_moves_94 : decode cX8_moves 94 = .ok (.isub, 1) := by decide +kernel
theorem dX8_moves_95 : decode cX8_moves 95 = .ok (.ireturn, 1) := by decide +kernel
theorem dX8_moves_96 : decode cX8_moves 96 = .ok (.aload_n 0, 1) := by decide +kernel
theorem dX8_moves_97 : decode cX8_moves 97 = .ok (.getfield 14, 3) := by decide +kernel
theorem dX8_moves_100 : decode cX8_moves 100 = .ok (.bipush 11, 2) := by decide +kernel
theorem dX8_moves_102 : decode cX8_moves 102 = .ok (.invokevirtual 56, 3) := by decide +kernel
theorem dX8_moves_105 : decode cX8_moves 105 = .ok (.pop, 1) := by decide +kernel
theorem dX8_moves_106 : decode cX8_moves 106 = .ok (.aload_n 0, 1) := by decide +kernel
theorem dX8_moves_107 : decode cX8_moves 107 = .ok (.aload_n 0, 1) := by decide +kernel
theorem dX8_moves_108 : decode cX8_moves 108 = .ok (.getfield 33, 3) := by decide +kernel
theorem dX8_moves_111 : decode cX8_moves 111 = .ok (.iload_n 2, 1) := by decide +kernel
theorem dX8_moves_112 : decode cX8_moves 112 = .ok (.invokevirtual 43, 3) := by decide +kernel
theorem dX8_moves_115 : decode cX8_moves 115 = .ok (.iconst 2, 1) := by decide +kernel
theorem dX8_moves_116 : decode cX8_moves 116 = .ok (.imul, 1) := by decide +kernel
theorem dX8_moves_117 : decode cX8_moves 117 = .ok (.ireturn, 1) := by decide +kernel
theorem dX8_looks_0 : decode cX8_looks 0 = .ok (.iload_n 1, 1) := by decide +kernel
theorem dX8_looks_1 : decode cX8_looks 1 = .ok (.lookupswitch 68 #[(3, 49), (4, 27)], 27) := by decide +kernel
theorem dX8_looks_28 : decode cX8_looks 28 = .ok (.aload_n 0, 1) := by decide +kernel
theorem dX8_looks_29 : decode cX8_looks 29 = .ok (.getfield 14, 3) := by decide +kernel
theorem dX8_looks_32 : decode cX8_looks 32 = .ok (.bipush 51, 2) := by decide +kernel
theorem dX8_looks_34 : decode cX8_looks 34 = .ok (.invokevirtual 56, 3) := by decide +kernel
theorem dX8_looks_37 : decode cX8_looks 37 = .ok (.pop, 1) := by decide +kernel
theorem dX8_looks_38 : decode cX8_looks 38 = .ok (.aload_n 0, 1) := by decide +kernel
theorem dX8_looks_39 : decode cX8_looks 39 = .ok (.iconst 1, 1) := by decide +kernel
theorem dX8_looks_40 : decode cX8_looks 40 = .ok (.iload_n 2, 1) := by decide +kernel
theorem dX8_looks_41 : decode cX8_looks 41 = .ok (.invokevirtual 50, 3) := by decide +kernel
theorem dX8_looks_44 : decode cX8_looks 44 = .ok (.aload_n 0, 1) := by decide +kernel
theorem dX8_looks_45 : decode cX8_looks 45 = .ok (.getfield 36, 3) := by decide +kernel
theorem dX8_looks_48 : decode cX8_looks 48 = .ok (.ixor, 1) := by decide +kernel
theorem dX8_looks_49 : decode cX8_looks 49 = .ok (.ireturn, 1) := by decide +kernel
theorem dX8_looks_50 : decode cX8_looks 50 = .ok (.aload_n 0, 1) := by decide +kernel
theorem dX8_looks_51 : decode cX8_looks 51 = .ok (.getfield 14, 3) := by decide +kernel
theorem dX8_looks_54 : decode cX8_looks 54 = .ok (.bipush 40, 2) := by decide +kernel
theorem dX8_looks_56 : decode cX8_looks 56 = .ok (.invokevirtual 56, 3) := by decide +kernel
theorem dX8_looks_59 : decode cX8_looks 59 = .ok (.pop, 1) := by decide +kernel
theorem dX8_looks_60 : decode cX8_looks 60 = .ok (.aload_n 0, 1) := by decide +kernel
theorem dX8_looks_61 : decode cX8_looks 61 = .ok (.iconst 0, 1) := by decide +kernel
theorem dX8_looks_62 : decode cX8_looks 62 = .ok (.iload_n 2, 1) := by decide +kernel
theorem dX8_looks_63 : decode cX8_looks 63 = .ok (.iconst 2, 1) := by decide +kernel
theorem dX8_looks_64 : decode cX8_looks 64 = .ok (.idiv, 1) := by decide +kernel
theorem dX8_looks_65 : decode cX8_looks 65 = .ok (.invokevirtual 50, 3) := by decide +kernel
theorem dX8_looks_68 : decode cX8_looks 68 = .ok (.ireturn, 1) := by decide +kernel
theorem dX8_looks_69 : decode cX8_looks 69 = .ok (.aload_n 0, 1) := by decide +kernel
theorem dX8_looks_70 : decode cX8_looks 70 = .ok (.getfield 14, 3) := by decide +kernel
theorem dX8_looks_73 : decode cX8_looks 73 = .ok (.bipush 12, 2) := by decide +kernel
theorem dX8_looks_75 : decode cX8_looks 75 = .ok (.invokevirtual 56, 3) := by decide +kernel
theorem dX8_looks_78 : decode cX8_looks 78 = .ok (.pop, 1) := by decide +kernel
theorem dX8_looks_79 : decode cX8_looks 79 = .ok (.aload_n 0, 1) := by decide +kernel
theorem dX8_looks_80 : decode cX8_looks 80 = .ok (.aload_n 0, 1) := by decide +kernel
theorem dX8_looks_81 : decode cX8_looks 81 = .ok (.getfield 33, 3) := by decide +kernel
theorem dX8_looks_84 : decode cX8_looks 84 = .ok (.iload_n 2, 1) := by decide +kernel
theorem dX8_looks_85 : decode cX8_looks 85 = .ok (.invokevirtual 47, 3) := by decide +kernel
theorem dX8_looks_88 : decode cX8_looks 88 = .ok (.aload_n 0, 1) := by decide +kernel
theorem dX8_looks_89 : decode cX8_looks 89 = .ok (.getfield 42, 3) := by decide +kernel
theorem dX8_looks_92 : decode cX8_looks 92 = .ok (.isub, 1) := by decide +kernel
theorem dX8_looks_93 : decode cX8_looks 93 = .ok (.ireturn, 1) := by decide +kernel
theorem dX8_parts_0 : decode cX8_parts 0 = .ok (.iload_n 1, 1) := by decide +kernel
theorem dX8_parts_1 : decode cX8_parts 1 = .ok (.iconst 1, 1) := by decide +kernel
theorem dX8_parts_2 : decode cX8_parts 2 = .ok (.if_icmp .eq 8, 3) := by decide +kernel
theorem dX8_parts_5 : decode cX8_parts 5 = .ok (.iload_n 1, 1) := by decide +kernel
theorem dX8_parts_6 : decode cX8_parts 6 = .ok (.iconst 4, 1) := by decide +kernel
theorem dX8_parts_7 : decode cX8_parts 7 = .ok (.if_icmp .ne 43, 3) := by decide +kernel
theorem dX8_parts_10 : decode cX8_parts 10 = .ok (.aload_n 0, 1) := by decide +kernel
theorem dX8_parts_11 : decode cX8_parts 11 = .ok (.getfield 14, 3) := by decide +kernel
theorem dX8_parts_14 : decode cX8_parts 14 = .ok (.bipush 21, 2) := by decide +kernel
theorem dX8_parts_16 : decode cX8_parts 16 = .ok (.invokevirtual 56, 3) := by decide +kernel
theorem dX8_parts_19 : decode cX8_parts 19 = .ok (.pop, 1) := by decide +kernel
theorem dX8_parts_20 : decode cX8_parts 20 = .ok (.aload_n 0, 1) := by decide +kernel
theorem dX8_parts_21 : decode cX8_parts 21 = .ok (.iconst 0, 1) := by decide +kernel
theorem dX8_parts_22 : decode cX8_parts 22 = .ok (.iload_n 2, 1) := by decide +kernel
theorem dX8_parts_23 : decode cX8_parts 23 = .ok (.invokevirtual 53, 3) := by decide +kernel
theorem dX8_parts_26 : decode cX8_parts 26 = .ok (.istore_n 3, 1) := by decide +kernel
theorem dX8_parts_27 : decode cX8_parts 27 = .ok (.aload_n 0, 1) := by decide +kernel
theorem dX8_parts_28 : decode cX8_parts 28 = .ok (.getfield 23, 3) := by decide +kernel
theorem dX8_parts_31 : decode cX8_parts 31 = .ok (.ifCond .eq 7, 3) := by decide +kernel
theorem dX8_parts_34 : decode cX8_parts 34 = .ok (.iconst 0, 1) := by decide +kernel
theorem dX8_parts_35 : decode cX8_parts 35 = .ok (.goto 14, 3) := by decide +kernel
theorem dX8_parts_38 : decode cX8_parts 38 = .ok (.iload_n 3, 1) := by decide +kernel
theorem dX8_parts_39 : decode cX8_parts 39 = .ok (.aload_n 0, 1) := by decide +kernel
theorem dX8_parts_40 : decode cX8_parts 40 = .ok (.aload_n 0, 1) := by decide +kernel
theorem dX8_parts_41 : decode cX8_parts 41 = .ok (.getfield 33, 3) := by decide +kernel
theorem dX8_parts_44 : decode cX8_parts 44 = .ok (.iconst 1, 1) := by decide +kernel
theorem dX8_parts_45 : decode cX8_parts 45 = .ok (.invokevirtual 47, 3) := by decide +kernel
theorem dX8_parts_48 : decode cX8_parts 48 = .ok (.iadd, 1) := by decide +kernel
theorem dX8_parts_49 : decode cX8_parts 49 = .ok (.ireturn, 1) := by decide +kernel
theorem dX8_parts_50 : decode cX8_parts 50 = .ok (.aload_n 0, 1) := by decide +kernel
theorem dX8_parts_51 : decode cX8_parts 51 = .ok (.getfield 14, 3) := by decide +kernel
theorem dX8_parts_54 : decode cX8_parts 54 = .ok (.bipush 13, 2) := by decide +kernel
theorem dX8_parts_56 : decode cX8_parts 56 = .ok (.invokevirtual 56, 3) := by decide +kernel
theorem dX8_parts_59 : decode cX8_parts 59 = .ok (.pop, 1) := by decide +kernel
theorem dX8_parts_60 : decode cX8_parts 60 = .ok (.aload_n 0, 1) := by decide +kernel
theorem dX8_parts_61 : decode cX8_parts 61 = .ok (.getfield 42, 3) := by decide +kernel
theorem dX8_parts_64 : decode cX8_parts 64 = .ok (.aload_n 0, 1) := by decide +kernel
theorem dX8_parts_65 : decode cX8_parts 65 = .ok (.getfield 36, 3) := by decide +kernel
theorem dX8_parts_68 : decode cX8_parts 68 = .ok (.isub, 1) := by decide +kernel
theorem dX8_parts_69 : decode cX8_parts 69 = .ok (.istore_n 3, 1) := by decide +kernel
theorem dX8_parts_70 : decode cX8_parts 70 = .ok (.aload_n 0, 1) := by decide +kernel
theorem dX8_parts_71 : decode cX8_parts 71 = .ok (.iload_n 3, 1) := by decide +kernel
theorem dX8_parts_72 : decode cX8_parts 72 = .ok (.ifCond .ne 7, 3) := by decide +kernel
theorem dX8_parts_75 : decode cX8_parts 75 = .ok (.iconst 1, 1) := by decide +kernel
theorem dX8_parts_76 : decode cX8_parts 76 = .ok (.goto 4, 3) := by decide +kernel
theorem dX8_parts_79 : decode cX8_parts 79 = .ok (.iconst 0, 1) := by decide +kernel
theorem dX8_parts_80 : decode cX8_parts 80 = .ok (.putfield 23, 3) := by decide +kernel
theorem dX8_parts_83 : decode cX8_parts 83 = .ok (.iload_n 3, 1) := by decide +kernel
theorem dX8_parts_84 : decode cX8_parts 84 = .ok (.ifCond .ne 7, 3) := by decide +kernel
theorem dX8_parts_87 : decode cX8_parts 87 = .ok (.iconst 0, 1) := by decide +kernel
theorem dX8_parts_88 : decode cX8_parts 88 = .ok (.goto 6, 3) := by decide +kernel
theorem dX8_parts_91 : decode cX8_parts 91 = .ok (.iload_n 2, 1) := by decide +kernel
theorem dX8_parts_92 : decode cX8_parts 92 = .ok (.iload_n 3, 1) := by decide +kernel
theorem dX8_parts_93 : decode cX8_parts 93 = .ok (.idiv, 1) := by decide +kernel
theorem dX8_parts_94 : decode cX8_parts 94 = .ok (.ireturn, 1) := by decide +kernel
theorem dX9_init_0 : decode cX9_init 0 = .ok (.aload_n 0, 1) := by decide +kernel
theorem dX9_init_1 : decode cX9_init 1 = .ok (.invokespecial 3, 3) := by decide +kernel
theorem dX9_init_4 : decode cX9_init 4 = .ok (.aload_n 0, 1) := by decide +kernel
theorem dX9_init_5 : decode cX9_init 5 = .ok (.new 9, 3) := by decide +kernel
theorem dX9_init_8 : decode cX9_init 8 = .ok (.dup, 1) := by decide +kernel
theorem dX9_init_9 : decode cX9_init 9 = .ok (.invokespecial 11, 3) := by decide +kernel
theorem dX9_init_12 : decode cX9_init 12 = .ok (.putfield 12, 3) := by decide +kernel
theorem dX9_init_15 : decode cX9_init 15 = .ok (.aload_n 0, 1) := by decide +kernel
theorem dX9_init_16 : decode cX9_init 16 = .ok (.new 16, 3) := by decide +kernel
theorem dX9_init_19 : decode cX9_init 19 = .ok (.dup, 1) := by decide +kernel
theorem dX9_init_20 : decode cX9_init 20 = .ok (.aload_n 0, 1) := by decide +kernel
theorem dX9_init_21 : decode cX9_init 21 = .ok (.getfield 12, 3) := by decide +kernel
theorem dX9_init_24 : decode cX9_init 24 = .ok (.getfield 18, 3) := by decide +kernel
theorem dX9_init_27 : decode cX9_init 27 = .ok (.invokespecial 22, 3) := by decide +kernel
theorem dX9_init_30 : decode cX9_init 30 = .ok (.putfield 25, 3) := by decide +kernel
theorem dX9_init_33 : decode cX9_init 33 = .ok (.aload_n 0, 1) := by decide +kernel
theorem dX9_init_34 : decode cX9_init 34 = .ok (.new 29, 3) := by decide +kernel
theorem dX9_init_37 : decode cX9_init 37 = .ok (.dup, 1) := by decide +kernel
theorem dX9_init_38 : decode cX9_init 38 = .ok (.aload_n 0, 1) := by decide +kernel
theorem dX9_init_39 : decode cX9_init 39 = .ok (.getfield 12, 3) := by decide +kernel
theorem dX9_init_42 : decode cX9_init 42 = .ok (.invokespecial 31, 3) := by decide +kernel
theorem dX9_init_45 : decode cX9_init 45 = .ok (.putfield 34, 3) := by decide +kernel
theorem dX9_init_48 : decode cX9_init 48 = .ok (.aload_n 0, 1) := by decide +kernel
theorem dX9_init_49 : decode cX9_init 49 = .ok (.new 38, 3) := by decide +kernel
theorem dX9_init_52 : decode cX9_init 52 = .ok (.dup, 1) := by decide +kernel
theorem dX9_init_53 : decode cX9_init 53 = .ok (.invokespecial 40, 3) := by decide +kernel
theorem dX9_init_56 : decode cX9_init 56 = .ok (.putfield 41, 3) := by decide +kernel
theorem dX9_init_59 : decode cX9_init 59 = .ok (.aload_n 0, 1) := by decide +kernel
theorem dX9_init_60 : decode cX9_init 60 = .ok (.iconst 4, 1) := by decide +kernel
theorem dX9_init_61 : decode cX9_init 61 = .ok (.anewarray 45, 3) := by decide +kernel
theorem dX9_init_64 : decode cX9_init 64 = .ok (.putfield 47, 3) := by decide +kernel
theorem dX9_init_67 : decode cX9_init 67 = .ok (.aload_n 0, 1) := by decide +kernel
theorem dX9_init_68 : decode cX9_init 68 = .ok (.bipush 7, 2) := by decide +kernel
theorem dX9_init_70 : decode cX9_init 70 = .ok (.newarray .int, 2) := by decide +kernel
theorem dX9_init_72 : decode cX9_init 72 = .ok (.putfield 51, 3) := by decide +kernel
theorem dX9_init_75 : decode cX9_init 75 = .ok (.iconst 0, 1) := by decide +kernel
theorem dX9_init_76 : decode cX9_init 76 = .ok (.istore_n 1, 1) := by decide +kernel
theorem dX9_init_77 : decode cX9_init 77 = .ok (.iload_n 1, 1) := by decide +kernel
theorem dX9_init_78 : decode cX9_init 78 = .ok (.iconst 4, 1) := by decide +kernel
theorem dX9_init_79 : decode cX9_init 79 = .ok (.if_icmp .ge 22, 3) := by decide +kernel
theorem dX9_init_82 : decode cX9_init 82 = .ok (.aload_n 0, 1) := by decide +kernel
theorem dX9_init_83 : decode cX9_init 83 = .ok (.getfield 47, 3) := by decide +kernel
theorem dX9_init_86 : decode cX9_init 86 = .ok (.iload_n 1, 1) := by decide +kernel
theorem dX9_init_87 : decode cX9_init 87 = .ok (.new 45, 3) := by decide +kernel
theorem dX9_init_90 : decode cX9_init 90 = .ok (.dup, 1) := by decide +kernel
theorem dX9_init_91 : decode cX9_init 91 = .ok (.invokespecial 55, 3) := by decide +kernel
theorem dX9_init_94 : decode cX9_init 94 = .ok (.aastore, 1) := by decide +kernel
theorem dX9_init_95 : decode cX9_init 95 = .ok (.iinc 1 1, 3) := by decide +kernel
theorem dX9_init_98 : decode cX9_init 98 = .ok (.goto (-21), 3) := by decide +kernel
theorem dX9_init_101 : decode cX9_init 101 = .ok (.return_, 1) := by decide +kernel
theorem dX9_person_0 : decode cX9_person 0 = .ok (.iload_n 1, 1) := by decide +kernel
theorem dX9_person_1 : decode cX9_person 1 = .ok (.invokestatic 56, 3) := by decide +kernel
theorem dX9_person_4 : decode cX9_person 4 = .ok (.ifCond .eq 11, 3) := by decide +kernel
theorem dX9_person_7 : decode cX9_person 7 = .ok (.iload_n 2, 1) := by decide +kernel
theorem dX9_person_8 : decode cX9_person 8 = .ok (.iload_n 3, 1) := by decide +kernel
theorem dX9_person_9 : decode cX9_person 9 = .ok (.invokestatic 60, 3) := by decide +kernel
theorem dX9_person_12 : decode cX9_person 12 = .ok (.ifCond .ne 10, 3) := by decide +kernel
theorem dX9_person_15 : decode cX9_person 15 = .ok (.aload_n 0, 1) := by decide +kernel
theorem dX9_person_16 : decode cX9_person 16 = .ok (.ldc 64, 2) := by decide +kernel
theorem dX9_person_18 : decode cX9_person 18 = .ok (.invokevirtual 65, 3) := by decide +kernel
theorem dX9_person_21 : decode cX9_person 21 = .ok (.ireturn, 1) := by decide +kernel
theorem dX9_person_22 : decode cX9_person 22 = .ok (.aload_n 0, 1) := by decide +kernel
theorem dX9_person_23 : decode cX9_person 23 = .ok (.getfield 12, 3) := by decide +kernel
theorem dX9_person_26 : decode cX9_person 26 = .ok (.getfield 69, 3) := by decide +kernel
theorem dX9_person_29 : decode cX9_person 29 = .ok (.bipush 6, 2) := by decide +kernel
theorem dX9_person_31 : decode cX9_person 31 = .ok (.if_icmp .lt 10, 3) := by decide +kernel
theorem dX9_person_34 : decode cX9_person 34 = .ok (.aload_n 0, 1) := by decide +kernel
theorem dX9_person_35 : decode cX9_person 35 = .ok (.ldc 73, 2) := by decide +kernel
theorem dX9_person_37 : decode cX9_person 37 = .ok (.invokevirtual 65, 3) := by decide +kernel
theorem dX9_person_40 : decode cX9_person 40 = .ok (.ireturn, 1) := by decide +kernel
theorem dX9_person_41 : decode cX9_person 41 = .ok (.aload_n 0, 1) := by decide +kernel
theorem dX9_person_42 : decode cX9_person 42 = .ok (.getfield 12, 3) := by decide +kernel
theorem dX9_person_45 : decode cX9_person 45 = .ok (.getfield 69, 3) := by decide +kernel
theorem dX9_person_48 : decode cX9_person 48 = .ok (.istore 4, 2) := by decide +kernel
theorem dX9_person_50 : decode cX9_person 50 = .ok (.aload_n 0, 1) := by decide +kernel
theorem dX9_person_51 : decode cX9_person 51 = .ok (.getfield 12, 3) := by decide +kernel
theorem dX9_person_54 : decode cX9_person 54 = .ok (.getfield 74, 3) := by decide +kernel
theorem dX9_person_57 : decode cX9_person 57 = .ok (.iload 4, 2) := by decide +kernel
theorem dX9_person_59 : decode cX9_person 59 = .ok (.aaload, 1) := by decide +kernel
theorem dX9_person_60 : decode cX9_person 60 = .ok (.astore 5, 2) := by decide +kernel
theorem dX9_person_62 : decode cX9_person 62 = .ok (.aload 5, 2) := by decide +kernel
theorem dX9_person_64 : decode cX9_person 64 = .ok (.iload_n 1, 1) := by decide +kernel
theorem dX9_person_65 : decode cX9_person 65 = .ok (.invokevirtual 78, 3) := by decide +kernel
theorem dX9_person_68 : decode cX9_person 68 = .ok (.aload 5, 2) := by decide +kernel
theorem dX9_person_70 : decode cX9_person 70 = .ok (.iload_n 2, 1) := by decide +kernel
theorem dX9_person_71 : decode cX9_person 71 = .ok (.putfield 84, 3) := by decide +kernel
theorem dX9_person_74 : decode cX9_person 74 = .ok (.aload 5, 2) := by decide +kernel
theorem dX9_person_76 : decode cX9_person 76 = .ok (.iload_n 3, 1) := by decide +kernel
theorem dX9_person_77 : decode cX9_person 77 = .ok (.putfield 87, 3) := by decide +kernel
theorem dX9_person_80 : decode cX9_person 80 = .ok (.aload_n 0, 1) := by decide +kernel
theorem dX9_person_81 : decode cX9_person 81 = .ok (.getfield 12, 3) := by decide +kernel
theorem dX9_person_84 : decode cX9_person 84 = .ok (.dup, 1) := by decide +kernel
theorem dX9_person_85 : decode cX9_person 85 = .ok (.getfield 69, 3) := by decide +kernel
theorem dX9_person_88 : decode cX9_person 88 = .ok (.iconst 1, 1) := by decide +kernel
theorem dX9_person_89 : decode cX9_person 89 = .ok (.iadd, 1) := by decide +kernel
theorem dX9_person_90 : decode cX9_person 90 = .ok (.putfield 69, 3) := by decide +kernel
theorem dX9_person_93 : decode cX9_person 93 = .ok (.iload 4, 2) := by decide +kernel
theorem dX9_person_95 : decode cX9_person 95 = .ok (.ireturn, 1) := by decide +kernel
theorem dX9_personIs_0 : decode cX9_personIs 0 = .ok (.aload_n 0, 1) := by decide +kernel
theorem dX9_personIs_1 : decode cX9_personIs 1 = .ok (.getfield 12, 3) := by decide +kernel
theorem dX9_personIs_4 : decode cX9_personIs 4 = .ok (.iload_n 1, 1) := by decide +kernel
theorem dX9_personIs_5 : decode cX9_personIs 5 = .ok (.invokevirtual 90, 3) := by decide +kernel
theorem dX9_personIs_8 : decode cX9_personIs 8 = .ok (.ifCond .eq 12, 3) := by decide +kernel
theorem dX9_personIs_11 : decode cX9_personIs 11 = .ok (.iload_n 2, 1) := by decide +kernel
theorem dX9_personIs_12 : decode cX9_personIs 12 = .ok (.iconst 0, 1) := by decide +kernel
theorem dX9_personIs_13 : decode cX9_personIs 13 = .ok (.iconst 4, 1) := by decide +kernel
theorem dX9_personIs_14 : decode cX9_personIs 14 = .ok (.invokestatic 93, 3) := by decide +kernel
theorem dX9_personIs_17 : decode cX9_personIs 17 = .ok (.ifCond .ne 10, 3) := by decide +kernel
theorem dX9_personIs_20 : decode cX9_personIs 20 = .ok (.aload_n 0, 1) := by decide +kernel
theorem dX9_personIs_21 : decode cX9_personIs 21 = .ok (.ldc 64, 2) := by decide +kernel
theorem dX9_personIs_23 : decode cX9_personIs 23 = .ok (.invokevirtual 65, 3) := by decide +kernel
theorem dX9_personIs_26 : decode cX9_personIs 26 = .ok (.ireturn, 1) := by decide +kernel
theorem dX9_personIs_27 : decode cX9_personIs 27 = .ok (.aload_n 0, 1) := by decide +kernel
theorem dX9_personIs_28 : decode cX9_personIs 28 = .ok (.getfield 12, 3) := by decide +kernel
theorem dX9_personIs_31 : decode cX9_personIs 31 = .ok (.getfield 74, 3) := by decide +kernel
theorem dX9_personIs_34 : decode cX9_personIs 34 = .ok (.iload_n 1, 1) := by decide +kernel
theorem dX9_personIs_35 : decode cX9_personIs 35 = .ok (.aaload, 1) := by decide +kernel
theorem dX9_personIs_36 : decode cX9_personIs 36 = .ok (.astore_n 3, 1) := by decide +kernel
theorem dX9_personIs_37 : decode cX9_personIs 37 = .ok (.iload_n 2, 1) := by decide +kernel
theorem dX9_personIs_38 : decode cX9_personIs 38 = .ok (.tableswitch 50 0 3 #[30, 35, 40, 45], 30) := by decide +kernel
theorem dX9_personIs_68 : decode cX9_personIs 68 = .ok (.aload_n 3, 1) := by decide +kernel
theorem dX9_personIs_69 : decode cX9_personIs 69 = .ok (.getfield 97, 3) := by decide +kernel
theorem dX9_personIs_72 : decode cX9_personIs 72 = .ok (.ireturn, 1) := by decide +kernel
theorem dX9_personIs_73 : decode cX9_personIs 73 = .ok (.aload_n 3, 1) := by decide +kernel
theorem dX9_personIs_74 : decode cX9_personIs 74 = .ok (.getfield 100, 3) := by decide +kernel
theorem dX9_personIs_77 : decode cX9_personIs 77 = .ok (.ireturn, 1) := by decide +kernel
theorem dX9_personIs_78 : decode cX9_personIs 78 = .ok (.aload_n 3, 1) := by decide +kernel
theorem dX9_personIs_79 : decode cX9_personIs 79 = .ok (.getfield 84, 3) := by decide +kernel
theorem dX9_personIs_82 : decode cX9_personIs 82 = .ok (.ireturn, 1) := by decide +kernel
theorem dX9_personIs_83 : decode cX9_personIs 83 = .ok (.aload_n 3, 1) := by decide +kernel
theorem dX9_personIs_84 : decode cX9_personIs 84 = .ok (.getfield 87, 3) := by decide +kernel
theorem dX9_personIs_87 : decode cX9_personIs 87 = .ok (.ireturn, 1) := by decide +kernel
theorem dX9_personIs_88 : decode cX9_personIs 88 = .ok (.aload_n 0, 1) := by decide +kernel
theorem dX9_personIs_89 : decode cX9_personIs 89 = .ok (.getfield 12, 3) := by decide +kernel
theorem dX9_personIs_92 : decode cX9_personIs 92 = .ok (.iload_n 1, 1) := by decide +kernel
theorem dX9_personIs_93 : decode cX9_personIs 93 = .ok (.aload_n 0, 1) := by decide +kernel
theorem dX9_personIs_94 : decode cX9_personIs 94 = .ok (.getfield 12, 3) := by decide +kernel
theorem dX9_personIs_97 : decode cX9_personIs 97 = .ok (.getfield 103, 3) := by decide +kernel
theorem dX9_personIs_100 : decode cX9_personIs 100 = .ok (.invokevirtual 106, 3) := by decide +kernel
theorem dX9_personIs_103 : decode cX9_personIs 103 = .ok (.ifCond .eq 7, 3) := by decide +kernel
theorem dX9_personIs_106 : decode cX9_personIs 106 = .ok (.iconst 1, 1) := by decide +kernel
theorem dX9_personIs_107 : decode cX9_personIs 107 = .ok (.goto 4, 3) := by decide +kernel
theorem dX9_personIs_110 : decode cX9_personIs 110 = .ok (.iconst 0, 1) := by decide +kernel
theorem dX9_personIs_111 : decode cX9_personIs 111 = .ok (.ireturn, 1) := by decide +kernel
theorem dX9_become_0 : decode cX9_become 0 = .ok (.aload_n 0, 1) := by decide +kernel
theorem dX9_become_1 : decode cX9_become 1 = .ok (.getfield 12, 3) := by decide +kernel
theorem dX9_become_4 : decode cX9_become 4 = .ok (.iload_n 1, 1) := by decide +kernel
theorem dX9_become_5 : decode cX9_become 5 = .ok (.invokevirtual 90, 3) := by decide +kernel
theorem dX9_become_8 : decode cX9_become 8 = .ok (.ifCond .eq 10, 3) := by decide +kernel
theorem dX9_become_11 : decode cX9_become 11 = .ok (.iload_n 2, 1) := by decide +kernel
theorem dX9_become_12 : decode cX9_become 12 = .ok (.invokestatic 56, 3) := by decide +kernel
theorem dX9_become_15 : decode cX9_become 15 = .ok (.ifCond .ne 10, 3) := by decide +kernel
theorem dX9_become_18 : decode cX9_become 18 = .ok (.aload_n 0, 1) := by decide +kernel
theorem dX9_become_19 : decode cX9_become 19 = .ok (.ldc 64, 2) := by decide +kernel
theorem dX9_become_21 : decode cX9_become 21 = .ok (.invokevirtual 65, 3) := by decide +kernel
theorem dX9_become_24 : decode cX9_become 24 = .ok (.ireturn, 1) := by decide +kernel
theorem dX9_become_25 : decode cX9_become 25 = .ok (.aload_n 0, 1) := by decide +kernel
theorem dX9_become_26 : decode cX9_become 26 = .ok (.getfield 12, 3) := by decide +kernel
theorem dX9_become_29 : decode cX9_become 29 = .ok (.getfield 74, 3) := by decide +kernel
theorem dX9_become_32 : decode cX9_become 32 = .ok (.iload_n 1, 1) := by decide +kernel
theorem dX9_become_33 : decode cX9_become 33 = .ok (.aaload, 1) := by decide +kernel
theorem dX9_become_34 : decode cX9_become 34 = .ok (.astore_n 3, 1) := by decide +kernel
theorem dX9_become_35 : decode cX9_become 35 = .ok (.aload_n 3, 1) := by decide +kernel
theorem dX9_become_36 : decode cX9_become 36 = .ok (.getfield 97, 3) := by decide +kernel
theorem dX9_become_39 : decode cX9_become 39 = .ok (.istore 4, 2) := by decide +kernel
theorem dX9_become_41 : decode cX9_become 41 = .ok (.aload_n 3, 1) := by decide +kernel
theorem dX9_become_42 : decode cX9_become 42 = .ok (.iload_n 2, 1) := by decide +kernel
theorem dX9_become_43 : decode cX9_become 43 = .ok (.invokevirtual 78, 3) := by decide +kernel
theorem dX9_become_46 : decode cX9_become 46 = .ok (.iload 4, 2) := by decide +kernel
theorem dX9_become_48 : decode cX9_become 48 = .ok (.ireturn, 1) := by decide +kernel
theorem dX9_as_0 : decode cX9_as 0 = .ok (.aload_n 0, 1) := by decide +kernel
theorem dX9_as_1 : decode cX9_as 1 = .ok (.getfield 12, 3) := by decide +kernel
theorem dX9_as_4 : decode cX9_as 4 = .ok (.iload_n 1, 1) := by decide +kernel
theorem dX9_as_5 : decode cX9_as 5 = .ok (.invokevirtual 90, 3) := by decide +kernel
theorem dX9_as_8 : decode cX9_as 8 = .ok (.ifCond .eq 13, 3) := by decide +kernel
theorem dX9_as_11 : decode cX9_as 11 = .ok (.iload_n 2, 1) := by decide +kernel
theorem dX9_as_12 : decode cX9_as 12 = .ok (.iconst 0, 1) := by decide +kernel
theorem dX9_as_13 : decode cX9_as 13 = .ok (.bipush 6, 2) := by decide +kernel
theorem dX9_as_15 : decode cX9_as 15 = .ok (.invokestatic 93, 3) := by decide +kernel
theorem dX9_as_18 : decode cX9_as 18 = .ok (.ifCond .ne 10, 3) := by decide +kernel
theorem dX9_as_21 : decode cX9_as 21 = .ok (.aload_n 0, 1) := by decide +kernel
theorem dX9_as_22 : decode cX9_as 22 = .ok (.ldc 64, 2) := by decide +kernel
theorem dX9_as_24 : decode cX9_as 24 = .ok (.invokevirtual 65, 3) := by decide +kernel
theorem dX9_as_27 : decode cX9_as 27 = .ok (.ireturn, 1) := by decide +kernel
theorem dX9_as_28 : decode cX9_as 28 = .ok (.aload_n 0, 1) := by decide +kernel
theorem dX9_as_29 : decode cX9_as 29 = .ok (.getfield 12, 3) := by decide +kernel
theorem dX9_as_32 : decode cX9_as 32 = .ok (.getfield 74, 3) := by decide +kernel
theorem dX9_as_35 : decode cX9_as 35 = .ok (.iload_n 1, 1) := by decide +kernel
theorem dX9_as_36 : decode cX9_as 36 = .ok (.aaload, 1) := by decide +kernel
theorem dX9_as_37 : decode cX9_as 37 = .ok (.astore_n 3, 1) := by decide +kernel
theorem dX9_as_38 : decode cX9_as 38 = .ok (.aload_n 3, 1) := by decide +kernel
theorem dX9_as_39 : decode cX9_as 39 = .ok (.getfield 97, 3) := by decide +kernel
theorem dX9_as_42 : decode cX9_as 42 = .ok (.iload_n 2, 1) := by decide +kernel
theorem dX9_as_43 : decode cX9_as 43 = .ok (.invokestatic 109, 3) := by decide +kernel
theorem dX9_as_46 : decode cX9_as 46 = .ok (.ifCond .ne 10, 3) := by decide +kernel
theorem dX9_as_49 : decode cX9_as 49 = .ok (.aload_n 0, 1) := by decide +kernel
theorem dX9_as_50 : decode cX9_as 50 = .ok (.ldc 112, 2) := by decide +kernel
theorem dX9_as_52 : decode cX9_as 52 = .ok (.invokevirtual 65, 3) := by decide +kernel
theorem dX9_as_55 : decode cX9_as 55 = .ok (.ireturn, 1) := by decide +kernel
theorem dX9_as_56 : decode cX9_as 56 = .ok (.aload_n 3, 1) := by decide +kernel
theorem dX9_as_57 : decode cX9_as 57 = .ok (.getfield 100, 3) := by decide +kernel
theorem dX9_as_60 : decode cX9_as 60 = .ok (.ireturn, 1) := by decide +kernel
theorem dX9_beats_0 : decode cX9_beats 0 = .ok (.aload_n 0, 1) := by decide +kernel
theorem dX9_beats_1 : decode cX9_beats 1 = .ok (.getfield 12, 3) := by decide +kernel
theorem dX9_beats_4 : decode cX9_beats 4 = .ok (.iload_n 1, 1) := by decide +kernel
theorem dX9_beats_5 : decode cX9_beats 5 = .ok (.invokevirtual 90, 3) := by decide +kernel
theorem dX9_beats_8 : decode cX9_beats 8 = .ok (.ifCond .eq 11, 3) := by decide +kernel
theorem dX9_beats_11 : decode cX9_beats 11 = .ok (.iload_n 2, 1) := by decide +kernel
theorem dX9_beats_12 : decode cX9_beats 12 = .ok (.iload_n 3, 1) := by decide +kernel
theorem dX9_beats_13 : decode cX9_beats 13 = .ok (.invokestatic 60, 3) := by decide +kernel
theorem dX9_beats_16 : decode cX9_beats 16 = .ok (.ifCond .ne 10, 3) := by decide +kernel
theorem dX9_beats_19 : decode cX9_beats 19 = .ok (.aload_n 0, 1) := by decide +kernel
theorem dX9_beats_20 : decode cX9_beats 20 = .ok (.ldc 64, 2) := by decide +kernel
theorem dX9_beats_22 : decode cX9_beats 22 = .ok (.invokevirtual 65, 3) := by decide +kernel
theorem dX9_beats_25 : decode cX9_beats 25 = .ok (.ireturn, 1) := by decide +kernel
theorem dX9_beats_26 : decode cX9_beats 26 = .ok (.aload_n 0, 1) := by decide +kernel
theorem dX9_beats_27 : decode cX9_beats 27 = .ok (.getfield 12, 3) := by decide +kernel
theorem dX9_beats_30 : decode cX9_beats 30 = .ok (.getfield 74, 3) := by decide +kernel
theorem dX9_beats_33 : decode cX9_beats 33 = .ok (.iload_n 1, 1) := by decide +kernel
theorem dX9_beats_34 : decode cX9_beats 34 = .ok (.aaload, 1) := by decide +kernel
theorem dX9_beats_35 : decode cX9_beats 35 = .ok (.astore 4, 2) := by decide +kernel
theorem dX9_beats_37 : decode cX9_beats 37 = .ok (.aload 4, 2) := by decide +kernel
theorem dX9_beats_39 : decode cX9_beats 39 = .ok (.getfield 84, 3) := by decide +kernel
theorem dX9_beats_42 : decode cX9_beats 42 = .ok (.istore 5, 2) := by decide +kernel
theorem dX9_beats_44 : decode cX9_beats 44 = .ok (.aload 4, 2) := by decide +kernel
theorem dX9_beats_46 : decode cX9_beats 46 = .ok (.iload_n 2, 1) := by decide +kernel
theorem dX9_beats_47 : decode cX9_beats 47 = .ok (.putfield 84, 3) := by decide +kernel
theorem dX9_beats_50 : decode cX9_beats 50 = .ok (.aload 4, 2) := by decide +kernel
theorem dX9_beats_52 : decode cX9_beats 52 = .ok (.iload_n 3, 1) := by decide +kernel
theorem dX9_beats_53 : decode cX9_beats 53 = .ok (.putfield 87, 3) := by decide +kernel
theorem dX9_beats_56 : decode cX9_beats 56 = .ok (.iload 5, 2) := by decide +kernel
theorem dX9_beats_58 : decode cX9_beats 58 = .ok (.ireturn, 1) := by decide +kernel
theorem dX9_doing_0 : decode cX9_doing 0 = .ok (.aload_n 0, 1) := by decide +kernel
theorem dX9_doing_1 : decode cX9_doing 1 = .ok (.getfield 12, 3) := by decide +kernel
theorem dX9_doing_4 : decode cX9_doing 4 = .ok (.iload_n 1, 1) := by decide +kernel
theorem dX9_doing_5 : decode cX9_doing 5 = .ok (.invokevirtual 90, 3) := by decide +kernel
theorem dX9_doing_8 : decode cX9_doing 8 = .ok (.ifCond .eq 29, 3) := by decide +kernel
theorem dX9_doing_11 : decode cX9_doing 11 = .ok (.iload_n 2, 1) := by decide +kernel
theorem dX9_doing_12 : decode cX9_doing 12 = .ok (.invokestatic 113, 3) := by decide +kernel
theorem dX9_doing_15 : decode cX9_doing 15 = .ok (.ifCond .eq 22, 3) := by decide +kernel
theorem dX9_doing_18 : decode cX9_doing 18 = .ok (.aload_n 0, 1) := by decide +kernel
theorem dX9_doing_19 : decode cX9_doing 19 = .ok (.getfield 12, 3) := by decide +kernel
theorem dX9_doing_22 : decode cX9_doing 22 = .ok (.iload_n 3, 1) := by decide +kernel
theorem dX9_doing_23 : decode cX9_doing 23 = .ok (.invokevirtual 116, 3) := by decide +kernel
theorem dX9_doing_26 : decode cX9_doing 26 = .ok (.ifCond .eq 11, 3) := by decide +kernel
theorem dX9_doing_29 : decode cX9_doing 29 = .ok (.iload_n 3, 1) := by decide +kernel
theorem dX9_doing_30 : decode cX9_doing 30 = .ok (.iload_n 1, 1) := by decide +kernel
theorem dX9_doing_31 : decode cX9_doing 31 = .ok (.invokestatic 119, 3) := by decide +kernel
theorem dX9_doing_34 : decode cX9_doing 34 = .ok (.ifCond .eq 10, 3) := by decide +kernel
theorem dX9_doing_37 : decode cX9_doing 37 = .ok (.aload_n 0, 1) := by decide +kernel
theorem dX9_doing_38 : decode cX9_doing 38 = .ok (.ldc 64, 2) := by decide +kernel
theorem dX9_doing_40 : decode cX9_doing 40 = .ok (.invokevirtual 65, 3) := by decide +kernel
theorem dX9_doing_43 : decode cX9_doing 43 = .ok (.ireturn, 1) := by decide +kernel
theorem dX9_doing_44 : decode cX9_doing 44 = .ok (.aload_n 0, 1) := by decide +kernel
theorem dX9_doing_45 : decode cX9_doing 45 = .ok (.getfield 12, 3) := by decide +kernel
theorem dX9_doing_48 : decode cX9_doing 48 = .ok (.getfield 122, 3) := by decide +kernel
theorem dX9_doing_51 : decode cX9_doing 51 = .ok (.bipush 6, 2) := by decide +kernel
theorem dX9_doing_53 : decode cX9_doing 53 = .ok (.if_icmp .lt 10, 3) := by decide +kernel
theorem dX9_doing_56 : decode cX9_doing 56 = .ok (.aload_n 0, 1) := by decide +kernel
theorem dX9_doing_57 : decode cX9_doing 57 = .ok (.ldc 73, 2) := by decide +kernel
theorem dX9_doing_59 : decode cX9_doing 59 = .ok (.invokevirtual 65, 3) := by decide +kernel
theorem dX9_doing_62 : decode cX9_doing 62 = .ok (.ireturn, 1) := by decide +kernel
theorem dX9_doing_63 : decode cX9_doing 63 = .ok (.aload_n 0, 1) := by decide +kernel
theorem dX9_doing_64 : decode cX9_doing 64 = .ok (.getfield 12, 3) := by decide +kernel
theorem dX9_doing_67 : decode cX9_doing 67 = .ok (.getfield 122, 3) := by decide +kernel
theorem dX9_doing_70 : decode cX9_doing 70 = .ok (.istore 4, 2) := by decide +kernel
theorem dX9_doing_72 : decode cX9_doing 72 = .ok (.aload_n 0, 1) := by decide +kernel
theorem dX9_doing_73 : decode cX9_doing 73 = .ok (.getfield 12, 3) := by decide +kernel
theorem dX9_doing_76 : decode cX9_doing 76 = .ok (.getfield 125, 3) := by decide +kernel
theorem dX9_doing_79 : decode cX9_doing 79 = .ok (.iload 4, 2) := by decide +kernel
theorem dX9_doing_81 : decode cX9_doing 81 = .ok (.aaload, 1) := by decide +kernel
theorem dX9_doing_82 : decode cX9_doing 82 = .ok (.astore 5, 2) := by decide +kernel
theorem dX9_doing_84 : decode cX9_doing 84 = .ok (.aload 5, 2) := by decide +kernel
theorem dX9_doing_86 : decode cX9_doing 86 = .ok (.iload_n 1, 1) := by decide +kernel
theorem dX9_doing_87 : decode cX9_doing 87 = .ok (.putfield 129, 3) := by decide +kernel
theorem dX9_doing_90 : decode cX9_doing 90 = .ok (.aload 5, 2) := by decide +kernel
theorem dX9_doing_92 : decode cX9_doing 92 = .ok (.iload_n 2, 1) := by decide +kernel
theorem dX9_doing_93 : decode cX9_doing 93 = .ok (.putfield 134, 3) := by decide +kernel
theorem dX9_doing_96 : decode cX9_doing 96 = .ok (.aload 5, 2) := by decide +kernel
theorem dX9_doing_98 : decode cX9_doing 98 = .ok (.iload_n 3, 1) := by decide +kernel
theorem dX9_doing_99 : decode cX9_doing 99 = .ok (.putfield 137, 3) := by decide +kernel
theorem dX9_doing_102 : decode cX9_doing 102 = .ok (.aload_n 0, 1) := by decide +kernel
theorem dX9_doing_103 : decode cX9_doing 103 = .ok (.getfield 12, 3) := by decide +kernel
theorem dX9_doing_106 : decode cX9_doing 106 = .ok (.dup, 1) := by decide +kernel
theorem dX9_doing_107 : decode cX9_doing 107 = .ok (.getfield 122, 3) := by decide +kernel
theorem dX9_doing_110 : decode cX9_doing 110 = .ok (.iconst 1, 1) := by decide +kernel
theorem dX9_doing_111 : decode cX9_doing 111 = .ok (.iadd, 1) := by decide +kernel
theorem dX9_doing_112 : decode cX9_doing 112 = .ok (.putfield 122, 3) := by decide +kernel
theorem dX9_doing_115 : decode cX9_doing 115 = .ok (.iload 4, 2) := by decide +kernel
theorem dX9_doing_117 : decode cX9_doing 117 = .ok (.ireturn, 1) := by decide +kernel
theorem dX9_doingIs_0 : decode cX9_doingIs 0 = .ok (.aload_n 0, 1) := by decide +kernel
theorem dX9_doingIs_1 : decode cX9_doingIs 1 = .ok (.getfield 12, 3) := by decide +kernel
theorem dX9_doingIs_4 : decode cX9_doingIs 4 = .ok (.iload_n 1, 1) := by decide +kernel
theorem dX9_doingIs_5 : decode cX9_doingIs 5 = .ok (.invokevirtual 140, 3) := by decide +kernel
theorem dX9_doingIs_8 : decode cX9_doingIs 8 = .ok (.ifCond .eq 12, 3) := by decide +kernel
theorem dX9_doingIs_11 : decode cX9_doingIs 11 = .ok (.iload_n 2, 1) := by decide +kernel
theorem dX9_doingIs_12 : decode cX9_doingIs 12 = .ok (.iconst 0, 1) := by decide +kernel
theorem dX9_doingIs_13 : decode cX9_doingIs 13 = .ok (.iconst 3, 1) := by decide +kernel
theorem dX9_doingIs_14 : decode cX9_doingIs 14 = .ok (.invokestatic 93, 3) := by decide +kernel
theorem dX9_doingIs_17 : decode cX9_doingIs 17 = .ok (.ifCond .ne 10, 3) := by decide +kernel
theorem dX9_doingIs_20 : decode cX9_doingIs 20 = .ok (.aload_n 0, 1) := by decide +kernel
theorem dX9_doingIs_21 : decode cX9_doingIs 21 = .ok (.ldc 64, 2) := by decide +kernel
theorem dX9_doingIs_23 : decode cX9_doingIs 23 = .ok (.invokevirtual 65, 3) := by decide +kernel
theorem dX9_doingIs_26 : decode cX9_doingIs 26 = .ok (.ireturn, 1) := by decide +kernel
theorem dX9_doingIs_27 : decode cX9_doingIs 27 = .ok (.aload_n 0, 1) := by decide +kernel
theorem dX9_doingIs_28 : decode cX9_doingIs 28 = .ok (.getfield 12, 3) := by decide +kernel
theorem dX9_doingIs_31 : decode cX9_doingIs 31 = .ok (.getfield 125, 3) := by decide +kernel
theorem dX9_doingIs_34 : decode cX9_doingIs 34 = .ok (.iload_n 1, 1) := by decide +kernel
theorem dX9_doingIs_35 : decode cX9_doingIs 35 = .ok (.aaload, 1) := by decide +kernel
theorem dX9_doingIs_36 : decode cX9_doingIs 36 = .ok (.astore_n 3, 1) := by decide +kernel
theorem dX9_doingIs_37 : decode cX9_doingIs 37 = .ok (.iload_n 2, 1) := by decide +kernel
theorem dX9_doingIs_38 : decode cX9_doingIs 38 = .ok (.tableswitch 41 0 2 #[26, 31, 36], 26) := by decide +kernel
theorem dX9_doingIs_64 : decode cX9_doingIs 64 = .ok (.aload_n 3, 1) := by decide +kernel
theorem dX9_doingIs_65 : decode cX9_doingIs 65 = .ok (.getfield 129, 3) := by decide +kernel
theorem dX9_doingIs_68 : decode cX9_doingIs 68 = .ok (.ireturn, 1) := by decide +kernel
theorem dX9_doingIs_69 : decode cX9_doingIs 69 = .ok (.aload_n 3, 1) := by decide +kernel
theorem dX9_doingIs_70 : decode cX9_doingIs 70 = .ok (.getfield 134, 3) := by decide +kernel
theorem dX9_doingIs_73 : decode cX9_doingIs 73 = .ok (.ireturn, 1) := by decide +kernel
theorem dX9_doingIs_74 : decode cX9_doingIs 74 = .ok (.aload_n 3, 1) := by decide +kernel
theorem dX9_doingIs_75 : decode cX9_doingIs 75 = .ok (.getfield 137, 3) := by decide +kernel
theorem dX9_doingIs_78 : decode cX9_doingIs 78 = .ok (.ireturn, 1) := by decide +kernel
theorem dX9_doingIs_79 : decode cX9_doingIs 79 = .ok (.aload_n 0, 1) := by decide +kernel
theorem dX9_doingIs_80 : decode cX9_doingIs 80 = .ok (.getfield 12, 3) := by decide +kernel
theorem dX9_doingIs_83 : decode cX9_doingIs 83 = .ok (.aload_n 3, 1) := by decide +kernel
theorem dX9_doingIs_84 : decode cX9_doingIs 84 = .ok (.aload_n 3, 1) := by decide +kernel
theorem dX9_doingIs_85 : decode cX9_doingIs 85 = .ok (.getfield 134, 3) := by decide +kernel
theorem dX9_doingIs_88 : decode cX9_doingIs 88 = .ok (.aload_n 0, 1) := by decide +kernel
theorem dX9_doingIs_89 : decode cX9_doingIs 89 = .ok (.getfield 12, 3) := by decide +kernel
theorem dX9_doingIs_92 : decode cX9_doingIs 92 = .ok (.aload_n 0, 1) := by decide +kernel
theorem dX9_doingIs_93 : decode cX9_doingIs 93 = .ok (.getfield 12, 3) := by decide +kernel
theorem dX9_doingIs_96 : decode cX9_doingIs 96 = .ok (.getfield 103, 3) := by decide +kernel
theorem dX9_doingIs_99 : decode cX9_doingIs 99 = .ok (.invokevirtual 143, 3) := by decide +kernel
theorem dX9_doingIs_102 : decode cX9_doingIs 102 = .ok (.invokevirtual 146, 3) := by decide +kernel
theorem dX9_doingIs_105 : decode cX9_doingIs 105 = .ok (.ireturn, 1) := by decide +kernel
theorem dX9_sets_0 : decode cX9_sets 0 = .ok (.aload_n 0, 1) := by decide +kernel
theorem dX9_sets_1 : decode cX9_sets 1 = .ok (.getfield 12, 3) := by decide +kernel
theorem dX9_sets_4 : decode cX9_sets 4 = .ok (.iload_n 1, 1) := by decide +kernel
theorem dX9_sets_5 : decode cX9_sets 5 = .ok (.invokevirtual 140, 3) := by decide +kernel
theorem dX9_sets_8 : decode cX9_sets 8 = .ok (.ifCond .eq 10, 3) := by decide +kernel
theorem dX9_sets_11 : decode cX9_sets 11 = .ok (.iload_n 2, 1) := by decide +kernel
theorem dX9_sets_12 : decode cX9_sets 12 = .ok (.invokestatic 113, 3) := by decide +kernel
theorem dX9_sets_15 : decode cX9_sets 15 = .ok (.ifCond .ne 10, 3) := by decide +kernel
theorem dX9_sets_18 : decode cX9_sets 18 = .ok (.aload_n 0, 1) := by decide +kernel
theorem dX9_sets_19 : decode cX9_sets 19 = .ok (.ldc 64, 2) := by decide +kernel
theorem dX9_sets_21 : decode cX9_sets 21 = .ok (.invokevirtual 65, 3) := by decide +kernel
theorem dX9_sets_24 : decode cX9_sets 24 = .ok (.ireturn, 1) := by decide +kernel
theorem dX9_sets_25 : decode cX9_sets 25 = .ok (.aload_n 0, 1) := by decide +kernel
theorem dX9_sets_26 : decode cX9_sets 26 = .ok (.getfield 12, 3) := by decide +kernel
theorem dX9_sets_29 : decode cX9_sets 29 = .ok (.getfield 125, 3) := by decide +kernel
theorem dX9_sets_32 : decode cX9_sets 32 = .ok (.iload_n 1, 1) := by decide +kernel
theorem dX9_sets_33 : decode cX9_sets 33 = .ok (.aaload, 1) := by decide +kernel
theorem dX9_sets_34 : decode cX9_sets 34 = .ok (.astore_n 3, 1) := by decide +kernel
theorem dX9_sets_35 : decode cX9_sets 35 = .ok (.aload_n 3, 1) := by decide +kernel
theorem dX9_sets_36 : decode cX9_sets 36 = .ok (.getfield 134, 3) := by decide +kernel
theorem dX9_sets_39 : decode cX9_sets 39 = .ok (.istore 4, 2) := by decide +kernel
theorem dX9_sets_41 : decode cX9_sets 41 = .ok (.aload_n 3, 1) := by decide +kernel
theorem dX9_sets_42 : decode cX9_sets 42 = .ok (.iload_n 2, 1) := by decide +kernel
theorem dX9_sets_43 : decode cX9_sets 43 = .ok (.putfield 134, 3) := by decide +kernel
theorem dX9_sets_46 : decode cX9_sets 46 = .ok (.iload 4, 2) := by decide +kernel
theorem dX9_sets_48 : decode cX9_sets 48 = .ok (.ireturn, 1) := by decide +kernel
theorem dX9_shut_0 : decode cX9_shut 0 = .ok (.aload_n 0, 1) := by decide +kernel
theorem dX9_shut_1 : decode cX9_shut 1 = .ok (.getfield 12, 3) := by decide +kernel
theorem dX9_shut_4 : decode cX9_shut 4 = .ok (.aload_n 0, 1) := by decide +kernel
theorem dX9_shut_5 : decode cX9_shut 5 = .ok (.getfield 12, 3) := by decide +kernel
theorem dX9_shut_8 : decode cX9_shut 8 = .ok (.getfield 103, 3) := by decide +kernel
theorem dX9_shut_11 : decode cX9_shut 11 = .ok (.invokevirtual 143, 3) := by decide +kernel
theorem dX9_shut_14 : decode cX9_shut 14 = .ok (.ireturn, 1) := by decide +kernel
theorem dX9_feed_0 : decode cX9_feed 0 = .ok (.iload_n 3, 1) := by decide +kernel
theorem dX9_feed_1 : decode cX9_feed 1 = .ok (.iconst 1, 1) := by decide +kernel
theorem dX9_feed_2 : decode cX9_feed 2 = .ok (.bipush 8, 2) := by decide +kernel
theorem dX9_feed_4 : decode cX9_feed 4 = .ok (.invokestatic 93, 3) := by decide +kernel
theorem dX9_feed_7 : decode cX9_feed 7 = .ok (.ifCond .ne 10, 3) := by decide +kernel
theorem dX9_feed_10 : decode cX9_feed 10 = .ok (.aload_n 0, 1) := by decide +kernel
theorem dX9_feed_11 : decode cX9_feed 11 = .ok (.ldc 64, 2) := by decide +kernel
theorem dX9_feed_13 : decode cX9_feed 13 = .ok (.invokevirtual 65, 3) := by decide +kernel
theorem dX9_feed_16 : decode cX9_feed 16 = .ok (.ireturn, 1) := by decide +kernel
theorem dX9_feed_17 : decode cX9_feed 17 = .ok (.aload_n 0, 1) := by decide +kernel
theorem dX9_feed_18 : decode cX9_feed 18 = .ok (.getfield 12, 3) := by decide +kernel
theorem dX9_feed_21 : decode cX9_feed 21 = .ok (.getfield 18, 3) := by decide +kernel
theorem dX9_feed_24 : decode cX9_feed 24 = .ok (.invokevirtual 150, 3) := by decide +kernel
theorem dX9_feed_27 : decode cX9_feed 27 = .ok (.iload_n 3, 1) := by decide +kernel
theorem dX9_feed_28 : decode cX9_feed 28 = .ok (.iadd, 1) := by decide +kernel
theorem dX9_feed_29 : decode cX9_feed 29 = .ok (.bipush 60, 2) := by decide +kernel
theorem dX9_feed_31 : decode cX9_feed 31 = .ok (.if_icmp .le 10, 3) := by decide +kernel
theorem dX9_feed_34 : decode cX9_feed 34 = .ok (.aload_n 0, 1) := by decide +kernel
theorem dX9_feed_35 : decode cX9_feed 35 = .ok (.ldc 73, 2) := by decide +kernel
theorem dX9_feed_37 : decode cX9_feed 37 = .ok (.invokevirtual 65, 3) := by decide +kernel
theorem dX9_feed_40 : decode cX9_feed 40 = .ok (.ireturn, 1) := by decide +kernel
theorem dX9_feed_41 : decode cX9_feed 41 = .ok (.iconst 0, 1) := by decide +kernel
theorem dX9_feed_42 : decode cX9_feed 42 = .ok (.istore 4, 2) := by decide +kernel
theorem dX9_feed_44 : decode cX9_feed 44 = .ok (.iload 4, 2) := by decide +kernel
theorem dX9_feed_46 : decode cX9_feed 46 = .ok (.iload_n 3, 1) := by decide +kernel
theorem dX9_feed_47 : decode cX9_feed 47 = .ok (.if_icmp .ge 32, 3) := by decide +kernel
theorem dX9_feed_50 : decode cX9_feed 50 = .ok (.aload_n 0, 1) := by decide +kernel
theorem dX9_feed_51 : decode cX9_feed 51 = .ok (.getfield 12, 3) := by decide +kernel
theorem dX9_feed_54 : decode cX9_feed 54 = .ok (.getfield 18, 3) := by decide +kernel
theorem dX9_feed_57 : decode cX9_feed 57 = .ok (.lload_n 1, 1) := by decide +kernel
theorem dX9_feed_58 : decode cX9_feed 58 = .ok (.bipush 8, 2) := by decide +kernel
theorem dX9_feed_60 : decode cX9_feed 60 = .ok (.iload 4, 2) := by decide +kernel
theorem dX9_feed_62 : decode cX9_feed 62 = .ok (.imul, 1) := by decide +kernel
theorem dX9_feed_63 : decode cX9_feed 63 = .ok (.lushr, 1) := by decide +kernel
theorem dX9_feed_64 : decode cX9_feed 64 = .ok (.ldc2_w 156, 3) := by decide +kernel
theorem dX9_feed_67 : decode cX9_feed 67 = .ok (.land, 1) := by decide +kernel
theorem dX9_feed_68 : decode cX9_feed 68 = .ok (.l2i, 1) := by decide +kernel
theorem dX9_feed_69 : decode cX9_feed 69 = .ok (.invokevirtual 158, 3) := by decide +kernel
theorem dX9_feed_72 : decode cX9_feed 72 = .ok (.pop, 1) := by decide +kernel
theorem dX9_feed_73 : decode cX9_feed 73 = .ok (.iinc 4 1, 3) := by decide +kernel
theorem dX9_feed_76 : decode cX9_feed 76 = .ok (.goto (-32), 3) := by decide +kernel
theorem dX9_feed_79 : decode cX9_feed 79 = .ok (.aload_n 0, 1) := by decide +kernel
theorem dX9_feed_80 : decode cX9_feed 80 = .ok (.getfield 12, 3) := by decide +kernel
theorem dX9_feed_83 : decode cX9_feed 83 = .ok (.getfield 18, 3) := by decide +kernel
theorem dX9_feed_86 : decode cX9_feed 86 = .ok (.invokevirtual 150, 3) := by decide +kernel
theorem dX9_feed_89 : decode cX9_feed 89 = .ok (.ireturn, 1) := by decide +kernel
theorem dX9_text_0 : decode cX9_text 0 = .ok (.iload_n 1, 1) := by decide +kernel
theorem dX9_text_1 : decode cX9_text 1 = .ok (.invokestatic 161, 3) := by decide +kernel
theorem dX9_text_4 : decode cX9_text 4 = .ok (.ifCond .ne 10, 3) := by decide +kernel
theorem dX9_text_7 : decode cX9_text 7 = .ok (.aload_n 0, 1) := by decide +kernel
theorem dX9_text_8 : decode cX9_text 8 = .ok (.ldc 64, 2) := by decide +kernel
theorem dX9_text_10 : decode cX9_text 10 = .ok (.invokevirtual 65, 3) := by decide +kernel
theorem dX9_text_13 : decode cX9_text 13 = .ok (.ireturn, 1) := by decide +kernel
theorem dX9_text_14 : decode cX9_text 14 = .ok (.aload_n 0, 1) := by decide +kernel
theorem dX9_text_15 : decode cX9_text 15 = .ok (.getfield 25, 3) := by decide +kernel
theorem dX9_text_18 : decode cX9_text 18 = .ok (.iload_n 1, 1) := by decide +kernel
theorem dX9_text_19 : decode cX9_text 19 = .ok (.invokevirtual 164, 3) := by decide +kernel
theorem dX9_text_22 : decode cX9_text 22 = .ok (.istore_n 2, 1) := by decide +kernel
theorem dX9_text_23 : decode cX9_text 23 = .ok (.aload_n 0, 1) := by decide +kernel
theorem dX9_text_24 : decode cX9_text 24 = .ok (.getfield 12, 3) := by decide +kernel
theorem dX9_text_27 : decode cX9_text 27 = .ok (.getfield 18, 3) := by decide +kernel
theorem dX9_text_30 : decode cX9_text 30 = .ok (.invokevirtual 167, 3) := by decide +kernel
theorem dX9_text_33 : decode cX9_text 33 = .ok (.iload_n 2, 1) := by decide +kernel
theorem dX9_text_34 : decode cX9_text 34 = .ok (.ifCond .ne 14, 3) := by decide +kernel
theorem dX9_text_37 : decode cX9_text 37 = .ok (.bipush (-10), 2) := by decide +kernel
theorem dX9_text_39 : decode cX9_text 39 = .ok (.aload_n 0, 1) := by decide +kernel
theorem dX9_text_40 : decode cX9_text 40 = .ok (.getfield 25, 3) := by decide +kernel
theorem dX9_text_43 : decode cX9_text 43 = .ok (.invokevirtual 170, 3) := by decide +kernel
theorem dX9_text_46 : decode cX9_text 46 = .ok (.isub, 1) := by decide +kernel
theorem dX9_text_47 : decode cX9_text 47 = .ok (.ireturn, 1) := by decide +kernel
theorem dX9_text_48 : decode cX9_text 48 = .ok (.aload_n 0, 1) := by decide +kernel
theorem dX9_text_49 : decode cX9_text 49 = .ok (.getfield 12, 3) := by decide +kernel
theorem dX9_text_52 : decode cX9_text 52 = .ok (.iload_n 1, 1) := by decide +kernel
theorem dX9_text_53 : decode cX9_text 53 = .ok (.invokevirtual 173, 3) := by decide +kernel
theorem dX9_text_56 : decode cX9_text 56 = .ok (.aload_n 0, 1) := by decide +kernel
theorem dX9_text_57 : decode cX9_text 57 = .ok (.getfield 25, 3) := by decide +kernel
theorem dX9_text_60 : decode cX9_text 60 = .ok (.getfield 177, 3) := by decide +kernel
theorem dX9_text_63 : decode cX9_text 63 = .ok (.invokevirtual 180, 3) := by decide +kernel
theorem dX9_text_66 : decode cX9_text 66 = .ok (.iconst 1, 1) := by decide +kernel
theorem dX9_text_67 : decode cX9_text 67 = .ok (.ireturn, 1) := by decide +kernel
theorem dX9_untell_0 : decode cX9_untell 0 = .ok (.iload_n 1, 1) := by decide +kernel
theorem dX9_untell_1 : decode cX9_untell 1 = .ok (.invokestatic 161, 3) := by decide +kernel
theorem dX9_untell_4 : decode cX9_untell 4 = .ok (.ifCond .ne 10, 3) := by decide +kernel
theorem dX9_untell_7 : decode cX9_untell 7 = .ok (.aload_n 0, 1) := by decide +kernel
theorem dX9_untell_8 : decode cX9_untell 8 = .ok (.ldc 64, 2) := by decide +kernel
theorem dX9_untell_10 : decode cX9_untell 10 = .ok (.invokevirtual 65, 3) := by decide +kernel
theorem dX9_untell_13 : decode cX9_untell 13 = .ok (.ireturn, 1) := by decide +kernel
theorem dX9_untell_14 : decode cX9_untell 14 = .ok (.aload_n 0, 1) := by decide +kernel
theorem dX9_untell_15 : decode cX9_untell 15 = .ok (.getfield 12, 3) := by decide +kernel
theorem dX9_untell_18 : decode cX9_untell 18 = .ok (.iload_n 1, 1) := by decide +kernel
theorem dX9_untell_19 : decode cX9_untell 19 = .ok (.invokevirtual 173, 3) := by decide +kernel
theorem dX9_untell_22 : decode cX9_untell 22 = .ok (.astore_n 2, 1) := by decide +kernel
theorem dX9_untell_23 : decode cX9_untell 23 = .ok (.aload_n 2, 1) := by decide +kernel
theorem dX9_untell_24 : decode cX9_untell 24 = .ok (.getfield 185, 3) := by decide +kernel
theorem dX9_untell_27 : decode cX9_untell 27 = .ok (.ifCond .eq 7, 3) := by decide +kernel
theorem dX9_untell_30 : decode cX9_untell 30 = .ok (.iconst 1, 1) := by decide +kernel
theorem dX9_untell_31 : decode cX9_untell 31 = .ok (.goto 4, 3) := by decide +kernel
theorem dX9_untell_34 : decode cX9_untell 34 = .ok (.iconst 0, 1) := by decide +kernel
theorem dX9_untell_35 : decode cX9_untell 35 = .ok (.istore_n 3, 1) := by decide +kernel
theorem dX9_untell_36 : decode cX9_untell 36 = .ok (.aload_n 2, 1) := by decide +kernel
theorem dX9_untell_37 : decode cX9_untell 37 = .ok (.iconst 0, 1) := by decide +kernel
theorem dX9_untell_38 : decode cX9_untell 38 = .ok (.putfield 185, 3) := by decide +kernel
theorem dX9_untell_41 : decode cX9_untell 41 = .ok (.iload_n 3, 1) := by decide +kernel
theorem dX9_untell_42 : decode cX9_untell 42 = .ok (.ireturn, 1) := by decide +kernel
theorem dX9_law_0 : decode cX9_law 0 = .ok (.iload_n 1, 1) := by decide +kernel
theorem dX9_law_1 : decode cX9_law 1 = .ok (.invokestatic 161, 3) := by decide +kernel
theorem dX9_law_4 : decode cX9_law 4 = .ok (.ifCond .ne 10, 3) := by decide +kernel
theorem dX9_law_7 : decode cX9_law 7 = .ok (.aload_n 0, 1) := by decide +kernel
theorem dX9_law_8 : decode cX9_law 8 = .ok (.ldc 64, 2) := by decide +kernel
theorem dX9_law_10 : decode cX9_law 10 = .ok (.invokevirtual 65, 3) := by decide +kernel
theorem dX9_law_13 : decode cX9_law 13 = .ok (.ireturn, 1) := by decide +kernel
theorem dX9_law_14 : decode cX9_law 14 = .ok (.aload_n 0, 1) := by decide +kernel
theorem dX9_law_15 : decode cX9_law 15 = .ok (.getfield 12, 3) := by decide +kernel
theorem dX9_law_18 : decode cX9_law 18 = .ok (.iload_n 1, 1) := by decide +kernel
theorem dX9_law_19 : decode cX9_law 19 = .ok (.invokevirtual 173, 3) := by decide +kernel
theorem dX9_law_22 : decode cX9_law 22 = .ok (.iload_n 2, 1) := by decide +kernel
theorem dX9_law_23 : decode cX9_law 23 = .ok (.iload_n 3, 1) := by decide +kernel
theorem dX9_law_24 : decode cX9_law 24 = .ok (.iload 4, 2) := by decide +kernel
theorem dX9_law_26 : decode cX9_law 26 = .ok (.invokevirtual 189, 3) := by decide +kernel
theorem dX9_law_29 : decode cX9_law 29 = .ok (.ireturn, 1) := by decide +kernel
theorem dX9_ticks_0 : decode cX9_ticks 0 = .ok (.iload_n 1, 1) := by decide +kernel
theorem dX9_ticks_1 : decode cX9_ticks 1 = .ok (.iconst 1, 1) := by decide +kernel
theorem dX9_ticks_2 : decode cX9_ticks 2 = .ok (.sipush 200, 3) := by decide +kernel
theorem dX9_ticks_5 : decode cX9_ticks 5 = .ok (.invokestatic 93, 3) := by decide +kernel
theorem dX9_ticks_8 : decode cX9_ticks 8 = .ok (.ifCond .ne 10, 3) := by decide +kernel
theorem dX9_ticks_11 : decode cX9_ticks 11 = .ok (.aload_n 0, 1) := by decide +kernel
theorem dX9_ticks_12 : decode cX9_ticks 12 = .ok (.ldc 64, 2) := by decide +kernel
theorem dX9_ticks_14 : decode cX9_ticks 14 = .ok (.invokevirtual 65, 3) := by decide +kernel
theorem dX9_ticks_17 : decode cX9_ticks 17 = .ok (.ireturn, 1) := by decide +kernel
theorem dX9_ticks_18 : decode cX9_ticks 18 = .ok (.aload_n 0, 1) := by decide +kernel
theorem dX9_ticks_19 : decode cX9_ticks 19 = .ok (.getfield 12, 3) := by decide +kernel
theorem dX9_ticks_22 : decode cX9_ticks 22 = .ok (.getfield 103, 3) := by decide +kernel
theorem dX9_ticks_25 : decode cX9_ticks 25 = .ok (.iload_n 1, 1) := by decide +kernel
theorem dX9_ticks_26 : decode cX9_ticks 26 = .ok (.iadd, 1) := by decide +kernel
theorem dX9_ticks_27 : decode cX9_ticks 27 = .ok (.ldc 193, 2) := by decide +kernel
theorem dX9_ticks_29 : decode cX9_ticks 29 = .ok (.if_icmp .le 10, 3) := by decide +kernel
theorem dX9_ticks_32 : decode cX9_ticks 32 = .ok (.aload_n 0, 1) := by decide +kernel
theorem dX9_ticks_33 : decode cX9_ticks 33 = .ok (.ldc 194, 2) := by decide +kernel
theorem dX9_ticks_35 : decode cX9_ticks 35 = .ok (.invokevirtual 65, 3) := by decide +kernel
theorem dX9_ticks_38 : decode cX9_ticks 38 = .ok (.ireturn, 1) := by decide +kernel
theorem dX9_ticks_39 : decode cX9_ticks 39 = .ok (.iconst 0, 1) := by decide +kernel
theorem dX9_ticks_40 : decode cX9_ticks 40 = .ok (.istore_n 2, 1) := by decide +kernel
theorem dX9_ticks_41 : decode cX9_ticks 41 = .ok (.iconst 0, 1) := by decide +kernel
theorem dX9_ticks_42 : decode cX9_ticks 42 = .ok (.istore_n 3, 1) := by decide +kernel
theorem dX9_ticks_43 : decode cX9_ticks 43 = .ok (.iload_n 3, 1) := by decide +kernel
theorem dX9_ticks_44 : decode cX9_ticks 44 = .ok (.iload_n 1, 1) := by decide +kernel
theorem dX9_ticks_45 : decode cX9_ticks 45 = .ok (.if_icmp .ge 19, 3) := by decide +kernel
theorem dX9_ticks_48 : decode cX9_ticks 48 = .ok (.iload_n 2, 1) := by decide +kernel
theorem dX9_ticks_49 : decode cX9_ticks 49 = .ok (.aload_n 0, 1) := by decide +kernel
theorem dX9_ticks_50 : decode cX9_ticks 50 = .ok (.getfield 12, 3) := by decide +kernel
theorem dX9_ticks_53 : decode cX9_ticks 53 = .ok (.invokevirtual 195, 3) := by decide +kernel
theorem dX9_ticks_56 : decode cX9_ticks 56 = .ok (.iadd, 1) := by decide +kernel
theorem dX9_ticks_57 : decode cX9_ticks 57 = .ok (.istore_n 2, 1) := by decide +kernel
theorem dX9_ticks_58 : decode cX9_ticks 58 = .ok (.iinc 3 1, 3) := by decide +kernel
theorem dX9_ticks_61 : decode cX9_ticks 61 = .ok (.goto (-18), 3) := by decide +kernel
theorem dX9_ticks_64 : decode cX9_ticks 64 = .ok (.iload_n 2, 1) := by decide +kernel
theorem dX9_ticks_65 : decode cX9_ticks 65 = .ok (.ireturn, 1) := by decide +kernel
theorem dX9_loose_0 : decode cX9_loose 0 = .ok (.iload_n 1, 1) := by decide +kernel
theorem dX9_loose_1 : decode cX9_loose 1 = .ok (.iconst 1, 1) := by decide +kernel
theorem dX9_loose_2 : decode cX9_loose 2 = .ok (.bipush 30, 2) := by decide +kernel
theorem dX9_loose_4 : decode cX9_loose 4 = .ok (.invokestatic 93, 3) := by decide +kernel
theorem dX9_loose_7 : decode cX9_loose 7 = .ok (.ifCond .ne 10, 3) := by decide +kernel
theorem dX9_loose_10 : decode cX9_loose 10 = .ok (.aload_n 0, 1) := by decide +kernel
theorem dX9_loose_11 : decode cX9_loose 11 = .ok (.ldc 64, 2) := by decide +kernel
theorem dX9_loose_13 : decode cX9_loose 13 = .ok (.invokevirtual 65, 3) := by decide +kernel
theorem dX9_loose_16 : decode cX9_loose 16 = .ok (.ireturn, 1) := by decide +kernel
theorem dX9_loose_17 : decode cX9_loose 17 = .ok (.aload_n 0, 1) := by decide +kernel
theorem dX9_loose_18 : decode cX9_loose 18 = .ok (.getfield 12, 3) := by decide +kernel
theorem dX9_loose_21 : decode cX9_loose 21 = .ok (.getfield 103, 3) := by decide +kernel
theorem dX9_loose_24 : decode cX9_loose 24 = .ok (.iload_n 1, 1) := by decide +kernel
theorem dX9_loose_25 : decode cX9_loose 25 = .ok (.iadd, 1) := by decide +kernel
theorem dX9_loose_26 : decode cX9_loose 26 = .ok (.ldc 193, 2) := by decide +kernel
theorem dX9_loose_28 : decode cX9_loose 28 = .ok (.if_icmp .le 10, 3) := by decide +kernel
theorem dX9_loose_31 : decode cX9_loose 31 = .ok (.aload_n 0, 1) := by decide +kernel
theorem dX9_loose_32 : decode cX9_loose 32 = .ok (.ldc 194, 2) := by decide +kernel
theorem dX9_loose_34 : decode cX9_loose 34 = .ok (.invokevirtual 65, 3) := by decide +kernel
theorem dX9_loose_37 : decode cX9_loose 37 = .ok (.ireturn, 1) := by decide +kernel
theorem dX9_loose_38 : decode cX9_loose 38 = .ok (.iconst 0, 1) := by decide +kernel
theorem dX9_loose_39 : decode cX9_loose 39 = .ok (.istore_n 2, 1) := by decide +kernel
theorem dX9_loose_40 : decode cX9_loose 40 = .ok (.iconst 0, 1) := by decide +kernel
theorem dX9_loose_41 : decode cX9_loose 41 = .ok (.istore_n 3, 1) := by decide +kernel
theorem dX9_loose_42 : decode cX9_loose 42 = .ok (.iload_n 3, 1) := by decide +kernel
theorem dX9_loose_43 : decode cX9_loose 43 = .ok (.iload_n 1, 1) := by decide +kernel
theorem dX9_loose_44 : decode cX9_loose 44 = .ok (.if_icmp .ge 26, 3) := by decide +kernel
theorem dX9_loose_47 : decode cX9_loose 47 = .ok (.aload_n 0, 1) := by decide +kernel
theorem dX9_loose_48 : decode cX9_loose 48 = .ok (.getfield 12, 3) := by decide +kernel
theorem dX9_loose_51 : decode cX9_loose 51 = .ok (.invokevirtual 198, 3) := by decide +kernel
theorem dX9_loose_54 : decode cX9_loose 54 = .ok (.iload_n 2, 1) := by decide +kernel
theorem dX9_loose_55 : decode cX9_loose 55 = .ok (.aload_n 0, 1) := by decide +kernel
theorem dX9_loose_56 : decode cX9_loose 56 = .ok (.getfield 12, 3) := by decide +kernel
theorem dX9_loose_59 : decode cX9_loose 59 = .ok (.invokevirtual 195, 3) := by decide +kernel
theorem dX9_loose_62 : decode cX9_loose 62 = .ok (.iadd, 1) := by decide +kernel
theorem dX9_loose_63 : decode cX9_loose 63 = .ok (.istore_n 2, 1) := by decide +kernel
theorem dX9_loose_64 : decode cX9_loose 64 = .ok (.iinc 3 1, 3) := by decide +kernel
theorem dX9_loose_67 : decode cX9_loose 67 = .ok (.goto (-25), 3) := by decide +kernel
theorem dX9_loose_70 : decode cX9_loose 70 = .ok (.iload_n 2, 1) := by decide +kernel
theorem dX9_loose_71 : decode cX9_loose 71 = .ok (.ireturn, 1) := by decide +kernel
theorem dX9_tick_0 : decode cX9_tick 0 = .ok (.iload_n 1, 1) := by decide +kernel
theorem dX9_tick_1 : decode cX9_tick 1 = .ok (.iconst 0, 1) := by decide +kernel
theorem dX9_tick_2 : decode cX9_tick 2 = .ok (.ldc 193, 2) := by decide +kernel
theorem dX9_tick_4 : decode cX9_tick 4 = .ok (.invokestatic 93, 3) := by decide +kernel
theorem dX9_tick_7 : decode cX9_tick 7 = .ok (.ifCond .ne 10, 3) := by decide +kernel
theorem dX9_tick_10 : decode cX9_tick 10 = .ok (.aload_n 0, 1) := by decide +kernel
theorem dX9_tick_11 : decode cX9_tick 11 = .ok (.ldc 64, 2) := by decide +kernel
theorem dX9_tick_13 : decode cX9_tick 13 = .ok (.invokevirtual 65, 3) := by decide +kernel
theorem dX9_tick_16 : decode cX9_tick 16 = .ok (.ireturn, 1) := by decide +kernel
theorem dX9_tick_17 : decode cX9_tick 17 = .ok (.aload_n 0, 1) := by decide +kernel
theorem dX9_tick_18 : decode cX9_tick 18 = .ok (.getfield 12, 3) := by decide +kernel
theorem dX9_tick_21 : decode cX9_tick 21 = .ok (.getfield 103, 3) := by decide +kernel
theorem dX9_tick_24 : decode cX9_tick 24 = .ok (.istore_n 2, 1) := by decide +kernel
theorem dX9_tick_25 : decode cX9_tick 25 = .ok (.aload_n 0, 1) := by decide +kernel
theorem dX9_tick_26 : decode cX9_tick 26 = .ok (.getfield 12, 3) := by decide +kernel
theorem dX9_tick_29 : decode cX9_tick 29 = .ok (.iload_n 1, 1) := by decide +kernel
theorem dX9_tick_30 : decode cX9_tick 30 = .ok (.putfield 103, 3) := by decide +kernel
theorem dX9_tick_33 : decode cX9_tick 33 = .ok (.iload_n 2, 1) := by decide +kernel
theorem dX9_tick_34 : decode cX9_tick 34 = .ok (.ireturn, 1) := by decide +kernel
theorem dX9_seed_0 : decode cX9_seed 0 = .ok (.aload_n 0, 1) := by decide +kernel
theorem dX9_seed_1 : decode cX9_seed 1 = .ok (.getfield 12, 3) := by decide +kernel
theorem dX9_seed_4 : decode cX9_seed 4 = .ok (.getfield 201, 3) := by decide +kernel
theorem dX9_seed_7 : decode cX9_seed 7 = .ok (.istore_n 2, 1) := by decide +kernel
theorem dX9_seed_8 : decode cX9_seed 8 = .ok (.aload_n 0, 1) := by decide +kernel
theorem dX9_seed_9 : decode cX9_seed 9 = .ok (.getfield 12, 3) := by decide +kernel
theorem dX9_seed_12 : decode cX9_seed 12 = .ok (.iload_n 1, 1) := by decide +kernel
theorem dX9_seed_13 : decode cX9_seed 13 = .ok (.putfield 201, 3) := by decide +kernel
theorem dX9_seed_16 : decode cX9_seed 16 = .ok (.iload_n 2, 1) := by decide +kernel
theorem dX9_seed_17 : decode cX9_seed 17 = .ok (.ireturn, 1) := by decide +kernel
theorem dX9_then_0 : decode cX9_then 0 = .ok (.aload_n 0, 1) := by decide +kernel
theorem dX9_then_1 : decode cX9_then 1 = .ok (.getfield 12, 3) := by decide +kernel
theorem dX9_then_4 : decode cX9_then 4 = .ok (.iload_n 1, 1) := by decide +kernel
theorem dX9_then_5 : decode cX9_then 5 = .ok (.invokevirtual 140, 3) := by decide +kernel
theorem dX9_then_8 : decode cX9_then 8 = .ok (.ifCond .eq 14, 3) := by decide +kernel
theorem dX9_then_11 : decode cX9_then 11 = .ok (.iload_n 2, 1) := by decide +kernel
theorem dX9_then_12 : decode cX9_then 12 = .ok (.iconst 0, 1) := by decide +kernel
theorem dX9_then_13 : decode cX9_then 13 = .ok (.sipush 200, 3) := by decide +kernel
theorem dX9_then_16 : decode cX9_then 16 = .ok (.invokestatic 93, 3) := by decide +kernel
theorem dX9_then_19 : decode cX9_then 19 = .ok (.ifCond .ne 10, 3) := by decide +kernel
theorem dX9_then_22 : decode cX9_then 22 = .ok (.aload_n 0, 1) := by decide +kernel
theorem dX9_then_23 : decode cX9_then 23 = .ok (.ldc 64, 2) := by decide +kernel
theorem dX9_then_25 : decode cX9_then 25 = .ok (.invokevirtual 65, 3) := by decide +kernel
theorem dX9_then_28 : decode cX9_then 28 = .ok (.ireturn, 1) := by decide +kernel
theorem dX9_then_29 : decode cX9_then 29 = .ok (.aload_n 0, 1) := by decide +kernel
theorem dX9_then_30 : decode cX9_then 30 = .ok (.getfield 34, 3) := by decide +kernel
theorem dX9_then_33 : decode cX9_then 33 = .ok (.aload_n 0, 1) := by decide +kernel
theorem dX9_then_34 : decode cX9_then 34 = .ok (.getfield 12, 3) := by decide +kernel
theorem dX9_then_37 : decode cX9_then 37 = .ok (.getfield 125, 3) := by decide +kernel
theorem dX9_then_40 : decode cX9_then 40 = .ok (.iload_n 1, 1) := by decide +kernel
theorem dX9_then_41 : decode cX9_then 41 = .ok (.aaload, 1) := by decide +kernel
theorem dX9_then_42 : decode cX9_then 42 = .ok (.iload_n 2, 1) := by decide +kernel
theorem dX9_then_43 : decode cX9_then 43 = .ok (.invokevirtual 204, 3) := by decide +kernel
theorem dX9_then_46 : decode cX9_then 46 = .ok (.ireturn, 1) := by decide +kernel
theorem dX9_soonest_0 : decode cX9_soonest 0 = .ok (.aload_n 0, 1) := by decide +kernel
theorem dX9_soonest_1 : decode cX9_soonest 1 = .ok (.getfield 12, 3) := by decide +kernel
theorem dX9_soonest_4 : decode cX9_soonest 4 = .ok (.iload_n 1, 1) := by decide +kernel
theorem dX9_soonest_5 : decode cX9_soonest 5 = .ok (.invokevirtual 140, 3) := by decide +kernel
theorem dX9_soonest_8 : decode cX9_soonest 8 = .ok (.ifCond .ne 10, 3) := by decide +kernel
theorem dX9_soonest_11 : decode cX9_soonest 11 = .ok (.aload_n 0, 1) := by decide +kernel
theorem dX9_soonest_12 : decode cX9_soonest 12 = .ok (.ldc 64, 2) := by decide +kernel
theorem dX9_soonest_14 : decode cX9_soonest 14 = .ok (.invokevirtual 65, 3) := by decide +kernel
theorem dX9_soonest_17 : decode cX9_soonest 17 = .ok (.ireturn, 1) := by decide +kernel
theorem dX9_soonest_18 : decode cX9_soonest 18 = .ok (.aload_n 0, 1) := by decide +kernel
theorem dX9_soonest_19 : decode cX9_soonest 19 = .ok (.getfield 34, 3) := by decide +kernel
theorem dX9_soonest_22 : decode cX9_soonest 22 = .ok (.aload_n 0, 1) := by decide +kernel
theorem dX9_soonest_23 : decode cX9_soonest 23 = .ok (.getfield 12, 3) := by decide +kernel
theorem dX9_soonest_26 : decode cX9_soonest 26 = .ok (.getfield 125, 3) := by decide +kernel
theorem dX9_soonest_29 : decode cX9_soonest 29 = .ok (.iload_n 1, 1) := by decide +kernel
theorem dX9_soonest_30 : decode cX9_soonest 30 = .ok (.aaload, 1) := by decide +kernel
theorem dX9_soonest_31 : decode cX9_soonest 31 = .ok (.invokevirtual 208, 3) := by decide +kernel
theorem dX9_soonest_34 : decode cX9_soonest 34 = .ok (.istore_n 2, 1) := by decide +kernel
theorem dX9_soonest_35 : decode cX9_soonest 35 = .ok (.iload_n 2, 1) := by decide +kernel
theorem dX9_soonest_36 : decode cX9_soonest 36 = .ok (.ifCond .ge 12, 3) := by decide +kernel
theorem dX9_soonest_39 : decode cX9_soonest 39 = .ok (.aload_n 0, 1) := by decide +kernel
theorem dX9_soonest_40 : decode cX9_soonest 40 = .ok (.ldc 212, 2) := by decide +kernel
theorem dX9_soonest_42 : decode cX9_soonest 42 = .ok (.invokevirtual 65, 3) := by decide +kernel
theorem dX9_soonest_45 : decode cX9_soonest 45 = .ok (.goto 4, 3) := by decide +kernel
theorem dX9_soonest_48 : decode cX9_soonest 48 = .ok (.iload_n 2, 1) := by decide +kernel
theorem dX9_soonest_49 : decode cX9_soonest 49 = .ok (.ireturn, 1) := by decide +kernel
theorem dX9_moment_0 : decode cX9_moment 0 = .ok (.aload_n 0, 1) := by decide +kernel
theorem dX9_moment_1 : decode cX9_moment 1 = .ok (.getfield 12, 3) := by decide +kernel
theorem dX9_moment_4 : decode cX9_moment 4 = .ok (.iload_n 1, 1) := by decide +kernel
theorem dX9_moment_5 : decode cX9_moment 5 = .ok (.invokevirtual 116, 3) := by decide +kernel
theorem dX9_moment_8 : decode cX9_moment 8 = .ok (.ifCond .ne 10, 3) := by decide +kernel
theorem dX9_moment_11 : decode cX9_moment 11 = .ok (.aload_n 0, 1) := by decide +kernel
theorem dX9_moment_12 : decode cX9_moment 12 = .ok (.ldc 64, 2) := by decide +kernel
theorem dX9_moment_14 : decode cX9_moment 14 = .ok (.invokevirtual 65, 3) := by decide +kernel
theorem dX9_moment_17 : decode cX9_moment 17 = .ok (.ireturn, 1) := by decide +kernel
theorem dX9_moment_18 : decode cX9_moment 18 = .ok (.aload_n 0, 1) := by decide +kernel
theorem dX9_moment_19 : decode cX9_moment 19 = .ok (.getfield 34, 3) := by decide +kernel
theorem dX9_moment_22 : decode cX9_moment 22 = .ok (.iload_n 1, 1) := by decide +kernel
theorem dX9_moment_23 : decode cX9_moment 23 = .ok (.invokevirtual 213, 3) := by decide +kernel
theorem dX9_moment_26 : decode cX9_moment 26 = .ok (.istore_n 2, 1) := by decide +kernel
theorem dX9_moment_27 : decode cX9_moment 27 = .ok (.iload_n 2, 1) := by decide +kernel
theorem dX9_moment_28 : decode cX9_moment 28 = .ok (.ifCond .ge 12, 3) := by decide +kernel
theorem dX9_moment_31 : decode cX9_moment 31 = .ok (.aload_n 0, 1) := by decide +kernel
theorem dX9_moment_32 : decode cX9_moment 32 = .ok (.ldc 212, 2) := by decide +kernel
theorem dX9_moment_34 : decode cX9_moment 34 = .ok (.invokevirtual 65, 3) := by decide +kernel
theorem dX9_moment_37 : decode cX9_moment 37 = .ok (.goto 4, 3) := by decide +kernel
theorem dX9_moment_40 : decode cX9_moment 40 = .ok (.iload_n 2, 1) := by decide +kernel
theorem dX9_moment_41 : decode cX9_moment 41 = .ok (.ireturn, 1) := by decide +kernel
theorem dX9_moments_0 : decode cX9_moments 0 = .ok (.aload_n 0, 1) := by decide +kernel
theorem dX9_moments_1 : decode cX9_moments 1 = .ok (.getfield 12, 3) := by decide +kernel
theorem dX9_moments_4 : decode cX9_moments 4 = .ok (.iload_n 1, 1) := by decide +kernel
theorem dX9_moments_5 : decode cX9_moments 5 = .ok (.invokevirtual 116, 3) := by decide +kernel
theorem dX9_moments_8 : decode cX9_moments 8 = .ok (.ifCond .eq 13, 3) := by decide +kernel
theorem dX9_moments_11 : decode cX9_moments 11 = .ok (.iload_n 2, 1) := by decide +kernel
theorem dX9_moments_12 : decode cX9_moments 12 = .ok (.iconst 0, 1) := by decide +kernel
theorem dX9_moments_13 : decode cX9_moments 13 = .ok (.bipush 99, 2) := by decide +kernel
theorem dX9_moments_15 : decode cX9_moments 15 = .ok (.invokestatic 93, 3) := by decide +kernel
theorem dX9_moments_18 : decode cX9_moments 18 = .ok (.ifCond .ne 10, 3) := by decide +kernel
theorem dX9_moments_21 : decode cX9_moments 21 = .ok (.aload_n 0, 1) := by decide +kernel
theorem dX9_moments_22 : decode cX9_moments 22 = .ok (.ldc 64, 2) := by decide +kernel
theorem dX9_moments_24 : decode cX9_moments 24 = .ok (.invokevirtual 65, 3) := by decide +kernel
theorem dX9_moments_27 : decode cX9_moments 27 = .ok (.ireturn, 1) := by decide +kernel
theorem dX9_moments_28 : decode cX9_moments 28 = .ok (.aload_n 0, 1) := by decide +kernel
theorem dX9_moments_29 : decode cX9_moments 29 = .ok (.getfield 34, 3) := by decide +kernel
theorem dX9_moments_32 : decode cX9_moments 32 = .ok (.iload_n 1, 1) := by decide +kernel
theorem dX9_moments_33 : decode cX9_moments 33 = .ok (.iload_n 2, 1) := by decide +kernel
theorem dX9_moments_34 : decode cX9_moments 34 = .ok (.invokevirtual 216, 3) := by decide +kernel
theorem dX9_moments_37 : decode cX9_moments 37 = .ok (.ireturn, 1) := by decide +kernel
theorem dX9_away_0 : decode cX9_away 0 = .ok (.aload_n 0, 1) := by decide +kernel
theorem dX9_away_1 : decode cX9_away 1 = .ok (.getfield 12, 3) := by decide +kernel
theorem dX9_away_4 : decode cX9_away 4 = .ok (.iload_n 1, 1) := by decide +kernel
theorem dX9_away_5 : decode cX9_away 5 = .ok (.invokevirtual 140, 3) := by decide +kernel
theorem dX9_away_8 : decode cX9_away 8 = .ok (.ifCond .eq 22, 3) := by decide +kernel
theorem dX9_away_11 : decode cX9_away 11 = .ok (.iload_n 2, 1) := by decide +kernel
theorem dX9_away_12 : decode cX9_away 12 = .ok (.iconst 0, 1) := by decide +kernel
theorem dX9_away_13 : decode cX9_away 13 = .ok (.bipush 99, 2) := by decide +kernel
theorem dX9_away_15 : decode cX9_away 15 = .ok (.invokestatic 93, 3) := by decide +kernel
theorem dX9_away_18 : decode cX9_away 18 = .ok (.ifCond .eq 12, 3) := by decide +kernel
theorem dX9_away_21 : decode cX9_away 21 = .ok (.iload_n 3, 1) := by decide +kernel
theorem dX9_away_22 : decode cX9_away 22 = .ok (.iconst 0, 1) := by decide +kernel
theorem dX9_away_23 : decode cX9_away 23 = .ok (.iconst 1, 1) := by decide +kernel
theorem dX9_away_24 : decode cX9_away 24 = .ok (.invokestatic 93, 3) := by decide +kernel
theorem dX9_away_27 : decode cX9_away 27 = .ok (.ifCond .ne 10, 3) := by decide +kernel
theorem dX9_away_30 : decode cX9_away 30 = .ok (.aload_n 0, 1) := by decide +kernel
theorem dX9_away_31 : decode cX9_away 31 = .ok (.ldc 64, 2) := by decide +kernel
theorem dX9_away_33 : decode cX9_away 33 = .ok (.invokevirtual 65, 3) := by decide +kernel
theorem dX9_away_36 : decode cX9_away 36 = .ok (.ireturn, 1) := by decide +kernel
theorem dX9_away_37 : decode cX9_away 37 = .ok (.aload_n 0, 1) := by decide +kernel
theorem dX9_away_38 : decode cX9_away 38 = .ok (.getfield 34, 3) := by decide +kernel
theorem dX9_away_41 : decode cX9_away 41 = .ok (.aload_n 0, 1) := by decide +kernel
theorem dX9_away_42 : decode cX9_away 42 = .ok (.getfield 12, 3) := by decide +kernel
theorem dX9_away_45 : decode cX9_away 45 = .ok (.getfield 125, 3) := by decide +kernel
theorem dX9_away_48 : decode cX9_away 48 = .ok (.iload_n 1, 1) := by decide +kernel
theorem dX9_away_49 : decode cX9_away 49 = .ok (.aaload, 1) := by decide +kernel
theorem dX9_away_50 : decode cX9_away 50 = .ok (.iload_n 2, 1) := by decide +kernel
theorem dX9_away_51 : decode cX9_away 51 = .ok (.invokevirtual 220, 3) := by decide +kernel
theorem dX9_away_54 : decode cX9_away 54 = .ok (.istore 4, 2) := by decide +kernel
theorem dX9_away_56 : decode cX9_away 56 = .ok (.iload 4, 2) := by decide +kernel
theorem dX9_away_58 : decode cX9_away 58 = .ok (.ifCond .ge 10, 3) := by decide +kernel
theorem dX9_away_61 : decode cX9_away 61 = .ok (.aload_n 0, 1) := by decide +kernel
theorem dX9_away_62 : decode cX9_away 62 = .ok (.ldc 212, 2) := by decide +kernel
theorem dX9_away_64 : decode cX9_away 64 = .ok (.invokevirtual 65, 3) := by decide +kernel
theorem dX9_away_67 : decode cX9_away 67 = .ok (.ireturn, 1) := by decide +kernel
theorem dX9_away_68 : decode cX9_away 68 = .ok (.iload_n 3, 1) := by decide +kernel
theorem dX9_away_69 : decode cX9_away 69 = .ok (.ifCond .ne 11, 3) := by decide +kernel
theorem dX9_away_72 : decode cX9_away 72 = .ok (.iload 4, 2) := by decide +kernel
theorem dX9_away_74 : decode cX9_away 74 = .ok (.invokestatic 223, 3) := by decide +kernel
theorem dX9_away_77 : decode cX9_away 77 = .ok (.goto 5, 3) := by decide +kernel
theorem dX9_away_80 : decode cX9_away 80 = .ok (.iload 4, 2) := by decide +kernel
theorem dX9_away_82 : decode cX9_away 82 = .ok (.ireturn, 1) := by decide +kernel
theorem dX9_phaseFor_0 : decode cX9_phaseFor 0 = .ok (.aload_n 0, 1) := by decide +kernel
theorem dX9_phaseFor_1 : decode cX9_phaseFor 1 = .ok (.getfield 12, 3) := by decide +kernel
theorem dX9_phaseFor_4 : decode cX9_phaseFor 4 = .ok (.iload_n 1, 1) := by decide +kernel
theorem dX9_phaseFor_5 : decode cX9_phaseFor 5 = .ok (.invokevirtual 90, 3) := by decide +kernel
theorem dX9_phaseFor_8 : decode cX9_phaseFor 8 = .ok (.ifCond .eq 23, 3) := by decide +kernel
theorem dX9_phaseFor_11 : decode cX9_phaseFor 11 = .ok (.aload_n 0, 1) := by decide +kernel
theorem dX9_phaseFor_12 : decode cX9_phaseFor 12 = .ok (.getfield 12, 3) := by decide +kernel
theorem dX9_phaseFor_15 : decode cX9_phaseFor 15 = .ok (.iload_n 2, 1) := by decide +kernel
theorem dX9_phaseFor_16 : decode cX9_phaseFor 16 = .ok (.invokevirtual 140, 3) := by decide +kernel
theorem dX9_phaseFor_19 : decode cX9_phaseFor 19 = .ok (.ifCond .eq 12, 3) := by decide +kernel
theorem dX9_phaseFor_22 : decode cX9_phaseFor 22 = .ok (.iload_n 3, 1) := by decide +kernel
theorem dX9_phaseFor_23 : decode cX9_phaseFor 23 = .ok (.iconst 0, 1) := by decide +kernel
theorem dX9_phaseFor_24 : decode cX9_phaseFor 24 = .ok (.iconst 1, 1) := by decide +kernel
theorem dX9_phaseFor_25 : decode cX9_phaseFor 25 = .ok (.invokestatic 93, 3) := by decide +kernel
theorem dX9_phaseFor_28 : decode cX9_phaseFor 28 = .ok (.ifCond .ne 10, 3) := by decide +kernel
theorem dX9_phaseFor_31 : decode cX9_phaseFor 31 = .ok (.aload_n 0, 1) := by decide +kernel
theorem dX9_phaseFor_32 : decode cX9_phaseFor 32 = .ok (.ldc 64, 2) := by decide +kernel
theorem dX9_phaseFor_34 : decode cX9_phaseFor 34 = .ok (.invokevirtual 65, 3) := by decide +kernel
theorem dX9_phaseFor_37 : decode cX9_phaseFor 37 = .ok (.ireturn, 1) := by decide +kernel
theorem dX9_phaseFor_38 : decode cX9_phaseFor 38 = .ok (.aload_n 0, 1) := by decide +kernel
theorem dX9_phaseFor_39 : decode cX9_phaseFor 39 = .ok (.getfield 34, 3) := by decide +kernel
theorem dX9_phaseFor_42 : decode cX9_phaseFor 42 = .ok (.iload_n 1, 1) := by decide +kernel
theorem dX9_phaseFor_43 : decode cX9_phaseFor 43 = .ok (.aload_n 0, 1) := by decide +kernel
theorem dX9_phaseFor_44 : decode cX9_phaseFor 44 = .ok (.getfield 12, 3) := by decide +kernel
theorem dX9_phaseFor_47 : decode cX9_phaseFor 47 = .ok (.getfield 125, 3) := by decide +kernel
theorem dX9_phaseFor_50 : decode cX9_phaseFor 50 = .ok (.iload_n 2, 1) := by decide +kernel
theorem dX9_phaseFor_51 : decode cX9_phaseFor 51 = .ok (.aaload, 1) := by decide +kernel
theorem dX9_phaseFor_52 : decode cX9_phaseFor 52 = .ok (.invokevirtual 228, 3) := by decide +kernel
theorem dX9_phaseFor_55 : decode cX9_phaseFor 55 = .ok (.ifCond .ne 10, 3) := by decide +kernel
theorem dX9_phaseFor_58 : decode cX9_phaseFor 58 = .ok (.aload_n 0, 1) := by decide +kernel
theorem dX9_phaseFor_59 : decode cX9_phaseFor 59 = .ok (.ldc 212, 2) := by decide +kernel
theorem dX9_phaseFor_61 : decode cX9_phaseFor 61 = .ok (.invokevirtual 65, 3) := by decide +kernel
theorem dX9_phaseFor_64 : decode cX9_phaseFor 64 = .ok (.ireturn, 1) := by decide +kernel
theorem dX9_phaseFor_65 : decode cX9_phaseFor 65 = .ok (.iload_n 3, 1) := by decide +kernel
theorem dX9_phaseFor_66 : decode cX9_phaseFor 66 = .ok (.ifCond .ne 13, 3) := by decide +kernel
theorem dX9_phaseFor_69 : decode cX9_phaseFor 69 = .ok (.aload_n 0, 1) := by decide +kernel
theorem dX9_phaseFor_70 : decode cX9_phaseFor 70 = .ok (.getfield 34, 3) := by decide +kernel
theorem dX9_phaseFor_73 : decode cX9_phaseFor 73 = .ok (.getfield 232, 3) := by decide +kernel
theorem dX9_phaseFor_76 : decode cX9_phaseFor 76 = .ok (.goto 10, 3) := by decide +kernel
theorem dX9_phaseFor_79 : decode cX9_phaseFor 79 = .ok (.aload_n 0, 1) := by decide +kernel
theorem dX9_phaseFor_80 : decode cX9_phaseFor 80 = .ok (.getfield 34, 3) := by decide +kernel
theorem dX9_phaseFor_83 : decode cX9_phaseFor 83 = .ok (.getfield 235, 3) := by decide +kernel
theorem dX9_phaseFor_86 : decode cX9_phaseFor 86 = .ok (.ireturn, 1) := by decide +kernel
theorem dX9_odds_0 : decode cX9_odds 0 = .ok (.aload_n 0, 1) := by decide +kernel
theorem dX9_odds_1 : decode cX9_odds 1 = .ok (.getfield 12, 3) := by decide +kernel
theorem dX9_odds_4 : decode cX9_odds 4 = .ok (.iload_n 1, 1) := by decide +kernel
theorem dX9_odds_5 : decode cX9_odds 5 = .ok (.invokevirtual 116, 3) := by decide +kernel
theorem dX9_odds_8 : decode cX9_odds 8 = .ok (.ifCond .eq 22, 3) := by decide +kernel
theorem dX9_odds_11 : decode cX9_odds 11 = .ok (.iload_n 2, 1) := by decide +kernel
theorem dX9_odds_12 : decode cX9_odds 12 = .ok (.iconst 1, 1) := by decide +kernel
theorem dX9_odds_13 : decode cX9_odds 13 = .ok (.bipush 99, 2) := by decide +kernel
theorem dX9_odds_15 : decode cX9_odds 15 = .ok (.invokestatic 93, 3) := by decide +kernel
theorem dX9_odds_18 : decode cX9_odds 18 = .ok (.ifCond .eq 12, 3) := by decide +kernel
theorem dX9_odds_21 : decode cX9_odds 21 = .ok (.iload_n 3, 1) := by decide +kernel
theorem dX9_odds_22 : decode cX9_odds 22 = .ok (.iconst 0, 1) := by decide +kernel
theorem dX9_odds_23 : decode cX9_odds 23 = .ok (.iconst 1, 1) := by decide +kernel
theorem dX9_odds_24 : decode cX9_odds 24 = .ok (.invokestatic 93, 3) := by decide +kernel
theorem dX9_odds_27 : decode cX9_odds 27 = .ok (.ifCond .ne 10, 3) := by decide +kernel
theorem dX9_odds_30 : decode cX9_odds 30 = .ok (.aload_n 0, 1) := by decide +kernel
theorem dX9_odds_31 : decode cX9_odds 31 = .ok (.ldc 64, 2) := by decide +kernel
theorem dX9_odds_33 : decode cX9_odds 33 = .ok (.invokevirtual 65, 3) := by decide +kernel
theorem dX9_odds_36 : decode cX9_odds 36 = .ok (.ireturn, 1) := by decide +kernel
theorem dX9_odds_37 : decode cX9_odds 37 = .ok (.aload_n 0, 1) := by decide +kernel
theorem dX9_odds_38 : decode cX9_odds 38 = .ok (.getfield 34, 3) := by decide +kernel
theorem dX9_odds_41 : decode cX9_odds 41 = .ok (.iload_n 1, 1) := by decide +kernel
theorem dX9_odds_42 : decode cX9_odds 42 = .ok (.iload_n 2, 1) := by decide +kernel
theorem dX9_odds_43 : decode cX9_odds 43 = .ok (.invokevirtual 216, 3) := by decide +kernel
theorem dX9_odds_46 : decode cX9_odds 46 = .ok (.istore 4, 2) := by decide +kernel
theorem dX9_odds_48 : decode cX9_odds 48 = .ok (.iload_n 2, 1) := by decide +kernel
theorem dX9_odds_49 : decode cX9_odds 49 = .ok (.iload 4, 2) := by decide +kernel
theorem dX9_odds_51 : decode cX9_odds 51 = .ok (.invokestatic 238, 3) := by decide +kernel
theorem dX9_odds_54 : decode cX9_odds 54 = .ok (.istore 5, 2) := by decide +kernel
theorem dX9_odds_56 : decode cX9_odds 56 = .ok (.iload_n 3, 1) := by decide +kernel
theorem dX9_odds_57 : decode cX9_odds 57 = .ok (.ifCond .ne 8, 3) := by decide +kernel
theorem dX9_odds_60 : decode cX9_odds 60 = .ok (.iload 4, 2) := by decide +kernel
theorem dX9_odds_62 : decode cX9_odds 62 = .ok (.goto 4, 3) := by decide +kernel
theorem dX9_odds_65 : decode cX9_odds 65 = .ok (.iload_n 2, 1) := by decide +kernel
theorem dX9_odds_66 : decode cX9_odds 66 = .ok (.istore 6, 2) := by decide +kernel
theorem dX9_odds_68 : decode cX9_odds 68 = .ok (.iload 5, 2) := by decide +kernel
theorem dX9_odds_70 : decode cX9_odds 70 = .ok (.ifCond .le 11, 3) := by decide +kernel
theorem dX9_odds_73 : decode cX9_odds 73 = .ok (.iload 6, 2) := by decide +kernel
theorem dX9_odds_75 : decode cX9_odds 75 = .ok (.iload 5, 2) := by decide +kernel
theorem dX9_odds_77 : decode cX9_odds 77 = .ok (.idiv, 1) := by decide +kernel
theorem dX9_odds_78 : decode cX9_odds 78 = .ok (.goto 5, 3) := by decide +kernel
theorem dX9_odds_81 : decode cX9_odds 81 = .ok (.iload 6, 2) := by decide +kernel
theorem dX9_odds_83 : decode cX9_odds 83 = .ok (.ireturn, 1) := by decide +kernel
theorem dX9_fits_0 : decode cX9_fits 0 = .ok (.iload_n 1, 1) := by decide +kernel
theorem dX9_fits_1 : decode cX9_fits 1 = .ok (.invokestatic 241, 3) := by decide +kernel
theorem dX9_fits_4 : decode cX9_fits 4 = .ok (.ifCond .eq 23, 3) := by decide +kernel
theorem dX9_fits_7 : decode cX9_fits 7 = .ok (.aload_n 0, 1) := by decide +kernel
theorem dX9_fits_8 : decode cX9_fits 8 = .ok (.getfield 12, 3) := by decide +kernel
theorem dX9_fits_11 : decode cX9_fits 11 = .ok (.iload_n 2, 1) := by decide +kernel
theorem dX9_fits_12 : decode cX9_fits 12 = .ok (.invokevirtual 90, 3) := by decide +kernel
theorem dX9_fits_15 : decode cX9_fits 15 = .ok (.ifCond .eq 12, 3) := by decide +kernel
theorem dX9_fits_18 : decode cX9_fits 18 = .ok (.iload_n 3, 1) := by decide +kernel
theorem dX9_fits_19 : decode cX9_fits 19 = .ok (.iconst 0, 1) := by decide +kernel
theorem dX9_fits_20 : decode cX9_fits 20 = .ok (.iconst 1, 1) := by decide +kernel
theorem dX9_fits_21 : decode cX9_fits 21 = .ok (.invokestatic 93, 3) := by decide +kernel
theorem dX9_fits_24 : decode cX9_fits 24 = .ok (.ifCond .ne 10, 3) := by decide +kernel
theorem dX9_fits_27 : decode cX9_fits 27 = .ok (.aload_n 0, 1) := by decide +kernel
theorem dX9_fits_28 : decode cX9_fits 28 = .ok (.ldc 64, 2) := by decide +kernel
theorem dX9_fits_30 : decode cX9_fits 30 = .ok (.invokevirtual 65, 3) := by decide +kernel
theorem dX9_fits_33 : decode cX9_fits 33 = .ok (.ireturn, 1) := by decide +kernel
theorem dX9_fits_34 : decode cX9_fits 34 = .ok (.aload_n 0, 1) := by decide +kernel
theorem dX9_fits_35 : decode cX9_fits 35 = .ok (.getfield 47, 3) := by decide +kernel
theorem dX9_fits_38 : decode cX9_fits 38 = .ok (.iload_n 1, 1) := by decide +kernel
theorem dX9_fits_39 : decode cX9_fits 39 = .ok (.aaload, 1) := by decide +kernel
theorem dX9_fits_40 : decode cX9_fits 40 = .ok (.invokevirtual 244, 3) := by decide +kernel
theorem dX9_fits_43 : decode cX9_fits 43 = .ok (.ifCond .eq 10, 3) := by decide +kernel
theorem dX9_fits_46 : decode cX9_fits 46 = .ok (.aload_n 0, 1) := by decide +kernel
theorem dX9_fits_47 : decode cX9_fits 47 = .ok (.ldc 212, 2) := by decide +kernel
theorem dX9_fits_49 : decode cX9_fits 49 = .ok (.invokevirtual 65, 3) := by decide +kernel
theorem dX9_fits_52 : decode cX9_fits 52 = .ok (.ireturn, 1) := by decide +kernel
theorem dX9_fits_53 : decode cX9_fits 53 = .ok (.aload_n 0, 1) := by decide +kernel
theorem dX9_fits_54 : decode cX9_fits 54 = .ok (.getfield 34, 3) := by decide +kernel
theorem dX9_fits_57 : decode cX9_fits 57 = .ok (.iload_n 2, 1) := by decide +kernel
theorem dX9_fits_58 : decode cX9_fits 58 = .ok (.aload_n 0, 1) := by decide +kernel
theorem dX9_fits_59 : decode cX9_fits 59 = .ok (.getfield 47, 3) := by decide +kernel
theorem dX9_fits_62 : decode cX9_fits 62 = .ok (.iload_n 1, 1) := by decide +kernel
theorem dX9_fits_63 : decode cX9_fits 63 = .ok (.aaload, 1) := by decide +kernel
theorem dX9_fits_64 : decode cX9_fits 64 = .ok (.getfield 248, 3) := by decide +kernel
theorem dX9_fits_67 : decode cX9_fits 67 = .ok (.invokevirtual 251, 3) := by decide +kernel
theorem dX9_fits_70 : decode cX9_fits 70 = .ok (.iload_n 3, 1) := by decide +kernel
theorem dX9_fits_71 : decode cX9_fits 71 = .ok (.ifCond .ne 11, 3) := by decide +kernel
theorem dX9_fits_74 : decode cX9_fits 74 = .ok (.aload_n 0, 1) := by decide +kernel
theorem dX9_fits_75 : decode cX9_fits 75 = .ok (.getfield 34, 3) := by decide +kernel
theorem dX9_fits_78 : decode cX9_fits 78 = .ok (.getfield 255, 3) := by decide +kernel
theorem dX9_fits_81 : decode cX9_fits 81 = .ok (.ireturn, 1) := by decide +kernel
theorem dX9_fits_82 : decode cX9_fits 82 = .ok (.aload_n 0, 1) := by decide +kernel
theorem dX9_fits_83 : decode cX9_fits 83 = .ok (.getfield 34, 3) := by decide +kernel
theorem dX9_fits_86 : decode cX9_fits 86 = .ok (.getfield 255, 3) := by decide +kernel
theorem dX9_fits_89 : decode cX9_fits 89 = .ok (.ifCond .ne 12, 3) := by decide +kernel
theorem dX9_fits_92 : decode cX9_fits 92 = .ok (.aload_n 0, 1) := by decide +kernel
theorem dX9_fits_93 : decode cX9_fits 93 = .ok (.ldc 212, 2) := by decide +kernel
theorem dX9_fits_95 : decode cX9_fits 95 = .ok (.invokevirtual 65, 3) := by decide +kernel
theorem dX9_fits_98 : decode cX9_fits 98 = .ok (.goto 10, 3) := by decide +kernel
theorem dX9_fits_101 : decode cX9_fits 101 = .ok (.aload_n 0, 1) := by decide +kernel
theorem dX9_fits_102 : decode cX9_fits 102 = .ok (.getfield 34, 3) := by decide +kernel
theorem dX9_fits_105 : decode cX9_fits 105 = .ok (.getfield 258, 3) := by decide +kernel
theorem dX9_fits_108 : decode cX9_fits 108 = .ok (.ireturn, 1) := by decide +kernel
theorem dX9_voice_0 : decode cX9_voice 0 = .ok (.aload_n 0, 1) := by decide +kernel
theorem dX9_voice_1 : decode cX9_voice 1 = .ok (.getfield 12, 3) := by decide +kernel
theorem dX9_voice_4 : decode cX9_voice 4 = .ok (.iload_n 1, 1) := by decide +kernel
theorem dX9_voice_5 : decode cX9_voice 5 = .ok (.invokevirtual 90, 3) := by decide +kernel
theorem dX9_voice_8 : decode cX9_voice 8 = .ok (.ifCond .eq 12, 3) := by decide +kernel
theorem dX9_voice_11 : decode cX9_voice 11 = .ok (.iload_n 2, 1) := by decide +kernel
theorem dX9_voice_12 : decode cX9_voice 12 = .ok (.iconst 0, 1) := by decide +kernel
theorem dX9_voice_13 : decode cX9_voice 13 = .ok (.iconst 3, 1) := by decide +kernel
theorem dX9_voice_14 : decode cX9_voice 14 = .ok (.invokestatic 93, 3) := by decide +kernel
theorem dX9_voice_17 : decode cX9_voice 17 = .ok (.ifCond .ne 10, 3) := by decide +kernel
theorem dX9_voice_20 : decode cX9_voice 20 = .ok (.aload_n 0, 1) := by decide +kernel
theorem dX9_voice_21 : decode cX9_voice 21 = .ok (.ldc 64, 2) := by decide +kernel
theorem dX9_voice_23 : decode cX9_voice 23 = .ok (.invokevirtual 65, 3) := by decide +kernel
theorem dX9_voice_26 : decode cX9_voice 26 = .ok (.ireturn, 1) := by decide +kernel
theorem dX9_voice_27 : decode cX9_voice 27 = .ok (.aload_n 0, 1) := by decide +kernel
theorem dX9_voice_28 : decode cX9_voice 28 = .ok (.getfield 41, 3) := by decide +kernel
theorem dX9_voice_31 : decode cX9_voice 31 = .ok (.aload_n 0, 1) := by decide +kernel
theorem dX9_voice_32 : decode cX9_voice 32 = .ok (.getfield 12, 3) := by decide +kernel
theorem dX9_voice_35 : decode cX9_voice 35 = .ok (.getfield 74, 3) := by decide +kernel
theorem dX9_voice_38 : decode cX9_voice 38 = .ok (.iload_n 1, 1) := by decide +kernel
theorem dX9_voice_39 : decode cX9_voice 39 = .ok (.aaload, 1) := by decide +kernel
theorem dX9_voice_40 : decode cX9_voice 40 = .ok (.iload_n 1, 1) := by decide +kernel
theorem dX9_voice_41 : decode cX9_voice 41 = .ok (.iload_n 2, 1) := by decide +kernel
theorem dX9_voice_42 : decode cX9_voice 42 = .ok (.iload_n 3, 1) := by decide +kernel
theorem dX9_voice_43 : decode cX9_voice 43 = .ok (.invokevirtual 261, 3) := by decide +kernel
theorem dX9_voice_46 : decode cX9_voice 46 = .ok (.istore 4, 2) := by decide +kernel
theorem dX9_voice_48 : decode cX9_voice 48 = .ok (.aload_n 0, 1) := by decide +kernel
theorem dX9_voice_49 : decode cX9_voice 49 = .ok (.getfield 41, 3) := by decide +kernel
theorem dX9_voice_52 : decode cX9_voice 52 = .ok (.getfield 265, 3) := by decide +kernel
theorem dX9_voice_55 : decode cX9_voice 55 = .ok (.ifCond .eq 11, 3) := by decide +kernel
theorem dX9_voice_58 : decode cX9_voice 58 = .ok (.aload_n 0, 1) := by decide +kernel
theorem dX9_voice_59 : decode cX9_voice 59 = .ok (.ldc_w 268, 3) := by decide +kernel
theorem dX9_voice_62 : decode cX9_voice 62 = .ok (.invokevirtual 65, 3) := by decide +kernel
theorem dX9_voice_65 : decode cX9_voice 65 = .ok (.ireturn, 1) := by decide +kernel
theorem dX9_voice_66 : decode cX9_voice 66 = .ok (.iload 4, 2) := by decide +kernel
theorem dX9_voice_68 : decode cX9_voice 68 = .ok (.ireturn, 1) := by decide +kernel
theorem dX9_body_0 : decode cX9_body 0 = .ok (.iload_n 1, 1) := by decide +kernel
theorem dX9_body_1 : decode cX9_body 1 = .ok (.iconst 0, 1) := by decide +kernel
theorem dX9_body_2 : decode cX9_body 2 = .ok (.aload_n 0, 1) := by decide +kernel
theorem dX9_body_3 : decode cX9_body 3 = .ok (.getfield 41, 3) := by decide +kernel
theorem dX9_body_6 : decode cX9_body 6 = .ok (.getfield 269, 3) := by decide +kernel
theorem dX9_body_9 : decode cX9_body 9 = .ok (.invokevirtual 150, 3) := by decide +kernel
theorem dX9_body_12 : decode cX9_body 12 = .ok (.iconst 1, 1) := by decide +kernel
theorem dX9_body_13 : decode cX9_body 13 = .ok (.isub, 1) := by decide +kernel
theorem dX9_body_14 : decode cX9_body 14 = .ok (.invokestatic 93, 3) := by decide +kernel
theorem dX9_body_17 : decode cX9_body 17 = .ok (.ifCond .ne 10, 3) := by decide +kernel
theorem dX9_body_20 : decode cX9_body 20 = .ok (.aload_n 0, 1) := by decide +kernel
theorem dX9_body_21 : decode cX9_body 21 = .ok (.ldc 212, 2) := by decide +kernel
theorem dX9_body_23 : decode cX9_body 23 = .ok (.invokevirtual 65, 3) := by decide +kernel
theorem dX9_body_26 : decode cX9_body 26 = .ok (.ireturn, 1) := by decide +kernel
theorem dX9_body_27 : decode cX9_body 27 = .ok (.aload_n 0, 1) := by decide +kernel
theorem dX9_body_28 : decode cX9_body 28 = .ok (.getfield 41, 3) := by decide +kernel
theorem dX9_body_31 : decode cX9_body 31 = .ok (.getfield 269, 3) := by decide +kernel
theorem dX9_body_34 : decode cX9_body 34 = .ok (.iload_n 1, 1) := by decide +kernel
theorem dX9_body_35 : decode cX9_body 35 = .ok (.invokevirtual 272, 3) := by decide +kernel
theorem dX9_body_38 : decode cX9_body 38 = .ok (.ireturn, 1) := by decide +kernel
theorem dX9_sheet_0 : decode cX9_sheet 0 = .ok (.iload_n 1, 1) := by decide +kernel
theorem dX9_sheet_1 : decode cX9_sheet 1 = .ok (.invokestatic 241, 3) := by decide +kernel
theorem dX9_sheet_4 : decode cX9_sheet 4 = .ok (.ifCond .eq 25, 3) := by decide +kernel
theorem dX9_sheet_7 : decode cX9_sheet 7 = .ok (.iload_n 2, 1) := by decide +kernel
theorem dX9_sheet_8 : decode cX9_sheet 8 = .ok (.ifCond .eq 28, 3) := by decide +kernel
theorem dX9_sheet_11 : decode cX9_sheet 11 = .ok (.iload_n 2, 1) := by decide +kernel
theorem dX9_sheet_12 : decode cX9_sheet 12 = .ok (.bipush 8, 2) := by decide +kernel
theorem dX9_sheet_14 : decode cX9_sheet 14 = .ok (.if_icmp .eq 22, 3) := by decide +kernel
theorem dX9_sheet_17 : decode cX9_sheet 17 = .ok (.iload_n 2, 1) := by decide +kernel
theorem dX9_sheet_18 : decode cX9_sheet 18 = .ok (.bipush 16, 2) := by decide +kernel
theorem dX9_sheet_20 : decode cX9_sheet 20 = .ok (.if_icmp .eq 16, 3) := by decide +kernel
theorem dX9_sheet_23 : decode cX9_sheet 23 = .ok (.iload_n 2, 1) := by decide +kernel
theorem dX9_sheet_24 : decode cX9_sheet 24 = .ok (.bipush 32, 2) := by decide +kernel
theorem dX9_sheet_26 : decode cX9_sheet 26 = .ok (.if_icmp .eq 10, 3) := by decide +kernel
theorem dX9_sheet_29 : decode cX9_sheet 29 = .ok (.aload_n 0, 1) := by decide +kernel
theorem dX9_sheet_30 : decode cX9_sheet 30 = .ok (.ldc 64, 2) := by decide +kernel
theorem dX9_sheet_32 : decode cX9_sheet 32 = .ok (.invokevirtual 65, 3) := by decide +kernel
theorem dX9_sheet_35 : decode cX9_sheet 35 = .ok (.ireturn, 1) := by decide +kernel
theorem dX9_sheet_36 : decode cX9_sheet 36 = .ok (.iload_n 2, 1) := by decide +kernel
theorem dX9_sheet_37 : decode cX9_sheet 37 = .ok (.ifCond .eq 14, 3) := by decide +kernel
theorem dX9_sheet_40 : decode cX9_sheet 40 = .ok (.iload_n 3, 1) := by decide +kernel
theorem dX9_sheet_41 : decode cX9_sheet 41 = .ok (.ifCond .ge 10, 3) := by decide +kernel
theorem dX9_sheet_44 : decode cX9_sheet 44 = .ok (.aload_n 0, 1) := by decide +kernel
theorem dX9_sheet_45 : decode cX9_sheet 45 = .ok (.ldc 194, 2) := by decide +kernel
theorem dX9_sheet_47 : decode cX9_sheet 47 = .ok (.invokevirtual 65, 3) := by decide +kernel
theorem dX9_sheet_50 : decode cX9_sheet 50 = .ok (.ireturn, 1) := by decide +kernel
theorem dX9_sheet_51 : decode cX9_sheet 51 = .ok (.iload_n 2, 1) := by decide +kernel
theorem dX9_sheet_52 : decode cX9_sheet 52 = .ok (.ifCond .eq 16, 3) := by decide +kernel
theorem dX9_sheet_55 : decode cX9_sheet 55 = .ok (.iload_n 3, 1) := by decide +kernel
theorem dX9_sheet_56 : decode cX9_sheet 56 = .ok (.bipush 24, 2) := by decide +kernel
theorem dX9_sheet_58 : decode cX9_sheet 58 = .ok (.if_icmp .le 10, 3) := by decide +kernel
theorem dX9_sheet_61 : decode cX9_sheet 61 = .ok (.aload_n 0, 1) := by decide +kernel
theorem dX9_sheet_62 : decode cX9_sheet 62 = .ok (.ldc 64, 2) := by decide +kernel
theorem dX9_sheet_64 : decode cX9_sheet 64 = .ok (.invokevirtual 65, 3) := by decide +kernel
theorem dX9_sheet_67 : decode cX9_sheet 67 = .ok (.ireturn, 1) := by decide +kernel
theorem dX9_sheet_68 : decode cX9_sheet 68 = .ok (.aload_n 0, 1) := by decide +kernel
theorem dX9_sheet_69 : decode cX9_sheet 69 = .ok (.getfield 47, 3) := by decide +kernel
theorem dX9_sheet_72 : decode cX9_sheet 72 = .ok (.iload_n 1, 1) := by decide +kernel
theorem dX9_sheet_73 : decode cX9_sheet 73 = .ok (.aaload, 1) := by decide +kernel
theorem dX9_sheet_74 : decode cX9_sheet 74 = .ok (.iload_n 2, 1) := by decide +kernel
theorem dX9_sheet_75 : decode cX9_sheet 75 = .ok (.iload_n 2, 1) := by decide +kernel
theorem dX9_sheet_76 : decode cX9_sheet 76 = .ok (.ifCond .ne 7, 3) := by decide +kernel
theorem dX9_sheet_79 : decode cX9_sheet 79 = .ok (.iconst 0, 1) := by decide +kernel
theorem dX9_sheet_80 : decode cX9_sheet 80 = .ok (.goto 4, 3) := by decide +kernel
theorem dX9_sheet_83 : decode cX9_sheet 83 = .ok (.iload_n 3, 1) := by decide +kernel
theorem dX9_sheet_84 : decode cX9_sheet 84 = .ok (.invokevirtual 275, 3) := by decide +kernel
theorem dX9_sheet_87 : decode cX9_sheet 87 = .ok (.iconst 1, 1) := by decide +kernel
theorem dX9_sheet_88 : decode cX9_sheet 88 = .ok (.ireturn, 1) := by decide +kernel
theorem dX9_put_0 : decode cX9_put 0 = .ok (.iload_n 1, 1) := by decide +kernel
theorem dX9_put_1 : decode cX9_put 1 = .ok (.invokestatic 241, 3) := by decide +kernel
theorem dX9_put_4 : decode cX9_put 4 = .ok (.ifCond .ne 10, 3) := by decide +kernel
theorem dX9_put_7 : decode cX9_put 7 = .ok (.aload_n 0, 1) := by decide +kernel
theorem dX9_put_8 : decode cX9_put 8 = .ok (.ldc 64, 2) := by decide +kernel
theorem dX9_put_10 : decode cX9_put 10 = .ok (.invokevirtual 65, 3) := by decide +kernel
theorem dX9_put_13 : decode cX9_put 13 = .ok (.ireturn, 1) := by decide +kernel
theorem dX9_put_14 : decode cX9_put 14 = .ok (.aload_n 0, 1) := by decide +kernel
theorem dX9_put_15 : decode cX9_put 15 = .ok (.getfield 47, 3) := by decide +kernel
theorem dX9_put_18 : decode cX9_put 18 = .ok (.iload_n 1, 1) := by decide +kernel
theorem dX9_put_19 : decode cX9_put 19 = .ok (.aaload, 1) := by decide +kernel
theorem dX9_put_20 : decode cX9_put 20 = .ok (.astore 4, 2) := by decide +kernel
theorem dX9_put_22 : decode cX9_put 22 = .ok (.aload 4, 2) := by decide +kernel
theorem dX9_put_24 : decode cX9_put 24 = .ok (.invokevirtual 244, 3) := by decide +kernel
theorem dX9_put_27 : decode cX9_put 27 = .ok (.ifCond .eq 10, 3) := by decide +kernel
theorem dX9_put_30 : decode cX9_put 30 = .ok (.aload_n 0, 1) := by decide +kernel
theorem dX9_put_31 : decode cX9_put 31 = .ok (.ldc 212, 2) := by decide +kernel
theorem dX9_put_33 : decode cX9_put 33 = .ok (.invokevirtual 65, 3) := by decide +kernel
theorem dX9_put_36 : decode cX9_put 36 = .ok (.ireturn, 1) := by decide +kernel
theorem dX9_put_37 : decode cX9_put 37 = .ok (.iload_n 2, 1) := by decide +kernel
theorem dX9_put_38 : decode cX9_put 38 = .ok (.iconst 0, 1) := by decide +kernel
theorem dX9_put_39 : decode cX9_put 39 = .ok (.aload 4, 2) := by decide +kernel
theorem dX9_put_41 : decode cX9_put 41 = .ok (.getfield 248, 3) := by decide +kernel
theorem dX9_put_44 : decode cX9_put 44 = .ok (.invokevirtual 150, 3) := by decide +kernel
theorem dX9_put_47 : decode cX9_put 47 = .ok (.iconst 1, 1) := by decide +kernel
theorem dX9_put_48 : decode cX9_put 48 = .ok (.isub, 1) := by decide +kernel
theorem dX9_put_49 : decode cX9_put 49 = .ok (.invokestatic 93, 3) := by decide +kernel
theorem dX9_put_52 : decode cX9_put 52 = .ok (.ifCond .ne 10, 3) := by decide +kernel
theorem dX9_put_55 : decode cX9_put 55 = .ok (.aload_n 0, 1) := by decide +kernel
theorem dX9_put_56 : decode cX9_put 56 = .ok (.ldc 64, 2) := by decide +kernel
theorem dX9_put_58 : decode cX9_put 58 = .ok (.invokevirtual 65, 3) := by decide +kernel
theorem dX9_put_61 : decode cX9_put 61 = .ok (.ireturn, 1) := by decide +kernel
theorem dX9_put_62 : decode cX9_put 62 = .ok (.aload 4, 2) := by decide +kernel
theorem dX9_put_64 : decode cX9_put 64 = .ok (.getfield 248, 3) := by decide +kernel
theorem dX9_put_67 : decode cX9_put 67 = .ok (.iload_n 2, 1) := by decide +kernel
theorem dX9_put_68 : decode cX9_put 68 = .ok (.aload 4, 2) := by decide +kernel
theorem dX9_put_70 : decode cX9_put 70 = .ok (.iload_n 3, 1) := by decide +kernel
theorem dX9_put_71 : decode cX9_put 71 = .ok (.invokevirtual 279, 3) := by decide +kernel
theorem dX9_put_74 : decode cX9_put 74 = .ok (.invokevirtual 282, 3) := by decide +kernel
theorem dX9_put_77 : decode cX9_put 77 = .ok (.iconst 1, 1) := by decide +kernel
theorem dX9_put_78 : decode cX9_put 78 = .ok (.ireturn, 1) := by decide +kernel
theorem dX9_move_0 : decode cX9_move 0 = .ok (.iload_n 1, 1) := by decide +kernel
theorem dX9_move_1 : decode cX9_move 1 = .ok (.invokestatic 241, 3) := by decide +kernel
theorem dX9_move_4 : decode cX9_move 4 = .ok (.ifCond .eq 10, 3) := by decide +kernel
theorem dX9_move_7 : decode cX9_move 7 = .ok (.iload_n 3, 1) := by decide +kernel
theorem dX9_move_8 : decode cX9_move 8 = .ok (.invokestatic 241, 3) := by decide +kernel
theorem dX9_move_11 : decode cX9_move 11 = .ok (.ifCond .ne 10, 3) := by decide +kernel
theorem dX9_move_14 : decode cX9_move 14 = .ok (.aload_n 0, 1) := by decide +kernel
theorem dX9_move_15 : decode cX9_move 15 = .ok (.ldc 64, 2) := by decide +kernel
theorem dX9_move_17 : decode cX9_move 17 = .ok (.invokevirtual 65, 3) := by decide +kernel
theorem dX9_move_20 : decode cX9_move 20 = .ok (.ireturn, 1) := by decide +kernel
theorem dX9_move_21 : decode cX9_move 21 = .ok (.aload_n 0, 1) := by decide +kernel
theorem dX9_move_22 : decode cX9_move 22 = .ok (.getfield 47, 3) := by decide +kernel
theorem dX9_move_25 : decode cX9_move 25 = .ok (.iload_n 1, 1) := by decide +kernel
theorem dX9_move_26 : decode cX9_move 26 = .ok (.aaload, 1) := by decide +kernel
theorem dX9_move_27 : decode cX9_move 27 = .ok (.astore 6, 2) := by decide +kernel
theorem dX9_move_29 : decode cX9_move 29 = .ok (.aload_n 0, 1) := by decide +kernel
theorem dX9_move_30 : decode cX9_move 30 = .ok (.getfield 47, 3) := by decide +kernel
theorem dX9_move_33 : decode cX9_move 33 = .ok (.iload_n 3, 1) := by decide +kernel
theorem dX9_move_34 : decode cX9_move 34 = .ok (.aaload, 1) := by decide +kernel
theorem dX9_move_35 : decode cX9_move 35 = .ok (.astore 7, 2) := by decide +kernel
theorem dX9_move_37 : decode cX9_move 37 = .ok (.aload 6, 2) := by decide +kernel
theorem dX9_move_39 : decode cX9_move 39 = .ok (.invokevirtual 244, 3) := by decide +kernel
theorem dX9_move_42 : decode cX9_move 42 = .ok (.ifCond .ne 11, 3) := by decide +kernel
theorem dX9_move_45 : decode cX9_move 45 = .ok (.aload 7, 2) := by decide +kernel
theorem dX9_move_47 : decode cX9_move 47 = .ok (.invokevirtual 244, 3) := by decide +kernel
theorem dX9_move_50 : decode cX9_move 50 = .ok (.ifCond .eq 10, 3) := by decide +kernel
theorem dX9_move_53 : decode cX9_move 53 = .ok (.aload_n 0, 1) := by decide +kernel
theorem dX9_move_54 : decode cX9_move 54 = .ok (.ldc 212, 2) := by decide +kernel
theorem dX9_move_56 : decode cX9_move 56 = .ok (.invokevirtual 65, 3) := by decide +kernel
theorem dX9_move_59 : decode cX9_move 59 = .ok (.ireturn, 1) := by decide +kernel
theorem dX9_move_60 : decode cX9_move 60 = .ok (.aload 6, 2) := by decide +kernel
theorem dX9_move_62 : decode cX9_move 62 = .ok (.getfield 285, 3) := by decide +kernel
theorem dX9_move_65 : decode cX9_move 65 = .ok (.aload 7, 2) := by decide +kernel
theorem dX9_move_67 : decode cX9_move 67 = .ok (.getfield 285, 3) := by decide +kernel
theorem dX9_move_70 : decode cX9_move 70 = .ok (.if_icmp .eq 10, 3) := by decide +kernel
theorem dX9_move_73 : decode cX9_move 73 = .ok (.aload_n 0, 1) := by decide +kernel
theorem dX9_move_74 : decode cX9_move 74 = .ok (.ldc 112, 2) := by decide +kernel
theorem dX9_move_76 : decode cX9_move 76 = .ok (.invokevirtual 65, 3) := by decide +kernel
theorem dX9_move_79 : decode cX9_move 79 = .ok (.ireturn, 1) := by decide +kernel
theorem dX9_move_80 : decode cX9_move 80 = .ok (.aload 6, 2) := by decide +kernel
theorem dX9_move_82 : decode cX9_move 82 = .ok (.getfield 248, 3) := by decide +kernel
theorem dX9_move_85 : decode cX9_move 85 = .ok (.iload_n 2, 1) := by decide +kernel
theorem dX9_move_86 : decode cX9_move 86 = .ok (.iload 5, 2) := by decide +kernel
theorem dX9_move_88 : decode cX9_move 88 = .ok (.invokevirtual 288, 3) := by decide +kernel
theorem dX9_move_91 : decode cX9_move 91 = .ok (.ifCond .eq 18, 3) := by decide +kernel
theorem dX9_move_94 : decode cX9_move 94 = .ok (.aload 7, 2) := by decide +kernel
theorem dX9_move_96 : decode cX9_move 96 = .ok (.getfield 248, 3) := by decide +kernel
theorem dX9_move_99 : decode cX9_move 99 = .ok (.iload 4, 2) := by decide +kernel
theorem dX9_move_101 : decode cX9_move 101 = .ok (.iload 5, 2) := by decide +kernel
theorem dX9_move_103 : decode cX9_move 103 = .ok (.invokevirtual 288, 3) := by decide +kernel
theorem dX9_move_106 : decode cX9_move 106 = .ok (.ifCond .ne 10, 3) := by decide +kernel
theorem dX9_move_109 : decode cX9_move 109 = .ok (.aload_n 0, 1) := by decide +kernel
theorem dX9_move_110 : decode cX9_move 110 = .ok (.ldc 64, 2) := by decide +kernel
theorem dX9_move_112 : decode cX9_move 112 = .ok (.invokevirtual 65, 3) := by decide +kernel
theorem dX9_move_115 : decode cX9_move 115 = .ok (.ireturn, 1) := by decide +kernel
theorem dX9_move_116 : decode cX9_move 116 = .ok (.aload 7, 2) := by decide +kernel
theorem dX9_move_118 : decode cX9_move 118 = .ok (.getfield 248, 3) := by decide +kernel
theorem dX9_move_121 : decode cX9_move 121 = .ok (.aload 6, 2) := by decide +kernel
theorem dX9_move_123 : decode cX9_move 123 = .ok (.getfield 248, 3) := by decide +kernel
theorem dX9_move_126 : decode cX9_move 126 = .ok (.iload_n 2, 1) := by decide +kernel
theorem dX9_move_127 : decode cX9_move 127 = .ok (.iload 4, 2) := by decide +kernel
theorem dX9_move_129 : decode cX9_move 129 = .ok (.iload 5, 2) := by decide +kernel
theorem dX9_move_131 : decode cX9_move 131 = .ok (.invokevirtual 291, 3) := by decide +kernel
theorem dX9_move_134 : decode cX9_move 134 = .ok (.iload 5, 2) := by decide +kernel
theorem dX9_move_136 : decode cX9_move 136 = .ok (.ireturn, 1) := by decide +kernel
theorem dX9_partsAll_0 : decode cX9_partsAll 0 = .ok (.iload_n 1, 1) := by decide +kernel
theorem dX9_partsAll_1 : decode cX9_partsAll 1 = .ok (.invokestatic 241, 3) := by decide +kernel
theorem dX9_partsAll_4 : decode cX9_partsAll 4 = .ok (.ifCond .ne 10, 3) := by decide +kernel
theorem dX9_partsAll_7 : decode cX9_partsAll 7 = .ok (.aload_n 0, 1) := by decide +kernel
theorem dX9_partsAll_8 : decode cX9_partsAll 8 = .ok (.ldc 64, 2) := by decide +kernel
theorem dX9_partsAll_10 : decode cX9_partsAll 10 = .ok (.invokevirtual 65, 3) := by decide +kernel
theorem dX9_partsAll_13 : decode cX9_partsAll 13 = .ok (.ireturn, 1) := by decide +kernel
theorem dX9_partsAll_14 : decode cX9_partsAll 14 = .ok (.aload_n 0, 1) := by decide +kernel
theorem dX9_partsAll_15 : decode cX9_partsAll 15 = .ok (.getfield 47, 3) := by decide +kernel
theorem dX9_partsAll_18 : decode cX9_partsAll 18 = .ok (.iload_n 1, 1) := by decide +kernel
theorem dX9_partsAll_19 : decode cX9_partsAll 19 = .ok (.aaload, 1) := by decide +kernel
theorem dX9_partsAll_20 : decode cX9_partsAll 20 = .ok (.invokevirtual 244, 3) := by decide +kernel
theorem dX9_partsAll_23 : decode cX9_partsAll 23 = .ok (.ifCond .eq 10, 3) := by decide +kernel
theorem dX9_partsAll_26 : decode cX9_partsAll 26 = .ok (.aload_n 0, 1) := by decide +kernel
theorem dX9_partsAll_27 : decode cX9_partsAll 27 = .ok (.ldc 212, 2) := by decide +kernel
theorem dX9_partsAll_29 : decode cX9_partsAll 29 = .ok (.invokevirtual 65, 3) := by decide +kernel
theorem dX9_partsAll_32 : decode cX9_partsAll 32 = .ok (.ireturn, 1) := by decide +kernel
theorem dX9_partsAll_33 : decode cX9_partsAll 33 = .ok (.aload_n 0, 1) := by decide +kernel
theorem dX9_partsAll_34 : decode cX9_partsAll 34 = .ok (.getfield 47, 3) := by decide +kernel
theorem dX9_partsAll_37 : decode cX9_partsAll 37 = .ok (.iload_n 1, 1) := by decide +kernel
theorem dX9_partsAll_38 : decode cX9_partsAll 38 = .ok (.aaload, 1) := by decide +kernel
theorem dX9_partsAll_39 : decode cX9_partsAll 39 = .ok (.getfield 248, 3) := by decide +kernel
theorem dX9_partsAll_42 : decode cX9_partsAll 42 = .ok (.astore_n 2, 1) := by decide +kernel
theorem dX9_partsAll_43 : decode cX9_partsAll 43 = .ok (.iconst 0, 1) := by decide +kernel
theorem dX9_partsAll_44 : decode cX9_partsAll 44 = .ok (.istore_n 3, 1) := by decide +kernel
theorem dX9_partsAll_45 : decode cX9_partsAll 45 = .ok (.iload_n 3, 1) := by decide +kernel
theorem dX9_partsAll_46 : decode cX9_partsAll 46 = .ok (.aload_n 2, 1) := by decide +kernel
theorem dX9_partsAll_47 : decode cX9_partsAll 47 = .ok (.invokevirtual 150, 3) := by decide +kernel
theorem dX9_partsAll_50 : decode cX9_partsAll 50 = .ok (.if_icmp .ge 48, 3) := by decide +kernel
theorem dX9_partsAll_53 : decode cX9_partsAll 53 = .ok (.aload_n 0, 1) := by decide +kernel
theorem dX9_partsAll_54 : decode cX9_partsAll 54 = .ok (.getfield 12, 3) := by decide +kernel
theorem dX9_partsAll_57 : decode cX9_partsAll 57 = .ok (.iload_n 3, 1) := by decide +kernel
theorem dX9_partsAll_58 : decode cX9_partsAll 58 = .ok (.invokevirtual 140, 3) := by decide +kernel
theorem dX9_partsAll_61 : decode cX9_partsAll 61 = .ok (.ifCond .eq 37, 3) := by decide +kernel
theorem dX9_partsAll_64 : decode cX9_partsAll 64 = .ok (.aload_n 2, 1) := by decide +kernel
theorem dX9_partsAll_65 : decode cX9_partsAll 65 = .ok (.iload_n 3, 1) := by decide +kernel
theorem dX9_partsAll_66 : decode cX9_partsAll 66 = .ok (.invokevirtual 272, 3) := by decide +kernel
theorem dX9_partsAll_69 : decode cX9_partsAll 69 = .ok (.invokestatic 113, 3) := by decide +kernel
theorem dX9_partsAll_72 : decode cX9_partsAll 72 = .ok (.ifCond .eq 26, 3) := by decide +kernel
theorem dX9_partsAll_75 : decode cX9_partsAll 75 = .ok (.aload_n 0, 1) := by decide +kernel
theorem dX9_partsAll_76 : decode cX9_partsAll 76 = .ok (.getfield 12, 3) := by decide +kernel
theorem dX9_partsAll_79 : decode cX9_partsAll 79 = .ok (.getfield 125, 3) := by decide +kernel
theorem dX9_partsAll_82 : decode cX9_partsAll 82 = .ok (.iload_n 3, 1) := by decide +kernel
theorem dX9_partsAll_83 : decode cX9_partsAll 83 = .ok (.aaload, 1) := by decide +kernel
theorem dX9_partsAll_84 : decode cX9_partsAll 84 = .ok (.aload_n 2, 1) := by decide +kernel
theorem dX9_partsAll_85 : decode cX9_partsAll 85 = .ok (.iload_n 3, 1) := by decide +kernel
theorem dX9_partsAll_86 : decode cX9_partsAll 86 = .ok (.invokevirtual 272, 3) := by decide +kernel
theorem dX9_partsAll_89 : decode cX9_partsAll 89 = .ok (.putfield 134, 3) := by decide +kernel
theorem dX9_partsAll_92 : decode cX9_partsAll 92 = .ok (.iinc 3 1, 3) := by decide +kernel
theorem dX9_partsAll_95 : decode cX9_partsAll 95 = .ok (.goto (-50), 3) := by decide +kernel
theorem dX9_partsAll_98 : decode cX9_partsAll 98 = .ok (.iload_n 3, 1) := by decide +kernel
theorem dX9_partsAll_99 : decode cX9_partsAll 99 = .ok (.ireturn, 1) := by decide +kernel
theorem dX9_judge_0 : decode cX9_judge 0 = .ok (.iload_n 1, 1) := by decide +kernel
theorem dX9_judge_1 : decode cX9_judge 1 = .ok (.invokestatic 241, 3) := by decide +kernel
theorem dX9_judge_4 : decode cX9_judge 4 = .ok (.ifCond .ne 10, 3) := by decide +kernel
theorem dX9_judge_7 : decode cX9_judge 7 = .ok (.aload_n 0, 1) := by decide +kernel
theorem dX9_judge_8 : decode cX9_judge 8 = .ok (.ldc 64, 2) := by decide +kernel
theorem dX9_judge_10 : decode cX9_judge 10 = .ok (.invokevirtual 65, 3) := by decide +kernel
theorem dX9_judge_13 : decode cX9_judge 13 = .ok (.ireturn, 1) := by decide +kernel
theorem dX9_judge_14 : decode cX9_judge 14 = .ok (.aload_n 0, 1) := by decide +kernel
theorem dX9_judge_15 : decode cX9_judge 15 = .ok (.getfield 47, 3) := by decide +kernel
theorem dX9_judge_18 : decode cX9_judge 18 = .ok (.iload_n 1, 1) := by decide +kernel
theorem dX9_judge_19 : decode cX9_judge 19 = .ok (.aaload, 1) := by decide +kernel
theorem dX9_judge_20 : decode cX9_judge 20 = .ok (.invokevirtual 244, 3) := by decide +kernel
theorem dX9_judge_23 : decode cX9_judge 23 = .ok (.ifCond .eq 10, 3) := by decide +kernel
theorem dX9_judge_26 : decode cX9_judge 26 = .ok (.aload_n 0, 1) := by decide +kernel
theorem dX9_judge_27 : decode cX9_judge 27 = .ok (.ldc 212, 2) := by decide +kernel
theorem dX9_judge_29 : decode cX9_judge 29 = .ok (.invokevirtual 65, 3) := by decide +kernel
theorem dX9_judge_32 : decode cX9_judge 32 = .ok (.ireturn, 1) := by decide +kernel
theorem dX9_judge_33 : decode cX9_judge 33 = .ok (.aload_n 0, 1) := by decide +kernel
theorem dX9_judge_34 : decode cX9_judge 34 = .ok (.getfield 47, 3) := by decide +kernel
theorem dX9_judge_37 : decode cX9_judge 37 = .ok (.iload_n 1, 1) := by decide +kernel
theorem dX9_judge_38 : decode cX9_judge 38 = .ok (.aaload, 1) := by decide +kernel
theorem dX9_judge_39 : decode cX9_judge 39 = .ok (.getfield 248, 3) := by decide +kernel
theorem dX9_judge_42 : decode cX9_judge 42 = .ok (.astore_n 2, 1) := by decide +kernel
theorem dX9_judge_43 : decode cX9_judge 43 = .ok (.iconst 0, 1) := by decide +kernel
theorem dX9_judge_44 : decode cX9_judge 44 = .ok (.istore_n 3, 1) := by decide +kernel
theorem dX9_judge_45 : decode cX9_judge 45 = .ok (.iload_n 3, 1) := by decide +kernel
theorem dX9_judge_46 : decode cX9_judge 46 = .ok (.aload_n 2, 1) := by decide +kernel
theorem dX9_judge_47 : decode cX9_judge 47 = .ok (.invokevirtual 150, 3) := by decide +kernel
theorem dX9_judge_50 : decode cX9_judge 50 = .ok (.if_icmp .ge 33, 3) := by decide +kernel
theorem dX9_judge_53 : decode cX9_judge 53 = .ok (.aload_n 2, 1) := by decide +kernel
theorem dX9_judge_54 : decode cX9_judge 54 = .ok (.iload_n 3, 1) := by decide +kernel
theorem dX9_judge_55 : decode cX9_judge 55 = .ok (.invokevirtual 272, 3) := by decide +kernel
theorem dX9_judge_58 : decode cX9_judge 58 = .ok (.aload_n 0, 1) := by decide +kernel
theorem dX9_judge_59 : decode cX9_judge 59 = .ok (.getfield 12, 3) := by decide +kernel
theorem dX9_judge_62 : decode cX9_judge 62 = .ok (.aload_n 0, 1) := by decide +kernel
theorem dX9_judge_63 : decode cX9_judge 63 = .ok (.getfield 12, 3) := by decide +kernel
theorem dX9_judge_66 : decode cX9_judge 66 = .ok (.getfield 103, 3) := by decide +kernel
theorem dX9_judge_69 : decode cX9_judge 69 = .ok (.iload_n 3, 1) := by decide +kernel
theorem dX9_judge_70 : decode cX9_judge 70 = .ok (.iadd, 1) := by decide +kernel
theorem dX9_judge_71 : decode cX9_judge 71 = .ok (.invokevirtual 143, 3) := by decide +kernel
theorem dX9_judge_74 : decode cX9_judge 74 = .ok (.if_icmp .ne 9, 3) := by decide +kernel
theorem dX9_judge_77 : decode cX9_judge 77 = .ok (.iinc 3 1, 3) := by decide +kernel
theorem dX9_judge_80 : decode cX9_judge 80 = .ok (.goto (-35), 3) := by decide +kernel
theorem dX9_judge_83 : decode cX9_judge 83 = .ok (.iload_n 3, 1) := by decide +kernel
theorem dX9_judge_84 : decode cX9_judge 84 = .ok (.ireturn, 1) := by decide +kernel
theorem dX9_image_0 : decode cX9_image 0 = .ok (.aload_n 0, 1) := by decide +kernel
theorem dX9_image_1 : decode cX9_image 1 = .ok (.getfield 295, 3) := by decide +kernel
theorem dX9_image_4 : decode cX9_image 4 = .ok (.ifnonnull 14, 3) := by decide +kernel
theorem dX9_image_7 : decode cX9_image 7 = .ok (.aload_n 0, 1) := by decide +kernel
theorem dX9_image_8 : decode cX9_image 8 = .ok (.new 9, 3) := by decide +kernel
theorem dX9_image_11 : decode cX9_image 11 = .ok (.dup, 1) := by decide +kernel
theorem dX9_image_12 : decode cX9_image 12 = .ok (.invokespecial 11, 3) := by decide +kernel
theorem dX9_image_15 : decode cX9_image 15 = .ok (.putfield 295, 3) := by decide +kernel
theorem dX9_image_18 : decode cX9_image 18 = .ok (.aload_n 0, 1) := by decide +kernel
theorem dX9_image_19 : decode cX9_image 19 = .ok (.getfield 295, 3) := by decide +kernel
theorem dX9_image_22 : decode cX9_image 22 = .ok (.aload_n 0, 1) := by decide +kernel
theorem dX9_image_23 : decode cX9_image 23 = .ok (.getfield 12, 3) := by decide +kernel
theorem dX9_image_26 : decode cX9_image 26 = .ok (.invokevirtual 298, 3) := by decide +kernel
theorem dX9_image_29 : decode cX9_image 29 = .ok (.aload_n 0, 1) := by decide +kernel
theorem dX9_image_30 : decode cX9_image 30 = .ok (.dup, 1) := by decide +kernel
theorem dX9_image_31 : decode cX9_image 31 = .ok (.getfield 301, 3) := by decide +kernel
theorem dX9_image_34 : decode cX9_image 34 = .ok (.iconst 1, 1) := by decide +kernel
theorem dX9_image_35 : decode cX9_image 35 = .ok (.iadd, 1) := by decide +kernel
theorem dX9_image_36 : decode cX9_image 36 = .ok (.putfield 301, 3) := by decide +kernel
theorem dX9_image_39 : decode cX9_image 39 = .ok (.aload_n 0, 1) := by decide +kernel
theorem dX9_image_40 : decode cX9_image 40 = .ok (.getfield 301, 3) := by decide +kernel
theorem dX9_image_43 : decode cX9_image 43 = .ok (.ireturn, 1) := by decide +kernel
theorem dX9_restore_0 : decode cX9_restore 0 = .ok (.aload_n 0, 1) := by decide +kernel
theorem dX9_restore_1 : decode cX9_restore 1 = .ok (.getfield 295, 3) := by decide +kernel
theorem dX9_restore_4 : decode cX9_restore 4 = .ok (.ifnonnull 10, 3) := by decide +kernel
theorem dX9_restore_7 : decode cX9_restore 7 = .ok (.aload_n 0, 1) := by decide +kernel
theorem dX9_restore_8 : decode cX9_restore 8 = .ok (.ldc 212, 2) := by decide +kernel
theorem dX9_restore_10 : decode cX9_restore 10 = .ok (.invokevirtual 65, 3) := by decide +kernel
theorem dX9_restore_13 : decode cX9_restore 13 = .ok (.ireturn, 1) := by decide +kernel
theorem dX9_restore_14 : decode cX9_restore 14 = .ok (.aload_n 0, 1) := by decide +kernel
theorem dX9_restore_15 : decode cX9_restore 15 = .ok (.getfield 12, 3) := by decide +kernel
theorem dX9_restore_18 : decode cX9_restore 18 = .ok (.aload_n 0, 1) := by decide +kernel
theorem dX9_restore_19 : decode cX9_restore 19 = .ok (.getfield 295, 3) := by decide +kernel
theorem dX9_restore_22 : decode cX9_restore 22 = .ok (.invokevirtual 298, 3) := by decide +kernel
theorem dX9_restore_25 : decode cX9_restore 25 = .ok (.aload_n 0, 1) := by decide +kernel
theorem dX9_restore_26 : decode cX9_restore 26 = .ok (.getfield 12, 3) := by decide +kernel
theorem dX9_restore_29 : decode cX9_restore 29 = .ok (.getfield 103, 3) := by decide +kernel
theorem dX9_restore_32 : decode cX9_restore 32 = .ok (.ireturn, 1) := by decide +kernel
theorem dX9_tell_0 : decode cX9_tell 0 = .ok (.aload_n 0, 1) := by decide +kernel
theorem dX9_tell_1 : decode cX9_tell 1 = .ok (.getfield 12, 3) := by decide +kernel
theorem dX9_tell_4 : decode cX9_tell 4 = .ok (.getfield 304, 3) := by decide +kernel
theorem dX9_tell_7 : decode cX9_tell 7 = .ok (.iload_n 1, 1) := by decide +kernel
theorem dX9_tell_8 : decode cX9_tell 8 = .ok (.invokevirtual 158, 3) := by decide +kernel
theorem dX9_tell_11 : decode cX9_tell 11 = .ok (.ifCond .ne 10, 3) := by decide +kernel
theorem dX9_tell_14 : decode cX9_tell 14 = .ok (.aload_n 0, 1) := by decide +kernel
theorem dX9_tell_15 : decode cX9_tell 15 = .ok (.ldc 73, 2) := by decide +kernel
theorem dX9_tell_17 : decode cX9_tell 17 = .ok (.invokevirtual 65, 3) := by decide +kernel
theorem dX9_tell_20 : decode cX9_tell 20 = .ok (.ireturn, 1) := by decide +kernel
theorem dX9_tell_21 : decode cX9_tell 21 = .ok (.aload_n 0, 1) := by decide +kernel
theorem dX9_tell_22 : decode cX9_tell 22 = .ok (.getfield 12, 3) := by decide +kernel
theorem dX9_tell_25 : decode cX9_tell 25 = .ok (.getfield 304, 3) := by decide +kernel
theorem dX9_tell_28 : decode cX9_tell 28 = .ok (.invokevirtual 150, 3) := by decide +kernel
theorem dX9_tell_31 : decode cX9_tell 31 = .ok (.ireturn, 1) := by decide +kernel
theorem dX9_check_0 : decode cX9_check 0 = .ok (.aload_n 0, 1) := by decide +kernel
theorem dX9_check_1 : decode cX9_check 1 = .ok (.getfield 12, 3) := by decide +kernel
theorem dX9_check_4 : decode cX9_check 4 = .ok (.getfield 304, 3) := by decide +kernel
theorem dX9_check_7 : decode cX9_check 7 = .ok (.astore_n 1, 1) := by decide +kernel
theorem dX9_check_8 : decode cX9_check 8 = .ok (.iconst 0, 1) := by decide +kernel
theorem dX9_check_9 : decode cX9_check 9 = .ok (.istore_n 2, 1) := by decide +kernel
theorem dX9_check_10 : decode cX9_check 10 = .ok (.iload_n 2, 1) := by decide +kernel
theorem dX9_check_11 : decode cX9_check 11 = .ok (.aload_n 1, 1) := by decide +kernel
theorem dX9_check_12 : decode cX9_check 12 = .ok (.invokevirtual 150, 3) := by decide +kernel
theorem dX9_check_15 : decode cX9_check 15 = .ok (.if_icmp .ge 40, 3) := by decide +kernel
theorem dX9_check_18 : decode cX9_check 18 = .ok (.aload_n 0, 1) := by decide +kernel
theorem dX9_check_19 : decode cX9_check 19 = .ok (.getfield 12, 3) := by decide +kernel
theorem dX9_check_22 : decode cX9_check 22 = .ok (.iload_n 2, 1) := by decide +kernel
theorem dX9_check_23 : decode cX9_check 23 = .ok (.invokevirtual 140, 3) := by decide +kernel
theorem dX9_check_26 : decode cX9_check 26 = .ok (.ifCond .eq 29, 3) := by decide +kernel
theorem dX9_check_29 : decode cX9_check 29 = .ok (.aload_n 1, 1) := by decide +kernel
theorem dX9_check_30 : decode cX9_check 30 = .ok (.iload_n 2, 1) := by decide +kernel
theorem dX9_check_31 : decode cX9_check 31 = .ok (.invokevirtual 272, 3) := by decide +kernel
theorem dX9_check_34 : decode cX9_check 34 = .ok (.aload_n 0, 1) := by decide +kernel
theorem dX9_check_35 : decode cX9_check 35 = .ok (.getfield 12, 3) := by decide +kernel
theorem dX9_check_38 : decode cX9_check 38 = .ok (.getfield 125, 3) := by decide +kernel
theorem dX9_check_41 : decode cX9_check 41 = .ok (.iload_n 2, 1) := by decide +kernel
theorem dX9_check_42 : decode cX9_check 42 = .ok (.aaload, 1) := by decide +kernel
theorem dX9_check_43 : decode cX9_check 43 = .ok (.getfield 134, 3) := by decide +kernel
theorem dX9_check_46 : decode cX9_check 46 = .ok (.if_icmp .ne 9, 3) := by decide +kernel
theorem dX9_check_49 : decode cX9_check 49 = .ok (.iinc 2 1, 3) := by decide +kernel
theorem dX9_check_52 : decode cX9_check 52 = .ok (.goto (-42), 3) := by decide +kernel
theorem dX9_check_55 : decode cX9_check 55 = .ok (.iload_n 2, 1) := by decide +kernel
theorem dX9_check_56 : decode cX9_check 56 = .ok (.aload_n 1, 1) := by decide +kernel
theorem dX9_check_57 : decode cX9_check 57 = .ok (.invokevirtual 150, 3) := by decide +kernel
theorem dX9_check_60 : decode cX9_check 60 = .ok (.if_icmp .ne 7, 3) := by decide +kernel
theorem dX9_check_63 : decode cX9_check 63 = .ok (.iconst 1, 1) := by decide +kernel
theorem dX9_check_64 : decode cX9_check 64 = .ok (.goto 4, 3) := by decide +kernel
theorem dX9_check_67 : decode cX9_check 67 = .ok (.iconst 0, 1) := by decide +kernel
theorem dX9_check_68 : decode cX9_check 68 = .ok (.istore_n 3, 1) := by decide +kernel
theorem dX9_check_69 : decode cX9_check 69 = .ok (.aload_n 1, 1) := by decide +kernel
theorem dX9_check_70 : decode cX9_check 70 = .ok (.invokevirtual 167, 3) := by decide +kernel
theorem dX9_check_73 : decode cX9_check 73 = .ok (.iload_n 3, 1) := by decide +kernel
theorem dX9_check_74 : decode cX9_check 74 = .ok (.ifCond .eq 7, 3) := by decide +kernel
theorem dX9_check_77 : decode cX9_check 77 = .ok (.iconst 0, 1) := by decide +kernel
theorem dX9_check_78 : decode cX9_check 78 = .ok (.goto 6, 3) := by decide +kernel
theorem dX9_check_81 : decode cX9_check 81 = .ok (.iconst 1, 1) := by decide +kernel
theorem dX9_check_82 : decode cX9_check 82 = .ok (.iload_n 2, 1) := by decide +kernel
theorem dX9_check_83 : decode cX9_check 83 = .ok (.iadd, 1) := by decide +kernel
theorem dX9_check_84 : decode cX9_check 84 = .ok (.ireturn, 1) := by decide +kernel
theorem dX9_count_0 : decode cX9_count 0 = .ok (.iload_n 1, 1) := by decide +kernel
theorem dX9_count_1 : decode cX9_count 1 = .ok (.tableswitch 120 0 7 #[47, 55, 63, 71, 79, 90, 101, 112], 47) := by decide +kernel
theorem dX9_count_48 : decode cX9_count 48 = .ok (.aload_n 0, 1) := by decide +kernel
theorem dX9_count_49 : decode cX9_count 49 = .ok (.getfield 12, 3) := by decide +kernel
theorem dX9_count_52 : decode cX9_count 52 = .ok (.getfield 69, 3) := by decide +kernel
theorem dX9_count_55 : decode cX9_count 55 = .ok (.ireturn, 1) := by decide +kernel
theorem dX9_count_56 : decode cX9_count 56 = .ok (.aload_n 0, 1) := by decide +kernel
theorem dX9_count_57 : decode cX9_count 57 = .ok (.getfield 12, 3) := by decide +kernel
theorem dX9_count_60 : decode cX9_count 60 = .ok (.getfield 122, 3) := by decide +kernel
theorem dX9_count_63 : decode cX9_count 63 = .ok (.ireturn, 1) := by decide +kernel
theorem dX9_count_64 : decode cX9_count 64 = .ok (.aload_n 0, 1) := by decide +kernel
theorem dX9_count_65 : decode cX9_count 65 = .ok (.getfield 12, 3) := by decide +kernel
theorem dX9_count_68 : decode cX9_count 68 = .ok (.getfield 103, 3) := by decide +kernel
theorem dX9_count_71 : decode cX9_count 71 = .ok (.ireturn, 1) := by decide +kernel
theorem dX9_count_72 : decode cX9_count 72 = .ok (.aload_n 0, 1) := by decide +kernel
theorem dX9_count_73 : decode cX9_count 73 = .ok (.getfield 12, 3) := by decide +kernel
theorem dX9_count_76 : decode cX9_count 76 = .ok (.invokevirtual 307, 3) := by decide +kernel
theorem dX9_count_79 : decode cX9_count 79 = .ok (.ireturn, 1) := by decide +kernel
theorem dX9_count_80 : decode cX9_count 80 = .ok (.aload_n 0, 1) := by decide +kernel
theorem dX9_count_81 : decode cX9_count 81 = .ok (.getfield 12, 3) := by decide +kernel
theorem dX9_count_84 : decode cX9_count 84 = .ok (.getfield 18, 3) := by decide +kernel
theorem dX9_count_87 : decode cX9_count 87 = .ok (.invokevirtual 150, 3) := by decide +kernel
theorem dX9_count_90 : decode cX9_count 90 = .ok (.ireturn, 1) := by decide +kernel
theorem dX9_count_91 : decode cX9_count 91 = .ok (.aload_n 0, 1) := by decide +kernel
theorem dX9_count_92 : decode cX9_count 92 = .ok (.getfield 12, 3) := by decide +kernel
theorem dX9_count_95 : decode cX9_count 95 = .ok (.getfield 304, 3) := by decide +kernel
theorem dX9_count_98 : decode cX9_count 98 = .ok (.invokevirtual 150, 3) := by decide +kernel
theorem dX9_count_101 : decode cX9_count 101 = .ok (.ireturn, 1) := by decide +kernel
theorem dX9_count_102 : decode cX9_count 102 = .ok (.aload_n 0, 1) := by decide +kernel
theorem dX9_count_103 : decode cX9_count 103 = .ok (.getfield 41, 3) := by decide +kernel
theorem dX9_count_106 : decode cX9_count 106 = .ok (.getfield 269, 3) := by decide +kernel
theorem dX9_count_109 : decode cX9_count 109 = .ok (.invokevirtual 150, 3) := by decide +kernel
theorem dX9_count_112 : decode cX9_count 112 = .ok (.ireturn, 1) := by decide +kernel
theorem dX9_count_113 : decode cX9_count 113 = .ok (.aload_n 0, 1) := by decide +kernel
theorem dX9_count_114 : decode cX9_count 114 = .ok (.getfield 12, 3) := by decide +kernel
theorem dX9_count_117 : decode cX9_count 117 = .ok (.getfield 201, 3) := by decide +kernel
theorem dX9_count_120 : decode cX9_count 120 = .ok (.ireturn, 1) := by decide +kernel
theorem dX9_count_121 : decode cX9_count 121 = .ok (.aload_n 0, 1) := by decide +kernel
theorem dX9_count_122 : decode cX9_count 122 = .ok (.ldc 64, 2) := by decide +kernel
theorem dX9_count_124 : decode cX9_count 124 = .ok (.invokevirtual 65, 3) := by decide +kernel
theorem dX9_count_127 : decode cX9_count 127 = .ok (.ireturn, 1) := by decide +kernel
theorem dX9_told_0 : decode cX9_told 0 = .ok (.iload_n 1, 1) := by decide +kernel
theorem dX9_told_1 : decode cX9_told 1 = .ok (.iconst 1, 1) := by decide +kernel
theorem dX9_told_2 : decode cX9_told 2 = .ok (.bipush 6, 2) := by decide +kernel
theorem dX9_told_4 : decode cX9_told 4 = .ok (.invokestatic 93, 3) := by decide +kernel
theorem dX9_told_7 : decode cX9_told 7 = .ok (.ifCond .ne 10, 3) := by decide +kernel
theorem dX9_told_10 : decode cX9_told 10 = .ok (.aload_n 0, 1) := by decide +kernel
theorem dX9_told_11 : decode cX9_told 11 = .ok (.ldc 64, 2) := by decide +kernel
theorem dX9_told_13 : decode cX9_told 13 = .ok (.invokevirtual 65, 3) := by decide +kernel
theorem dX9_told_16 : decode cX9_told 16 = .ok (.ireturn, 1) := by decide +kernel
theorem dX9_told_17 : decode cX9_told 17 = .ok (.aload_n 0, 1) := by decide +kernel
theorem dX9_told_18 : decode cX9_told 18 = .ok (.getfield 51, 3) := by decide +kernel
theorem dX9_told_21 : decode cX9_told 21 = .ok (.iload_n 1, 1) := by decide +kernel
theorem dX9_told_22 : decode cX9_told 22 = .ok (.iaload, 1) := by decide +kernel
theorem dX9_told_23 : decode cX9_told 23 = .ok (.ireturn, 1) := by decide +kernel
theorem dX9_fail_0 : decode cX9_fail 0 = .ok (.ldc_w 310, 3) := by decide +kernel
theorem dX9_fail_3 : decode cX9_fail 3 = .ok (.iload_n 1, 1) := by decide +kernel
theorem dX9_fail_4 : decode cX9_fail 4 = .ok (.isub, 1) := by decide +kernel
theorem dX9_fail_5 : decode cX9_fail 5 = .ok (.istore_n 2, 1) := by decide +kernel
theorem dX9_fail_6 : decode cX9_fail 6 = .ok (.iload_n 2, 1) := by decide +kernel
theorem dX9_fail_7 : decode cX9_fail 7 = .ok (.iconst 1, 1) := by decide +kernel
theorem dX9_fail_8 : decode cX9_fail 8 = .ok (.bipush 6, 2) := by decide +kernel
theorem dX9_fail_10 : decode cX9_fail 10 = .ok (.invokestatic 93, 3) := by decide +kernel
theorem dX9_fail_13 : decode cX9_fail 13 = .ok (.ifCond .eq 13, 3) := by decide +kernel
theorem dX9_fail_16 : decode cX9_fail 16 = .ok (.aload_n 0, 1) := by decide +kernel
theorem dX9_fail_17 : decode cX9_fail 17 = .ok (.getfield 51, 3) := by decide +kernel

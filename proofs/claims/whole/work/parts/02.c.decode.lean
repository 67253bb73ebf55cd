theorem dX9_fail_20 : decode cX9_fail 20 = .ok (.iload_n 2, 1) := by decide +kernel
theorem dX9_fail_21 : decode cX9_fail 21 = .ok (.dup2, 1) := by decide +kernel
theorem dX9_fail_22 : decode cX9_fail 22 = .ok (.iaload, 1) := by decide +kernel
theorem dX9_fail_23 : decode cX9_fail 23 = .ok (.iconst 1, 1) := by decide +kernel
theorem dX9_fail_24 : decode cX9_fail 24 = .ok (.iadd, 1) := by decide +kernel
theorem dX9_fail_25 : decode cX9_fail 25 = .ok (.iastore, 1) := by decide +kernel
theorem dX9_fail_26 : decode cX9_fail 26 = .ok (.iload_n 1, 1) := by decide +kernel
theorem dX9_fail_27 : decode cX9_fail 27 = .ok (.ireturn, 1) := by decide +kernel
theorem dX9_within_0 : decode cX9_within 0 = .ok (.iload_n 0, 1) := by decide +kernel
theorem dX9_within_1 : decode cX9_within 1 = .ok (.iload_n 1, 1) := by decide +kernel
theorem dX9_within_2 : decode cX9_within 2 = .ok (.if_icmp .lt 12, 3) := by decide +kernel
theorem dX9_within_5 : decode cX9_within 5 = .ok (.iload_n 0, 1) := by decide +kernel
theorem dX9_within_6 : decode cX9_within 6 = .ok (.iload_n 2, 1) := by decide +kernel
theorem dX9_within_7 : decode cX9_within 7 = .ok (.if_icmp .gt 7, 3) := by decide +kernel
theorem dX9_within_10 : decode cX9_within 10 = .ok (.iconst 1, 1) := by decide +kernel
theorem dX9_within_11 : decode cX9_within 11 = .ok (.goto 4, 3) := by decide +kernel
theorem dX9_within_14 : decode cX9_within 14 = .ok (.iconst 0, 1) := by decide +kernel
theorem dX9_within_15 : decode cX9_within 15 = .ok (.ireturn, 1) := by decide +kernel
theorem dX9_isKindAndNumber_0 : decode cX9_isKindAndNumber 0 = .ok (.iload_n 0, 1) := by decide +kernel
theorem dX9_isKindAndNumber_1 : decode cX9_isKindAndNumber 1 = .ok (.iconst 0, 1) := by decide +kernel
theorem dX9_isKindAndNumber_2 : decode cX9_isKindAndNumber 2 = .ok (.bipush 69, 2) := by decide +kernel
theorem dX9_isKindAndNumber_4 : decode cX9_isKindAndNumber 4 = .ok (.invokestatic 93, 3) := by decide +kernel
theorem dX9_isKindAndNumber_7 : decode cX9_isKindAndNumber 7 = .ok (.ireturn, 1) := by decide +kernel
theorem dX9_isBeatAndPhase_0 : decode cX9_isBeatAndPhase 0 = .ok (.iload_n 0, 1) := by decide +kernel
theorem dX9_isBeatAndPhase_1 : decode cX9_isBeatAndPhase 1 = .ok (.iconst 1, 1) := by decide +kernel
theorem dX9_isBeatAndPhase_2 : decode cX9_isBeatAndPhase 2 = .ok (.bipush 12, 2) := by decide +kernel
theorem dX9_isBeatAndPhase_4 : decode cX9_isBeatAndPhase 4 = .ok (.invokestatic 93, 3) := by decide +kernel
theorem dX9_isBeatAndPhase_7 : decode cX9_isBeatAndPhase 7 = .ok (.ifCond .eq 18, 3) := by decide +kernel
theorem dX9_isBeatAndPhase_10 : decode cX9_isBeatAndPhase 10 = .ok (.iload_n 1, 1) := by decide +kernel
theorem dX9_isBeatAndPhase_11 : decode cX9_isBeatAndPhase 11 = .ok (.iconst 0, 1) := by decide +kernel
theorem dX9_isBeatAndPhase_12 : decode cX9_isBeatAndPhase 12 = .ok (.iload_n 0, 1) := by decide +kernel
theorem dX9_isBeatAndPhase_13 : decode cX9_isBeatAndPhase 13 = .ok (.iconst 1, 1) := by decide +kernel
theorem dX9_isBeatAndPhase_14 : decode cX9_isBeatAndPhase 14 = .ok (.isub, 1) := by decide +kernel
theorem dX9_isBeatAndPhase_15 : decode cX9_isBeatAndPhase 15 = .ok (.invokestatic 93, 3) := by decide +kernel
theorem dX9_isBeatAndPhase_18 : decode cX9_isBeatAndPhase 18 = .ok (.ifCond .eq 7, 3) := by decide +kernel
theorem dX9_isBeatAndPhase_21 : decode cX9_isBeatAndPhase 21 = .ok (.iconst 1, 1) := by decide +kernel
theorem dX9_isBeatAndPhase_22 : decode cX9_isBeatAndPhase 22 = .ok (.goto 4, 3) := by decide +kernel
theorem dX9_isBeatAndPhase_25 : decode cX9_isBeatAndPhase 25 = .ok (.iconst 0, 1) := by decide +kernel
theorem dX9_isBeatAndPhase_26 : decode cX9_isBeatAndPhase 26 = .ok (.ireturn, 1) := by decide +kernel
theorem dX9_isParts_0 : decode cX9_isParts 0 = .ok (.iload_n 0, 1) := by decide +kernel
theorem dX9_isParts_1 : decode cX9_isParts 1 = .ok (.iconst 0, 1) := by decide +kernel
theorem dX9_isParts_2 : decode cX9_isParts 2 = .ok (.bipush 99, 2) := by decide +kernel
theorem dX9_isParts_4 : decode cX9_isParts 4 = .ok (.invokestatic 93, 3) := by decide +kernel
theorem dX9_isParts_7 : decode cX9_isParts 7 = .ok (.ireturn, 1) := by decide +kernel
theorem dX9_isUse_0 : decode cX9_isUse 0 = .ok (.iload_n 0, 1) := by decide +kernel
theorem dX9_isUse_1 : decode cX9_isUse 1 = .ok (.ifCond .eq 8, 3) := by decide +kernel
theorem dX9_isUse_4 : decode cX9_isUse 4 = .ok (.iload_n 0, 1) := by decide +kernel
theorem dX9_isUse_5 : decode cX9_isUse 5 = .ok (.iconst 1, 1) := by decide +kernel
theorem dX9_isUse_6 : decode cX9_isUse 6 = .ok (.if_icmp .ne 7, 3) := by decide +kernel
theorem dX9_isUse_9 : decode cX9_isUse 9 = .ok (.iconst 1, 1) := by decide +kernel
theorem dX9_isUse_10 : decode cX9_isUse 10 = .ok (.goto 4, 3) := by decide +kernel
theorem dX9_isUse_13 : decode cX9_isUse 13 = .ok (.iconst 0, 1) := by decide +kernel
theorem dX9_isUse_14 : decode cX9_isUse 14 = .ok (.ireturn, 1) := by decide +kernel
theorem dX9_isSheet_0 : decode cX9_isSheet 0 = .ok (.iload_n 0, 1) := by decide +kernel
theorem dX9_isSheet_1 : decode cX9_isSheet 1 = .ok (.iconst 0, 1) := by decide +kernel
theorem dX9_isSheet_2 : decode cX9_isSheet 2 = .ok (.iconst 3, 1) := by decide +kernel
theorem dX9_isSheet_3 : decode cX9_isSheet 3 = .ok (.invokestatic 93, 3) := by decide +kernel
theorem dX9_isSheet_6 : decode cX9_isSheet 6 = .ok (.ireturn, 1) := by decide +kernel
theorem dX9_holds_0 : decode cX9_holds 0 = .ok (.iload_n 0, 1) := by decide +kernel
theorem dX9_holds_1 : decode cX9_holds 1 = .ok (.iload_n 1, 1) := by decide +kernel
theorem dX9_holds_2 : decode cX9_holds 2 = .ok (.ishr, 1) := by decide +kernel
theorem dX9_holds_3 : decode cX9_holds 3 = .ok (.iconst 1, 1) := by decide +kernel
theorem dX9_holds_4 : decode cX9_holds 4 = .ok (.iand, 1) := by decide +kernel
theorem dX9_holds_5 : decode cX9_holds 5 = .ok (.iconst 1, 1) := by decide +kernel
theorem dX9_holds_6 : decode cX9_holds 6 = .ok (.if_icmp .ne 7, 3) := by decide +kernel
theorem dX9_holds_9 : decode cX9_holds 9 = .ok (.iconst 1, 1) := by decide +kernel
theorem dX9_holds_10 : decode cX9_holds 10 = .ok (.goto 4, 3) := by decide +kernel
theorem dX9_holds_13 : decode cX9_holds 13 = .ok (.iconst 0, 1) := by decide +kernel
theorem dX9_holds_14 : decode cX9_holds 14 = .ok (.ireturn, 1) := by decide +kernel
theorem dX9_isUnder_0 : decode cX9_isUnder 0 = .ok (.iload_n 0, 1) := by decide +kernel
theorem dX9_isUnder_1 : decode cX9_isUnder 1 = .ok (.istore_n 2, 1) := by decide +kernel
theorem dX9_isUnder_2 : decode cX9_isUnder 2 = .ok (.iconst 0, 1) := by decide +kernel
theorem dX9_isUnder_3 : decode cX9_isUnder 3 = .ok (.istore_n 3, 1) := by decide +kernel
theorem dX9_isUnder_4 : decode cX9_isUnder 4 = .ok (.iload_n 3, 1) := by decide +kernel
theorem dX9_isUnder_5 : decode cX9_isUnder 5 = .ok (.bipush 7, 2) := by decide +kernel
theorem dX9_isUnder_7 : decode cX9_isUnder 7 = .ok (.if_icmp .ge 30, 3) := by decide +kernel
theorem dX9_isUnder_10 : decode cX9_isUnder 10 = .ok (.iload_n 2, 1) := by decide +kernel
theorem dX9_isUnder_11 : decode cX9_isUnder 11 = .ok (.iload_n 1, 1) := by decide +kernel
theorem dX9_isUnder_12 : decode cX9_isUnder 12 = .ok (.if_icmp .eq 25, 3) := by decide +kernel
theorem dX9_isUnder_15 : decode cX9_isUnder 15 = .ok (.iload_n 2, 1) := by decide +kernel
theorem dX9_isUnder_16 : decode cX9_isUnder 16 = .ok (.iconst 0, 1) := by decide +kernel
theorem dX9_isUnder_17 : decode cX9_isUnder 17 = .ok (.bipush 6, 2) := by decide +kernel
theorem dX9_isUnder_19 : decode cX9_isUnder 19 = .ok (.invokestatic 93, 3) := by decide +kernel
theorem dX9_isUnder_22 : decode cX9_isUnder 22 = .ok (.ifCond .eq 15, 3) := by decide +kernel
theorem dX9_isUnder_25 : decode cX9_isUnder 25 = .ok (.getstatic 311, 3) := by decide +kernel
theorem dX9_isUnder_28 : decode cX9_isUnder 28 = .ok (.iload_n 2, 1) := by decide +kernel
theorem dX9_isUnder_29 : decode cX9_isUnder 29 = .ok (.iaload, 1) := by decide +kernel
theorem dX9_isUnder_30 : decode cX9_isUnder 30 = .ok (.istore_n 2, 1) := by decide +kernel
theorem dX9_isUnder_31 : decode cX9_isUnder 31 = .ok (.iinc 3 1, 3) := by decide +kernel
theorem dX9_isUnder_34 : decode cX9_isUnder 34 = .ok (.goto (-30), 3) := by decide +kernel
theorem dX9_isUnder_37 : decode cX9_isUnder 37 = .ok (.iload_n 2, 1) := by decide +kernel
theorem dX9_isUnder_38 : decode cX9_isUnder 38 = .ok (.iload_n 1, 1) := by decide +kernel
theorem dX9_isUnder_39 : decode cX9_isUnder 39 = .ok (.if_icmp .ne 7, 3) := by decide +kernel
theorem dX9_isUnder_42 : decode cX9_isUnder 42 = .ok (.iconst 1, 1) := by decide +kernel
theorem dX9_isUnder_43 : decode cX9_isUnder 43 = .ok (.goto 4, 3) := by decide +kernel
theorem dX9_isUnder_46 : decode cX9_isUnder 46 = .ok (.iconst 0, 1) := by decide +kernel
theorem dX9_isUnder_47 : decode cX9_isUnder 47 = .ok (.ireturn, 1) := by decide +kernel
theorem dX9_rest_0 : decode cX9_rest 0 = .ok (.iload_n 1, 1) := by decide +kernel
theorem dX9_rest_1 : decode cX9_rest 1 = .ok (.ifCond .le 11, 3) := by decide +kernel
theorem dX9_rest_4 : decode cX9_rest 4 = .ok (.iload_n 0, 1) := by decide +kernel
theorem dX9_rest_5 : decode cX9_rest 5 = .ok (.iload_n 2, 1) := by decide +kernel
theorem dX9_rest_6 : decode cX9_rest 6 = .ok (.iadd, 1) := by decide +kernel
theorem dX9_rest_7 : decode cX9_rest 7 = .ok (.iload_n 1, 1) := by decide +kernel
theorem dX9_rest_8 : decode cX9_rest 8 = .ok (.irem, 1) := by decide +kernel
theorem dX9_rest_9 : decode cX9_rest 9 = .ok (.goto 4, 3) := by decide +kernel
theorem dX9_rest_12 : decode cX9_rest 12 = .ok (.iconst 0, 1) := by decide +kernel
theorem dX9_rest_13 : decode cX9_rest 13 = .ok (.ireturn, 1) := by decide +kernel
theorem dX9_commonDivisor_0 : decode cX9_commonDivisor 0 = .ok (.iload_n 0, 1) := by decide +kernel
theorem dX9_commonDivisor_1 : decode cX9_commonDivisor 1 = .ok (.istore_n 2, 1) := by decide +kernel
theorem dX9_commonDivisor_2 : decode cX9_commonDivisor 2 = .ok (.iload_n 1, 1) := by decide +kernel
theorem dX9_commonDivisor_3 : decode cX9_commonDivisor 3 = .ok (.istore_n 3, 1) := by decide +kernel
theorem dX9_commonDivisor_4 : decode cX9_commonDivisor 4 = .ok (.iconst 0, 1) := by decide +kernel
theorem dX9_commonDivisor_5 : decode cX9_commonDivisor 5 = .ok (.istore 4, 2) := by decide +kernel
theorem dX9_commonDivisor_7 : decode cX9_commonDivisor 7 = .ok (.iload 4, 2) := by decide +kernel
theorem dX9_commonDivisor_9 : decode cX9_commonDivisor 9 = .ok (.bipush 99, 2) := by decide +kernel
theorem dX9_commonDivisor_11 : decode cX9_commonDivisor 11 = .ok (.if_icmp .ge 23, 3) := by decide +kernel
theorem dX9_commonDivisor_14 : decode cX9_commonDivisor 14 = .ok (.iload_n 3, 1) := by decide +kernel
theorem dX9_commonDivisor_15 : decode cX9_commonDivisor 15 = .ok (.ifCond .le 19, 3) := by decide +kernel
theorem dX9_commonDivisor_18 : decode cX9_commonDivisor 18 = .ok (.iload_n 2, 1) := by decide +kernel
theorem dX9_commonDivisor_19 : decode cX9_commonDivisor 19 = .ok (.iload_n 3, 1) := by decide +kernel
theorem dX9_commonDivisor_20 : decode cX9_commonDivisor 20 = .ok (.irem, 1) := by decide +kernel
theorem dX9_commonDivisor_21 : decode cX9_commonDivisor 21 = .ok (.istore 5, 2) := by decide +kernel
theorem dX9_commonDivisor_23 : decode cX9_commonDivisor 23 = .ok (.iload_n 3, 1) := by decide +kernel
theorem dX9_commonDivisor_24 : decode cX9_commonDivisor 24 = .ok (.istore_n 2, 1) := by decide +kernel
theorem dX9_commonDivisor_25 : decode cX9_commonDivisor 25 = .ok (.iload 5, 2) := by decide +kernel
theorem dX9_commonDivisor_27 : decode cX9_commonDivisor 27 = .ok (.istore_n 3, 1) := by decide +kernel
theorem dX9_commonDivisor_28 : decode cX9_commonDivisor 28 = .ok (.iinc 4 1, 3) := by decide +kernel
theorem dX9_commonDivisor_31 : decode cX9_commonDivisor 31 = .ok (.goto (-24), 3) := by decide +kernel
theorem dX9_commonDivisor_34 : decode cX9_commonDivisor 34 = .ok (.iload_n 2, 1) := by decide +kernel
theorem dX9_commonDivisor_35 : decode cX9_commonDivisor 35 = .ok (.ireturn, 1) := by decide +kernel
theorem dX10_init_0 : decode cX10_init 0 = .ok (.aload_n 0, 1) := by decide +kernel
theorem dX10_init_1 : decode cX10_init 1 = .ok (.invokespecial 1, 3) := by decide +kernel
theorem dX10_init_4 : decode cX10_init 4 = .ok (.aload_n 0, 1) := by decide +kernel
theorem dX10_init_5 : decode cX10_init 5 = .ok (.sipush 384, 3) := by decide +kernel
theorem dX10_init_8 : decode cX10_init 8 = .ok (.newarray .int, 2) := by decide +kernel
theorem dX10_init_10 : decode cX10_init 10 = .ok (.putfield 7, 3) := by decide +kernel
theorem dX10_init_13 : decode cX10_init 13 = .ok (.aload_n 0, 1) := by decide +kernel
theorem dX10_init_14 : decode cX10_init 14 = .ok (.sipush 384, 3) := by decide +kernel
theorem dX10_init_17 : decode cX10_init 17 = .ok (.newarray .int, 2) := by decide +kernel
theorem dX10_init_19 : decode cX10_init 19 = .ok (.putfield 13, 3) := by decide +kernel
theorem dX10_init_22 : decode cX10_init 22 = .ok (.aload_n 0, 1) := by decide +kernel
theorem dX10_init_23 : decode cX10_init 23 = .ok (.bipush 50, 2) := by decide +kernel
theorem dX10_init_25 : decode cX10_init 25 = .ok (.newarray .int, 2) := by decide +kernel
theorem dX10_init_27 : decode cX10_init 27 = .ok (.putfield 16, 3) := by decide +kernel
theorem dX10_init_30 : decode cX10_init 30 = .ok (.aload_n 0, 1) := by decide +kernel
theorem dX10_init_31 : decode cX10_init 31 = .ok (.bipush 7, 2) := by decide +kernel
theorem dX10_init_33 : decode cX10_init 33 = .ok (.newarray .int, 2) := by decide +kernel
theorem dX10_init_35 : decode cX10_init 35 = .ok (.putfield 19, 3) := by decide +kernel
theorem dX10_init_38 : decode cX10_init 38 = .ok (.aload_n 0, 1) := by decide +kernel
theorem dX10_init_39 : decode cX10_init 39 = .ok (.bipush 124, 2) := by decide +kernel
theorem dX10_init_41 : decode cX10_init 41 = .ok (.newarray .int, 2) := by decide +kernel
theorem dX10_init_43 : decode cX10_init 43 = .ok (.putfield 22, 3) := by decide +kernel
theorem dX10_init_46 : decode cX10_init 46 = .ok (.aload_n 0, 1) := by decide +kernel
theorem dX10_init_47 : decode cX10_init 47 = .ok (.sipush 128, 3) := by decide +kernel
theorem dX10_init_50 : decode cX10_init 50 = .ok (.newarray .int, 2) := by decide +kernel
theorem dX10_init_52 : decode cX10_init 52 = .ok (.putfield 25, 3) := by decide +kernel
theorem dX10_init_55 : decode cX10_init 55 = .ok (.aload_n 0, 1) := by decide +kernel
theorem dX10_init_56 : decode cX10_init 56 = .ok (.bipush 64, 2) := by decide +kernel
theorem dX10_init_58 : decode cX10_init 58 = .ok (.newarray .int, 2) := by decide +kernel
theorem dX10_init_60 : decode cX10_init 60 = .ok (.putfield 28, 3) := by decide +kernel
theorem dX10_init_63 : decode cX10_init 63 = .ok (.aload_n 0, 1) := by decide +kernel
theorem dX10_init_64 : decode cX10_init 64 = .ok (.bipush 30, 2) := by decide +kernel
theorem dX10_init_66 : decode cX10_init 66 = .ok (.newarray .int, 2) := by decide +kernel
theorem dX10_init_68 : decode cX10_init 68 = .ok (.putfield 31, 3) := by decide +kernel
theorem dX10_init_71 : decode cX10_init 71 = .ok (.aload_n 0, 1) := by decide +kernel
theorem dX10_init_72 : decode cX10_init 72 = .ok (.iconst 4, 1) := by decide +kernel
theorem dX10_init_73 : decode cX10_init 73 = .ok (.newarray .int, 2) := by decide +kernel
theorem dX10_init_75 : decode cX10_init 75 = .ok (.putfield 34, 3) := by decide +kernel
theorem dX10_init_78 : decode cX10_init 78 = .ok (.aload_n 0, 1) := by decide +kernel
theorem dX10_init_79 : decode cX10_init 79 = .ok (.iconst 4, 1) := by decide +kernel
theorem dX10_init_80 : decode cX10_init 80 = .ok (.newarray .int, 2) := by decide +kernel
theorem dX10_init_82 : decode cX10_init 82 = .ok (.putfield 37, 3) := by decide +kernel
theorem dX10_init_85 : decode cX10_init 85 = .ok (.aload_n 0, 1) := by decide +kernel
theorem dX10_init_86 : decode cX10_init 86 = .ok (.bipush 96, 2) := by decide +kernel
theorem dX10_init_88 : decode cX10_init 88 = .ok (.newarray .int, 2) := by decide +kernel
theorem dX10_init_90 : decode cX10_init 90 = .ok (.putfield 40, 3) := by decide +kernel
theorem dX10_init_93 : decode cX10_init 93 = .ok (.aload_n 0, 1) := by decide +kernel
theorem dX10_init_94 : decode cX10_init 94 = .ok (.bipush 24, 2) := by decide +kernel
theorem dX10_init_96 : decode cX10_init 96 = .ok (.newarray .int, 2) := by decide +kernel
theorem dX10_init_98 : decode cX10_init 98 = .ok (.putfield 43, 3) := by decide +kernel
theorem dX10_init_101 : decode cX10_init 101 = .ok (.aload_n 0, 1) := by decide +kernel
theorem dX10_init_102 : decode cX10_init 102 = .ok (.getfield 7, 3) := by decide +kernel
theorem dX10_init_105 : decode cX10_init 105 = .ok (.iconst 1, 1) := by decide +kernel
theorem dX10_init_106 : decode cX10_init 106 = .ok (.iconst 1, 1) := by decide +kernel
theorem dX10_init_107 : decode cX10_init 107 = .ok (.iastore, 1) := by decide +kernel
theorem dX10_init_108 : decode cX10_init 108 = .ok (.return_, 1) := by decide +kernel
theorem dX10_error_0 : decode cX10_error 0 = .ok (.aload_n 0, 1) := by decide +kernel
theorem dX10_error_1 : decode cX10_error 1 = .ok (.getfield 19, 3) := by decide +kernel
theorem dX10_error_4 : decode cX10_error 4 = .ok (.iload_n 1, 1) := by decide +kernel
theorem dX10_error_5 : decode cX10_error 5 = .ok (.dup2, 1) := by decide +kernel
theorem dX10_error_6 : decode cX10_error 6 = .ok (.iaload, 1) := by decide +kernel
theorem dX10_error_7 : decode cX10_error 7 = .ok (.iconst 1, 1) := by decide +kernel
theorem dX10_error_8 : decode cX10_error 8 = .ok (.iadd, 1) := by decide +kernel
theorem dX10_error_9 : decode cX10_error 9 = .ok (.iastore, 1) := by decide +kernel
theorem dX10_error_10 : decode cX10_error 10 = .ok (.ldc 46, 2) := by decide +kernel
theorem dX10_error_12 : decode cX10_error 12 = .ok (.iload_n 1, 1) := by decide +kernel
theorem dX10_error_13 : decode cX10_error 13 = .ok (.isub, 1) := by decide +kernel
theorem dX10_error_14 : decode cX10_error 14 = .ok (.ireturn, 1) := by decide +kernel
theorem dX10_in_0 : decode cX10_in 0 = .ok (.iload_n 0, 1) := by decide +kernel
theorem dX10_in_1 : decode cX10_in 1 = .ok (.iload_n 1, 1) := by decide +kernel
theorem dX10_in_2 : decode cX10_in 2 = .ok (.if_icmp .lt 12, 3) := by decide +kernel
theorem dX10_in_5 : decode cX10_in 5 = .ok (.iload_n 0, 1) := by decide +kernel
theorem dX10_in_6 : decode cX10_in 6 = .ok (.iload_n 2, 1) := by decide +kernel
theorem dX10_in_7 : decode cX10_in 7 = .ok (.if_icmp .gt 7, 3) := by decide +kernel
theorem dX10_in_10 : decode cX10_in 10 = .ok (.iconst 1, 1) := by decide +kernel
theorem dX10_in_11 : decode cX10_in 11 = .ok (.goto 4, 3) := by decide +kernel
theorem dX10_in_14 : decode cX10_in 14 = .ok (.iconst 0, 1) := by decide +kernel
theorem dX10_in_15 : decode cX10_in 15 = .ok (.ireturn, 1) := by decide +kernel
theorem dX10_held_0 : decode cX10_held 0 = .ok (.iload_n 0, 1) := by decide +kernel
theorem dX10_held_1 : decode cX10_held 1 = .ok (.iload_n 1, 1) := by decide +kernel
theorem dX10_held_2 : decode cX10_held 2 = .ok (.if_icmp .ge 7, 3) := by decide +kernel
theorem dX10_held_5 : decode cX10_held 5 = .ok (.iload_n 1, 1) := by decide +kernel
theorem dX10_held_6 : decode cX10_held 6 = .ok (.goto 13, 3) := by decide +kernel
theorem dX10_held_9 : decode cX10_held 9 = .ok (.iload_n 0, 1) := by decide +kernel
theorem dX10_held_10 : decode cX10_held 10 = .ok (.iload_n 2, 1) := by decide +kernel
theorem dX10_held_11 : decode cX10_held 11 = .ok (.if_icmp .le 7, 3) := by decide +kernel
theorem dX10_held_14 : decode cX10_held 14 = .ok (.iload_n 2, 1) := by decide +kernel
theorem dX10_held_15 : decode cX10_held 15 = .ok (.goto 4, 3) := by decide +kernel
theorem dX10_held_18 : decode cX10_held 18 = .ok (.iload_n 0, 1) := by decide +kernel
theorem dX10_held_19 : decode cX10_held 19 = .ok (.ireturn, 1) := by decide +kernel
theorem dX10_copyAll_0 : decode cX10_copyAll 0 = .ok (.iconst 0, 1) := by decide +kernel
theorem dX10_copyAll_1 : decode cX10_copyAll 1 = .ok (.istore_n 2, 1) := by decide +kernel
theorem dX10_copyAll_2 : decode cX10_copyAll 2 = .ok (.iload_n 2, 1) := by decide +kernel
theorem dX10_copyAll_3 : decode cX10_copyAll 3 = .ok (.sipush 384, 3) := by decide +kernel
theorem dX10_copyAll_6 : decode cX10_copyAll 6 = .ok (.if_icmp .ge 15, 3) := by decide +kernel
theorem dX10_copyAll_9 : decode cX10_copyAll 9 = .ok (.aload_n 1, 1) := by decide +kernel
theorem dX10_copyAll_10 : decode cX10_copyAll 10 = .ok (.iload_n 2, 1) := by decide +kernel
theorem dX10_copyAll_11 : decode cX10_copyAll 11 = .ok (.aload_n 0, 1) := by decide +kernel
theorem dX10_copyAll_12 : decode cX10_copyAll 12 = .ok (.iload_n 2, 1) := by decide +kernel
theorem dX10_copyAll_13 : decode cX10_copyAll 13 = .ok (.iaload, 1) := by decide +kernel
theorem dX10_copyAll_14 : decode cX10_copyAll 14 = .ok (.iastore, 1) := by decide +kernel
theorem dX10_copyAll_15 : decode cX10_copyAll 15 = .ok (.iinc 2 1, 3) := by decide +kernel
theorem dX10_copyAll_18 : decode cX10_copyAll 18 = .ok (.goto (-16), 3) := by decide +kernel
theorem dX10_copyAll_21 : decode cX10_copyAll 21 = .ok (.return_, 1) := by decide +kernel
theorem dX10_layDown_0 : decode cX10_layDown 0 = .ok (.iconst 0, 1) := by decide +kernel
theorem dX10_layDown_1 : decode cX10_layDown 1 = .ok (.istore_n 1, 1) := by decide +kernel
theorem dX10_layDown_2 : decode cX10_layDown 2 = .ok (.iload_n 1, 1) := by decide +kernel
theorem dX10_layDown_3 : decode cX10_layDown 3 = .ok (.bipush 50, 2) := by decide +kernel
theorem dX10_layDown_5 : decode cX10_layDown 5 = .ok (.if_icmp .ge 21, 3) := by decide +kernel
theorem dX10_layDown_8 : decode cX10_layDown 8 = .ok (.aload_n 0, 1) := by decide +kernel
theorem dX10_layDown_9 : decode cX10_layDown 9 = .ok (.getfield 16, 3) := by decide +kernel
theorem dX10_layDown_12 : decode cX10_layDown 12 = .ok (.iload_n 1, 1) := by decide +kernel
theorem dX10_layDown_13 : decode cX10_layDown 13 = .ok (.aload_n 0, 1) := by decide +kernel
theorem dX10_layDown_14 : decode cX10_layDown 14 = .ok (.getfield 7, 3) := by decide +kernel
theorem dX10_layDown_17 : decode cX10_layDown 17 = .ok (.iload_n 1, 1) := by decide +kernel
theorem dX10_layDown_18 : decode cX10_layDown 18 = .ok (.iaload, 1) := by decide +kernel
theorem dX10_layDown_19 : decode cX10_layDown 19 = .ok (.iastore, 1) := by decide +kernel
theorem dX10_layDown_20 : decode cX10_layDown 20 = .ok (.iinc 1 1, 3) := by decide +kernel
theorem dX10_layDown_23 : decode cX10_layDown 23 = .ok (.goto (-21), 3) := by decide +kernel
theorem dX10_layDown_26 : decode cX10_layDown 26 = .ok (.return_, 1) := by decide +kernel
theorem dX10_layBack_0 : decode cX10_layBack 0 = .ok (.iconst 0, 1) := by decide +kernel
theorem dX10_layBack_1 : decode cX10_layBack 1 = .ok (.istore_n 1, 1) := by decide +kernel
theorem dX10_layBack_2 : decode cX10_layBack 2 = .ok (.iload_n 1, 1) := by decide +kernel
theorem dX10_layBack_3 : decode cX10_layBack 3 = .ok (.bipush 50, 2) := by decide +kernel
theorem dX10_layBack_5 : decode cX10_layBack 5 = .ok (.if_icmp .ge 21, 3) := by decide +kernel
theorem dX10_layBack_8 : decode cX10_layBack 8 = .ok (.aload_n 0, 1) := by decide +kernel
theorem dX10_layBack_9 : decode cX10_layBack 9 = .ok (.getfield 7, 3) := by decide +kernel
theorem dX10_layBack_12 : decode cX10_layBack 12 = .ok (.iload_n 1, 1) := by decide +kernel
theorem dX10_layBack_13 : decode cX10_layBack 13 = .ok (.aload_n 0, 1) := by decide +kernel
theorem dX10_layBack_14 : decode cX10_layBack 14 = .ok (.getfield 16, 3) := by decide +kernel
theorem dX10_layBack_17 : decode cX10_layBack 17 = .ok (.iload_n 1, 1) := by decide +kernel
theorem dX10_layBack_18 : decode cX10_layBack 18 = .ok (.iaload, 1) := by decide +kernel
theorem dX10_layBack_19 : decode cX10_layBack 19 = .ok (.iastore, 1) := by decide +kernel
theorem dX10_layBack_20 : decode cX10_layBack 20 = .ok (.iinc 1 1, 3) := by decide +kernel
theorem dX10_layBack_23 : decode cX10_layBack 23 = .ok (.goto (-21), 3) := by decide +kernel
theorem dX10_layBack_26 : decode cX10_layBack 26 = .ok (.return_, 1) := by decide +kernel
theorem dX10_isPerson_0 : decode cX10_isPerson 0 = .ok (.iload_n 1, 1) := by decide +kernel
theorem dX10_isPerson_1 : decode cX10_isPerson 1 = .ok (.iconst 0, 1) := by decide +kernel
theorem dX10_isPerson_2 : decode cX10_isPerson 2 = .ok (.aload_n 0, 1) := by decide +kernel
theorem dX10_isPerson_3 : decode cX10_isPerson 3 = .ok (.getfield 7, 3) := by decide +kernel
theorem dX10_isPerson_6 : decode cX10_isPerson 6 = .ok (.iconst 4, 1) := by decide +kernel
theorem dX10_isPerson_7 : decode cX10_isPerson 7 = .ok (.iaload, 1) := by decide +kernel
theorem dX10_isPerson_8 : decode cX10_isPerson 8 = .ok (.iconst 1, 1) := by decide +kernel
theorem dX10_isPerson_9 : decode cX10_isPerson 9 = .ok (.isub, 1) := by decide +kernel
theorem dX10_isPerson_10 : decode cX10_isPerson 10 = .ok (.invokestatic 47, 3) := by decide +kernel
theorem dX10_isPerson_13 : decode cX10_isPerson 13 = .ok (.ireturn, 1) := by decide +kernel
theorem dX10_isDoing_0 : decode cX10_isDoing 0 = .ok (.iload_n 1, 1) := by decide +kernel
theorem dX10_isDoing_1 : decode cX10_isDoing 1 = .ok (.iconst 0, 1) := by decide +kernel
theorem dX10_isDoing_2 : decode cX10_isDoing 2 = .ok (.aload_n 0, 1) := by decide +kernel
theorem dX10_isDoing_3 : decode cX10_isDoing 3 = .ok (.getfield 7, 3) := by decide +kernel
theorem dX10_isDoing_6 : decode cX10_isDoing 6 = .ok (.iconst 5, 1) := by decide +kernel
theorem dX10_isDoing_7 : decode cX10_isDoing 7 = .ok (.iaload, 1) := by decide +kernel
theorem dX10_isDoing_8 : decode cX10_isDoing 8 = .ok (.iconst 1, 1) := by decide +kernel
theorem dX10_isDoing_9 : decode cX10_isDoing 9 = .ok (.isub, 1) := by decide +kernel
theorem dX10_isDoing_10 : decode cX10_isDoing 10 = .ok (.invokestatic 47, 3) := by decide +kernel
theorem dX10_isDoing_13 : decode cX10_isDoing 13 = .ok (.ireturn, 1) := by decide +kernel
theorem dX10_isSet_0 : decode cX10_isSet 0 = .ok (.iload_n 1, 1) := by decide +kernel
theorem dX10_isSet_1 : decode cX10_isSet 1 = .ok (.iconst 0, 1) := by decide +kernel
theorem dX10_isSet_2 : decode cX10_isSet 2 = .ok (.iconst 1, 1) := by decide +kernel
theorem dX10_isSet_3 : decode cX10_isSet 3 = .ok (.aload_n 0, 1) := by decide +kernel
theorem dX10_isSet_4 : decode cX10_isSet 4 = .ok (.getfield 7, 3) := by decide +kernel
theorem dX10_isSet_7 : decode cX10_isSet 7 = .ok (.iconst 4, 1) := by decide +kernel
theorem dX10_isSet_8 : decode cX10_isSet 8 = .ok (.iaload, 1) := by decide +kernel
theorem dX10_isSet_9 : decode cX10_isSet 9 = .ok (.ishl, 1) := by decide +kernel
theorem dX10_isSet_10 : decode cX10_isSet 10 = .ok (.iconst 1, 1) := by decide +kernel
theorem dX10_isSet_11 : decode cX10_isSet 11 = .ok (.isub, 1) := by decide +kernel
theorem dX10_isSet_12 : decode cX10_isSet 12 = .ok (.invokestatic 47, 3) := by decide +kernel
theorem dX10_isSet_15 : decode cX10_isSet 15 = .ok (.ireturn, 1) := by decide +kernel
theorem dX10_its_0 : decode cX10_its 0 = .ok (.aload_n 0, 1) := by decide +kernel
theorem dX10_its_1 : decode cX10_its 1 = .ok (.getfield 7, 3) := by decide +kernel
theorem dX10_its_4 : decode cX10_its 4 = .ok (.bipush 8, 2) := by decide +kernel
theorem dX10_its_6 : decode cX10_its 6 = .ok (.iconst 4, 1) := by decide +kernel
theorem dX10_its_7 : decode cX10_its 7 = .ok (.iload_n 1, 1) := by decide +kernel
theorem dX10_its_8 : decode cX10_its 8 = .ok (.imul, 1) := by decide +kernel
theorem dX10_its_9 : decode cX10_its 9 = .ok (.iadd, 1) := by decide +kernel
theorem dX10_its_10 : decode cX10_its 10 = .ok (.iload_n 2, 1) := by decide +kernel
theorem dX10_its_11 : decode cX10_its 11 = .ok (.iadd, 1) := by decide +kernel
theorem dX10_its_12 : decode cX10_its 12 = .ok (.iaload, 1) := by decide +kernel
theorem dX10_its_13 : decode cX10_its 13 = .ok (.ireturn, 1) := by decide +kernel
theorem dX10_lays1_0 : decode cX10_lays1 0 = .ok (.aload_n 0, 1) := by decide +kernel
theorem dX10_lays1_1 : decode cX10_lays1 1 = .ok (.getfield 7, 3) := by decide +kernel
theorem dX10_lays1_4 : decode cX10_lays1 4 = .ok (.bipush 8, 2) := by decide +kernel
theorem dX10_lays1_6 : decode cX10_lays1 6 = .ok (.iconst 4, 1) := by decide +kernel
theorem dX10_lays1_7 : decode cX10_lays1 7 = .ok (.iload_n 1, 1) := by decide +kernel
theorem dX10_lays1_8 : decode cX10_lays1 8 = .ok (.imul, 1) := by decide +kernel
theorem dX10_lays1_9 : decode cX10_lays1 9 = .ok (.iadd, 1) := by decide +kernel
theorem dX10_lays1_10 : decode cX10_lays1 10 = .ok (.iload_n 2, 1) := by decide +kernel
theorem dX10_lays1_11 : decode cX10_lays1 11 = .ok (.iadd, 1) := by decide +kernel
theorem dX10_lays1_12 : decode cX10_lays1 12 = .ok (.iload_n 3, 1) := by decide +kernel
theorem dX10_lays1_13 : decode cX10_lays1 13 = .ok (.iastore, 1) := by decide +kernel
theorem dX10_lays1_14 : decode cX10_lays1 14 = .ok (.return_, 1) := by decide +kernel
theorem dX10_ofDoing_0 : decode cX10_ofDoing 0 = .ok (.aload_n 0, 1) := by decide +kernel
theorem dX10_ofDoing_1 : decode cX10_ofDoing 1 = .ok (.getfield 7, 3) := by decide +kernel
theorem dX10_ofDoing_4 : decode cX10_ofDoing 4 = .ok (.bipush 32, 2) := by decide +kernel
theorem dX10_ofDoing_6 : decode cX10_ofDoing 6 = .ok (.iconst 3, 1) := by decide +kernel
theorem dX10_ofDoing_7 : decode cX10_ofDoing 7 = .ok (.iload_n 1, 1) := by decide +kernel
theorem dX10_ofDoing_8 : decode cX10_ofDoing 8 = .ok (.imul, 1) := by decide +kernel
theorem dX10_ofDoing_9 : decode cX10_ofDoing 9 = .ok (.iadd, 1) := by decide +kernel
theorem dX10_ofDoing_10 : decode cX10_ofDoing 10 = .ok (.iload_n 2, 1) := by decide +kernel
theorem dX10_ofDoing_11 : decode cX10_ofDoing 11 = .ok (.iadd, 1) := by decide +kernel
theorem dX10_ofDoing_12 : decode cX10_ofDoing 12 = .ok (.iaload, 1) := by decide +kernel
theorem dX10_ofDoing_13 : decode cX10_ofDoing 13 = .ok (.ireturn, 1) := by decide +kernel
theorem dX10_laysDoing_0 : decode cX10_laysDoing 0 = .ok (.aload_n 0, 1) := by decide +kernel
theorem dX10_laysDoing_1 : decode cX10_laysDoing 1 = .ok (.getfield 7, 3) := by decide +kernel
theorem dX10_laysDoing_4 : decode cX10_laysDoing 4 = .ok (.bipush 32, 2) := by decide +kernel
theorem dX10_laysDoing_6 : decode cX10_laysDoing 6 = .ok (.iconst 3, 1) := by decide +kernel
theorem dX10_laysDoing_7 : decode cX10_laysDoing 7 = .ok (.iload_n 1, 1) := by decide +kernel
theorem dX10_laysDoing_8 : decode cX10_laysDoing 8 = .ok (.imul, 1) := by decide +kernel
theorem dX10_laysDoing_9 : decode cX10_laysDoing 9 = .ok (.iadd, 1) := by decide +kernel
theorem dX10_laysDoing_10 : decode cX10_laysDoing 10 = .ok (.iload_n 2, 1) := by decide +kernel
theorem dX10_laysDoing_11 : decode cX10_laysDoing 11 = .ok (.iadd, 1) := by decide +kernel
theorem dX10_laysDoing_12 : decode cX10_laysDoing 12 = .ok (.iload_n 3, 1) := by decide +kernel
theorem dX10_laysDoing_13 : decode cX10_laysDoing 13 = .ok (.iastore, 1) := by decide +kernel
theorem dX10_laysDoing_14 : decode cX10_laysDoing 14 = .ok (.return_, 1) := by decide +kernel
theorem dX10_change1_0 : decode cX10_change1 0 = .ok (.aload_n 0, 1) := by decide +kernel
theorem dX10_change1_1 : decode cX10_change1 1 = .ok (.getfield 7, 3) := by decide +kernel
theorem dX10_change1_4 : decode cX10_change1 4 = .ok (.iload_n 1, 1) := by decide +kernel
theorem dX10_change1_5 : decode cX10_change1 5 = .ok (.iaload, 1) := by decide +kernel
theorem dX10_change1_6 : decode cX10_change1 6 = .ok (.istore_n 3, 1) := by decide +kernel
theorem dX10_change1_7 : decode cX10_change1 7 = .ok (.aload_n 0, 1) := by decide +kernel
theorem dX10_change1_8 : decode cX10_change1 8 = .ok (.getfield 7, 3) := by decide +kernel
theorem dX10_change1_11 : decode cX10_change1 11 = .ok (.iload_n 1, 1) := by decide +kernel
theorem dX10_change1_12 : decode cX10_change1 12 = .ok (.iload_n 2, 1) := by decide +kernel
theorem dX10_change1_13 : decode cX10_change1 13 = .ok (.iastore, 1) := by decide +kernel
theorem dX10_change1_14 : decode cX10_change1 14 = .ok (.iload_n 3, 1) := by decide +kernel
theorem dX10_change1_15 : decode cX10_change1 15 = .ok (.ireturn, 1) := by decide +kernel
theorem dX10_manyIn_0 : decode cX10_manyIn 0 = .ok (.iconst 0, 1) := by decide +kernel
theorem dX10_manyIn_1 : decode cX10_manyIn 1 = .ok (.istore_n 1, 1) := by decide +kernel
theorem dX10_manyIn_2 : decode cX10_manyIn 2 = .ok (.iconst 0, 1) := by decide +kernel
theorem dX10_manyIn_3 : decode cX10_manyIn 3 = .ok (.istore_n 2, 1) := by decide +kernel
theorem dX10_manyIn_4 : decode cX10_manyIn 4 = .ok (.iload_n 2, 1) := by decide +kernel
theorem dX10_manyIn_5 : decode cX10_manyIn 5 = .ok (.bipush 6, 2) := by decide +kernel
theorem dX10_manyIn_7 : decode cX10_manyIn 7 = .ok (.if_icmp .ge 17, 3) := by decide +kernel
theorem dX10_manyIn_10 : decode cX10_manyIn 10 = .ok (.iload_n 1, 1) := by decide +kernel
theorem dX10_manyIn_11 : decode cX10_manyIn 11 = .ok (.iload_n 0, 1) := by decide +kernel
theorem dX10_manyIn_12 : decode cX10_manyIn 12 = .ok (.iload_n 2, 1) := by decide +kernel
theorem dX10_manyIn_13 : decode cX10_manyIn 13 = .ok (.ishr, 1) := by decide +kernel
theorem dX10_manyIn_14 : decode cX10_manyIn 14 = .ok (.iconst 1, 1) := by decide +kernel
theorem dX10_manyIn_15 : decode cX10_manyIn 15 = .ok (.iand, 1) := by decide +kernel
theorem dX10_manyIn_16 : decode cX10_manyIn 16 = .ok (.iadd, 1) := by decide +kernel
theorem dX10_manyIn_17 : decode cX10_manyIn 17 = .ok (.istore_n 1, 1) := by decide +kernel
theorem dX10_manyIn_18 : decode cX10_manyIn 18 = .ok (.iinc 2 1, 3) := by decide +kernel
theorem dX10_manyIn_21 : decode cX10_manyIn 21 = .ok (.goto (-17), 3) := by decide +kernel
theorem dX10_manyIn_24 : decode cX10_manyIn 24 = .ok (.iload_n 1, 1) := by decide +kernel
theorem dX10_manyIn_25 : decode cX10_manyIn 25 = .ok (.ireturn, 1) := by decide +kernel
theorem dX10_feed_0 : decode cX10_feed 0 = .ok (.iload_n 3, 1) := by decide +kernel
theorem dX10_feed_1 : decode cX10_feed 1 = .ok (.iconst 1, 1) := by decide +kernel
theorem dX10_feed_2 : decode cX10_feed 2 = .ok (.bipush 8, 2) := by decide +kernel
theorem dX10_feed_4 : decode cX10_feed 4 = .ok (.invokestatic 47, 3) := by decide +kernel
theorem dX10_feed_7 : decode cX10_feed 7 = .ok (.ifCond .ne 9, 3) := by decide +kernel
theorem dX10_feed_10 : decode cX10_feed 10 = .ok (.aload_n 0, 1) := by decide +kernel
theorem dX10_feed_11 : decode cX10_feed 11 = .ok (.iconst 1, 1) := by decide +kernel
theorem dX10_feed_12 : decode cX10_feed 12 = .ok (.invokevirtual 51, 3) := by decide +kernel
theorem dX10_feed_15 : decode cX10_feed 15 = .ok (.ireturn, 1) := by decide +kernel
theorem dX10_feed_16 : decode cX10_feed 16 = .ok (.aload_n 0, 1) := by decide +kernel
theorem dX10_feed_17 : decode cX10_feed 17 = .ok (.getfield 7, 3) := by decide +kernel
theorem dX10_feed_20 : decode cX10_feed 20 = .ok (.iconst 2, 1) := by decide +kernel
theorem dX10_feed_21 : decode cX10_feed 21 = .ok (.iaload, 1) := by decide +kernel
theorem dX10_feed_22 : decode cX10_feed 22 = .ok (.iload_n 3, 1) := by decide +kernel
theorem dX10_feed_23 : decode cX10_feed 23 = .ok (.iadd, 1) := by decide +kernel
theorem dX10_feed_24 : decode cX10_feed 24 = .ok (.bipush 60, 2) := by decide +kernel
theorem dX10_feed_26 : decode cX10_feed 26 = .ok (.if_icmp .le 9, 3) := by decide +kernel
theorem dX10_feed_29 : decode cX10_feed 29 = .ok (.aload_n 0, 1) := by decide +kernel
theorem dX10_feed_30 : decode cX10_feed 30 = .ok (.iconst 4, 1) := by decide +kernel
theorem dX10_feed_31 : decode cX10_feed 31 = .ok (.invokevirtual 51, 3) := by decide +kernel
theorem dX10_feed_34 : decode cX10_feed 34 = .ok (.ireturn, 1) := by decide +kernel
theorem dX10_feed_35 : decode cX10_feed 35 = .ok (.iconst 0, 1) := by decide +kernel
theorem dX10_feed_36 : decode cX10_feed 36 = .ok (.istore 4, 2) := by decide +kernel
theorem dX10_feed_38 : decode cX10_feed 38 = .ok (.iload 4, 2) := by decide +kernel
theorem dX10_feed_40 : decode cX10_feed 40 = .ok (.iload_n 3, 1) := by decide +kernel
theorem dX10_feed_41 : decode cX10_feed 41 = .ok (.if_icmp .ge 46, 3) := by decide +kernel
theorem dX10_feed_44 : decode cX10_feed 44 = .ok (.aload_n 0, 1) := by decide +kernel
theorem dX10_feed_45 : decode cX10_feed 45 = .ok (.getfield 7, 3) := by decide +kernel
theorem dX10_feed_48 : decode cX10_feed 48 = .ok (.sipush 300, 3) := by decide +kernel
theorem dX10_feed_51 : decode cX10_feed 51 = .ok (.aload_n 0, 1) := by decide +kernel
theorem dX10_feed_52 : decode cX10_feed 52 = .ok (.getfield 7, 3) := by decide +kernel
theorem dX10_feed_55 : decode cX10_feed 55 = .ok (.iconst 2, 1) := by decide +kernel
theorem dX10_feed_56 : decode cX10_feed 56 = .ok (.iaload, 1) := by decide +kernel
theorem dX10_feed_57 : decode cX10_feed 57 = .ok (.iadd, 1) := by decide +kernel
theorem dX10_feed_58 : decode cX10_feed 58 = .ok (.lload_n 1, 1) := by decide +kernel
theorem dX10_feed_59 : decode cX10_feed 59 = .ok (.bipush 8, 2) := by decide +kernel
theorem dX10_feed_61 : decode cX10_feed 61 = .ok (.iload 4, 2) := by decide +kernel
theorem dX10_feed_63 : decode cX10_feed 63 = .ok (.imul, 1) := by decide +kernel
theorem dX10_feed_64 : decode cX10_feed 64 = .ok (.lshr, 1) := by decide +kernel
theorem dX10_feed_65 : decode cX10_feed 65 = .ok (.ldc2_w 55, 3) := by decide +kernel
theorem dX10_feed_68 : decode cX10_feed 68 = .ok (.land, 1) := by decide +kernel
theorem dX10_feed_69 : decode cX10_feed 69 = .ok (.l2i, 1) := by decide +kernel
theorem dX10_feed_70 : decode cX10_feed 70 = .ok (.iastore, 1) := by decide +kernel
theorem dX10_feed_71 : decode cX10_feed 71 = .ok (.aload_n 0, 1) := by decide +kernel
theorem dX10_feed_72 : decode cX10_feed 72 = .ok (.getfield 7, 3) := by decide +kernel
theorem dX10_feed_75 : decode cX10_feed 75 = .ok (.iconst 2, 1) := by decide +kernel
theorem dX10_feed_76 : decode cX10_feed 76 = .ok (.dup2, 1) := by decide +kernel
theorem dX10_feed_77 : decode cX10_feed 77 = .ok (.iaload, 1) := by decide +kernel
theorem dX10_feed_78 : decode cX10_feed 78 = .ok (.iconst 1, 1) := by decide +kernel
theorem dX10_feed_79 : decode cX10_feed 79 = .ok (.iadd, 1) := by decide +kernel
theorem dX10_feed_80 : decode cX10_feed 80 = .ok (.iastore, 1) := by decide +kernel
theorem dX10_feed_81 : decode cX10_feed 81 = .ok (.iinc 4 1, 3) := by decide +kernel
theorem dX10_feed_84 : decode cX10_feed 84 = .ok (.goto (-46), 3) := by decide +kernel
theorem dX10_feed_87 : decode cX10_feed 87 = .ok (.aload_n 0, 1) := by decide +kernel
theorem dX10_feed_88 : decode cX10_feed 88 = .ok (.getfield 7, 3) := by decide +kernel
theorem dX10_feed_91 : decode cX10_feed 91 = .ok (.iconst 2, 1) := by decide +kernel
theorem dX10_feed_92 : decode cX10_feed 92 = .ok (.iaload, 1) := by decide +kernel
theorem dX10_feed_93 : decode cX10_feed 93 = .ok (.ireturn, 1) := by decide +kernel
theorem dX10_look_0 : decode cX10_look 0 = .ok (.aload_n 0, 1) := by decide +kernel
theorem dX10_look_1 : decode cX10_look 1 = .ok (.getfield 57, 3) := by decide +kernel
theorem dX10_look_4 : decode cX10_look 4 = .ok (.aload_n 0, 1) := by decide +kernel
theorem dX10_look_5 : decode cX10_look 5 = .ok (.getfield 7, 3) := by decide +kernel
theorem dX10_look_8 : decode cX10_look 8 = .ok (.iconst 2, 1) := by decide +kernel
theorem dX10_look_9 : decode cX10_look 9 = .ok (.iaload, 1) := by decide +kernel
theorem dX10_look_10 : decode cX10_look 10 = .ok (.if_icmp .ge 19, 3) := by decide +kernel
theorem dX10_look_13 : decode cX10_look 13 = .ok (.aload_n 0, 1) := by decide +kernel
theorem dX10_look_14 : decode cX10_look 14 = .ok (.getfield 7, 3) := by decide +kernel
theorem dX10_look_17 : decode cX10_look 17 = .ok (.sipush 300, 3) := by decide +kernel
theorem dX10_look_20 : decode cX10_look 20 = .ok (.aload_n 0, 1) := by decide +kernel
theorem dX10_look_21 : decode cX10_look 21 = .ok (.getfield 57, 3) := by decide +kernel
theorem dX10_look_24 : decode cX10_look 24 = .ok (.iadd, 1) := by decide +kernel
theorem dX10_look_25 : decode cX10_look 25 = .ok (.iaload, 1) := by decide +kernel
theorem dX10_look_26 : decode cX10_look 26 = .ok (.goto 4, 3) := by decide +kernel
theorem dX10_look_29 : decode cX10_look 29 = .ok (.iconst (-1), 1) := by decide +kernel
theorem dX10_look_30 : decode cX10_look 30 = .ok (.ireturn, 1) := by decide +kernel
theorem dX10_isName_0 : decode cX10_isName 0 = .ok (.iload_n 1, 1) := by decide +kernel
theorem dX10_isName_1 : decode cX10_isName 1 = .ok (.aload_n 0, 1) := by decide +kernel
theorem dX10_isName_2 : decode cX10_isName 2 = .ok (.getfield 61, 3) := by decide +kernel
theorem dX10_isName_5 : decode cX10_isName 5 = .ok (.ifCond .ne 8, 3) := by decide +kernel
theorem dX10_isName_8 : decode cX10_isName 8 = .ok (.bipush 114, 2) := by decide +kernel
theorem dX10_isName_10 : decode cX10_isName 10 = .ok (.goto 5, 3) := by decide +kernel
theorem dX10_isName_13 : decode cX10_isName 13 = .ok (.bipush 112, 2) := by decide +kernel
theorem dX10_isName_15 : decode cX10_isName 15 = .ok (.if_icmp .ne 5, 3) := by decide +kernel
theorem dX10_isName_18 : decode cX10_isName 18 = .ok (.iconst 1, 1) := by decide +kernel
theorem dX10_isName_19 : decode cX10_isName 19 = .ok (.ireturn, 1) := by decide +kernel
theorem dX10_isName_20 : decode cX10_isName 20 = .ok (.aload_n 0, 1) := by decide +kernel
theorem dX10_isName_21 : decode cX10_isName 21 = .ok (.getfield 61, 3) := by decide +kernel
theorem dX10_isName_24 : decode cX10_isName 24 = .ok (.ifCond .ne 23, 3) := by decide +kernel
theorem dX10_isName_27 : decode cX10_isName 27 = .ok (.iload_n 1, 1) := by decide +kernel
theorem dX10_isName_28 : decode cX10_isName 28 = .ok (.bipush 115, 2) := by decide +kernel
theorem dX10_isName_30 : decode cX10_isName 30 = .ok (.if_icmp .eq 9, 3) := by decide +kernel
theorem dX10_isName_33 : decode cX10_isName 33 = .ok (.iload_n 1, 1) := by decide +kernel
theorem dX10_isName_34 : decode cX10_isName 34 = .ok (.bipush 116, 2) := by decide +kernel
theorem dX10_isName_36 : decode cX10_isName 36 = .ok (.if_icmp .ne 7, 3) := by decide +kernel
theorem dX10_isName_39 : decode cX10_isName 39 = .ok (.iconst 1, 1) := by decide +kernel
theorem dX10_isName_40 : decode cX10_isName 40 = .ok (.goto 24, 3) := by decide +kernel
theorem dX10_isName_43 : decode cX10_isName 43 = .ok (.iconst 0, 1) := by decide +kernel
theorem dX10_isName_44 : decode cX10_isName 44 = .ok (.goto 20, 3) := by decide +kernel
theorem dX10_isName_47 : decode cX10_isName 47 = .ok (.iload_n 1, 1) := by decide +kernel
theorem dX10_isName_48 : decode cX10_isName 48 = .ok (.bipush 111, 2) := by decide +kernel
theorem dX10_isName_50 : decode cX10_isName 50 = .ok (.if_icmp .eq 9, 3) := by decide +kernel
theorem dX10_isName_53 : decode cX10_isName 53 = .ok (.iload_n 1, 1) := by decide +kernel
theorem dX10_isName_54 : decode cX10_isName 54 = .ok (.bipush 108, 2) := by decide +kernel
theorem dX10_isName_56 : decode cX10_isName 56 = .ok (.if_icmp .ne 7, 3) := by decide +kernel
theorem dX10_isName_59 : decode cX10_isName 59 = .ok (.iconst 1, 1) := by decide +kernel
theorem dX10_isName_60 : decode cX10_isName 60 = .ok (.goto 4, 3) := by decide +kernel
theorem dX10_isName_63 : decode cX10_isName 63 = .ok (.iconst 0, 1) := by decide +kernel
theorem dX10_isName_64 : decode cX10_isName 64 = .ok (.ireturn, 1) := by decide +kernel
theorem dX10_step1_0 : decode cX10_step1 0 = .ok (.aload_n 0, 1) := by decide +kernel
theorem dX10_step1_1 : decode cX10_step1 1 = .ok (.getfield 22, 3) := by decide +kernel
theorem dX10_step1_4 : decode cX10_step1 4 = .ok (.iconst 2, 1) := by decide +kernel
theorem dX10_step1_5 : decode cX10_step1 5 = .ok (.aload_n 0, 1) := by decide +kernel
theorem dX10_step1_6 : decode cX10_step1 6 = .ok (.getfield 64, 3) := by decide +kernel
theorem dX10_step1_9 : decode cX10_step1 9 = .ok (.imul, 1) := by decide +kernel
theorem dX10_step1_10 : decode cX10_step1 10 = .ok (.iload_n 1, 1) := by decide +kernel
theorem dX10_step1_11 : decode cX10_step1 11 = .ok (.iastore, 1) := by decide +kernel
theorem dX10_step1_12 : decode cX10_step1 12 = .ok (.aload_n 0, 1) := by decide +kernel
theorem dX10_step1_13 : decode cX10_step1 13 = .ok (.getfield 22, 3) := by decide +kernel
theorem dX10_step1_16 : decode cX10_step1 16 = .ok (.iconst 2, 1) := by decide +kernel
theorem dX10_step1_17 : decode cX10_step1 17 = .ok (.aload_n 0, 1) := by decide +kernel
theorem dX10_step1_18 : decode cX10_step1 18 = .ok (.getfield 64, 3) := by decide +kernel
theorem dX10_step1_21 : decode cX10_step1 21 = .ok (.imul, 1) := by decide +kernel
theorem dX10_step1_22 : decode cX10_step1 22 = .ok (.iconst 1, 1) := by decide +kernel
theorem dX10_step1_23 : decode cX10_step1 23 = .ok (.iadd, 1) := by decide +kernel
theorem dX10_step1_24 : decode cX10_step1 24 = .ok (.iload_n 2, 1) := by decide +kernel
theorem dX10_step1_25 : decode cX10_step1 25 = .ok (.iastore, 1) := by decide +kernel
theorem dX10_step1_26 : decode cX10_step1 26 = .ok (.aload_n 0, 1) := by decide +kernel
theorem dX10_step1_27 : decode cX10_step1 27 = .ok (.dup, 1) := by decide +kernel
theorem dX10_step1_28 : decode cX10_step1 28 = .ok (.getfield 64, 3) := by decide +kernel
theorem dX10_step1_31 : decode cX10_step1 31 = .ok (.iconst 1, 1) := by decide +kernel
theorem dX10_step1_32 : decode cX10_step1 32 = .ok (.iadd, 1) := by decide +kernel
theorem dX10_step1_33 : decode cX10_step1 33 = .ok (.putfield 64, 3) := by decide +kernel
theorem dX10_step1_36 : decode cX10_step1 36 = .ok (.return_, 1) := by decide +kernel
theorem dX10_whole_0 : decode cX10_whole 0 = .ok (.aload_n 0, 1) := by decide +kernel
theorem dX10_whole_1 : decode cX10_whole 1 = .ok (.invokevirtual 67, 3) := by decide +kernel
theorem dX10_whole_4 : decode cX10_whole 4 = .ok (.ifCond .ne 5, 3) := by decide +kernel
theorem dX10_whole_7 : decode cX10_whole 7 = .ok (.iconst 0, 1) := by decide +kernel
theorem dX10_whole_8 : decode cX10_whole 8 = .ok (.ireturn, 1) := by decide +kernel
theorem dX10_whole_9 : decode cX10_whole 9 = .ok (.aload_n 0, 1) := by decide +kernel
theorem dX10_whole_10 : decode cX10_whole 10 = .ok (.invokevirtual 71, 3) := by decide +kernel
theorem dX10_whole_13 : decode cX10_whole 13 = .ok (.bipush 124, 2) := by decide +kernel
theorem dX10_whole_15 : decode cX10_whole 15 = .ok (.if_icmp .ne 32, 3) := by decide +kernel
theorem dX10_whole_18 : decode cX10_whole 18 = .ok (.aload_n 0, 1) := by decide +kernel
theorem dX10_whole_19 : decode cX10_whole 19 = .ok (.dup, 1) := by decide +kernel
theorem dX10_whole_20 : decode cX10_whole 20 = .ok (.getfield 57, 3) := by decide +kernel
theorem dX10_whole_23 : decode cX10_whole 23 = .ok (.iconst 1, 1) := by decide +kernel
theorem dX10_whole_24 : decode cX10_whole 24 = .ok (.iadd, 1) := by decide +kernel
theorem dX10_whole_25 : decode cX10_whole 25 = .ok (.putfield 57, 3) := by decide +kernel
theorem dX10_whole_28 : decode cX10_whole 28 = .ok (.aload_n 0, 1) := by decide +kernel
theorem dX10_whole_29 : decode cX10_whole 29 = .ok (.invokevirtual 67, 3) := by decide +kernel
theorem dX10_whole_32 : decode cX10_whole 32 = .ok (.ifCond .ne 5, 3) := by decide +kernel
theorem dX10_whole_35 : decode cX10_whole 35 = .ok (.iconst 0, 1) := by decide +kernel
theorem dX10_whole_36 : decode cX10_whole 36 = .ok (.ireturn, 1) := by decide +kernel
theorem dX10_whole_37 : decode cX10_whole 37 = .ok (.aload_n 0, 1) := by decide +kernel
theorem dX10_whole_38 : decode cX10_whole 38 = .ok (.iconst 3, 1) := by decide +kernel
theorem dX10_whole_39 : decode cX10_whole 39 = .ok (.bipush 124, 2) := by decide +kernel
theorem dX10_whole_41 : decode cX10_whole 41 = .ok (.invokevirtual 75, 3) := by decide +kernel
theorem dX10_whole_44 : decode cX10_whole 44 = .ok (.goto (-35), 3) := by decide +kernel
theorem dX10_whole_47 : decode cX10_whole 47 = .ok (.iconst 1, 1) := by decide +kernel
theorem dX10_whole_48 : decode cX10_whole 48 = .ok (.ireturn, 1) := by decide +kernel
theorem dX10_both_0 : decode cX10_both 0 = .ok (.aload_n 0, 1) := by decide +kernel
theorem dX10_both_1 : decode cX10_both 1 = .ok (.invokevirtual 79, 3) := by decide +kernel
theorem dX10_both_4 : decode cX10_both 4 = .ok (.ifCond .ne 5, 3) := by decide +kernel
theorem dX10_both_7 : decode cX10_both 7 = .ok (.iconst 0, 1) := by decide +kernel
theorem dX10_both_8 : decode cX10_both 8 = .ok (.ireturn, 1) := by decide +kernel
theorem dX10_both_9 : decode cX10_both 9 = .ok (.aload_n 0, 1) := by decide +kernel
theorem dX10_both_10 : decode cX10_both 10 = .ok (.invokevirtual 71, 3) := by decide +kernel
theorem dX10_both_13 : decode cX10_both 13 = .ok (.bipush 38, 2) := by decide +kernel
theorem dX10_both_15 : decode cX10_both 15 = .ok (.if_icmp .ne 32, 3) := by decide +kernel
theorem dX10_both_18 : decode cX10_both 18 = .ok (.aload_n 0, 1) := by decide +kernel
theorem dX10_both_19 : decode cX10_both 19 = .ok (.dup, 1) := by decide +kernel
theorem dX10_both_20 : decode cX10_both 20 = .ok (.getfield 57, 3) := by decide +kernel
theorem dX10_both_23 : decode cX10_both 23 = .ok (.iconst 1, 1) := by decide +kernel
theorem dX10_both_24 : decode cX10_both 24 = .ok (.iadd, 1) := by decide +kernel
theorem dX10_both_25 : decode cX10_both 25 = .ok (.putfield 57, 3) := by decide +kernel
theorem dX10_both_28 : decode cX10_both 28 = .ok (.aload_n 0, 1) := by decide +kernel
theorem dX10_both_29 : decode cX10_both 29 = .ok (.invokevirtual 79, 3) := by decide +kernel
theorem dX10_both_32 : decode cX10_both 32 = .ok (.ifCond .ne 5, 3) := by decide +kernel
theorem dX10_both_35 : decode cX10_both 35 = .ok (.iconst 0, 1) := by decide +kernel
theorem dX10_both_36 : decode cX10_both 36 = .ok (.ireturn, 1) := by decide +kernel
theorem dX10_both_37 : decode cX10_both 37 = .ok (.aload_n 0, 1) := by decide +kernel
theorem dX10_both_38 : decode cX10_both 38 = .ok (.iconst 3, 1) := by decide +kernel
theorem dX10_both_39 : decode cX10_both 39 = .ok (.bipush 38, 2) := by decide +kernel
theorem dX10_both_41 : decode cX10_both 41 = .ok (.invokevirtual 75, 3) := by decide +kernel
theorem dX10_both_44 : decode cX10_both 44 = .ok (.goto (-35), 3) := by decide +kernel
theorem dX10_both_47 : decode cX10_both 47 = .ok (.iconst 1, 1) := by decide +kernel
theorem dX10_both_48 : decode cX10_both 48 = .ok (.ireturn, 1) := by decide +kernel
theorem dX10_compared_0 : decode cX10_compared 0 = .ok (.aload_n 0, 1) := by decide +kernel
theorem dX10_compared_1 : decode cX10_compared 1 = .ok (.invokevirtual 82, 3) := by decide +kernel
theorem dX10_compared_4 : decode cX10_compared 4 = .ok (.ifCond .ne 5, 3) := by decide +kernel
theorem dX10_compared_7 : decode cX10_compared 7 = .ok (.iconst 0, 1) := by decide +kernel
theorem dX10_compared_8 : decode cX10_compared 8 = .ok (.ireturn, 1) := by decide +kernel
theorem dX10_compared_9 : decode cX10_compared 9 = .ok (.aload_n 0, 1) := by decide +kernel
theorem dX10_compared_10 : decode cX10_compared 10 = .ok (.invokevirtual 71, 3) := by decide +kernel
theorem dX10_compared_13 : decode cX10_compared 13 = .ok (.istore_n 1, 1) := by decide +kernel
theorem dX10_compared_14 : decode cX10_compared 14 = .ok (.iload_n 1, 1) := by decide +kernel
theorem dX10_compared_15 : decode cX10_compared 15 = .ok (.bipush 60, 2) := by decide +kernel
theorem dX10_compared_17 : decode cX10_compared 17 = .ok (.if_icmp .eq 17, 3) := by decide +kernel
theorem dX10_compared_20 : decode cX10_compared 20 = .ok (.iload_n 1, 1) := by decide +kernel
theorem dX10_compared_21 : decode cX10_compared 21 = .ok (.bipush 61, 2) := by decide +kernel
theorem dX10_compared_23 : decode cX10_compared 23 = .ok (.if_icmp .eq 11, 3) := by decide +kernel
theorem dX10_compared_26 : decode cX10_compared 26 = .ok (.iload_n 1, 1) := by decide +kernel
theorem dX10_compared_27 : decode cX10_compared 27 = .ok (.bipush 62, 2) := by decide +kernel
theorem dX10_compared_29 : decode cX10_compared 29 = .ok (.if_icmp .eq 5, 3) := by decide +kernel
theorem dX10_compared_32 : decode cX10_compared 32 = .ok (.iconst 1, 1) := by decide +kernel
theorem dX10_compared_33 : decode cX10_compared 33 = .ok (.ireturn, 1) := by decide +kernel
theorem dX10_compared_34 : decode cX10_compared 34 = .ok (.aload_n 0, 1) := by decide +kernel
theorem dX10_compared_35 : decode cX10_compared 35 = .ok (.dup, 1) := by decide +kernel
theorem dX10_compared_36 : decode cX10_compared 36 = .ok (.getfield 57, 3) := by decide +kernel
theorem dX10_compared_39 : decode cX10_compared 39 = .ok (.iconst 1, 1) := by decide +kernel
theorem dX10_compared_40 : decode cX10_compared 40 = .ok (.iadd, 1) := by decide +kernel
theorem dX10_compared_41 : decode cX10_compared 41 = .ok (.putfield 57, 3) := by decide +kernel
theorem dX10_compared_44 : decode cX10_compared 44 = .ok (.aload_n 0, 1) := by decide +kernel
theorem dX10_compared_45 : decode cX10_compared 45 = .ok (.invokevirtual 82, 3) := by decide +kernel
theorem dX10_compared_48 : decode cX10_compared 48 = .ok (.ifCond .ne 5, 3) := by decide +kernel
theorem dX10_compared_51 : decode cX10_compared 51 = .ok (.iconst 0, 1) := by decide +kernel
theorem dX10_compared_52 : decode cX10_compared 52 = .ok (.ireturn, 1) := by decide +kernel
theorem dX10_compared_53 : decode cX10_compared 53 = .ok (.aload_n 0, 1) := by decide +kernel
theorem dX10_compared_54 : decode cX10_compared 54 = .ok (.iconst 3, 1) := by decide +kernel
theorem dX10_compared_55 : decode cX10_compared 55 = .ok (.iload_n 1, 1) := by decide +kernel
theorem dX10_compared_56 : decode cX10_compared 56 = .ok (.invokevirtual 75, 3) := by decide +kernel
theorem dX10_compared_59 : decode cX10_compared 59 = .ok (.iconst 1, 1) := by decide +kernel
theorem dX10_compared_60 : decode cX10_compared 60 = .ok (.ireturn, 1) := by decide +kernel
theorem dX10_sum_0 : decode cX10_sum 0 = .ok (.aload_n 0, 1) := by decide +kernel
theorem dX10_sum_1 : decode cX10_sum 1 = .ok (.invokevirtual 85, 3) := by decide +kernel
theorem dX10_sum_4 : decode cX10_sum 4 = .ok (.ifCond .ne 5, 3) := by decide +kernel
theorem dX10_sum_7 : decode cX10_sum 7 = .ok (.iconst 0, 1) := by decide +kernel
theorem dX10_sum_8 : decode cX10_sum 8 = .ok (.ireturn, 1) := by decide +kernel
theorem dX10_sum_9 : decode cX10_sum 9 = .ok (.aload_n 0, 1) := by decide +kernel
theorem dX10_sum_10 : decode cX10_sum 10 = .ok (.invokevirtual 71, 3) := by decide +kernel
theorem dX10_sum_13 : decode cX10_sum 13 = .ok (.bipush 43, 2) := by decide +kernel
theorem dX10_sum_15 : decode cX10_sum 15 = .ok (.if_icmp .eq 12, 3) := by decide +kernel
theorem dX10_sum_18 : decode cX10_sum 18 = .ok (.aload_n 0, 1) := by decide +kernel
theorem dX10_sum_19 : decode cX10_sum 19 = .ok (.invokevirtual 71, 3) := by decide +kernel
theorem dX10_sum_22 : decode cX10_sum 22 = .ok (.bipush 45, 2) := by decide +kernel
theorem dX10_sum_24 : decode cX10_sum 24 = .ok (.if_icmp .ne 36, 3) := by decide +kernel
theorem dX10_sum_27 : decode cX10_sum 27 = .ok (.aload_n 0, 1) := by decide +kernel
theorem dX10_sum_28 : decode cX10_sum 28 = .ok (.invokevirtual 71, 3) := by decide +kernel
theorem dX10_sum_31 : decode cX10_sum 31 = .ok (.istore_n 1, 1) := by decide +kernel
theorem dX10_sum_32 : decode cX10_sum 32 = .ok (.aload_n 0, 1) := by decide +kernel
theorem dX10_sum_33 : decode cX10_sum 33 = .ok (.dup, 1) := by decide +kernel
theorem dX10_sum_34 : decode cX10_sum 34 = .ok (.getfield 57, 3) := by decide +kernel
theorem dX10_sum_37 : decode cX10_sum 37 = .ok (.iconst 1, 1) := by decide +kernel
theorem dX10_sum_38 : decode cX10_sum 38 = .ok (.iadd, 1) := by decide +kernel
theorem dX10_sum_39 : decode cX10_sum 39 = .ok (.putfield 57, 3) := by decide +kernel
theorem dX10_sum_42 : decode cX10_sum 42 = .ok (.aload_n 0, 1) := by decide +kernel
theorem dX10_sum_43 : decode cX10_sum 43 = .ok (.invokevirtual 85, 3) := by decide +kernel
theorem dX10_sum_46 : decode cX10_sum 46 = .ok (.ifCond .ne 5, 3) := by decide +kernel
theorem dX10_sum_49 : decode cX10_sum 49 = .ok (.iconst 0, 1) := by decide +kernel
theorem dX10_sum_50 : decode cX10_sum 50 = .ok (.ireturn, 1) := by decide +kernel
theorem dX10_sum_51 : decode cX10_sum 51 = .ok (.aload_n 0, 1) := by decide +kernel
theorem dX10_sum_52 : decode cX10_sum 52 = .ok (.iconst 3, 1) := by decide +kernel
theorem dX10_sum_53 : decode cX10_sum 53 = .ok (.iload_n 1, 1) := by decide +kernel
theorem dX10_sum_54 : decode cX10_sum 54 = .ok (.invokevirtual 75, 3) := by decide +kernel
theorem dX10_sum_57 : decode cX10_sum 57 = .ok (.goto (-48), 3) := by decide +kernel
theorem dX10_sum_60 : decode cX10_sum 60 = .ok (.iconst 1, 1) := by decide +kernel
theorem dX10_sum_61 : decode cX10_sum 61 = .ok (.ireturn, 1) := by decide +kernel
theorem dX10_product_0 : decode cX10_product 0 = .ok (.aload_n 0, 1) := by decide +kernel
theorem dX10_product_1 : decode cX10_product 1 = .ok (.invokevirtual 88, 3) := by decide +kernel
theorem dX10_product_4 : decode cX10_product 4 = .ok (.ifCond .ne 5, 3) := by decide +kernel
theorem dX10_product_7 : decode cX10_product 7 = .ok (.iconst 0, 1) := by decide +kernel
theorem dX10_product_8 : decode cX10_product 8 = .ok (.ireturn, 1) := by decide +kernel
theorem dX10_product_9 : decode cX10_product 9 = .ok (.aload_n 0, 1) := by decide +kernel
theorem dX10_product_10 : decode cX10_product 10 = .ok (.invokevirtual 71, 3) := by decide +kernel
theorem dX10_product_13 : decode cX10_product 13 = .ok (.bipush 42, 2) := by decide +kernel
theorem dX10_product_15 : decode cX10_product 15 = .ok (.if_icmp .eq 21, 3) := by decide +kernel
theorem dX10_product_18 : decode cX10_product 18 = .ok (.aload_n 0, 1) := by decide +kernel
theorem dX10_product_19 : decode cX10_product 19 = .ok (.invokevirtual 71, 3) := by decide +kernel
theorem dX10_product_22 : decode cX10_product 22 = .ok (.bipush 47, 2) := by decide +kernel
theorem dX10_product_24 : decode cX10_product 24 = .ok (.if_icmp .eq 12, 3) := by decide +kernel
theorem dX10_product_27 : decode cX10_product 27 = .ok (.aload_n 0, 1) := by decide +kernel
theorem dX10_product_28 : decode cX10_product 28 = .ok (.invokevirtual 71, 3) := by decide +kernel
theorem dX10_product_31 : decode cX10_product 31 = .ok (.bipush 37, 2) := by decide +kernel
theorem dX10_product_33 : decode cX10_product 33 = .ok (.if_icmp .ne 36, 3) := by decide +kernel
theorem dX10_product_36 : decode cX10_product 36 = .ok (.aload_n 0, 1) := by decide +kernel
theorem dX10_product_37 : decode cX10_product 37 = .ok (.invokevirtual 71, 3) := by decide +kernel
theorem dX10_product_40 : decode cX10_product 40 = .ok (.istore_n 1, 1) := by decide +kernel
theorem dX10_product_41 : decode cX10_product 41 = .ok (.aload_n 0, 1) := by decide +kernel
theorem dX10_product_42 : decode cX10_product 42 = .ok (.dup, 1) := by decide +kernel
theorem dX10_product_43 : decode cX10_product 43 = .ok (.getfield 57, 3) := by decide +kernel
theorem dX10_product_46 : decode cX10_product 46 = .ok (.iconst 1, 1) := by decide +kernel
theorem dX10_product_47 : decode cX10_product 47 = .ok (.iadd, 1) := by decide +kernel
theorem dX10_product_48 : decode cX10_product 48 = .ok (.putfield 57, 3) := by decide +kernel
theorem dX10_product_51 : decode cX10_product 51 = .ok (.aload_n 0, 1) := by decide +kernel
theorem dX10_product_52 : decode cX10_product 52 = .ok (.invokevirtual 88, 3) := by decide +kernel
theorem dX10_product_55 : decode cX10_product 55 = .ok (.ifCond .ne 5, 3) := by decide +kernel
theorem dX10_product_58 : decode cX10_product 58 = .ok (.iconst 0, 1) := by decide +kernel
theorem dX10_product_59 : decode cX10_product 59 = .ok (.ireturn, 1) := by decide +kernel
theorem dX10_product_60 : decode cX10_product 60 = .ok (.aload_n 0, 1) := by decide +kernel
theorem dX10_product_61 : decode cX10_product 61 = .ok (.iconst 3, 1) := by decide +kernel
theorem dX10_product_62 : decode cX10_product 62 = .ok (.iload_n 1, 1) := by decide +kernel
theorem dX10_product_63 : decode cX10_product 63 = .ok (.invokevirtual 75, 3) := by decide +kernel
theorem dX10_product_66 : decode cX10_product 66 = .ok (.goto (-57), 3) := by decide +kernel
theorem dX10_product_69 : decode cX10_product 69 = .ok (.iconst 1, 1) := by decide +kernel
theorem dX10_product_70 : decode cX10_product 70 = .ok (.ireturn, 1) := by decide +kernel
theorem dX10_opens_0 : decode cX10_opens 0 = .ok (.aload_n 0, 1) := by decide +kernel
theorem dX10_opens_1 : decode cX10_opens 1 = .ok (.getfield 91, 3) := by decide +kernel
theorem dX10_opens_4 : decode cX10_opens 4 = .ok (.iconst 5, 1) := by decide +kernel
theorem dX10_opens_5 : decode cX10_opens 5 = .ok (.if_icmp .ne 5, 3) := by decide +kernel
theorem dX10_opens_8 : decode cX10_opens 8 = .ok (.iconst 0, 1) := by decide +kernel
theorem dX10_opens_9 : decode cX10_opens 9 = .ok (.ireturn, 1) := by decide +kernel
theorem dX10_opens_10 : decode cX10_opens 10 = .ok (.aload_n 0, 1) := by decide +kernel
theorem dX10_opens_11 : decode cX10_opens 11 = .ok (.dup, 1) := by decide +kernel
theorem dX10_opens_12 : decode cX10_opens 12 = .ok (.getfield 91, 3) := by decide +kernel
theorem dX10_opens_15 : decode cX10_opens 15 = .ok (.iconst 1, 1) := by decide +kernel
theorem dX10_opens_16 : decode cX10_opens 16 = .ok (.iadd, 1) := by decide +kernel
theorem dX10_opens_17 : decode cX10_opens 17 = .ok (.putfield 91, 3) := by decide +kernel
theorem dX10_opens_20 : decode cX10_opens 20 = .ok (.aload_n 0, 1) := by decide +kernel
theorem dX10_opens_21 : decode cX10_opens 21 = .ok (.dup, 1) := by decide +kernel
theorem dX10_opens_22 : decode cX10_opens 22 = .ok (.getfield 57, 3) := by decide +kernel
theorem dX10_opens_25 : decode cX10_opens 25 = .ok (.iconst 1, 1) := by decide +kernel
theorem dX10_opens_26 : decode cX10_opens 26 = .ok (.iadd, 1) := by decide +kernel
theorem dX10_opens_27 : decode cX10_opens 27 = .ok (.putfield 57, 3) := by decide +kernel
theorem dX10_opens_30 : decode cX10_opens 30 = .ok (.iconst 1, 1) := by decide +kernel
theorem dX10_opens_31 : decode cX10_opens 31 = .ok (.ireturn, 1) := by decide +kernel
theorem dX10_one_0 : decode cX10_one 0 = .ok (.aload_n 0, 1) := by decide +kernel
theorem dX10_one_1 : decode cX10_one 1 = .ok (.invokevirtual 71, 3) := by decide +kernel
theorem dX10_one_4 : decode cX10_one 4 = .ok (.istore_n 1, 1) := by decide +kernel
theorem dX10_one_5 : decode cX10_one 5 = .ok (.aload_n 0, 1) := by decide +kernel
theorem dX10_one_6 : decode cX10_one 6 = .ok (.iload_n 1, 1) := by decide +kernel
theorem dX10_one_7 : decode cX10_one 7 = .ok (.invokevirtual 94, 3) := by decide +kernel
theorem dX10_one_10 : decode cX10_one 10 = .ok (.ifCond .eq 21, 3) := by decide +kernel
theorem dX10_one_13 : decode cX10_one 13 = .ok (.aload_n 0, 1) := by decide +kernel
theorem dX10_one_14 : decode cX10_one 14 = .ok (.dup, 1) := by decide +kernel
theorem dX10_one_15 : decode cX10_one 15 = .ok (.getfield 57, 3) := by decide +kernel
theorem dX10_one_18 : decode cX10_one 18 = .ok (.iconst 1, 1) := by decide +kernel
theorem dX10_one_19 : decode cX10_one 19 = .ok (.iadd, 1) := by decide +kernel
theorem dX10_one_20 : decode cX10_one 20 = .ok (.putfield 57, 3) := by decide +kernel
theorem dX10_one_23 : decode cX10_one 23 = .ok (.aload_n 0, 1) := by decide +kernel
theorem dX10_one_24 : decode cX10_one 24 = .ok (.iconst 1, 1) := by decide +kernel
theorem dX10_one_25 : decode cX10_one 25 = .ok (.iload_n 1, 1) := by decide +kernel
theorem dX10_one_26 : decode cX10_one 26 = .ok (.invokevirtual 75, 3) := by decide +kernel
theorem dX10_one_29 : decode cX10_one 29 = .ok (.iconst 1, 1) := by decide +kernel
theorem dX10_one_30 : decode cX10_one 30 = .ok (.ireturn, 1) := by decide +kernel
theorem dX10_one_31 : decode cX10_one 31 = .ok (.iload_n 1, 1) := by decide +kernel
theorem dX10_one_32 : decode cX10_one 32 = .ok (.bipush 48, 2) := by decide +kernel
theorem dX10_one_34 : decode cX10_one 34 = .ok (.bipush 57, 2) := by decide +kernel
theorem dX10_one_36 : decode cX10_one 36 = .ok (.invokestatic 47, 3) := by decide +kernel
theorem dX10_one_39 : decode cX10_one 39 = .ok (.ifCond .eq 63, 3) := by decide +kernel
theorem dX10_one_42 : decode cX10_one 42 = .ok (.iconst 0, 1) := by decide +kernel
theorem dX10_one_43 : decode cX10_one 43 = .ok (.istore_n 2, 1) := by decide +kernel
theorem dX10_one_44 : decode cX10_one 44 = .ok (.iconst 0, 1) := by decide +kernel
theorem dX10_one_45 : decode cX10_one 45 = .ok (.istore_n 3, 1) := by decide +kernel
theorem dX10_one_46 : decode cX10_one 46 = .ok (.iload_n 3, 1) := by decide +kernel
theorem dX10_one_47 : decode cX10_one 47 = .ok (.iconst 4, 1) := by decide +kernel
theorem dX10_one_48 : decode cX10_one 48 = .ok (.if_icmp .ge 46, 3) := by decide +kernel
theorem dX10_one_51 : decode cX10_one 51 = .ok (.aload_n 0, 1) := by decide +kernel
theorem dX10_one_52 : decode cX10_one 52 = .ok (.invokevirtual 71, 3) := by decide +kernel
theorem dX10_one_55 : decode cX10_one 55 = .ok (.bipush 48, 2) := by decide +kernel
theorem dX10_one_57 : decode cX10_one 57 = .ok (.bipush 57, 2) := by decide +kernel
theorem dX10_one_59 : decode cX10_one 59 = .ok (.invokestatic 47, 3) := by decide +kernel
theorem dX10_one_62 : decode cX10_one 62 = .ok (.ifCond .eq 32, 3) := by decide +kernel
theorem dX10_one_65 : decode cX10_one 65 = .ok (.bipush 10, 2) := by decide +kernel
theorem dX10_one_67 : decode cX10_one 67 = .ok (.iload_n 2, 1) := by decide +kernel
theorem dX10_one_68 : decode cX10_one 68 = .ok (.imul, 1) := by decide +kernel
theorem dX10_one_69 : decode cX10_one 69 = .ok (.aload_n 0, 1) := by decide +kernel
theorem dX10_one_70 : decode cX10_one 70 = .ok (.invokevirtual 71, 3) := by decide +kernel
theorem dX10_one_73 : decode cX10_one 73 = .ok (.iadd, 1) := by decide +kernel
theorem dX10_one_74 : decode cX10_one 74 = .ok (.bipush 48, 2) := by decide +kernel
theorem dX10_one_76 : decode cX10_one 76 = .ok (.isub, 1) := by decide +kernel
theorem dX10_one_77 : decode cX10_one 77 = .ok (.istore_n 2, 1) := by decide +kernel
theorem dX10_one_78 : decode cX10_one 78 = .ok (.aload_n 0, 1) := by decide +kernel
theorem dX10_one_79 : decode cX10_one 79 = .ok (.dup, 1) := by decide +kernel
theorem dX10_one_80 : decode cX10_one 80 = .ok (.getfield 57, 3) := by decide +kernel
theorem dX10_one_83 : decode cX10_one 83 = .ok (.iconst 1, 1) := by decide +kernel
theorem dX10_one_84 : decode cX10_one 84 = .ok (.iadd, 1) := by decide +kernel
theorem dX10_one_85 : decode cX10_one 85 = .ok (.putfield 57, 3) := by decide +kernel
theorem dX10_one_88 : decode cX10_one 88 = .ok (.iinc 3 1, 3) := by decide +kernel
theorem dX10_one_91 : decode cX10_one 91 = .ok (.goto (-45), 3) := by decide +kernel
theorem dX10_one_94 : decode cX10_one 94 = .ok (.aload_n 0, 1) := by decide +kernel
theorem dX10_one_95 : decode cX10_one 95 = .ok (.iconst 0, 1) := by decide +kernel
theorem dX10_one_96 : decode cX10_one 96 = .ok (.iload_n 2, 1) := by decide +kernel
theorem dX10_one_97 : decode cX10_one 97 = .ok (.invokevirtual 75, 3) := by decide +kernel
theorem dX10_one_100 : decode cX10_one 100 = .ok (.iconst 1, 1) := by decide +kernel
theorem dX10_one_101 : decode cX10_one 101 = .ok (.ireturn, 1) := by decide +kernel
theorem dX10_one_102 : decode cX10_one 102 = .ok (.iload_n 1, 1) := by decide +kernel
theorem dX10_one_103 : decode cX10_one 103 = .ok (.bipush 33, 2) := by decide +kernel
theorem dX10_one_105 : decode cX10_one 105 = .ok (.if_icmp .ne 37, 3) := by decide +kernel
theorem dX10_one_108 : decode cX10_one 108 = .ok (.aload_n 0, 1) := by decide +kernel
theorem dX10_one_109 : decode cX10_one 109 = .ok (.invokevirtual 98, 3) := by decide +kernel
theorem dX10_one_112 : decode cX10_one 112 = .ok (.ifCond .eq 10, 3) := by decide +kernel
theorem dX10_one_115 : decode cX10_one 115 = .ok (.aload_n 0, 1) := by decide +kernel
theorem dX10_one_116 : decode cX10_one 116 = .ok (.invokevirtual 88, 3) := by decide +kernel
theorem dX10_one_119 : decode cX10_one 119 = .ok (.ifCond .ne 5, 3) := by decide +kernel
theorem dX10_one_122 : decode cX10_one 122 = .ok (.iconst 0, 1) := by decide +kernel
theorem dX10_one_123 : decode cX10_one 123 = .ok (.ireturn, 1) := by decide +kernel
theorem dX10_one_124 : decode cX10_one 124 = .ok (.aload_n 0, 1) := by decide +kernel
theorem dX10_one_125 : decode cX10_one 125 = .ok (.dup, 1) := by decide +kernel
theorem dX10_one_126 : decode cX10_one 126 = .ok (.getfield 91, 3) := by decide +kernel
theorem dX10_one_129 : decode cX10_one 129 = .ok (.iconst 1, 1) := by decide +kernel
theorem dX10_one_130 : decode cX10_one 130 = .ok (.isub, 1) := by decide +kernel
theorem dX10_one_131 : decode cX10_one 131 = .ok (.putfield 91, 3) := by decide +kernel
theorem dX10_one_134 : decode cX10_one 134 = .ok (.aload_n 0, 1) := by decide +kernel
theorem dX10_one_135 : decode cX10_one 135 = .ok (.iconst 2, 1) := by decide +kernel
theorem dX10_one_136 : decode cX10_one 136 = .ok (.iconst 0, 1) := by decide +kernel
theorem dX10_one_137 : decode cX10_one 137 = .ok (.invokevirtual 75, 3) := by decide +kernel
theorem dX10_one_140 : decode cX10_one 140 = .ok (.iconst 1, 1) := by decide +kernel
theorem dX10_one_141 : decode cX10_one 141 = .ok (.ireturn, 1) := by decide +kernel
theorem dX10_one_142 : decode cX10_one 142 = .ok (.iload_n 1, 1) := by decide +kernel
theorem dX10_one_143 : decode cX10_one 143 = .ok (.bipush 40, 2) := by decide +kernel
theorem dX10_one_145 : decode cX10_one 145 = .ok (.if_icmp .ne 26, 3) := by decide +kernel
theorem dX10_one_148 : decode cX10_one 148 = .ok (.aload_n 0, 1) := by decide +kernel
theorem dX10_one_149 : decode cX10_one 149 = .ok (.invokevirtual 98, 3) := by decide +kernel
theorem dX10_one_152 : decode cX10_one 152 = .ok (.ifCond .eq 19, 3) := by decide +kernel
theorem dX10_one_155 : decode cX10_one 155 = .ok (.aload_n 0, 1) := by decide +kernel
theorem dX10_one_156 : decode cX10_one 156 = .ok (.invokevirtual 101, 3) := by decide +kernel
theorem dX10_one_159 : decode cX10_one 159 = .ok (.ifCond .eq 12, 3) := by decide +kernel
theorem dX10_one_162 : decode cX10_one 162 = .ok (.aload_n 0, 1) := by decide +kernel
theorem dX10_one_163 : decode cX10_one 163 = .ok (.invokevirtual 71, 3) := by decide +kernel
theorem dX10_one_166 : decode cX10_one 166 = .ok (.bipush 41, 2) := by decide +kernel
theorem dX10_one_168 : decode cX10_one 168 = .ok (.if_icmp .eq 5, 3) := by decide +kernel
theorem dX10_one_171 : decode cX10_one 171 = .ok (.iconst 0, 1) := by decide +kernel
theorem dX10_one_172 : decode cX10_one 172 = .ok (.ireturn, 1) := by decide +kernel
theorem dX10_one_173 : decode cX10_one 173 = .ok (.aload_n 0, 1) := by decide +kernel
theorem dX10_one_174 : decode cX10_one 174 = .ok (.dup, 1) := by decide +kernel
theorem dX10_one_175 : decode cX10_one 175 = .ok (.getfield 57, 3) := by decide +kernel
theorem dX10_one_178 : decode cX10_one 178 = .ok (.iconst 1, 1) := by decide +kernel
theorem dX10_one_179 : decode cX10_one 179 = .ok (.iadd, 1) := by decide +kernel
theorem dX10_one_180 : decode cX10_one 180 = .ok (.putfield 57, 3) := by decide +kernel
theorem dX10_one_183 : decode cX10_one 183 = .ok (.aload_n 0, 1) := by decide +kernel
theorem dX10_one_184 : decode cX10_one 184 = .ok (.dup, 1) := by decide +kernel
theorem dX10_one_185 : decode cX10_one 185 = .ok (.getfield 91, 3) := by decide +kernel
theorem dX10_one_188 : decode cX10_one 188 = .ok (.iconst 1, 1) := by decide +kernel
theorem dX10_one_189 : decode cX10_one 189 = .ok (.isub, 1) := by decide +kernel
theorem dX10_one_190 : decode cX10_one 190 = .ok (.putfield 91, 3) := by decide +kernel
theorem dX10_one_193 : decode cX10_one 193 = .ok (.iconst 1, 1) := by decide +kernel
theorem dX10_one_194 : decode cX10_one 194 = .ok (.ireturn, 1) := by decide +kernel
theorem dX10_hasText_0 : decode cX10_hasText 0 = .ok (.aload_n 0, 1) := by decide +kernel
theorem dX10_hasText_1 : decode cX10_hasText 1 = .ok (.getfield 7, 3) := by decide +kernel
theorem dX10_hasText_4 : decode cX10_hasText 4 = .ok (.bipush 50, 2) := by decide +kernel
theorem dX10_hasText_6 : decode cX10_hasText 6 = .ok (.bipush 125, 2) := by decide +kernel
theorem dX10_hasText_8 : decode cX10_hasText 8 = .ok (.iload_n 1, 1) := by decide +kernel
theorem dX10_hasText_9 : decode cX10_hasText 9 = .ok (.imul, 1) := by decide +kernel
theorem dX10_hasText_10 : decode cX10_hasText 10 = .ok (.iadd, 1) := by decide +kernel
theorem dX10_hasText_11 : decode cX10_hasText 11 = .ok (.iaload, 1) := by decide +kernel
theorem dX10_hasText_12 : decode cX10_hasText 12 = .ok (.ifCond .le 7, 3) := by decide +kernel
theorem dX10_hasText_15 : decode cX10_hasText 15 = .ok (.iconst 1, 1) := by decide +kernel
theorem dX10_hasText_16 : decode cX10_hasText 16 = .ok (.goto 4, 3) := by decide +kernel
theorem dX10_hasText_19 : decode cX10_hasText 19 = .ok (.iconst 0, 1) := by decide +kernel
theorem dX10_hasText_20 : decode cX10_hasText 20 = .ok (.ireturn, 1) := by decide +kernel
theorem dX10_text_0 : decode cX10_text 0 = .ok (.iload_n 1, 1) := by decide +kernel
theorem dX10_text_1 : decode cX10_text 1 = .ok (.iconst 0, 1) := by decide +kernel
theorem dX10_text_2 : decode cX10_text 2 = .ok (.iconst 1, 1) := by decide +kernel
theorem dX10_text_3 : decode cX10_text 3 = .ok (.invokestatic 47, 3) := by decide +kernel
theorem dX10_text_6 : decode cX10_text 6 = .ok (.ifCond .ne 9, 3) := by decide +kernel
theorem dX10_text_9 : decode cX10_text 9 = .ok (.aload_n 0, 1) := by decide +kernel
theorem dX10_text_10 : decode cX10_text 10 = .ok (.iconst 1, 1) := by decide +kernel
theorem dX10_text_11 : decode cX10_text 11 = .ok (.invokevirtual 51, 3) := by decide +kernel
theorem dX10_text_14 : decode cX10_text 14 = .ok (.ireturn, 1) := by decide +kernel
theorem dX10_text_15 : decode cX10_text 15 = .ok (.aload_n 0, 1) := by decide +kernel
theorem dX10_text_16 : decode cX10_text 16 = .ok (.iload_n 1, 1) := by decide +kernel
theorem dX10_text_17 : decode cX10_text 17 = .ok (.putfield 61, 3) := by decide +kernel
theorem dX10_text_20 : decode cX10_text 20 = .ok (.aload_n 0, 1) := by decide +kernel
theorem dX10_text_21 : decode cX10_text 21 = .ok (.iconst 0, 1) := by decide +kernel
theorem dX10_text_22 : decode cX10_text 22 = .ok (.putfield 57, 3) := by decide +kernel
theorem dX10_text_25 : decode cX10_text 25 = .ok (.aload_n 0, 1) := by decide +kernel
theorem dX10_text_26 : decode cX10_text 26 = .ok (.iconst 0, 1) := by decide +kernel
theorem dX10_text_27 : decode cX10_text 27 = .ok (.putfield 91, 3) := by decide +kernel
theorem dX10_text_30 : decode cX10_text 30 = .ok (.aload_n 0, 1) := by decide +kernel
theorem dX10_text_31 : decode cX10_text 31 = .ok (.iconst 0, 1) := by decide +kernel
theorem dX10_text_32 : decode cX10_text 32 = .ok (.putfield 64, 3) := by decide +kernel
theorem dX10_text_35 : decode cX10_text 35 = .ok (.aload_n 0, 1) := by decide +kernel
theorem dX10_text_36 : decode cX10_text 36 = .ok (.invokevirtual 101, 3) := by decide +kernel
theorem dX10_text_39 : decode cX10_text 39 = .ok (.ifCond .eq 20, 3) := by decide +kernel
theorem dX10_text_42 : decode cX10_text 42 = .ok (.aload_n 0, 1) := by decide +kernel
theorem dX10_text_43 : decode cX10_text 43 = .ok (.getfield 57, 3) := by decide +kernel
theorem dX10_text_46 : decode cX10_text 46 = .ok (.aload_n 0, 1) := by decide +kernel
theorem dX10_text_47 : decode cX10_text 47 = .ok (.getfield 7, 3) := by decide +kernel
theorem dX10_text_50 : decode cX10_text 50 = .ok (.iconst 2, 1) := by decide +kernel
theorem dX10_text_51 : decode cX10_text 51 = .ok (.iaload, 1) := by decide +kernel
theorem dX10_text_52 : decode cX10_text 52 = .ok (.if_icmp .ne 7, 3) := by decide +kernel
theorem dX10_text_55 : decode cX10_text 55 = .ok (.iconst 1, 1) := by decide +kernel
theorem dX10_text_56 : decode cX10_text 56 = .ok (.goto 4, 3) := by decide +kernel
theorem dX10_text_59 : decode cX10_text 59 = .ok (.iconst 0, 1) := by decide +kernel
theorem dX10_text_60 : decode cX10_text 60 = .ok (.istore_n 2, 1) := by decide +kernel
theorem dX10_text_61 : decode cX10_text 61 = .ok (.aload_n 0, 1) := by decide +kernel
theorem dX10_text_62 : decode cX10_text 62 = .ok (.getfield 7, 3) := by decide +kernel
theorem dX10_text_65 : decode cX10_text 65 = .ok (.iconst 2, 1) := by decide +kernel
theorem dX10_text_66 : decode cX10_text 66 = .ok (.iconst 0, 1) := by decide +kernel
theorem dX10_text_67 : decode cX10_text 67 = .ok (.iastore, 1) := by decide +kernel
theorem dX10_text_68 : decode cX10_text 68 = .ok (.iload_n 2, 1) := by decide +kernel
theorem dX10_text_69 : decode cX10_text 69 = .ok (.ifCond .ne 11, 3) := by decide +kernel
theorem dX10_text_72 : decode cX10_text 72 = .ok (.bipush (-10), 2) := by decide +kernel
theorem dX10_text_74 : decode cX10_text 74 = .ok (.aload_n 0, 1) := by decide +kernel
theorem dX10_text_75 : decode cX10_text 75 = .ok (.getfield 57, 3) := by decide +kernel
theorem dX10_text_78 : decode cX10_text 78 = .ok (.isub, 1) := by decide +kernel
theorem dX10_text_79 : decode cX10_text 79 = .ok (.ireturn, 1) := by decide +kernel
theorem dX10_text_80 : decode cX10_text 80 = .ok (.bipush 50, 2) := by decide +kernel
theorem dX10_text_82 : decode cX10_text 82 = .ok (.bipush 125, 2) := by decide +kernel
theorem dX10_text_84 : decode cX10_text 84 = .ok (.iload_n 1, 1) := by decide +kernel
theorem dX10_text_85 : decode cX10_text 85 = .ok (.imul, 1) := by decide +kernel
theorem dX10_text_86 : decode cX10_text 86 = .ok (.iadd, 1) := by decide +kernel
theorem dX10_text_87 : decode cX10_text 87 = .ok (.istore_n 3, 1) := by decide +kernel
theorem dX10_text_88 : decode cX10_text 88 = .ok (.aload_n 0, 1) := by decide +kernel
theorem dX10_text_89 : decode cX10_text 89 = .ok (.getfield 7, 3) := by decide +kernel
theorem dX10_text_92 : decode cX10_text 92 = .ok (.iload_n 3, 1) := by decide +kernel
theorem dX10_text_93 : decode cX10_text 93 = .ok (.aload_n 0, 1) := by decide +kernel
theorem dX10_text_94 : decode cX10_text 94 = .ok (.getfield 64, 3) := by decide +kernel
theorem dX10_text_97 : decode cX10_text 97 = .ok (.iastore, 1) := by decide +kernel
theorem dX10_text_98 : decode cX10_text 98 = .ok (.iconst 0, 1) := by decide +kernel
theorem dX10_text_99 : decode cX10_text 99 = .ok (.istore 4, 2) := by decide +kernel
theorem dX10_text_101 : decode cX10_text 101 = .ok (.iload 4, 2) := by decide +kernel
theorem dX10_text_103 : decode cX10_text 103 = .ok (.iconst 2, 1) := by decide +kernel
theorem dX10_text_104 : decode cX10_text 104 = .ok (.aload_n 0, 1) := by decide +kernel
theorem dX10_text_105 : decode cX10_text 105 = .ok (.getfield 64, 3) := by decide +kernel
theorem dX10_text_108 : decode cX10_text 108 = .ok (.imul, 1) := by decide +kernel
theorem dX10_text_109 : decode cX10_text 109 = .ok (.if_icmp .ge 27, 3) := by decide +kernel
theorem dX10_text_112 : decode cX10_text 112 = .ok (.aload_n 0, 1) := by decide +kernel
theorem dX10_text_113 : decode cX10_text 113 = .ok (.getfield 7, 3) := by decide +kernel
theorem dX10_text_116 : decode cX10_text 116 = .ok (.iload_n 3, 1) := by decide +kernel
theorem dX10_text_117 : decode cX10_text 117 = .ok (.iconst 1, 1) := by decide +kernel
theorem dX10_text_118 : decode cX10_text 118 = .ok (.iadd, 1) := by decide +kernel
theorem dX10_text_119 : decode cX10_text 119 = .ok (.iload 4, 2) := by decide +kernel
theorem dX10_text_121 : decode cX10_text 121 = .ok (.iadd, 1) := by decide +kernel
theorem dX10_text_122 : decode cX10_text 122 = .ok (.aload_n 0, 1) := by decide +kernel
theorem dX10_text_123 : decode cX10_text 123 = .ok (.getfield 22, 3) := by decide +kernel
theorem dX10_text_126 : decode cX10_text 126 = .ok (.iload 4, 2) := by decide +kernel
theorem dX10_text_128 : decode cX10_text 128 = .ok (.iaload, 1) := by decide +kernel
theorem dX10_text_129 : decode cX10_text 129 = .ok (.iastore, 1) := by decide +kernel
theorem dX10_text_130 : decode cX10_text 130 = .ok (.iinc 4 1, 3) := by decide +kernel
theorem dX10_text_133 : decode cX10_text 133 = .ok (.goto (-32), 3) := by decide +kernel
theorem dX10_text_136 : decode cX10_text 136 = .ok (.iconst 1, 1) := by decide +kernel
theorem dX10_text_137 : decode cX10_text 137 = .ok (.ireturn, 1) := by decide +kernel
theorem dX10_untell_0 : decode cX10_untell 0 = .ok (.iload_n 1, 1) := by decide +kernel
theorem dX10_untell_1 : decode cX10_untell 1 = .ok (.iconst 0, 1) := by decide +kernel
theorem dX10_untell_2 : decode cX10_untell 2 = .ok (.iconst 1, 1) := by decide +kernel
theorem dX10_untell_3 : decode cX10_untell 3 = .ok (.invokestatic 47, 3) := by decide +kernel
theorem dX10_untell_6 : decode cX10_untell 6 = .ok (.ifCond .ne 9, 3) := by decide +kernel
theorem dX10_untell_9 : decode cX10_untell 9 = .ok (.aload_n 0, 1) := by decide +kernel
theorem dX10_untell_10 : decode cX10_untell 10 = .ok (.iconst 1, 1) := by decide +kernel
theorem dX10_untell_11 : decode cX10_untell 11 = .ok (.invokevirtual 51, 3) := by decide +kernel
theorem dX10_untell_14 : decode cX10_untell 14 = .ok (.ireturn, 1) := by decide +kernel
theorem dX10_untell_15 : decode cX10_untell 15 = .ok (.aload_n 0, 1) := by decide +kernel
theorem dX10_untell_16 : decode cX10_untell 16 = .ok (.iload_n 1, 1) := by decide +kernel
theorem dX10_untell_17 : decode cX10_untell 17 = .ok (.invokevirtual 104, 3) := by decide +kernel
theorem dX10_untell_20 : decode cX10_untell 20 = .ok (.ifCond .eq 7, 3) := by decide +kernel
theorem dX10_untell_23 : decode cX10_untell 23 = .ok (.iconst 1, 1) := by decide +kernel
theorem dX10_untell_24 : decode cX10_untell 24 = .ok (.goto 4, 3) := by decide +kernel
theorem dX10_untell_27 : decode cX10_untell 27 = .ok (.iconst 0, 1) := by decide +kernel
theorem dX10_untell_28 : decode cX10_untell 28 = .ok (.istore_n 2, 1) := by decide +kernel
theorem dX10_untell_29 : decode cX10_untell 29 = .ok (.aload_n 0, 1) := by decide +kernel
theorem dX10_untell_30 : decode cX10_untell 30 = .ok (.getfield 7, 3) := by decide +kernel
theorem dX10_untell_33 : decode cX10_untell 33 = .ok (.bipush 50, 2) := by decide +kernel
theorem dX10_untell_35 : decode cX10_untell 35 = .ok (.bipush 125, 2) := by decide +kernel
theorem dX10_untell_37 : decode cX10_untell 37 = .ok (.iload_n 1, 1) := by decide +kernel
theorem dX10_untell_38 : decode cX10_untell 38 = .ok (.imul, 1) := by decide +kernel
theorem dX10_untell_39 : decode cX10_untell 39 = .ok (.iadd, 1) := by decide +kernel
theorem dX10_untell_40 : decode cX10_untell 40 = .ok (.iconst 0, 1) := by decide +kernel
theorem dX10_untell_41 : decode cX10_untell 41 = .ok (.iastore, 1) := by decide +kernel
theorem dX10_untell_42 : decode cX10_untell 42 = .ok (.iload_n 2, 1) := by decide +kernel
theorem dX10_untell_43 : decode cX10_untell 43 = .ok (.ireturn, 1) := by decide +kernel
theorem dX10_joined_0 : decode cX10_joined 0 = .ok (.iload_n 0, 1) := by decide +kernel
theorem dX10_joined_1 : decode cX10_joined 1 = .ok (.tableswitch 217 37 62 #[153, 203, 217, 217, 217, 127, 119, 217, 123, 217, 131, 217, 217, 217, 217, 217, 217, 217, 217, 217, 217, 217, 217, 170, 192, 181], 119) := by decide +kernel
theorem dX10_joined_120 : decode cX10_joined 120 = .ok (.iload_n 1, 1) := by decide +kernel
theorem dX10_joined_121 : decode cX10_joined 121 = .ok (.iload_n 2, 1) := by decide +kernel
theorem dX10_joined_122 : decode cX10_joined 122 = .ok (.iadd, 1) := by decide +kernel
theorem dX10_joined_123 : decode cX10_joined 123 = .ok (.ireturn, 1) := by decide +kernel
theorem dX10_joined_124 : decode cX10_joined 124 = .ok (.iload_n 1, 1) := by decide +kernel
theorem dX10_joined_125 : decode cX10_joined 125 = .ok (.iload_n 2, 1) := by decide +kernel
theorem dX10_joined_126 : decode cX10_joined 126 = .ok (.isub, 1) := by decide +kernel
theorem dX10_joined_127 : decode cX10_joined 127 = .ok (.ireturn, 1) := by decide +kernel
theorem dX10_joined_128 : decode cX10_joined 128 = .ok (.iload_n 1, 1) := by decide +kernel
theorem dX10_joined_129 : decode cX10_joined 129 = .ok (.iload_n 2, 1) := by decide +kernel
theorem dX10_joined_130 : decode cX10_joined 130 = .ok (.imul, 1) := by decide +kernel
theorem dX10_joined_131 : decode cX10_joined 131 = .ok (.ireturn, 1) := by decide +kernel
theorem dX10_joined_132 : decode cX10_joined 132 = .ok (.iload_n 2, 1) := by decide +kernel
theorem dX10_joined_133 : decode cX10_joined 133 = .ok (.ifCond .ne 7, 3) := by decide +kernel
theorem dX10_joined_136 : decode cX10_joined 136 = .ok (.iconst 0, 1) := by decide +kernel
theorem dX10_joined_137 : decode cX10_joined 137 = .ok (.goto 16, 3) := by decide +kernel
theorem dX10_joined_140 : decode cX10_joined 140 = .ok (.iload_n 2, 1) := by decide +kernel
theorem dX10_joined_141 : decode cX10_joined 141 = .ok (.iconst (-1), 1) := by decide +kernel
theorem dX10_joined_142 : decode cX10_joined 142 = .ok (.if_icmp .ne 8, 3) := by decide +kernel
theorem dX10_joined_145 : decode cX10_joined 145 = .ok (.iload_n 1, 1) := by decide +kernel
theorem dX10_joined_146 : decode cX10_joined 146 = .ok (.ineg, 1) := by decide +kernel
theorem dX10_joined_147 : decode cX10_joined 147 = .ok (.goto 6, 3) := by decide +kernel
theorem dX10_joined_150 : decode cX10_joined 150 = .ok (.iload_n 1, 1) := by decide +kernel
theorem dX10_joined_151 : decode cX10_joined 151 = .ok (.iload_n 2, 1) := by decide +kernel
theorem dX10_joined_152 : decode cX10_joined 152 = .ok (.idiv, 1) := by decide +kernel
theorem dX10_joined_153 : decode cX10_joined 153 = .ok (.ireturn, 1) := by decide +kernel
theorem dX10_joined_154 : decode cX10_joined 154 = .ok (.iload_n 2, 1) := by decide +kernel
theorem dX10_joined_155 : decode cX10_joined 155 = .ok (.ifCond .eq 8, 3) := by decide +kernel
theorem dX10_joined_158 : decode cX10_joined 158 = .ok (.iload_n 2, 1) := by decide +kernel
theorem dX10_joined_159 : decode cX10_joined 159 = .ok (.iconst (-1), 1) := by decide +kernel
theorem dX10_joined_160 : decode cX10_joined 160 = .ok (.if_icmp .ne 7, 3) := by decide +kernel
theorem dX10_joined_163 : decode cX10_joined 163 = .ok (.iconst 0, 1) := by decide +kernel
theorem dX10_joined_164 : decode cX10_joined 164 = .ok (.goto 6, 3) := by decide +kernel
theorem dX10_joined_167 : decode cX10_joined 167 = .ok (.iload_n 1, 1) := by decide +kernel
theorem dX10_joined_168 : decode cX10_joined 168 = .ok (.iload_n 2, 1) := by decide +kernel
theorem dX10_joined_169 : decode cX10_joined 169 = .ok (.irem, 1) := by decide +kernel
theorem dX10_joined_170 : decode cX10_joined 170 = .ok (.ireturn, 1) := by decide +kernel
theorem dX10_joined_171 : decode cX10_joined 171 = .ok (.iload_n 1, 1) := by decide +kernel
theorem dX10_joined_172 : decode cX10_joined 172 = .ok (.iload_n 2, 1) := by decide +kernel
theorem dX10_joined_173 : decode cX10_joined 173 = .ok (.if_icmp .ge 7, 3) := by decide +kernel
theorem dX10_joined_176 : decode cX10_joined 176 = .ok (.iconst 1, 1) := by decide +kernel
theorem dX10_joined_177 : decode cX10_joined 177 = .ok (.goto 4, 3) := by decide +kernel
theorem dX10_joined_180 : decode cX10_joined 180 = .ok (.iconst 0, 1) := by decide +kernel
theorem dX10_joined_181 : decode cX10_joined 181 = .ok (.ireturn, 1) := by decide +kernel
theorem dX10_joined_182 : decode cX10_joined 182 = .ok (.iload_n 1, 1) := by decide +kernel
theorem dX10_joined_183 : decode cX10_joined 183 = .ok (.iload_n 2, 1) := by decide +kernel
theorem dX10_joined_184 : decode cX10_joined 184 = .ok (.if_icmp .le 7, 3) := by decide +kernel
theorem dX10_joined_187 : decode cX10_joined 187 = .ok (.iconst 1, 1) := by decide +kernel
theorem dX10_joined_188 : decode cX10_joined 188 = .ok (.goto 4, 3) := by decide +kernel
theorem dX10_joined_191 : decode cX10_joined 191 = .ok (.iconst 0, 1) := by decide +kernel
theorem dX10_joined_192 : decode cX10_joined 192 = .ok (.ireturn, 1) := by decide +kernel
theorem dX10_joined_193 : decode cX10_joined 193 = .ok (.iload_n 1, 1) := by decide +kernel
theorem dX10_joined_194 : decode cX10_joined 194 = .ok (.iload_n 2, 1) := by decide +kernel
theorem dX10_joined_195 : decode cX10_joined 195 = .ok (.if_icmp .ne 7, 3) := by decide +kernel
theorem dX10_joined_198 : decode cX10_joined 198 = .ok (.iconst 1, 1) := by decide +kernel
theorem dX10_joined_199 : decode cX10_joined 199 = .ok (.goto 4, 3) := by decide +kernel
theorem dX10_joined_202 : decode cX10_joined 202 = .ok (.iconst 0, 1) := by decide +kernel
theorem dX10_joined_203 : decode cX10_joined 203 = .ok (.ireturn, 1) := by decide +kernel
theorem dX10_joined_204 : decode cX10_joined 204 = .ok (.iload_n 1, 1) := by decide +kernel
theorem dX10_joined_205 : decode cX10_joined 205 = .ok (.ifCond .eq 11, 3) := by decide +kernel
theorem dX10_joined_208 : decode cX10_joined 208 = .ok (.iload_n 2, 1) := by decide +kernel
theorem dX10_joined_209 : decode cX10_joined 209 = .ok (.ifCond .eq 7, 3) := by decide +kernel
theorem dX10_joined_212 : decode cX10_joined 212 = .ok (.iconst 1, 1) := by decide +kernel
theorem dX10_joined_213 : decode cX10_joined 213 = .ok (.goto 4, 3) := by decide +kernel
theorem dX10_joined_216 : decode cX10_joined 216 = .ok (.iconst 0, 1) := by decide +kernel
theorem dX10_joined_217 : decode cX10_joined 217 = .ok (.ireturn, 1) := by decide +kernel
theorem dX10_joined_218 : decode cX10_joined 218 = .ok (.iload_n 1, 1) := by decide +kernel
theorem dX10_joined_219 : decode cX10_joined 219 = .ok (.ifCond .ne 7, 3) := by decide +kernel
theorem dX10_joined_222 : decode cX10_joined 222 = .ok (.iload_n 2, 1) := by decide +kernel
theorem dX10_joined_223 : decode cX10_joined 223 = .ok (.ifCond .eq 7, 3) := by decide +kernel
theorem dX10_joined_226 : decode cX10_joined 226 = .ok (.iconst 1, 1) := by decide +kernel
theorem dX10_joined_227 : decode cX10_joined 227 = .ok (.goto 4, 3) := by decide +kernel
theorem dX10_joined_230 : decode cX10_joined 230 = .ok (.iconst 0, 1) := by decide +kernel
theorem dX10_joined_231 : decode cX10_joined 231 = .ok (.ireturn, 1) := by decide +kernel
theorem dX10_worked_0 : decode cX10_worked 0 = .ok (.bipush 50, 2) := by decide +kernel
theorem dX10_worked_2 : decode cX10_worked 2 = .ok (.bipush 125, 2) := by decide +kernel
theorem dX10_worked_4 : decode cX10_worked 4 = .ok (.iload_n 1, 1) := by decide +kernel
theorem dX10_worked_5 : decode cX10_worked 5 = .ok (.imul, 1) := by decide +kernel
theorem dX10_worked_6 : decode cX10_worked 6 = .ok (.iadd, 1) := by decide +kernel
theorem dX10_worked_7 : decode cX10_worked 7 = .ok (.istore_n 2, 1) := by decide +kernel
theorem dX10_worked_8 : decode cX10_worked 8 = .ok (.iconst 0, 1) := by decide +kernel
theorem dX10_worked_9 : decode cX10_worked 9 = .ok (.istore_n 3, 1) := by decide +kernel
theorem dX10_worked_10 : decode cX10_worked 10 = .ok (.iconst 0, 1) := by decide +kernel
theorem dX10_worked_11 : decode cX10_worked 11 = .ok (.istore 4, 2) := by decide +kernel
theorem dX10_worked_13 : decode cX10_worked 13 = .ok (.iload 4, 2) := by decide +kernel
theorem dX10_worked_15 : decode cX10_worked 15 = .ok (.aload_n 0, 1) := by decide +kernel
theorem dX10_worked_16 : decode cX10_worked 16 = .ok (.getfield 7, 3) := by decide +kernel
theorem dX10_worked_19 : decode cX10_worked 19 = .ok (.iload_n 2, 1) := by decide +kernel
theorem dX10_worked_20 : decode cX10_worked 20 = .ok (.iaload, 1) := by decide +kernel
theorem dX10_worked_21 : decode cX10_worked 21 = .ok (.if_icmp .ge 142, 3) := by decide +kernel
theorem dX10_worked_24 : decode cX10_worked 24 = .ok (.aload_n 0, 1) := by decide +kernel
theorem dX10_worked_25 : decode cX10_worked 25 = .ok (.getfield 7, 3) := by decide +kernel
theorem dX10_worked_28 : decode cX10_worked 28 = .ok (.iload_n 2, 1) := by decide +kernel
theorem dX10_worked_29 : decode cX10_worked 29 = .ok (.iconst 1, 1) := by decide +kernel
theorem dX10_worked_30 : decode cX10_worked 30 = .ok (.iadd, 1) := by decide +kernel
theorem dX10_worked_31 : decode cX10_worked 31 = .ok (.iconst 2, 1) := by decide +kernel
theorem dX10_worked_32 : decode cX10_worked 32 = .ok (.iload 4, 2) := by decide +kernel
theorem dX10_worked_34 : decode cX10_worked 34 = .ok (.imul, 1) := by decide +kernel
theorem dX10_worked_35 : decode cX10_worked 35 = .ok (.iadd, 1) := by decide +kernel
theorem dX10_worked_36 : decode cX10_worked 36 = .ok (.iaload, 1) := by decide +kernel
theorem dX10_worked_37 : decode cX10_worked 37 = .ok (.istore 5, 2) := by decide +kernel
theorem dX10_worked_39 : decode cX10_worked 39 = .ok (.aload_n 0, 1) := by decide +kernel
theorem dX10_worked_40 : decode cX10_worked 40 = .ok (.getfield 7, 3) := by decide +kernel
theorem dX10_worked_43 : decode cX10_worked 43 = .ok (.iload_n 2, 1) := by decide +kernel
theorem dX10_worked_44 : decode cX10_worked 44 = .ok (.iconst 2, 1) := by decide +kernel
theorem dX10_worked_45 : decode cX10_worked 45 = .ok (.iadd, 1) := by decide +kernel
theorem dX10_worked_46 : decode cX10_worked 46 = .ok (.iconst 2, 1) := by decide +kernel
theorem dX10_worked_47 : decode cX10_worked 47 = .ok (.iload 4, 2) := by decide +kernel
theorem dX10_worked_49 : decode cX10_worked 49 = .ok (.imul, 1) := by decide +kernel
theorem dX10_worked_50 : decode cX10_worked 50 = .ok (.iadd, 1) := by decide +kernel
theorem dX10_worked_51 : decode cX10_worked 51 = .ok (.iaload, 1) := by decide +kernel
theorem dX10_worked_52 : decode cX10_worked 52 = .ok (.istore 6, 2) := by decide +kernel
theorem dX10_worked_54 : decode cX10_worked 54 = .ok (.iload 5, 2) := by decide +kernel
theorem dX10_worked_56 : decode cX10_worked 56 = .ok (.ifCond .eq 9, 3) := by decide +kernel
theorem dX10_worked_59 : decode cX10_worked 59 = .ok (.iload 5, 2) := by decide +kernel
theorem dX10_worked_61 : decode cX10_worked 61 = .ok (.iconst 1, 1) := by decide +kernel
theorem dX10_worked_62 : decode cX10_worked 62 = .ok (.if_icmp .ne 32, 3) := by decide +kernel
theorem dX10_worked_65 : decode cX10_worked 65 = .ok (.aload_n 0, 1) := by decide +kernel
theorem dX10_worked_66 : decode cX10_worked 66 = .ok (.getfield 28, 3) := by decide +kernel
theorem dX10_worked_69 : decode cX10_worked 69 = .ok (.iload_n 3, 1) := by decide +kernel
theorem dX10_worked_70 : decode cX10_worked 70 = .ok (.iload 5, 2) := by decide +kernel
theorem dX10_worked_72 : decode cX10_worked 72 = .ok (.ifCond .ne 8, 3) := by decide +kernel
theorem dX10_worked_75 : decode cX10_worked 75 = .ok (.iload 6, 2) := by decide +kernel
theorem dX10_worked_77 : decode cX10_worked 77 = .ok (.goto 10, 3) := by decide +kernel
theorem dX10_worked_80 : decode cX10_worked 80 = .ok (.aload_n 0, 1) := by decide +kernel
theorem dX10_worked_81 : decode cX10_worked 81 = .ok (.getfield 25, 3) := by decide +kernel
theorem dX10_worked_84 : decode cX10_worked 84 = .ok (.iload 6, 2) := by decide +kernel
theorem dX10_worked_86 : decode cX10_worked 86 = .ok (.iaload, 1) := by decide +kernel
theorem dX10_worked_87 : decode cX10_worked 87 = .ok (.iastore, 1) := by decide +kernel
theorem dX10_worked_88 : decode cX10_worked 88 = .ok (.iinc 3 1, 3) := by decide +kernel
theorem dX10_worked_91 : decode cX10_worked 91 = .ok (.goto 66, 3) := by decide +kernel
theorem dX10_worked_94 : decode cX10_worked 94 = .ok (.iload 5, 2) := by decide +kernel
theorem dX10_worked_96 : decode cX10_worked 96 = .ok (.iconst 2, 1) := by decide +kernel
theorem dX10_worked_97 : decode cX10_worked 97 = .ok (.if_icmp .ne 30, 3) := by decide +kernel
theorem dX10_worked_100 : decode cX10_worked 100 = .ok (.aload_n 0, 1) := by decide +kernel
theorem dX10_worked_101 : decode cX10_worked 101 = .ok (.getfield 28, 3) := by decide +kernel
theorem dX10_worked_104 : decode cX10_worked 104 = .ok (.iload_n 3, 1) := by decide +kernel
theorem dX10_worked_105 : decode cX10_worked 105 = .ok (.iconst 1, 1) := by decide +kernel
theorem dX10_worked_106 : decode cX10_worked 106 = .ok (.isub, 1) := by decide +kernel
theorem dX10_worked_107 : decode cX10_worked 107 = .ok (.aload_n 0, 1) := by decide +kernel
theorem dX10_worked_108 : decode cX10_worked 108 = .ok (.getfield 28, 3) := by decide +kernel
theorem dX10_worked_111 : decode cX10_worked 111 = .ok (.iload_n 3, 1) := by decide +kernel
theorem dX10_worked_112 : decode cX10_worked 112 = .ok (.iconst 1, 1) := by decide +kernel
theorem dX10_worked_113 : decode cX10_worked 113 = .ok (.isub, 1) := by decide +kernel
theorem dX10_worked_114 : decode cX10_worked 114 = .ok (.iaload, 1) := by decide +kernel
theorem dX10_worked_115 : decode cX10_worked 115 = .ok (.ifCond .ne 7, 3) := by decide +kernel
theorem dX10_worked_118 : decode cX10_worked 118 = .ok (.iconst 1, 1) := by decide +kernel
theorem dX10_worked_119 : decode cX10_worked 119 = .ok (.goto 4, 3) := by decide +kernel
theorem dX10_worked_122 : decode cX10_worked 122 = .ok (.iconst 0, 1) := by decide +kernel
theorem dX10_worked_123 : decode cX10_worked 123 = .ok (.iastore, 1) := by decide +kernel
theorem dX10_worked_124 : decode cX10_worked 124 = .ok (.goto 33, 3) := by decide +kernel
theorem dX10_worked_127 : decode cX10_worked 127 = .ok (.iinc 3 (-1), 3) := by decide +kernel
theorem dX10_worked_130 : decode cX10_worked 130 = .ok (.aload_n 0, 1) := by decide +kernel
theorem dX10_worked_131 : decode cX10_worked 131 = .ok (.getfield 28, 3) := by decide +kernel
theorem dX10_worked_134 : decode cX10_worked 134 = .ok (.iload_n 3, 1) := by decide +kernel
theorem dX10_worked_135 : decode cX10_worked 135 = .ok (.iconst 1, 1) := by decide +kernel
theorem dX10_worked_136 : decode cX10_worked 136 = .ok (.isub, 1) := by decide +kernel
theorem dX10_worked_137 : decode cX10_worked 137 = .ok (.iload 6, 2) := by decide +kernel
theorem dX10_worked_139 : decode cX10_worked 139 = .ok (.aload_n 0, 1) := by decide +kernel
theorem dX10_worked_140 : decode cX10_worked 140 = .ok (.getfield 28, 3) := by decide +kernel
theorem dX10_worked_143 : decode cX10_worked 143 = .ok (.iload_n 3, 1) := by decide +kernel
theorem dX10_worked_144 : decode cX10_worked 144 = .ok (.iconst 1, 1) := by decide +kernel
theorem dX10_worked_145 : decode cX10_worked 145 = .ok (.isub, 1) := by decide +kernel
theorem dX10_worked_146 : decode cX10_worked 146 = .ok (.iaload, 1) := by decide +kernel
theorem dX10_worked_147 : decode cX10_worked 147 = .ok (.aload_n 0, 1) := by decide +kernel
theorem dX10_worked_148 : decode cX10_worked 148 = .ok (.getfield 28, 3) := by decide +kernel
theorem dX10_worked_151 : decode cX10_worked 151 = .ok (.iload_n 3, 1) := by decide +kernel
theorem dX10_worked_152 : decode cX10_worked 152 = .ok (.iaload, 1) := by decide +kernel
theorem dX10_worked_153 : decode cX10_worked 153 = .ok (.invokestatic 107, 3) := by decide +kernel
theorem dX10_worked_156 : decode cX10_worked 156 = .ok (.iastore, 1) := by decide +kernel
theorem dX10_worked_157 : decode cX10_worked 157 = .ok (.iinc 4 1, 3) := by decide +kernel
theorem dX10_worked_160 : decode cX10_worked 160 = .ok (.goto (-147), 3) := by decide +kernel
theorem dX10_worked_163 : decode cX10_worked 163 = .ok (.aload_n 0, 1) := by decide +kernel
theorem dX10_worked_164 : decode cX10_worked 164 = .ok (.getfield 28, 3) := by decide +kernel
theorem dX10_worked_167 : decode cX10_worked 167 = .ok (.iconst 0, 1) := by decide +kernel
theorem dX10_worked_168 : decode cX10_worked 168 = .ok (.iaload, 1) := by decide +kernel
theorem dX10_worked_169 : decode cX10_worked 169 = .ok (.ireturn, 1) := by decide +kernel
theorem dX10_blinksNow_0 : decode cX10_blinksNow 0 = .ok (.aload_n 0, 1) := by decide +kernel
theorem dX10_blinksNow_1 : decode cX10_blinksNow 1 = .ok (.getfield 7, 3) := by decide +kernel
theorem dX10_blinksNow_4 : decode cX10_blinksNow 4 = .ok (.iconst 0, 1) := by decide +kernel
theorem dX10_blinksNow_5 : decode cX10_blinksNow 5 = .ok (.iaload, 1) := by decide +kernel
theorem dX10_blinksNow_6 : decode cX10_blinksNow 6 = .ok (.istore_n 2, 1) := by decide +kernel
theorem dX10_blinksNow_7 : decode cX10_blinksNow 7 = .ok (.aload_n 0, 1) := by decide +kernel
theorem dX10_blinksNow_8 : decode cX10_blinksNow 8 = .ok (.iload_n 1, 1) := by decide +kernel
theorem dX10_blinksNow_9 : decode cX10_blinksNow 9 = .ok (.iconst 1, 1) := by decide +kernel
theorem dX10_blinksNow_10 : decode cX10_blinksNow 10 = .ok (.invokevirtual 111, 3) := by decide +kernel
theorem dX10_blinksNow_13 : decode cX10_blinksNow 13 = .ok (.istore_n 3, 1) := by decide +kernel
theorem dX10_blinksNow_14 : decode cX10_blinksNow 14 = .ok (.iload_n 2, 1) := by decide +kernel
theorem dX10_blinksNow_15 : decode cX10_blinksNow 15 = .ok (.aload_n 0, 1) := by decide +kernel
theorem dX10_blinksNow_16 : decode cX10_blinksNow 16 = .ok (.iload_n 1, 1) := by decide +kernel
theorem dX10_blinksNow_17 : decode cX10_blinksNow 17 = .ok (.iconst 3, 1) := by decide +kernel
theorem dX10_blinksNow_18 : decode cX10_blinksNow 18 = .ok (.invokevirtual 111, 3) := by decide +kernel
theorem dX10_blinksNow_21 : decode cX10_blinksNow 21 = .ok (.iadd, 1) := by decide +kernel
theorem dX10_blinksNow_22 : decode cX10_blinksNow 22 = .ok (.aload_n 0, 1) := by decide +kernel
theorem dX10_blinksNow_23 : decode cX10_blinksNow 23 = .ok (.iload_n 1, 1) := by decide +kernel
theorem dX10_blinksNow_24 : decode cX10_blinksNow 24 = .ok (.iconst 2, 1) := by decide +kernel
theorem dX10_blinksNow_25 : decode cX10_blinksNow 25 = .ok (.invokevirtual 111, 3) := by decide +kernel
theorem dX10_blinksNow_28 : decode cX10_blinksNow 28 = .ok (.irem, 1) := by decide +kernel
theorem dX10_blinksNow_29 : decode cX10_blinksNow 29 = .ok (.istore 4, 2) := by decide +kernel
theorem dX10_blinksNow_31 : decode cX10_blinksNow 31 = .ok (.iload 4, 2) := by decide +kernel
theorem dX10_blinksNow_33 : decode cX10_blinksNow 33 = .ok (.ifCond .ne 16, 3) := by decide +kernel
theorem dX10_blinksNow_36 : decode cX10_blinksNow 36 = .ok (.iload_n 2, 1) := by decide +kernel
theorem dX10_blinksNow_37 : decode cX10_blinksNow 37 = .ok (.iconst 3, 1) := by decide +kernel
theorem dX10_blinksNow_38 : decode cX10_blinksNow 38 = .ok (.irem, 1) := by decide +kernel
theorem dX10_blinksNow_39 : decode cX10_blinksNow 39 = .ok (.iload_n 3, 1) := by decide +kernel
theorem dX10_blinksNow_40 : decode cX10_blinksNow 40 = .ok (.iconst 3, 1) := by decide +kernel
theorem dX10_blinksNow_41 : decode cX10_blinksNow 41 = .ok (.irem, 1) := by decide +kernel
theorem dX10_blinksNow_42 : decode cX10_blinksNow 42 = .ok (.if_icmp .eq 7, 3) := by decide +kernel
theorem dX10_blinksNow_45 : decode cX10_blinksNow 45 = .ok (.iconst 1, 1) := by decide +kernel
theorem dX10_blinksNow_46 : decode cX10_blinksNow 46 = .ok (.goto 4, 3) := by decide +kernel
theorem dX10_blinksNow_49 : decode cX10_blinksNow 49 = .ok (.iconst 0, 1) := by decide +kernel
theorem dX10_blinksNow_50 : decode cX10_blinksNow 50 = .ok (.istore 5, 2) := by decide +kernel
theorem dX10_blinksNow_52 : decode cX10_blinksNow 52 = .ok (.aload_n 0, 1) := by decide +kernel
theorem dX10_blinksNow_53 : decode cX10_blinksNow 53 = .ok (.iload_n 1, 1) := by decide +kernel
theorem dX10_blinksNow_54 : decode cX10_blinksNow 54 = .ok (.iconst 0, 1) := by decide +kernel
theorem dX10_blinksNow_55 : decode cX10_blinksNow 55 = .ok (.invokevirtual 111, 3) := by decide +kernel
theorem dX10_blinksNow_58 : decode cX10_blinksNow 58 = .ok (.tableswitch 107 2 6 #[34, 37, 49, 68, 85], 34) := by decide +kernel
theorem dX10_blinksNow_92 : decode cX10_blinksNow 92 = .ok (.iload 5, 2) := by decide +kernel
theorem dX10_blinksNow_94 : decode cX10_blinksNow 94 = .ok (.ireturn, 1) := by decide +kernel
theorem dX10_blinksNow_95 : decode cX10_blinksNow 95 = .ok (.iload 4, 2) := by decide +kernel
theorem dX10_blinksNow_97 : decode cX10_blinksNow 97 = .ok (.iconst 2, 1) := by decide +kernel
theorem dX10_blinksNow_98 : decode cX10_blinksNow 98 = .ok (.if_icmp .ge 7, 3) := by decide +kernel
theorem dX10_blinksNow_101 : decode cX10_blinksNow 101 = .ok (.iconst 1, 1) := by decide +kernel
theorem dX10_blinksNow_102 : decode cX10_blinksNow 102 = .ok (.goto 4, 3) := by decide +kernel
theorem dX10_blinksNow_105 : decode cX10_blinksNow 105 = .ok (.iconst 0, 1) := by decide +kernel
theorem dX10_blinksNow_106 : decode cX10_blinksNow 106 = .ok (.ireturn, 1) := by decide +kernel
theorem dX10_blinksNow_107 : decode cX10_blinksNow 107 = .ok (.iload 4, 2) := by decide +kernel
theorem dX10_blinksNow_109 : decode cX10_blinksNow 109 = .ok (.ifCond .eq 11, 3) := by decide +kernel
theorem dX10_blinksNow_112 : decode cX10_blinksNow 112 = .ok (.iload_n 2, 1) := by decide +kernel
theorem dX10_blinksNow_113 : decode cX10_blinksNow 113 = .ok (.bipush 12, 2) := by decide +kernel
theorem dX10_blinksNow_115 : decode cX10_blinksNow 115 = .ok (.irem, 1) := by decide +kernel
theorem dX10_blinksNow_116 : decode cX10_blinksNow 116 = .ok (.iload_n 3, 1) := by decide +kernel
theorem dX10_blinksNow_117 : decode cX10_blinksNow 117 = .ok (.if_icmp .ne 7, 3) := by decide +kernel
theorem dX10_blinksNow_120 : decode cX10_blinksNow 120 = .ok (.iconst 1, 1) := by decide +kernel
theorem dX10_blinksNow_121 : decode cX10_blinksNow 121 = .ok (.goto 4, 3) := by decide +kernel
theorem dX10_blinksNow_124 : decode cX10_blinksNow 124 = .ok (.iconst 0, 1) := by decide +kernel
theorem dX10_blinksNow_125 : decode cX10_blinksNow 125 = .ok (.ireturn, 1) := by decide +kernel
theorem dX10_blinksNow_126 : decode cX10_blinksNow 126 = .ok (.iload 5, 2) := by decide +kernel
theorem dX10_blinksNow_128 : decode cX10_blinksNow 128 = .ok (.ifCond .eq 13, 3) := by decide +kernel
theorem dX10_blinksNow_131 : decode cX10_blinksNow 131 = .ok (.iload_n 3, 1) := by decide +kernel
theorem dX10_blinksNow_132 : decode cX10_blinksNow 132 = .ok (.bipush 6, 2) := by decide +kernel
theorem dX10_blinksNow_134 : decode cX10_blinksNow 134 = .ok (.if_icmp .le 7, 3) := by decide +kernel
theorem dX10_blinksNow_137 : decode cX10_blinksNow 137 = .ok (.iconst 1, 1) := by decide +kernel
theorem dX10_blinksNow_138 : decode cX10_blinksNow 138 = .ok (.goto 4, 3) := by decide +kernel
theorem dX10_blinksNow_141 : decode cX10_blinksNow 141 = .ok (.iconst 0, 1) := by decide +kernel
theorem dX10_blinksNow_142 : decode cX10_blinksNow 142 = .ok (.ireturn, 1) := by decide +kernel
theorem dX10_blinksNow_143 : decode cX10_blinksNow 143 = .ok (.iload 4, 2) := by decide +kernel
theorem dX10_blinksNow_145 : decode cX10_blinksNow 145 = .ok (.ifCond .eq 14, 3) := by decide +kernel
theorem dX10_blinksNow_148 : decode cX10_blinksNow 148 = .ok (.iload_n 2, 1) := by decide +kernel
theorem dX10_blinksNow_149 : decode cX10_blinksNow 149 = .ok (.bipush 7, 2) := by decide +kernel
theorem dX10_blinksNow_151 : decode cX10_blinksNow 151 = .ok (.irem, 1) := by decide +kernel
theorem dX10_blinksNow_152 : decode cX10_blinksNow 152 = .ok (.iload_n 3, 1) := by decide +kernel
theorem dX10_blinksNow_153 : decode cX10_blinksNow 153 = .ok (.bipush 7, 2) := by decide +kernel
theorem dX10_blinksNow_155 : decode cX10_blinksNow 155 = .ok (.irem, 1) := by decide +kernel
theorem dX10_blinksNow_156 : decode cX10_blinksNow 156 = .ok (.if_icmp .ne 7, 3) := by decide +kernel
theorem dX10_blinksNow_159 : decode cX10_blinksNow 159 = .ok (.iconst 1, 1) := by decide +kernel
theorem dX10_blinksNow_160 : decode cX10_blinksNow 160 = .ok (.goto 4, 3) := by decide +kernel
theorem dX10_blinksNow_163 : decode cX10_blinksNow 163 = .ok (.iconst 0, 1) := by decide +kernel
theorem dX10_blinksNow_164 : decode cX10_blinksNow 164 = .ok (.ireturn, 1) := by decide +kernel
theorem dX10_blinksNow_165 : decode cX10_blinksNow 165 = .ok (.iload 4, 2) := by decide +kernel
theorem dX10_blinksNow_167 : decode cX10_blinksNow 167 = .ok (.ifCond .ne 7, 3) := by decide +kernel
theorem dX10_blinksNow_170 : decode cX10_blinksNow 170 = .ok (.iconst 1, 1) := by decide +kernel
theorem dX10_blinksNow_171 : decode cX10_blinksNow 171 = .ok (.goto 4, 3) := by decide +kernel
theorem dX10_blinksNow_174 : decode cX10_blinksNow 174 = .ok (.iconst 0, 1) := by decide +kernel
theorem dX10_blinksNow_175 : decode cX10_blinksNow 175 = .ok (.ireturn, 1) := by decide +kernel
theorem dX10_triesOf_0 : decode cX10_triesOf 0 = .ok (.iconst 2, 1) := by decide +kernel
theorem dX10_triesOf_1 : decode cX10_triesOf 1 = .ok (.aload_n 0, 1) := by decide +kernel
theorem dX10_triesOf_2 : decode cX10_triesOf 2 = .ok (.iload_n 1, 1) := by decide +kernel
theorem dX10_triesOf_3 : decode cX10_triesOf 3 = .ok (.iconst 1, 1) := by decide +kernel
theorem dX10_triesOf_4 : decode cX10_triesOf 4 = .ok (.invokevirtual 111, 3) := by decide +kernel
theorem dX10_triesOf_7 : decode cX10_triesOf 7 = .ok (.iconst 5, 1) := by decide +kernel
theorem dX10_triesOf_8 : decode cX10_triesOf 8 = .ok (.idiv, 1) := by decide +kernel
theorem dX10_triesOf_9 : decode cX10_triesOf 9 = .ok (.iadd, 1) := by decide +kernel
theorem dX10_triesOf_10 : decode cX10_triesOf 10 = .ok (.istore_n 2, 1) := by decide +kernel
theorem dX10_triesOf_11 : decode cX10_triesOf 11 = .ok (.aload_n 0, 1) := by decide +kernel
theorem dX10_triesOf_12 : decode cX10_triesOf 12 = .ok (.iload_n 1, 1) := by decide +kernel
theorem dX10_triesOf_13 : decode cX10_triesOf 13 = .ok (.iconst 0, 1) := by decide +kernel
theorem dX10_triesOf_14 : decode cX10_triesOf 14 = .ok (.invokevirtual 111, 3) := by decide +kernel
theorem dX10_triesOf_17 : decode cX10_triesOf 17 = .ok (.tableswitch 58 1 6 #[39, 58, 41, 50, 54, 56], 39) := by decide +kernel
theorem dX10_triesOf_56 : decode cX10_triesOf 56 = .ok (.iload_n 2, 1) := by decide +kernel
theorem dX10_triesOf_57 : decode cX10_triesOf 57 = .ok (.ireturn, 1) := by decide +kernel
theorem dX10_triesOf_58 : decode cX10_triesOf 58 = .ok (.iconst 1, 1) := by decide +kernel
theorem dX10_triesOf_59 : decode cX10_triesOf 59 = .ok (.aload_n 0, 1) := by decide +kernel
theorem dX10_triesOf_60 : decode cX10_triesOf 60 = .ok (.getfield 7, 3) := by decide +kernel
theorem dX10_triesOf_63 : decode cX10_triesOf 63 = .ok (.iconst 5, 1) := by decide +kernel
theorem dX10_triesOf_64 : decode cX10_triesOf 64 = .ok (.iaload, 1) := by decide +kernel
theorem dX10_triesOf_65 : decode cX10_triesOf 65 = .ok (.iadd, 1) := by decide +kernel
theorem dX10_triesOf_66 : decode cX10_triesOf 66 = .ok (.ireturn, 1) := by decide +kernel
theorem dX10_triesOf_67 : decode cX10_triesOf 67 = .ok (.iconst 2, 1) := by decide +kernel
theorem dX10_triesOf_68 : decode cX10_triesOf 68 = .ok (.iload_n 2, 1) := by decide +kernel
theorem dX10_triesOf_69 : decode cX10_triesOf 69 = .ok (.imul, 1) := by decide +kernel
theorem dX10_triesOf_70 : decode cX10_triesOf 70 = .ok (.ireturn, 1) := by decide +kernel
theorem dX10_triesOf_71 : decode cX10_triesOf 71 = .ok (.iconst 4, 1) := by decide +kernel
theorem dX10_triesOf_72 : decode cX10_triesOf 72 = .ok (.ireturn, 1) := by decide +kernel
theorem dX10_triesOf_73 : decode cX10_triesOf 73 = .ok (.iconst 0, 1) := by decide +kernel
theorem dX10_triesOf_74 : decode cX10_triesOf 74 = .ok (.ireturn, 1) := by decide +kernel
theorem dX10_triesOf_75 : decode cX10_triesOf 75 = .ok (.iconst 1, 1) := by decide +kernel
theorem dX10_triesOf_76 : decode cX10_triesOf 76 = .ok (.ireturn, 1) := by decide +kernel
theorem dX10_shutTold_0 : decode cX10_shutTold 0 = .ok (.aload_n 0, 1) := by decide +kernel
theorem dX10_shutTold_1 : decode cX10_shutTold 1 = .ok (.getfield 25, 3) := by decide +kernel
theorem dX10_shutTold_4 : decode cX10_shutTold 4 = .ok (.bipush 114, 2) := by decide +kernel
theorem dX10_shutTold_6 : decode cX10_shutTold 6 = .ok (.iload_n 1, 1) := by decide +kernel
theorem dX10_shutTold_7 : decode cX10_shutTold 7 = .ok (.iastore, 1) := by decide +kernel
theorem dX10_shutTold_8 : decode cX10_shutTold 8 = .ok (.aload_n 0, 1) := by decide +kernel
theorem dX10_shutTold_9 : decode cX10_shutTold 9 = .ok (.getfield 25, 3) := by decide +kernel
theorem dX10_shutTold_12 : decode cX10_shutTold 12 = .ok (.bipush 115, 2) := by decide +kernel
theorem dX10_shutTold_14 : decode cX10_shutTold 14 = .ok (.iload_n 2, 1) := by decide +kernel
theorem dX10_shutTold_15 : decode cX10_shutTold 15 = .ok (.iastore, 1) := by decide +kernel
theorem dX10_shutTold_16 : decode cX10_shutTold 16 = .ok (.aload_n 0, 1) := by decide +kernel
theorem dX10_shutTold_17 : decode cX10_shutTold 17 = .ok (.getfield 25, 3) := by decide +kernel
theorem dX10_shutTold_20 : decode cX10_shutTold 20 = .ok (.bipush 116, 2) := by decide +kernel
theorem dX10_shutTold_22 : decode cX10_shutTold 22 = .ok (.iload_n 3, 1) := by decide +kernel
theorem dX10_shutTold_23 : decode cX10_shutTold 23 = .ok (.iastore, 1) := by decide +kernel
theorem dX10_shutTold_24 : decode cX10_shutTold 24 = .ok (.aload_n 0, 1) := by decide +kernel
theorem dX10_shutTold_25 : decode cX10_shutTold 25 = .ok (.iconst 0, 1) := by decide +kernel
theorem dX10_shutTold_26 : decode cX10_shutTold 26 = .ok (.invokevirtual 104, 3) := by decide +kernel
theorem dX10_shutTold_29 : decode cX10_shutTold 29 = .ok (.ifCond .eq 11, 3) := by decide +kernel
theorem dX10_shutTold_32 : decode cX10_shutTold 32 = .ok (.aload_n 0, 1) := by decide +kernel
theorem dX10_shutTold_33 : decode cX10_shutTold 33 = .ok (.iconst 0, 1) := by decide +kernel
theorem dX10_shutTold_34 : decode cX10_shutTold 34 = .ok (.invokevirtual 115, 3) := by decide +kernel
theorem dX10_shutTold_37 : decode cX10_shutTold 37 = .ok (.goto 4, 3) := by decide +kernel
theorem dX10_shutTold_40 : decode cX10_shutTold 40 = .ok (.iload_n 2, 1) := by decide +kernel
theorem dX10_shutTold_41 : decode cX10_shutTold 41 = .ok (.iconst 0, 1) := by decide +kernel
theorem dX10_shutTold_42 : decode cX10_shutTold 42 = .ok (.iconst 1, 1) := by decide +kernel
theorem dX10_shutTold_43 : decode cX10_shutTold 43 = .ok (.invokestatic 118, 3) := by decide +kernel
theorem dX10_shutTold_46 : decode cX10_shutTold 46 = .ok (.ireturn, 1) := by decide +kernel
theorem dX10_onTold_0 : decode cX10_onTold 0 = .ok (.aload_n 0, 1) := by decide +kernel
theorem dX10_onTold_1 : decode cX10_onTold 1 = .ok (.getfield 25, 3) := by decide +kernel
theorem dX10_onTold_4 : decode cX10_onTold 4 = .ok (.bipush 112, 2) := by decide +kernel
theorem dX10_onTold_6 : decode cX10_onTold 6 = .ok (.iload_n 1, 1) := by decide +kernel
theorem dX10_onTold_7 : decode cX10_onTold 7 = .ok (.iastore, 1) := by decide +kernel
theorem dX10_onTold_8 : decode cX10_onTold 8 = .ok (.aload_n 0, 1) := by decide +kernel
theorem dX10_onTold_9 : decode cX10_onTold 9 = .ok (.getfield 25, 3) := by decide +kernel
theorem dX10_onTold_12 : decode cX10_onTold 12 = .ok (.bipush 111, 2) := by decide +kernel
theorem dX10_onTold_14 : decode cX10_onTold 14 = .ok (.iload_n 2, 1) := by decide +kernel
theorem dX10_onTold_15 : decode cX10_onTold 15 = .ok (.iastore, 1) := by decide +kernel
theorem dX10_onTold_16 : decode cX10_onTold 16 = .ok (.aload_n 0, 1) := by decide +kernel
theorem dX10_onTold_17 : decode cX10_onTold 17 = .ok (.getfield 25, 3) := by decide +kernel
theorem dX10_onTold_20 : decode cX10_onTold 20 = .ok (.bipush 108, 2) := by decide +kernel
theorem dX10_onTold_22 : decode cX10_onTold 22 = .ok (.iload_n 3, 1) := by decide +kernel
theorem dX10_onTold_23 : decode cX10_onTold 23 = .ok (.iastore, 1) := by decide +kernel
theorem dX10_onTold_24 : decode cX10_onTold 24 = .ok (.aload_n 0, 1) := by decide +kernel
theorem dX10_onTold_25 : decode cX10_onTold 25 = .ok (.iconst 1, 1) := by decide +kernel
theorem dX10_onTold_26 : decode cX10_onTold 26 = .ok (.invokevirtual 104, 3) := by decide +kernel
theorem dX10_onTold_29 : decode cX10_onTold 29 = .ok (.ifCond .eq 11, 3) := by decide +kernel
theorem dX10_onTold_32 : decode cX10_onTold 32 = .ok (.aload_n 0, 1) := by decide +kernel
theorem dX10_onTold_33 : decode cX10_onTold 33 = .ok (.iconst 1, 1) := by decide +kernel
theorem dX10_onTold_34 : decode cX10_onTold 34 = .ok (.invokevirtual 115, 3) := by decide +kernel
theorem dX10_onTold_37 : decode cX10_onTold 37 = .ok (.goto 4, 3) := by decide +kernel
theorem dX10_onTold_40 : decode cX10_onTold 40 = .ok (.iload_n 1, 1) := by decide +kernel
theorem dX10_onTold_41 : decode cX10_onTold 41 = .ok (.iconst 0, 1) := by decide +kernel
theorem dX10_onTold_42 : decode cX10_onTold 42 = .ok (.bipush 9, 2) := by decide +kernel
theorem dX10_onTold_44 : decode cX10_onTold 44 = .ok (.invokestatic 118, 3) := by decide +kernel
theorem dX10_onTold_47 : decode cX10_onTold 47 = .ok (.ireturn, 1) := by decide +kernel
theorem dX10_shutOf_0 : decode cX10_shutOf 0 = .ok (.aload_n 0, 1) := by decide +kernel
theorem dX10_shutOf_1 : decode cX10_shutOf 1 = .ok (.getfield 7, 3) := by decide +kernel
theorem dX10_shutOf_4 : decode cX10_shutOf 4 = .ok (.iconst 0, 1) := by decide +kernel
theorem dX10_shutOf_5 : decode cX10_shutOf 5 = .ok (.iaload, 1) := by decide +kernel
theorem dX10_shutOf_6 : decode cX10_shutOf 6 = .ok (.aload_n 0, 1) := by decide +kernel
theorem dX10_shutOf_7 : decode cX10_shutOf 7 = .ok (.iload_n 1, 1) := by decide +kernel
theorem dX10_shutOf_8 : decode cX10_shutOf 8 = .ok (.iconst 3, 1) := by decide +kernel
theorem dX10_shutOf_9 : decode cX10_shutOf 9 = .ok (.invokevirtual 111, 3) := by decide +kernel
theorem dX10_shutOf_12 : decode cX10_shutOf 12 = .ok (.iadd, 1) := by decide +kernel
theorem dX10_shutOf_13 : decode cX10_shutOf 13 = .ok (.aload_n 0, 1) := by decide +kernel
theorem dX10_shutOf_14 : decode cX10_shutOf 14 = .ok (.iload_n 1, 1) := by decide +kernel
theorem dX10_shutOf_15 : decode cX10_shutOf 15 = .ok (.iconst 2, 1) := by decide +kernel
theorem dX10_shutOf_16 : decode cX10_shutOf 16 = .ok (.invokevirtual 111, 3) := by decide +kernel
theorem dX10_shutOf_19 : decode cX10_shutOf 19 = .ok (.irem, 1) := by decide +kernel
theorem dX10_shutOf_20 : decode cX10_shutOf 20 = .ok (.istore_n 2, 1) := by decide +kernel
theorem dX10_shutOf_21 : decode cX10_shutOf 21 = .ok (.aload_n 0, 1) := by decide +kernel
theorem dX10_shutOf_22 : decode cX10_shutOf 22 = .ok (.iload_n 2, 1) := by decide +kernel
theorem dX10_shutOf_23 : decode cX10_shutOf 23 = .ok (.aload_n 0, 1) := by decide +kernel
theorem dX10_shutOf_24 : decode cX10_shutOf 24 = .ok (.iload_n 1, 1) := by decide +kernel
theorem dX10_shutOf_25 : decode cX10_shutOf 25 = .ok (.invokevirtual 121, 3) := by decide +kernel
theorem dX10_shutOf_28 : decode cX10_shutOf 28 = .ok (.ifCond .eq 7, 3) := by decide +kernel
theorem dX10_shutOf_31 : decode cX10_shutOf 31 = .ok (.iconst 1, 1) := by decide +kernel
theorem dX10_shutOf_32 : decode cX10_shutOf 32 = .ok (.goto 4, 3) := by decide +kernel
theorem dX10_shutOf_35 : decode cX10_shutOf 35 = .ok (.iconst 0, 1) := by decide +kernel
theorem dX10_shutOf_36 : decode cX10_shutOf 36 = .ok (.aload_n 0, 1) := by decide +kernel
theorem dX10_shutOf_37 : decode cX10_shutOf 37 = .ok (.getfield 7, 3) := by decide +kernel
theorem dX10_shutOf_40 : decode cX10_shutOf 40 = .ok (.iconst 0, 1) := by decide +kernel
theorem dX10_shutOf_41 : decode cX10_shutOf 41 = .ok (.iaload, 1) := by decide +kernel
theorem dX10_shutOf_42 : decode cX10_shutOf 42 = .ok (.bipush 24, 2) := by decide +kernel
theorem dX10_shutOf_44 : decode cX10_shutOf 44 = .ok (.irem, 1) := by decide +kernel
theorem dX10_shutOf_45 : decode cX10_shutOf 45 = .ok (.invokevirtual 124, 3) := by decide +kernel
theorem dX10_shutOf_48 : decode cX10_shutOf 48 = .ok (.ireturn, 1) := by decide +kernel
theorem dX10_shutNow_0 : decode cX10_shutNow 0 = .ok (.iconst 0, 1) := by decide +kernel
theorem dX10_shutNow_1 : decode cX10_shutNow 1 = .ok (.istore_n 1, 1) := by decide +kernel
theorem dX10_shutNow_2 : decode cX10_shutNow 2 = .ok (.iconst 0, 1) := by decide +kernel
theorem dX10_shutNow_3 : decode cX10_shutNow 3 = .ok (.istore_n 2, 1) := by decide +kernel
theorem dX10_shutNow_4 : decode cX10_shutNow 4 = .ok (.iload_n 2, 1) := by decide +kernel
theorem dX10_shutNow_5 : decode cX10_shutNow 5 = .ok (.aload_n 0, 1) := by decide +kernel
theorem dX10_shutNow_6 : decode cX10_shutNow 6 = .ok (.getfield 7, 3) := by decide +kernel
theorem dX10_shutNow_9 : decode cX10_shutNow 9 = .ok (.iconst 4, 1) := by decide +kernel
theorem dX10_shutNow_10 : decode cX10_shutNow 10 = .ok (.iaload, 1) := by decide +kernel
theorem dX10_shutNow_11 : decode cX10_shutNow 11 = .ok (.if_icmp .ge 19, 3) := by decide +kernel
theorem dX10_shutNow_14 : decode cX10_shutNow 14 = .ok (.iload_n 1, 1) := by decide +kernel
theorem dX10_shutNow_15 : decode cX10_shutNow 15 = .ok (.aload_n 0, 1) := by decide +kernel
theorem dX10_shutNow_16 : decode cX10_shutNow 16 = .ok (.iload_n 2, 1) := by decide +kernel
theorem dX10_shutNow_17 : decode cX10_shutNow 17 = .ok (.invokevirtual 127, 3) := by decide +kernel
theorem dX10_shutNow_20 : decode cX10_shutNow 20 = .ok (.iload_n 2, 1) := by decide +kernel
theorem dX10_shutNow_21 : decode cX10_shutNow 21 = .ok (.ishl, 1) := by decide +kernel
theorem dX10_shutNow_22 : decode cX10_shutNow 22 = .ok (.ior, 1) := by decide +kernel
theorem dX10_shutNow_23 : decode cX10_shutNow 23 = .ok (.istore_n 1, 1) := by decide +kernel
theorem dX10_shutNow_24 : decode cX10_shutNow 24 = .ok (.iinc 2 1, 3) := by decide +kernel
theorem dX10_shutNow_27 : decode cX10_shutNow 27 = .ok (.goto (-23), 3) := by decide +kernel
theorem dX10_shutNow_30 : decode cX10_shutNow 30 = .ok (.iload_n 1, 1) := by decide +kernel
theorem dX10_shutNow_31 : decode cX10_shutNow 31 = .ok (.ireturn, 1) := by decide +kernel
theorem dX10_onBy_0 : decode cX10_onBy 0 = .ok (.aload_n 0, 1) := by decide +kernel
theorem dX10_onBy_1 : decode cX10_onBy 1 = .ok (.iload_n 1, 1) := by decide +kernel
theorem dX10_onBy_2 : decode cX10_onBy 2 = .ok (.iconst 0, 1) := by decide +kernel
theorem dX10_onBy_3 : decode cX10_onBy 3 = .ok (.invokevirtual 130, 3) := by decide +kernel
theorem dX10_onBy_6 : decode cX10_onBy 6 = .ok (.istore_n 3, 1) := by decide +kernel
theorem dX10_onBy_7 : decode cX10_onBy 7 = .ok (.aload_n 0, 1) := by decide +kernel
theorem dX10_onBy_8 : decode cX10_onBy 8 = .ok (.aload_n 0, 1) := by decide +kernel
theorem dX10_onBy_9 : decode cX10_onBy 9 = .ok (.iload_n 3, 1) := by decide +kernel
theorem dX10_onBy_10 : decode cX10_onBy 10 = .ok (.invokevirtual 133, 3) := by decide +kernel
theorem dX10_onBy_13 : decode cX10_onBy 13 = .ok (.iload_n 2, 1) := by decide +kernel
theorem dX10_onBy_14 : decode cX10_onBy 14 = .ok (.iconst 1, 1) := by decide +kernel
theorem dX10_onBy_15 : decode cX10_onBy 15 = .ok (.iload_n 3, 1) := by decide +kernel
theorem dX10_onBy_16 : decode cX10_onBy 16 = .ok (.ishl, 1) := by decide +kernel
theorem dX10_onBy_17 : decode cX10_onBy 17 = .ok (.iconst (-1), 1) := by decide +kernel
theorem dX10_onBy_18 : decode cX10_onBy 18 = .ok (.ixor, 1) := by decide +kernel
theorem dX10_onBy_19 : decode cX10_onBy 19 = .ok (.iand, 1) := by decide +kernel
theorem dX10_onBy_20 : decode cX10_onBy 20 = .ok (.invokestatic 136, 3) := by decide +kernel
theorem dX10_onBy_23 : decode cX10_onBy 23 = .ok (.aload_n 0, 1) := by decide +kernel
theorem dX10_onBy_24 : decode cX10_onBy 24 = .ok (.iload_n 1, 1) := by decide +kernel
theorem dX10_onBy_25 : decode cX10_onBy 25 = .ok (.iconst 1, 1) := by decide +kernel
theorem dX10_onBy_26 : decode cX10_onBy 26 = .ok (.invokevirtual 130, 3) := by decide +kernel
theorem dX10_onBy_29 : decode cX10_onBy 29 = .ok (.invokevirtual 139, 3) := by decide +kernel
theorem dX10_onBy_32 : decode cX10_onBy 32 = .ok (.ireturn, 1) := by decide +kernel
theorem dX10_getsOn_0 : decode cX10_getsOn 0 = .ok (.aload_n 0, 1) := by decide +kernel
theorem dX10_getsOn_1 : decode cX10_getsOn 1 = .ok (.iload_n 1, 1) := by decide +kernel
theorem dX10_getsOn_2 : decode cX10_getsOn 2 = .ok (.iconst 1, 1) := by decide +kernel
theorem dX10_getsOn_3 : decode cX10_getsOn 3 = .ok (.invokevirtual 130, 3) := by decide +kernel
theorem dX10_getsOn_6 : decode cX10_getsOn 6 = .ok (.istore_n 3, 1) := by decide +kernel
theorem dX10_getsOn_7 : decode cX10_getsOn 7 = .ok (.iload_n 3, 1) := by decide +kernel
theorem dX10_getsOn_8 : decode cX10_getsOn 8 = .ok (.ifCond .eq 16, 3) := by decide +kernel
theorem dX10_getsOn_11 : decode cX10_getsOn 11 = .ok (.aload_n 0, 1) := by decide +kernel
theorem dX10_getsOn_12 : decode cX10_getsOn 12 = .ok (.iload_n 1, 1) := by decide +kernel
theorem dX10_getsOn_13 : decode cX10_getsOn 13 = .ok (.iconst 2, 1) := by decide +kernel
theorem dX10_getsOn_14 : decode cX10_getsOn 14 = .ok (.invokevirtual 130, 3) := by decide +kernel
theorem dX10_getsOn_17 : decode cX10_getsOn 17 = .ok (.iload_n 2, 1) := by decide +kernel
theorem dX10_getsOn_18 : decode cX10_getsOn 18 = .ok (.iconst (-1), 1) := by decide +kernel
theorem dX10_getsOn_19 : decode cX10_getsOn 19 = .ok (.ixor, 1) := by decide +kernel
theorem dX10_getsOn_20 : decode cX10_getsOn 20 = .ok (.iand, 1) := by decide +kernel
theorem dX10_getsOn_21 : decode cX10_getsOn 21 = .ok (.ifCond .eq 5, 3) := by decide +kernel
theorem dX10_getsOn_24 : decode cX10_getsOn 24 = .ok (.iconst 0, 1) := by decide +kernel
theorem dX10_getsOn_25 : decode cX10_getsOn 25 = .ok (.ireturn, 1) := by decide +kernel
theorem dX10_getsOn_26 : decode cX10_getsOn 26 = .ok (.aload_n 0, 1) := by decide +kernel
theorem dX10_getsOn_27 : decode cX10_getsOn 27 = .ok (.iload_n 1, 1) := by decide +kernel
theorem dX10_getsOn_28 : decode cX10_getsOn 28 = .ok (.iconst 1, 1) := by decide +kernel
theorem dX10_getsOn_29 : decode cX10_getsOn 29 = .ok (.iload_n 3, 1) := by decide +kernel
theorem dX10_getsOn_30 : decode cX10_getsOn 30 = .ok (.aload_n 0, 1) := by decide +kernel
theorem dX10_getsOn_31 : decode cX10_getsOn 31 = .ok (.iload_n 1, 1) := by decide +kernel
theorem dX10_getsOn_32 : decode cX10_getsOn 32 = .ok (.iload_n 2, 1) := by decide +kernel
theorem dX10_getsOn_33 : decode cX10_getsOn 33 = .ok (.invokevirtual 142, 3) := by decide +kernel
theorem dX10_getsOn_36 : decode cX10_getsOn 36 = .ok (.isub, 1) := by decide +kernel
theorem dX10_getsOn_37 : decode cX10_getsOn 37 = .ok (.iconst 0, 1) := by decide +kernel
theorem dX10_getsOn_38 : decode cX10_getsOn 38 = .ok (.bipush 99, 2) := by decide +kernel
theorem dX10_getsOn_40 : decode cX10_getsOn 40 = .ok (.invokestatic 118, 3) := by decide +kernel
theorem dX10_getsOn_43 : decode cX10_getsOn 43 = .ok (.invokevirtual 145, 3) := by decide +kernel
theorem dX10_getsOn_46 : decode cX10_getsOn 46 = .ok (.aload_n 0, 1) := by decide +kernel
theorem dX10_getsOn_47 : decode cX10_getsOn 47 = .ok (.iload_n 1, 1) := by decide +kernel
theorem dX10_getsOn_48 : decode cX10_getsOn 48 = .ok (.iconst 1, 1) := by decide +kernel
theorem dX10_getsOn_49 : decode cX10_getsOn 49 = .ok (.invokevirtual 130, 3) := by decide +kernel
theorem dX10_getsOn_52 : decode cX10_getsOn 52 = .ok (.ifCond .ne 7, 3) := by decide +kernel
theorem dX10_getsOn_55 : decode cX10_getsOn 55 = .ok (.iconst 1, 1) := by decide +kernel
theorem dX10_getsOn_56 : decode cX10_getsOn 56 = .ok (.goto 4, 3) := by decide +kernel
theorem dX10_getsOn_59 : decode cX10_getsOn 59 = .ok (.iconst 0, 1) := by decide +kernel
theorem dX10_getsOn_60 : decode cX10_getsOn 60 = .ok (.ireturn, 1) := by decide +kernel
theorem dX10_aTick_0 : decode cX10_aTick 0 = .ok (.aload_n 0, 1) := by decide +kernel
theorem dX10_aTick_1 : decode cX10_aTick 1 = .ok (.invokevirtual 149, 3) := by decide +kernel
theorem dX10_aTick_4 : decode cX10_aTick 4 = .ok (.istore_n 1, 1) := by decide +kernel
theorem dX10_aTick_5 : decode cX10_aTick 5 = .ok (.iconst 0, 1) := by decide +kernel
theorem dX10_aTick_6 : decode cX10_aTick 6 = .ok (.istore_n 2, 1) := by decide +kernel
theorem dX10_aTick_7 : decode cX10_aTick 7 = .ok (.iconst 0, 1) := by decide +kernel
theorem dX10_aTick_8 : decode cX10_aTick 8 = .ok (.istore_n 3, 1) := by decide +kernel
theorem dX10_aTick_9 : decode cX10_aTick 9 = .ok (.iload_n 3, 1) := by decide +kernel
theorem dX10_aTick_10 : decode cX10_aTick 10 = .ok (.aload_n 0, 1) := by decide +kernel
theorem dX10_aTick_11 : decode cX10_aTick 11 = .ok (.getfield 7, 3) := by decide +kernel
theorem dX10_aTick_14 : decode cX10_aTick 14 = .ok (.iconst 5, 1) := by decide +kernel
theorem dX10_aTick_15 : decode cX10_aTick 15 = .ok (.iaload, 1) := by decide +kernel
theorem dX10_aTick_16 : decode cX10_aTick 16 = .ok (.if_icmp .ge 26, 3) := by decide +kernel
theorem dX10_aTick_19 : decode cX10_aTick 19 = .ok (.iload_n 2, 1) := by decide +kernel
theorem dX10_aTick_20 : decode cX10_aTick 20 = .ok (.aload_n 0, 1) := by decide +kernel
theorem dX10_aTick_21 : decode cX10_aTick 21 = .ok (.iload_n 3, 1) := by decide +kernel
theorem dX10_aTick_22 : decode cX10_aTick 22 = .ok (.iload_n 1, 1) := by decide +kernel
theorem dX10_aTick_23 : decode cX10_aTick 23 = .ok (.invokevirtual 152, 3) := by decide +kernel
theorem dX10_aTick_26 : decode cX10_aTick 26 = .ok (.ifCond .eq 7, 3) := by decide +kernel
theorem dX10_aTick_29 : decode cX10_aTick 29 = .ok (.iconst 1, 1) := by decide +kernel
theorem dX10_aTick_30 : decode cX10_aTick 30 = .ok (.goto 4, 3) := by decide +kernel
theorem dX10_aTick_33 : decode cX10_aTick 33 = .ok (.iconst 0, 1) := by decide +kernel
theorem dX10_aTick_34 : decode cX10_aTick 34 = .ok (.iadd, 1) := by decide +kernel
theorem dX10_aTick_35 : decode cX10_aTick 35 = .ok (.istore_n 2, 1) := by decide +kernel
theorem dX10_aTick_36 : decode cX10_aTick 36 = .ok (.iinc 3 1, 3) := by decide +kernel
theorem dX10_aTick_39 : decode cX10_aTick 39 = .ok (.goto (-30), 3) := by decide +kernel
theorem dX10_aTick_42 : decode cX10_aTick 42 = .ok (.aload_n 0, 1) := by decide +kernel
theorem dX10_aTick_43 : decode cX10_aTick 43 = .ok (.getfield 7, 3) := by decide +kernel
theorem dX10_aTick_46 : decode cX10_aTick 46 = .ok (.iconst 0, 1) := by decide +kernel
theorem dX10_aTick_47 : decode cX10_aTick 47 = .ok (.dup2, 1) := by decide +kernel
theorem dX10_aTick_48 : decode cX10_aTick 48 = .ok (.iaload, 1) := by decide +kernel
theorem dX10_aTick_49 : decode cX10_aTick 49 = .ok (.iconst 1, 1) := by decide +kernel
theorem dX10_aTick_50 : decode cX10_aTick 50 = .ok (.iadd, 1) := by decide +kernel
theorem dX10_aTick_51 : decode cX10_aTick 51 = .ok (.iastore, 1) := by decide +kernel
theorem dX10_aTick_52 : decode cX10_aTick 52 = .ok (.iload_n 2, 1) := by decide +kernel
theorem dX10_aTick_53 : decode cX10_aTick 53 = .ok (.ireturn, 1) := by decide +kernel
theorem dX10_draw_0 : decode cX10_draw 0 = .ok (.aload_n 0, 1) := by decide +kernel
theorem dX10_draw_1 : decode cX10_draw 1 = .ok (.getfield 7, 3) := by decide +kernel
theorem dX10_draw_4 : decode cX10_draw 4 = .ok (.iconst 1, 1) := by decide +kernel
theorem dX10_draw_5 : decode cX10_draw 5 = .ok (.aload_n 0, 1) := by decide +kernel
theorem dX10_draw_6 : decode cX10_draw 6 = .ok (.getfield 7, 3) := by decide +kernel
theorem dX10_draw_9 : decode cX10_draw 9 = .ok (.iconst 1, 1) := by decide +kernel
theorem dX10_draw_10 : decode cX10_draw 10 = .ok (.iaload, 1) := by decide +kernel
theorem dX10_draw_11 : decode cX10_draw 11 = .ok (.ldc 156, 2) := by decide +kernel
theorem dX10_draw_13 : decode cX10_draw 13 = .ok (.imul, 1) := by decide +kernel
theorem dX10_draw_14 : decode cX10_draw 14 = .ok (.sipush 12345, 3) := by decide +kernel
theorem dX10_draw_17 : decode cX10_draw 17 = .ok (.iadd, 1) := by decide +kernel
theorem dX10_draw_18 : decode cX10_draw 18 = .ok (.iastore, 1) := by decide +kernel
theorem dX10_draw_19 : decode cX10_draw 19 = .ok (.aload_n 0, 1) := by decide +kernel
theorem dX10_draw_20 : decode cX10_draw 20 = .ok (.getfield 7, 3) := by decide +kernel
theorem dX10_draw_23 : decode cX10_draw 23 = .ok (.iconst 1, 1) := by decide +kernel
theorem dX10_draw_24 : decode cX10_draw 24 = .ok (.iaload, 1) := by decide +kernel
theorem dX10_draw_25 : decode cX10_draw 25 = .ok (.bipush 8, 2) := by decide +kernel
theorem dX10_draw_27 : decode cX10_draw 27 = .ok (.iushr, 1) := by decide +kernel
theorem dX10_draw_28 : decode cX10_draw 28 = .ok (.ireturn, 1) := by decide +kernel
theorem dX10_isKind_0 : decode cX10_isKind 0 = .ok (.iload_n 0, 1) := by decide +kernel
theorem dX10_isKind_1 : decode cX10_isKind 1 = .ok (.iconst 0, 1) := by decide +kernel
theorem dX10_isKind_2 : decode cX10_isKind 2 = .ok (.bipush 69, 2) := by decide +kernel
theorem dX10_isKind_4 : decode cX10_isKind 4 = .ok (.invokestatic 47, 3) := by decide +kernel
theorem dX10_isKind_7 : decode cX10_isKind 7 = .ok (.ireturn, 1) := by decide +kernel
theorem dX10_isBeat_0 : decode cX10_isBeat 0 = .ok (.iload_n 0, 1) := by decide +kernel
theorem dX10_isBeat_1 : decode cX10_isBeat 1 = .ok (.iconst 1, 1) := by decide +kernel
theorem dX10_isBeat_2 : decode cX10_isBeat 2 = .ok (.bipush 12, 2) := by decide +kernel
theorem dX10_isBeat_4 : decode cX10_isBeat 4 = .ok (.invokestatic 47, 3) := by decide +kernel
theorem dX10_isBeat_7 : decode cX10_isBeat 7 = .ok (.ifCond .eq 18, 3) := by decide +kernel
theorem dX10_isBeat_10 : decode cX10_isBeat 10 = .ok (.iload_n 1, 1) := by decide +kernel
theorem dX10_isBeat_11 : decode cX10_isBeat 11 = .ok (.iconst 0, 1) := by decide +kernel
theorem dX10_isBeat_12 : decode cX10_isBeat 12 = .ok (.iload_n 0, 1) := by decide +kernel
theorem dX10_isBeat_13 : decode cX10_isBeat 13 = .ok (.iconst 1, 1) := by decide +kernel
theorem dX10_isBeat_14 : decode cX10_isBeat 14 = .ok (.isub, 1) := by decide +kernel
theorem dX10_isBeat_15 : decode cX10_isBeat 15 = .ok (.invokestatic 47, 3) := by decide +kernel
theorem dX10_isBeat_18 : decode cX10_isBeat 18 = .ok (.ifCond .eq 7, 3) := by decide +kernel
theorem dX10_isBeat_21 : decode cX10_isBeat 21 = .ok (.iconst 1, 1) := by decide +kernel
theorem dX10_isBeat_22 : decode cX10_isBeat 22 = .ok (.goto 4, 3) := by decide +kernel
theorem dX10_isBeat_25 : decode cX10_isBeat 25 = .ok (.iconst 0, 1) := by decide +kernel
theorem dX10_isBeat_26 : decode cX10_isBeat 26 = .ok (.ireturn, 1) := by decide +kernel
theorem dX10_person_0 : decode cX10_person 0 = .ok (.iload_n 1, 1) := by decide +kernel
theorem dX10_person_1 : decode cX10_person 1 = .ok (.invokestatic 157, 3) := by decide +kernel
theorem dX10_person_4 : decode cX10_person 4 = .ok (.ifCond .eq 11, 3) := by decide +kernel
theorem dX10_person_7 : decode cX10_person 7 = .ok (.iload_n 2, 1) := by decide +kernel
theorem dX10_person_8 : decode cX10_person 8 = .ok (.iload_n 3, 1) := by decide +kernel
theorem dX10_person_9 : decode cX10_person 9 = .ok (.invokestatic 160, 3) := by decide +kernel
theorem dX10_person_12 : decode cX10_person 12 = .ok (.ifCond .ne 9, 3) := by decide +kernel
theorem dX10_person_15 : decode cX10_person 15 = .ok (.aload_n 0, 1) := by decide +kernel
theorem dX10_person_16 : decode cX10_person 16 = .ok (.iconst 1, 1) := by decide +kernel
theorem dX10_person_17 : decode cX10_person 17 = .ok (.invokevirtual 51, 3) := by decide +kernel
theorem dX10_person_20 : decode cX10_person 20 = .ok (.ireturn, 1) := by decide +kernel
theorem dX10_person_21 : decode cX10_person 21 = .ok (.aload_n 0, 1) := by decide +kernel
theorem dX10_person_22 : decode cX10_person 22 = .ok (.getfield 7, 3) := by decide +kernel
theorem dX10_person_25 : decode cX10_person 25 = .ok (.iconst 4, 1) := by decide +kernel
theorem dX10_person_26 : decode cX10_person 26 = .ok (.iaload, 1) := by decide +kernel
theorem dX10_person_27 : decode cX10_person 27 = .ok (.bipush 6, 2) := by decide +kernel
theorem dX10_person_29 : decode cX10_person 29 = .ok (.if_icmp .ne 9, 3) := by decide +kernel
theorem dX10_person_32 : decode cX10_person 32 = .ok (.aload_n 0, 1) := by decide +kernel
theorem dX10_person_33 : decode cX10_person 33 = .ok (.iconst 4, 1) := by decide +kernel
theorem dX10_person_34 : decode cX10_person 34 = .ok (.invokevirtual 51, 3) := by decide +kernel
theorem dX10_person_37 : decode cX10_person 37 = .ok (.ireturn, 1) := by decide +kernel
theorem dX10_person_38 : decode cX10_person 38 = .ok (.aload_n 0, 1) := by decide +kernel
theorem dX10_person_39 : decode cX10_person 39 = .ok (.getfield 7, 3) := by decide +kernel
theorem dX10_person_42 : decode cX10_person 42 = .ok (.iconst 4, 1) := by decide +kernel
theorem dX10_person_43 : decode cX10_person 43 = .ok (.iaload, 1) := by decide +kernel
theorem dX10_person_44 : decode cX10_person 44 = .ok (.istore 4, 2) := by decide +kernel
theorem dX10_person_46 : decode cX10_person 46 = .ok (.aload_n 0, 1) := by decide +kernel
theorem dX10_person_47 : decode cX10_person 47 = .ok (.iload 4, 2) := by decide +kernel
theorem dX10_person_49 : decode cX10_person 49 = .ok (.iconst 0, 1) := by decide +kernel
theorem dX10_person_50 : decode cX10_person 50 = .ok (.iload_n 1, 1) := by decide +kernel
theorem dX10_person_51 : decode cX10_person 51 = .ok (.bipush 10, 2) := by decide +kernel
theorem dX10_person_53 : decode cX10_person 53 = .ok (.idiv, 1) := by decide +kernel
theorem dX10_person_54 : decode cX10_person 54 = .ok (.invokevirtual 163, 3) := by decide +kernel
theorem dX10_person_57 : decode cX10_person 57 = .ok (.aload_n 0, 1) := by decide +kernel
theorem dX10_person_58 : decode cX10_person 58 = .ok (.iload 4, 2) := by decide +kernel
theorem dX10_person_60 : decode cX10_person 60 = .ok (.iconst 1, 1) := by decide +kernel
theorem dX10_person_61 : decode cX10_person 61 = .ok (.iload_n 1, 1) := by decide +kernel
theorem dX10_person_62 : decode cX10_person 62 = .ok (.bipush 10, 2) := by decide +kernel
theorem dX10_person_64 : decode cX10_person 64 = .ok (.irem, 1) := by decide +kernel
theorem dX10_person_65 : decode cX10_person 65 = .ok (.invokevirtual 163, 3) := by decide +kernel
theorem dX10_person_68 : decode cX10_person 68 = .ok (.aload_n 0, 1) := by decide +kernel
theorem dX10_person_69 : decode cX10_person 69 = .ok (.iload 4, 2) := by decide +kernel
theorem dX10_person_71 : decode cX10_person 71 = .ok (.iconst 2, 1) := by decide +kernel
theorem dX10_person_72 : decode cX10_person 72 = .ok (.iload_n 2, 1) := by decide +kernel
theorem dX10_person_73 : decode cX10_person 73 = .ok (.invokevirtual 163, 3) := by decide +kernel
theorem dX10_person_76 : decode cX10_person 76 = .ok (.aload_n 0, 1) := by decide +kernel
theorem dX10_person_77 : decode cX10_person 77 = .ok (.iload 4, 2) := by decide +kernel
theorem dX10_person_79 : decode cX10_person 79 = .ok (.iconst 3, 1) := by decide +kernel
theorem dX10_person_80 : decode cX10_person 80 = .ok (.iload_n 3, 1) := by decide +kernel
theorem dX10_person_81 : decode cX10_person 81 = .ok (.invokevirtual 163, 3) := by decide +kernel
theorem dX10_person_84 : decode cX10_person 84 = .ok (.aload_n 0, 1) := by decide +kernel
theorem dX10_person_85 : decode cX10_person 85 = .ok (.getfield 7, 3) := by decide +kernel
theorem dX10_person_88 : decode cX10_person 88 = .ok (.iconst 4, 1) := by decide +kernel
theorem dX10_person_89 : decode cX10_person 89 = .ok (.dup2, 1) := by decide +kernel
theorem dX10_person_90 : decode cX10_person 90 = .ok (.iaload, 1) := by decide +kernel
theorem dX10_person_91 : decode cX10_person 91 = .ok (.iconst 1, 1) := by decide +kernel
theorem dX10_person_92 : decode cX10_person 92 = .ok (.iadd, 1) := by decide +kernel
theorem dX10_person_93 : decode cX10_person 93 = .ok (.iastore, 1) := by decide +kernel
theorem dX10_person_94 : decode cX10_person 94 = .ok (.iload 4, 2) := by decide +kernel
theorem dX10_person_96 : decode cX10_person 96 = .ok (.ireturn, 1) := by decide +kernel
theorem dX10_personIs_0 : decode cX10_personIs 0 = .ok (.aload_n 0, 1) := by decide +kernel
theorem dX10_personIs_1 : decode cX10_personIs 1 = .ok (.iload_n 1, 1) := by decide +kernel
theorem dX10_personIs_2 : decode cX10_personIs 2 = .ok (.invokevirtual 166, 3) := by decide +kernel
theorem dX10_personIs_5 : decode cX10_personIs 5 = .ok (.ifCond .eq 12, 3) := by decide +kernel
theorem dX10_personIs_8 : decode cX10_personIs 8 = .ok (.iload_n 2, 1) := by decide +kernel
theorem dX10_personIs_9 : decode cX10_personIs 9 = .ok (.iconst 0, 1) := by decide +kernel
theorem dX10_personIs_10 : decode cX10_personIs 10 = .ok (.iconst 4, 1) := by decide +kernel
theorem dX10_personIs_11 : decode cX10_personIs 11 = .ok (.invokestatic 47, 3) := by decide +kernel
theorem dX10_personIs_14 : decode cX10_personIs 14 = .ok (.ifCond .ne 9, 3) := by decide +kernel
theorem dX10_personIs_17 : decode cX10_personIs 17 = .ok (.aload_n 0, 1) := by decide +kernel
theorem dX10_personIs_18 : decode cX10_personIs 18 = .ok (.iconst 1, 1) := by decide +kernel
theorem dX10_personIs_19 : decode cX10_personIs 19 = .ok (.invokevirtual 51, 3) := by decide +kernel
theorem dX10_personIs_22 : decode cX10_personIs 22 = .ok (.ireturn, 1) := by decide +kernel
theorem dX10_personIs_23 : decode cX10_personIs 23 = .ok (.iload_n 2, 1) := by decide +kernel
theorem dX10_personIs_24 : decode cX10_personIs 24 = .ok (.iconst 4, 1) := by decide +kernel
theorem dX10_personIs_25 : decode cX10_personIs 25 = .ok (.if_icmp .ge 12, 3) := by decide +kernel
theorem dX10_personIs_28 : decode cX10_personIs 28 = .ok (.aload_n 0, 1) := by decide +kernel
theorem dX10_personIs_29 : decode cX10_personIs 29 = .ok (.iload_n 1, 1) := by decide +kernel
theorem dX10_personIs_30 : decode cX10_personIs 30 = .ok (.iload_n 2, 1) := by decide +kernel
theorem dX10_personIs_31 : decode cX10_personIs 31 = .ok (.invokevirtual 111, 3) := by decide +kernel
theorem dX10_personIs_34 : decode cX10_personIs 34 = .ok (.goto 8, 3) := by decide +kernel
theorem dX10_personIs_37 : decode cX10_personIs 37 = .ok (.aload_n 0, 1) := by decide +kernel
theorem dX10_personIs_38 : decode cX10_personIs 38 = .ok (.iload_n 1, 1) := by decide +kernel
theorem dX10_personIs_39 : decode cX10_personIs 39 = .ok (.invokevirtual 127, 3) := by decide +kernel
theorem dX10_personIs_42 : decode cX10_personIs 42 = .ok (.ireturn, 1) := by decide +kernel
theorem dX10_become_0 : decode cX10_become 0 = .ok (.aload_n 0, 1) := by decide +kernel
theorem dX10_become_1 : decode cX10_become 1 = .ok (.iload_n 1, 1) := by decide +kernel
theorem dX10_become_2 : decode cX10_become 2 = .ok (.invokevirtual 166, 3) := by decide +kernel
theorem dX10_become_5 : decode cX10_become 5 = .ok (.ifCond .eq 10, 3) := by decide +kernel
theorem dX10_become_8 : decode cX10_become 8 = .ok (.iload_n 2, 1) := by decide +kernel
theorem dX10_become_9 : decode cX10_become 9 = .ok (.invokestatic 157, 3) := by decide +kernel
theorem dX10_become_12 : decode cX10_become 12 = .ok (.ifCond .ne 9, 3) := by decide +kernel
theorem dX10_become_15 : decode cX10_become 15 = .ok (.aload_n 0, 1) := by decide +kernel
theorem dX10_become_16 : decode cX10_become 16 = .ok (.iconst 1, 1) := by decide +kernel
theorem dX10_become_17 : decode cX10_become 17 = .ok (.invokevirtual 51, 3) := by decide +kernel
theorem dX10_become_20 : decode cX10_become 20 = .ok (.ireturn, 1) := by decide +kernel
theorem dX10_become_21 : decode cX10_become 21 = .ok (.aload_n 0, 1) := by decide +kernel
theorem dX10_become_22 : decode cX10_become 22 = .ok (.iload_n 1, 1) := by decide +kernel
theorem dX10_become_23 : decode cX10_become 23 = .ok (.iconst 1, 1) := by decide +kernel
theorem dX10_become_24 : decode cX10_become 24 = .ok (.iload_n 2, 1) := by decide +kernel
theorem dX10_become_25 : decode cX10_become 25 = .ok (.bipush 10, 2) := by decide +kernel
theorem dX10_become_27 : decode cX10_become 27 = .ok (.irem, 1) := by decide +kernel
theorem dX10_become_28 : decode cX10_become 28 = .ok (.invokevirtual 163, 3) := by decide +kernel
theorem dX10_become_31 : decode cX10_become 31 = .ok (.aload_n 0, 1) := by decide +kernel
theorem dX10_become_32 : decode cX10_become 32 = .ok (.bipush 8, 2) := by decide +kernel
theorem dX10_become_34 : decode cX10_become 34 = .ok (.iconst 4, 1) := by decide +kernel
theorem dX10_become_35 : decode cX10_become 35 = .ok (.iload_n 1, 1) := by decide +kernel
theorem dX10_become_36 : decode cX10_become 36 = .ok (.imul, 1) := by decide +kernel
theorem dX10_become_37 : decode cX10_become 37 = .ok (.iadd, 1) := by decide +kernel
theorem dX10_become_38 : decode cX10_become 38 = .ok (.iconst 0, 1) := by decide +kernel
theorem dX10_become_39 : decode cX10_become 39 = .ok (.iadd, 1) := by decide +kernel
theorem dX10_become_40 : decode cX10_become 40 = .ok (.iload_n 2, 1) := by decide +kernel
theorem dX10_become_41 : decode cX10_become 41 = .ok (.bipush 10, 2) := by decide +kernel
theorem dX10_become_43 : decode cX10_become 43 = .ok (.idiv, 1) := by decide +kernel
theorem dX10_become_44 : decode cX10_become 44 = .ok (.invokevirtual 169, 3) := by decide +kernel
theorem dX10_become_47 : decode cX10_become 47 = .ok (.ireturn, 1) := by decide +kernel
theorem dX10_as_0 : decode cX10_as 0 = .ok (.aload_n 0, 1) := by decide +kernel
theorem dX10_as_1 : decode cX10_as 1 = .ok (.iload_n 1, 1) := by decide +kernel
theorem dX10_as_2 : decode cX10_as 2 = .ok (.invokevirtual 166, 3) := by decide +kernel
theorem dX10_as_5 : decode cX10_as 5 = .ok (.ifCond .eq 13, 3) := by decide +kernel
theorem dX10_as_8 : decode cX10_as 8 = .ok (.iload_n 2, 1) := by decide +kernel
theorem dX10_as_9 : decode cX10_as 9 = .ok (.iconst 0, 1) := by decide +kernel
theorem dX10_as_10 : decode cX10_as 10 = .ok (.bipush 6, 2) := by decide +kernel
theorem dX10_as_12 : decode cX10_as 12 = .ok (.invokestatic 47, 3) := by decide +kernel
theorem dX10_as_15 : decode cX10_as 15 = .ok (.ifCond .ne 9, 3) := by decide +kernel
theorem dX10_as_18 : decode cX10_as 18 = .ok (.aload_n 0, 1) := by decide +kernel
theorem dX10_as_19 : decode cX10_as 19 = .ok (.iconst 1, 1) := by decide +kernel
theorem dX10_as_20 : decode cX10_as 20 = .ok (.invokevirtual 51, 3) := by decide +kernel
theorem dX10_as_23 : decode cX10_as 23 = .ok (.ireturn, 1) := by decide +kernel
theorem dX10_as_24 : decode cX10_as 24 = .ok (.aload_n 0, 1) := by decide +kernel
theorem dX10_as_25 : decode cX10_as 25 = .ok (.iload_n 1, 1) := by decide +kernel
theorem dX10_as_26 : decode cX10_as 26 = .ok (.iconst 0, 1) := by decide +kernel
theorem dX10_as_27 : decode cX10_as 27 = .ok (.invokevirtual 111, 3) := by decide +kernel
theorem dX10_as_30 : decode cX10_as 30 = .ok (.istore_n 3, 1) := by decide +kernel
theorem dX10_as_31 : decode cX10_as 31 = .ok (.iload_n 3, 1) := by decide +kernel
theorem dX10_as_32 : decode cX10_as 32 = .ok (.iload_n 2, 1) := by decide +kernel
theorem dX10_as_33 : decode cX10_as 33 = .ok (.if_icmp .eq 15, 3) := by decide +kernel
theorem dX10_as_36 : decode cX10_as 36 = .ok (.iload_n 3, 1) := by decide +kernel
theorem dX10_as_37 : decode cX10_as 37 = .ok (.ifCond .eq 11, 3) := by decide +kernel
theorem dX10_as_40 : decode cX10_as 40 = .ok (.iload_n 3, 1) := by decide +kernel
theorem dX10_as_41 : decode cX10_as 41 = .ok (.invokestatic 172, 3) := by decide +kernel
theorem dX10_as_44 : decode cX10_as 44 = .ok (.istore_n 3, 1) := by decide +kernel
theorem dX10_as_45 : decode cX10_as 45 = .ok (.goto (-14), 3) := by decide +kernel
theorem dX10_as_48 : decode cX10_as 48 = .ok (.iload_n 3, 1) := by decide +kernel
theorem dX10_as_49 : decode cX10_as 49 = .ok (.iload_n 2, 1) := by decide +kernel
theorem dX10_as_50 : decode cX10_as 50 = .ok (.if_icmp .ne 12, 3) := by decide +kernel
theorem dX10_as_53 : decode cX10_as 53 = .ok (.aload_n 0, 1) := by decide +kernel
theorem dX10_as_54 : decode cX10_as 54 = .ok (.iload_n 1, 1) := by decide +kernel
theorem dX10_as_55 : decode cX10_as 55 = .ok (.iconst 1, 1) := by decide +kernel
theorem dX10_as_56 : decode cX10_as 56 = .ok (.invokevirtual 111, 3) := by decide +kernel
theorem dX10_as_59 : decode cX10_as 59 = .ok (.goto 8, 3) := by decide +kernel
theorem dX10_as_62 : decode cX10_as 62 = .ok (.aload_n 0, 1) := by decide +kernel
theorem dX10_as_63 : decode cX10_as 63 = .ok (.iconst 5, 1) := by decide +kernel
theorem dX10_as_64 : decode cX10_as 64 = .ok (.invokevirtual 51, 3) := by decide +kernel
theorem dX10_as_67 : decode cX10_as 67 = .ok (.ireturn, 1) := by decide +kernel
theorem dX10_beats_0 : decode cX10_beats 0 = .ok (.aload_n 0, 1) := by decide +kernel
theorem dX10_beats_1 : decode cX10_beats 1 = .ok (.iload_n 1, 1) := by decide +kernel
theorem dX10_beats_2 : decode cX10_beats 2 = .ok (.invokevirtual 166, 3) := by decide +kernel
theorem dX10_beats_5 : decode cX10_beats 5 = .ok (.ifCond .eq 11, 3) := by decide +kernel
theorem dX10_beats_8 : decode cX10_beats 8 = .ok (.iload_n 2, 1) := by decide +kernel
theorem dX10_beats_9 : decode cX10_beats 9 = .ok (.iload_n 3, 1) := by decide +kernel
theorem dX10_beats_10 : decode cX10_beats 10 = .ok (.invokestatic 160, 3) := by decide +kernel
theorem dX10_beats_13 : decode cX10_beats 13 = .ok (.ifCond .ne 9, 3) := by decide +kernel
theorem dX10_beats_16 : decode cX10_beats 16 = .ok (.aload_n 0, 1) := by decide +kernel
theorem dX10_beats_17 : decode cX10_beats 17 = .ok (.iconst 1, 1) := by decide +kernel
theorem dX10_beats_18 : decode cX10_beats 18 = .ok (.invokevirtual 51, 3) := by decide +kernel
theorem dX10_beats_21 : decode cX10_beats 21 = .ok (.ireturn, 1) := by decide +kernel
theorem dX10_beats_22 : decode cX10_beats 22 = .ok (.aload_n 0, 1) := by decide +kernel
theorem dX10_beats_23 : decode cX10_beats 23 = .ok (.iload_n 1, 1) := by decide +kernel
theorem dX10_beats_24 : decode cX10_beats 24 = .ok (.iconst 3, 1) := by decide +kernel
theorem dX10_beats_25 : decode cX10_beats 25 = .ok (.iload_n 3, 1) := by decide +kernel
theorem dX10_beats_26 : decode cX10_beats 26 = .ok (.invokevirtual 163, 3) := by decide +kernel
theorem dX10_beats_29 : decode cX10_beats 29 = .ok (.aload_n 0, 1) := by decide +kernel
theorem dX10_beats_30 : decode cX10_beats 30 = .ok (.bipush 8, 2) := by decide +kernel
theorem dX10_beats_32 : decode cX10_beats 32 = .ok (.iconst 4, 1) := by decide +kernel
theorem dX10_beats_33 : decode cX10_beats 33 = .ok (.iload_n 1, 1) := by decide +kernel
theorem dX10_beats_34 : decode cX10_beats 34 = .ok (.imul, 1) := by decide +kernel
theorem dX10_beats_35 : decode cX10_beats 35 = .ok (.iadd, 1) := by decide +kernel
theorem dX10_beats_36 : decode cX10_beats 36 = .ok (.iconst 2, 1) := by decide +kernel
theorem dX10_beats_37 : decode cX10_beats 37 = .ok (.iadd, 1) := by decide +kernel
theorem dX10_beats_38 : decode cX10_beats 38 = .ok (.iload_n 2, 1) := by decide +kernel
theorem dX10_beats_39 : decode cX10_beats 39 = .ok (.invokevirtual 169, 3) := by decide +kernel
theorem dX10_beats_42 : decode cX10_beats 42 = .ok (.ireturn, 1) := by decide +kernel
theorem dX10_doing_0 : decode cX10_doing 0 = .ok (.aload_n 0, 1) := by decide +kernel
theorem dX10_doing_1 : decode cX10_doing 1 = .ok (.iload_n 1, 1) := by decide +kernel
theorem dX10_doing_2 : decode cX10_doing 2 = .ok (.invokevirtual 166, 3) := by decide +kernel
theorem dX10_doing_5 : decode cX10_doing 5 = .ok (.ifCond .eq 30, 3) := by decide +kernel
theorem dX10_doing_8 : decode cX10_doing 8 = .ok (.iload_n 2, 1) := by decide +kernel
theorem dX10_doing_9 : decode cX10_doing 9 = .ok (.iconst 0, 1) := by decide +kernel
theorem dX10_doing_10 : decode cX10_doing 10 = .ok (.bipush 99, 2) := by decide +kernel
theorem dX10_doing_12 : decode cX10_doing 12 = .ok (.invokestatic 47, 3) := by decide +kernel
theorem dX10_doing_15 : decode cX10_doing 15 = .ok (.ifCond .eq 20, 3) := by decide +kernel
theorem dX10_doing_18 : decode cX10_doing 18 = .ok (.aload_n 0, 1) := by decide +kernel
theorem dX10_doing_19 : decode cX10_doing 19 = .ok (.iload_n 3, 1) := by decide +kernel
theorem dX10_doing_20 : decode cX10_doing 20 = .ok (.invokevirtual 175, 3) := by decide +kernel
theorem dX10_doing_23 : decode cX10_doing 23 = .ok (.ifCond .eq 12, 3) := by decide +kernel
theorem dX10_doing_26 : decode cX10_doing 26 = .ok (.iload_n 3, 1) := by decide +kernel
theorem dX10_doing_27 : decode cX10_doing 27 = .ok (.iload_n 1, 1) := by decide +kernel
theorem dX10_doing_28 : decode cX10_doing 28 = .ok (.ishr, 1) := by decide +kernel
theorem dX10_doing_29 : decode cX10_doing 29 = .ok (.iconst 1, 1) := by decide +kernel
theorem dX10_doing_30 : decode cX10_doing 30 = .ok (.iand, 1) := by decide +kernel
theorem dX10_doing_31 : decode cX10_doing 31 = .ok (.iconst 1, 1) := by decide +kernel
theorem dX10_doing_32 : decode cX10_doing 32 = .ok (.if_icmp .ne 9, 3) := by decide +kernel
theorem dX10_doing_35 : decode cX10_doing 35 = .ok (.aload_n 0, 1) := by decide +kernel
theorem dX10_doing_36 : decode cX10_doing 36 = .ok (.iconst 1, 1) := by decide +kernel
theorem dX10_doing_37 : decode cX10_doing 37 = .ok (.invokevirtual 51, 3) := by decide +kernel
theorem dX10_doing_40 : decode cX10_doing 40 = .ok (.ireturn, 1) := by decide +kernel
theorem dX10_doing_41 : decode cX10_doing 41 = .ok (.aload_n 0, 1) := by decide +kernel
theorem dX10_doing_42 : decode cX10_doing 42 = .ok (.getfield 7, 3) := by decide +kernel
theorem dX10_doing_45 : decode cX10_doing 45 = .ok (.iconst 5, 1) := by decide +kernel
theorem dX10_doing_46 : decode cX10_doing 46 = .ok (.iaload, 1) := by decide +kernel
theorem dX10_doing_47 : decode cX10_doing 47 = .ok (.bipush 6, 2) := by decide +kernel
theorem dX10_doing_49 : decode cX10_doing 49 = .ok (.if_icmp .ne 9, 3) := by decide +kernel
theorem dX10_doing_52 : decode cX10_doing 52 = .ok (.aload_n 0, 1) := by decide +kernel
theorem dX10_doing_53 : decode cX10_doing 53 = .ok (.iconst 4, 1) := by decide +kernel
theorem dX10_doing_54 : decode cX10_doing 54 = .ok (.invokevirtual 51, 3) := by decide +kernel
theorem dX10_doing_57 : decode cX10_doing 57 = .ok (.ireturn, 1) := by decide +kernel
theorem dX10_doing_58 : decode cX10_doing 58 = .ok (.aload_n 0, 1) := by decide +kernel
theorem dX10_doing_59 : decode cX10_doing 59 = .ok (.getfield 7, 3) := by decide +kernel
theorem dX10_doing_62 : decode cX10_doing 62 = .ok (.iconst 5, 1) := by decide +kernel
theorem dX10_doing_63 : decode cX10_doing 63 = .ok (.iaload, 1) := by decide +kernel
theorem dX10_doing_64 : decode cX10_doing 64 = .ok (.istore 4, 2) := by decide +kernel
theorem dX10_doing_66 : decode cX10_doing 66 = .ok (.aload_n 0, 1) := by decide +kernel
theorem dX10_doing_67 : decode cX10_doing 67 = .ok (.iload 4, 2) := by decide +kernel
theorem dX10_doing_69 : decode cX10_doing 69 = .ok (.iconst 0, 1) := by decide +kernel

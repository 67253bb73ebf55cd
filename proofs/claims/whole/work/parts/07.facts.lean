theorem xoi_in : Cond.instanceMethod objectInit ∈ xgood := xg 21 (by decide +kernel) rfl
theorem xoi_code : Cond.code objectInit ⟨#[0xb1]⟩ 1 none ∈ xgood := xg 22 (by decide +kernel) rfl
theorem xac_nat : Cond.native arraycopyName ∈ xgood := xg 541 (by decide +kernel) rfl
theorem xac_sta : Cond.static arraycopyName ∈ xgood := xg 540 (by decide +kernel) rfl
theorem xac_ini : Cond.initialized "java/lang/System" ∈ xgood := xg 14 (by decide +kernel) rfl
theorem xai : Cond.arrayClass .int ∈ xgood := xg 55 (by decide +kernel) rfl
abbrev mX0_init : XM := (yX0_init, cX0_init, 1, none)
theorem vX0_init : XV mX0_init 0 := ⟨xg 102 (by decide +kernel) rfl, xg 7 (by decide +kernel) rfl, ⟨by decide +kernel, by decide +kernel, by decide +kernel⟩, rfl⟩
theorem wX0_init : Cond.instanceMethod mX0_init.1 ∈ xgood := xg 101 (by decide +kernel) rfl
theorem lkX0_1 : Cond.methodLink RX0 1 objectInit ∈ xgood := xg 103 (by decide +kernel) rfl
abbrev mX0_beLike : XM := (yX0_beLike, cX0_beLike, 2, none)
theorem vX0_beLike : XV mX0_beLike 1 := ⟨xg 773 (by decide +kernel) rfl, xg 7 (by decide +kernel) rfl, ⟨by decide +kernel, by decide +kernel, by decide +kernel⟩, rfl⟩
theorem wX0_beLike : Cond.instanceMethod mX0_beLike.1 ∈ xgood ∧ Cond.selects mX0_beLike.1.cls mX0_beLike.1 mX0_beLike.1 ∈ xgood := ⟨xg 771 (by decide +kernel) rfl, xg 772 (by decide +kernel) rfl⟩
theorem fX0_7 : XF RX0 7 0 0 .int false := XF.of (C := RX0) (T := TX0) (N := 3) rfl rfl rfl (by decide +kernel) rfl (xg 104 (by decide +kernel) rfl)
theorem fX0_13 : XF RX0 13 0 1 .int false := XF.of (C := RX0) (T := TX0) (N := 3) rfl rfl rfl (by decide +kernel) rfl (xg 108 (by decide +kernel) rfl)
theorem fX0_16 : XF RX0 16 0 2 .int false := XF.of (C := RX0) (T := TX0) (N := 3) rfl rfl rfl (by decide +kernel) rfl (xg 111 (by decide +kernel) rfl)
abbrev mX1_init : XM := (yX1_init, cX1_init, 2, none)
theorem vX1_init : XV mX1_init 1 := ⟨xg 189 (by decide +kernel) rfl, xg 9 (by decide +kernel) rfl, ⟨by decide +kernel, by decide +kernel, by decide +kernel⟩, rfl⟩
theorem wX1_init : Cond.instanceMethod mX1_init.1 ∈ xgood := xg 188 (by decide +kernel) rfl
theorem lkX1_3 : Cond.methodLink RX1 3 objectInit ∈ xgood := xg 190 (by decide +kernel) rfl
theorem fX1_9 : XF RX1 9 1 1 (.array .int) true := XF.of (C := RX1) (T := TX1) (N := 6) rfl rfl rfl (by decide +kernel) rfl (xg 192 (by decide +kernel) rfl)
theorem fX1_15 : XF RX1 15 1 0 (.object "BlinkMoves$Island") true := XF.of (C := RX1) (T := TX1) (N := 6) rfl rfl rfl (by decide +kernel) rfl (xg 191 (by decide +kernel) rfl)
abbrev mX1_partsBehind : XM := (yX1_partsBehind, cX1_partsBehind, 6, (some (.int)))
theorem vX1_partsBehind : XV mX1_partsBehind 2 := ⟨xg 596 (by decide +kernel) rfl, xg 9 (by decide +kernel) rfl, ⟨by decide +kernel, by decide +kernel, by decide +kernel⟩, rfl⟩
theorem wX1_partsBehind : Cond.instanceMethod mX1_partsBehind.1 ∈ xgood ∧ Cond.selects mX1_partsBehind.1.cls mX1_partsBehind.1 mX1_partsBehind.1 ∈ xgood := ⟨xg 594 (by decide +kernel) rfl, xg 595 (by decide +kernel) rfl⟩
theorem fX1_19 : XF RX1 19 0 1 .int false := XF.ofN (C := RX0) (T := TX0) (N := 3) (host := "BlinkMoves") rfl rfl rfl (by decide +kernel) rfl (xnx 107 (by decide +kernel) rfl)
theorem fX1_25 : XF RX1 25 2 8 .int false := XF.ofN (C := RX2) (T := TX2) (N := 10) (host := "BlinkMoves") rfl rfl rfl (by decide +kernel) rfl (xnx 137 (by decide +kernel) rfl)
abbrev mX2_shutSet : XM := (yX2_shutSet, cX2_shutSet, 4, (some (.int)))
theorem vX2_shutSet : XV mX2_shutSet 1 := ⟨xg 408 (by decide +kernel) rfl, xg 2 (by decide +kernel) rfl, ⟨by decide +kernel, by decide +kernel, by decide +kernel⟩, rfl⟩
theorem wX2_shutSet : Cond.instanceMethod mX2_shutSet.1 ∈ xgood ∧ Cond.selects mX2_shutSet.1.cls mX2_shutSet.1 mX2_shutSet.1 ∈ xgood := ⟨xg 406 (by decide +kernel) rfl, xg 407 (by decide +kernel) rfl⟩
theorem lkX1_30 : XLk RX1 30 mX2_shutSet := Or.inl (xg 597 (by decide +kernel) rfl)
theorem fX1_34 : XF RX1 34 0 2 .int false := XF.ofN (C := RX0) (T := TX0) (N := 3) (host := "BlinkMoves") rfl rfl rfl (by decide +kernel) rfl (xnx 112 (by decide +kernel) rfl)
abbrev mX2_leftBehindTick : XM := (yX2_leftBehindTick, cX2_leftBehindTick, 5, (some (.int)))
theorem vX2_leftBehindTick : XV mX2_leftBehindTick 4 := ⟨xg 565 (by decide +kernel) rfl, xg 2 (by decide +kernel) rfl, ⟨by decide +kernel, by decide +kernel, by decide +kernel⟩, rfl⟩
theorem wX2_leftBehindTick : Cond.instanceMethod mX2_leftBehindTick.1 ∈ xgood ∧ Cond.selects mX2_leftBehindTick.1.cls mX2_leftBehindTick.1 mX2_leftBehindTick.1 ∈ xgood := ⟨xg 563 (by decide +kernel) rfl, xg 564 (by decide +kernel) rfl⟩
theorem lkX1_37 : XLk RX1 37 mX2_leftBehindTick := Or.inl (xg 598 (by decide +kernel) rfl)
abbrev mX1_soonestDone : XM := (yX1_soonestDone, cX1_soonestDone, 5, (some (.int)))
theorem vX1_soonestDone : XV mX1_soonestDone 1 := ⟨xg 606 (by decide +kernel) rfl, xg 9 (by decide +kernel) rfl, ⟨by decide +kernel, by decide +kernel, by decide +kernel⟩, rfl⟩
theorem wX1_soonestDone : Cond.instanceMethod mX1_soonestDone.1 ∈ xgood ∧ Cond.selects mX1_soonestDone.1.cls mX1_soonestDone.1 mX1_soonestDone.1 ∈ xgood := ⟨xg 604 (by decide +kernel) rfl, xg 605 (by decide +kernel) rfl⟩
abbrev mX1_lookAhead : XM := (yX1_lookAhead, cX1_lookAhead, 3, none)
theorem vX1_lookAhead : XV mX1_lookAhead 1 := ⟨xg 641 (by decide +kernel) rfl, xg 9 (by decide +kernel) rfl, ⟨by decide +kernel, by decide +kernel, by decide +kernel⟩, rfl⟩
theorem wX1_lookAhead : Cond.instanceMethod mX1_lookAhead.1 ∈ xgood ∧ Cond.selects mX1_lookAhead.1.cls mX1_lookAhead.1 mX1_lookAhead.1 ∈ xgood := ⟨xg 640 (by decide +kernel) rfl, xgs 15 (by decide +kernel) rfl⟩
abbrev mX1_doneBehind : XM := (yX1_doneBehind, cX1_doneBehind, 6, (some (.int)))
theorem vX1_doneBehind : XV mX1_doneBehind 3 := ⟨xg 646 (by decide +kernel) rfl, xg 9 (by decide +kernel) rfl, ⟨by decide +kernel, by decide +kernel, by decide +kernel⟩, rfl⟩
theorem wX1_doneBehind : Cond.instanceMethod mX1_doneBehind.1 ∈ xgood ∧ Cond.selects mX1_doneBehind.1.cls mX1_doneBehind.1 mX1_doneBehind.1 ∈ xgood := ⟨xg 645 (by decide +kernel) rfl, xgs 16 (by decide +kernel) rfl⟩
abbrev mX1_firstMoment : XM := (yX1_firstMoment, cX1_firstMoment, 3, (some (.int)))
theorem vX1_firstMoment : XV mX1_firstMoment 1 := ⟨xg 615 (by decide +kernel) rfl, xg 9 (by decide +kernel) rfl, ⟨by decide +kernel, by decide +kernel, by decide +kernel⟩, rfl⟩
theorem wX1_firstMoment : Cond.instanceMethod mX1_firstMoment.1 ∈ xgood ∧ Cond.selects mX1_firstMoment.1.cls mX1_firstMoment.1 mX1_firstMoment.1 ∈ xgood := ⟨xg 613 (by decide +kernel) rfl, xg 614 (by decide +kernel) rfl⟩
abbrev mX2_isMoment : XM := (yX2_isMoment, cX2_isMoment, 4, (some (.boolean)))
theorem vX2_isMoment : XV mX2_isMoment 2 := ⟨xg 619 (by decide +kernel) rfl, xg 2 (by decide +kernel) rfl, ⟨by decide +kernel, by decide +kernel, by decide +kernel⟩, rfl⟩
theorem wX2_isMoment : Cond.instanceMethod mX2_isMoment.1 ∈ xgood ∧ Cond.selects mX2_isMoment.1.cls mX2_isMoment.1 mX2_isMoment.1 ∈ xgood := ⟨xg 617 (by decide +kernel) rfl, xg 618 (by decide +kernel) rfl⟩
theorem lkX1_41 : XLk RX1 41 mX2_isMoment := Or.inl (xg 616 (by decide +kernel) rfl)
abbrev mX1_momentsAmong : XM := (yX1_momentsAmong, cX1_momentsAmong, 5, (some (.int)))
theorem vX1_momentsAmong : XV mX1_momentsAmong 2 := ⟨xg 629 (by decide +kernel) rfl, xg 9 (by decide +kernel) rfl, ⟨by decide +kernel, by decide +kernel, by decide +kernel⟩, rfl⟩
theorem wX1_momentsAmong : Cond.instanceMethod mX1_momentsAmong.1 ∈ xgood ∧ Cond.selects mX1_momentsAmong.1.cls mX1_momentsAmong.1 mX1_momentsAmong.1 ∈ xgood := ⟨xg 627 (by decide +kernel) rfl, xg 628 (by decide +kernel) rfl⟩
abbrev mX1_fewestAway : XM := (yX1_fewestAway, cX1_fewestAway, 6, (some (.int)))
theorem vX1_fewestAway : XV mX1_fewestAway 2 := ⟨xg 637 (by decide +kernel) rfl, xg 9 (by decide +kernel) rfl, ⟨by decide +kernel, by decide +kernel, by decide +kernel⟩, rfl⟩
theorem wX1_fewestAway : Cond.instanceMethod mX1_fewestAway.1 ∈ xgood ∧ Cond.selects mX1_fewestAway.1.cls mX1_fewestAway.1 mX1_fewestAway.1 ∈ xgood := ⟨xg 635 (by decide +kernel) rfl, xg 636 (by decide +kernel) rfl⟩
theorem lkX1_45 : XLk RX1 45 mX1_lookAhead := Or.inl (xg 638 (by decide +kernel) rfl)
abbrev mJ6_bitCount_0f7a4 : XM := (yJ6_bitCount_0f7a4, cJ6_bitCount_0f7a4, 1, (some (.int)))
theorem vJ6_bitCount_0f7a4 : XV mJ6_bitCount_0f7a4 1 := ⟨xg 423 (by decide +kernel) rfl, xg 13 (by decide +kernel) rfl, ⟨by decide +kernel, by decide +kernel, by decide +kernel⟩, rfl⟩
theorem sJ6_bitCount_0f7a4 : Cond.static mJ6_bitCount_0f7a4.1 ∈ xgood := xg 422 (by decide +kernel) rfl
theorem lkX1_49 : XLk RX1 49 mJ6_bitCount_0f7a4 := Or.inl (xg 642 (by decide +kernel) rfl)
theorem lkX1_54 : XLk RX1 54 mX1_doneBehind := Or.inl (xg 643 (by decide +kernel) rfl)
abbrev mX1_findPhase : XM := (yX1_findPhase, cX1_findPhase, 7, (some (.boolean)))
theorem vX1_findPhase : XV mX1_findPhase 2 := ⟨xg 655 (by decide +kernel) rfl, xg 9 (by decide +kernel) rfl, ⟨by decide +kernel, by decide +kernel, by decide +kernel⟩, rfl⟩
theorem wX1_findPhase : Cond.instanceMethod mX1_findPhase.1 ∈ xgood ∧ Cond.selects mX1_findPhase.1.cls mX1_findPhase.1 mX1_findPhase.1 ∈ xgood := ⟨xg 653 (by decide +kernel) rfl, xg 654 (by decide +kernel) rfl⟩
abbrev mX2_hasPerson : XM := (yX2_hasPerson, cX2_hasPerson, 2, (some (.boolean)))
theorem vX2_hasPerson : XV mX2_hasPerson 1 := ⟨xg 314 (by decide +kernel) rfl, xg 2 (by decide +kernel) rfl, ⟨by decide +kernel, by decide +kernel, by decide +kernel⟩, rfl⟩
theorem wX2_hasPerson : Cond.instanceMethod mX2_hasPerson.1 ∈ xgood ∧ Cond.selects mX2_hasPerson.1.cls mX2_hasPerson.1 mX2_hasPerson.1 ∈ xgood := ⟨xg 312 (by decide +kernel) rfl, xg 313 (by decide +kernel) rfl⟩
theorem lkX1_58 : XLk RX1 58 mX2_hasPerson := Or.inl (xg 656 (by decide +kernel) rfl)
theorem fX1_62 : XF RX1 62 2 0 (.array (.object "BlinkMoves$Person")) true := XF.ofN (C := RX2) (T := TX2) (N := 10) (host := "BlinkMoves") rfl rfl rfl (by decide +kernel) rfl (xnx 124 (by decide +kernel) rfl)
theorem fX1_66 : XF RX1 66 4 2 .int false := XF.ofN (C := RX4) (T := TX4) (N := 4) (host := "BlinkMoves") rfl rfl rfl (by decide +kernel) rfl (xnx 86 (by decide +kernel) rfl)
abbrev mX1_tryPhase : XM := (yX1_tryPhase, cX1_tryPhase, 7, none)
theorem vX1_tryPhase : XV mX1_tryPhase 3 := ⟨xg 660 (by decide +kernel) rfl, xg 9 (by decide +kernel) rfl, ⟨by decide +kernel, by decide +kernel, by decide +kernel⟩, rfl⟩
theorem wX1_tryPhase : Cond.instanceMethod mX1_tryPhase.1 ∈ xgood ∧ Cond.selects mX1_tryPhase.1.cls mX1_tryPhase.1 mX1_tryPhase.1 ∈ xgood := ⟨xg 659 (by decide +kernel) rfl, xgs 17 (by decide +kernel) rfl⟩
theorem lkX1_71 : XLk RX1 71 mX1_tryPhase := Or.inl (xg 657 (by decide +kernel) rfl)
theorem fX1_75 : XF RX1 75 1 3 .int false := XF.of (C := RX1) (T := TX1) (N := 6) rfl rfl rfl (by decide +kernel) rfl (xg 195 (by decide +kernel) rfl)
theorem fX1_78 : XF RX1 78 1 2 .int false := XF.of (C := RX1) (T := TX1) (N := 6) rfl rfl rfl (by decide +kernel) rfl (xg 193 (by decide +kernel) rfl)
abbrev mX2_isShutBy : XM := (yX2_isShutBy, cX2_isShutBy, 7, (some (.boolean)))
theorem vX2_isShutBy : XV mX2_isShutBy 4 := ⟨xg 324 (by decide +kernel) rfl, xg 2 (by decide +kernel) rfl, ⟨by decide +kernel, by decide +kernel, by decide +kernel⟩, rfl⟩
theorem wX2_isShutBy : Cond.instanceMethod mX2_isShutBy.1 ∈ xgood ∧ Cond.selects mX2_isShutBy.1.cls mX2_isShutBy.1 mX2_isShutBy.1 ∈ xgood := ⟨xg 322 (by decide +kernel) rfl, xg 323 (by decide +kernel) rfl⟩
theorem lkX1_81 : XLk RX1 81 mX2_isShutBy := Or.inl (xg 661 (by decide +kernel) rfl)
abbrev mX1_findFits : XM := (yX1_findFits, cX1_findFits, 5, none)
theorem vX1_findFits : XV mX1_findFits 2 := ⟨xg 683 (by decide +kernel) rfl, xg 9 (by decide +kernel) rfl, ⟨by decide +kernel, by decide +kernel, by decide +kernel⟩, rfl⟩
theorem wX1_findFits : Cond.instanceMethod mX1_findFits.1 ∈ xgood ∧ Cond.selects mX1_findFits.1.cls mX1_findFits.1 mX1_findFits.1 ∈ xgood := ⟨xg 681 (by decide +kernel) rfl, xg 682 (by decide +kernel) rfl⟩
theorem fX1_85 : XF RX1 85 1 4 .int false := XF.of (C := RX1) (T := TX1) (N := 6) rfl rfl rfl (by decide +kernel) rfl (xg 197 (by decide +kernel) rfl)
theorem fX1_88 : XF RX1 88 1 5 .int false := XF.of (C := RX1) (T := TX1) (N := 6) rfl rfl rfl (by decide +kernel) rfl (xg 199 (by decide +kernel) rfl)
abbrev mX1_isFit : XM := (yX1_isFit, cX1_isFit, 7, (some (.boolean)))
theorem vX1_isFit : XV mX1_isFit 4 := ⟨xg 687 (by decide +kernel) rfl, xg 9 (by decide +kernel) rfl, ⟨by decide +kernel, by decide +kernel, by decide +kernel⟩, rfl⟩
theorem wX1_isFit : Cond.instanceMethod mX1_isFit.1 ∈ xgood ∧ Cond.selects mX1_isFit.1.cls mX1_isFit.1 mX1_isFit.1 ∈ xgood := ⟨xg 686 (by decide +kernel) rfl, xgs 18 (by decide +kernel) rfl⟩
theorem lkX1_91 : XLk RX1 91 mX1_isFit := Or.inl (xg 684 (by decide +kernel) rfl)
abbrev mX6_size : XM := (yX6_size, cX6_size, 1, (some (.int)))
theorem vX6_size : XV mX6_size 0 := ⟨xg 347 (by decide +kernel) rfl, xg 4 (by decide +kernel) rfl, ⟨by decide +kernel, by decide +kernel, by decide +kernel⟩, rfl⟩
theorem wX6_size : Cond.instanceMethod mX6_size.1 ∈ xgood ∧ Cond.selects mX6_size.1.cls mX6_size.1 mX6_size.1 ∈ xgood := ⟨xg 345 (by decide +kernel) rfl, xg 346 (by decide +kernel) rfl⟩
theorem lkX1_95 : XLk RX1 95 mX6_size := Or.inl (xg 688 (by decide +kernel) rfl)
abbrev mX6_at : XM := (yX6_at, cX6_at, 2, (some (.int)))
theorem vX6_at : XV mX6_at 1 := ⟨xg 351 (by decide +kernel) rfl, xg 4 (by decide +kernel) rfl, ⟨by decide +kernel, by decide +kernel, by decide +kernel⟩, rfl⟩
theorem wX6_at : Cond.instanceMethod mX6_at.1 ∈ xgood ∧ Cond.selects mX6_at.1.cls mX6_at.1 mX6_at.1 ∈ xgood := ⟨xg 349 (by decide +kernel) rfl, xg 350 (by decide +kernel) rfl⟩
theorem lkX1_101 : XLk RX1 101 mX6_at := Or.inl (xg 689 (by decide +kernel) rfl)
abbrev mX2_init : XM := (yX2_init, cX2_init, 2, none)
theorem vX2_init : XV mX2_init 0 := ⟨xg 27 (by decide +kernel) rfl, xg 2 (by decide +kernel) rfl, ⟨by decide +kernel, by decide +kernel, by decide +kernel⟩, rfl⟩
theorem wX2_init : Cond.instanceMethod mX2_init.1 ∈ xgood := xg 26 (by decide +kernel) rfl
theorem lkX2_3 : Cond.methodLink RX2 3 objectInit ∈ xgood := xg 28 (by decide +kernel) rfl
theorem nqX2_9 : Cond.classLink RX2 9 (xel 0) ∈ xgood := xg 29 (by decide +kernel) rfl
theorem fX2_11 : XF RX2 11 2 0 (.array (.object "BlinkMoves$Person")) true := XF.of (C := RX2) (T := TX2) (N := 10) rfl rfl rfl (by decide +kernel) rfl (xg 122 (by decide +kernel) rfl)
theorem nqX2_17 : Cond.classLink RX2 17 (xel 1) ∈ xgood := xg 31 (by decide +kernel) rfl
theorem fX2_19 : XF RX2 19 2 1 (.array (.object "BlinkMoves$Doing")) true := XF.of (C := RX2) (T := TX2) (N := 10) rfl rfl rfl (by decide +kernel) rfl (xg 125 (by decide +kernel) rfl)
theorem nwX2_23 : Cond.classLink RX2 23 RX3 ∈ xgood ∧ Cond.instantiable RX3 4 ∈ xgood ∧ Cond.initialized RX3 ∈ xgood := ⟨xg 33 (by decide +kernel) rfl, xg 34 (by decide +kernel) rfl, xg 3 (by decide +kernel) rfl⟩
abbrev mX3_init : XM := (yX3_init, cX3_init, 2, none)
theorem vX3_init : XV mX3_init 1 := ⟨xg 37 (by decide +kernel) rfl, xg 3 (by decide +kernel) rfl, ⟨by decide +kernel, by decide +kernel, by decide +kernel⟩, rfl⟩
theorem wX3_init : Cond.instanceMethod mX3_init.1 ∈ xgood := xg 36 (by decide +kernel) rfl
theorem lkX2_25 : XLk RX2 25 mX3_init := Or.inl (xg 35 (by decide +kernel) rfl)
theorem fX2_28 : XF RX2 28 2 2 (.object "BlinkMoves$Law") true := XF.of (C := RX2) (T := TX2) (N := 10) rfl rfl rfl (by decide +kernel) rfl (xg 127 (by decide +kernel) rfl)
theorem fX2_32 : XF RX2 32 2 3 (.object "BlinkMoves$Law") true := XF.of (C := RX2) (T := TX2) (N := 10) rfl rfl rfl (by decide +kernel) rfl (xg 128 (by decide +kernel) rfl)
theorem nwX2_35 : Cond.classLink RX2 35 RX6 ∈ xgood ∧ Cond.instantiable RX6 2 ∈ xgood ∧ Cond.initialized RX6 ∈ xgood := ⟨xg 70 (by decide +kernel) rfl, xg 40 (by decide +kernel) rfl, xg 4 (by decide +kernel) rfl⟩
abbrev mX6_init : XM := (yX6_init, cX6_init, 2, none)
theorem vX6_init : XV mX6_init 1 := ⟨xg 43 (by decide +kernel) rfl, xg 4 (by decide +kernel) rfl, ⟨by decide +kernel, by decide +kernel, by decide +kernel⟩, rfl⟩
theorem wX6_init : Cond.instanceMethod mX6_init.1 ∈ xgood := xg 42 (by decide +kernel) rfl
theorem lkX2_37 : XLk RX2 37 mX6_init := Or.inl (xg 71 (by decide +kernel) rfl)
theorem fX2_38 : XF RX2 38 2 4 (.object "BlinkMoves$Row") true := XF.of (C := RX2) (T := TX2) (N := 10) rfl rfl rfl (by decide +kernel) rfl (xg 130 (by decide +kernel) rfl)
theorem fX2_42 : XF RX2 42 2 5 (.object "BlinkMoves$Row") true := XF.of (C := RX2) (T := TX2) (N := 10) rfl rfl rfl (by decide +kernel) rfl (xg 131 (by decide +kernel) rfl)
theorem fX2_45 : XF RX2 45 2 9 .int false := XF.of (C := RX2) (T := TX2) (N := 10) rfl rfl rfl (by decide +kernel) rfl (xg 140 (by decide +kernel) rfl)
theorem nwX2_9 : Cond.classLink RX2 9 RX4 ∈ xgood ∧ Cond.instantiable RX4 4 ∈ xgood ∧ Cond.initialized RX4 ∈ xgood := ⟨xg 29 (by decide +kernel) rfl, xg 72 (by decide +kernel) rfl, xg 6 (by decide +kernel) rfl⟩
abbrev mX4_init : XM := (yX4_init, cX4_init, 1, none)
theorem vX4_init : XV mX4_init 0 := ⟨xg 75 (by decide +kernel) rfl, xg 6 (by decide +kernel) rfl, ⟨by decide +kernel, by decide +kernel, by decide +kernel⟩, rfl⟩
theorem wX4_init : Cond.instanceMethod mX4_init.1 ∈ xgood := xg 74 (by decide +kernel) rfl
theorem lkX2_49 : XLk RX2 49 mX4_init := Or.inr ⟨"BlinkMoves", xnx 73 (by decide +kernel) rfl⟩
theorem nwX2_17 : Cond.classLink RX2 17 RX0 ∈ xgood ∧ Cond.instantiable RX0 3 ∈ xgood ∧ Cond.initialized RX0 ∈ xgood := ⟨xg 31 (by decide +kernel) rfl, xg 99 (by decide +kernel) rfl, xg 7 (by decide +kernel) rfl⟩
theorem lkX2_50 : XLk RX2 50 mX0_init := Or.inr ⟨"BlinkMoves", xnx 100 (by decide +kernel) rfl⟩
abbrev mX2_beLike : XM := (yX2_beLike, cX2_beLike, 3, none)
theorem vX2_beLike : XV mX2_beLike 1 := ⟨xg 765 (by decide +kernel) rfl, xg 2 (by decide +kernel) rfl, ⟨by decide +kernel, by decide +kernel, by decide +kernel⟩, rfl⟩
theorem wX2_beLike : Cond.instanceMethod mX2_beLike.1 ∈ xgood ∧ Cond.selects mX2_beLike.1.cls mX2_beLike.1 mX2_beLike.1 ∈ xgood := ⟨xg 763 (by decide +kernel) rfl, xg 764 (by decide +kernel) rfl⟩
abbrev mX4_beLike : XM := (yX4_beLike, cX4_beLike, 2, none)
theorem vX4_beLike : XV mX4_beLike 1 := ⟨xg 769 (by decide +kernel) rfl, xg 6 (by decide +kernel) rfl, ⟨by decide +kernel, by decide +kernel, by decide +kernel⟩, rfl⟩
theorem wX4_beLike : Cond.instanceMethod mX4_beLike.1 ∈ xgood ∧ Cond.selects mX4_beLike.1.cls mX4_beLike.1 mX4_beLike.1 ∈ xgood := ⟨xg 767 (by decide +kernel) rfl, xg 768 (by decide +kernel) rfl⟩
theorem lkX2_51 : XLk RX2 51 mX4_beLike := Or.inl (xg 766 (by decide +kernel) rfl)
theorem lkX2_55 : XLk RX2 55 mX0_beLike := Or.inl (xg 770 (by decide +kernel) rfl)
abbrev mX3_beLike : XM := (yX3_beLike, cX3_beLike, 2, none)
theorem vX3_beLike : XV mX3_beLike 1 := ⟨xg 777 (by decide +kernel) rfl, xg 3 (by decide +kernel) rfl, ⟨by decide +kernel, by decide +kernel, by decide +kernel⟩, rfl⟩
theorem wX3_beLike : Cond.instanceMethod mX3_beLike.1 ∈ xgood ∧ Cond.selects mX3_beLike.1.cls mX3_beLike.1 mX3_beLike.1 ∈ xgood := ⟨xg 775 (by decide +kernel) rfl, xg 776 (by decide +kernel) rfl⟩
theorem lkX2_58 : XLk RX2 58 mX3_beLike := Or.inl (xg 774 (by decide +kernel) rfl)
abbrev mX6_beLike : XM := (yX6_beLike, cX6_beLike, 2, none)
theorem vX6_beLike : XV mX6_beLike 1 := ⟨xg 524 (by decide +kernel) rfl, xg 4 (by decide +kernel) rfl, ⟨by decide +kernel, by decide +kernel, by decide +kernel⟩, rfl⟩
theorem wX6_beLike : Cond.instanceMethod mX6_beLike.1 ∈ xgood ∧ Cond.selects mX6_beLike.1.cls mX6_beLike.1 mX6_beLike.1 ∈ xgood := ⟨xg 522 (by decide +kernel) rfl, xg 523 (by decide +kernel) rfl⟩
theorem lkX2_61 : XLk RX2 61 mX6_beLike := Or.inl (xg 778 (by decide +kernel) rfl)
theorem fX2_64 : XF RX2 64 2 6 .int false := XF.of (C := RX2) (T := TX2) (N := 10) rfl rfl rfl (by decide +kernel) rfl (xg 134 (by decide +kernel) rfl)
theorem fX2_67 : XF RX2 67 2 7 .int false := XF.of (C := RX2) (T := TX2) (N := 10) rfl rfl rfl (by decide +kernel) rfl (xg 135 (by decide +kernel) rfl)
theorem fX2_70 : XF RX2 70 2 8 .int false := XF.of (C := RX2) (T := TX2) (N := 10) rfl rfl rfl (by decide +kernel) rfl (xg 138 (by decide +kernel) rfl)
abbrev mX9_within : XM := (yX9_within, cX9_within, 3, (some (.boolean)))
theorem vX9_within : XV mX9_within 3 := ⟨xg 292 (by decide +kernel) rfl, xg 1 (by decide +kernel) rfl, ⟨by decide +kernel, by decide +kernel, by decide +kernel⟩, rfl⟩
theorem sX9_within : Cond.static mX9_within.1 ∈ xgood := xg 291 (by decide +kernel) rfl
theorem lkX2_73 : XLk RX2 73 mX9_within := Or.inr ⟨"BlinkMoves", xnx 315 (by decide +kernel) rfl⟩
abbrev mX2_hasDoing : XM := (yX2_hasDoing, cX2_hasDoing, 2, (some (.boolean)))
theorem vX2_hasDoing : XV mX2_hasDoing 1 := ⟨xg 404 (by decide +kernel) rfl, xg 2 (by decide +kernel) rfl, ⟨by decide +kernel, by decide +kernel, by decide +kernel⟩, rfl⟩
theorem wX2_hasDoing : Cond.instanceMethod mX2_hasDoing.1 ∈ xgood ∧ Cond.selects mX2_hasDoing.1.cls mX2_hasDoing.1 mX2_hasDoing.1 ∈ xgood := ⟨xg 402 (by decide +kernel) rfl, xg 403 (by decide +kernel) rfl⟩
abbrev mX2_hasSet : XM := (yX2_hasSet, cX2_hasSet, 2, (some (.boolean)))
theorem vX2_hasSet : XV mX2_hasSet 1 := ⟨xg 393 (by decide +kernel) rfl, xg 2 (by decide +kernel) rfl, ⟨by decide +kernel, by decide +kernel, by decide +kernel⟩, rfl⟩
theorem wX2_hasSet : Cond.instanceMethod mX2_hasSet.1 ∈ xgood ∧ Cond.selects mX2_hasSet.1.cls mX2_hasSet.1 mX2_hasSet.1 ∈ xgood := ⟨xg 391 (by decide +kernel) rfl, xg 392 (by decide +kernel) rfl⟩
abbrev mX2_lawOf : XM := (yX2_lawOf, cX2_lawOf, 2, (some (.object "BlinkMoves$Law")))
theorem vX2_lawOf : XV mX2_lawOf 1 := ⟨xg 516 (by decide +kernel) rfl, xg 2 (by decide +kernel) rfl, ⟨by decide +kernel, by decide +kernel, by decide +kernel⟩, rfl⟩
theorem wX2_lawOf : Cond.instanceMethod mX2_lawOf.1 ∈ xgood ∧ Cond.selects mX2_lawOf.1.cls mX2_lawOf.1 mX2_lawOf.1 ∈ xgood := ⟨xg 514 (by decide +kernel) rfl, xg 515 (by decide +kernel) rfl⟩
theorem lkX2_77 : XLk RX2 77 mX2_hasPerson := Or.inl (xg 320 (by decide +kernel) rfl)
abbrev mX9_rest : XM := (yX9_rest, cX9_rest, 3, (some (.int)))
theorem vX9_rest : XV mX9_rest 3 := ⟨xg 327 (by decide +kernel) rfl, xg 1 (by decide +kernel) rfl, ⟨by decide +kernel, by decide +kernel, by decide +kernel⟩, rfl⟩
theorem sX9_rest : Cond.static mX9_rest.1 ∈ xgood := xg 326 (by decide +kernel) rfl
theorem lkX2_81 : XLk RX2 81 mX9_rest := Or.inr ⟨"BlinkMoves", xnx 325 (by decide +kernel) rfl⟩
abbrev mX4_blinks : XM := (yX4_blinks, cX4_blinks, 3, (some (.boolean)))
theorem vX4_blinks : XV mX4_blinks 2 := ⟨xg 331 (by decide +kernel) rfl, xg 6 (by decide +kernel) rfl, ⟨by decide +kernel, by decide +kernel, by decide +kernel⟩, rfl⟩
theorem wX4_blinks : Cond.instanceMethod mX4_blinks.1 ∈ xgood ∧ Cond.selects mX4_blinks.1.cls mX4_blinks.1 mX4_blinks.1 ∈ xgood := ⟨xg 329 (by decide +kernel) rfl, xg 330 (by decide +kernel) rfl⟩
theorem lkX2_85 : XLk RX2 85 mX4_blinks := Or.inl (xg 328 (by decide +kernel) rfl)
abbrev mX3_gives : XM := (yX3_gives, cX3_gives, 4, (some (.int)))
theorem vX3_gives : XV mX3_gives 3 := ⟨xg 339 (by decide +kernel) rfl, xg 3 (by decide +kernel) rfl, ⟨by decide +kernel, by decide +kernel, by decide +kernel⟩, rfl⟩
theorem wX3_gives : Cond.instanceMethod mX3_gives.1 ∈ xgood ∧ Cond.selects mX3_gives.1.cls mX3_gives.1 mX3_gives.1 ∈ xgood := ⟨xg 337 (by decide +kernel) rfl, xg 338 (by decide +kernel) rfl⟩
theorem lkX2_89 : XLk RX2 89 mX3_gives := Or.inl (xg 336 (by decide +kernel) rfl)
abbrev mX2_isShut : XM := (yX2_isShut, cX2_isShut, 3, (some (.boolean)))
theorem vX2_isShut : XV mX2_isShut 2 := ⟨xg 319 (by decide +kernel) rfl, xg 2 (by decide +kernel) rfl, ⟨by decide +kernel, by decide +kernel, by decide +kernel⟩, rfl⟩
theorem wX2_isShut : Cond.instanceMethod mX2_isShut.1 ∈ xgood ∧ Cond.selects mX2_isShut.1.cls mX2_isShut.1 mX2_isShut.1 ∈ xgood := ⟨xg 317 (by decide +kernel) rfl, xg 318 (by decide +kernel) rfl⟩
theorem fX2_92 : XF RX2 92 4 2 .int false := XF.ofN (C := RX4) (T := TX4) (N := 4) (host := "BlinkMoves") rfl rfl rfl (by decide +kernel) rfl (xnx 85 (by decide +kernel) rfl)
theorem fX2_95 : XF RX2 95 4 3 .int false := XF.ofN (C := RX4) (T := TX4) (N := 4) (host := "BlinkMoves") rfl rfl rfl (by decide +kernel) rfl (xnx 89 (by decide +kernel) rfl)
theorem lkX2_98 : XLk RX2 98 mX2_isShutBy := Or.inl (xg 321 (by decide +kernel) rfl)
abbrev mX9_holds : XM := (yX9_holds, cX9_holds, 2, (some (.boolean)))
theorem vX9_holds : XV mX9_holds 2 := ⟨xg 396 (by decide +kernel) rfl, xg 1 (by decide +kernel) rfl, ⟨by decide +kernel, by decide +kernel, by decide +kernel⟩, rfl⟩
theorem sX9_holds : Cond.static mX9_holds.1 ∈ xgood := xg 395 (by decide +kernel) rfl
theorem lkX2_102 : XLk RX2 102 mX9_holds := Or.inr ⟨"BlinkMoves", xnx 620 (by decide +kernel) rfl⟩
theorem lkX2_105 : XLk RX2 105 mX2_isShut := Or.inl (xg 621 (by decide +kernel) rfl)
abbrev mX2_getsOnBy : XM := (yX2_getsOnBy, cX2_getsOnBy, 6, (some (.int)))
theorem vX2_getsOnBy : XV mX2_getsOnBy 3 := ⟨xg 412 (by decide +kernel) rfl, xg 2 (by decide +kernel) rfl, ⟨by decide +kernel, by decide +kernel, by decide +kernel⟩, rfl⟩
theorem wX2_getsOnBy : Cond.instanceMethod mX2_getsOnBy.1 ∈ xgood ∧ Cond.selects mX2_getsOnBy.1.cls mX2_getsOnBy.1 mX2_getsOnBy.1 ∈ xgood := ⟨xg 410 (by decide +kernel) rfl, xg 411 (by decide +kernel) rfl⟩
theorem fX2_108 : XF RX2 108 0 0 .int false := XF.ofN (C := RX0) (T := TX0) (N := 3) (host := "BlinkMoves") rfl rfl rfl (by decide +kernel) rfl (xnx 106 (by decide +kernel) rfl)
abbrev mX4_tries : XM := (yX4_tries, cX4_tries, 2, (some (.int)))
theorem vX4_tries : XV mX4_tries 1 := ⟨xg 416 (by decide +kernel) rfl, xg 6 (by decide +kernel) rfl, ⟨by decide +kernel, by decide +kernel, by decide +kernel⟩, rfl⟩
theorem wX4_tries : Cond.instanceMethod mX4_tries.1 ∈ xgood ∧ Cond.selects mX4_tries.1.cls mX4_tries.1 mX4_tries.1 ∈ xgood := ⟨xg 414 (by decide +kernel) rfl, xg 415 (by decide +kernel) rfl⟩
theorem lkX2_111 : XLk RX2 111 mX4_tries := Or.inl (xg 413 (by decide +kernel) rfl)
theorem lkX2_115 : XLk RX2 115 mJ6_bitCount_0f7a4 := Or.inl (xg 421 (by decide +kernel) rfl)
theorem lkX2_120 : XLk RX2 120 mX2_getsOnBy := Or.inl (xg 566 (by decide +kernel) rfl)
abbrev mJ9_max_7cf53 : XM := (yJ9_max_7cf53, cJ9_max_7cf53, 2, (some (.int)))
theorem vJ9_max_7cf53 : XV mJ9_max_7cf53 2 := ⟨xg 47 (by decide +kernel) rfl, xg 5 (by decide +kernel) rfl, ⟨by decide +kernel, by decide +kernel, by decide +kernel⟩, rfl⟩
theorem sJ9_max_7cf53 : Cond.static mJ9_max_7cf53.1 ∈ xgood := xg 46 (by decide +kernel) rfl
theorem lkX2_124 : XLk RX2 124 mJ9_max_7cf53 := Or.inl (xg 567 (by decide +kernel) rfl)
abbrev mX2_goBy : XM := (yX2_goBy, cX2_goBy, 6, (some (.int)))
theorem vX2_goBy : XV mX2_goBy 0 := ⟨xg 560 (by decide +kernel) rfl, xg 2 (by decide +kernel) rfl, ⟨by decide +kernel, by decide +kernel, by decide +kernel⟩, rfl⟩
theorem wX2_goBy : Cond.instanceMethod mX2_goBy.1 ∈ xgood ∧ Cond.selects mX2_goBy.1.cls mX2_goBy.1 mX2_goBy.1 ∈ xgood := ⟨xg 558 (by decide +kernel) rfl, xg 559 (by decide +kernel) rfl⟩
theorem lkX2_130 : XLk RX2 130 mX2_shutSet := Or.inl (xg 561 (by decide +kernel) rfl)
theorem fX2_133 : XF RX2 133 0 1 .int false := XF.ofN (C := RX0) (T := TX0) (N := 3) (host := "BlinkMoves") rfl rfl rfl (by decide +kernel) rfl (xnx 110 (by decide +kernel) rfl)
theorem fX2_136 : XF RX2 136 0 2 .int false := XF.ofN (C := RX0) (T := TX0) (N := 3) (host := "BlinkMoves") rfl rfl rfl (by decide +kernel) rfl (xnx 114 (by decide +kernel) rfl)
theorem lkX2_139 : XLk RX2 139 mX2_leftBehindTick := Or.inl (xg 562 (by decide +kernel) rfl)
abbrev mX2_draw : XM := (yX2_draw, cX2_draw, 1, (some (.int)))
theorem vX2_draw : XV mX2_draw 0 := ⟨xg 579 (by decide +kernel) rfl, xg 2 (by decide +kernel) rfl, ⟨by decide +kernel, by decide +kernel, by decide +kernel⟩, rfl⟩
theorem wX2_draw : Cond.instanceMethod mX2_draw.1 ∈ xgood ∧ Cond.selects mX2_draw.1.cls mX2_draw.1 mX2_draw.1 ∈ xgood := ⟨xg 578 (by decide +kernel) rfl, xgs 14 (by decide +kernel) rfl⟩
theorem kX2_143 : Cond.constant RX2 143 (1103515245) ∈ xgood := xg 580 (by decide +kernel) rfl
abbrev mX2_drawPhase : XM := (yX2_drawPhase, cX2_drawPhase, 3, none)
theorem vX2_drawPhase : XV mX2_drawPhase 0 := ⟨xg 575 (by decide +kernel) rfl, xg 2 (by decide +kernel) rfl, ⟨by decide +kernel, by decide +kernel, by decide +kernel⟩, rfl⟩
theorem wX2_drawPhase : Cond.instanceMethod mX2_drawPhase.1 ∈ xgood ∧ Cond.selects mX2_drawPhase.1.cls mX2_drawPhase.1 mX2_drawPhase.1 ∈ xgood := ⟨xg 573 (by decide +kernel) rfl, xg 574 (by decide +kernel) rfl⟩
theorem lkX2_144 : XLk RX2 144 mX2_draw := Or.inl (xg 576 (by decide +kernel) rfl)
abbrev mX2_partsTogether : XM := (yX2_partsTogether, cX2_partsTogether, 3, (some (.int)))
theorem vX2_partsTogether : XV mX2_partsTogether 0 := ⟨xg 798 (by decide +kernel) rfl, xg 2 (by decide +kernel) rfl, ⟨by decide +kernel, by decide +kernel, by decide +kernel⟩, rfl⟩
theorem wX2_partsTogether : Cond.instanceMethod mX2_partsTogether.1 ∈ xgood ∧ Cond.selects mX2_partsTogether.1.cls mX2_partsTogether.1 mX2_partsTogether.1 ∈ xgood := ⟨xg 796 (by decide +kernel) rfl, xg 797 (by decide +kernel) rfl⟩
theorem lkX3_3 : Cond.methodLink RX3 3 objectInit ∈ xgood := xg 38 (by decide +kernel) rfl
theorem nwX3_9 : Cond.classLink RX3 9 RX6 ∈ xgood ∧ Cond.instantiable RX6 2 ∈ xgood ∧ Cond.initialized RX6 ∈ xgood := ⟨xg 39 (by decide +kernel) rfl, xg 40 (by decide +kernel) rfl, xg 4 (by decide +kernel) rfl⟩
theorem lkX3_11 : XLk RX3 11 mX6_init := Or.inl (xg 41 (by decide +kernel) rfl)
theorem fX3_14 : XF RX3 14 3 1 (.object "BlinkMoves$Row") true := XF.of (C := RX3) (T := TX3) (N := 4) rfl rfl rfl (by decide +kernel) rfl (xg 57 (by decide +kernel) rfl)
theorem fX3_20 : XF RX3 20 3 2 (.array .int) true := XF.of (C := RX3) (T := TX3) (N := 4) rfl rfl rfl (by decide +kernel) rfl (xg 58 (by decide +kernel) rfl)
theorem fX3_24 : XF RX3 24 3 0 .int true := XF.of (C := RX3) (T := TX3) (N := 4) rfl rfl rfl (by decide +kernel) rfl (xg 56 (by decide +kernel) rfl)
abbrev mX3_give : XM := (yX3_give, cX3_give, 2, none)
theorem vX3_give : XV mX3_give 1 := ⟨xg 520 (by decide +kernel) rfl, xg 3 (by decide +kernel) rfl, ⟨by decide +kernel, by decide +kernel, by decide +kernel⟩, rfl⟩
theorem wX3_give : Cond.instanceMethod mX3_give.1 ∈ xgood ∧ Cond.selects mX3_give.1.cls mX3_give.1 mX3_give.1 ∈ xgood := ⟨xg 518 (by decide +kernel) rfl, xg 519 (by decide +kernel) rfl⟩
theorem lkX3_28 : XLk RX3 28 mX6_beLike := Or.inl (xg 521 (by decide +kernel) rfl)
theorem fX3_32 : XF RX3 32 3 3 .boolean false := XF.of (C := RX3) (T := TX3) (N := 4) rfl rfl rfl (by decide +kernel) rfl (xg 59 (by decide +kernel) rfl)
abbrev mX3_worked : XM := (yX3_worked, cX3_worked, 7, (some (.int)))
theorem vX3_worked : XV mX3_worked 3 := ⟨xg 343 (by decide +kernel) rfl, xg 3 (by decide +kernel) rfl, ⟨by decide +kernel, by decide +kernel, by decide +kernel⟩, rfl⟩
theorem wX3_worked : Cond.instanceMethod mX3_worked.1 ∈ xgood ∧ Cond.selects mX3_worked.1.cls mX3_worked.1 mX3_worked.1 ∈ xgood := ⟨xg 342 (by decide +kernel) rfl, xgs 2 (by decide +kernel) rfl⟩
theorem lkX3_36 : XLk RX3 36 mX3_worked := Or.inl (xg 340 (by decide +kernel) rfl)
abbrev mX3_held : XM := (yX3_held, cX3_held, 2, (some (.int)))
theorem vX3_held : XV mX3_held 2 := ⟨xg 360 (by decide +kernel) rfl, xg 3 (by decide +kernel) rfl, ⟨by decide +kernel, by decide +kernel, by decide +kernel⟩, rfl⟩
theorem sX3_held : Cond.static mX3_held.1 ∈ xgood := xg 359 (by decide +kernel) rfl
theorem lkX3_40 : XLk RX3 40 mX3_held := Or.inl (xg 358 (by decide +kernel) rfl)
abbrev mJ9_min_7cf53 : XM := (yJ9_min_7cf53, cJ9_min_7cf53, 2, (some (.int)))
theorem vJ9_min_7cf53 : XV mJ9_min_7cf53 2 := ⟨xg 363 (by decide +kernel) rfl, xg 5 (by decide +kernel) rfl, ⟨by decide +kernel, by decide +kernel, by decide +kernel⟩, rfl⟩
theorem sJ9_min_7cf53 : Cond.static mJ9_min_7cf53.1 ∈ xgood := xg 362 (by decide +kernel) rfl
theorem lkX3_44 : XLk RX3 44 mJ9_min_7cf53 := Or.inl (xg 361 (by decide +kernel) rfl)
theorem lkX3_49 : XLk RX3 49 mJ9_max_7cf53 := Or.inl (xg 364 (by decide +kernel) rfl)
theorem lkX3_52 : XLk RX3 52 mX6_size := Or.inl (xg 344 (by decide +kernel) rfl)
theorem lkX3_56 : XLk RX3 56 mX6_at := Or.inl (xg 348 (by decide +kernel) rfl)
abbrev mX3_joined : XM := (yX3_joined, cX3_joined, 3, (some (.int)))
theorem vX3_joined : XV mX3_joined 3 := ⟨xg 354 (by decide +kernel) rfl, xg 3 (by decide +kernel) rfl, ⟨by decide +kernel, by decide +kernel, by decide +kernel⟩, rfl⟩
theorem sX3_joined : Cond.static mX3_joined.1 ∈ xgood := xg 353 (by decide +kernel) rfl
theorem lkX3_60 : XLk RX3 60 mX3_joined := Or.inl (xg 352 (by decide +kernel) rfl)
abbrev mX3_named : XM := (yX3_named, cX3_named, 4, (some (.int)))
theorem vX3_named : XV mX3_named 4 := ⟨xg 357 (by decide +kernel) rfl, xg 3 (by decide +kernel) rfl, ⟨by decide +kernel, by decide +kernel, by decide +kernel⟩, rfl⟩
theorem sX3_named : Cond.static mX3_named.1 ∈ xgood := xg 356 (by decide +kernel) rfl
theorem lkX3_63 : XLk RX3 63 mX3_named := Or.inl (xg 355 (by decide +kernel) rfl)
theorem lkX4_3 : Cond.methodLink RX4 3 objectInit ∈ xgood := xg 76 (by decide +kernel) rfl
theorem fX4_9 : XF RX4 9 4 2 .int false := XF.of (C := RX4) (T := TX4) (N := 4) rfl rfl rfl (by decide +kernel) rfl (xg 83 (by decide +kernel) rfl)
abbrev mX4_turnInto : XM := (yX4_turnInto, cX4_turnInto, 2, none)
theorem vX4_turnInto : XV mX4_turnInto 1 := ⟨xg 306 (by decide +kernel) rfl, xg 6 (by decide +kernel) rfl, ⟨by decide +kernel, by decide +kernel, by decide +kernel⟩, rfl⟩
theorem wX4_turnInto : Cond.instanceMethod mX4_turnInto.1 ∈ xgood ∧ Cond.selects mX4_turnInto.1.cls mX4_turnInto.1 mX4_turnInto.1 ∈ xgood := ⟨xg 304 (by decide +kernel) rfl, xg 305 (by decide +kernel) rfl⟩
theorem fX4_15 : XF RX4 15 4 0 .int false := XF.of (C := RX4) (T := TX4) (N := 4) rfl rfl rfl (by decide +kernel) rfl (xg 77 (by decide +kernel) rfl)
theorem fX4_18 : XF RX4 18 4 1 .int false := XF.of (C := RX4) (T := TX4) (N := 4) rfl rfl rfl (by decide +kernel) rfl (xg 80 (by decide +kernel) rfl)
theorem fX4_21 : XF RX4 21 4 3 .int false := XF.of (C := RX4) (T := TX4) (N := 4) rfl rfl rfl (by decide +kernel) rfl (xg 88 (by decide +kernel) rfl)
abbrev mX4_deafBlinks : XM := (yX4_deafBlinks, cX4_deafBlinks, 3, (some (.boolean)))
theorem vX4_deafBlinks : XV mX4_deafBlinks 2 := ⟨xg 335 (by decide +kernel) rfl, xg 6 (by decide +kernel) rfl, ⟨by decide +kernel, by decide +kernel, by decide +kernel⟩, rfl⟩
theorem wX4_deafBlinks : Cond.instanceMethod mX4_deafBlinks.1 ∈ xgood ∧ Cond.selects mX4_deafBlinks.1.cls mX4_deafBlinks.1 mX4_deafBlinks.1 ∈ xgood := ⟨xg 334 (by decide +kernel) rfl, xgs 1 (by decide +kernel) rfl⟩
theorem lkX4_24 : XLk RX4 24 mX4_deafBlinks := Or.inl (xg 332 (by decide +kernel) rfl)
abbrev mX4_bankerTries : XM := (yX4_bankerTries, cX4_bankerTries, 1, (some (.int)))
theorem vX4_bankerTries : XV mX4_bankerTries 0 := ⟨xg 420 (by decide +kernel) rfl, xg 6 (by decide +kernel) rfl, ⟨by decide +kernel, by decide +kernel, by decide +kernel⟩, rfl⟩
theorem wX4_bankerTries : Cond.instanceMethod mX4_bankerTries.1 ∈ xgood ∧ Cond.selects mX4_bankerTries.1.cls mX4_bankerTries.1 mX4_bankerTries.1 ∈ xgood := ⟨xg 419 (by decide +kernel) rfl, xgs 3 (by decide +kernel) rfl⟩
theorem lkX4_28 : XLk RX4 28 mX4_bankerTries := Or.inl (xg 417 (by decide +kernel) rfl)
abbrev mX5_init : XM := (yX5_init, cX5_init, 2, none)
theorem vX5_init : XV mX5_init 1 := ⟨xg 167 (by decide +kernel) rfl, xg 8 (by decide +kernel) rfl, ⟨by decide +kernel, by decide +kernel, by decide +kernel⟩, rfl⟩
theorem wX5_init : Cond.instanceMethod mX5_init.1 ∈ xgood := xg 166 (by decide +kernel) rfl
theorem lkX5_3 : Cond.methodLink RX5 3 objectInit ∈ xgood := xg 168 (by decide +kernel) rfl
theorem nwX5_9 : Cond.classLink RX5 9 RX6 ∈ xgood ∧ Cond.instantiable RX6 2 ∈ xgood ∧ Cond.initialized RX6 ∈ xgood := ⟨xg 169 (by decide +kernel) rfl, xg 40 (by decide +kernel) rfl, xg 4 (by decide +kernel) rfl⟩
theorem lkX5_11 : XLk RX5 11 mX6_init := Or.inl (xg 170 (by decide +kernel) rfl)
theorem fX5_14 : XF RX5 14 5 1 (.object "BlinkMoves$Row") true := XF.of (C := RX5) (T := TX5) (N := 4) rfl rfl rfl (by decide +kernel) rfl (xg 172 (by decide +kernel) rfl)
theorem fX5_20 : XF RX5 20 5 0 (.object "BlinkMoves$Row") true := XF.of (C := RX5) (T := TX5) (N := 4) rfl rfl rfl (by decide +kernel) rfl (xg 171 (by decide +kernel) rfl)
abbrev mX5_reads : XM := (yX5_reads, cX5_reads, 2, (some (.boolean)))
theorem vX5_reads : XV mX5_reads 1 := ⟨xg 455 (by decide +kernel) rfl, xg 8 (by decide +kernel) rfl, ⟨by decide +kernel, by decide +kernel, by decide +kernel⟩, rfl⟩
theorem wX5_reads : Cond.instanceMethod mX5_reads.1 ∈ xgood ∧ Cond.selects mX5_reads.1.cls mX5_reads.1 mX5_reads.1 ∈ xgood := ⟨xg 453 (by decide +kernel) rfl, xg 454 (by decide +kernel) rfl⟩
theorem fX5_23 : XF RX5 23 5 2 .int false := XF.of (C := RX5) (T := TX5) (N := 4) rfl rfl rfl (by decide +kernel) rfl (xg 174 (by decide +kernel) rfl)
theorem fX5_27 : XF RX5 27 5 3 .int false := XF.of (C := RX5) (T := TX5) (N := 4) rfl rfl rfl (by decide +kernel) rfl (xg 175 (by decide +kernel) rfl)
abbrev mX6_clear : XM := (yX6_clear, cX6_clear, 1, none)
theorem vX6_clear : XV mX6_clear 0 := ⟨xg 459 (by decide +kernel) rfl, xg 4 (by decide +kernel) rfl, ⟨by decide +kernel, by decide +kernel, by decide +kernel⟩, rfl⟩
theorem wX6_clear : Cond.instanceMethod mX6_clear.1 ∈ xgood ∧ Cond.selects mX6_clear.1.cls mX6_clear.1 mX6_clear.1 ∈ xgood := ⟨xg 457 (by decide +kernel) rfl, xg 458 (by decide +kernel) rfl⟩
theorem lkX5_30 : XLk RX5 30 mX6_clear := Or.inl (xg 456 (by decide +kernel) rfl)
abbrev mX5_readsAny : XM := (yX5_readsAny, cX5_readsAny, 4, (some (.boolean)))
theorem vX5_readsAny : XV mX5_readsAny 1 := ⟨xg 463 (by decide +kernel) rfl, xg 8 (by decide +kernel) rfl, ⟨by decide +kernel, by decide +kernel, by decide +kernel⟩, rfl⟩
theorem wX5_readsAny : Cond.instanceMethod mX5_readsAny.1 ∈ xgood ∧ Cond.selects mX5_readsAny.1.cls mX5_readsAny.1 mX5_readsAny.1 ∈ xgood := ⟨xg 462 (by decide +kernel) rfl, xgs 4 (by decide +kernel) rfl⟩
theorem lkX5_33 : XLk RX5 33 mX5_readsAny := Or.inl (xg 460 (by decide +kernel) rfl)
theorem lkX5_37 : XLk RX5 37 mX6_size := Or.inl (xg 488 (by decide +kernel) rfl)
abbrev mX5_fault : XM := (yX5_fault, cX5_fault, 1, (some (.int)))
theorem vX5_fault : XV mX5_fault 0 := ⟨xg 512 (by decide +kernel) rfl, xg 8 (by decide +kernel) rfl, ⟨by decide +kernel, by decide +kernel, by decide +kernel⟩, rfl⟩
theorem wX5_fault : Cond.instanceMethod mX5_fault.1 ∈ xgood ∧ Cond.selects mX5_fault.1.cls mX5_fault.1 mX5_fault.1 ∈ xgood := ⟨xg 510 (by decide +kernel) rfl, xg 511 (by decide +kernel) rfl⟩
abbrev mX5_next : XM := (yX5_next, cX5_next, 1, (some (.int)))
theorem vX5_next : XV mX5_next 0 := ⟨xg 487 (by decide +kernel) rfl, xg 8 (by decide +kernel) rfl, ⟨by decide +kernel, by decide +kernel, by decide +kernel⟩, rfl⟩
theorem wX5_next : Cond.instanceMethod mX5_next.1 ∈ xgood ∧ Cond.selects mX5_next.1.cls mX5_next.1 mX5_next.1 ∈ xgood := ⟨xg 486 (by decide +kernel) rfl, xgs 10 (by decide +kernel) rfl⟩
theorem lkX5_41 : XLk RX5 41 mX6_at := Or.inl (xg 489 (by decide +kernel) rfl)
abbrev mX5_takes : XM := (yX5_takes, cX5_takes, 2, (some (.boolean)))
theorem vX5_takes : XV mX5_takes 1 := ⟨xg 507 (by decide +kernel) rfl, xg 8 (by decide +kernel) rfl, ⟨by decide +kernel, by decide +kernel, by decide +kernel⟩, rfl⟩
theorem wX5_takes : Cond.instanceMethod mX5_takes.1 ∈ xgood ∧ Cond.selects mX5_takes.1.cls mX5_takes.1 mX5_takes.1 ∈ xgood := ⟨xg 506 (by decide +kernel) rfl, xgs 13 (by decide +kernel) rfl⟩
theorem lkX5_45 : XLk RX5 45 mX5_next := Or.inl (xg 484 (by decide +kernel) rfl)
abbrev mX5_readsAll : XM := (yX5_readsAll, cX5_readsAll, 4, (some (.boolean)))
theorem vX5_readsAll : XV mX5_readsAll 1 := ⟨xg 467 (by decide +kernel) rfl, xg 8 (by decide +kernel) rfl, ⟨by decide +kernel, by decide +kernel, by decide +kernel⟩, rfl⟩
theorem wX5_readsAll : Cond.instanceMethod mX5_readsAll.1 ∈ xgood ∧ Cond.selects mX5_readsAll.1.cls mX5_readsAll.1 mX5_readsAll.1 ∈ xgood := ⟨xg 466 (by decide +kernel) rfl, xgs 5 (by decide +kernel) rfl⟩
theorem lkX5_48 : XLk RX5 48 mX5_readsAll := Or.inl (xg 464 (by decide +kernel) rfl)
theorem lkX5_51 : XLk RX5 51 mX5_takes := Or.inl (xg 504 (by decide +kernel) rfl)
abbrev mX6_add : XM := (yX6_add, cX6_add, 2, (some (.boolean)))
theorem vX6_add : XV mX6_add 1 := ⟨xg 444 (by decide +kernel) rfl, xg 4 (by decide +kernel) rfl, ⟨by decide +kernel, by decide +kernel, by decide +kernel⟩, rfl⟩
theorem wX6_add : Cond.instanceMethod mX6_add.1 ∈ xgood ∧ Cond.selects mX6_add.1.cls mX6_add.1 mX6_add.1 ∈ xgood := ⟨xg 442 (by decide +kernel) rfl, xg 443 (by decide +kernel) rfl⟩
theorem lkX5_54 : XLk RX5 54 mX6_add := Or.inl (xg 497 (by decide +kernel) rfl)
abbrev mX5_readsComparison : XM := (yX5_readsComparison, cX5_readsComparison, 3, (some (.boolean)))
theorem vX5_readsComparison : XV mX5_readsComparison 1 := ⟨xg 471 (by decide +kernel) rfl, xg 8 (by decide +kernel) rfl, ⟨by decide +kernel, by decide +kernel, by decide +kernel⟩, rfl⟩
theorem wX5_readsComparison : Cond.instanceMethod mX5_readsComparison.1 ∈ xgood ∧ Cond.selects mX5_readsComparison.1.cls mX5_readsComparison.1 mX5_readsComparison.1 ∈ xgood := ⟨xg 470 (by decide +kernel) rfl, xgs 6 (by decide +kernel) rfl⟩
theorem lkX5_57 : XLk RX5 57 mX5_readsComparison := Or.inl (xg 468 (by decide +kernel) rfl)
abbrev mX5_readsSum : XM := (yX5_readsSum, cX5_readsSum, 5, (some (.boolean)))
theorem vX5_readsSum : XV mX5_readsSum 1 := ⟨xg 475 (by decide +kernel) rfl, xg 8 (by decide +kernel) rfl, ⟨by decide +kernel, by decide +kernel, by decide +kernel⟩, rfl⟩
theorem wX5_readsSum : Cond.instanceMethod mX5_readsSum.1 ∈ xgood ∧ Cond.selects mX5_readsSum.1.cls mX5_readsSum.1 mX5_readsSum.1 ∈ xgood := ⟨xg 474 (by decide +kernel) rfl, xgs 7 (by decide +kernel) rfl⟩
theorem lkX5_60 : XLk RX5 60 mX5_readsSum := Or.inl (xg 472 (by decide +kernel) rfl)
abbrev mX5_readsProduct : XM := (yX5_readsProduct, cX5_readsProduct, 5, (some (.boolean)))
theorem vX5_readsProduct : XV mX5_readsProduct 1 := ⟨xg 479 (by decide +kernel) rfl, xg 8 (by decide +kernel) rfl, ⟨by decide +kernel, by decide +kernel, by decide +kernel⟩, rfl⟩
theorem wX5_readsProduct : Cond.instanceMethod mX5_readsProduct.1 ∈ xgood ∧ Cond.selects mX5_readsProduct.1.cls mX5_readsProduct.1 mX5_readsProduct.1 ∈ xgood := ⟨xg 478 (by decide +kernel) rfl, xgs 8 (by decide +kernel) rfl⟩
theorem lkX5_63 : XLk RX5 63 mX5_readsProduct := Or.inl (xg 476 (by decide +kernel) rfl)
abbrev mX5_readsFactor : XM := (yX5_readsFactor, cX5_readsFactor, 5, (some (.boolean)))
theorem vX5_readsFactor : XV mX5_readsFactor 1 := ⟨xg 483 (by decide +kernel) rfl, xg 8 (by decide +kernel) rfl, ⟨by decide +kernel, by decide +kernel, by decide +kernel⟩, rfl⟩
theorem wX5_readsFactor : Cond.instanceMethod mX5_readsFactor.1 ∈ xgood ∧ Cond.selects mX5_readsFactor.1.cls mX5_readsFactor.1 mX5_readsFactor.1 ∈ xgood := ⟨xg 482 (by decide +kernel) rfl, xgs 9 (by decide +kernel) rfl⟩
theorem lkX5_66 : XLk RX5 66 mX5_readsFactor := Or.inl (xg 480 (by decide +kernel) rfl)
abbrev mX5_isDigit : XM := (yX5_isDigit, cX5_isDigit, 1, (some (.boolean)))
theorem vX5_isDigit : XV mX5_isDigit 1 := ⟨xg 492 (by decide +kernel) rfl, xg 8 (by decide +kernel) rfl, ⟨by decide +kernel, by decide +kernel, by decide +kernel⟩, rfl⟩
theorem sX5_isDigit : Cond.static mX5_isDigit.1 ∈ xgood := xg 491 (by decide +kernel) rfl
theorem lkX5_69 : XLk RX5 69 mX5_isDigit := Or.inl (xg 490 (by decide +kernel) rfl)
abbrev mX5_readNumber : XM := (yX5_readNumber, cX5_readNumber, 3, none)
theorem vX5_readNumber : XV mX5_readNumber 0 := ⟨xg 496 (by decide +kernel) rfl, xg 8 (by decide +kernel) rfl, ⟨by decide +kernel, by decide +kernel, by decide +kernel⟩, rfl⟩
theorem wX5_readNumber : Cond.instanceMethod mX5_readNumber.1 ∈ xgood ∧ Cond.selects mX5_readNumber.1.cls mX5_readNumber.1 mX5_readNumber.1 ∈ xgood := ⟨xg 495 (by decide +kernel) rfl, xgs 11 (by decide +kernel) rfl⟩
theorem lkX5_72 : XLk RX5 72 mX5_readNumber := Or.inl (xg 493 (by decide +kernel) rfl)
abbrev mX5_nameOf : XM := (yX5_nameOf, cX5_nameOf, 4, (some (.int)))
theorem vX5_nameOf : XV mX5_nameOf 1 := ⟨xg 501 (by decide +kernel) rfl, xg 8 (by decide +kernel) rfl, ⟨by decide +kernel, by decide +kernel, by decide +kernel⟩, rfl⟩
theorem wX5_nameOf : Cond.instanceMethod mX5_nameOf.1 ∈ xgood ∧ Cond.selects mX5_nameOf.1.cls mX5_nameOf.1 mX5_nameOf.1 ∈ xgood := ⟨xg 500 (by decide +kernel) rfl, xgs 12 (by decide +kernel) rfl⟩
theorem lkX5_75 : XLk RX5 75 mX5_nameOf := Or.inl (xg 498 (by decide +kernel) rfl)
theorem xnam : (Cond.fieldLinkNest RX5 78 RX9 "NAMES" "[C" "BlinkMoves") ∈ xnest := xnx 502 (by decide +kernel) rfl
theorem lkX6_1 : Cond.methodLink RX6 1 objectInit ∈ xgood := xg 44 (by decide +kernel) rfl
theorem lkX6_7 : XLk RX6 7 mJ9_max_7cf53 := Or.inl (xg 45 (by decide +kernel) rfl)
theorem fX6_13 : XF RX6 13 6 0 (.array .int) true := XF.of (C := RX6) (T := TX6) (N := 2) rfl rfl rfl (by decide +kernel) rfl (xg 48 (by decide +kernel) rfl)
theorem fX6_19 : XF RX6 19 6 1 .int false := XF.of (C := RX6) (T := TX6) (N := 2) rfl rfl rfl (by decide +kernel) rfl (xg 49 (by decide +kernel) rfl)
abbrev mX6_change : XM := (yX6_change, cX6_change, 3, none)
theorem vX6_change : XV mX6_change 2 := ⟨xg 743 (by decide +kernel) rfl, xg 4 (by decide +kernel) rfl, ⟨by decide +kernel, by decide +kernel, by decide +kernel⟩, rfl⟩
theorem wX6_change : Cond.instanceMethod mX6_change.1 ∈ xgood ∧ Cond.selects mX6_change.1.cls mX6_change.1 mX6_change.1 ∈ xgood := ⟨xg 741 (by decide +kernel) rfl, xg 742 (by decide +kernel) rfl⟩
abbrev mX6_beZeros : XM := (yX6_beZeros, cX6_beZeros, 3, none)
theorem vX6_beZeros : XV mX6_beZeros 1 := ⟨xg 528 (by decide +kernel) rfl, xg 4 (by decide +kernel) rfl, ⟨by decide +kernel, by decide +kernel, by decide +kernel⟩, rfl⟩
theorem wX6_beZeros : Cond.instanceMethod mX6_beZeros.1 ∈ xgood ∧ Cond.selects mX6_beZeros.1.cls mX6_beZeros.1 mX6_beZeros.1 ∈ xgood := ⟨xg 526 (by decide +kernel) rfl, xg 527 (by decide +kernel) rfl⟩
theorem lkX6_23 : XLk RX6 23 mX6_clear := Or.inl (xg 529 (by decide +kernel) rfl)
theorem lkX6_26 : XLk RX6 26 mX6_add := Or.inl (xg 530 (by decide +kernel) rfl)
abbrev mX6_spans : XM := (yX6_spans, cX6_spans, 3, (some (.boolean)))
theorem vX6_spans : XV mX6_spans 2 := ⟨xg 538 (by decide +kernel) rfl, xg 4 (by decide +kernel) rfl, ⟨by decide +kernel, by decide +kernel, by decide +kernel⟩, rfl⟩
theorem wX6_spans : Cond.instanceMethod mX6_spans.1 ∈ xgood ∧ Cond.selects mX6_spans.1.cls mX6_spans.1 mX6_spans.1 ∈ xgood := ⟨xg 536 (by decide +kernel) rfl, xg 537 (by decide +kernel) rfl⟩
abbrev mX6_takeFrom : XM := (yX6_takeFrom, cX6_takeFrom, 5, none)
theorem vX6_takeFrom : XV mX6_takeFrom 4 := ⟨xg 534 (by decide +kernel) rfl, xg 4 (by decide +kernel) rfl, ⟨by decide +kernel, by decide +kernel, by decide +kernel⟩, rfl⟩
theorem wX6_takeFrom : Cond.instanceMethod mX6_takeFrom.1 ∈ xgood ∧ Cond.selects mX6_takeFrom.1.cls mX6_takeFrom.1 mX6_takeFrom.1 ∈ xgood := ⟨xg 532 (by decide +kernel) rfl, xg 533 (by decide +kernel) rfl⟩
theorem lkX6_30 : XLk RX6 30 mX6_spans := Or.inl (xg 535 (by decide +kernel) rfl)
theorem lkX6_34 : Cond.methodLink RX6 34 arraycopyName ∈ xgood := xg 539 (by decide +kernel) rfl
theorem lkX6_40 : XLk RX6 40 mX6_beZeros := Or.inl (xg 525 (by decide +kernel) rfl)
theorem lkX6_44 : XLk RX6 44 mX6_takeFrom := Or.inl (xg 531 (by decide +kernel) rfl)
abbrev mX7_init : XM := (yX7_init, cX7_init, 1, none)
theorem vX7_init : XV mX7_init 0 := ⟨xg 245 (by decide +kernel) rfl, xg 11 (by decide +kernel) rfl, ⟨by decide +kernel, by decide +kernel, by decide +kernel⟩, rfl⟩
theorem wX7_init : Cond.instanceMethod mX7_init.1 ∈ xgood := xg 244 (by decide +kernel) rfl
theorem lkX7_3 : Cond.methodLink RX7 3 objectInit ∈ xgood := xg 246 (by decide +kernel) rfl
theorem nwX7_9 : Cond.classLink RX7 9 RX6 ∈ xgood ∧ Cond.instantiable RX6 2 ∈ xgood ∧ Cond.initialized RX6 ∈ xgood := ⟨xg 247 (by decide +kernel) rfl, xg 40 (by decide +kernel) rfl, xg 4 (by decide +kernel) rfl⟩
theorem lkX7_11 : XLk RX7 11 mX6_init := Or.inl (xg 248 (by decide +kernel) rfl)
theorem fX7_14 : XF RX7 14 7 0 (.object "BlinkMoves$Row") true := XF.of (C := RX7) (T := TX7) (N := 2) rfl rfl rfl (by decide +kernel) rfl (xg 249 (by decide +kernel) rfl)
abbrev mX7_isMissing : XM := (yX7_isMissing, cX7_isMissing, 1, (some (.boolean)))
theorem vX7_isMissing : XV mX7_isMissing 0 := ⟨xg 679 (by decide +kernel) rfl, xg 11 (by decide +kernel) rfl, ⟨by decide +kernel, by decide +kernel, by decide +kernel⟩, rfl⟩
theorem wX7_isMissing : Cond.instanceMethod mX7_isMissing.1 ∈ xgood ∧ Cond.selects mX7_isMissing.1.cls mX7_isMissing.1 mX7_isMissing.1 ∈ xgood := ⟨xg 677 (by decide +kernel) rfl, xg 678 (by decide +kernel) rfl⟩
theorem fX7_20 : XF RX7 20 7 1 .int false := XF.of (C := RX7) (T := TX7) (N := 2) rfl rfl rfl (by decide +kernel) rfl (xg 251 (by decide +kernel) rfl)
abbrev mX7_renew : XM := (yX7_renew, cX7_renew, 3, none)
theorem vX7_renew : XV mX7_renew 2 := ⟨xg 729 (by decide +kernel) rfl, xg 11 (by decide +kernel) rfl, ⟨by decide +kernel, by decide +kernel, by decide +kernel⟩, rfl⟩
theorem wX7_renew : Cond.instanceMethod mX7_renew.1 ∈ xgood ∧ Cond.selects mX7_renew.1.cls mX7_renew.1 mX7_renew.1 ∈ xgood := ⟨xg 727 (by decide +kernel) rfl, xg 728 (by decide +kernel) rfl⟩
theorem lkX7_24 : XLk RX7 24 mX6_beZeros := Or.inl (xg 730 (by decide +kernel) rfl)
abbrev mX7_lowestBits : XM := (yX7_lowestBits, cX7_lowestBits, 2, (some (.int)))
theorem vX7_lowestBits : XV mX7_lowestBits 1 := ⟨xg 738 (by decide +kernel) rfl, xg 11 (by decide +kernel) rfl, ⟨by decide +kernel, by decide +kernel, by decide +kernel⟩, rfl⟩
theorem wX7_lowestBits : Cond.instanceMethod mX7_lowestBits.1 ∈ xgood ∧ Cond.selects mX7_lowestBits.1.cls mX7_lowestBits.1 mX7_lowestBits.1 ∈ xgood := ⟨xg 736 (by decide +kernel) rfl, xg 737 (by decide +kernel) rfl⟩
theorem kX7_27 : Cond.constant RX7 27 (65535) ∈ xgood := xg 739 (by decide +kernel) rfl
abbrev mX8_init : XM := (yX8_init, cX8_init, 1, none)
theorem vX8_init : XV mX8_init 0 := ⟨xg 218 (by decide +kernel) rfl, xg 10 (by decide +kernel) rfl, ⟨by decide +kernel, by decide +kernel, by decide +kernel⟩, rfl⟩
theorem wX8_init : Cond.instanceMethod mX8_init.1 ∈ xgood := xg 217 (by decide +kernel) rfl
theorem lkX8_3 : Cond.methodLink RX8 3 objectInit ∈ xgood := xg 219 (by decide +kernel) rfl
theorem nwX8_9 : Cond.classLink RX8 9 RX6 ∈ xgood ∧ Cond.instantiable RX6 2 ∈ xgood ∧ Cond.initialized RX6 ∈ xgood := ⟨xg 220 (by decide +kernel) rfl, xg 40 (by decide +kernel) rfl, xg 4 (by decide +kernel) rfl⟩
theorem lkX8_11 : XLk RX8 11 mX6_init := Or.inl (xg 221 (by decide +kernel) rfl)
theorem fX8_14 : XF RX8 14 8 0 (.object "BlinkMoves$Row") true := XF.of (C := RX8) (T := TX8) (N := 5) rfl rfl rfl (by decide +kernel) rfl (xg 222 (by decide +kernel) rfl)
abbrev mX8_say : XM := (yX8_say, cX8_say, 5, (some (.int)))
theorem vX8_say : XV mX8_say 4 := ⟨xg 697 (by decide +kernel) rfl, xg 10 (by decide +kernel) rfl, ⟨by decide +kernel, by decide +kernel, by decide +kernel⟩, rfl⟩
theorem wX8_say : Cond.instanceMethod mX8_say.1 ∈ xgood ∧ Cond.selects mX8_say.1.cls mX8_say.1 mX8_say.1 ∈ xgood := ⟨xg 695 (by decide +kernel) rfl, xg 696 (by decide +kernel) rfl⟩
theorem lkX8_20 : XLk RX8 20 mX6_clear := Or.inl (xg 698 (by decide +kernel) rfl)
theorem fX8_23 : XF RX8 23 8 1 .boolean false := XF.of (C := RX8) (T := TX8) (N := 5) rfl rfl rfl (by decide +kernel) rfl (xg 224 (by decide +kernel) rfl)
theorem fX8_27 : XF RX8 27 4 0 .int false := XF.ofN (C := RX4) (T := TX4) (N := 4) (host := "BlinkMoves") rfl rfl rfl (by decide +kernel) rfl (xnx 78 (by decide +kernel) rfl)
theorem fX8_33 : XF RX8 33 8 2 .int false := XF.of (C := RX8) (T := TX8) (N := 5) rfl rfl rfl (by decide +kernel) rfl (xg 226 (by decide +kernel) rfl)
theorem fX8_36 : XF RX8 36 8 3 .int false := XF.of (C := RX8) (T := TX8) (N := 5) rfl rfl rfl (by decide +kernel) rfl (xg 227 (by decide +kernel) rfl)
theorem fX8_39 : XF RX8 39 4 1 .int false := XF.ofN (C := RX4) (T := TX4) (N := 4) (host := "BlinkMoves") rfl rfl rfl (by decide +kernel) rfl (xnx 81 (by decide +kernel) rfl)
theorem fX8_42 : XF RX8 42 8 4 .int false := XF.of (C := RX8) (T := TX8) (N := 5) rfl rfl rfl (by decide +kernel) rfl (xg 228 (by decide +kernel) rfl)
abbrev mX8_blinks : XM := (yX8_blinks, cX8_blinks, 3, (some (.int)))
theorem vX8_blinks : XV mX8_blinks 2 := ⟨xg 702 (by decide +kernel) rfl, xg 10 (by decide +kernel) rfl, ⟨by decide +kernel, by decide +kernel, by decide +kernel⟩, rfl⟩
theorem wX8_blinks : Cond.instanceMethod mX8_blinks.1 ∈ xgood ∧ Cond.selects mX8_blinks.1.cls mX8_blinks.1 mX8_blinks.1 ∈ xgood := ⟨xg 701 (by decide +kernel) rfl, xgs 19 (by decide +kernel) rfl⟩
theorem lkX8_43 : XLk RX8 43 mX8_blinks := Or.inl (xg 699 (by decide +kernel) rfl)
abbrev mX8_moves : XM := (yX8_moves, cX8_moves, 3, (some (.int)))
theorem vX8_moves : XV mX8_moves 2 := ⟨xg 707 (by decide +kernel) rfl, xg 10 (by decide +kernel) rfl, ⟨by decide +kernel, by decide +kernel, by decide +kernel⟩, rfl⟩
theorem wX8_moves : Cond.instanceMethod mX8_moves.1 ∈ xgood ∧ Cond.selects mX8_moves.1.cls mX8_moves.1 mX8_moves.1 ∈ xgood := ⟨xg 706 (by decide +kernel) rfl, xgs 20 (by decide +kernel) rfl⟩
theorem lkX8_47 : XLk RX8 47 mX8_moves := Or.inl (xg 704 (by decide +kernel) rfl)
abbrev mX8_looks : XM := (yX8_looks, cX8_looks, 3, (some (.int)))
theorem vX8_looks : XV mX8_looks 2 := ⟨xg 711 (by decide +kernel) rfl, xg 10 (by decide +kernel) rfl, ⟨by decide +kernel, by decide +kernel, by decide +kernel⟩, rfl⟩
theorem wX8_looks : Cond.instanceMethod mX8_looks.1 ∈ xgood ∧ Cond.selects mX8_looks.1.cls mX8_looks.1 mX8_looks.1 ∈ xgood := ⟨xg 710 (by decide +kernel) rfl, xgs 21 (by decide +kernel) rfl⟩
theorem lkX8_50 : XLk RX8 50 mX8_looks := Or.inl (xg 708 (by decide +kernel) rfl)
abbrev mX8_parts : XM := (yX8_parts, cX8_parts, 4, (some (.int)))
theorem vX8_parts : XV mX8_parts 2 := ⟨xg 715 (by decide +kernel) rfl, xg 10 (by decide +kernel) rfl, ⟨by decide +kernel, by decide +kernel, by decide +kernel⟩, rfl⟩
theorem wX8_parts : Cond.instanceMethod mX8_parts.1 ∈ xgood ∧ Cond.selects mX8_parts.1.cls mX8_parts.1 mX8_parts.1 ∈ xgood := ⟨xg 714 (by decide +kernel) rfl, xgs 22 (by decide +kernel) rfl⟩
theorem lkX8_53 : XLk RX8 53 mX8_parts := Or.inl (xg 712 (by decide +kernel) rfl)
theorem lkX8_56 : XLk RX8 56 mX6_add := Or.inl (xg 703 (by decide +kernel) rfl)
abbrev mX9_init : XM := (yX9_init, cX9_init, 2, none)
theorem vX9_init : XV mX9_init 0 := ⟨xg 19 (by decide +kernel) rfl, xg 1 (by decide +kernel) rfl, ⟨by decide +kernel, by decide +kernel, by decide +kernel⟩, rfl⟩
theorem wX9_init : Cond.instanceMethod mX9_init.1 ∈ xgood := xg 18 (by decide +kernel) rfl
theorem lkX9_3 : Cond.methodLink RX9 3 objectInit ∈ xgood := xg 20 (by decide +kernel) rfl
theorem nwX9_9 : Cond.classLink RX9 9 RX2 ∈ xgood ∧ Cond.instantiable RX2 10 ∈ xgood ∧ Cond.initialized RX2 ∈ xgood := ⟨xg 23 (by decide +kernel) rfl, xg 24 (by decide +kernel) rfl, xg 2 (by decide +kernel) rfl⟩
theorem lkX9_11 : XLk RX9 11 mX2_init := Or.inl (xg 25 (by decide +kernel) rfl)
theorem fX9_12 : XF RX9 12 9 0 (.object "BlinkMoves$Island") true := XF.of (C := RX9) (T := TX9) (N := 8) rfl rfl rfl (by decide +kernel) rfl (xg 258 (by decide +kernel) rfl)
theorem nwX9_16 : Cond.classLink RX9 16 RX5 ∈ xgood ∧ Cond.instantiable RX5 4 ∈ xgood ∧ Cond.initialized RX5 ∈ xgood := ⟨xg 163 (by decide +kernel) rfl, xg 164 (by decide +kernel) rfl, xg 8 (by decide +kernel) rfl⟩
theorem fX9_18 : XF RX9 18 2 4 (.object "BlinkMoves$Row") true := XF.ofN (C := RX2) (T := TX2) (N := 10) (host := "BlinkMoves") rfl rfl rfl (by decide +kernel) rfl (xnx 129 (by decide +kernel) rfl)
theorem lkX9_22 : XLk RX9 22 mX5_init := Or.inl (xg 165 (by decide +kernel) rfl)
theorem fX9_25 : XF RX9 25 9 1 (.object "BlinkMoves$Reader") true := XF.of (C := RX9) (T := TX9) (N := 8) rfl rfl rfl (by decide +kernel) rfl (xg 259 (by decide +kernel) rfl)
theorem nwX9_29 : Cond.classLink RX9 29 RX1 ∈ xgood ∧ Cond.instantiable RX1 6 ∈ xgood ∧ Cond.initialized RX1 ∈ xgood := ⟨xg 185 (by decide +kernel) rfl, xg 186 (by decide +kernel) rfl, xg 9 (by decide +kernel) rfl⟩
theorem lkX9_31 : XLk RX9 31 mX1_init := Or.inl (xg 187 (by decide +kernel) rfl)
theorem fX9_34 : XF RX9 34 9 2 (.object "BlinkMoves$Foresight") true := XF.of (C := RX9) (T := TX9) (N := 8) rfl rfl rfl (by decide +kernel) rfl (xg 260 (by decide +kernel) rfl)
theorem nwX9_38 : Cond.classLink RX9 38 RX8 ∈ xgood ∧ Cond.instantiable RX8 5 ∈ xgood ∧ Cond.initialized RX8 ∈ xgood := ⟨xg 214 (by decide +kernel) rfl, xg 215 (by decide +kernel) rfl, xg 10 (by decide +kernel) rfl⟩
theorem lkX9_40 : XLk RX9 40 mX8_init := Or.inr ⟨"BlinkMoves", xnx 216 (by decide +kernel) rfl⟩
theorem fX9_41 : XF RX9 41 9 3 (.object "BlinkMoves$Voices") true := XF.of (C := RX9) (T := TX9) (N := 8) rfl rfl rfl (by decide +kernel) rfl (xg 261 (by decide +kernel) rfl)
theorem nqX9_45 : Cond.classLink RX9 45 (xel 2) ∈ xgood := xg 240 (by decide +kernel) rfl
theorem fX9_47 : XF RX9 47 9 4 (.array (.object "BlinkMoves$Sheet")) true := XF.of (C := RX9) (T := TX9) (N := 8) rfl rfl rfl (by decide +kernel) rfl (xg 262 (by decide +kernel) rfl)
theorem fX9_51 : XF RX9 51 9 5 (.array .int) true := XF.of (C := RX9) (T := TX9) (N := 8) rfl rfl rfl (by decide +kernel) rfl (xg 263 (by decide +kernel) rfl)
theorem nwX9_45 : Cond.classLink RX9 45 RX7 ∈ xgood ∧ Cond.instantiable RX7 2 ∈ xgood ∧ Cond.initialized RX7 ∈ xgood := ⟨xg 240 (by decide +kernel) rfl, xg 242 (by decide +kernel) rfl, xg 11 (by decide +kernel) rfl⟩
theorem lkX9_55 : XLk RX9 55 mX7_init := Or.inr ⟨"BlinkMoves", xnx 243 (by decide +kernel) rfl⟩
abbrev mX9_person : XM := (yX9_person, cX9_person, 6, (some (.int)))
theorem vX9_person : XV mX9_person 3 := ⟨xg 286 (by decide +kernel) rfl, xg 1 (by decide +kernel) rfl, ⟨by decide +kernel, by decide +kernel, by decide +kernel⟩, rfl⟩
theorem wX9_person : Cond.instanceMethod mX9_person.1 ∈ xgood ∧ Cond.selects mX9_person.1.cls mX9_person.1 mX9_person.1 ∈ xgood := ⟨xg 284 (by decide +kernel) rfl, xg 285 (by decide +kernel) rfl⟩
abbrev mX9_isKindAndNumber : XM := (yX9_isKindAndNumber, cX9_isKindAndNumber, 1, (some (.boolean)))
theorem vX9_isKindAndNumber : XV mX9_isKindAndNumber 1 := ⟨xg 289 (by decide +kernel) rfl, xg 1 (by decide +kernel) rfl, ⟨by decide +kernel, by decide +kernel, by decide +kernel⟩, rfl⟩
theorem sX9_isKindAndNumber : Cond.static mX9_isKindAndNumber.1 ∈ xgood := xg 288 (by decide +kernel) rfl
theorem lkX9_56 : XLk RX9 56 mX9_isKindAndNumber := Or.inl (xg 287 (by decide +kernel) rfl)
abbrev mX9_isBeatAndPhase : XM := (yX9_isBeatAndPhase, cX9_isBeatAndPhase, 2, (some (.boolean)))
theorem vX9_isBeatAndPhase : XV mX9_isBeatAndPhase 2 := ⟨xg 295 (by decide +kernel) rfl, xg 1 (by decide +kernel) rfl, ⟨by decide +kernel, by decide +kernel, by decide +kernel⟩, rfl⟩
theorem sX9_isBeatAndPhase : Cond.static mX9_isBeatAndPhase.1 ∈ xgood := xg 294 (by decide +kernel) rfl
theorem lkX9_60 : XLk RX9 60 mX9_isBeatAndPhase := Or.inl (xg 293 (by decide +kernel) rfl)
theorem kX9_64 : Cond.constant RX9 64 (-1000000001) ∈ xgood := xg 296 (by decide +kernel) rfl
abbrev mX9_fail : XM := (yX9_fail, cX9_fail, 3, (some (.int)))
theorem vX9_fail : XV mX9_fail 1 := ⟨xg 300 (by decide +kernel) rfl, xg 1 (by decide +kernel) rfl, ⟨by decide +kernel, by decide +kernel, by decide +kernel⟩, rfl⟩
theorem wX9_fail : Cond.instanceMethod mX9_fail.1 ∈ xgood ∧ Cond.selects mX9_fail.1.cls mX9_fail.1 mX9_fail.1 ∈ xgood := ⟨xg 299 (by decide +kernel) rfl, xgs 0 (by decide +kernel) rfl⟩
theorem lkX9_65 : XLk RX9 65 mX9_fail := Or.inl (xg 297 (by decide +kernel) rfl)
theorem fX9_69 : XF RX9 69 2 6 .int false := XF.ofN (C := RX2) (T := TX2) (N := 10) (host := "BlinkMoves") rfl rfl rfl (by decide +kernel) rfl (xnx 133 (by decide +kernel) rfl)
theorem kX9_73 : Cond.constant RX9 73 (-1000000004) ∈ xgood := xg 302 (by decide +kernel) rfl
theorem fX9_74 : XF RX9 74 2 0 (.array (.object "BlinkMoves$Person")) true := XF.ofN (C := RX2) (T := TX2) (N := 10) (host := "BlinkMoves") rfl rfl rfl (by decide +kernel) rfl (xnx 123 (by decide +kernel) rfl)
theorem lkX9_78 : XLk RX9 78 mX4_turnInto := Or.inl (xg 303 (by decide +kernel) rfl)
theorem fX9_84 : XF RX9 84 4 2 .int false := XF.ofN (C := RX4) (T := TX4) (N := 4) (host := "BlinkMoves") rfl rfl rfl (by decide +kernel) rfl (xnx 84 (by decide +kernel) rfl)
theorem fX9_87 : XF RX9 87 4 3 .int false := XF.ofN (C := RX4) (T := TX4) (N := 4) (host := "BlinkMoves") rfl rfl rfl (by decide +kernel) rfl (xnx 87 (by decide +kernel) rfl)
abbrev mX9_personIs : XM := (yX9_personIs, cX9_personIs, 4, (some (.int)))
theorem vX9_personIs : XV mX9_personIs 2 := ⟨xg 310 (by decide +kernel) rfl, xg 1 (by decide +kernel) rfl, ⟨by decide +kernel, by decide +kernel, by decide +kernel⟩, rfl⟩
theorem wX9_personIs : Cond.instanceMethod mX9_personIs.1 ∈ xgood ∧ Cond.selects mX9_personIs.1.cls mX9_personIs.1 mX9_personIs.1 ∈ xgood := ⟨xg 308 (by decide +kernel) rfl, xg 309 (by decide +kernel) rfl⟩
theorem lkX9_90 : XLk RX9 90 mX2_hasPerson := Or.inl (xg 311 (by decide +kernel) rfl)
theorem lkX9_93 : XLk RX9 93 mX9_within := Or.inl (xg 290 (by decide +kernel) rfl)
theorem fX9_97 : XF RX9 97 4 0 .int false := XF.ofN (C := RX4) (T := TX4) (N := 4) (host := "BlinkMoves") rfl rfl rfl (by decide +kernel) rfl (xnx 79 (by decide +kernel) rfl)
theorem fX9_100 : XF RX9 100 4 1 .int false := XF.ofN (C := RX4) (T := TX4) (N := 4) (host := "BlinkMoves") rfl rfl rfl (by decide +kernel) rfl (xnx 82 (by decide +kernel) rfl)
theorem fX9_103 : XF RX9 103 2 8 .int false := XF.ofN (C := RX2) (T := TX2) (N := 10) (host := "BlinkMoves") rfl rfl rfl (by decide +kernel) rfl (xnx 139 (by decide +kernel) rfl)
theorem lkX9_106 : XLk RX9 106 mX2_isShut := Or.inl (xg 316 (by decide +kernel) rfl)
abbrev mX9_become : XM := (yX9_become, cX9_become, 5, (some (.int)))
theorem vX9_become : XV mX9_become 2 := ⟨xg 368 (by decide +kernel) rfl, xg 1 (by decide +kernel) rfl, ⟨by decide +kernel, by decide +kernel, by decide +kernel⟩, rfl⟩
theorem wX9_become : Cond.instanceMethod mX9_become.1 ∈ xgood ∧ Cond.selects mX9_become.1.cls mX9_become.1 mX9_become.1 ∈ xgood := ⟨xg 366 (by decide +kernel) rfl, xg 367 (by decide +kernel) rfl⟩
abbrev mX9_as : XM := (yX9_as, cX9_as, 4, (some (.int)))
theorem vX9_as : XV mX9_as 2 := ⟨xg 372 (by decide +kernel) rfl, xg 1 (by decide +kernel) rfl, ⟨by decide +kernel, by decide +kernel, by decide +kernel⟩, rfl⟩
theorem wX9_as : Cond.instanceMethod mX9_as.1 ∈ xgood ∧ Cond.selects mX9_as.1.cls mX9_as.1 mX9_as.1 ∈ xgood := ⟨xg 370 (by decide +kernel) rfl, xg 371 (by decide +kernel) rfl⟩
abbrev mX9_isUnder : XM := (yX9_isUnder, cX9_isUnder, 4, (some (.boolean)))
theorem vX9_isUnder : XV mX9_isUnder 2 := ⟨xg 375 (by decide +kernel) rfl, xg 1 (by decide +kernel) rfl, ⟨by decide +kernel, by decide +kernel, by decide +kernel⟩, rfl⟩
theorem sX9_isUnder : Cond.static mX9_isUnder.1 ∈ xgood := xg 374 (by decide +kernel) rfl
theorem lkX9_109 : XLk RX9 109 mX9_isUnder := Or.inl (xg 373 (by decide +kernel) rfl)
theorem kX9_112 : Cond.constant RX9 112 (-1000000005) ∈ xgood := xg 378 (by decide +kernel) rfl
abbrev mX9_beats : XM := (yX9_beats, cX9_beats, 6, (some (.int)))
theorem vX9_beats : XV mX9_beats 3 := ⟨xg 382 (by decide +kernel) rfl, xg 1 (by decide +kernel) rfl, ⟨by decide +kernel, by decide +kernel, by decide +kernel⟩, rfl⟩
theorem wX9_beats : Cond.instanceMethod mX9_beats.1 ∈ xgood ∧ Cond.selects mX9_beats.1.cls mX9_beats.1 mX9_beats.1 ∈ xgood := ⟨xg 380 (by decide +kernel) rfl, xg 381 (by decide +kernel) rfl⟩
abbrev mX9_doing : XM := (yX9_doing, cX9_doing, 6, (some (.int)))
theorem vX9_doing : XV mX9_doing 3 := ⟨xg 386 (by decide +kernel) rfl, xg 1 (by decide +kernel) rfl, ⟨by decide +kernel, by decide +kernel, by decide +kernel⟩, rfl⟩
theorem wX9_doing : Cond.instanceMethod mX9_doing.1 ∈ xgood ∧ Cond.selects mX9_doing.1.cls mX9_doing.1 mX9_doing.1 ∈ xgood := ⟨xg 384 (by decide +kernel) rfl, xg 385 (by decide +kernel) rfl⟩
abbrev mX9_isParts : XM := (yX9_isParts, cX9_isParts, 1, (some (.boolean)))
theorem vX9_isParts : XV mX9_isParts 1 := ⟨xg 389 (by decide +kernel) rfl, xg 1 (by decide +kernel) rfl, ⟨by decide +kernel, by decide +kernel, by decide +kernel⟩, rfl⟩
theorem sX9_isParts : Cond.static mX9_isParts.1 ∈ xgood := xg 388 (by decide +kernel) rfl
theorem lkX9_113 : XLk RX9 113 mX9_isParts := Or.inl (xg 387 (by decide +kernel) rfl)
theorem lkX9_116 : XLk RX9 116 mX2_hasSet := Or.inl (xg 390 (by decide +kernel) rfl)
theorem lkX9_119 : XLk RX9 119 mX9_holds := Or.inl (xg 394 (by decide +kernel) rfl)
theorem fX9_122 : XF RX9 122 2 7 .int false := XF.ofN (C := RX2) (T := TX2) (N := 10) (host := "BlinkMoves") rfl rfl rfl (by decide +kernel) rfl (xnx 136 (by decide +kernel) rfl)
theorem fX9_125 : XF RX9 125 2 1 (.array (.object "BlinkMoves$Doing")) true := XF.ofN (C := RX2) (T := TX2) (N := 10) (host := "BlinkMoves") rfl rfl rfl (by decide +kernel) rfl (xnx 126 (by decide +kernel) rfl)
theorem fX9_129 : XF RX9 129 0 0 .int false := XF.ofN (C := RX0) (T := TX0) (N := 3) (host := "BlinkMoves") rfl rfl rfl (by decide +kernel) rfl (xnx 105 (by decide +kernel) rfl)
theorem fX9_134 : XF RX9 134 0 1 .int false := XF.ofN (C := RX0) (T := TX0) (N := 3) (host := "BlinkMoves") rfl rfl rfl (by decide +kernel) rfl (xnx 109 (by decide +kernel) rfl)
theorem fX9_137 : XF RX9 137 0 2 .int false := XF.ofN (C := RX0) (T := TX0) (N := 3) (host := "BlinkMoves") rfl rfl rfl (by decide +kernel) rfl (xnx 113 (by decide +kernel) rfl)
abbrev mX9_doingIs : XM := (yX9_doingIs, cX9_doingIs, 4, (some (.int)))
theorem vX9_doingIs : XV mX9_doingIs 2 := ⟨xg 400 (by decide +kernel) rfl, xg 1 (by decide +kernel) rfl, ⟨by decide +kernel, by decide +kernel, by decide +kernel⟩, rfl⟩
theorem wX9_doingIs : Cond.instanceMethod mX9_doingIs.1 ∈ xgood ∧ Cond.selects mX9_doingIs.1.cls mX9_doingIs.1 mX9_doingIs.1 ∈ xgood := ⟨xg 398 (by decide +kernel) rfl, xg 399 (by decide +kernel) rfl⟩
theorem lkX9_140 : XLk RX9 140 mX2_hasDoing := Or.inl (xg 401 (by decide +kernel) rfl)
theorem lkX9_143 : XLk RX9 143 mX2_shutSet := Or.inl (xg 405 (by decide +kernel) rfl)
theorem lkX9_146 : XLk RX9 146 mX2_getsOnBy := Or.inl (xg 409 (by decide +kernel) rfl)
abbrev mX9_sets : XM := (yX9_sets, cX9_sets, 5, (some (.int)))
theorem vX9_sets : XV mX9_sets 2 := ⟨xg 430 (by decide +kernel) rfl, xg 1 (by decide +kernel) rfl, ⟨by decide +kernel, by decide +kernel, by decide +kernel⟩, rfl⟩
theorem wX9_sets : Cond.instanceMethod mX9_sets.1 ∈ xgood ∧ Cond.selects mX9_sets.1.cls mX9_sets.1 mX9_sets.1 ∈ xgood := ⟨xg 428 (by decide +kernel) rfl, xg 429 (by decide +kernel) rfl⟩
abbrev mX9_shut : XM := (yX9_shut, cX9_shut, 1, (some (.int)))
theorem vX9_shut : XV mX9_shut 0 := ⟨xg 434 (by decide +kernel) rfl, xg 1 (by decide +kernel) rfl, ⟨by decide +kernel, by decide +kernel, by decide +kernel⟩, rfl⟩
theorem wX9_shut : Cond.instanceMethod mX9_shut.1 ∈ xgood ∧ Cond.selects mX9_shut.1.cls mX9_shut.1 mX9_shut.1 ∈ xgood := ⟨xg 432 (by decide +kernel) rfl, xg 433 (by decide +kernel) rfl⟩
abbrev mX9_feed : XM := (yX9_feed, cX9_feed, 5, (some (.int)))
theorem vX9_feed : XV mX9_feed 2 := ⟨xg 438 (by decide +kernel) rfl, xg 1 (by decide +kernel) rfl, ⟨by decide +kernel, by decide +kernel, by decide +kernel⟩, rfl⟩
theorem wX9_feed : Cond.instanceMethod mX9_feed.1 ∈ xgood ∧ Cond.selects mX9_feed.1.cls mX9_feed.1 mX9_feed.1 ∈ xgood := ⟨xg 436 (by decide +kernel) rfl, xg 437 (by decide +kernel) rfl⟩
theorem lkX9_150 : XLk RX9 150 mX6_size := Or.inl (xg 439 (by decide +kernel) rfl)
theorem klX9_156 : Cond.constantLong RX9 156 (255) ∈ xgood := xg 440 (by decide +kernel) rfl
theorem lkX9_158 : XLk RX9 158 mX6_add := Or.inl (xg 441 (by decide +kernel) rfl)
abbrev mX9_text : XM := (yX9_text, cX9_text, 3, (some (.int)))
theorem vX9_text : XV mX9_text 1 := ⟨xg 448 (by decide +kernel) rfl, xg 1 (by decide +kernel) rfl, ⟨by decide +kernel, by decide +kernel, by decide +kernel⟩, rfl⟩
theorem wX9_text : Cond.instanceMethod mX9_text.1 ∈ xgood ∧ Cond.selects mX9_text.1.cls mX9_text.1 mX9_text.1 ∈ xgood := ⟨xg 446 (by decide +kernel) rfl, xg 447 (by decide +kernel) rfl⟩
abbrev mX9_isUse : XM := (yX9_isUse, cX9_isUse, 1, (some (.boolean)))
theorem vX9_isUse : XV mX9_isUse 1 := ⟨xg 451 (by decide +kernel) rfl, xg 1 (by decide +kernel) rfl, ⟨by decide +kernel, by decide +kernel, by decide +kernel⟩, rfl⟩
theorem sX9_isUse : Cond.static mX9_isUse.1 ∈ xgood := xg 450 (by decide +kernel) rfl
theorem lkX9_161 : XLk RX9 161 mX9_isUse := Or.inl (xg 449 (by decide +kernel) rfl)
theorem lkX9_164 : XLk RX9 164 mX5_reads := Or.inl (xg 452 (by decide +kernel) rfl)
theorem lkX9_167 : XLk RX9 167 mX6_clear := Or.inl (xg 508 (by decide +kernel) rfl)
theorem lkX9_170 : XLk RX9 170 mX5_fault := Or.inl (xg 509 (by decide +kernel) rfl)
theorem lkX9_173 : XLk RX9 173 mX2_lawOf := Or.inl (xg 513 (by decide +kernel) rfl)
theorem fX9_177 : XF RX9 177 5 1 (.object "BlinkMoves$Row") true := XF.ofN (C := RX5) (T := TX5) (N := 4) (host := "BlinkMoves") rfl rfl rfl (by decide +kernel) rfl (xnx 173 (by decide +kernel) rfl)
theorem lkX9_180 : XLk RX9 180 mX3_give := Or.inl (xg 517 (by decide +kernel) rfl)
abbrev mX9_untell : XM := (yX9_untell, cX9_untell, 4, (some (.int)))
theorem vX9_untell : XV mX9_untell 1 := ⟨xg 545 (by decide +kernel) rfl, xg 1 (by decide +kernel) rfl, ⟨by decide +kernel, by decide +kernel, by decide +kernel⟩, rfl⟩
theorem wX9_untell : Cond.instanceMethod mX9_untell.1 ∈ xgood ∧ Cond.selects mX9_untell.1.cls mX9_untell.1 mX9_untell.1 ∈ xgood := ⟨xg 543 (by decide +kernel) rfl, xg 544 (by decide +kernel) rfl⟩
theorem fX9_185 : XF RX9 185 3 3 .boolean false := XF.ofN (C := RX3) (T := TX3) (N := 4) (host := "BlinkMoves") rfl rfl rfl (by decide +kernel) rfl (xnx 60 (by decide +kernel) rfl)
abbrev mX9_law : XM := (yX9_law, cX9_law, 5, (some (.int)))
theorem vX9_law : XV mX9_law 4 := ⟨xg 549 (by decide +kernel) rfl, xg 1 (by decide +kernel) rfl, ⟨by decide +kernel, by decide +kernel, by decide +kernel⟩, rfl⟩
theorem wX9_law : Cond.instanceMethod mX9_law.1 ∈ xgood ∧ Cond.selects mX9_law.1.cls mX9_law.1 mX9_law.1 ∈ xgood := ⟨xg 547 (by decide +kernel) rfl, xg 548 (by decide +kernel) rfl⟩
theorem lkX9_189 : XLk RX9 189 mX3_gives := Or.inl (xg 550 (by decide +kernel) rfl)
abbrev mX9_ticks : XM := (yX9_ticks, cX9_ticks, 4, (some (.int)))
theorem vX9_ticks : XV mX9_ticks 1 := ⟨xg 554 (by decide +kernel) rfl, xg 1 (by decide +kernel) rfl, ⟨by decide +kernel, by decide +kernel, by decide +kernel⟩, rfl⟩
theorem wX9_ticks : Cond.instanceMethod mX9_ticks.1 ∈ xgood ∧ Cond.selects mX9_ticks.1.cls mX9_ticks.1 mX9_ticks.1 ∈ xgood := ⟨xg 552 (by decide +kernel) rfl, xg 553 (by decide +kernel) rfl⟩
theorem kX9_193 : Cond.constant RX9 193 (99999) ∈ xgood := xg 555 (by decide +kernel) rfl
theorem kX9_194 : Cond.constant RX9 194 (-1000000003) ∈ xgood := xg 556 (by decide +kernel) rfl
theorem lkX9_195 : XLk RX9 195 mX2_goBy := Or.inl (xg 557 (by decide +kernel) rfl)
abbrev mX9_loose : XM := (yX9_loose, cX9_loose, 4, (some (.int)))
theorem vX9_loose : XV mX9_loose 1 := ⟨xg 571 (by decide +kernel) rfl, xg 1 (by decide +kernel) rfl, ⟨by decide +kernel, by decide +kernel, by decide +kernel⟩, rfl⟩
theorem wX9_loose : Cond.instanceMethod mX9_loose.1 ∈ xgood ∧ Cond.selects mX9_loose.1.cls mX9_loose.1 mX9_loose.1 ∈ xgood := ⟨xg 569 (by decide +kernel) rfl, xg 570 (by decide +kernel) rfl⟩
theorem lkX9_198 : XLk RX9 198 mX2_drawPhase := Or.inl (xg 572 (by decide +kernel) rfl)
abbrev mX9_tick : XM := (yX9_tick, cX9_tick, 3, (some (.int)))
theorem vX9_tick : XV mX9_tick 1 := ⟨xg 584 (by decide +kernel) rfl, xg 1 (by decide +kernel) rfl, ⟨by decide +kernel, by decide +kernel, by decide +kernel⟩, rfl⟩
theorem wX9_tick : Cond.instanceMethod mX9_tick.1 ∈ xgood ∧ Cond.selects mX9_tick.1.cls mX9_tick.1 mX9_tick.1 ∈ xgood := ⟨xg 582 (by decide +kernel) rfl, xg 583 (by decide +kernel) rfl⟩
abbrev mX9_seed : XM := (yX9_seed, cX9_seed, 3, (some (.int)))
theorem vX9_seed : XV mX9_seed 1 := ⟨xg 588 (by decide +kernel) rfl, xg 1 (by decide +kernel) rfl, ⟨by decide +kernel, by decide +kernel, by decide +kernel⟩, rfl⟩
theorem wX9_seed : Cond.instanceMethod mX9_seed.1 ∈ xgood ∧ Cond.selects mX9_seed.1.cls mX9_seed.1 mX9_seed.1 ∈ xgood := ⟨xg 586 (by decide +kernel) rfl, xg 587 (by decide +kernel) rfl⟩
theorem fX9_201 : XF RX9 201 2 9 .int false := XF.ofN (C := RX2) (T := TX2) (N := 10) (host := "BlinkMoves") rfl rfl rfl (by decide +kernel) rfl (xnx 141 (by decide +kernel) rfl)
abbrev mX9_then : XM := (yX9_then, cX9_then, 3, (some (.int)))
theorem vX9_then : XV mX9_then 2 := ⟨xg 592 (by decide +kernel) rfl, xg 1 (by decide +kernel) rfl, ⟨by decide +kernel, by decide +kernel, by decide +kernel⟩, rfl⟩
theorem wX9_then : Cond.instanceMethod mX9_then.1 ∈ xgood ∧ Cond.selects mX9_then.1.cls mX9_then.1 mX9_then.1 ∈ xgood := ⟨xg 590 (by decide +kernel) rfl, xg 591 (by decide +kernel) rfl⟩
theorem lkX9_204 : XLk RX9 204 mX1_partsBehind := Or.inl (xg 593 (by decide +kernel) rfl)
abbrev mX9_soonest : XM := (yX9_soonest, cX9_soonest, 3, (some (.int)))
theorem vX9_soonest : XV mX9_soonest 1 := ⟨xg 602 (by decide +kernel) rfl, xg 1 (by decide +kernel) rfl, ⟨by decide +kernel, by decide +kernel, by decide +kernel⟩, rfl⟩
theorem wX9_soonest : Cond.instanceMethod mX9_soonest.1 ∈ xgood ∧ Cond.selects mX9_soonest.1.cls mX9_soonest.1 mX9_soonest.1 ∈ xgood := ⟨xg 600 (by decide +kernel) rfl, xg 601 (by decide +kernel) rfl⟩
theorem lkX9_208 : XLk RX9 208 mX1_soonestDone := Or.inl (xg 603 (by decide +kernel) rfl)
theorem kX9_212 : Cond.constant RX9 212 (-1000000002) ∈ xgood := xg 607 (by decide +kernel) rfl
abbrev mX9_moment : XM := (yX9_moment, cX9_moment, 3, (some (.int)))
theorem vX9_moment : XV mX9_moment 1 := ⟨xg 611 (by decide +kernel) rfl, xg 1 (by decide +kernel) rfl, ⟨by decide +kernel, by decide +kernel, by decide +kernel⟩, rfl⟩
theorem wX9_moment : Cond.instanceMethod mX9_moment.1 ∈ xgood ∧ Cond.selects mX9_moment.1.cls mX9_moment.1 mX9_moment.1 ∈ xgood := ⟨xg 609 (by decide +kernel) rfl, xg 610 (by decide +kernel) rfl⟩
theorem lkX9_213 : XLk RX9 213 mX1_firstMoment := Or.inl (xg 612 (by decide +kernel) rfl)
abbrev mX9_moments : XM := (yX9_moments, cX9_moments, 3, (some (.int)))
theorem vX9_moments : XV mX9_moments 2 := ⟨xg 625 (by decide +kernel) rfl, xg 1 (by decide +kernel) rfl, ⟨by decide +kernel, by decide +kernel, by decide +kernel⟩, rfl⟩
theorem wX9_moments : Cond.instanceMethod mX9_moments.1 ∈ xgood ∧ Cond.selects mX9_moments.1.cls mX9_moments.1 mX9_moments.1 ∈ xgood := ⟨xg 623 (by decide +kernel) rfl, xg 624 (by decide +kernel) rfl⟩
theorem lkX9_216 : XLk RX9 216 mX1_momentsAmong := Or.inl (xg 626 (by decide +kernel) rfl)
abbrev mX9_away : XM := (yX9_away, cX9_away, 5, (some (.int)))
theorem vX9_away : XV mX9_away 3 := ⟨xg 633 (by decide +kernel) rfl, xg 1 (by decide +kernel) rfl, ⟨by decide +kernel, by decide +kernel, by decide +kernel⟩, rfl⟩
theorem wX9_away : Cond.instanceMethod mX9_away.1 ∈ xgood ∧ Cond.selects mX9_away.1.cls mX9_away.1 mX9_away.1 ∈ xgood := ⟨xg 631 (by decide +kernel) rfl, xg 632 (by decide +kernel) rfl⟩
theorem lkX9_220 : XLk RX9 220 mX1_fewestAway := Or.inl (xg 634 (by decide +kernel) rfl)
theorem lkX9_223 : XLk RX9 223 mJ6_bitCount_0f7a4 := Or.inl (xg 647 (by decide +kernel) rfl)
abbrev mX9_phaseFor : XM := (yX9_phaseFor, cX9_phaseFor, 4, (some (.int)))
theorem vX9_phaseFor : XV mX9_phaseFor 3 := ⟨xg 651 (by decide +kernel) rfl, xg 1 (by decide +kernel) rfl, ⟨by decide +kernel, by decide +kernel, by decide +kernel⟩, rfl⟩
theorem wX9_phaseFor : Cond.instanceMethod mX9_phaseFor.1 ∈ xgood ∧ Cond.selects mX9_phaseFor.1.cls mX9_phaseFor.1 mX9_phaseFor.1 ∈ xgood := ⟨xg 649 (by decide +kernel) rfl, xg 650 (by decide +kernel) rfl⟩
theorem lkX9_228 : XLk RX9 228 mX1_findPhase := Or.inl (xg 652 (by decide +kernel) rfl)
theorem fX9_232 : XF RX9 232 1 2 .int false := XF.ofN (C := RX1) (T := TX1) (N := 6) (host := "BlinkMoves") rfl rfl rfl (by decide +kernel) rfl (xnx 194 (by decide +kernel) rfl)
theorem fX9_235 : XF RX9 235 1 3 .int false := XF.ofN (C := RX1) (T := TX1) (N := 6) (host := "BlinkMoves") rfl rfl rfl (by decide +kernel) rfl (xnx 196 (by decide +kernel) rfl)
abbrev mX9_odds : XM := (yX9_odds, cX9_odds, 7, (some (.int)))
theorem vX9_odds : XV mX9_odds 3 := ⟨xg 665 (by decide +kernel) rfl, xg 1 (by decide +kernel) rfl, ⟨by decide +kernel, by decide +kernel, by decide +kernel⟩, rfl⟩
theorem wX9_odds : Cond.instanceMethod mX9_odds.1 ∈ xgood ∧ Cond.selects mX9_odds.1.cls mX9_odds.1 mX9_odds.1 ∈ xgood := ⟨xg 663 (by decide +kernel) rfl, xg 664 (by decide +kernel) rfl⟩
abbrev mX9_commonDivisor : XM := (yX9_commonDivisor, cX9_commonDivisor, 6, (some (.int)))
theorem vX9_commonDivisor : XV mX9_commonDivisor 2 := ⟨xg 668 (by decide +kernel) rfl, xg 1 (by decide +kernel) rfl, ⟨by decide +kernel, by decide +kernel, by decide +kernel⟩, rfl⟩
theorem sX9_commonDivisor : Cond.static mX9_commonDivisor.1 ∈ xgood := xg 667 (by decide +kernel) rfl
theorem lkX9_238 : XLk RX9 238 mX9_commonDivisor := Or.inl (xg 666 (by decide +kernel) rfl)
abbrev mX9_fits : XM := (yX9_fits, cX9_fits, 4, (some (.int)))
theorem vX9_fits : XV mX9_fits 3 := ⟨xg 672 (by decide +kernel) rfl, xg 1 (by decide +kernel) rfl, ⟨by decide +kernel, by decide +kernel, by decide +kernel⟩, rfl⟩
theorem wX9_fits : Cond.instanceMethod mX9_fits.1 ∈ xgood ∧ Cond.selects mX9_fits.1.cls mX9_fits.1 mX9_fits.1 ∈ xgood := ⟨xg 670 (by decide +kernel) rfl, xg 671 (by decide +kernel) rfl⟩
abbrev mX9_isSheet : XM := (yX9_isSheet, cX9_isSheet, 1, (some (.boolean)))
theorem vX9_isSheet : XV mX9_isSheet 1 := ⟨xg 675 (by decide +kernel) rfl, xg 1 (by decide +kernel) rfl, ⟨by decide +kernel, by decide +kernel, by decide +kernel⟩, rfl⟩
theorem sX9_isSheet : Cond.static mX9_isSheet.1 ∈ xgood := xg 674 (by decide +kernel) rfl
theorem lkX9_241 : XLk RX9 241 mX9_isSheet := Or.inl (xg 673 (by decide +kernel) rfl)
theorem lkX9_244 : XLk RX9 244 mX7_isMissing := Or.inl (xg 676 (by decide +kernel) rfl)
theorem fX9_248 : XF RX9 248 7 0 (.object "BlinkMoves$Row") true := XF.ofN (C := RX7) (T := TX7) (N := 2) (host := "BlinkMoves") rfl rfl rfl (by decide +kernel) rfl (xnx 250 (by decide +kernel) rfl)
theorem lkX9_251 : XLk RX9 251 mX1_findFits := Or.inl (xg 680 (by decide +kernel) rfl)
theorem fX9_255 : XF RX9 255 1 4 .int false := XF.ofN (C := RX1) (T := TX1) (N := 6) (host := "BlinkMoves") rfl rfl rfl (by decide +kernel) rfl (xnx 198 (by decide +kernel) rfl)
theorem fX9_258 : XF RX9 258 1 5 .int false := XF.ofN (C := RX1) (T := TX1) (N := 6) (host := "BlinkMoves") rfl rfl rfl (by decide +kernel) rfl (xnx 200 (by decide +kernel) rfl)
abbrev mX9_voice : XM := (yX9_voice, cX9_voice, 5, (some (.int)))
theorem vX9_voice : XV mX9_voice 3 := ⟨xg 693 (by decide +kernel) rfl, xg 1 (by decide +kernel) rfl, ⟨by decide +kernel, by decide +kernel, by decide +kernel⟩, rfl⟩
theorem wX9_voice : Cond.instanceMethod mX9_voice.1 ∈ xgood ∧ Cond.selects mX9_voice.1.cls mX9_voice.1 mX9_voice.1 ∈ xgood := ⟨xg 691 (by decide +kernel) rfl, xg 692 (by decide +kernel) rfl⟩
theorem lkX9_261 : XLk RX9 261 mX8_say := Or.inl (xg 694 (by decide +kernel) rfl)
theorem fX9_265 : XF RX9 265 8 1 .boolean false := XF.ofN (C := RX8) (T := TX8) (N := 5) (host := "BlinkMoves") rfl rfl rfl (by decide +kernel) rfl (xnx 225 (by decide +kernel) rfl)
theorem kX9_268 : Cond.constant RX9 268 (-1000000006) ∈ xgood := xg 716 (by decide +kernel) rfl
abbrev mX9_body : XM := (yX9_body, cX9_body, 2, (some (.int)))
theorem vX9_body : XV mX9_body 1 := ⟨xg 720 (by decide +kernel) rfl, xg 1 (by decide +kernel) rfl, ⟨by decide +kernel, by decide +kernel, by decide +kernel⟩, rfl⟩
theorem wX9_body : Cond.instanceMethod mX9_body.1 ∈ xgood ∧ Cond.selects mX9_body.1.cls mX9_body.1 mX9_body.1 ∈ xgood := ⟨xg 718 (by decide +kernel) rfl, xg 719 (by decide +kernel) rfl⟩
theorem fX9_269 : XF RX9 269 8 0 (.object "BlinkMoves$Row") true := XF.ofN (C := RX8) (T := TX8) (N := 5) (host := "BlinkMoves") rfl rfl rfl (by decide +kernel) rfl (xnx 223 (by decide +kernel) rfl)
theorem lkX9_272 : XLk RX9 272 mX6_at := Or.inl (xg 721 (by decide +kernel) rfl)
abbrev mX9_sheet : XM := (yX9_sheet, cX9_sheet, 4, (some (.int)))
theorem vX9_sheet : XV mX9_sheet 3 := ⟨xg 725 (by decide +kernel) rfl, xg 1 (by decide +kernel) rfl, ⟨by decide +kernel, by decide +kernel, by decide +kernel⟩, rfl⟩
theorem wX9_sheet : Cond.instanceMethod mX9_sheet.1 ∈ xgood ∧ Cond.selects mX9_sheet.1.cls mX9_sheet.1 mX9_sheet.1 ∈ xgood := ⟨xg 723 (by decide +kernel) rfl, xg 724 (by decide +kernel) rfl⟩
theorem lkX9_275 : XLk RX9 275 mX7_renew := Or.inl (xg 726 (by decide +kernel) rfl)
abbrev mX9_put : XM := (yX9_put, cX9_put, 5, (some (.int)))
theorem vX9_put : XV mX9_put 3 := ⟨xg 734 (by decide +kernel) rfl, xg 1 (by decide +kernel) rfl, ⟨by decide +kernel, by decide +kernel, by decide +kernel⟩, rfl⟩
theorem wX9_put : Cond.instanceMethod mX9_put.1 ∈ xgood ∧ Cond.selects mX9_put.1.cls mX9_put.1 mX9_put.1 ∈ xgood := ⟨xg 732 (by decide +kernel) rfl, xg 733 (by decide +kernel) rfl⟩
theorem lkX9_279 : XLk RX9 279 mX7_lowestBits := Or.inl (xg 735 (by decide +kernel) rfl)
theorem lkX9_282 : XLk RX9 282 mX6_change := Or.inl (xg 740 (by decide +kernel) rfl)
abbrev mX9_move : XM := (yX9_move, cX9_move, 8, (some (.int)))
theorem vX9_move : XV mX9_move 5 := ⟨xg 747 (by decide +kernel) rfl, xg 1 (by decide +kernel) rfl, ⟨by decide +kernel, by decide +kernel, by decide +kernel⟩, rfl⟩
theorem wX9_move : Cond.instanceMethod mX9_move.1 ∈ xgood ∧ Cond.selects mX9_move.1.cls mX9_move.1 mX9_move.1 ∈ xgood := ⟨xg 745 (by decide +kernel) rfl, xg 746 (by decide +kernel) rfl⟩
theorem fX9_285 : XF RX9 285 7 1 .int false := XF.ofN (C := RX7) (T := TX7) (N := 2) (host := "BlinkMoves") rfl rfl rfl (by decide +kernel) rfl (xnx 252 (by decide +kernel) rfl)
theorem lkX9_288 : XLk RX9 288 mX6_spans := Or.inl (xg 748 (by decide +kernel) rfl)
theorem lkX9_291 : XLk RX9 291 mX6_takeFrom := Or.inl (xg 749 (by decide +kernel) rfl)
abbrev mX9_partsAll : XM := (yX9_partsAll, cX9_partsAll, 4, (some (.int)))
theorem vX9_partsAll : XV mX9_partsAll 1 := ⟨xg 753 (by decide +kernel) rfl, xg 1 (by decide +kernel) rfl, ⟨by decide +kernel, by decide +kernel, by decide +kernel⟩, rfl⟩
theorem wX9_partsAll : Cond.instanceMethod mX9_partsAll.1 ∈ xgood ∧ Cond.selects mX9_partsAll.1.cls mX9_partsAll.1 mX9_partsAll.1 ∈ xgood := ⟨xg 751 (by decide +kernel) rfl, xg 752 (by decide +kernel) rfl⟩
abbrev mX9_judge : XM := (yX9_judge, cX9_judge, 4, (some (.int)))
theorem vX9_judge : XV mX9_judge 1 := ⟨xg 757 (by decide +kernel) rfl, xg 1 (by decide +kernel) rfl, ⟨by decide +kernel, by decide +kernel, by decide +kernel⟩, rfl⟩
theorem wX9_judge : Cond.instanceMethod mX9_judge.1 ∈ xgood ∧ Cond.selects mX9_judge.1.cls mX9_judge.1 mX9_judge.1 ∈ xgood := ⟨xg 755 (by decide +kernel) rfl, xg 756 (by decide +kernel) rfl⟩
abbrev mX9_image : XM := (yX9_image, cX9_image, 1, (some (.int)))
theorem vX9_image : XV mX9_image 0 := ⟨xg 761 (by decide +kernel) rfl, xg 1 (by decide +kernel) rfl, ⟨by decide +kernel, by decide +kernel, by decide +kernel⟩, rfl⟩
theorem wX9_image : Cond.instanceMethod mX9_image.1 ∈ xgood ∧ Cond.selects mX9_image.1.cls mX9_image.1 mX9_image.1 ∈ xgood := ⟨xg 759 (by decide +kernel) rfl, xg 760 (by decide +kernel) rfl⟩
theorem fX9_295 : XF RX9 295 9 6 (.object "BlinkMoves$Island") false := XF.of (C := RX9) (T := TX9) (N := 8) rfl rfl rfl (by decide +kernel) rfl (xg 264 (by decide +kernel) rfl)
theorem lkX9_298 : XLk RX9 298 mX2_beLike := Or.inl (xg 762 (by decide +kernel) rfl)
theorem fX9_301 : XF RX9 301 9 7 .int false := XF.of (C := RX9) (T := TX9) (N := 8) rfl rfl rfl (by decide +kernel) rfl (xg 265 (by decide +kernel) rfl)
abbrev mX9_restore : XM := (yX9_restore, cX9_restore, 1, (some (.int)))
theorem vX9_restore : XV mX9_restore 0 := ⟨xg 782 (by decide +kernel) rfl, xg 1 (by decide +kernel) rfl, ⟨by decide +kernel, by decide +kernel, by decide +kernel⟩, rfl⟩
theorem wX9_restore : Cond.instanceMethod mX9_restore.1 ∈ xgood ∧ Cond.selects mX9_restore.1.cls mX9_restore.1 mX9_restore.1 ∈ xgood := ⟨xg 780 (by decide +kernel) rfl, xg 781 (by decide +kernel) rfl⟩
abbrev mX9_tell : XM := (yX9_tell, cX9_tell, 2, (some (.int)))
theorem vX9_tell : XV mX9_tell 1 := ⟨xg 786 (by decide +kernel) rfl, xg 1 (by decide +kernel) rfl, ⟨by decide +kernel, by decide +kernel, by decide +kernel⟩, rfl⟩
theorem wX9_tell : Cond.instanceMethod mX9_tell.1 ∈ xgood ∧ Cond.selects mX9_tell.1.cls mX9_tell.1 mX9_tell.1 ∈ xgood := ⟨xg 784 (by decide +kernel) rfl, xg 785 (by decide +kernel) rfl⟩
theorem fX9_304 : XF RX9 304 2 5 (.object "BlinkMoves$Row") true := XF.ofN (C := RX2) (T := TX2) (N := 10) (host := "BlinkMoves") rfl rfl rfl (by decide +kernel) rfl (xnx 132 (by decide +kernel) rfl)
abbrev mX9_check : XM := (yX9_check, cX9_check, 4, (some (.int)))
theorem vX9_check : XV mX9_check 0 := ⟨xg 790 (by decide +kernel) rfl, xg 1 (by decide +kernel) rfl, ⟨by decide +kernel, by decide +kernel, by decide +kernel⟩, rfl⟩
theorem wX9_check : Cond.instanceMethod mX9_check.1 ∈ xgood ∧ Cond.selects mX9_check.1.cls mX9_check.1 mX9_check.1 ∈ xgood := ⟨xg 788 (by decide +kernel) rfl, xg 789 (by decide +kernel) rfl⟩
abbrev mX9_count : XM := (yX9_count, cX9_count, 2, (some (.int)))
theorem vX9_count : XV mX9_count 1 := ⟨xg 794 (by decide +kernel) rfl, xg 1 (by decide +kernel) rfl, ⟨by decide +kernel, by decide +kernel, by decide +kernel⟩, rfl⟩
theorem wX9_count : Cond.instanceMethod mX9_count.1 ∈ xgood ∧ Cond.selects mX9_count.1.cls mX9_count.1 mX9_count.1 ∈ xgood := ⟨xg 792 (by decide +kernel) rfl, xg 793 (by decide +kernel) rfl⟩
theorem lkX9_307 : XLk RX9 307 mX2_partsTogether := Or.inl (xg 795 (by decide +kernel) rfl)
abbrev mX9_told : XM := (yX9_told, cX9_told, 2, (some (.int)))
theorem vX9_told : XV mX9_told 1 := ⟨xg 802 (by decide +kernel) rfl, xg 1 (by decide +kernel) rfl, ⟨by decide +kernel, by decide +kernel, by decide +kernel⟩, rfl⟩
theorem wX9_told : Cond.instanceMethod mX9_told.1 ∈ xgood ∧ Cond.selects mX9_told.1.cls mX9_told.1 mX9_told.1 ∈ xgood := ⟨xg 800 (by decide +kernel) rfl, xg 801 (by decide +kernel) rfl⟩
theorem kX9_310 : Cond.constant RX9 310 (-1000000000) ∈ xgood := xg 301 (by decide +kernel) rfl
theorem xkab : (Cond.fieldLink RX9 311 RX9 "KIND_ABOVE" "[I") ∈ xgood := xg 376 (by decide +kernel) rfl
abbrev mX10_init : XM := (yX10_init, cX10_init, 1, none)
theorem vX10_init : XV mX10_init 0 := ⟨xg 807 (by decide +kernel) rfl, xg 12 (by decide +kernel) rfl, ⟨by decide +kernel, by decide +kernel, by decide +kernel⟩, rfl⟩
theorem wX10_init : Cond.instanceMethod mX10_init.1 ∈ xgood := xg 806 (by decide +kernel) rfl
theorem lkX10_1 : Cond.methodLink RX10 1 objectInit ∈ xgood := xg 808 (by decide +kernel) rfl
theorem fX10_7 : XF RX10 7 10 0 (.array .int) true := XF.of (C := RX10) (T := TX10) (N := 20) rfl rfl rfl (by decide +kernel) rfl (xg 809 (by decide +kernel) rfl)
theorem fX10_13 : XF RX10 13 10 1 (.array .int) true := XF.of (C := RX10) (T := TX10) (N := 20) rfl rfl rfl (by decide +kernel) rfl (xg 810 (by decide +kernel) rfl)
theorem fX10_16 : XF RX10 16 10 2 (.array .int) true := XF.of (C := RX10) (T := TX10) (N := 20) rfl rfl rfl (by decide +kernel) rfl (xg 811 (by decide +kernel) rfl)
theorem fX10_19 : XF RX10 19 10 4 (.array .int) true := XF.of (C := RX10) (T := TX10) (N := 20) rfl rfl rfl (by decide +kernel) rfl (xg 813 (by decide +kernel) rfl)
theorem fX10_22 : XF RX10 22 10 9 (.array .int) true := XF.of (C := RX10) (T := TX10) (N := 20) rfl rfl rfl (by decide +kernel) rfl (xg 818 (by decide +kernel) rfl)
theorem fX10_25 : XF RX10 25 10 10 (.array .int) true := XF.of (C := RX10) (T := TX10) (N := 20) rfl rfl rfl (by decide +kernel) rfl (xg 819 (by decide +kernel) rfl)
theorem fX10_28 : XF RX10 28 10 11 (.array .int) true := XF.of (C := RX10) (T := TX10) (N := 20) rfl rfl rfl (by decide +kernel) rfl (xg 820 (by decide +kernel) rfl)
theorem fX10_31 : XF RX10 31 10 13 (.array .int) true := XF.of (C := RX10) (T := TX10) (N := 20) rfl rfl rfl (by decide +kernel) rfl (xg 822 (by decide +kernel) rfl)
theorem fX10_34 : XF RX10 34 10 16 (.array .int) true := XF.of (C := RX10) (T := TX10) (N := 20) rfl rfl rfl (by decide +kernel) rfl (xg 825 (by decide +kernel) rfl)
theorem fX10_37 : XF RX10 37 10 17 (.array .int) true := XF.of (C := RX10) (T := TX10) (N := 20) rfl rfl rfl (by decide +kernel) rfl (xg 826 (by decide +kernel) rfl)
theorem fX10_40 : XF RX10 40 10 18 (.array .int) true := XF.of (C := RX10) (T := TX10) (N := 20) rfl rfl rfl (by decide +kernel) rfl (xg 827 (by decide +kernel) rfl)
theorem fX10_43 : XF RX10 43 10 19 (.array .int) true := XF.of (C := RX10) (T := TX10) (N := 20) rfl rfl rfl (by decide +kernel) rfl (xg 828 (by decide +kernel) rfl)
abbrev mX10_error : XM := (yX10_error, cX10_error, 2, (some (.int)))
theorem vX10_error : XV mX10_error 1 := ⟨xg 880 (by decide +kernel) rfl, xg 12 (by decide +kernel) rfl, ⟨by decide +kernel, by decide +kernel, by decide +kernel⟩, rfl⟩
theorem wX10_error : Cond.instanceMethod mX10_error.1 ∈ xgood ∧ Cond.selects mX10_error.1.cls mX10_error.1 mX10_error.1 ∈ xgood := ⟨xg 879 (by decide +kernel) rfl, xgs 23 (by decide +kernel) rfl⟩
theorem kX10_46 : Cond.constant RX10 46 (-1000000000) ∈ xgood := xg 881 (by decide +kernel) rfl
abbrev mX10_in : XM := (yX10_in, cX10_in, 3, (some (.boolean)))
theorem vX10_in : XV mX10_in 3 := ⟨xg 876 (by decide +kernel) rfl, xg 12 (by decide +kernel) rfl, ⟨by decide +kernel, by decide +kernel, by decide +kernel⟩, rfl⟩
theorem sX10_in : Cond.static mX10_in.1 ∈ xgood := xg 875 (by decide +kernel) rfl
abbrev mX10_held : XM := (yX10_held, cX10_held, 3, (some (.int)))
theorem vX10_held : XV mX10_held 3 := ⟨xg 982 (by decide +kernel) rfl, xg 12 (by decide +kernel) rfl, ⟨by decide +kernel, by decide +kernel, by decide +kernel⟩, rfl⟩
theorem sX10_held : Cond.static mX10_held.1 ∈ xgood := xg 981 (by decide +kernel) rfl
abbrev mX10_copyAll : XM := (yX10_copyAll, cX10_copyAll, 3, none)
theorem vX10_copyAll : XV mX10_copyAll 2 := ⟨xg 1227 (by decide +kernel) rfl, xg 12 (by decide +kernel) rfl, ⟨by decide +kernel, by decide +kernel, by decide +kernel⟩, rfl⟩
theorem sX10_copyAll : Cond.static mX10_copyAll.1 ∈ xgood := xg 1226 (by decide +kernel) rfl
abbrev mX10_layDown : XM := (yX10_layDown, cX10_layDown, 2, none)
theorem vX10_layDown : XV mX10_layDown 0 := ⟨xg 1102 (by decide +kernel) rfl, xg 12 (by decide +kernel) rfl, ⟨by decide +kernel, by decide +kernel, by decide +kernel⟩, rfl⟩
theorem wX10_layDown : Cond.instanceMethod mX10_layDown.1 ∈ xgood ∧ Cond.selects mX10_layDown.1.cls mX10_layDown.1 mX10_layDown.1 ∈ xgood := ⟨xg 1101 (by decide +kernel) rfl, xgs 56 (by decide +kernel) rfl⟩
abbrev mX10_layBack : XM := (yX10_layBack, cX10_layBack, 2, none)
theorem vX10_layBack : XV mX10_layBack 0 := ⟨xg 1106 (by decide +kernel) rfl, xg 12 (by decide +kernel) rfl, ⟨by decide +kernel, by decide +kernel, by decide +kernel⟩, rfl⟩
theorem wX10_layBack : Cond.instanceMethod mX10_layBack.1 ∈ xgood ∧ Cond.selects mX10_layBack.1.cls mX10_layBack.1 mX10_layBack.1 ∈ xgood := ⟨xg 1105 (by decide +kernel) rfl, xgs 57 (by decide +kernel) rfl⟩
abbrev mX10_isPerson : XM := (yX10_isPerson, cX10_isPerson, 2, (some (.boolean)))
theorem vX10_isPerson : XV mX10_isPerson 1 := ⟨xg 956 (by decide +kernel) rfl, xg 12 (by decide +kernel) rfl, ⟨by decide +kernel, by decide +kernel, by decide +kernel⟩, rfl⟩
theorem wX10_isPerson : Cond.instanceMethod mX10_isPerson.1 ∈ xgood ∧ Cond.selects mX10_isPerson.1.cls mX10_isPerson.1 mX10_isPerson.1 ∈ xgood := ⟨xg 955 (by decide +kernel) rfl, xgs 36 (by decide +kernel) rfl⟩
theorem lkX10_47 : XLk RX10 47 mX10_in := Or.inl (xg 874 (by decide +kernel) rfl)
abbrev mX10_isDoing : XM := (yX10_isDoing, cX10_isDoing, 2, (some (.boolean)))
theorem vX10_isDoing : XV mX10_isDoing 1 := ⟨xg 1021 (by decide +kernel) rfl, xg 12 (by decide +kernel) rfl, ⟨by decide +kernel, by decide +kernel, by decide +kernel⟩, rfl⟩
theorem wX10_isDoing : Cond.instanceMethod mX10_isDoing.1 ∈ xgood ∧ Cond.selects mX10_isDoing.1.cls mX10_isDoing.1 mX10_isDoing.1 ∈ xgood := ⟨xg 1020 (by decide +kernel) rfl, xgs 45 (by decide +kernel) rfl⟩
abbrev mX10_isSet : XM := (yX10_isSet, cX10_isSet, 2, (some (.boolean)))
theorem vX10_isSet : XV mX10_isSet 1 := ⟨xg 1009 (by decide +kernel) rfl, xg 12 (by decide +kernel) rfl, ⟨by decide +kernel, by decide +kernel, by decide +kernel⟩, rfl⟩
theorem wX10_isSet : Cond.instanceMethod mX10_isSet.1 ∈ xgood ∧ Cond.selects mX10_isSet.1.cls mX10_isSet.1 mX10_isSet.1 ∈ xgood := ⟨xg 1008 (by decide +kernel) rfl, xgs 43 (by decide +kernel) rfl⟩
abbrev mX10_its : XM := (yX10_its, cX10_its, 3, (some (.int)))
theorem vX10_its : XV mX10_its 2 := ⟨xg 960 (by decide +kernel) rfl, xg 12 (by decide +kernel) rfl, ⟨by decide +kernel, by decide +kernel, by decide +kernel⟩, rfl⟩
theorem wX10_its : Cond.instanceMethod mX10_its.1 ∈ xgood ∧ Cond.selects mX10_its.1.cls mX10_its.1 mX10_its.1 ∈ xgood := ⟨xg 959 (by decide +kernel) rfl, xgs 37 (by decide +kernel) rfl⟩
abbrev mX10_lays1 : XM := (yX10_lays1, cX10_lays1, 4, none)
theorem vX10_lays1 : XV mX10_lays1 3 := ⟨xg 948 (by decide +kernel) rfl, xg 12 (by decide +kernel) rfl, ⟨by decide +kernel, by decide +kernel, by decide +kernel⟩, rfl⟩
theorem wX10_lays1 : Cond.instanceMethod mX10_lays1.1 ∈ xgood ∧ Cond.selects mX10_lays1.1.cls mX10_lays1.1 mX10_lays1.1 ∈ xgood := ⟨xg 947 (by decide +kernel) rfl, xgs 35 (by decide +kernel) rfl⟩
abbrev mX10_ofDoing : XM := (yX10_ofDoing, cX10_ofDoing, 3, (some (.int)))
theorem vX10_ofDoing : XV mX10_ofDoing 2 := ⟨xg 1025 (by decide +kernel) rfl, xg 12 (by decide +kernel) rfl, ⟨by decide +kernel, by decide +kernel, by decide +kernel⟩, rfl⟩
theorem wX10_ofDoing : Cond.instanceMethod mX10_ofDoing.1 ∈ xgood ∧ Cond.selects mX10_ofDoing.1.cls mX10_ofDoing.1 mX10_ofDoing.1 ∈ xgood := ⟨xg 1024 (by decide +kernel) rfl, xgs 46 (by decide +kernel) rfl⟩
abbrev mX10_laysDoing : XM := (yX10_laysDoing, cX10_laysDoing, 4, none)
theorem vX10_laysDoing : XV mX10_laysDoing 3 := ⟨xg 1013 (by decide +kernel) rfl, xg 12 (by decide +kernel) rfl, ⟨by decide +kernel, by decide +kernel, by decide +kernel⟩, rfl⟩
theorem wX10_laysDoing : Cond.instanceMethod mX10_laysDoing.1 ∈ xgood ∧ Cond.selects mX10_laysDoing.1.cls mX10_laysDoing.1 mX10_laysDoing.1 ∈ xgood := ⟨xg 1012 (by decide +kernel) rfl, xgs 44 (by decide +kernel) rfl⟩
abbrev mX10_change1 : XM := (yX10_change1, cX10_change1, 4, (some (.int)))
theorem vX10_change1 : XV mX10_change1 2 := ⟨xg 990 (by decide +kernel) rfl, xg 12 (by decide +kernel) rfl, ⟨by decide +kernel, by decide +kernel, by decide +kernel⟩, rfl⟩
theorem wX10_change1 : Cond.instanceMethod mX10_change1.1 ∈ xgood ∧ Cond.selects mX10_change1.1.cls mX10_change1.1 mX10_change1.1 ∈ xgood := ⟨xg 989 (by decide +kernel) rfl, xgs 42 (by decide +kernel) rfl⟩
abbrev mX10_manyIn : XM := (yX10_manyIn, cX10_manyIn, 3, (some (.int)))
theorem vX10_manyIn : XV mX10_manyIn 1 := ⟨xg 1040 (by decide +kernel) rfl, xg 12 (by decide +kernel) rfl, ⟨by decide +kernel, by decide +kernel, by decide +kernel⟩, rfl⟩
theorem sX10_manyIn : Cond.static mX10_manyIn.1 ∈ xgood := xg 1039 (by decide +kernel) rfl
abbrev mX10_feed : XM := (yX10_feed, cX10_feed, 5, (some (.int)))
theorem vX10_feed : XV mX10_feed 2 := ⟨xg 873 (by decide +kernel) rfl, xg 12 (by decide +kernel) rfl, ⟨by decide +kernel, by decide +kernel, by decide +kernel⟩, rfl⟩
theorem wX10_feed : Cond.instanceMethod mX10_feed.1 ∈ xgood ∧ Cond.selects mX10_feed.1.cls mX10_feed.1 mX10_feed.1 ∈ xgood := ⟨xg 871 (by decide +kernel) rfl, xg 872 (by decide +kernel) rfl⟩
theorem lkX10_51 : XLk RX10 51 mX10_error := Or.inl (xg 877 (by decide +kernel) rfl)
theorem klX10_55 : Cond.constantLong RX10 55 (255) ∈ xgood := xg 882 (by decide +kernel) rfl
abbrev mX10_look : XM := (yX10_look, cX10_look, 1, (some (.int)))
theorem vX10_look : XV mX10_look 0 := ⟨xg 914 (by decide +kernel) rfl, xg 12 (by decide +kernel) rfl, ⟨by decide +kernel, by decide +kernel, by decide +kernel⟩, rfl⟩
theorem wX10_look : Cond.instanceMethod mX10_look.1 ∈ xgood ∧ Cond.selects mX10_look.1.cls mX10_look.1 mX10_look.1 ∈ xgood := ⟨xg 913 (by decide +kernel) rfl, xgs 30 (by decide +kernel) rfl⟩
theorem fX10_57 : XF RX10 57 10 5 .int false := XF.of (C := RX10) (T := TX10) (N := 20) rfl rfl rfl (by decide +kernel) rfl (xg 814 (by decide +kernel) rfl)
abbrev mX10_isName : XM := (yX10_isName, cX10_isName, 2, (some (.boolean)))
theorem vX10_isName : XV mX10_isName 1 := ⟨xg 918 (by decide +kernel) rfl, xg 12 (by decide +kernel) rfl, ⟨by decide +kernel, by decide +kernel, by decide +kernel⟩, rfl⟩
theorem wX10_isName : Cond.instanceMethod mX10_isName.1 ∈ xgood ∧ Cond.selects mX10_isName.1.cls mX10_isName.1 mX10_isName.1 ∈ xgood := ⟨xg 917 (by decide +kernel) rfl, xgs 31 (by decide +kernel) rfl⟩
theorem fX10_61 : XF RX10 61 10 8 .int false := XF.of (C := RX10) (T := TX10) (N := 20) rfl rfl rfl (by decide +kernel) rfl (xg 817 (by decide +kernel) rfl)
abbrev mX10_step1 : XM := (yX10_step1, cX10_step1, 3, none)
theorem vX10_step1 : XV mX10_step1 2 := ⟨xg 922 (by decide +kernel) rfl, xg 12 (by decide +kernel) rfl, ⟨by decide +kernel, by decide +kernel, by decide +kernel⟩, rfl⟩
theorem wX10_step1 : Cond.instanceMethod mX10_step1.1 ∈ xgood ∧ Cond.selects mX10_step1.1.cls mX10_step1.1 mX10_step1.1 ∈ xgood := ⟨xg 921 (by decide +kernel) rfl, xgs 32 (by decide +kernel) rfl⟩
theorem fX10_64 : XF RX10 64 10 7 .int false := XF.of (C := RX10) (T := TX10) (N := 20) rfl rfl rfl (by decide +kernel) rfl (xg 816 (by decide +kernel) rfl)
abbrev mX10_whole : XM := (yX10_whole, cX10_whole, 1, (some (.boolean)))
theorem vX10_whole : XV mX10_whole 0 := ⟨xg 890 (by decide +kernel) rfl, xg 12 (by decide +kernel) rfl, ⟨by decide +kernel, by decide +kernel, by decide +kernel⟩, rfl⟩
theorem wX10_whole : Cond.instanceMethod mX10_whole.1 ∈ xgood ∧ Cond.selects mX10_whole.1.cls mX10_whole.1 mX10_whole.1 ∈ xgood := ⟨xg 889 (by decide +kernel) rfl, xgs 24 (by decide +kernel) rfl⟩
abbrev mX10_both : XM := (yX10_both, cX10_both, 1, (some (.boolean)))
theorem vX10_both : XV mX10_both 0 := ⟨xg 894 (by decide +kernel) rfl, xg 12 (by decide +kernel) rfl, ⟨by decide +kernel, by decide +kernel, by decide +kernel⟩, rfl⟩
theorem wX10_both : Cond.instanceMethod mX10_both.1 ∈ xgood ∧ Cond.selects mX10_both.1.cls mX10_both.1 mX10_both.1 ∈ xgood := ⟨xg 893 (by decide +kernel) rfl, xgs 25 (by decide +kernel) rfl⟩
theorem lkX10_67 : XLk RX10 67 mX10_both := Or.inl (xg 891 (by decide +kernel) rfl)
theorem lkX10_71 : XLk RX10 71 mX10_look := Or.inl (xg 911 (by decide +kernel) rfl)
theorem lkX10_75 : XLk RX10 75 mX10_step1 := Or.inl (xg 919 (by decide +kernel) rfl)
abbrev mX10_compared : XM := (yX10_compared, cX10_compared, 2, (some (.boolean)))
theorem vX10_compared : XV mX10_compared 0 := ⟨xg 898 (by decide +kernel) rfl, xg 12 (by decide +kernel) rfl, ⟨by decide +kernel, by decide +kernel, by decide +kernel⟩, rfl⟩
theorem wX10_compared : Cond.instanceMethod mX10_compared.1 ∈ xgood ∧ Cond.selects mX10_compared.1.cls mX10_compared.1 mX10_compared.1 ∈ xgood := ⟨xg 897 (by decide +kernel) rfl, xgs 26 (by decide +kernel) rfl⟩
theorem lkX10_79 : XLk RX10 79 mX10_compared := Or.inl (xg 895 (by decide +kernel) rfl)
abbrev mX10_sum : XM := (yX10_sum, cX10_sum, 2, (some (.boolean)))
theorem vX10_sum : XV mX10_sum 0 := ⟨xg 902 (by decide +kernel) rfl, xg 12 (by decide +kernel) rfl, ⟨by decide +kernel, by decide +kernel, by decide +kernel⟩, rfl⟩
theorem wX10_sum : Cond.instanceMethod mX10_sum.1 ∈ xgood ∧ Cond.selects mX10_sum.1.cls mX10_sum.1 mX10_sum.1 ∈ xgood := ⟨xg 901 (by decide +kernel) rfl, xgs 27 (by decide +kernel) rfl⟩
theorem lkX10_82 : XLk RX10 82 mX10_sum := Or.inl (xg 899 (by decide +kernel) rfl)
abbrev mX10_product : XM := (yX10_product, cX10_product, 2, (some (.boolean)))
theorem vX10_product : XV mX10_product 0 := ⟨xg 906 (by decide +kernel) rfl, xg 12 (by decide +kernel) rfl, ⟨by decide +kernel, by decide +kernel, by decide +kernel⟩, rfl⟩
theorem wX10_product : Cond.instanceMethod mX10_product.1 ∈ xgood ∧ Cond.selects mX10_product.1.cls mX10_product.1 mX10_product.1 ∈ xgood := ⟨xg 905 (by decide +kernel) rfl, xgs 28 (by decide +kernel) rfl⟩
theorem lkX10_85 : XLk RX10 85 mX10_product := Or.inl (xg 903 (by decide +kernel) rfl)
abbrev mX10_one : XM := (yX10_one, cX10_one, 4, (some (.boolean)))
theorem vX10_one : XV mX10_one 0 := ⟨xg 910 (by decide +kernel) rfl, xg 12 (by decide +kernel) rfl, ⟨by decide +kernel, by decide +kernel, by decide +kernel⟩, rfl⟩
theorem wX10_one : Cond.instanceMethod mX10_one.1 ∈ xgood ∧ Cond.selects mX10_one.1.cls mX10_one.1 mX10_one.1 ∈ xgood := ⟨xg 909 (by decide +kernel) rfl, xgs 29 (by decide +kernel) rfl⟩
theorem lkX10_88 : XLk RX10 88 mX10_one := Or.inl (xg 907 (by decide +kernel) rfl)
abbrev mX10_opens : XM := (yX10_opens, cX10_opens, 1, (some (.boolean)))
theorem vX10_opens : XV mX10_opens 0 := ⟨xg 926 (by decide +kernel) rfl, xg 12 (by decide +kernel) rfl, ⟨by decide +kernel, by decide +kernel, by decide +kernel⟩, rfl⟩
theorem wX10_opens : Cond.instanceMethod mX10_opens.1 ∈ xgood ∧ Cond.selects mX10_opens.1.cls mX10_opens.1 mX10_opens.1 ∈ xgood := ⟨xg 925 (by decide +kernel) rfl, xgs 33 (by decide +kernel) rfl⟩
theorem fX10_91 : XF RX10 91 10 6 .int false := XF.of (C := RX10) (T := TX10) (N := 20) rfl rfl rfl (by decide +kernel) rfl (xg 815 (by decide +kernel) rfl)
theorem lkX10_94 : XLk RX10 94 mX10_isName := Or.inl (xg 915 (by decide +kernel) rfl)
theorem lkX10_98 : XLk RX10 98 mX10_opens := Or.inl (xg 923 (by decide +kernel) rfl)
theorem lkX10_101 : XLk RX10 101 mX10_whole := Or.inl (xg 887 (by decide +kernel) rfl)
abbrev mX10_hasText : XM := (yX10_hasText, cX10_hasText, 2, (some (.boolean)))
theorem vX10_hasText : XV mX10_hasText 1 := ⟨xg 934 (by decide +kernel) rfl, xg 12 (by decide +kernel) rfl, ⟨by decide +kernel, by decide +kernel, by decide +kernel⟩, rfl⟩
theorem wX10_hasText : Cond.instanceMethod mX10_hasText.1 ∈ xgood ∧ Cond.selects mX10_hasText.1.cls mX10_hasText.1 mX10_hasText.1 ∈ xgood := ⟨xg 933 (by decide +kernel) rfl, xgs 34 (by decide +kernel) rfl⟩
abbrev mX10_text : XM := (yX10_text, cX10_text, 5, (some (.int)))
theorem vX10_text : XV mX10_text 1 := ⟨xg 886 (by decide +kernel) rfl, xg 12 (by decide +kernel) rfl, ⟨by decide +kernel, by decide +kernel, by decide +kernel⟩, rfl⟩
theorem wX10_text : Cond.instanceMethod mX10_text.1 ∈ xgood ∧ Cond.selects mX10_text.1.cls mX10_text.1 mX10_text.1 ∈ xgood := ⟨xg 884 (by decide +kernel) rfl, xg 885 (by decide +kernel) rfl⟩
abbrev mX10_untell : XM := (yX10_untell, cX10_untell, 3, (some (.int)))
theorem vX10_untell : XV mX10_untell 1 := ⟨xg 930 (by decide +kernel) rfl, xg 12 (by decide +kernel) rfl, ⟨by decide +kernel, by decide +kernel, by decide +kernel⟩, rfl⟩
theorem wX10_untell : Cond.instanceMethod mX10_untell.1 ∈ xgood ∧ Cond.selects mX10_untell.1.cls mX10_untell.1 mX10_untell.1 ∈ xgood := ⟨xg 928 (by decide +kernel) rfl, xg 929 (by decide +kernel) rfl⟩
theorem lkX10_104 : XLk RX10 104 mX10_hasText := Or.inl (xg 931 (by decide +kernel) rfl)
abbrev mX10_joined : XM := (yX10_joined, cX10_joined, 3, (some (.int)))
theorem vX10_joined : XV mX10_joined 3 := ⟨xg 979 (by decide +kernel) rfl, xg 12 (by decide +kernel) rfl, ⟨by decide +kernel, by decide +kernel, by decide +kernel⟩, rfl⟩
theorem sX10_joined : Cond.static mX10_joined.1 ∈ xgood := xg 978 (by decide +kernel) rfl
abbrev mX10_worked : XM := (yX10_worked, cX10_worked, 7, (some (.int)))
theorem vX10_worked : XV mX10_worked 1 := ⟨xg 976 (by decide +kernel) rfl, xg 12 (by decide +kernel) rfl, ⟨by decide +kernel, by decide +kernel, by decide +kernel⟩, rfl⟩
theorem wX10_worked : Cond.instanceMethod mX10_worked.1 ∈ xgood ∧ Cond.selects mX10_worked.1.cls mX10_worked.1 mX10_worked.1 ∈ xgood := ⟨xg 975 (by decide +kernel) rfl, xgs 41 (by decide +kernel) rfl⟩
theorem lkX10_107 : XLk RX10 107 mX10_joined := Or.inl (xg 977 (by decide +kernel) rfl)
abbrev mX10_blinksNow : XM := (yX10_blinksNow, cX10_blinksNow, 6, (some (.boolean)))
theorem vX10_blinksNow : XV mX10_blinksNow 1 := ⟨xg 968 (by decide +kernel) rfl, xg 12 (by decide +kernel) rfl, ⟨by decide +kernel, by decide +kernel, by decide +kernel⟩, rfl⟩
theorem wX10_blinksNow : Cond.instanceMethod mX10_blinksNow.1 ∈ xgood ∧ Cond.selects mX10_blinksNow.1.cls mX10_blinksNow.1 mX10_blinksNow.1 ∈ xgood := ⟨xg 967 (by decide +kernel) rfl, xgs 39 (by decide +kernel) rfl⟩
theorem lkX10_111 : XLk RX10 111 mX10_its := Or.inl (xg 957 (by decide +kernel) rfl)
abbrev mX10_triesOf : XM := (yX10_triesOf, cX10_triesOf, 3, (some (.int)))
theorem vX10_triesOf : XV mX10_triesOf 1 := ⟨xg 1037 (by decide +kernel) rfl, xg 12 (by decide +kernel) rfl, ⟨by decide +kernel, by decide +kernel, by decide +kernel⟩, rfl⟩
theorem wX10_triesOf : Cond.instanceMethod mX10_triesOf.1 ∈ xgood ∧ Cond.selects mX10_triesOf.1.cls mX10_triesOf.1 mX10_triesOf.1 ∈ xgood := ⟨xg 1036 (by decide +kernel) rfl, xgs 49 (by decide +kernel) rfl⟩
abbrev mX10_shutTold : XM := (yX10_shutTold, cX10_shutTold, 4, (some (.int)))
theorem vX10_shutTold : XV mX10_shutTold 3 := ⟨xg 972 (by decide +kernel) rfl, xg 12 (by decide +kernel) rfl, ⟨by decide +kernel, by decide +kernel, by decide +kernel⟩, rfl⟩
theorem wX10_shutTold : Cond.instanceMethod mX10_shutTold.1 ∈ xgood ∧ Cond.selects mX10_shutTold.1.cls mX10_shutTold.1 mX10_shutTold.1 ∈ xgood := ⟨xg 971 (by decide +kernel) rfl, xgs 40 (by decide +kernel) rfl⟩
theorem lkX10_115 : XLk RX10 115 mX10_worked := Or.inl (xg 973 (by decide +kernel) rfl)
theorem lkX10_118 : XLk RX10 118 mX10_held := Or.inl (xg 980 (by decide +kernel) rfl)
abbrev mX10_onTold : XM := (yX10_onTold, cX10_onTold, 4, (some (.int)))
theorem vX10_onTold : XV mX10_onTold 3 := ⟨xg 1044 (by decide +kernel) rfl, xg 12 (by decide +kernel) rfl, ⟨by decide +kernel, by decide +kernel, by decide +kernel⟩, rfl⟩
theorem wX10_onTold : Cond.instanceMethod mX10_onTold.1 ∈ xgood ∧ Cond.selects mX10_onTold.1.cls mX10_onTold.1 mX10_onTold.1 ∈ xgood := ⟨xg 1043 (by decide +kernel) rfl, xgs 50 (by decide +kernel) rfl⟩
abbrev mX10_shutOf : XM := (yX10_shutOf, cX10_shutOf, 3, (some (.int)))
theorem vX10_shutOf : XV mX10_shutOf 1 := ⟨xg 964 (by decide +kernel) rfl, xg 12 (by decide +kernel) rfl, ⟨by decide +kernel, by decide +kernel, by decide +kernel⟩, rfl⟩
theorem wX10_shutOf : Cond.instanceMethod mX10_shutOf.1 ∈ xgood ∧ Cond.selects mX10_shutOf.1.cls mX10_shutOf.1 mX10_shutOf.1 ∈ xgood := ⟨xg 963 (by decide +kernel) rfl, xgs 38 (by decide +kernel) rfl⟩
theorem lkX10_121 : XLk RX10 121 mX10_blinksNow := Or.inl (xg 965 (by decide +kernel) rfl)
theorem lkX10_124 : XLk RX10 124 mX10_shutTold := Or.inl (xg 969 (by decide +kernel) rfl)
abbrev mX10_shutNow : XM := (yX10_shutNow, cX10_shutNow, 3, (some (.int)))
theorem vX10_shutNow : XV mX10_shutNow 0 := ⟨xg 1029 (by decide +kernel) rfl, xg 12 (by decide +kernel) rfl, ⟨by decide +kernel, by decide +kernel, by decide +kernel⟩, rfl⟩
theorem wX10_shutNow : Cond.instanceMethod mX10_shutNow.1 ∈ xgood ∧ Cond.selects mX10_shutNow.1.cls mX10_shutNow.1 mX10_shutNow.1 ∈ xgood := ⟨xg 1028 (by decide +kernel) rfl, xgs 47 (by decide +kernel) rfl⟩
theorem lkX10_127 : XLk RX10 127 mX10_shutOf := Or.inl (xg 961 (by decide +kernel) rfl)
abbrev mX10_onBy : XM := (yX10_onBy, cX10_onBy, 4, (some (.int)))
theorem vX10_onBy : XV mX10_onBy 2 := ⟨xg 1033 (by decide +kernel) rfl, xg 12 (by decide +kernel) rfl, ⟨by decide +kernel, by decide +kernel, by decide +kernel⟩, rfl⟩
theorem wX10_onBy : Cond.instanceMethod mX10_onBy.1 ∈ xgood ∧ Cond.selects mX10_onBy.1.cls mX10_onBy.1 mX10_onBy.1 ∈ xgood := ⟨xg 1032 (by decide +kernel) rfl, xgs 48 (by decide +kernel) rfl⟩
theorem lkX10_130 : XLk RX10 130 mX10_ofDoing := Or.inl (xg 1022 (by decide +kernel) rfl)
theorem lkX10_133 : XLk RX10 133 mX10_triesOf := Or.inl (xg 1034 (by decide +kernel) rfl)
theorem lkX10_136 : XLk RX10 136 mX10_manyIn := Or.inl (xg 1038 (by decide +kernel) rfl)
theorem lkX10_139 : XLk RX10 139 mX10_onTold := Or.inl (xg 1041 (by decide +kernel) rfl)
abbrev mX10_getsOn : XM := (yX10_getsOn, cX10_getsOn, 4, (some (.boolean)))
theorem vX10_getsOn : XV mX10_getsOn 2 := ⟨xg 1073 (by decide +kernel) rfl, xg 12 (by decide +kernel) rfl, ⟨by decide +kernel, by decide +kernel, by decide +kernel⟩, rfl⟩
theorem wX10_getsOn : Cond.instanceMethod mX10_getsOn.1 ∈ xgood ∧ Cond.selects mX10_getsOn.1.cls mX10_getsOn.1 mX10_getsOn.1 ∈ xgood := ⟨xg 1072 (by decide +kernel) rfl, xgs 53 (by decide +kernel) rfl⟩
theorem lkX10_142 : XLk RX10 142 mX10_onBy := Or.inl (xg 1030 (by decide +kernel) rfl)
theorem lkX10_145 : XLk RX10 145 mX10_laysDoing := Or.inl (xg 1010 (by decide +kernel) rfl)
abbrev mX10_aTick : XM := (yX10_aTick, cX10_aTick, 4, (some (.int)))
theorem vX10_aTick : XV mX10_aTick 0 := ⟨xg 1069 (by decide +kernel) rfl, xg 12 (by decide +kernel) rfl, ⟨by decide +kernel, by decide +kernel, by decide +kernel⟩, rfl⟩
theorem wX10_aTick : Cond.instanceMethod mX10_aTick.1 ∈ xgood ∧ Cond.selects mX10_aTick.1.cls mX10_aTick.1 mX10_aTick.1 ∈ xgood := ⟨xg 1068 (by decide +kernel) rfl, xgs 52 (by decide +kernel) rfl⟩
theorem lkX10_149 : XLk RX10 149 mX10_shutNow := Or.inl (xg 1026 (by decide +kernel) rfl)
theorem lkX10_152 : XLk RX10 152 mX10_getsOn := Or.inl (xg 1070 (by decide +kernel) rfl)
abbrev mX10_draw : XM := (yX10_draw, cX10_draw, 1, (some (.int)))
theorem vX10_draw : XV mX10_draw 0 := ⟨xg 1085 (by decide +kernel) rfl, xg 12 (by decide +kernel) rfl, ⟨by decide +kernel, by decide +kernel, by decide +kernel⟩, rfl⟩
theorem wX10_draw : Cond.instanceMethod mX10_draw.1 ∈ xgood ∧ Cond.selects mX10_draw.1.cls mX10_draw.1 mX10_draw.1 ∈ xgood := ⟨xg 1084 (by decide +kernel) rfl, xgs 55 (by decide +kernel) rfl⟩
theorem kX10_156 : Cond.constant RX10 156 (1103515245) ∈ xgood := xg 1086 (by decide +kernel) rfl
abbrev mX10_isKind : XM := (yX10_isKind, cX10_isKind, 1, (some (.boolean)))
theorem vX10_isKind : XV mX10_isKind 1 := ⟨xg 941 (by decide +kernel) rfl, xg 12 (by decide +kernel) rfl, ⟨by decide +kernel, by decide +kernel, by decide +kernel⟩, rfl⟩
theorem sX10_isKind : Cond.static mX10_isKind.1 ∈ xgood := xg 940 (by decide +kernel) rfl
abbrev mX10_isBeat : XM := (yX10_isBeat, cX10_isBeat, 2, (some (.boolean)))
theorem vX10_isBeat : XV mX10_isBeat 2 := ⟨xg 944 (by decide +kernel) rfl, xg 12 (by decide +kernel) rfl, ⟨by decide +kernel, by decide +kernel, by decide +kernel⟩, rfl⟩
theorem sX10_isBeat : Cond.static mX10_isBeat.1 ∈ xgood := xg 943 (by decide +kernel) rfl
abbrev mX10_person : XM := (yX10_person, cX10_person, 5, (some (.int)))
theorem vX10_person : XV mX10_person 3 := ⟨xg 938 (by decide +kernel) rfl, xg 12 (by decide +kernel) rfl, ⟨by decide +kernel, by decide +kernel, by decide +kernel⟩, rfl⟩
theorem wX10_person : Cond.instanceMethod mX10_person.1 ∈ xgood ∧ Cond.selects mX10_person.1.cls mX10_person.1 mX10_person.1 ∈ xgood := ⟨xg 936 (by decide +kernel) rfl, xg 937 (by decide +kernel) rfl⟩
theorem lkX10_157 : XLk RX10 157 mX10_isKind := Or.inl (xg 939 (by decide +kernel) rfl)
theorem lkX10_160 : XLk RX10 160 mX10_isBeat := Or.inl (xg 942 (by decide +kernel) rfl)
theorem lkX10_163 : XLk RX10 163 mX10_lays1 := Or.inl (xg 945 (by decide +kernel) rfl)
abbrev mX10_personIs : XM := (yX10_personIs, cX10_personIs, 3, (some (.int)))
theorem vX10_personIs : XV mX10_personIs 2 := ⟨xg 952 (by decide +kernel) rfl, xg 12 (by decide +kernel) rfl, ⟨by decide +kernel, by decide +kernel, by decide +kernel⟩, rfl⟩
theorem wX10_personIs : Cond.instanceMethod mX10_personIs.1 ∈ xgood ∧ Cond.selects mX10_personIs.1.cls mX10_personIs.1 mX10_personIs.1 ∈ xgood := ⟨xg 950 (by decide +kernel) rfl, xg 951 (by decide +kernel) rfl⟩
theorem lkX10_166 : XLk RX10 166 mX10_isPerson := Or.inl (xg 953 (by decide +kernel) rfl)
abbrev mX10_become : XM := (yX10_become, cX10_become, 3, (some (.int)))
theorem vX10_become : XV mX10_become 2 := ⟨xg 986 (by decide +kernel) rfl, xg 12 (by decide +kernel) rfl, ⟨by decide +kernel, by decide +kernel, by decide +kernel⟩, rfl⟩
theorem wX10_become : Cond.instanceMethod mX10_become.1 ∈ xgood ∧ Cond.selects mX10_become.1.cls mX10_become.1 mX10_become.1 ∈ xgood := ⟨xg 984 (by decide +kernel) rfl, xg 985 (by decide +kernel) rfl⟩
theorem lkX10_169 : XLk RX10 169 mX10_change1 := Or.inl (xg 987 (by decide +kernel) rfl)
abbrev mX10_as : XM := (yX10_as, cX10_as, 4, (some (.int)))
theorem vX10_as : XV mX10_as 2 := ⟨xg 994 (by decide +kernel) rfl, xg 12 (by decide +kernel) rfl, ⟨by decide +kernel, by decide +kernel, by decide +kernel⟩, rfl⟩
theorem wX10_as : Cond.instanceMethod mX10_as.1 ∈ xgood ∧ Cond.selects mX10_as.1.cls mX10_as.1 mX10_as.1 ∈ xgood := ⟨xg 992 (by decide +kernel) rfl, xg 993 (by decide +kernel) rfl⟩
abbrev mX10_above : XM := (yX10_above, cX10_above, 1, (some (.int)))
theorem vX10_above : XV mX10_above 1 := ⟨xg 997 (by decide +kernel) rfl, xg 12 (by decide +kernel) rfl, ⟨by decide +kernel, by decide +kernel, by decide +kernel⟩, rfl⟩
theorem sX10_above : Cond.static mX10_above.1 ∈ xgood := xg 996 (by decide +kernel) rfl
theorem lkX10_172 : XLk RX10 172 mX10_above := Or.inl (xg 995 (by decide +kernel) rfl)
abbrev mX10_beats : XM := (yX10_beats, cX10_beats, 4, (some (.int)))
theorem vX10_beats : XV mX10_beats 3 := ⟨xg 1001 (by decide +kernel) rfl, xg 12 (by decide +kernel) rfl, ⟨by decide +kernel, by decide +kernel, by decide +kernel⟩, rfl⟩
theorem wX10_beats : Cond.instanceMethod mX10_beats.1 ∈ xgood ∧ Cond.selects mX10_beats.1.cls mX10_beats.1 mX10_beats.1 ∈ xgood := ⟨xg 999 (by decide +kernel) rfl, xg 1000 (by decide +kernel) rfl⟩
abbrev mX10_doing : XM := (yX10_doing, cX10_doing, 5, (some (.int)))
theorem vX10_doing : XV mX10_doing 3 := ⟨xg 1005 (by decide +kernel) rfl, xg 12 (by decide +kernel) rfl, ⟨by decide +kernel, by decide +kernel, by decide +kernel⟩, rfl⟩
theorem wX10_doing : Cond.instanceMethod mX10_doing.1 ∈ xgood ∧ Cond.selects mX10_doing.1.cls mX10_doing.1 mX10_doing.1 ∈ xgood := ⟨xg 1003 (by decide +kernel) rfl, xg 1004 (by decide +kernel) rfl⟩
theorem lkX10_175 : XLk RX10 175 mX10_isSet := Or.inl (xg 1006 (by decide +kernel) rfl)
abbrev mX10_doingIs : XM := (yX10_doingIs, cX10_doingIs, 3, (some (.int)))
theorem vX10_doingIs : XV mX10_doingIs 2 := ⟨xg 1017 (by decide +kernel) rfl, xg 12 (by decide +kernel) rfl, ⟨by decide +kernel, by decide +kernel, by decide +kernel⟩, rfl⟩
theorem wX10_doingIs : Cond.instanceMethod mX10_doingIs.1 ∈ xgood ∧ Cond.selects mX10_doingIs.1.cls mX10_doingIs.1 mX10_doingIs.1 ∈ xgood := ⟨xg 1015 (by decide +kernel) rfl, xg 1016 (by decide +kernel) rfl⟩
theorem lkX10_178 : XLk RX10 178 mX10_isDoing := Or.inl (xg 1018 (by decide +kernel) rfl)
abbrev mX10_sets : XM := (yX10_sets, cX10_sets, 3, (some (.int)))
theorem vX10_sets : XV mX10_sets 2 := ⟨xg 1048 (by decide +kernel) rfl, xg 12 (by decide +kernel) rfl, ⟨by decide +kernel, by decide +kernel, by decide +kernel⟩, rfl⟩
theorem wX10_sets : Cond.instanceMethod mX10_sets.1 ∈ xgood ∧ Cond.selects mX10_sets.1.cls mX10_sets.1 mX10_sets.1 ∈ xgood := ⟨xg 1046 (by decide +kernel) rfl, xg 1047 (by decide +kernel) rfl⟩
abbrev mX10_shut : XM := (yX10_shut, cX10_shut, 1, (some (.int)))
theorem vX10_shut : XV mX10_shut 0 := ⟨xg 1052 (by decide +kernel) rfl, xg 12 (by decide +kernel) rfl, ⟨by decide +kernel, by decide +kernel, by decide +kernel⟩, rfl⟩
theorem wX10_shut : Cond.instanceMethod mX10_shut.1 ∈ xgood ∧ Cond.selects mX10_shut.1.cls mX10_shut.1 mX10_shut.1 ∈ xgood := ⟨xg 1050 (by decide +kernel) rfl, xg 1051 (by decide +kernel) rfl⟩
abbrev mX10_law : XM := (yX10_law, cX10_law, 5, (some (.int)))
theorem vX10_law : XV mX10_law 4 := ⟨xg 1056 (by decide +kernel) rfl, xg 12 (by decide +kernel) rfl, ⟨by decide +kernel, by decide +kernel, by decide +kernel⟩, rfl⟩
theorem wX10_law : Cond.instanceMethod mX10_law.1 ∈ xgood ∧ Cond.selects mX10_law.1.cls mX10_law.1 mX10_law.1 ∈ xgood := ⟨xg 1054 (by decide +kernel) rfl, xg 1055 (by decide +kernel) rfl⟩
abbrev mX10_whyNot : XM := (yX10_whyNot, cX10_whyNot, 3, (some (.int)))
theorem vX10_whyNot : XV mX10_whyNot 2 := ⟨xg 1064 (by decide +kernel) rfl, xg 12 (by decide +kernel) rfl, ⟨by decide +kernel, by decide +kernel, by decide +kernel⟩, rfl⟩
theorem wX10_whyNot : Cond.instanceMethod mX10_whyNot.1 ∈ xgood ∧ Cond.selects mX10_whyNot.1.cls mX10_whyNot.1 mX10_whyNot.1 ∈ xgood := ⟨xg 1063 (by decide +kernel) rfl, xgs 51 (by decide +kernel) rfl⟩
theorem kX10_181 : Cond.constant RX10 181 (99999) ∈ xgood := xg 1065 (by decide +kernel) rfl
abbrev mX10_ticks : XM := (yX10_ticks, cX10_ticks, 5, (some (.int)))
theorem vX10_ticks : XV mX10_ticks 1 := ⟨xg 1060 (by decide +kernel) rfl, xg 12 (by decide +kernel) rfl, ⟨by decide +kernel, by decide +kernel, by decide +kernel⟩, rfl⟩
theorem wX10_ticks : Cond.instanceMethod mX10_ticks.1 ∈ xgood ∧ Cond.selects mX10_ticks.1.cls mX10_ticks.1 mX10_ticks.1 ∈ xgood := ⟨xg 1058 (by decide +kernel) rfl, xg 1059 (by decide +kernel) rfl⟩
theorem lkX10_182 : XLk RX10 182 mX10_whyNot := Or.inl (xg 1061 (by decide +kernel) rfl)
theorem lkX10_185 : XLk RX10 185 mX10_aTick := Or.inl (xg 1066 (by decide +kernel) rfl)
abbrev mX10_shifts : XM := (yX10_shifts, cX10_shifts, 2, none)
theorem vX10_shifts : XV mX10_shifts 0 := ⟨xg 1081 (by decide +kernel) rfl, xg 12 (by decide +kernel) rfl, ⟨by decide +kernel, by decide +kernel, by decide +kernel⟩, rfl⟩
theorem wX10_shifts : Cond.instanceMethod mX10_shifts.1 ∈ xgood ∧ Cond.selects mX10_shifts.1.cls mX10_shifts.1 mX10_shifts.1 ∈ xgood := ⟨xg 1080 (by decide +kernel) rfl, xgs 54 (by decide +kernel) rfl⟩
theorem lkX10_188 : XLk RX10 188 mX10_draw := Or.inl (xg 1082 (by decide +kernel) rfl)
abbrev mX10_loose : XM := (yX10_loose, cX10_loose, 5, (some (.int)))
theorem vX10_loose : XV mX10_loose 1 := ⟨xg 1077 (by decide +kernel) rfl, xg 12 (by decide +kernel) rfl, ⟨by decide +kernel, by decide +kernel, by decide +kernel⟩, rfl⟩
theorem wX10_loose : Cond.instanceMethod mX10_loose.1 ∈ xgood ∧ Cond.selects mX10_loose.1.cls mX10_loose.1 mX10_loose.1 ∈ xgood := ⟨xg 1075 (by decide +kernel) rfl, xg 1076 (by decide +kernel) rfl⟩
theorem lkX10_191 : XLk RX10 191 mX10_shifts := Or.inl (xg 1078 (by decide +kernel) rfl)
abbrev mX10_tick : XM := (yX10_tick, cX10_tick, 2, (some (.int)))
theorem vX10_tick : XV mX10_tick 1 := ⟨xg 1090 (by decide +kernel) rfl, xg 12 (by decide +kernel) rfl, ⟨by decide +kernel, by decide +kernel, by decide +kernel⟩, rfl⟩
theorem wX10_tick : Cond.instanceMethod mX10_tick.1 ∈ xgood ∧ Cond.selects mX10_tick.1.cls mX10_tick.1 mX10_tick.1 ∈ xgood := ⟨xg 1088 (by decide +kernel) rfl, xg 1089 (by decide +kernel) rfl⟩
abbrev mX10_seed : XM := (yX10_seed, cX10_seed, 2, (some (.int)))
theorem vX10_seed : XV mX10_seed 1 := ⟨xg 1094 (by decide +kernel) rfl, xg 12 (by decide +kernel) rfl, ⟨by decide +kernel, by decide +kernel, by decide +kernel⟩, rfl⟩
theorem wX10_seed : Cond.instanceMethod mX10_seed.1 ∈ xgood ∧ Cond.selects mX10_seed.1.cls mX10_seed.1 mX10_seed.1 ∈ xgood := ⟨xg 1092 (by decide +kernel) rfl, xg 1093 (by decide +kernel) rfl⟩
abbrev mX10_then : XM := (yX10_then, cX10_then, 5, (some (.int)))
theorem vX10_then : XV mX10_then 2 := ⟨xg 1098 (by decide +kernel) rfl, xg 12 (by decide +kernel) rfl, ⟨by decide +kernel, by decide +kernel, by decide +kernel⟩, rfl⟩
theorem wX10_then : Cond.instanceMethod mX10_then.1 ∈ xgood ∧ Cond.selects mX10_then.1.cls mX10_then.1 mX10_then.1 ∈ xgood := ⟨xg 1096 (by decide +kernel) rfl, xg 1097 (by decide +kernel) rfl⟩
theorem lkX10_194 : XLk RX10 194 mX10_layDown := Or.inl (xg 1099 (by decide +kernel) rfl)
theorem lkX10_197 : XLk RX10 197 mX10_layBack := Or.inl (xg 1103 (by decide +kernel) rfl)
abbrev mX10_doneBy : XM := (yX10_doneBy, cX10_doneBy, 5, (some (.int)))
theorem vX10_doneBy : XV mX10_doneBy 2 := ⟨xg 1114 (by decide +kernel) rfl, xg 12 (by decide +kernel) rfl, ⟨by decide +kernel, by decide +kernel, by decide +kernel⟩, rfl⟩
theorem wX10_doneBy : Cond.instanceMethod mX10_doneBy.1 ∈ xgood ∧ Cond.selects mX10_doneBy.1.cls mX10_doneBy.1 mX10_doneBy.1 ∈ xgood := ⟨xg 1113 (by decide +kernel) rfl, xgs 58 (by decide +kernel) rfl⟩
abbrev mX10_soonest : XM := (yX10_soonest, cX10_soonest, 3, (some (.int)))
theorem vX10_soonest : XV mX10_soonest 1 := ⟨xg 1110 (by decide +kernel) rfl, xg 12 (by decide +kernel) rfl, ⟨by decide +kernel, by decide +kernel, by decide +kernel⟩, rfl⟩
theorem wX10_soonest : Cond.instanceMethod mX10_soonest.1 ∈ xgood ∧ Cond.selects mX10_soonest.1.cls mX10_soonest.1 mX10_soonest.1 ∈ xgood := ⟨xg 1108 (by decide +kernel) rfl, xg 1109 (by decide +kernel) rfl⟩
theorem lkX10_200 : XLk RX10 200 mX10_doneBy := Or.inl (xg 1111 (by decide +kernel) rfl)
abbrev mX10_isMoment : XM := (yX10_isMoment, cX10_isMoment, 4, (some (.boolean)))
theorem vX10_isMoment : XV mX10_isMoment 1 := ⟨xg 1122 (by decide +kernel) rfl, xg 12 (by decide +kernel) rfl, ⟨by decide +kernel, by decide +kernel, by decide +kernel⟩, rfl⟩
theorem wX10_isMoment : Cond.instanceMethod mX10_isMoment.1 ∈ xgood ∧ Cond.selects mX10_isMoment.1.cls mX10_isMoment.1 mX10_isMoment.1 ∈ xgood := ⟨xg 1121 (by decide +kernel) rfl, xgs 59 (by decide +kernel) rfl⟩
abbrev mX10_moment : XM := (yX10_moment, cX10_moment, 4, (some (.int)))
theorem vX10_moment : XV mX10_moment 1 := ⟨xg 1118 (by decide +kernel) rfl, xg 12 (by decide +kernel) rfl, ⟨by decide +kernel, by decide +kernel, by decide +kernel⟩, rfl⟩
theorem wX10_moment : Cond.instanceMethod mX10_moment.1 ∈ xgood ∧ Cond.selects mX10_moment.1.cls mX10_moment.1 mX10_moment.1 ∈ xgood := ⟨xg 1116 (by decide +kernel) rfl, xg 1117 (by decide +kernel) rfl⟩
theorem lkX10_203 : XLk RX10 203 mX10_isMoment := Or.inl (xg 1119 (by decide +kernel) rfl)
abbrev mX10_momentsOf : XM := (yX10_momentsOf, cX10_momentsOf, 6, (some (.int)))
theorem vX10_momentsOf : XV mX10_momentsOf 2 := ⟨xg 1130 (by decide +kernel) rfl, xg 12 (by decide +kernel) rfl, ⟨by decide +kernel, by decide +kernel, by decide +kernel⟩, rfl⟩
theorem wX10_momentsOf : Cond.instanceMethod mX10_momentsOf.1 ∈ xgood ∧ Cond.selects mX10_momentsOf.1.cls mX10_momentsOf.1 mX10_momentsOf.1 ∈ xgood := ⟨xg 1129 (by decide +kernel) rfl, xgs 60 (by decide +kernel) rfl⟩
abbrev mX10_moments : XM := (yX10_moments, cX10_moments, 3, (some (.int)))
theorem vX10_moments : XV mX10_moments 2 := ⟨xg 1126 (by decide +kernel) rfl, xg 12 (by decide +kernel) rfl, ⟨by decide +kernel, by decide +kernel, by decide +kernel⟩, rfl⟩
theorem wX10_moments : Cond.instanceMethod mX10_moments.1 ∈ xgood ∧ Cond.selects mX10_moments.1.cls mX10_moments.1 mX10_moments.1 ∈ xgood := ⟨xg 1124 (by decide +kernel) rfl, xg 1125 (by decide +kernel) rfl⟩
theorem lkX10_206 : XLk RX10 206 mX10_momentsOf := Or.inl (xg 1127 (by decide +kernel) rfl)
abbrev mX10_isDoneWithout : XM := (yX10_isDoneWithout, cX10_isDoneWithout, 4, (some (.boolean)))
theorem vX10_isDoneWithout : XV mX10_isDoneWithout 3 := ⟨xg 1138 (by decide +kernel) rfl, xg 12 (by decide +kernel) rfl, ⟨by decide +kernel, by decide +kernel, by decide +kernel⟩, rfl⟩
theorem wX10_isDoneWithout : Cond.instanceMethod mX10_isDoneWithout.1 ∈ xgood ∧ Cond.selects mX10_isDoneWithout.1.cls mX10_isDoneWithout.1 mX10_isDoneWithout.1 ∈ xgood := ⟨xg 1137 (by decide +kernel) rfl, xgs 61 (by decide +kernel) rfl⟩
abbrev mX10_away : XM := (yX10_away, cX10_away, 8, (some (.int)))
theorem vX10_away : XV mX10_away 3 := ⟨xg 1134 (by decide +kernel) rfl, xg 12 (by decide +kernel) rfl, ⟨by decide +kernel, by decide +kernel, by decide +kernel⟩, rfl⟩
theorem wX10_away : Cond.instanceMethod mX10_away.1 ∈ xgood ∧ Cond.selects mX10_away.1.cls mX10_away.1 mX10_away.1 ∈ xgood := ⟨xg 1132 (by decide +kernel) rfl, xg 1133 (by decide +kernel) rfl⟩
theorem lkX10_209 : XLk RX10 209 mX10_isDoneWithout := Or.inl (xg 1135 (by decide +kernel) rfl)
abbrev mX10_phaseFor : XM := (yX10_phaseFor, cX10_phaseFor, 9, (some (.int)))
theorem vX10_phaseFor : XV mX10_phaseFor 3 := ⟨xg 1142 (by decide +kernel) rfl, xg 12 (by decide +kernel) rfl, ⟨by decide +kernel, by decide +kernel, by decide +kernel⟩, rfl⟩
theorem wX10_phaseFor : Cond.instanceMethod mX10_phaseFor.1 ∈ xgood ∧ Cond.selects mX10_phaseFor.1.cls mX10_phaseFor.1 mX10_phaseFor.1 ∈ xgood := ⟨xg 1140 (by decide +kernel) rfl, xg 1141 (by decide +kernel) rfl⟩
abbrev mX10_divisor : XM := (yX10_divisor, cX10_divisor, 5, (some (.int)))
theorem vX10_divisor : XV mX10_divisor 2 := ⟨xg 1149 (by decide +kernel) rfl, xg 12 (by decide +kernel) rfl, ⟨by decide +kernel, by decide +kernel, by decide +kernel⟩, rfl⟩
theorem sX10_divisor : Cond.static mX10_divisor.1 ∈ xgood := xg 1148 (by decide +kernel) rfl
abbrev mX10_odds : XM := (yX10_odds, cX10_odds, 6, (some (.int)))
theorem vX10_odds : XV mX10_odds 3 := ⟨xg 1146 (by decide +kernel) rfl, xg 12 (by decide +kernel) rfl, ⟨by decide +kernel, by decide +kernel, by decide +kernel⟩, rfl⟩
theorem wX10_odds : Cond.instanceMethod mX10_odds.1 ∈ xgood ∧ Cond.selects mX10_odds.1.cls mX10_odds.1 mX10_odds.1 ∈ xgood := ⟨xg 1144 (by decide +kernel) rfl, xg 1145 (by decide +kernel) rfl⟩
theorem lkX10_212 : XLk RX10 212 mX10_divisor := Or.inl (xg 1147 (by decide +kernel) rfl)
abbrev mX10_isShutSo : XM := (yX10_isShutSo, cX10_isShutSo, 7, (some (.boolean)))
theorem vX10_isShutSo : XV mX10_isShutSo 4 := ⟨xg 1164 (by decide +kernel) rfl, xg 12 (by decide +kernel) rfl, ⟨by decide +kernel, by decide +kernel, by decide +kernel⟩, rfl⟩
theorem wX10_isShutSo : Cond.instanceMethod mX10_isShutSo.1 ∈ xgood ∧ Cond.selects mX10_isShutSo.1.cls mX10_isShutSo.1 mX10_isShutSo.1 ∈ xgood := ⟨xg 1163 (by decide +kernel) rfl, xgs 63 (by decide +kernel) rfl⟩
abbrev mX10_fits : XM := (yX10_fits, cX10_fits, 10, (some (.int)))
theorem vX10_fits : XV mX10_fits 3 := ⟨xg 1153 (by decide +kernel) rfl, xg 12 (by decide +kernel) rfl, ⟨by decide +kernel, by decide +kernel, by decide +kernel⟩, rfl⟩
theorem wX10_fits : Cond.instanceMethod mX10_fits.1 ∈ xgood ∧ Cond.selects mX10_fits.1.cls mX10_fits.1 mX10_fits.1 ∈ xgood := ⟨xg 1151 (by decide +kernel) rfl, xg 1152 (by decide +kernel) rfl⟩
abbrev mX10_lacks : XM := (yX10_lacks, cX10_lacks, 2, (some (.int)))
theorem vX10_lacks : XV mX10_lacks 1 := ⟨xg 1157 (by decide +kernel) rfl, xg 12 (by decide +kernel) rfl, ⟨by decide +kernel, by decide +kernel, by decide +kernel⟩, rfl⟩
theorem wX10_lacks : Cond.instanceMethod mX10_lacks.1 ∈ xgood ∧ Cond.selects mX10_lacks.1.cls mX10_lacks.1 mX10_lacks.1 ∈ xgood := ⟨xg 1156 (by decide +kernel) rfl, xgs 62 (by decide +kernel) rfl⟩
theorem lkX10_215 : XLk RX10 215 mX10_lacks := Or.inl (xg 1154 (by decide +kernel) rfl)
theorem lkX10_218 : XLk RX10 218 mX10_isShutSo := Or.inl (xg 1161 (by decide +kernel) rfl)
abbrev mX10_starts : XM := (yX10_starts, cX10_starts, 2, none)
theorem vX10_starts : XV mX10_starts 1 := ⟨xg 1180 (by decide +kernel) rfl, xg 12 (by decide +kernel) rfl, ⟨by decide +kernel, by decide +kernel, by decide +kernel⟩, rfl⟩
theorem wX10_starts : Cond.instanceMethod mX10_starts.1 ∈ xgood ∧ Cond.selects mX10_starts.1.cls mX10_starts.1 mX10_starts.1 ∈ xgood := ⟨xg 1179 (by decide +kernel) rfl, xgs 66 (by decide +kernel) rfl⟩
theorem fX10_222 : XF RX10 222 10 12 .int false := XF.of (C := RX10) (T := TX10) (N := 20) rfl rfl rfl (by decide +kernel) rfl (xg 821 (by decide +kernel) rfl)
abbrev mX10_kindNow : XM := (yX10_kindNow, cX10_kindNow, 1, (some (.int)))
theorem vX10_kindNow : XV mX10_kindNow 0 := ⟨xg 1172 (by decide +kernel) rfl, xg 12 (by decide +kernel) rfl, ⟨by decide +kernel, by decide +kernel, by decide +kernel⟩, rfl⟩
theorem wX10_kindNow : Cond.instanceMethod mX10_kindNow.1 ∈ xgood ∧ Cond.selects mX10_kindNow.1.cls mX10_kindNow.1 mX10_kindNow.1 ∈ xgood := ⟨xg 1171 (by decide +kernel) rfl, xgs 64 (by decide +kernel) rfl⟩
theorem fX10_225 : XF RX10 225 10 14 .int false := XF.of (C := RX10) (T := TX10) (N := 20) rfl rfl rfl (by decide +kernel) rfl (xg 823 (by decide +kernel) rfl)
abbrev mX10_mNow : XM := (yX10_mNow, cX10_mNow, 1, (some (.int)))
theorem vX10_mNow : XV mX10_mNow 0 := ⟨xg 1188 (by decide +kernel) rfl, xg 12 (by decide +kernel) rfl, ⟨by decide +kernel, by decide +kernel, by decide +kernel⟩, rfl⟩
theorem wX10_mNow : Cond.instanceMethod mX10_mNow.1 ∈ xgood ∧ Cond.selects mX10_mNow.1.cls mX10_mNow.1 mX10_mNow.1 ∈ xgood := ⟨xg 1187 (by decide +kernel) rfl, xgs 68 (by decide +kernel) rfl⟩
abbrev mX10_blinksAs : XM := (yX10_blinksAs, cX10_blinksAs, 3, (some (.int)))
theorem vX10_blinksAs : XV mX10_blinksAs 2 := ⟨xg 1176 (by decide +kernel) rfl, xg 12 (by decide +kernel) rfl, ⟨by decide +kernel, by decide +kernel, by decide +kernel⟩, rfl⟩
theorem wX10_blinksAs : Cond.instanceMethod mX10_blinksAs.1 ∈ xgood ∧ Cond.selects mX10_blinksAs.1.cls mX10_blinksAs.1 mX10_blinksAs.1 ∈ xgood := ⟨xg 1175 (by decide +kernel) rfl, xgs 65 (by decide +kernel) rfl⟩
theorem lkX10_228 : XLk RX10 228 mX10_starts := Or.inl (xg 1177 (by decide +kernel) rfl)
theorem lkX10_232 : XLk RX10 232 mX10_blinksAs := Or.inl (xg 1173 (by decide +kernel) rfl)
abbrev mX10_movesAs : XM := (yX10_movesAs, cX10_movesAs, 3, (some (.int)))
theorem vX10_movesAs : XV mX10_movesAs 2 := ⟨xg 1184 (by decide +kernel) rfl, xg 12 (by decide +kernel) rfl, ⟨by decide +kernel, by decide +kernel, by decide +kernel⟩, rfl⟩
theorem wX10_movesAs : Cond.instanceMethod mX10_movesAs.1 ∈ xgood ∧ Cond.selects mX10_movesAs.1.cls mX10_movesAs.1 mX10_movesAs.1 ∈ xgood := ⟨xg 1183 (by decide +kernel) rfl, xgs 67 (by decide +kernel) rfl⟩
theorem lkX10_235 : XLk RX10 235 mX10_kindNow := Or.inl (xg 1169 (by decide +kernel) rfl)
theorem lkX10_238 : XLk RX10 238 mX10_movesAs := Or.inl (xg 1181 (by decide +kernel) rfl)
theorem lkX10_241 : XLk RX10 241 mX10_mNow := Or.inl (xg 1185 (by decide +kernel) rfl)
abbrev mX10_looksAs : XM := (yX10_looksAs, cX10_looksAs, 3, (some (.int)))
theorem vX10_looksAs : XV mX10_looksAs 2 := ⟨xg 1192 (by decide +kernel) rfl, xg 12 (by decide +kernel) rfl, ⟨by decide +kernel, by decide +kernel, by decide +kernel⟩, rfl⟩
theorem wX10_looksAs : Cond.instanceMethod mX10_looksAs.1 ∈ xgood ∧ Cond.selects mX10_looksAs.1.cls mX10_looksAs.1 mX10_looksAs.1 ∈ xgood := ⟨xg 1191 (by decide +kernel) rfl, xgs 69 (by decide +kernel) rfl⟩
theorem lkX10_244 : XLk RX10 244 mX10_looksAs := Or.inl (xg 1189 (by decide +kernel) rfl)
abbrev mX10_partsAs : XM := (yX10_partsAs, cX10_partsAs, 5, (some (.int)))
theorem vX10_partsAs : XV mX10_partsAs 2 := ⟨xg 1196 (by decide +kernel) rfl, xg 12 (by decide +kernel) rfl, ⟨by decide +kernel, by decide +kernel, by decide +kernel⟩, rfl⟩
theorem wX10_partsAs : Cond.instanceMethod mX10_partsAs.1 ∈ xgood ∧ Cond.selects mX10_partsAs.1.cls mX10_partsAs.1 mX10_partsAs.1 ∈ xgood := ⟨xg 1195 (by decide +kernel) rfl, xgs 70 (by decide +kernel) rfl⟩
theorem fX10_247 : XF RX10 247 10 15 .boolean false := XF.of (C := RX10) (T := TX10) (N := 20) rfl rfl rfl (by decide +kernel) rfl (xg 824 (by decide +kernel) rfl)
theorem lkX10_251 : XLk RX10 251 mX10_partsAs := Or.inl (xg 1193 (by decide +kernel) rfl)
abbrev mX10_voice : XM := (yX10_voice, cX10_voice, 6, (some (.int)))
theorem vX10_voice : XV mX10_voice 3 := ⟨xg 1168 (by decide +kernel) rfl, xg 12 (by decide +kernel) rfl, ⟨by decide +kernel, by decide +kernel, by decide +kernel⟩, rfl⟩
theorem wX10_voice : Cond.instanceMethod mX10_voice.1 ∈ xgood ∧ Cond.selects mX10_voice.1.cls mX10_voice.1 mX10_voice.1 ∈ xgood := ⟨xg 1166 (by decide +kernel) rfl, xg 1167 (by decide +kernel) rfl⟩
abbrev mX10_body : XM := (yX10_body, cX10_body, 2, (some (.int)))
theorem vX10_body : XV mX10_body 1 := ⟨xg 1200 (by decide +kernel) rfl, xg 12 (by decide +kernel) rfl, ⟨by decide +kernel, by decide +kernel, by decide +kernel⟩, rfl⟩
theorem wX10_body : Cond.instanceMethod mX10_body.1 ∈ xgood ∧ Cond.selects mX10_body.1.cls mX10_body.1 mX10_body.1 ∈ xgood := ⟨xg 1198 (by decide +kernel) rfl, xg 1199 (by decide +kernel) rfl⟩
abbrev mX10_isSheet : XM := (yX10_isSheet, cX10_isSheet, 1, (some (.boolean)))
theorem vX10_isSheet : XV mX10_isSheet 1 := ⟨xg 1160 (by decide +kernel) rfl, xg 12 (by decide +kernel) rfl, ⟨by decide +kernel, by decide +kernel, by decide +kernel⟩, rfl⟩
theorem sX10_isSheet : Cond.static mX10_isSheet.1 ∈ xgood := xg 1159 (by decide +kernel) rfl
abbrev mX10_sheet : XM := (yX10_sheet, cX10_sheet, 5, (some (.int)))
theorem vX10_sheet : XV mX10_sheet 3 := ⟨xg 1204 (by decide +kernel) rfl, xg 12 (by decide +kernel) rfl, ⟨by decide +kernel, by decide +kernel, by decide +kernel⟩, rfl⟩
theorem wX10_sheet : Cond.instanceMethod mX10_sheet.1 ∈ xgood ∧ Cond.selects mX10_sheet.1.cls mX10_sheet.1 mX10_sheet.1 ∈ xgood := ⟨xg 1202 (by decide +kernel) rfl, xg 1203 (by decide +kernel) rfl⟩
theorem lkX10_254 : XLk RX10 254 mX10_isSheet := Or.inl (xg 1158 (by decide +kernel) rfl)
abbrev mX10_put : XM := (yX10_put, cX10_put, 5, (some (.int)))
theorem vX10_put : XV mX10_put 3 := ⟨xg 1208 (by decide +kernel) rfl, xg 12 (by decide +kernel) rfl, ⟨by decide +kernel, by decide +kernel, by decide +kernel⟩, rfl⟩
theorem wX10_put : Cond.instanceMethod mX10_put.1 ∈ xgood ∧ Cond.selects mX10_put.1.cls mX10_put.1 mX10_put.1 ∈ xgood := ⟨xg 1206 (by decide +kernel) rfl, xg 1207 (by decide +kernel) rfl⟩
abbrev mX10_move : XM := (yX10_move, cX10_move, 7, (some (.int)))
theorem vX10_move : XV mX10_move 5 := ⟨xg 1212 (by decide +kernel) rfl, xg 12 (by decide +kernel) rfl, ⟨by decide +kernel, by decide +kernel, by decide +kernel⟩, rfl⟩
theorem wX10_move : Cond.instanceMethod mX10_move.1 ∈ xgood ∧ Cond.selects mX10_move.1.cls mX10_move.1 mX10_move.1 ∈ xgood := ⟨xg 1210 (by decide +kernel) rfl, xg 1211 (by decide +kernel) rfl⟩
abbrev mX10_partsAll : XM := (yX10_partsAll, cX10_partsAll, 4, (some (.int)))
theorem vX10_partsAll : XV mX10_partsAll 1 := ⟨xg 1216 (by decide +kernel) rfl, xg 12 (by decide +kernel) rfl, ⟨by decide +kernel, by decide +kernel, by decide +kernel⟩, rfl⟩
theorem wX10_partsAll : Cond.instanceMethod mX10_partsAll.1 ∈ xgood ∧ Cond.selects mX10_partsAll.1.cls mX10_partsAll.1 mX10_partsAll.1 ∈ xgood := ⟨xg 1214 (by decide +kernel) rfl, xg 1215 (by decide +kernel) rfl⟩
abbrev mX10_judge : XM := (yX10_judge, cX10_judge, 5, (some (.int)))
theorem vX10_judge : XV mX10_judge 1 := ⟨xg 1220 (by decide +kernel) rfl, xg 12 (by decide +kernel) rfl, ⟨by decide +kernel, by decide +kernel, by decide +kernel⟩, rfl⟩
theorem wX10_judge : Cond.instanceMethod mX10_judge.1 ∈ xgood ∧ Cond.selects mX10_judge.1.cls mX10_judge.1 mX10_judge.1 ∈ xgood := ⟨xg 1218 (by decide +kernel) rfl, xg 1219 (by decide +kernel) rfl⟩
abbrev mX10_image : XM := (yX10_image, cX10_image, 1, (some (.int)))
theorem vX10_image : XV mX10_image 0 := ⟨xg 1224 (by decide +kernel) rfl, xg 12 (by decide +kernel) rfl, ⟨by decide +kernel, by decide +kernel, by decide +kernel⟩, rfl⟩
theorem wX10_image : Cond.instanceMethod mX10_image.1 ∈ xgood ∧ Cond.selects mX10_image.1.cls mX10_image.1 mX10_image.1 ∈ xgood := ⟨xg 1222 (by decide +kernel) rfl, xg 1223 (by decide +kernel) rfl⟩
theorem lkX10_257 : XLk RX10 257 mX10_copyAll := Or.inl (xg 1225 (by decide +kernel) rfl)
theorem fX10_261 : XF RX10 261 10 3 .int false := XF.of (C := RX10) (T := TX10) (N := 20) rfl rfl rfl (by decide +kernel) rfl (xg 812 (by decide +kernel) rfl)
abbrev mX10_restore : XM := (yX10_restore, cX10_restore, 1, (some (.int)))
theorem vX10_restore : XV mX10_restore 0 := ⟨xg 1231 (by decide +kernel) rfl, xg 12 (by decide +kernel) rfl, ⟨by decide +kernel, by decide +kernel, by decide +kernel⟩, rfl⟩
theorem wX10_restore : Cond.instanceMethod mX10_restore.1 ∈ xgood ∧ Cond.selects mX10_restore.1.cls mX10_restore.1 mX10_restore.1 ∈ xgood := ⟨xg 1229 (by decide +kernel) rfl, xg 1230 (by decide +kernel) rfl⟩
abbrev mX10_tell : XM := (yX10_tell, cX10_tell, 2, (some (.int)))
theorem vX10_tell : XV mX10_tell 1 := ⟨xg 1235 (by decide +kernel) rfl, xg 12 (by decide +kernel) rfl, ⟨by decide +kernel, by decide +kernel, by decide +kernel⟩, rfl⟩
theorem wX10_tell : Cond.instanceMethod mX10_tell.1 ∈ xgood ∧ Cond.selects mX10_tell.1.cls mX10_tell.1 mX10_tell.1 ∈ xgood := ⟨xg 1233 (by decide +kernel) rfl, xg 1234 (by decide +kernel) rfl⟩
abbrev mX10_check : XM := (yX10_check, cX10_check, 3, (some (.int)))
theorem vX10_check : XV mX10_check 0 := ⟨xg 1239 (by decide +kernel) rfl, xg 12 (by decide +kernel) rfl, ⟨by decide +kernel, by decide +kernel, by decide +kernel⟩, rfl⟩
theorem wX10_check : Cond.instanceMethod mX10_check.1 ∈ xgood ∧ Cond.selects mX10_check.1.cls mX10_check.1 mX10_check.1 ∈ xgood := ⟨xg 1237 (by decide +kernel) rfl, xg 1238 (by decide +kernel) rfl⟩
abbrev mX10_allParts : XM := (yX10_allParts, cX10_allParts, 3, (some (.int)))
theorem vX10_allParts : XV mX10_allParts 0 := ⟨xg 1247 (by decide +kernel) rfl, xg 12 (by decide +kernel) rfl, ⟨by decide +kernel, by decide +kernel, by decide +kernel⟩, rfl⟩
theorem wX10_allParts : Cond.instanceMethod mX10_allParts.1 ∈ xgood ∧ Cond.selects mX10_allParts.1.cls mX10_allParts.1 mX10_allParts.1 ∈ xgood := ⟨xg 1246 (by decide +kernel) rfl, xgs 71 (by decide +kernel) rfl⟩
abbrev mX10_count : XM := (yX10_count, cX10_count, 2, (some (.int)))
theorem vX10_count : XV mX10_count 1 := ⟨xg 1243 (by decide +kernel) rfl, xg 12 (by decide +kernel) rfl, ⟨by decide +kernel, by decide +kernel, by decide +kernel⟩, rfl⟩
theorem wX10_count : Cond.instanceMethod mX10_count.1 ∈ xgood ∧ Cond.selects mX10_count.1.cls mX10_count.1 mX10_count.1 ∈ xgood := ⟨xg 1241 (by decide +kernel) rfl, xg 1242 (by decide +kernel) rfl⟩
theorem lkX10_264 : XLk RX10 264 mX10_allParts := Or.inl (xg 1244 (by decide +kernel) rfl)
abbrev mX10_told : XM := (yX10_told, cX10_told, 2, (some (.int)))
theorem vX10_told : XV mX10_told 1 := ⟨xg 1251 (by decide +kernel) rfl, xg 12 (by decide +kernel) rfl, ⟨by decide +kernel, by decide +kernel, by decide +kernel⟩, rfl⟩
theorem wX10_told : Cond.instanceMethod mX10_told.1 ∈ xgood ∧ Cond.selects mX10_told.1.cls mX10_told.1 mX10_told.1 ∈ xgood := ⟨xg 1249 (by decide +kernel) rfl, xg 1250 (by decide +kernel) rfl⟩
theorem kJ6_265 : Cond.constant RJ6 265 (1431655765) ∈ xgood := xg 424 (by decide +kernel) rfl
theorem kJ6_266 : Cond.constant RJ6 266 (858993459) ∈ xgood := xg 425 (by decide +kernel) rfl
theorem kJ6_267 : Cond.constant RJ6 267 (252645135) ∈ xgood := xg 426 (by decide +kernel) rfl

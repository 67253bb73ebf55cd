section
-- ===== PART A: goes FIRST, ahead of the names: the tables' words, and 'selects' of the private methods out of them =====
/-- a private method of a class that the tables say can be made, by its rows of tables_1 -/
def lw_okq (q : MethodName × Nat) : Prop := (q.1.cls ≠ "java/lang/invoke/MethodHandle" ∧ q.1.cls ≠ "java/lang/invoke/VarHandle") ∧ Cond.instantiable q.1.cls q.2 ∈ tables_1 ∧ Cond.privateMethod q.1 ∈ tables_1 ∧ Cond.instanceMethod q.1 ∈ tables_1
theorem lw_p0 : lw_okq (⟨"BlinkMoves", "fail", "(I)I"⟩, 8) := ⟨⟨by decide +kernel, by decide +kernel⟩, List.mem_of_getElem? (i := 16) (by decide +kernel), List.mem_of_getElem? (i := 298) (by decide +kernel), List.mem_of_getElem? (i := 299) (by decide +kernel)⟩
theorem lw_p1 : lw_okq (⟨"BlinkMoves$Person", "deafBlinks", "(II)Z"⟩, 4) := ⟨⟨by decide +kernel, by decide +kernel⟩, List.mem_of_getElem? (i := 72) (by decide +kernel), List.mem_of_getElem? (i := 333) (by decide +kernel), List.mem_of_getElem? (i := 334) (by decide +kernel)⟩
theorem lw_p2 : lw_okq (⟨"BlinkMoves$Law", "worked", "(III)I"⟩, 4) := ⟨⟨by decide +kernel, by decide +kernel⟩, List.mem_of_getElem? (i := 34) (by decide +kernel), List.mem_of_getElem? (i := 341) (by decide +kernel), List.mem_of_getElem? (i := 342) (by decide +kernel)⟩
theorem lw_p3 : lw_okq (⟨"BlinkMoves$Person", "bankerTries", "()I"⟩, 4) := ⟨⟨by decide +kernel, by decide +kernel⟩, List.mem_of_getElem? (i := 72) (by decide +kernel), List.mem_of_getElem? (i := 418) (by decide +kernel), List.mem_of_getElem? (i := 419) (by decide +kernel)⟩
theorem lw_p4 : lw_okq (⟨"BlinkMoves$Reader", "readsAny", "(I)Z"⟩, 4) := ⟨⟨by decide +kernel, by decide +kernel⟩, List.mem_of_getElem? (i := 164) (by decide +kernel), List.mem_of_getElem? (i := 461) (by decide +kernel), List.mem_of_getElem? (i := 462) (by decide +kernel)⟩
theorem lw_p5 : lw_okq (⟨"BlinkMoves$Reader", "readsAll", "(I)Z"⟩, 4) := ⟨⟨by decide +kernel, by decide +kernel⟩, List.mem_of_getElem? (i := 164) (by decide +kernel), List.mem_of_getElem? (i := 465) (by decide +kernel), List.mem_of_getElem? (i := 466) (by decide +kernel)⟩
theorem lw_p6 : lw_okq (⟨"BlinkMoves$Reader", "readsComparison", "(I)Z"⟩, 4) := ⟨⟨by decide +kernel, by decide +kernel⟩, List.mem_of_getElem? (i := 164) (by decide +kernel), List.mem_of_getElem? (i := 469) (by decide +kernel), List.mem_of_getElem? (i := 470) (by decide +kernel)⟩
theorem lw_p7 : lw_okq (⟨"BlinkMoves$Reader", "readsSum", "(I)Z"⟩, 4) := ⟨⟨by decide +kernel, by decide +kernel⟩, List.mem_of_getElem? (i := 164) (by decide +kernel), List.mem_of_getElem? (i := 473) (by decide +kernel), List.mem_of_getElem? (i := 474) (by decide +kernel)⟩
theorem lw_p8 : lw_okq (⟨"BlinkMoves$Reader", "readsProduct", "(I)Z"⟩, 4) := ⟨⟨by decide +kernel, by decide +kernel⟩, List.mem_of_getElem? (i := 164) (by decide +kernel), List.mem_of_getElem? (i := 477) (by decide +kernel), List.mem_of_getElem? (i := 478) (by decide +kernel)⟩
theorem lw_p9 : lw_okq (⟨"BlinkMoves$Reader", "readsFactor", "(I)Z"⟩, 4) := ⟨⟨by decide +kernel, by decide +kernel⟩, List.mem_of_getElem? (i := 164) (by decide +kernel), List.mem_of_getElem? (i := 481) (by decide +kernel), List.mem_of_getElem? (i := 482) (by decide +kernel)⟩
theorem lw_p10 : lw_okq (⟨"BlinkMoves$Reader", "next", "()I"⟩, 4) := ⟨⟨by decide +kernel, by decide +kernel⟩, List.mem_of_getElem? (i := 164) (by decide +kernel), List.mem_of_getElem? (i := 485) (by decide +kernel), List.mem_of_getElem? (i := 486) (by decide +kernel)⟩
theorem lw_p11 : lw_okq (⟨"BlinkMoves$Reader", "readNumber", "()V"⟩, 4) := ⟨⟨by decide +kernel, by decide +kernel⟩, List.mem_of_getElem? (i := 164) (by decide +kernel), List.mem_of_getElem? (i := 494) (by decide +kernel), List.mem_of_getElem? (i := 495) (by decide +kernel)⟩
theorem lw_p12 : lw_okq (⟨"BlinkMoves$Reader", "nameOf", "(I)I"⟩, 4) := ⟨⟨by decide +kernel, by decide +kernel⟩, List.mem_of_getElem? (i := 164) (by decide +kernel), List.mem_of_getElem? (i := 499) (by decide +kernel), List.mem_of_getElem? (i := 500) (by decide +kernel)⟩
theorem lw_p13 : lw_okq (⟨"BlinkMoves$Reader", "takes", "(I)Z"⟩, 4) := ⟨⟨by decide +kernel, by decide +kernel⟩, List.mem_of_getElem? (i := 164) (by decide +kernel), List.mem_of_getElem? (i := 505) (by decide +kernel), List.mem_of_getElem? (i := 506) (by decide +kernel)⟩
theorem lw_p14 : lw_okq (⟨"BlinkMoves$Island", "draw", "()I"⟩, 10) := ⟨⟨by decide +kernel, by decide +kernel⟩, List.mem_of_getElem? (i := 24) (by decide +kernel), List.mem_of_getElem? (i := 577) (by decide +kernel), List.mem_of_getElem? (i := 578) (by decide +kernel)⟩
theorem lw_p15 : lw_okq (⟨"BlinkMoves$Foresight", "lookAhead", "(I)V"⟩, 6) := ⟨⟨by decide +kernel, by decide +kernel⟩, List.mem_of_getElem? (i := 186) (by decide +kernel), List.mem_of_getElem? (i := 639) (by decide +kernel), List.mem_of_getElem? (i := 640) (by decide +kernel)⟩
def lw_privs_1 : List (MethodName × Nat) := [(⟨"BlinkMoves", "fail", "(I)I"⟩, 8), (⟨"BlinkMoves$Person", "deafBlinks", "(II)Z"⟩, 4), (⟨"BlinkMoves$Law", "worked", "(III)I"⟩, 4), (⟨"BlinkMoves$Person", "bankerTries", "()I"⟩, 4), (⟨"BlinkMoves$Reader", "readsAny", "(I)Z"⟩, 4), (⟨"BlinkMoves$Reader", "readsAll", "(I)Z"⟩, 4), (⟨"BlinkMoves$Reader", "readsComparison", "(I)Z"⟩, 4), (⟨"BlinkMoves$Reader", "readsSum", "(I)Z"⟩, 4), (⟨"BlinkMoves$Reader", "readsProduct", "(I)Z"⟩, 4), (⟨"BlinkMoves$Reader", "readsFactor", "(I)Z"⟩, 4), (⟨"BlinkMoves$Reader", "next", "()I"⟩, 4), (⟨"BlinkMoves$Reader", "readNumber", "()V"⟩, 4), (⟨"BlinkMoves$Reader", "nameOf", "(I)I"⟩, 4), (⟨"BlinkMoves$Reader", "takes", "(I)Z"⟩, 4), (⟨"BlinkMoves$Island", "draw", "()I"⟩, 10), (⟨"BlinkMoves$Foresight", "lookAhead", "(I)V"⟩, 6)]
theorem lw_r1 : ∀ q ∈ lw_privs_1, lw_okq q := List.forall_mem_cons.mpr ⟨lw_p0, List.forall_mem_cons.mpr ⟨lw_p1, List.forall_mem_cons.mpr ⟨lw_p2, List.forall_mem_cons.mpr ⟨lw_p3, List.forall_mem_cons.mpr ⟨lw_p4, List.forall_mem_cons.mpr ⟨lw_p5, List.forall_mem_cons.mpr ⟨lw_p6, List.forall_mem_cons.mpr ⟨lw_p7, List.forall_mem_cons.mpr ⟨lw_p8, List.forall_mem_cons.mpr ⟨lw_p9, List.forall_mem_cons.mpr ⟨lw_p10, List.forall_mem_cons.mpr ⟨lw_p11, List.forall_mem_cons.mpr ⟨lw_p12, List.forall_mem_cons.mpr ⟨lw_p13, List.forall_mem_cons.mpr ⟨lw_p14, List.forall_mem_cons.mpr ⟨lw_p15, fun _ h => absurd h List.not_mem_nil⟩⟩⟩⟩⟩⟩⟩⟩⟩⟩⟩⟩⟩⟩⟩⟩
theorem lw_p16 : lw_okq (⟨"BlinkMoves$Foresight", "doneBehind", "(LBlinkMoves$Doing;II)I"⟩, 6) := ⟨⟨by decide +kernel, by decide +kernel⟩, List.mem_of_getElem? (i := 186) (by decide +kernel), List.mem_of_getElem? (i := 644) (by decide +kernel), List.mem_of_getElem? (i := 645) (by decide +kernel)⟩
theorem lw_p17 : lw_okq (⟨"BlinkMoves$Foresight", "tryPhase", "(III)V"⟩, 6) := ⟨⟨by decide +kernel, by decide +kernel⟩, List.mem_of_getElem? (i := 186) (by decide +kernel), List.mem_of_getElem? (i := 658) (by decide +kernel), List.mem_of_getElem? (i := 659) (by decide +kernel)⟩
theorem lw_p18 : lw_okq (⟨"BlinkMoves$Foresight", "isFit", "(IIILBlinkMoves$Row;)Z"⟩, 6) := ⟨⟨by decide +kernel, by decide +kernel⟩, List.mem_of_getElem? (i := 186) (by decide +kernel), List.mem_of_getElem? (i := 685) (by decide +kernel), List.mem_of_getElem? (i := 686) (by decide +kernel)⟩
theorem lw_p19 : lw_okq (⟨"BlinkMoves$Voices", "blinks", "(II)I"⟩, 5) := ⟨⟨by decide +kernel, by decide +kernel⟩, List.mem_of_getElem? (i := 215) (by decide +kernel), List.mem_of_getElem? (i := 700) (by decide +kernel), List.mem_of_getElem? (i := 701) (by decide +kernel)⟩
theorem lw_p20 : lw_okq (⟨"BlinkMoves$Voices", "moves", "(II)I"⟩, 5) := ⟨⟨by decide +kernel, by decide +kernel⟩, List.mem_of_getElem? (i := 215) (by decide +kernel), List.mem_of_getElem? (i := 705) (by decide +kernel), List.mem_of_getElem? (i := 706) (by decide +kernel)⟩
theorem lw_p21 : lw_okq (⟨"BlinkMoves$Voices", "looks", "(II)I"⟩, 5) := ⟨⟨by decide +kernel, by decide +kernel⟩, List.mem_of_getElem? (i := 215) (by decide +kernel), List.mem_of_getElem? (i := 709) (by decide +kernel), List.mem_of_getElem? (i := 710) (by decide +kernel)⟩
theorem lw_p22 : lw_okq (⟨"BlinkMoves$Voices", "parts", "(II)I"⟩, 5) := ⟨⟨by decide +kernel, by decide +kernel⟩, List.mem_of_getElem? (i := 215) (by decide +kernel), List.mem_of_getElem? (i := 713) (by decide +kernel), List.mem_of_getElem? (i := 714) (by decide +kernel)⟩
theorem lw_p23 : lw_okq (⟨"BlinkMovesModel", "error", "(I)I"⟩, 20) := ⟨⟨by decide +kernel, by decide +kernel⟩, List.mem_of_getElem? (i := 804) (by decide +kernel), List.mem_of_getElem? (i := 878) (by decide +kernel), List.mem_of_getElem? (i := 879) (by decide +kernel)⟩
theorem lw_p24 : lw_okq (⟨"BlinkMovesModel", "whole", "()Z"⟩, 20) := ⟨⟨by decide +kernel, by decide +kernel⟩, List.mem_of_getElem? (i := 804) (by decide +kernel), List.mem_of_getElem? (i := 888) (by decide +kernel), List.mem_of_getElem? (i := 889) (by decide +kernel)⟩
theorem lw_p25 : lw_okq (⟨"BlinkMovesModel", "both", "()Z"⟩, 20) := ⟨⟨by decide +kernel, by decide +kernel⟩, List.mem_of_getElem? (i := 804) (by decide +kernel), List.mem_of_getElem? (i := 892) (by decide +kernel), List.mem_of_getElem? (i := 893) (by decide +kernel)⟩
theorem lw_p26 : lw_okq (⟨"BlinkMovesModel", "compared", "()Z"⟩, 20) := ⟨⟨by decide +kernel, by decide +kernel⟩, List.mem_of_getElem? (i := 804) (by decide +kernel), List.mem_of_getElem? (i := 896) (by decide +kernel), List.mem_of_getElem? (i := 897) (by decide +kernel)⟩
theorem lw_p27 : lw_okq (⟨"BlinkMovesModel", "sum", "()Z"⟩, 20) := ⟨⟨by decide +kernel, by decide +kernel⟩, List.mem_of_getElem? (i := 804) (by decide +kernel), List.mem_of_getElem? (i := 900) (by decide +kernel), List.mem_of_getElem? (i := 901) (by decide +kernel)⟩
theorem lw_p28 : lw_okq (⟨"BlinkMovesModel", "product", "()Z"⟩, 20) := ⟨⟨by decide +kernel, by decide +kernel⟩, List.mem_of_getElem? (i := 804) (by decide +kernel), List.mem_of_getElem? (i := 904) (by decide +kernel), List.mem_of_getElem? (i := 905) (by decide +kernel)⟩
theorem lw_p29 : lw_okq (⟨"BlinkMovesModel", "one", "()Z"⟩, 20) := ⟨⟨by decide +kernel, by decide +kernel⟩, List.mem_of_getElem? (i := 804) (by decide +kernel), List.mem_of_getElem? (i := 908) (by decide +kernel), List.mem_of_getElem? (i := 909) (by decide +kernel)⟩
theorem lw_p30 : lw_okq (⟨"BlinkMovesModel", "look", "()I"⟩, 20) := ⟨⟨by decide +kernel, by decide +kernel⟩, List.mem_of_getElem? (i := 804) (by decide +kernel), List.mem_of_getElem? (i := 912) (by decide +kernel), List.mem_of_getElem? (i := 913) (by decide +kernel)⟩
theorem lw_p31 : lw_okq (⟨"BlinkMovesModel", "isName", "(I)Z"⟩, 20) := ⟨⟨by decide +kernel, by decide +kernel⟩, List.mem_of_getElem? (i := 804) (by decide +kernel), List.mem_of_getElem? (i := 916) (by decide +kernel), List.mem_of_getElem? (i := 917) (by decide +kernel)⟩
def lw_privs_2 : List (MethodName × Nat) := [(⟨"BlinkMoves$Foresight", "doneBehind", "(LBlinkMoves$Doing;II)I"⟩, 6), (⟨"BlinkMoves$Foresight", "tryPhase", "(III)V"⟩, 6), (⟨"BlinkMoves$Foresight", "isFit", "(IIILBlinkMoves$Row;)Z"⟩, 6), (⟨"BlinkMoves$Voices", "blinks", "(II)I"⟩, 5), (⟨"BlinkMoves$Voices", "moves", "(II)I"⟩, 5), (⟨"BlinkMoves$Voices", "looks", "(II)I"⟩, 5), (⟨"BlinkMoves$Voices", "parts", "(II)I"⟩, 5), (⟨"BlinkMovesModel", "error", "(I)I"⟩, 20), (⟨"BlinkMovesModel", "whole", "()Z"⟩, 20), (⟨"BlinkMovesModel", "both", "()Z"⟩, 20), (⟨"BlinkMovesModel", "compared", "()Z"⟩, 20), (⟨"BlinkMovesModel", "sum", "()Z"⟩, 20), (⟨"BlinkMovesModel", "product", "()Z"⟩, 20), (⟨"BlinkMovesModel", "one", "()Z"⟩, 20), (⟨"BlinkMovesModel", "look", "()I"⟩, 20), (⟨"BlinkMovesModel", "isName", "(I)Z"⟩, 20)]
theorem lw_r2 : ∀ q ∈ lw_privs_2, lw_okq q := List.forall_mem_cons.mpr ⟨lw_p16, List.forall_mem_cons.mpr ⟨lw_p17, List.forall_mem_cons.mpr ⟨lw_p18, List.forall_mem_cons.mpr ⟨lw_p19, List.forall_mem_cons.mpr ⟨lw_p20, List.forall_mem_cons.mpr ⟨lw_p21, List.forall_mem_cons.mpr ⟨lw_p22, List.forall_mem_cons.mpr ⟨lw_p23, List.forall_mem_cons.mpr ⟨lw_p24, List.forall_mem_cons.mpr ⟨lw_p25, List.forall_mem_cons.mpr ⟨lw_p26, List.forall_mem_cons.mpr ⟨lw_p27, List.forall_mem_cons.mpr ⟨lw_p28, List.forall_mem_cons.mpr ⟨lw_p29, List.forall_mem_cons.mpr ⟨lw_p30, List.forall_mem_cons.mpr ⟨lw_p31, fun _ h => absurd h List.not_mem_nil⟩⟩⟩⟩⟩⟩⟩⟩⟩⟩⟩⟩⟩⟩⟩⟩
theorem lw_p32 : lw_okq (⟨"BlinkMovesModel", "step1", "(II)V"⟩, 20) := ⟨⟨by decide +kernel, by decide +kernel⟩, List.mem_of_getElem? (i := 804) (by decide +kernel), List.mem_of_getElem? (i := 920) (by decide +kernel), List.mem_of_getElem? (i := 921) (by decide +kernel)⟩
theorem lw_p33 : lw_okq (⟨"BlinkMovesModel", "opens", "()Z"⟩, 20) := ⟨⟨by decide +kernel, by decide +kernel⟩, List.mem_of_getElem? (i := 804) (by decide +kernel), List.mem_of_getElem? (i := 924) (by decide +kernel), List.mem_of_getElem? (i := 925) (by decide +kernel)⟩
theorem lw_p34 : lw_okq (⟨"BlinkMovesModel", "hasText", "(I)Z"⟩, 20) := ⟨⟨by decide +kernel, by decide +kernel⟩, List.mem_of_getElem? (i := 804) (by decide +kernel), List.mem_of_getElem? (i := 932) (by decide +kernel), List.mem_of_getElem? (i := 933) (by decide +kernel)⟩
theorem lw_p35 : lw_okq (⟨"BlinkMovesModel", "lays1", "(III)V"⟩, 20) := ⟨⟨by decide +kernel, by decide +kernel⟩, List.mem_of_getElem? (i := 804) (by decide +kernel), List.mem_of_getElem? (i := 946) (by decide +kernel), List.mem_of_getElem? (i := 947) (by decide +kernel)⟩
theorem lw_p36 : lw_okq (⟨"BlinkMovesModel", "isPerson", "(I)Z"⟩, 20) := ⟨⟨by decide +kernel, by decide +kernel⟩, List.mem_of_getElem? (i := 804) (by decide +kernel), List.mem_of_getElem? (i := 954) (by decide +kernel), List.mem_of_getElem? (i := 955) (by decide +kernel)⟩
theorem lw_p37 : lw_okq (⟨"BlinkMovesModel", "its", "(II)I"⟩, 20) := ⟨⟨by decide +kernel, by decide +kernel⟩, List.mem_of_getElem? (i := 804) (by decide +kernel), List.mem_of_getElem? (i := 958) (by decide +kernel), List.mem_of_getElem? (i := 959) (by decide +kernel)⟩
theorem lw_p38 : lw_okq (⟨"BlinkMovesModel", "shutOf", "(I)I"⟩, 20) := ⟨⟨by decide +kernel, by decide +kernel⟩, List.mem_of_getElem? (i := 804) (by decide +kernel), List.mem_of_getElem? (i := 962) (by decide +kernel), List.mem_of_getElem? (i := 963) (by decide +kernel)⟩
theorem lw_p39 : lw_okq (⟨"BlinkMovesModel", "blinksNow", "(I)Z"⟩, 20) := ⟨⟨by decide +kernel, by decide +kernel⟩, List.mem_of_getElem? (i := 804) (by decide +kernel), List.mem_of_getElem? (i := 966) (by decide +kernel), List.mem_of_getElem? (i := 967) (by decide +kernel)⟩
theorem lw_p40 : lw_okq (⟨"BlinkMovesModel", "shutTold", "(III)I"⟩, 20) := ⟨⟨by decide +kernel, by decide +kernel⟩, List.mem_of_getElem? (i := 804) (by decide +kernel), List.mem_of_getElem? (i := 970) (by decide +kernel), List.mem_of_getElem? (i := 971) (by decide +kernel)⟩
theorem lw_p41 : lw_okq (⟨"BlinkMovesModel", "worked", "(I)I"⟩, 20) := ⟨⟨by decide +kernel, by decide +kernel⟩, List.mem_of_getElem? (i := 804) (by decide +kernel), List.mem_of_getElem? (i := 974) (by decide +kernel), List.mem_of_getElem? (i := 975) (by decide +kernel)⟩
theorem lw_p42 : lw_okq (⟨"BlinkMovesModel", "change1", "(II)I"⟩, 20) := ⟨⟨by decide +kernel, by decide +kernel⟩, List.mem_of_getElem? (i := 804) (by decide +kernel), List.mem_of_getElem? (i := 988) (by decide +kernel), List.mem_of_getElem? (i := 989) (by decide +kernel)⟩
theorem lw_p43 : lw_okq (⟨"BlinkMovesModel", "isSet", "(I)Z"⟩, 20) := ⟨⟨by decide +kernel, by decide +kernel⟩, List.mem_of_getElem? (i := 804) (by decide +kernel), List.mem_of_getElem? (i := 1007) (by decide +kernel), List.mem_of_getElem? (i := 1008) (by decide +kernel)⟩
theorem lw_p44 : lw_okq (⟨"BlinkMovesModel", "laysDoing", "(III)V"⟩, 20) := ⟨⟨by decide +kernel, by decide +kernel⟩, List.mem_of_getElem? (i := 804) (by decide +kernel), List.mem_of_getElem? (i := 1011) (by decide +kernel), List.mem_of_getElem? (i := 1012) (by decide +kernel)⟩
theorem lw_p45 : lw_okq (⟨"BlinkMovesModel", "isDoing", "(I)Z"⟩, 20) := ⟨⟨by decide +kernel, by decide +kernel⟩, List.mem_of_getElem? (i := 804) (by decide +kernel), List.mem_of_getElem? (i := 1019) (by decide +kernel), List.mem_of_getElem? (i := 1020) (by decide +kernel)⟩
theorem lw_p46 : lw_okq (⟨"BlinkMovesModel", "ofDoing", "(II)I"⟩, 20) := ⟨⟨by decide +kernel, by decide +kernel⟩, List.mem_of_getElem? (i := 804) (by decide +kernel), List.mem_of_getElem? (i := 1023) (by decide +kernel), List.mem_of_getElem? (i := 1024) (by decide +kernel)⟩
theorem lw_p47 : lw_okq (⟨"BlinkMovesModel", "shutNow", "()I"⟩, 20) := ⟨⟨by decide +kernel, by decide +kernel⟩, List.mem_of_getElem? (i := 804) (by decide +kernel), List.mem_of_getElem? (i := 1027) (by decide +kernel), List.mem_of_getElem? (i := 1028) (by decide +kernel)⟩
def lw_privs_3 : List (MethodName × Nat) := [(⟨"BlinkMovesModel", "step1", "(II)V"⟩, 20), (⟨"BlinkMovesModel", "opens", "()Z"⟩, 20), (⟨"BlinkMovesModel", "hasText", "(I)Z"⟩, 20), (⟨"BlinkMovesModel", "lays1", "(III)V"⟩, 20), (⟨"BlinkMovesModel", "isPerson", "(I)Z"⟩, 20), (⟨"BlinkMovesModel", "its", "(II)I"⟩, 20), (⟨"BlinkMovesModel", "shutOf", "(I)I"⟩, 20), (⟨"BlinkMovesModel", "blinksNow", "(I)Z"⟩, 20), (⟨"BlinkMovesModel", "shutTold", "(III)I"⟩, 20), (⟨"BlinkMovesModel", "worked", "(I)I"⟩, 20), (⟨"BlinkMovesModel", "change1", "(II)I"⟩, 20), (⟨"BlinkMovesModel", "isSet", "(I)Z"⟩, 20), (⟨"BlinkMovesModel", "laysDoing", "(III)V"⟩, 20), (⟨"BlinkMovesModel", "isDoing", "(I)Z"⟩, 20), (⟨"BlinkMovesModel", "ofDoing", "(II)I"⟩, 20), (⟨"BlinkMovesModel", "shutNow", "()I"⟩, 20)]
theorem lw_r3 : ∀ q ∈ lw_privs_3, lw_okq q := List.forall_mem_cons.mpr ⟨lw_p32, List.forall_mem_cons.mpr ⟨lw_p33, List.forall_mem_cons.mpr ⟨lw_p34, List.forall_mem_cons.mpr ⟨lw_p35, List.forall_mem_cons.mpr ⟨lw_p36, List.forall_mem_cons.mpr ⟨lw_p37, List.forall_mem_cons.mpr ⟨lw_p38, List.forall_mem_cons.mpr ⟨lw_p39, List.forall_mem_cons.mpr ⟨lw_p40, List.forall_mem_cons.mpr ⟨lw_p41, List.forall_mem_cons.mpr ⟨lw_p42, List.forall_mem_cons.mpr ⟨lw_p43, List.forall_mem_cons.mpr ⟨lw_p44, List.forall_mem_cons.mpr ⟨lw_p45, List.forall_mem_cons.mpr ⟨lw_p46, List.forall_mem_cons.mpr ⟨lw_p47, fun _ h => absurd h List.not_mem_nil⟩⟩⟩⟩⟩⟩⟩⟩⟩⟩⟩⟩⟩⟩⟩⟩
theorem lw_p48 : lw_okq (⟨"BlinkMovesModel", "onBy", "(II)I"⟩, 20) := ⟨⟨by decide +kernel, by decide +kernel⟩, List.mem_of_getElem? (i := 804) (by decide +kernel), List.mem_of_getElem? (i := 1031) (by decide +kernel), List.mem_of_getElem? (i := 1032) (by decide +kernel)⟩
theorem lw_p49 : lw_okq (⟨"BlinkMovesModel", "triesOf", "(I)I"⟩, 20) := ⟨⟨by decide +kernel, by decide +kernel⟩, List.mem_of_getElem? (i := 804) (by decide +kernel), List.mem_of_getElem? (i := 1035) (by decide +kernel), List.mem_of_getElem? (i := 1036) (by decide +kernel)⟩
theorem lw_p50 : lw_okq (⟨"BlinkMovesModel", "onTold", "(III)I"⟩, 20) := ⟨⟨by decide +kernel, by decide +kernel⟩, List.mem_of_getElem? (i := 804) (by decide +kernel), List.mem_of_getElem? (i := 1042) (by decide +kernel), List.mem_of_getElem? (i := 1043) (by decide +kernel)⟩
theorem lw_p51 : lw_okq (⟨"BlinkMovesModel", "whyNot", "(II)I"⟩, 20) := ⟨⟨by decide +kernel, by decide +kernel⟩, List.mem_of_getElem? (i := 804) (by decide +kernel), List.mem_of_getElem? (i := 1062) (by decide +kernel), List.mem_of_getElem? (i := 1063) (by decide +kernel)⟩
theorem lw_p52 : lw_okq (⟨"BlinkMovesModel", "aTick", "()I"⟩, 20) := ⟨⟨by decide +kernel, by decide +kernel⟩, List.mem_of_getElem? (i := 804) (by decide +kernel), List.mem_of_getElem? (i := 1067) (by decide +kernel), List.mem_of_getElem? (i := 1068) (by decide +kernel)⟩
theorem lw_p53 : lw_okq (⟨"BlinkMovesModel", "getsOn", "(II)Z"⟩, 20) := ⟨⟨by decide +kernel, by decide +kernel⟩, List.mem_of_getElem? (i := 804) (by decide +kernel), List.mem_of_getElem? (i := 1071) (by decide +kernel), List.mem_of_getElem? (i := 1072) (by decide +kernel)⟩
theorem lw_p54 : lw_okq (⟨"BlinkMovesModel", "shifts", "()V"⟩, 20) := ⟨⟨by decide +kernel, by decide +kernel⟩, List.mem_of_getElem? (i := 804) (by decide +kernel), List.mem_of_getElem? (i := 1079) (by decide +kernel), List.mem_of_getElem? (i := 1080) (by decide +kernel)⟩
theorem lw_p55 : lw_okq (⟨"BlinkMovesModel", "draw", "()I"⟩, 20) := ⟨⟨by decide +kernel, by decide +kernel⟩, List.mem_of_getElem? (i := 804) (by decide +kernel), List.mem_of_getElem? (i := 1083) (by decide +kernel), List.mem_of_getElem? (i := 1084) (by decide +kernel)⟩
theorem lw_p56 : lw_okq (⟨"BlinkMovesModel", "layDown", "()V"⟩, 20) := ⟨⟨by decide +kernel, by decide +kernel⟩, List.mem_of_getElem? (i := 804) (by decide +kernel), List.mem_of_getElem? (i := 1100) (by decide +kernel), List.mem_of_getElem? (i := 1101) (by decide +kernel)⟩
theorem lw_p57 : lw_okq (⟨"BlinkMovesModel", "layBack", "()V"⟩, 20) := ⟨⟨by decide +kernel, by decide +kernel⟩, List.mem_of_getElem? (i := 804) (by decide +kernel), List.mem_of_getElem? (i := 1104) (by decide +kernel), List.mem_of_getElem? (i := 1105) (by decide +kernel)⟩
theorem lw_p58 : lw_okq (⟨"BlinkMovesModel", "doneBy", "(II)I"⟩, 20) := ⟨⟨by decide +kernel, by decide +kernel⟩, List.mem_of_getElem? (i := 804) (by decide +kernel), List.mem_of_getElem? (i := 1112) (by decide +kernel), List.mem_of_getElem? (i := 1113) (by decide +kernel)⟩
theorem lw_p59 : lw_okq (⟨"BlinkMovesModel", "isMoment", "(I)Z"⟩, 20) := ⟨⟨by decide +kernel, by decide +kernel⟩, List.mem_of_getElem? (i := 804) (by decide +kernel), List.mem_of_getElem? (i := 1120) (by decide +kernel), List.mem_of_getElem? (i := 1121) (by decide +kernel)⟩
theorem lw_p60 : lw_okq (⟨"BlinkMovesModel", "momentsOf", "(II)I"⟩, 20) := ⟨⟨by decide +kernel, by decide +kernel⟩, List.mem_of_getElem? (i := 804) (by decide +kernel), List.mem_of_getElem? (i := 1128) (by decide +kernel), List.mem_of_getElem? (i := 1129) (by decide +kernel)⟩
theorem lw_p61 : lw_okq (⟨"BlinkMovesModel", "isDoneWithout", "(III)Z"⟩, 20) := ⟨⟨by decide +kernel, by decide +kernel⟩, List.mem_of_getElem? (i := 804) (by decide +kernel), List.mem_of_getElem? (i := 1136) (by decide +kernel), List.mem_of_getElem? (i := 1137) (by decide +kernel)⟩
theorem lw_p62 : lw_okq (⟨"BlinkMovesModel", "lacks", "(I)I"⟩, 20) := ⟨⟨by decide +kernel, by decide +kernel⟩, List.mem_of_getElem? (i := 804) (by decide +kernel), List.mem_of_getElem? (i := 1155) (by decide +kernel), List.mem_of_getElem? (i := 1156) (by decide +kernel)⟩
theorem lw_p63 : lw_okq (⟨"BlinkMovesModel", "isShutSo", "(IIII)Z"⟩, 20) := ⟨⟨by decide +kernel, by decide +kernel⟩, List.mem_of_getElem? (i := 804) (by decide +kernel), List.mem_of_getElem? (i := 1162) (by decide +kernel), List.mem_of_getElem? (i := 1163) (by decide +kernel)⟩
def lw_privs_4 : List (MethodName × Nat) := [(⟨"BlinkMovesModel", "onBy", "(II)I"⟩, 20), (⟨"BlinkMovesModel", "triesOf", "(I)I"⟩, 20), (⟨"BlinkMovesModel", "onTold", "(III)I"⟩, 20), (⟨"BlinkMovesModel", "whyNot", "(II)I"⟩, 20), (⟨"BlinkMovesModel", "aTick", "()I"⟩, 20), (⟨"BlinkMovesModel", "getsOn", "(II)Z"⟩, 20), (⟨"BlinkMovesModel", "shifts", "()V"⟩, 20), (⟨"BlinkMovesModel", "draw", "()I"⟩, 20), (⟨"BlinkMovesModel", "layDown", "()V"⟩, 20), (⟨"BlinkMovesModel", "layBack", "()V"⟩, 20), (⟨"BlinkMovesModel", "doneBy", "(II)I"⟩, 20), (⟨"BlinkMovesModel", "isMoment", "(I)Z"⟩, 20), (⟨"BlinkMovesModel", "momentsOf", "(II)I"⟩, 20), (⟨"BlinkMovesModel", "isDoneWithout", "(III)Z"⟩, 20), (⟨"BlinkMovesModel", "lacks", "(I)I"⟩, 20), (⟨"BlinkMovesModel", "isShutSo", "(IIII)Z"⟩, 20)]
theorem lw_r4 : ∀ q ∈ lw_privs_4, lw_okq q := List.forall_mem_cons.mpr ⟨lw_p48, List.forall_mem_cons.mpr ⟨lw_p49, List.forall_mem_cons.mpr ⟨lw_p50, List.forall_mem_cons.mpr ⟨lw_p51, List.forall_mem_cons.mpr ⟨lw_p52, List.forall_mem_cons.mpr ⟨lw_p53, List.forall_mem_cons.mpr ⟨lw_p54, List.forall_mem_cons.mpr ⟨lw_p55, List.forall_mem_cons.mpr ⟨lw_p56, List.forall_mem_cons.mpr ⟨lw_p57, List.forall_mem_cons.mpr ⟨lw_p58, List.forall_mem_cons.mpr ⟨lw_p59, List.forall_mem_cons.mpr ⟨lw_p60, List.forall_mem_cons.mpr ⟨lw_p61, List.forall_mem_cons.mpr ⟨lw_p62, List.forall_mem_cons.mpr ⟨lw_p63, fun _ h => absurd h List.not_mem_nil⟩⟩⟩⟩⟩⟩⟩⟩⟩⟩⟩⟩⟩⟩⟩⟩
theorem lw_p64 : lw_okq (⟨"BlinkMovesModel", "kindNow", "()I"⟩, 20) := ⟨⟨by decide +kernel, by decide +kernel⟩, List.mem_of_getElem? (i := 804) (by decide +kernel), List.mem_of_getElem? (i := 1170) (by decide +kernel), List.mem_of_getElem? (i := 1171) (by decide +kernel)⟩
theorem lw_p65 : lw_okq (⟨"BlinkMovesModel", "blinksAs", "(II)I"⟩, 20) := ⟨⟨by decide +kernel, by decide +kernel⟩, List.mem_of_getElem? (i := 804) (by decide +kernel), List.mem_of_getElem? (i := 1174) (by decide +kernel), List.mem_of_getElem? (i := 1175) (by decide +kernel)⟩
theorem lw_p66 : lw_okq (⟨"BlinkMovesModel", "starts", "(I)V"⟩, 20) := ⟨⟨by decide +kernel, by decide +kernel⟩, List.mem_of_getElem? (i := 804) (by decide +kernel), List.mem_of_getElem? (i := 1178) (by decide +kernel), List.mem_of_getElem? (i := 1179) (by decide +kernel)⟩
theorem lw_p67 : lw_okq (⟨"BlinkMovesModel", "movesAs", "(II)I"⟩, 20) := ⟨⟨by decide +kernel, by decide +kernel⟩, List.mem_of_getElem? (i := 804) (by decide +kernel), List.mem_of_getElem? (i := 1182) (by decide +kernel), List.mem_of_getElem? (i := 1183) (by decide +kernel)⟩
theorem lw_p68 : lw_okq (⟨"BlinkMovesModel", "mNow", "()I"⟩, 20) := ⟨⟨by decide +kernel, by decide +kernel⟩, List.mem_of_getElem? (i := 804) (by decide +kernel), List.mem_of_getElem? (i := 1186) (by decide +kernel), List.mem_of_getElem? (i := 1187) (by decide +kernel)⟩
theorem lw_p69 : lw_okq (⟨"BlinkMovesModel", "looksAs", "(II)I"⟩, 20) := ⟨⟨by decide +kernel, by decide +kernel⟩, List.mem_of_getElem? (i := 804) (by decide +kernel), List.mem_of_getElem? (i := 1190) (by decide +kernel), List.mem_of_getElem? (i := 1191) (by decide +kernel)⟩
theorem lw_p70 : lw_okq (⟨"BlinkMovesModel", "partsAs", "(II)I"⟩, 20) := ⟨⟨by decide +kernel, by decide +kernel⟩, List.mem_of_getElem? (i := 804) (by decide +kernel), List.mem_of_getElem? (i := 1194) (by decide +kernel), List.mem_of_getElem? (i := 1195) (by decide +kernel)⟩
theorem lw_p71 : lw_okq (⟨"BlinkMovesModel", "allParts", "()I"⟩, 20) := ⟨⟨by decide +kernel, by decide +kernel⟩, List.mem_of_getElem? (i := 804) (by decide +kernel), List.mem_of_getElem? (i := 1245) (by decide +kernel), List.mem_of_getElem? (i := 1246) (by decide +kernel)⟩
def lw_privs_5 : List (MethodName × Nat) := [(⟨"BlinkMovesModel", "kindNow", "()I"⟩, 20), (⟨"BlinkMovesModel", "blinksAs", "(II)I"⟩, 20), (⟨"BlinkMovesModel", "starts", "(I)V"⟩, 20), (⟨"BlinkMovesModel", "movesAs", "(II)I"⟩, 20), (⟨"BlinkMovesModel", "mNow", "()I"⟩, 20), (⟨"BlinkMovesModel", "looksAs", "(II)I"⟩, 20), (⟨"BlinkMovesModel", "partsAs", "(II)I"⟩, 20), (⟨"BlinkMovesModel", "allParts", "()I"⟩, 20)]
theorem lw_r5 : ∀ q ∈ lw_privs_5, lw_okq q := List.forall_mem_cons.mpr ⟨lw_p64, List.forall_mem_cons.mpr ⟨lw_p65, List.forall_mem_cons.mpr ⟨lw_p66, List.forall_mem_cons.mpr ⟨lw_p67, List.forall_mem_cons.mpr ⟨lw_p68, List.forall_mem_cons.mpr ⟨lw_p69, List.forall_mem_cons.mpr ⟨lw_p70, List.forall_mem_cons.mpr ⟨lw_p71, fun _ h => absurd h List.not_mem_nil⟩⟩⟩⟩⟩⟩⟩⟩
def lw_privs : List (MethodName × Nat) := lw_privs_1 ++ (lw_privs_2 ++ (lw_privs_3 ++ (lw_privs_4 ++ (lw_privs_5))))
def lw_tbl : List Cond := k2_sels lw_privs ++ tables_1
theorem lw_privs_ok : ∀ q ∈ lw_privs, lw_okq q := by
  show ∀ q ∈ lw_privs_1 ++ (lw_privs_2 ++ (lw_privs_3 ++ (lw_privs_4 ++ (lw_privs_5)))), lw_okq q
  exact List.forall_mem_append.mpr ⟨lw_r1, List.forall_mem_append.mpr ⟨lw_r2, List.forall_mem_append.mpr ⟨lw_r3, List.forall_mem_append.mpr ⟨lw_r4, lw_r5⟩⟩⟩⟩
-- ===== end of PART A; then your names; then what follows =====
def RX0 : String := "BlinkMoves$Doing"
def TX0 : u_T := fun k => match k with
  | 0 => ("BlinkMoves$Doing", "who", "I", false)
  | 1 => ("BlinkMoves$Doing", "parts", "I", false)
  | _ => ("BlinkMoves$Doing", "watchers", "I", false)
def tyX0 : Nat → FieldType := fun k => match k with
  | 0 => .int
  | 1 => .int
  | _ => .int
abbrev wsX00 : List Cond := u_ws RX0 TX0 3
theorem nmX0 : ∀ a, a < 3 → ∀ b, b < 3 → a ≠ b → (TX0 a).2.1 ≠ (TX0 b).2.1 := by decide +kernel
theorem tyX0_ok : ∀ k, k < 3 → parseFieldDescriptor (TX0 k).2.2.1 = some (tyX0 k) := by decide +kernel
abbrev cX0_init : ByteArray := prog_2_method_1_code
def yX0_init : MethodName := ⟨RX0, "<init>", "()V"⟩
abbrev cX0_beLike : ByteArray := prog_2_method_2_code
def yX0_beLike : MethodName := ⟨RX0, "beLike", "(LBlinkMoves$Doing;)V"⟩
def RX1 : String := "BlinkMoves$Foresight"
def TX1 : u_T := fun k => match k with
  | 0 => ("BlinkMoves$Foresight", "island", "LBlinkMoves$Island;", true)
  | 1 => ("BlinkMoves$Foresight", "shutAhead", "[I", true)
  | 2 => ("BlinkMoves$Foresight", "bestPhase", "I", false)
  | 3 => ("BlinkMoves$Foresight", "bestBehind", "I", false)
  | 4 => ("BlinkMoves$Foresight", "fitsFound", "I", false)
  | _ => ("BlinkMoves$Foresight", "firstFit", "I", false)
def tyX1 : Nat → FieldType := fun k => match k with
  | 0 => .object "BlinkMoves$Island"
  | 1 => .array .int
  | 2 => .int
  | 3 => .int
  | 4 => .int
  | _ => .int
abbrev wsX10 : List Cond := u_ws RX1 TX1 6
theorem nmX1 : ∀ a, a < 6 → ∀ b, b < 6 → a ≠ b → (TX1 a).2.1 ≠ (TX1 b).2.1 := by decide +kernel
theorem tyX1_ok : ∀ k, k < 6 → parseFieldDescriptor (TX1 k).2.2.1 = some (tyX1 k) := by decide +kernel
abbrev cX1_init : ByteArray := prog_3_method_1_code
def yX1_init : MethodName := ⟨RX1, "<init>", "(LBlinkMoves$Island;)V"⟩
abbrev cX1_partsBehind : ByteArray := prog_3_method_2_code
def yX1_partsBehind : MethodName := ⟨RX1, "partsBehind", "(LBlinkMoves$Doing;I)I"⟩
abbrev cX1_soonestDone : ByteArray := prog_3_method_3_code
def yX1_soonestDone : MethodName := ⟨RX1, "soonestDone", "(LBlinkMoves$Doing;)I"⟩
abbrev cX1_lookAhead : ByteArray := prog_3_method_4_code
def yX1_lookAhead : MethodName := ⟨RX1, "lookAhead", "(I)V"⟩
abbrev cX1_doneBehind : ByteArray := prog_3_method_5_code
def yX1_doneBehind : MethodName := ⟨RX1, "doneBehind", "(LBlinkMoves$Doing;II)I"⟩
abbrev cX1_firstMoment : ByteArray := prog_3_method_6_code
def yX1_firstMoment : MethodName := ⟨RX1, "firstMoment", "(I)I"⟩
abbrev cX1_momentsAmong : ByteArray := prog_3_method_7_code
def yX1_momentsAmong : MethodName := ⟨RX1, "momentsAmong", "(II)I"⟩
abbrev cX1_fewestAway : ByteArray := prog_3_method_8_code
def yX1_fewestAway : MethodName := ⟨RX1, "fewestAway", "(LBlinkMoves$Doing;I)I"⟩
abbrev cX1_findPhase : ByteArray := prog_3_method_9_code
def yX1_findPhase : MethodName := ⟨RX1, "findPhase", "(ILBlinkMoves$Doing;)Z"⟩
abbrev cX1_tryPhase : ByteArray := prog_3_method_10_code
def yX1_tryPhase : MethodName := ⟨RX1, "tryPhase", "(III)V"⟩
abbrev cX1_findFits : ByteArray := prog_3_method_11_code
def yX1_findFits : MethodName := ⟨RX1, "findFits", "(ILBlinkMoves$Row;)V"⟩
abbrev cX1_isFit : ByteArray := prog_3_method_12_code
def yX1_isFit : MethodName := ⟨RX1, "isFit", "(IIILBlinkMoves$Row;)Z"⟩
def RX2 : String := "BlinkMoves$Island"
def TX2 : u_T := fun k => match k with
  | 0 => ("BlinkMoves$Island", "people", "[LBlinkMoves$Person;", true)
  | 1 => ("BlinkMoves$Island", "doings", "[LBlinkMoves$Doing;", true)
  | 2 => ("BlinkMoves$Island", "shutLaw", "LBlinkMoves$Law;", true)
  | 3 => ("BlinkMoves$Island", "getsOnLaw", "LBlinkMoves$Law;", true)
  | 4 => ("BlinkMoves$Island", "tape", "LBlinkMoves$Row;", true)
  | 5 => ("BlinkMoves$Island", "waiting", "LBlinkMoves$Row;", true)
  | 6 => ("BlinkMoves$Island", "peopleCount", "I", false)
  | 7 => ("BlinkMoves$Island", "doingsCount", "I", false)
  | 8 => ("BlinkMoves$Island", "now", "I", false)
  | _ => ("BlinkMoves$Island", "z", "I", false)
def tyX2 : Nat → FieldType := fun k => match k with
  | 0 => .array (.object "BlinkMoves$Person")
  | 1 => .array (.object "BlinkMoves$Doing")
  | 2 => .object "BlinkMoves$Law"
  | 3 => .object "BlinkMoves$Law"
  | 4 => .object "BlinkMoves$Row"
  | 5 => .object "BlinkMoves$Row"
  | 6 => .int
  | 7 => .int
  | 8 => .int
  | _ => .int
abbrev wsX20 : List Cond := u_ws RX2 TX2 10
theorem nmX2 : ∀ a, a < 10 → ∀ b, b < 10 → a ≠ b → (TX2 a).2.1 ≠ (TX2 b).2.1 := by decide +kernel
theorem tyX2_ok : ∀ k, k < 10 → parseFieldDescriptor (TX2 k).2.2.1 = some (tyX2 k) := by decide +kernel
abbrev cX2_init : ByteArray := prog_4_method_1_code
def yX2_init : MethodName := ⟨RX2, "<init>", "()V"⟩
abbrev cX2_beLike : ByteArray := prog_4_method_2_code
def yX2_beLike : MethodName := ⟨RX2, "beLike", "(LBlinkMoves$Island;)V"⟩
abbrev cX2_hasPerson : ByteArray := prog_4_method_3_code
def yX2_hasPerson : MethodName := ⟨RX2, "hasPerson", "(I)Z"⟩
abbrev cX2_hasDoing : ByteArray := prog_4_method_4_code
def yX2_hasDoing : MethodName := ⟨RX2, "hasDoing", "(I)Z"⟩
abbrev cX2_hasSet : ByteArray := prog_4_method_5_code
def yX2_hasSet : MethodName := ⟨RX2, "hasSet", "(I)Z"⟩
abbrev cX2_lawOf : ByteArray := prog_4_method_6_code
def yX2_lawOf : MethodName := ⟨RX2, "lawOf", "(I)LBlinkMoves$Law;"⟩
abbrev cX2_isShutBy : ByteArray := prog_4_method_7_code
def yX2_isShutBy : MethodName := ⟨RX2, "isShutBy", "(IIII)Z"⟩
abbrev cX2_isShut : ByteArray := prog_4_method_8_code
def yX2_isShut : MethodName := ⟨RX2, "isShut", "(II)Z"⟩
abbrev cX2_shutSet : ByteArray := prog_4_method_9_code
def yX2_shutSet : MethodName := ⟨RX2, "shutSet", "(I)I"⟩
abbrev cX2_isMoment : ByteArray := prog_4_method_10_code
def yX2_isMoment : MethodName := ⟨RX2, "isMoment", "(II)Z"⟩
abbrev cX2_getsOnBy : ByteArray := prog_4_method_11_code
def yX2_getsOnBy : MethodName := ⟨RX2, "getsOnBy", "(LBlinkMoves$Doing;II)I"⟩
abbrev cX2_leftBehindTick : ByteArray := prog_4_method_12_code
def yX2_leftBehindTick : MethodName := ⟨RX2, "leftBehindTick", "(LBlinkMoves$Doing;III)I"⟩
abbrev cX2_goBy : ByteArray := prog_4_method_13_code
def yX2_goBy : MethodName := ⟨RX2, "goBy", "()I"⟩
abbrev cX2_draw : ByteArray := prog_4_method_14_code
def yX2_draw : MethodName := ⟨RX2, "draw", "()I"⟩
abbrev cX2_drawPhase : ByteArray := prog_4_method_15_code
def yX2_drawPhase : MethodName := ⟨RX2, "drawPhase", "()V"⟩
abbrev cX2_partsTogether : ByteArray := prog_4_method_16_code
def yX2_partsTogether : MethodName := ⟨RX2, "partsTogether", "()I"⟩
def RX3 : String := "BlinkMoves$Law"
def TX3 : u_T := fun k => match k with
  | 0 => ("BlinkMoves$Law", "use", "I", true)
  | 1 => ("BlinkMoves$Law", "code", "LBlinkMoves$Row;", true)
  | 2 => ("BlinkMoves$Law", "stack", "[I", true)
  | _ => ("BlinkMoves$Law", "given", "Z", false)
def tyX3 : Nat → FieldType := fun k => match k with
  | 0 => .int
  | 1 => .object "BlinkMoves$Row"
  | 2 => .array .int
  | _ => .boolean
abbrev wsX30 : List Cond := u_ws RX3 TX3 4
theorem nmX3 : ∀ a, a < 4 → ∀ b, b < 4 → a ≠ b → (TX3 a).2.1 ≠ (TX3 b).2.1 := by decide +kernel
theorem tyX3_ok : ∀ k, k < 4 → parseFieldDescriptor (TX3 k).2.2.1 = some (tyX3 k) := by decide +kernel
abbrev cX3_init : ByteArray := prog_5_method_1_code
def yX3_init : MethodName := ⟨RX3, "<init>", "(I)V"⟩
abbrev cX3_give : ByteArray := prog_5_method_2_code
def yX3_give : MethodName := ⟨RX3, "give", "(LBlinkMoves$Row;)V"⟩
abbrev cX3_beLike : ByteArray := prog_5_method_3_code
def yX3_beLike : MethodName := ⟨RX3, "beLike", "(LBlinkMoves$Law;)V"⟩
abbrev cX3_gives : ByteArray := prog_5_method_4_code
def yX3_gives : MethodName := ⟨RX3, "gives", "(III)I"⟩
abbrev cX3_held : ByteArray := prog_5_method_5_code
def yX3_held : MethodName := ⟨RX3, "held", "(II)I"⟩
abbrev cX3_worked : ByteArray := prog_5_method_6_code
def yX3_worked : MethodName := ⟨RX3, "worked", "(III)I"⟩
abbrev cX3_named : ByteArray := prog_5_method_7_code
def yX3_named : MethodName := ⟨RX3, "named", "(IIII)I"⟩
abbrev cX3_joined : ByteArray := prog_5_method_8_code
def yX3_joined : MethodName := ⟨RX3, "joined", "(III)I"⟩
def RX4 : String := "BlinkMoves$Person"
def TX4 : u_T := fun k => match k with
  | 0 => ("BlinkMoves$Person", "kind", "I", false)
  | 1 => ("BlinkMoves$Person", "m", "I", false)
  | 2 => ("BlinkMoves$Person", "beat", "I", false)
  | _ => ("BlinkMoves$Person", "phase", "I", false)
def tyX4 : Nat → FieldType := fun k => match k with
  | 0 => .int
  | 1 => .int
  | 2 => .int
  | _ => .int
abbrev wsX40 : List Cond := u_ws RX4 TX4 4
theorem nmX4 : ∀ a, a < 4 → ∀ b, b < 4 → a ≠ b → (TX4 a).2.1 ≠ (TX4 b).2.1 := by decide +kernel
theorem tyX4_ok : ∀ k, k < 4 → parseFieldDescriptor (TX4 k).2.2.1 = some (tyX4 k) := by decide +kernel
abbrev cX4_init : ByteArray := prog_6_method_1_code
def yX4_init : MethodName := ⟨RX4, "<init>", "()V"⟩
abbrev cX4_turnInto : ByteArray := prog_6_method_2_code
def yX4_turnInto : MethodName := ⟨RX4, "turnInto", "(I)V"⟩
abbrev cX4_beLike : ByteArray := prog_6_method_3_code
def yX4_beLike : MethodName := ⟨RX4, "beLike", "(LBlinkMoves$Person;)V"⟩
abbrev cX4_blinks : ByteArray := prog_6_method_4_code
def yX4_blinks : MethodName := ⟨RX4, "blinks", "(II)Z"⟩
abbrev cX4_deafBlinks : ByteArray := prog_6_method_5_code
def yX4_deafBlinks : MethodName := ⟨RX4, "deafBlinks", "(II)Z"⟩
abbrev cX4_tries : ByteArray := prog_6_method_6_code
def yX4_tries : MethodName := ⟨RX4, "tries", "(I)I"⟩
abbrev cX4_bankerTries : ByteArray := prog_6_method_7_code
def yX4_bankerTries : MethodName := ⟨RX4, "bankerTries", "()I"⟩
def RX5 : String := "BlinkMoves$Reader"
def TX5 : u_T := fun k => match k with
  | 0 => ("BlinkMoves$Reader", "tape", "LBlinkMoves$Row;", true)
  | 1 => ("BlinkMoves$Reader", "code", "LBlinkMoves$Row;", true)
  | 2 => ("BlinkMoves$Reader", "use", "I", false)
  | _ => ("BlinkMoves$Reader", "place", "I", false)
def tyX5 : Nat → FieldType := fun k => match k with
  | 0 => .object "BlinkMoves$Row"
  | 1 => .object "BlinkMoves$Row"
  | 2 => .int
  | _ => .int
abbrev wsX50 : List Cond := u_ws RX5 TX5 4
theorem nmX5 : ∀ a, a < 4 → ∀ b, b < 4 → a ≠ b → (TX5 a).2.1 ≠ (TX5 b).2.1 := by decide +kernel
theorem tyX5_ok : ∀ k, k < 4 → parseFieldDescriptor (TX5 k).2.2.1 = some (tyX5 k) := by decide +kernel
abbrev cX5_init : ByteArray := prog_7_method_1_code
def yX5_init : MethodName := ⟨RX5, "<init>", "(LBlinkMoves$Row;)V"⟩
abbrev cX5_reads : ByteArray := prog_7_method_2_code
def yX5_reads : MethodName := ⟨RX5, "reads", "(I)Z"⟩
abbrev cX5_fault : ByteArray := prog_7_method_3_code
def yX5_fault : MethodName := ⟨RX5, "fault", "()I"⟩
abbrev cX5_next : ByteArray := prog_7_method_4_code
def yX5_next : MethodName := ⟨RX5, "next", "()I"⟩
abbrev cX5_takes : ByteArray := prog_7_method_5_code
def yX5_takes : MethodName := ⟨RX5, "takes", "(I)Z"⟩
abbrev cX5_readsAny : ByteArray := prog_7_method_6_code
def yX5_readsAny : MethodName := ⟨RX5, "readsAny", "(I)Z"⟩
abbrev cX5_readsAll : ByteArray := prog_7_method_7_code
def yX5_readsAll : MethodName := ⟨RX5, "readsAll", "(I)Z"⟩
abbrev cX5_readsComparison : ByteArray := prog_7_method_8_code
def yX5_readsComparison : MethodName := ⟨RX5, "readsComparison", "(I)Z"⟩
abbrev cX5_readsSum : ByteArray := prog_7_method_9_code
def yX5_readsSum : MethodName := ⟨RX5, "readsSum", "(I)Z"⟩
abbrev cX5_readsProduct : ByteArray := prog_7_method_10_code
def yX5_readsProduct : MethodName := ⟨RX5, "readsProduct", "(I)Z"⟩
abbrev cX5_readsFactor : ByteArray := prog_7_method_11_code
def yX5_readsFactor : MethodName := ⟨RX5, "readsFactor", "(I)Z"⟩
abbrev cX5_readNumber : ByteArray := prog_7_method_12_code
def yX5_readNumber : MethodName := ⟨RX5, "readNumber", "()V"⟩
abbrev cX5_isDigit : ByteArray := prog_7_method_13_code
def yX5_isDigit : MethodName := ⟨RX5, "isDigit", "(I)Z"⟩
abbrev cX5_nameOf : ByteArray := prog_7_method_14_code
def yX5_nameOf : MethodName := ⟨RX5, "nameOf", "(I)I"⟩
def RX6 : String := "BlinkMoves$Row"
def TX6 : u_T := fun k => match k with
  | 0 => ("BlinkMoves$Row", "cells", "[I", true)
  | _ => ("BlinkMoves$Row", "filled", "I", false)
def tyX6 : Nat → FieldType := fun k => match k with
  | 0 => .array .int
  | _ => .int
abbrev wsX60 : List Cond := u_ws RX6 TX6 2
theorem nmX6 : ∀ a, a < 2 → ∀ b, b < 2 → a ≠ b → (TX6 a).2.1 ≠ (TX6 b).2.1 := by decide +kernel
theorem tyX6_ok : ∀ k, k < 2 → parseFieldDescriptor (TX6 k).2.2.1 = some (tyX6 k) := by decide +kernel
abbrev cX6_init : ByteArray := prog_8_method_1_code
def yX6_init : MethodName := ⟨RX6, "<init>", "(I)V"⟩
abbrev cX6_size : ByteArray := prog_8_method_2_code
def yX6_size : MethodName := ⟨RX6, "size", "()I"⟩
abbrev cX6_at : ByteArray := prog_8_method_3_code
def yX6_at : MethodName := ⟨RX6, "at", "(I)I"⟩
abbrev cX6_add : ByteArray := prog_8_method_4_code
def yX6_add : MethodName := ⟨RX6, "add", "(I)Z"⟩
abbrev cX6_change : ByteArray := prog_8_method_5_code
def yX6_change : MethodName := ⟨RX6, "change", "(II)V"⟩
abbrev cX6_clear : ByteArray := prog_8_method_6_code
def yX6_clear : MethodName := ⟨RX6, "clear", "()V"⟩
abbrev cX6_beZeros : ByteArray := prog_8_method_7_code
def yX6_beZeros : MethodName := ⟨RX6, "beZeros", "(I)V"⟩
abbrev cX6_spans : ByteArray := prog_8_method_8_code
def yX6_spans : MethodName := ⟨RX6, "spans", "(II)Z"⟩
abbrev cX6_takeFrom : ByteArray := prog_8_method_9_code
def yX6_takeFrom : MethodName := ⟨RX6, "takeFrom", "(LBlinkMoves$Row;III)V"⟩
abbrev cX6_beLike : ByteArray := prog_8_method_10_code
def yX6_beLike : MethodName := ⟨RX6, "beLike", "(LBlinkMoves$Row;)V"⟩
def RX7 : String := "BlinkMoves$Sheet"
def TX7 : u_T := fun k => match k with
  | 0 => ("BlinkMoves$Sheet", "numbers", "LBlinkMoves$Row;", true)
  | _ => ("BlinkMoves$Sheet", "bits", "I", false)
def tyX7 : Nat → FieldType := fun k => match k with
  | 0 => .object "BlinkMoves$Row"
  | _ => .int
abbrev wsX70 : List Cond := u_ws RX7 TX7 2
theorem nmX7 : ∀ a, a < 2 → ∀ b, b < 2 → a ≠ b → (TX7 a).2.1 ≠ (TX7 b).2.1 := by decide +kernel
theorem tyX7_ok : ∀ k, k < 2 → parseFieldDescriptor (TX7 k).2.2.1 = some (tyX7 k) := by decide +kernel
abbrev cX7_init : ByteArray := prog_9_method_1_code
def yX7_init : MethodName := ⟨RX7, "<init>", "()V"⟩
abbrev cX7_isMissing : ByteArray := prog_9_method_2_code
def yX7_isMissing : MethodName := ⟨RX7, "isMissing", "()Z"⟩
abbrev cX7_renew : ByteArray := prog_9_method_3_code
def yX7_renew : MethodName := ⟨RX7, "renew", "(II)V"⟩
abbrev cX7_lowestBits : ByteArray := prog_9_method_4_code
def yX7_lowestBits : MethodName := ⟨RX7, "lowestBits", "(I)I"⟩
def RX8 : String := "BlinkMoves$Voices"
def TX8 : u_T := fun k => match k with
  | 0 => ("BlinkMoves$Voices", "trace", "LBlinkMoves$Row;", true)
  | 1 => ("BlinkMoves$Voices", "parted", "Z", false)
  | 2 => ("BlinkMoves$Voices", "own", "I", false)
  | 3 => ("BlinkMoves$Voices", "k", "I", false)
  | _ => ("BlinkMoves$Voices", "m", "I", false)
def tyX8 : Nat → FieldType := fun k => match k with
  | 0 => .object "BlinkMoves$Row"
  | 1 => .boolean
  | 2 => .int
  | 3 => .int
  | _ => .int
abbrev wsX80 : List Cond := u_ws RX8 TX8 5
theorem nmX8 : ∀ a, a < 5 → ∀ b, b < 5 → a ≠ b → (TX8 a).2.1 ≠ (TX8 b).2.1 := by decide +kernel
theorem tyX8_ok : ∀ k, k < 5 → parseFieldDescriptor (TX8 k).2.2.1 = some (tyX8 k) := by decide +kernel
abbrev cX8_init : ByteArray := prog_10_method_1_code
def yX8_init : MethodName := ⟨RX8, "<init>", "()V"⟩
abbrev cX8_say : ByteArray := prog_10_method_2_code
def yX8_say : MethodName := ⟨RX8, "say", "(LBlinkMoves$Person;III)I"⟩
abbrev cX8_blinks : ByteArray := prog_10_method_3_code
def yX8_blinks : MethodName := ⟨RX8, "blinks", "(II)I"⟩
abbrev cX8_moves : ByteArray := prog_10_method_4_code
def yX8_moves : MethodName := ⟨RX8, "moves", "(II)I"⟩
abbrev cX8_looks : ByteArray := prog_10_method_5_code
def yX8_looks : MethodName := ⟨RX8, "looks", "(II)I"⟩
abbrev cX8_parts : ByteArray := prog_10_method_6_code
def yX8_parts : MethodName := ⟨RX8, "parts", "(II)I"⟩
def RX9 : String := "BlinkMoves"
def TX9 : u_T := fun k => match k with
  | 0 => ("BlinkMoves", "island", "LBlinkMoves$Island;", true)
  | 1 => ("BlinkMoves", "reader", "LBlinkMoves$Reader;", true)
  | 2 => ("BlinkMoves", "foresight", "LBlinkMoves$Foresight;", true)
  | 3 => ("BlinkMoves", "voices", "LBlinkMoves$Voices;", true)
  | 4 => ("BlinkMoves", "sheets", "[LBlinkMoves$Sheet;", true)
  | 5 => ("BlinkMoves", "errorsTold", "[I", true)
  | 6 => ("BlinkMoves", "imageKept", "LBlinkMoves$Island;", false)
  | _ => ("BlinkMoves", "imagesDone", "I", false)
def tyX9 : Nat → FieldType := fun k => match k with
  | 0 => .object "BlinkMoves$Island"
  | 1 => .object "BlinkMoves$Reader"
  | 2 => .object "BlinkMoves$Foresight"
  | 3 => .object "BlinkMoves$Voices"
  | 4 => .array (.object "BlinkMoves$Sheet")
  | 5 => .array .int
  | 6 => .object "BlinkMoves$Island"
  | _ => .int
abbrev wsX90 : List Cond := u_ws RX9 TX9 8
theorem nmX9 : ∀ a, a < 8 → ∀ b, b < 8 → a ≠ b → (TX9 a).2.1 ≠ (TX9 b).2.1 := by decide +kernel
theorem tyX9_ok : ∀ k, k < 8 → parseFieldDescriptor (TX9 k).2.2.1 = some (tyX9 k) := by decide +kernel
abbrev cX9_init : ByteArray := prog_1_method_1_code
def yX9_init : MethodName := ⟨RX9, "<init>", "()V"⟩
abbrev cX9_person : ByteArray := prog_1_method_2_code
def yX9_person : MethodName := ⟨RX9, "person", "(III)I"⟩
abbrev cX9_personIs : ByteArray := prog_1_method_3_code
def yX9_personIs : MethodName := ⟨RX9, "personIs", "(II)I"⟩
abbrev cX9_become : ByteArray := prog_1_method_4_code
def yX9_become : MethodName := ⟨RX9, "become", "(II)I"⟩
abbrev cX9_as : ByteArray := prog_1_method_5_code
def yX9_as : MethodName := ⟨RX9, "as", "(II)I"⟩
abbrev cX9_beats : ByteArray := prog_1_method_6_code
def yX9_beats : MethodName := ⟨RX9, "beats", "(III)I"⟩
abbrev cX9_doing : ByteArray := prog_1_method_7_code
def yX9_doing : MethodName := ⟨RX9, "doing", "(III)I"⟩
abbrev cX9_doingIs : ByteArray := prog_1_method_8_code
def yX9_doingIs : MethodName := ⟨RX9, "doingIs", "(II)I"⟩
abbrev cX9_sets : ByteArray := prog_1_method_9_code
def yX9_sets : MethodName := ⟨RX9, "sets", "(II)I"⟩
abbrev cX9_shut : ByteArray := prog_1_method_10_code
def yX9_shut : MethodName := ⟨RX9, "shut", "()I"⟩
abbrev cX9_feed : ByteArray := prog_1_method_11_code
def yX9_feed : MethodName := ⟨RX9, "feed", "(JI)I"⟩
abbrev cX9_text : ByteArray := prog_1_method_12_code
def yX9_text : MethodName := ⟨RX9, "text", "(I)I"⟩
abbrev cX9_untell : ByteArray := prog_1_method_13_code
def yX9_untell : MethodName := ⟨RX9, "untell", "(I)I"⟩
abbrev cX9_law : ByteArray := prog_1_method_14_code
def yX9_law : MethodName := ⟨RX9, "law", "(IIII)I"⟩
abbrev cX9_ticks : ByteArray := prog_1_method_15_code
def yX9_ticks : MethodName := ⟨RX9, "ticks", "(I)I"⟩
abbrev cX9_loose : ByteArray := prog_1_method_16_code
def yX9_loose : MethodName := ⟨RX9, "loose", "(I)I"⟩
abbrev cX9_tick : ByteArray := prog_1_method_17_code
def yX9_tick : MethodName := ⟨RX9, "tick", "(I)I"⟩
abbrev cX9_seed : ByteArray := prog_1_method_18_code
def yX9_seed : MethodName := ⟨RX9, "seed", "(I)I"⟩
abbrev cX9_then : ByteArray := prog_1_method_19_code
def yX9_then : MethodName := ⟨RX9, "then", "(II)I"⟩
abbrev cX9_soonest : ByteArray := prog_1_method_20_code
def yX9_soonest : MethodName := ⟨RX9, "soonest", "(I)I"⟩
abbrev cX9_moment : ByteArray := prog_1_method_21_code
def yX9_moment : MethodName := ⟨RX9, "moment", "(I)I"⟩
abbrev cX9_moments : ByteArray := prog_1_method_22_code
def yX9_moments : MethodName := ⟨RX9, "moments", "(II)I"⟩
abbrev cX9_away : ByteArray := prog_1_method_23_code
def yX9_away : MethodName := ⟨RX9, "away", "(III)I"⟩
abbrev cX9_phaseFor : ByteArray := prog_1_method_24_code
def yX9_phaseFor : MethodName := ⟨RX9, "phaseFor", "(III)I"⟩
abbrev cX9_odds : ByteArray := prog_1_method_25_code
def yX9_odds : MethodName := ⟨RX9, "odds", "(III)I"⟩
abbrev cX9_fits : ByteArray := prog_1_method_26_code
def yX9_fits : MethodName := ⟨RX9, "fits", "(III)I"⟩
abbrev cX9_voice : ByteArray := prog_1_method_27_code
def yX9_voice : MethodName := ⟨RX9, "voice", "(III)I"⟩
abbrev cX9_body : ByteArray := prog_1_method_28_code
def yX9_body : MethodName := ⟨RX9, "body", "(I)I"⟩
abbrev cX9_sheet : ByteArray := prog_1_method_29_code
def yX9_sheet : MethodName := ⟨RX9, "sheet", "(III)I"⟩
abbrev cX9_put : ByteArray := prog_1_method_30_code
def yX9_put : MethodName := ⟨RX9, "put", "(III)I"⟩
abbrev cX9_move : ByteArray := prog_1_method_31_code
def yX9_move : MethodName := ⟨RX9, "move", "(IIIII)I"⟩
abbrev cX9_partsAll : ByteArray := prog_1_method_32_code
def yX9_partsAll : MethodName := ⟨RX9, "partsAll", "(I)I"⟩
abbrev cX9_judge : ByteArray := prog_1_method_33_code
def yX9_judge : MethodName := ⟨RX9, "judge", "(I)I"⟩
abbrev cX9_image : ByteArray := prog_1_method_34_code
def yX9_image : MethodName := ⟨RX9, "image", "()I"⟩
abbrev cX9_restore : ByteArray := prog_1_method_35_code
def yX9_restore : MethodName := ⟨RX9, "restore", "()I"⟩
abbrev cX9_tell : ByteArray := prog_1_method_36_code
def yX9_tell : MethodName := ⟨RX9, "tell", "(I)I"⟩
abbrev cX9_check : ByteArray := prog_1_method_37_code
def yX9_check : MethodName := ⟨RX9, "check", "()I"⟩
abbrev cX9_count : ByteArray := prog_1_method_38_code
def yX9_count : MethodName := ⟨RX9, "count", "(I)I"⟩
abbrev cX9_told : ByteArray := prog_1_method_39_code
def yX9_told : MethodName := ⟨RX9, "told", "(I)I"⟩
abbrev cX9_fail : ByteArray := prog_1_method_40_code
def yX9_fail : MethodName := ⟨RX9, "fail", "(I)I"⟩
abbrev cX9_within : ByteArray := prog_1_method_41_code
def yX9_within : MethodName := ⟨RX9, "within", "(III)Z"⟩
abbrev cX9_isKindAndNumber : ByteArray := prog_1_method_42_code
def yX9_isKindAndNumber : MethodName := ⟨RX9, "isKindAndNumber", "(I)Z"⟩
abbrev cX9_isBeatAndPhase : ByteArray := prog_1_method_43_code
def yX9_isBeatAndPhase : MethodName := ⟨RX9, "isBeatAndPhase", "(II)Z"⟩
abbrev cX9_isParts : ByteArray := prog_1_method_44_code
def yX9_isParts : MethodName := ⟨RX9, "isParts", "(I)Z"⟩
abbrev cX9_isUse : ByteArray := prog_1_method_45_code
def yX9_isUse : MethodName := ⟨RX9, "isUse", "(I)Z"⟩
abbrev cX9_isSheet : ByteArray := prog_1_method_46_code
def yX9_isSheet : MethodName := ⟨RX9, "isSheet", "(I)Z"⟩
abbrev cX9_holds : ByteArray := prog_1_method_47_code
def yX9_holds : MethodName := ⟨RX9, "holds", "(II)Z"⟩
abbrev cX9_isUnder : ByteArray := prog_1_method_48_code
def yX9_isUnder : MethodName := ⟨RX9, "isUnder", "(II)Z"⟩
abbrev cX9_rest : ByteArray := prog_1_method_49_code
def yX9_rest : MethodName := ⟨RX9, "rest", "(III)I"⟩
abbrev cX9_commonDivisor : ByteArray := prog_1_method_50_code
def yX9_commonDivisor : MethodName := ⟨RX9, "commonDivisor", "(II)I"⟩
def RX10 : String := "BlinkMovesModel"
def TX10 : u_T := fun k => match k with
  | 0 => ("BlinkMovesModel", "s", "[I", true)
  | 1 => ("BlinkMovesModel", "kept", "[I", true)
  | 2 => ("BlinkMovesModel", "laid", "[I", true)
  | 3 => ("BlinkMovesModel", "images", "I", false)
  | 4 => ("BlinkMovesModel", "errors", "[I", true)
  | 5 => ("BlinkMovesModel", "at", "I", false)
  | 6 => ("BlinkMovesModel", "open", "I", false)
  | 7 => ("BlinkMovesModel", "steps", "I", false)
  | 8 => ("BlinkMovesModel", "use", "I", false)
  | 9 => ("BlinkMovesModel", "step", "[I", true)
  | 10 => ("BlinkMovesModel", "named", "[I", true)
  | 11 => ("BlinkMovesModel", "pile", "[I", true)
  | 12 => ("BlinkMovesModel", "traced", "I", false)
  | 13 => ("BlinkMovesModel", "trace", "[I", true)
  | 14 => ("BlinkMovesModel", "speaks", "I", false)
  | 15 => ("BlinkMovesModel", "isParted", "Z", false)
  | 16 => ("BlinkMovesModel", "bits", "[I", true)
  | 17 => ("BlinkMovesModel", "sizes", "[I", true)
  | 18 => ("BlinkMovesModel", "number", "[I", true)
  | _ => ("BlinkMovesModel", "aside", "[I", true)
def tyX10 : Nat → FieldType := fun k => match k with
  | 0 => .array .int
  | 1 => .array .int
  | 2 => .array .int
  | 3 => .int
  | 4 => .array .int
  | 5 => .int
  | 6 => .int
  | 7 => .int
  | 8 => .int
  | 9 => .array .int
  | 10 => .array .int
  | 11 => .array .int
  | 12 => .int
  | 13 => .array .int
  | 14 => .int
  | 15 => .boolean
  | 16 => .array .int
  | 17 => .array .int
  | 18 => .array .int
  | _ => .array .int
abbrev wsX100 : List Cond := u_ws RX10 TX10 20
theorem nmX10 : ∀ a, a < 20 → ∀ b, b < 20 → a ≠ b → (TX10 a).2.1 ≠ (TX10 b).2.1 := by decide +kernel
theorem tyX10_ok : ∀ k, k < 20 → parseFieldDescriptor (TX10 k).2.2.1 = some (tyX10 k) := by decide +kernel
abbrev cX10_init : ByteArray := prog_12_method_1_code
def yX10_init : MethodName := ⟨RX10, "<init>", "()V"⟩
abbrev cX10_error : ByteArray := prog_12_method_2_code
def yX10_error : MethodName := ⟨RX10, "error", "(I)I"⟩
abbrev cX10_in : ByteArray := prog_12_method_3_code
def yX10_in : MethodName := ⟨RX10, "in", "(III)Z"⟩
abbrev cX10_held : ByteArray := prog_12_method_4_code
def yX10_held : MethodName := ⟨RX10, "held", "(III)I"⟩
abbrev cX10_copyAll : ByteArray := prog_12_method_5_code
def yX10_copyAll : MethodName := ⟨RX10, "copyAll", "([I[I)V"⟩
abbrev cX10_layDown : ByteArray := prog_12_method_6_code
def yX10_layDown : MethodName := ⟨RX10, "layDown", "()V"⟩
abbrev cX10_layBack : ByteArray := prog_12_method_7_code
def yX10_layBack : MethodName := ⟨RX10, "layBack", "()V"⟩
abbrev cX10_isPerson : ByteArray := prog_12_method_8_code
def yX10_isPerson : MethodName := ⟨RX10, "isPerson", "(I)Z"⟩
abbrev cX10_isDoing : ByteArray := prog_12_method_9_code
def yX10_isDoing : MethodName := ⟨RX10, "isDoing", "(I)Z"⟩
abbrev cX10_isSet : ByteArray := prog_12_method_10_code
def yX10_isSet : MethodName := ⟨RX10, "isSet", "(I)Z"⟩
abbrev cX10_its : ByteArray := prog_12_method_11_code
def yX10_its : MethodName := ⟨RX10, "its", "(II)I"⟩
abbrev cX10_lays1 : ByteArray := prog_12_method_12_code
def yX10_lays1 : MethodName := ⟨RX10, "lays1", "(III)V"⟩
abbrev cX10_ofDoing : ByteArray := prog_12_method_13_code
def yX10_ofDoing : MethodName := ⟨RX10, "ofDoing", "(II)I"⟩
abbrev cX10_laysDoing : ByteArray := prog_12_method_14_code
def yX10_laysDoing : MethodName := ⟨RX10, "laysDoing", "(III)V"⟩
abbrev cX10_change1 : ByteArray := prog_12_method_15_code
def yX10_change1 : MethodName := ⟨RX10, "change1", "(II)I"⟩
abbrev cX10_manyIn : ByteArray := prog_12_method_16_code
def yX10_manyIn : MethodName := ⟨RX10, "manyIn", "(I)I"⟩
abbrev cX10_feed : ByteArray := prog_12_method_17_code
def yX10_feed : MethodName := ⟨RX10, "feed", "(JI)I"⟩
abbrev cX10_look : ByteArray := prog_12_method_18_code
def yX10_look : MethodName := ⟨RX10, "look", "()I"⟩
abbrev cX10_isName : ByteArray := prog_12_method_19_code
def yX10_isName : MethodName := ⟨RX10, "isName", "(I)Z"⟩
abbrev cX10_step1 : ByteArray := prog_12_method_20_code
def yX10_step1 : MethodName := ⟨RX10, "step1", "(II)V"⟩
abbrev cX10_whole : ByteArray := prog_12_method_21_code
def yX10_whole : MethodName := ⟨RX10, "whole", "()Z"⟩
abbrev cX10_both : ByteArray := prog_12_method_22_code
def yX10_both : MethodName := ⟨RX10, "both", "()Z"⟩
abbrev cX10_compared : ByteArray := prog_12_method_23_code
def yX10_compared : MethodName := ⟨RX10, "compared", "()Z"⟩
abbrev cX10_sum : ByteArray := prog_12_method_24_code
def yX10_sum : MethodName := ⟨RX10, "sum", "()Z"⟩
abbrev cX10_product : ByteArray := prog_12_method_25_code
def yX10_product : MethodName := ⟨RX10, "product", "()Z"⟩
abbrev cX10_opens : ByteArray := prog_12_method_26_code
def yX10_opens : MethodName := ⟨RX10, "opens", "()Z"⟩
abbrev cX10_one : ByteArray := prog_12_method_27_code
def yX10_one : MethodName := ⟨RX10, "one", "()Z"⟩
abbrev cX10_hasText : ByteArray := prog_12_method_28_code
def yX10_hasText : MethodName := ⟨RX10, "hasText", "(I)Z"⟩
abbrev cX10_text : ByteArray := prog_12_method_29_code
def yX10_text : MethodName := ⟨RX10, "text", "(I)I"⟩
abbrev cX10_untell : ByteArray := prog_12_method_30_code
def yX10_untell : MethodName := ⟨RX10, "untell", "(I)I"⟩
abbrev cX10_joined : ByteArray := prog_12_method_31_code
def yX10_joined : MethodName := ⟨RX10, "joined", "(III)I"⟩
abbrev cX10_worked : ByteArray := prog_12_method_32_code
def yX10_worked : MethodName := ⟨RX10, "worked", "(I)I"⟩
abbrev cX10_blinksNow : ByteArray := prog_12_method_33_code
def yX10_blinksNow : MethodName := ⟨RX10, "blinksNow", "(I)Z"⟩
abbrev cX10_triesOf : ByteArray := prog_12_method_34_code
def yX10_triesOf : MethodName := ⟨RX10, "triesOf", "(I)I"⟩
abbrev cX10_shutTold : ByteArray := prog_12_method_35_code
def yX10_shutTold : MethodName := ⟨RX10, "shutTold", "(III)I"⟩
abbrev cX10_onTold : ByteArray := prog_12_method_36_code
def yX10_onTold : MethodName := ⟨RX10, "onTold", "(III)I"⟩
abbrev cX10_shutOf : ByteArray := prog_12_method_37_code
def yX10_shutOf : MethodName := ⟨RX10, "shutOf", "(I)I"⟩
abbrev cX10_shutNow : ByteArray := prog_12_method_38_code
def yX10_shutNow : MethodName := ⟨RX10, "shutNow", "()I"⟩
abbrev cX10_onBy : ByteArray := prog_12_method_39_code
def yX10_onBy : MethodName := ⟨RX10, "onBy", "(II)I"⟩
abbrev cX10_getsOn : ByteArray := prog_12_method_40_code
def yX10_getsOn : MethodName := ⟨RX10, "getsOn", "(II)Z"⟩
abbrev cX10_aTick : ByteArray := prog_12_method_41_code
def yX10_aTick : MethodName := ⟨RX10, "aTick", "()I"⟩
abbrev cX10_draw : ByteArray := prog_12_method_42_code
def yX10_draw : MethodName := ⟨RX10, "draw", "()I"⟩
abbrev cX10_isKind : ByteArray := prog_12_method_43_code
def yX10_isKind : MethodName := ⟨RX10, "isKind", "(I)Z"⟩
abbrev cX10_isBeat : ByteArray := prog_12_method_44_code
def yX10_isBeat : MethodName := ⟨RX10, "isBeat", "(II)Z"⟩
abbrev cX10_person : ByteArray := prog_12_method_45_code
def yX10_person : MethodName := ⟨RX10, "person", "(III)I"⟩
abbrev cX10_personIs : ByteArray := prog_12_method_46_code
def yX10_personIs : MethodName := ⟨RX10, "personIs", "(II)I"⟩
abbrev cX10_become : ByteArray := prog_12_method_47_code
def yX10_become : MethodName := ⟨RX10, "become", "(II)I"⟩
abbrev cX10_as : ByteArray := prog_12_method_48_code
def yX10_as : MethodName := ⟨RX10, "as", "(II)I"⟩
abbrev cX10_beats : ByteArray := prog_12_method_49_code
def yX10_beats : MethodName := ⟨RX10, "beats", "(III)I"⟩
abbrev cX10_doing : ByteArray := prog_12_method_50_code
def yX10_doing : MethodName := ⟨RX10, "doing", "(III)I"⟩
abbrev cX10_doingIs : ByteArray := prog_12_method_51_code
def yX10_doingIs : MethodName := ⟨RX10, "doingIs", "(II)I"⟩
abbrev cX10_sets : ByteArray := prog_12_method_52_code
def yX10_sets : MethodName := ⟨RX10, "sets", "(II)I"⟩
abbrev cX10_shut : ByteArray := prog_12_method_53_code
def yX10_shut : MethodName := ⟨RX10, "shut", "()I"⟩
abbrev cX10_law : ByteArray := prog_12_method_54_code
def yX10_law : MethodName := ⟨RX10, "law", "(IIII)I"⟩
abbrev cX10_whyNot : ByteArray := prog_12_method_55_code
def yX10_whyNot : MethodName := ⟨RX10, "whyNot", "(II)I"⟩
abbrev cX10_ticks : ByteArray := prog_12_method_56_code
def yX10_ticks : MethodName := ⟨RX10, "ticks", "(I)I"⟩
abbrev cX10_shifts : ByteArray := prog_12_method_57_code
def yX10_shifts : MethodName := ⟨RX10, "shifts", "()V"⟩
abbrev cX10_loose : ByteArray := prog_12_method_58_code
def yX10_loose : MethodName := ⟨RX10, "loose", "(I)I"⟩
abbrev cX10_tick : ByteArray := prog_12_method_59_code
def yX10_tick : MethodName := ⟨RX10, "tick", "(I)I"⟩
abbrev cX10_seed : ByteArray := prog_12_method_60_code
def yX10_seed : MethodName := ⟨RX10, "seed", "(I)I"⟩
abbrev cX10_then : ByteArray := prog_12_method_61_code
def yX10_then : MethodName := ⟨RX10, "then", "(II)I"⟩
abbrev cX10_doneBy : ByteArray := prog_12_method_62_code
def yX10_doneBy : MethodName := ⟨RX10, "doneBy", "(II)I"⟩
abbrev cX10_soonest : ByteArray := prog_12_method_63_code
def yX10_soonest : MethodName := ⟨RX10, "soonest", "(I)I"⟩
abbrev cX10_isMoment : ByteArray := prog_12_method_64_code
def yX10_isMoment : MethodName := ⟨RX10, "isMoment", "(I)Z"⟩
abbrev cX10_moment : ByteArray := prog_12_method_65_code
def yX10_moment : MethodName := ⟨RX10, "moment", "(I)I"⟩
abbrev cX10_momentsOf : ByteArray := prog_12_method_66_code
def yX10_momentsOf : MethodName := ⟨RX10, "momentsOf", "(II)I"⟩
abbrev cX10_moments : ByteArray := prog_12_method_67_code
def yX10_moments : MethodName := ⟨RX10, "moments", "(II)I"⟩
abbrev cX10_isDoneWithout : ByteArray := prog_12_method_68_code
def yX10_isDoneWithout : MethodName := ⟨RX10, "isDoneWithout", "(III)Z"⟩
abbrev cX10_away : ByteArray := prog_12_method_69_code
def yX10_away : MethodName := ⟨RX10, "away", "(III)I"⟩
abbrev cX10_phaseFor : ByteArray := prog_12_method_70_code
def yX10_phaseFor : MethodName := ⟨RX10, "phaseFor", "(III)I"⟩
abbrev cX10_divisor : ByteArray := prog_12_method_71_code
def yX10_divisor : MethodName := ⟨RX10, "divisor", "(II)I"⟩
abbrev cX10_odds : ByteArray := prog_12_method_72_code
def yX10_odds : MethodName := ⟨RX10, "odds", "(III)I"⟩
abbrev cX10_isShutSo : ByteArray := prog_12_method_73_code
def yX10_isShutSo : MethodName := ⟨RX10, "isShutSo", "(IIII)Z"⟩
abbrev cX10_fits : ByteArray := prog_12_method_74_code
def yX10_fits : MethodName := ⟨RX10, "fits", "(III)I"⟩
abbrev cX10_starts : ByteArray := prog_12_method_75_code
def yX10_starts : MethodName := ⟨RX10, "starts", "(I)V"⟩
abbrev cX10_above : ByteArray := prog_12_method_76_code
def yX10_above : MethodName := ⟨RX10, "above", "(I)I"⟩
abbrev cX10_kindNow : ByteArray := prog_12_method_77_code
def yX10_kindNow : MethodName := ⟨RX10, "kindNow", "()I"⟩
abbrev cX10_mNow : ByteArray := prog_12_method_78_code
def yX10_mNow : MethodName := ⟨RX10, "mNow", "()I"⟩
abbrev cX10_blinksAs : ByteArray := prog_12_method_79_code
def yX10_blinksAs : MethodName := ⟨RX10, "blinksAs", "(II)I"⟩
abbrev cX10_movesAs : ByteArray := prog_12_method_80_code
def yX10_movesAs : MethodName := ⟨RX10, "movesAs", "(II)I"⟩
abbrev cX10_looksAs : ByteArray := prog_12_method_81_code
def yX10_looksAs : MethodName := ⟨RX10, "looksAs", "(II)I"⟩
abbrev cX10_partsAs : ByteArray := prog_12_method_82_code
def yX10_partsAs : MethodName := ⟨RX10, "partsAs", "(II)I"⟩
abbrev cX10_voice : ByteArray := prog_12_method_83_code
def yX10_voice : MethodName := ⟨RX10, "voice", "(III)I"⟩
abbrev cX10_body : ByteArray := prog_12_method_84_code
def yX10_body : MethodName := ⟨RX10, "body", "(I)I"⟩
abbrev cX10_isSheet : ByteArray := prog_12_method_85_code
def yX10_isSheet : MethodName := ⟨RX10, "isSheet", "(I)Z"⟩
abbrev cX10_sheet : ByteArray := prog_12_method_86_code
def yX10_sheet : MethodName := ⟨RX10, "sheet", "(III)I"⟩
abbrev cX10_put : ByteArray := prog_12_method_87_code
def yX10_put : MethodName := ⟨RX10, "put", "(III)I"⟩
abbrev cX10_move : ByteArray := prog_12_method_88_code
def yX10_move : MethodName := ⟨RX10, "move", "(IIIII)I"⟩
abbrev cX10_lacks : ByteArray := prog_12_method_89_code
def yX10_lacks : MethodName := ⟨RX10, "lacks", "(I)I"⟩
abbrev cX10_partsAll : ByteArray := prog_12_method_90_code
def yX10_partsAll : MethodName := ⟨RX10, "partsAll", "(I)I"⟩
abbrev cX10_judge : ByteArray := prog_12_method_91_code
def yX10_judge : MethodName := ⟨RX10, "judge", "(I)I"⟩
abbrev cX10_image : ByteArray := prog_12_method_92_code
def yX10_image : MethodName := ⟨RX10, "image", "()I"⟩
abbrev cX10_restore : ByteArray := prog_12_method_93_code
def yX10_restore : MethodName := ⟨RX10, "restore", "()I"⟩
abbrev cX10_tell : ByteArray := prog_12_method_94_code
def yX10_tell : MethodName := ⟨RX10, "tell", "(I)I"⟩
abbrev cX10_check : ByteArray := prog_12_method_95_code
def yX10_check : MethodName := ⟨RX10, "check", "()I"⟩
abbrev cX10_allParts : ByteArray := prog_12_method_96_code
def yX10_allParts : MethodName := ⟨RX10, "allParts", "()I"⟩
abbrev cX10_count : ByteArray := prog_12_method_97_code
def yX10_count : MethodName := ⟨RX10, "count", "(I)I"⟩
abbrev cX10_told : ByteArray := prog_12_method_98_code
def yX10_told : MethodName := ⟨RX10, "told", "(I)I"⟩
def RJ6 : String := "java/lang/Integer"
abbrev cJ6_bitCount_0f7a4 : ByteArray := prog_13_method_49_code
def yJ6_bitCount_0f7a4 : MethodName := ⟨RJ6, "bitCount", "(I)I"⟩
def RJ9 : String := "java/lang/Math"
abbrev cJ9_max_7cf53 : ByteArray := prog_14_method_65_code
def yJ9_max_7cf53 : MethodName := ⟨RJ9, "max", "(II)I"⟩
abbrev cJ9_min_7cf53 : ByteArray := prog_14_method_69_code
def yJ9_min_7cf53 : MethodName := ⟨RJ9, "min", "(II)I"⟩
def RJ10 : String := "java/lang/System"
def RL : String := "BlinkMovesLaw"
abbrev cL_law : ByteArray := code
def yL_law : MethodName := ⟨RL, "law", "([I)Z"⟩
abbrev vwCl : List vw_C := [(RX0, TX0, 3), (RX1, TX1, 6), (RX2, TX2, 10), (RX3, TX3, 4), (RX4, TX4, 4), (RX5, TX5, 4), (RX6, TX6, 2), (RX7, TX7, 2), (RX8, TX8, 5), (RX9, TX9, 8), (RX10, TX10, 20)]
end
section
theorem dX0_init_0 : decode cX0_init 0 = .ok (.aload_n 0, 1) := by decide +kernel
theorem dX0_init_1 : decode cX0_init 1 = .ok (.invokespecial 1, 3) := by decide +kernel
theorem dX0_init_4 : decode cX0_init 4 = .ok (.return_, 1) := by decide +kernel
theorem dX0_beLike_0 : decode cX0_beLike 0 = .ok (.aload_n 0, 1) := by decide +kernel
theorem dX0_beLike_1 : decode cX0_beLike 1 = .ok (.aload_n 1, 1) := by decide +kernel
theorem dX0_beLike_2 : decode cX0_beLike 2 = .ok (.getfield 7, 3) := by decide +kernel
theorem dX0_beLike_5 : decode cX0_beLike 5 = .ok (.putfield 7, 3) := by decide +kernel
theorem dX0_beLike_8 : decode cX0_beLike 8 = .ok (.aload_n 0, 1) := by decide +kernel
theorem dX0_beLike_9 : decode cX0_beLike 9 = .ok (.aload_n 1, 1) := by decide +kernel
theorem dX0_beLike_10 : decode cX0_beLike 10 = .ok (.getfield 13, 3) := by decide +kernel
theorem dX0_beLike_13 : decode cX0_beLike 13 = .ok (.putfield 13, 3) := by decide +kernel
theorem dX0_beLike_16 : decode cX0_beLike 16 = .ok (.aload_n 0, 1) := by decide +kernel
theorem dX0_beLike_17 : decode cX0_beLike 17 = .ok (.aload_n 1, 1) := by decide +kernel
theorem dX0_beLike_18 : decode cX0_beLike 18 = .ok (.getfield 16, 3) := by decide +kernel
theorem dX0_beLike_21 : decode cX0_beLike 21 = .ok (.putfield 16, 3) := by decide +kernel
theorem dX0_beLike_24 : decode cX0_beLike 24 = .ok (.return_, 1) := by decide +kernel
theorem dX1_init_0 : decode cX1_init 0 = .ok (.aload_n 0, 1) := by decide +kernel
theorem dX1_init_1 : decode cX1_init 1 = .ok (.invokespecial 3, 3) := by decide +kernel
theorem dX1_init_4 : decode cX1_init 4 = .ok (.aload_n 0, 1) := by decide +kernel
theorem dX1_init_5 : decode cX1_init 5 = .ok (.bipush 99, 2) := by decide +kernel
theorem dX1_init_7 : decode cX1_init 7 = .ok (.newarray .int, 2) := by decide +kernel
theorem dX1_init_9 : decode cX1_init 9 = .ok (.putfield 9, 3) := by decide +kernel
theorem dX1_init_12 : decode cX1_init 12 = .ok (.aload_n 0, 1) := by decide +kernel
theorem dX1_init_13 : decode cX1_init 13 = .ok (.aload_n 1, 1) := by decide +kernel
theorem dX1_init_14 : decode cX1_init 14 = .ok (.putfield 15, 3) := by decide +kernel
theorem dX1_init_17 : decode cX1_init 17 = .ok (.return_, 1) := by decide +kernel
theorem dX1_partsBehind_0 : decode cX1_partsBehind 0 = .ok (.aload_n 1, 1) := by decide +kernel
theorem dX1_partsBehind_1 : decode cX1_partsBehind 1 = .ok (.getfield 19, 3) := by decide +kernel
theorem dX1_partsBehind_4 : decode cX1_partsBehind 4 = .ok (.istore_n 3, 1) := by decide +kernel
theorem dX1_partsBehind_5 : decode cX1_partsBehind 5 = .ok (.iconst 0, 1) := by decide +kernel
theorem dX1_partsBehind_6 : decode cX1_partsBehind 6 = .ok (.istore 4, 2) := by decide +kernel
theorem dX1_partsBehind_8 : decode cX1_partsBehind 8 = .ok (.iload 4, 2) := by decide +kernel
theorem dX1_partsBehind_10 : decode cX1_partsBehind 10 = .ok (.iload_n 2, 1) := by decide +kernel
theorem dX1_partsBehind_11 : decode cX1_partsBehind 11 = .ok (.if_icmp .ge 48, 3) := by decide +kernel
theorem dX1_partsBehind_14 : decode cX1_partsBehind 14 = .ok (.iload_n 3, 1) := by decide +kernel
theorem dX1_partsBehind_15 : decode cX1_partsBehind 15 = .ok (.ifCond .le 44, 3) := by decide +kernel
theorem dX1_partsBehind_18 : decode cX1_partsBehind 18 = .ok (.aload_n 0, 1) := by decide +kernel
theorem dX1_partsBehind_19 : decode cX1_partsBehind 19 = .ok (.getfield 15, 3) := by decide +kernel
theorem dX1_partsBehind_22 : decode cX1_partsBehind 22 = .ok (.aload_n 0, 1) := by decide +kernel
theorem dX1_partsBehind_23 : decode cX1_partsBehind 23 = .ok (.getfield 15, 3) := by decide +kernel
theorem dX1_partsBehind_26 : decode cX1_partsBehind 26 = .ok (.getfield 25, 3) := by decide +kernel
theorem dX1_partsBehind_29 : decode cX1_partsBehind 29 = .ok (.iload 4, 2) := by decide +kernel
theorem dX1_partsBehind_31 : decode cX1_partsBehind 31 = .ok (.iadd, 1) := by decide +kernel
theorem dX1_partsBehind_32 : decode cX1_partsBehind 32 = .ok (.invokevirtual 30, 3) := by decide +kernel
theorem dX1_partsBehind_35 : decode cX1_partsBehind 35 = .ok (.istore 5, 2) := by decide +kernel
theorem dX1_partsBehind_37 : decode cX1_partsBehind 37 = .ok (.aload_n 0, 1) := by decide +kernel
theorem dX1_partsBehind_38 : decode cX1_partsBehind 38 = .ok (.getfield 15, 3) := by decide +kernel
theorem dX1_partsBehind_41 : decode cX1_partsBehind 41 = .ok (.aload_n 1, 1) := by decide +kernel
theorem dX1_partsBehind_42 : decode cX1_partsBehind 42 = .ok (.iload_n 3, 1) := by decide +kernel
theorem dX1_partsBehind_43 : decode cX1_partsBehind 43 = .ok (.aload_n 1, 1) := by decide +kernel
theorem dX1_partsBehind_44 : decode cX1_partsBehind 44 = .ok (.getfield 34, 3) := by decide +kernel
theorem dX1_partsBehind_47 : decode cX1_partsBehind 47 = .ok (.iload 5, 2) := by decide +kernel
theorem dX1_partsBehind_49 : decode cX1_partsBehind 49 = .ok (.invokevirtual 37, 3) := by decide +kernel
theorem dX1_partsBehind_52 : decode cX1_partsBehind 52 = .ok (.istore_n 3, 1) := by decide +kernel
theorem dX1_partsBehind_53 : decode cX1_partsBehind 53 = .ok (.iinc 4 1, 3) := by decide +kernel
theorem dX1_partsBehind_56 : decode cX1_partsBehind 56 = .ok (.goto (-48), 3) := by decide +kernel
theorem dX1_partsBehind_59 : decode cX1_partsBehind 59 = .ok (.iload_n 3, 1) := by decide +kernel
theorem dX1_partsBehind_60 : decode cX1_partsBehind 60 = .ok (.ireturn, 1) := by decide +kernel
theorem dX1_soonestDone_0 : decode cX1_soonestDone 0 = .ok (.aload_n 1, 1) := by decide +kernel
theorem dX1_soonestDone_1 : decode cX1_soonestDone 1 = .ok (.getfield 19, 3) := by decide +kernel
theorem dX1_soonestDone_4 : decode cX1_soonestDone 4 = .ok (.istore_n 2, 1) := by decide +kernel
theorem dX1_soonestDone_5 : decode cX1_soonestDone 5 = .ok (.iconst 0, 1) := by decide +kernel
theorem dX1_soonestDone_6 : decode cX1_soonestDone 6 = .ok (.istore_n 3, 1) := by decide +kernel
theorem dX1_soonestDone_7 : decode cX1_soonestDone 7 = .ok (.iload_n 3, 1) := by decide +kernel
theorem dX1_soonestDone_8 : decode cX1_soonestDone 8 = .ok (.sipush 200, 3) := by decide +kernel
theorem dX1_soonestDone_11 : decode cX1_soonestDone 11 = .ok (.if_icmp .ge 55, 3) := by decide +kernel
theorem dX1_soonestDone_14 : decode cX1_soonestDone 14 = .ok (.iload_n 2, 1) := by decide +kernel
theorem dX1_soonestDone_15 : decode cX1_soonestDone 15 = .ok (.ifCond .le 51, 3) := by decide +kernel
theorem dX1_soonestDone_18 : decode cX1_soonestDone 18 = .ok (.aload_n 0, 1) := by decide +kernel
theorem dX1_soonestDone_19 : decode cX1_soonestDone 19 = .ok (.getfield 15, 3) := by decide +kernel
theorem dX1_soonestDone_22 : decode cX1_soonestDone 22 = .ok (.aload_n 0, 1) := by decide +kernel
theorem dX1_soonestDone_23 : decode cX1_soonestDone 23 = .ok (.getfield 15, 3) := by decide +kernel
theorem dX1_soonestDone_26 : decode cX1_soonestDone 26 = .ok (.getfield 25, 3) := by decide +kernel
theorem dX1_soonestDone_29 : decode cX1_soonestDone 29 = .ok (.iload_n 3, 1) := by decide +kernel
theorem dX1_soonestDone_30 : decode cX1_soonestDone 30 = .ok (.iadd, 1) := by decide +kernel
theorem dX1_soonestDone_31 : decode cX1_soonestDone 31 = .ok (.invokevirtual 30, 3) := by decide +kernel
theorem dX1_soonestDone_34 : decode cX1_soonestDone 34 = .ok (.istore 4, 2) := by decide +kernel
theorem dX1_soonestDone_36 : decode cX1_soonestDone 36 = .ok (.aload_n 0, 1) := by decide +kernel
theorem dX1_soonestDone_37 : decode cX1_soonestDone 37 = .ok (.getfield 15, 3) := by decide +kernel
theorem dX1_soonestDone_40 : decode cX1_soonestDone 40 = .ok (.aload_n 1, 1) := by decide +kernel
theorem dX1_soonestDone_41 : decode cX1_soonestDone 41 = .ok (.iload_n 2, 1) := by decide +kernel
theorem dX1_soonestDone_42 : decode cX1_soonestDone 42 = .ok (.aload_n 1, 1) := by decide +kernel
theorem dX1_soonestDone_43 : decode cX1_soonestDone 43 = .ok (.getfield 34, 3) := by decide +kernel
theorem dX1_soonestDone_46 : decode cX1_soonestDone 46 = .ok (.iload 4, 2) := by decide +kernel
theorem dX1_soonestDone_48 : decode cX1_soonestDone 48 = .ok (.invokevirtual 37, 3) := by decide +kernel
theorem dX1_soonestDone_51 : decode cX1_soonestDone 51 = .ok (.istore_n 2, 1) := by decide +kernel
theorem dX1_soonestDone_52 : decode cX1_soonestDone 52 = .ok (.iload_n 2, 1) := by decide +kernel
theorem dX1_soonestDone_53 : decode cX1_soonestDone 53 = .ok (.ifCond .ne 7, 3) := by decide +kernel
theorem dX1_soonestDone_56 : decode cX1_soonestDone 56 = .ok (.iload_n 3, 1) := by decide +kernel
theorem dX1_soonestDone_57 : decode cX1_soonestDone 57 = .ok (.iconst 1, 1) := by decide +kernel
theorem dX1_soonestDone_58 : decode cX1_soonestDone 58 = .ok (.iadd, 1) := by decide +kernel
theorem dX1_soonestDone_59 : decode cX1_soonestDone 59 = .ok (.ireturn, 1) := by decide +kernel
theorem dX1_soonestDone_60 : decode cX1_soonestDone 60 = .ok (.iinc 3 1, 3) := by decide +kernel
theorem dX1_soonestDone_63 : decode cX1_soonestDone 63 = .ok (.goto (-56), 3) := by decide +kernel
theorem dX1_soonestDone_66 : decode cX1_soonestDone 66 = .ok (.iload_n 2, 1) := by decide +kernel
theorem dX1_soonestDone_67 : decode cX1_soonestDone 67 = .ok (.ifCond .ne 7, 3) := by decide +kernel
theorem dX1_soonestDone_70 : decode cX1_soonestDone 70 = .ok (.iconst 0, 1) := by decide +kernel
theorem dX1_soonestDone_71 : decode cX1_soonestDone 71 = .ok (.goto 4, 3) := by decide +kernel
theorem dX1_soonestDone_74 : decode cX1_soonestDone 74 = .ok (.iconst (-1), 1) := by decide +kernel
theorem dX1_soonestDone_75 : decode cX1_soonestDone 75 = .ok (.ireturn, 1) := by decide +kernel
theorem dX1_lookAhead_0 : decode cX1_lookAhead 0 = .ok (.iconst 0, 1) := by decide +kernel
theorem dX1_lookAhead_1 : decode cX1_lookAhead 1 = .ok (.istore_n 2, 1) := by decide +kernel
theorem dX1_lookAhead_2 : decode cX1_lookAhead 2 = .ok (.iload_n 2, 1) := by decide +kernel
theorem dX1_lookAhead_3 : decode cX1_lookAhead 3 = .ok (.iload_n 1, 1) := by decide +kernel
theorem dX1_lookAhead_4 : decode cX1_lookAhead 4 = .ok (.if_icmp .ge 37, 3) := by decide +kernel
theorem dX1_lookAhead_7 : decode cX1_lookAhead 7 = .ok (.iload_n 2, 1) := by decide +kernel
theorem dX1_lookAhead_8 : decode cX1_lookAhead 8 = .ok (.bipush 99, 2) := by decide +kernel
theorem dX1_lookAhead_10 : decode cX1_lookAhead 10 = .ok (.if_icmp .ge 31, 3) := by decide +kernel
theorem dX1_lookAhead_13 : decode cX1_lookAhead 13 = .ok (.aload_n 0, 1) := by decide +kernel
theorem dX1_lookAhead_14 : decode cX1_lookAhead 14 = .ok (.getfield 9, 3) := by decide +kernel
theorem dX1_lookAhead_17 : decode cX1_lookAhead 17 = .ok (.iload_n 2, 1) := by decide +kernel
theorem dX1_lookAhead_18 : decode cX1_lookAhead 18 = .ok (.aload_n 0, 1) := by decide +kernel
theorem dX1_lookAhead_19 : decode cX1_lookAhead 19 = .ok (.getfield 15, 3) := by decide +kernel
theorem dX1_lookAhead_22 : decode cX1_lookAhead 22 = .ok (.aload_n 0, 1) := by decide +kernel
theorem dX1_lookAhead_23 : decode cX1_lookAhead 23 = .ok (.getfield 15, 3) := by decide +kernel
theorem dX1_lookAhead_26 : decode cX1_lookAhead 26 = .ok (.getfield 25, 3) := by decide +kernel
theorem dX1_lookAhead_29 : decode cX1_lookAhead 29 = .ok (.iload_n 2, 1) := by decide +kernel
theorem dX1_lookAhead_30 : decode cX1_lookAhead 30 = .ok (.iadd, 1) := by decide +kernel
theorem dX1_lookAhead_31 : decode cX1_lookAhead 31 = .ok (.invokevirtual 30, 3) := by decide +kernel
theorem dX1_lookAhead_34 : decode cX1_lookAhead 34 = .ok (.iastore, 1) := by decide +kernel
theorem dX1_lookAhead_35 : decode cX1_lookAhead 35 = .ok (.iinc 2 1, 3) := by decide +kernel
theorem dX1_lookAhead_38 : decode cX1_lookAhead 38 = .ok (.goto (-36), 3) := by decide +kernel
theorem dX1_lookAhead_41 : decode cX1_lookAhead 41 = .ok (.return_, 1) := by decide +kernel
theorem dX1_doneBehind_0 : decode cX1_doneBehind 0 = .ok (.aload_n 1, 1) := by decide +kernel
theorem dX1_doneBehind_1 : decode cX1_doneBehind 1 = .ok (.getfield 19, 3) := by decide +kernel
theorem dX1_doneBehind_4 : decode cX1_doneBehind 4 = .ok (.istore 4, 2) := by decide +kernel
theorem dX1_doneBehind_6 : decode cX1_doneBehind 6 = .ok (.iconst 0, 1) := by decide +kernel
theorem dX1_doneBehind_7 : decode cX1_doneBehind 7 = .ok (.istore 5, 2) := by decide +kernel
theorem dX1_doneBehind_9 : decode cX1_doneBehind 9 = .ok (.iload 5, 2) := by decide +kernel
theorem dX1_doneBehind_11 : decode cX1_doneBehind 11 = .ok (.iload_n 3, 1) := by decide +kernel
theorem dX1_doneBehind_12 : decode cX1_doneBehind 12 = .ok (.if_icmp .ge 51, 3) := by decide +kernel
theorem dX1_doneBehind_15 : decode cX1_doneBehind 15 = .ok (.iload 5, 2) := by decide +kernel
theorem dX1_doneBehind_17 : decode cX1_doneBehind 17 = .ok (.bipush 99, 2) := by decide +kernel
theorem dX1_doneBehind_19 : decode cX1_doneBehind 19 = .ok (.if_icmp .ge 44, 3) := by decide +kernel
theorem dX1_doneBehind_22 : decode cX1_doneBehind 22 = .ok (.iload 4, 2) := by decide +kernel
theorem dX1_doneBehind_24 : decode cX1_doneBehind 24 = .ok (.ifCond .le 39, 3) := by decide +kernel
theorem dX1_doneBehind_27 : decode cX1_doneBehind 27 = .ok (.aload_n 0, 1) := by decide +kernel
theorem dX1_doneBehind_28 : decode cX1_doneBehind 28 = .ok (.getfield 15, 3) := by decide +kernel
theorem dX1_doneBehind_31 : decode cX1_doneBehind 31 = .ok (.aload_n 1, 1) := by decide +kernel
theorem dX1_doneBehind_32 : decode cX1_doneBehind 32 = .ok (.iload 4, 2) := by decide +kernel
theorem dX1_doneBehind_34 : decode cX1_doneBehind 34 = .ok (.iload_n 2, 1) := by decide +kernel
theorem dX1_doneBehind_35 : decode cX1_doneBehind 35 = .ok (.aload_n 0, 1) := by decide +kernel
theorem dX1_doneBehind_36 : decode cX1_doneBehind 36 = .ok (.getfield 9, 3) := by decide +kernel
theorem dX1_doneBehind_39 : decode cX1_doneBehind 39 = .ok (.iload 5, 2) := by decide +kernel
theorem dX1_doneBehind_41 : decode cX1_doneBehind 41 = .ok (.iaload, 1) := by decide +kernel
theorem dX1_doneBehind_42 : decode cX1_doneBehind 42 = .ok (.invokevirtual 37, 3) := by decide +kernel
theorem dX1_doneBehind_45 : decode cX1_doneBehind 45 = .ok (.istore 4, 2) := by decide +kernel
theorem dX1_doneBehind_47 : decode cX1_doneBehind 47 = .ok (.iload 4, 2) := by decide +kernel
theorem dX1_doneBehind_49 : decode cX1_doneBehind 49 = .ok (.ifCond .ne 8, 3) := by decide +kernel
theorem dX1_doneBehind_52 : decode cX1_doneBehind 52 = .ok (.iload 5, 2) := by decide +kernel
theorem dX1_doneBehind_54 : decode cX1_doneBehind 54 = .ok (.iconst 1, 1) := by decide +kernel
theorem dX1_doneBehind_55 : decode cX1_doneBehind 55 = .ok (.iadd, 1) := by decide +kernel
theorem dX1_doneBehind_56 : decode cX1_doneBehind 56 = .ok (.ireturn, 1) := by decide +kernel
theorem dX1_doneBehind_57 : decode cX1_doneBehind 57 = .ok (.iinc 5 1, 3) := by decide +kernel
theorem dX1_doneBehind_60 : decode cX1_doneBehind 60 = .ok (.goto (-51), 3) := by decide +kernel
theorem dX1_doneBehind_63 : decode cX1_doneBehind 63 = .ok (.iload 4, 2) := by decide +kernel
theorem dX1_doneBehind_65 : decode cX1_doneBehind 65 = .ok (.ifCond .ne 7, 3) := by decide +kernel
theorem dX1_doneBehind_68 : decode cX1_doneBehind 68 = .ok (.iconst 0, 1) := by decide +kernel
theorem dX1_doneBehind_69 : decode cX1_doneBehind 69 = .ok (.goto 4, 3) := by decide +kernel
theorem dX1_doneBehind_72 : decode cX1_doneBehind 72 = .ok (.iconst (-1), 1) := by decide +kernel
theorem dX1_doneBehind_73 : decode cX1_doneBehind 73 = .ok (.ireturn, 1) := by decide +kernel
theorem dX1_firstMoment_0 : decode cX1_firstMoment 0 = .ok (.iconst 0, 1) := by decide +kernel
theorem dX1_firstMoment_1 : decode cX1_firstMoment 1 = .ok (.istore_n 2, 1) := by decide +kernel
theorem dX1_firstMoment_2 : decode cX1_firstMoment 2 = .ok (.iload_n 2, 1) := by decide +kernel
theorem dX1_firstMoment_3 : decode cX1_firstMoment 3 = .ok (.sipush 400, 3) := by decide +kernel
theorem dX1_firstMoment_6 : decode cX1_firstMoment 6 = .ok (.if_icmp .gt 31, 3) := by decide +kernel
theorem dX1_firstMoment_9 : decode cX1_firstMoment 9 = .ok (.aload_n 0, 1) := by decide +kernel
theorem dX1_firstMoment_10 : decode cX1_firstMoment 10 = .ok (.getfield 15, 3) := by decide +kernel
theorem dX1_firstMoment_13 : decode cX1_firstMoment 13 = .ok (.iload_n 1, 1) := by decide +kernel
theorem dX1_firstMoment_14 : decode cX1_firstMoment 14 = .ok (.aload_n 0, 1) := by decide +kernel
theorem dX1_firstMoment_15 : decode cX1_firstMoment 15 = .ok (.getfield 15, 3) := by decide +kernel
theorem dX1_firstMoment_18 : decode cX1_firstMoment 18 = .ok (.getfield 25, 3) := by decide +kernel
theorem dX1_firstMoment_21 : decode cX1_firstMoment 21 = .ok (.iload_n 2, 1) := by decide +kernel
theorem dX1_firstMoment_22 : decode cX1_firstMoment 22 = .ok (.iadd, 1) := by decide +kernel
theorem dX1_firstMoment_23 : decode cX1_firstMoment 23 = .ok (.invokevirtual 41, 3) := by decide +kernel
theorem dX1_firstMoment_26 : decode cX1_firstMoment 26 = .ok (.ifCond .eq 5, 3) := by decide +kernel
theorem dX1_firstMoment_29 : decode cX1_firstMoment 29 = .ok (.iload_n 2, 1) := by decide +kernel
theorem dX1_firstMoment_30 : decode cX1_firstMoment 30 = .ok (.ireturn, 1) := by decide +kernel
theorem dX1_firstMoment_31 : decode cX1_firstMoment 31 = .ok (.iinc 2 1, 3) := by decide +kernel
theorem dX1_firstMoment_34 : decode cX1_firstMoment 34 = .ok (.goto (-32), 3) := by decide +kernel
theorem dX1_firstMoment_37 : decode cX1_firstMoment 37 = .ok (.iconst (-1), 1) := by decide +kernel
theorem dX1_firstMoment_38 : decode cX1_firstMoment 38 = .ok (.ireturn, 1) := by decide +kernel
theorem dX1_momentsAmong_0 : decode cX1_momentsAmong 0 = .ok (.iconst 0, 1) := by decide +kernel
theorem dX1_momentsAmong_1 : decode cX1_momentsAmong 1 = .ok (.istore_n 3, 1) := by decide +kernel
theorem dX1_momentsAmong_2 : decode cX1_momentsAmong 2 = .ok (.iconst 0, 1) := by decide +kernel
theorem dX1_momentsAmong_3 : decode cX1_momentsAmong 3 = .ok (.istore 4, 2) := by decide +kernel
theorem dX1_momentsAmong_5 : decode cX1_momentsAmong 5 = .ok (.iload 4, 2) := by decide +kernel
theorem dX1_momentsAmong_7 : decode cX1_momentsAmong 7 = .ok (.iload_n 2, 1) := by decide +kernel
theorem dX1_momentsAmong_8 : decode cX1_momentsAmong 8 = .ok (.if_icmp .ge 33, 3) := by decide +kernel
theorem dX1_momentsAmong_11 : decode cX1_momentsAmong 11 = .ok (.aload_n 0, 1) := by decide +kernel
theorem dX1_momentsAmong_12 : decode cX1_momentsAmong 12 = .ok (.getfield 15, 3) := by decide +kernel
theorem dX1_momentsAmong_15 : decode cX1_momentsAmong 15 = .ok (.iload_n 1, 1) := by decide +kernel
theorem dX1_momentsAmong_16 : decode cX1_momentsAmong 16 = .ok (.aload_n 0, 1) := by decide +kernel
theorem dX1_momentsAmong_17 : decode cX1_momentsAmong 17 = .ok (.getfield 15, 3) := by decide +kernel
theorem dX1_momentsAmong_20 : decode cX1_momentsAmong 20 = .ok (.getfield 25, 3) := by decide +kernel
theorem dX1_momentsAmong_23 : decode cX1_momentsAmong 23 = .ok (.iload 4, 2) := by decide +kernel
theorem dX1_momentsAmong_25 : decode cX1_momentsAmong 25 = .ok (.iadd, 1) := by decide +kernel
theorem dX1_momentsAmong_26 : decode cX1_momentsAmong 26 = .ok (.invokevirtual 41, 3) := by decide +kernel
theorem dX1_momentsAmong_29 : decode cX1_momentsAmong 29 = .ok (.ifCond .eq 6, 3) := by decide +kernel
theorem dX1_momentsAmong_32 : decode cX1_momentsAmong 32 = .ok (.iinc 3 1, 3) := by decide +kernel
theorem dX1_momentsAmong_35 : decode cX1_momentsAmong 35 = .ok (.iinc 4 1, 3) := by decide +kernel
theorem dX1_momentsAmong_38 : decode cX1_momentsAmong 38 = .ok (.goto (-33), 3) := by decide +kernel
theorem dX1_momentsAmong_41 : decode cX1_momentsAmong 41 = .ok (.iload_n 3, 1) := by decide +kernel
theorem dX1_momentsAmong_42 : decode cX1_momentsAmong 42 = .ok (.ireturn, 1) := by decide +kernel
theorem dX1_fewestAway_0 : decode cX1_fewestAway 0 = .ok (.aload_n 0, 1) := by decide +kernel
theorem dX1_fewestAway_1 : decode cX1_fewestAway 1 = .ok (.iload_n 2, 1) := by decide +kernel
theorem dX1_fewestAway_2 : decode cX1_fewestAway 2 = .ok (.invokevirtual 45, 3) := by decide +kernel
theorem dX1_fewestAway_5 : decode cX1_fewestAway 5 = .ok (.iconst (-1), 1) := by decide +kernel
theorem dX1_fewestAway_6 : decode cX1_fewestAway 6 = .ok (.istore_n 3, 1) := by decide +kernel
theorem dX1_fewestAway_7 : decode cX1_fewestAway 7 = .ok (.iconst 0, 1) := by decide +kernel
theorem dX1_fewestAway_8 : decode cX1_fewestAway 8 = .ok (.istore 4, 2) := by decide +kernel
theorem dX1_fewestAway_10 : decode cX1_fewestAway 10 = .ok (.iload 4, 2) := by decide +kernel
theorem dX1_fewestAway_12 : decode cX1_fewestAway 12 = .ok (.aload_n 1, 1) := by decide +kernel
theorem dX1_fewestAway_13 : decode cX1_fewestAway 13 = .ok (.getfield 34, 3) := by decide +kernel
theorem dX1_fewestAway_16 : decode cX1_fewestAway 16 = .ok (.if_icmp .gt 70, 3) := by decide +kernel
theorem dX1_fewestAway_19 : decode cX1_fewestAway 19 = .ok (.iload_n 3, 1) := by decide +kernel
theorem dX1_fewestAway_20 : decode cX1_fewestAway 20 = .ok (.ifCond .lt 15, 3) := by decide +kernel
theorem dX1_fewestAway_23 : decode cX1_fewestAway 23 = .ok (.iload 4, 2) := by decide +kernel
theorem dX1_fewestAway_25 : decode cX1_fewestAway 25 = .ok (.invokestatic 49, 3) := by decide +kernel
theorem dX1_fewestAway_28 : decode cX1_fewestAway 28 = .ok (.iload_n 3, 1) := by decide +kernel
theorem dX1_fewestAway_29 : decode cX1_fewestAway 29 = .ok (.invokestatic 49, 3) := by decide +kernel
theorem dX1_fewestAway_32 : decode cX1_fewestAway 32 = .ok (.if_icmp .ge 7, 3) := by decide +kernel
theorem dX1_fewestAway_35 : decode cX1_fewestAway 35 = .ok (.iconst 1, 1) := by decide +kernel
theorem dX1_fewestAway_36 : decode cX1_fewestAway 36 = .ok (.goto 4, 3) := by decide +kernel
theorem dX1_fewestAway_39 : decode cX1_fewestAway 39 = .ok (.iconst 0, 1) := by decide +kernel
theorem dX1_fewestAway_40 : decode cX1_fewestAway 40 = .ok (.istore 5, 2) := by decide +kernel
theorem dX1_fewestAway_42 : decode cX1_fewestAway 42 = .ok (.iload 4, 2) := by decide +kernel
theorem dX1_fewestAway_44 : decode cX1_fewestAway 44 = .ok (.aload_n 1, 1) := by decide +kernel
theorem dX1_fewestAway_45 : decode cX1_fewestAway 45 = .ok (.getfield 34, 3) := by decide +kernel
theorem dX1_fewestAway_48 : decode cX1_fewestAway 48 = .ok (.iconst (-1), 1) := by decide +kernel
theorem dX1_fewestAway_49 : decode cX1_fewestAway 49 = .ok (.ixor, 1) := by decide +kernel
theorem dX1_fewestAway_50 : decode cX1_fewestAway 50 = .ok (.iand, 1) := by decide +kernel
theorem dX1_fewestAway_51 : decode cX1_fewestAway 51 = .ok (.ifCond .ne 29, 3) := by decide +kernel
theorem dX1_fewestAway_54 : decode cX1_fewestAway 54 = .ok (.iload 5, 2) := by decide +kernel
theorem dX1_fewestAway_56 : decode cX1_fewestAway 56 = .ok (.ifCond .eq 24, 3) := by decide +kernel
theorem dX1_fewestAway_59 : decode cX1_fewestAway 59 = .ok (.aload_n 0, 1) := by decide +kernel
theorem dX1_fewestAway_60 : decode cX1_fewestAway 60 = .ok (.aload_n 1, 1) := by decide +kernel
theorem dX1_fewestAway_61 : decode cX1_fewestAway 61 = .ok (.aload_n 1, 1) := by decide +kernel
theorem dX1_fewestAway_62 : decode cX1_fewestAway 62 = .ok (.getfield 34, 3) := by decide +kernel
theorem dX1_fewestAway_65 : decode cX1_fewestAway 65 = .ok (.iload 4, 2) := by decide +kernel
theorem dX1_fewestAway_67 : decode cX1_fewestAway 67 = .ok (.iconst (-1), 1) := by decide +kernel
theorem dX1_fewestAway_68 : decode cX1_fewestAway 68 = .ok (.ixor, 1) := by decide +kernel
theorem dX1_fewestAway_69 : decode cX1_fewestAway 69 = .ok (.iand, 1) := by decide +kernel
theorem dX1_fewestAway_70 : decode cX1_fewestAway 70 = .ok (.iload_n 2, 1) := by decide +kernel
theorem dX1_fewestAway_71 : decode cX1_fewestAway 71 = .ok (.invokevirtual 54, 3) := by decide +kernel
theorem dX1_fewestAway_74 : decode cX1_fewestAway 74 = .ok (.ifCond .lt 6, 3) := by decide +kernel
theorem dX1_fewestAway_77 : decode cX1_fewestAway 77 = .ok (.iload 4, 2) := by decide +kernel
theorem dX1_fewestAway_79 : decode cX1_fewestAway 79 = .ok (.istore_n 3, 1) := by decide +kernel
theorem dX1_fewestAway_80 : decode cX1_fewestAway 80 = .ok (.iinc 4 1, 3) := by decide +kernel
theorem dX1_fewestAway_83 : decode cX1_fewestAway 83 = .ok (.goto (-73), 3) := by decide +kernel
theorem dX1_fewestAway_86 : decode cX1_fewestAway 86 = .ok (.iload_n 3, 1) := by decide +kernel
theorem dX1_fewestAway_87 : decode cX1_fewestAway 87 = .ok (.ireturn, 1) := by decide +kernel
theorem dX1_findPhase_0 : decode cX1_findPhase 0 = .ok (.iconst 0, 1) := by decide +kernel
theorem dX1_findPhase_1 : decode cX1_findPhase 1 = .ok (.istore_n 3, 1) := by decide +kernel
theorem dX1_findPhase_2 : decode cX1_findPhase 2 = .ok (.aload_n 0, 1) := by decide +kernel
theorem dX1_findPhase_3 : decode cX1_findPhase 3 = .ok (.getfield 15, 3) := by decide +kernel
theorem dX1_findPhase_6 : decode cX1_findPhase 6 = .ok (.iload_n 1, 1) := by decide +kernel
theorem dX1_findPhase_7 : decode cX1_findPhase 7 = .ok (.invokevirtual 58, 3) := by decide +kernel
theorem dX1_findPhase_10 : decode cX1_findPhase 10 = .ok (.ifCond .eq 18, 3) := by decide +kernel
theorem dX1_findPhase_13 : decode cX1_findPhase 13 = .ok (.aload_n 0, 1) := by decide +kernel
theorem dX1_findPhase_14 : decode cX1_findPhase 14 = .ok (.getfield 15, 3) := by decide +kernel
theorem dX1_findPhase_17 : decode cX1_findPhase 17 = .ok (.getfield 62, 3) := by decide +kernel
theorem dX1_findPhase_20 : decode cX1_findPhase 20 = .ok (.iload_n 1, 1) := by decide +kernel
theorem dX1_findPhase_21 : decode cX1_findPhase 21 = .ok (.aaload, 1) := by decide +kernel
theorem dX1_findPhase_22 : decode cX1_findPhase 22 = .ok (.getfield 66, 3) := by decide +kernel
theorem dX1_findPhase_25 : decode cX1_findPhase 25 = .ok (.goto 4, 3) := by decide +kernel
theorem dX1_findPhase_28 : decode cX1_findPhase 28 = .ok (.iconst 0, 1) := by decide +kernel
theorem dX1_findPhase_29 : decode cX1_findPhase 29 = .ok (.istore 4, 2) := by decide +kernel
theorem dX1_findPhase_31 : decode cX1_findPhase 31 = .ok (.aload_n 0, 1) := by decide +kernel
theorem dX1_findPhase_32 : decode cX1_findPhase 32 = .ok (.bipush 99, 2) := by decide +kernel
theorem dX1_findPhase_34 : decode cX1_findPhase 34 = .ok (.invokevirtual 45, 3) := by decide +kernel
theorem dX1_findPhase_37 : decode cX1_findPhase 37 = .ok (.iconst 0, 1) := by decide +kernel
theorem dX1_findPhase_38 : decode cX1_findPhase 38 = .ok (.istore 5, 2) := by decide +kernel
theorem dX1_findPhase_40 : decode cX1_findPhase 40 = .ok (.iload 5, 2) := by decide +kernel
theorem dX1_findPhase_42 : decode cX1_findPhase 42 = .ok (.iload 4, 2) := by decide +kernel
theorem dX1_findPhase_44 : decode cX1_findPhase 44 = .ok (.if_icmp .ge 63, 3) := by decide +kernel
theorem dX1_findPhase_47 : decode cX1_findPhase 47 = .ok (.aload_n 0, 1) := by decide +kernel
theorem dX1_findPhase_48 : decode cX1_findPhase 48 = .ok (.iload_n 1, 1) := by decide +kernel
theorem dX1_findPhase_49 : decode cX1_findPhase 49 = .ok (.iload 4, 2) := by decide +kernel
theorem dX1_findPhase_51 : decode cX1_findPhase 51 = .ok (.iload 5, 2) := by decide +kernel
theorem dX1_findPhase_53 : decode cX1_findPhase 53 = .ok (.invokevirtual 71, 3) := by decide +kernel
theorem dX1_findPhase_56 : decode cX1_findPhase 56 = .ok (.aload_n 0, 1) := by decide +kernel
theorem dX1_findPhase_57 : decode cX1_findPhase 57 = .ok (.aload_n 2, 1) := by decide +kernel
theorem dX1_findPhase_58 : decode cX1_findPhase 58 = .ok (.aload_n 2, 1) := by decide +kernel
theorem dX1_findPhase_59 : decode cX1_findPhase 59 = .ok (.getfield 34, 3) := by decide +kernel
theorem dX1_findPhase_62 : decode cX1_findPhase 62 = .ok (.bipush 99, 2) := by decide +kernel
theorem dX1_findPhase_64 : decode cX1_findPhase 64 = .ok (.invokevirtual 54, 3) := by decide +kernel
theorem dX1_findPhase_67 : decode cX1_findPhase 67 = .ok (.istore 6, 2) := by decide +kernel
theorem dX1_findPhase_69 : decode cX1_findPhase 69 = .ok (.iload 6, 2) := by decide +kernel
theorem dX1_findPhase_71 : decode cX1_findPhase 71 = .ok (.ifCond .lt 30, 3) := by decide +kernel
theorem dX1_findPhase_74 : decode cX1_findPhase 74 = .ok (.iload_n 3, 1) := by decide +kernel
theorem dX1_findPhase_75 : decode cX1_findPhase 75 = .ok (.ifCond .eq 12, 3) := by decide +kernel
theorem dX1_findPhase_78 : decode cX1_findPhase 78 = .ok (.iload 6, 2) := by decide +kernel
theorem dX1_findPhase_80 : decode cX1_findPhase 80 = .ok (.aload_n 0, 1) := by decide +kernel
theorem dX1_findPhase_81 : decode cX1_findPhase 81 = .ok (.getfield 75, 3) := by decide +kernel
theorem dX1_findPhase_84 : decode cX1_findPhase 84 = .ok (.if_icmp .ge 17, 3) := by decide +kernel
theorem dX1_findPhase_87 : decode cX1_findPhase 87 = .ok (.iconst 1, 1) := by decide +kernel
theorem dX1_findPhase_88 : decode cX1_findPhase 88 = .ok (.istore_n 3, 1) := by decide +kernel
theorem dX1_findPhase_89 : decode cX1_findPhase 89 = .ok (.aload_n 0, 1) := by decide +kernel
theorem dX1_findPhase_90 : decode cX1_findPhase 90 = .ok (.iload 5, 2) := by decide +kernel
theorem dX1_findPhase_92 : decode cX1_findPhase 92 = .ok (.putfield 78, 3) := by decide +kernel
theorem dX1_findPhase_95 : decode cX1_findPhase 95 = .ok (.aload_n 0, 1) := by decide +kernel
theorem dX1_findPhase_96 : decode cX1_findPhase 96 = .ok (.iload 6, 2) := by decide +kernel
theorem dX1_findPhase_98 : decode cX1_findPhase 98 = .ok (.putfield 75, 3) := by decide +kernel
theorem dX1_findPhase_101 : decode cX1_findPhase 101 = .ok (.iinc 5 1, 3) := by decide +kernel
theorem dX1_findPhase_104 : decode cX1_findPhase 104 = .ok (.goto (-64), 3) := by decide +kernel
theorem dX1_findPhase_107 : decode cX1_findPhase 107 = .ok (.iload_n 3, 1) := by decide +kernel
theorem dX1_findPhase_108 : decode cX1_findPhase 108 = .ok (.ireturn, 1) := by decide +kernel
theorem dX1_tryPhase_0 : decode cX1_tryPhase 0 = .ok (.iconst 1, 1) := by decide +kernel
theorem dX1_tryPhase_1 : decode cX1_tryPhase 1 = .ok (.iload_n 1, 1) := by decide +kernel
theorem dX1_tryPhase_2 : decode cX1_tryPhase 2 = .ok (.ishl, 1) := by decide +kernel
theorem dX1_tryPhase_3 : decode cX1_tryPhase 3 = .ok (.istore 4, 2) := by decide +kernel
theorem dX1_tryPhase_5 : decode cX1_tryPhase 5 = .ok (.iconst 0, 1) := by decide +kernel
theorem dX1_tryPhase_6 : decode cX1_tryPhase 6 = .ok (.istore 5, 2) := by decide +kernel
theorem dX1_tryPhase_8 : decode cX1_tryPhase 8 = .ok (.iload 5, 2) := by decide +kernel
theorem dX1_tryPhase_10 : decode cX1_tryPhase 10 = .ok (.bipush 99, 2) := by decide +kernel
theorem dX1_tryPhase_12 : decode cX1_tryPhase 12 = .ok (.if_icmp .ge 68, 3) := by decide +kernel
theorem dX1_tryPhase_15 : decode cX1_tryPhase 15 = .ok (.aload_n 0, 1) := by decide +kernel
theorem dX1_tryPhase_16 : decode cX1_tryPhase 16 = .ok (.getfield 15, 3) := by decide +kernel
theorem dX1_tryPhase_19 : decode cX1_tryPhase 19 = .ok (.iload_n 1, 1) := by decide +kernel
theorem dX1_tryPhase_20 : decode cX1_tryPhase 20 = .ok (.aload_n 0, 1) := by decide +kernel
theorem dX1_tryPhase_21 : decode cX1_tryPhase 21 = .ok (.getfield 15, 3) := by decide +kernel
theorem dX1_tryPhase_24 : decode cX1_tryPhase 24 = .ok (.getfield 25, 3) := by decide +kernel
theorem dX1_tryPhase_27 : decode cX1_tryPhase 27 = .ok (.iload 5, 2) := by decide +kernel
theorem dX1_tryPhase_29 : decode cX1_tryPhase 29 = .ok (.iadd, 1) := by decide +kernel
theorem dX1_tryPhase_30 : decode cX1_tryPhase 30 = .ok (.iload_n 2, 1) := by decide +kernel
theorem dX1_tryPhase_31 : decode cX1_tryPhase 31 = .ok (.iload_n 3, 1) := by decide +kernel
theorem dX1_tryPhase_32 : decode cX1_tryPhase 32 = .ok (.invokevirtual 81, 3) := by decide +kernel
theorem dX1_tryPhase_35 : decode cX1_tryPhase 35 = .ok (.istore 6, 2) := by decide +kernel
theorem dX1_tryPhase_37 : decode cX1_tryPhase 37 = .ok (.aload_n 0, 1) := by decide +kernel
theorem dX1_tryPhase_38 : decode cX1_tryPhase 38 = .ok (.getfield 9, 3) := by decide +kernel
theorem dX1_tryPhase_41 : decode cX1_tryPhase 41 = .ok (.iload 5, 2) := by decide +kernel
theorem dX1_tryPhase_43 : decode cX1_tryPhase 43 = .ok (.iload 6, 2) := by decide +kernel
theorem dX1_tryPhase_45 : decode cX1_tryPhase 45 = .ok (.ifCond .eq 16, 3) := by decide +kernel
theorem dX1_tryPhase_48 : decode cX1_tryPhase 48 = .ok (.aload_n 0, 1) := by decide +kernel
theorem dX1_tryPhase_49 : decode cX1_tryPhase 49 = .ok (.getfield 9, 3) := by decide +kernel
theorem dX1_tryPhase_52 : decode cX1_tryPhase 52 = .ok (.iload 5, 2) := by decide +kernel
theorem dX1_tryPhase_54 : decode cX1_tryPhase 54 = .ok (.iaload, 1) := by decide +kernel
theorem dX1_tryPhase_55 : decode cX1_tryPhase 55 = .ok (.iload 4, 2) := by decide +kernel
theorem dX1_tryPhase_57 : decode cX1_tryPhase 57 = .ok (.ior, 1) := by decide +kernel
theorem dX1_tryPhase_58 : decode cX1_tryPhase 58 = .ok (.goto 15, 3) := by decide +kernel
theorem dX1_tryPhase_61 : decode cX1_tryPhase 61 = .ok (.aload_n 0, 1) := by decide +kernel
theorem dX1_tryPhase_62 : decode cX1_tryPhase 62 = .ok (.getfield 9, 3) := by decide +kernel
theorem dX1_tryPhase_65 : decode cX1_tryPhase 65 = .ok (.iload 5, 2) := by decide +kernel
theorem dX1_tryPhase_67 : decode cX1_tryPhase 67 = .ok (.iaload, 1) := by decide +kernel
theorem dX1_tryPhase_68 : decode cX1_tryPhase 68 = .ok (.iload 4, 2) := by decide +kernel
theorem dX1_tryPhase_70 : decode cX1_tryPhase 70 = .ok (.iconst (-1), 1) := by decide +kernel
theorem dX1_tryPhase_71 : decode cX1_tryPhase 71 = .ok (.ixor, 1) := by decide +kernel
theorem dX1_tryPhase_72 : decode cX1_tryPhase 72 = .ok (.iand, 1) := by decide +kernel
theorem dX1_tryPhase_73 : decode cX1_tryPhase 73 = .ok (.iastore, 1) := by decide +kernel
theorem dX1_tryPhase_74 : decode cX1_tryPhase 74 = .ok (.iinc 5 1, 3) := by decide +kernel
theorem dX1_tryPhase_77 : decode cX1_tryPhase 77 = .ok (.goto (-69), 3) := by decide +kernel
theorem dX1_tryPhase_80 : decode cX1_tryPhase 80 = .ok (.return_, 1) := by decide +kernel
theorem dX1_findFits_0 : decode cX1_findFits 0 = .ok (.aload_n 0, 1) := by decide +kernel
theorem dX1_findFits_1 : decode cX1_findFits 1 = .ok (.iconst 0, 1) := by decide +kernel
theorem dX1_findFits_2 : decode cX1_findFits 2 = .ok (.putfield 85, 3) := by decide +kernel
theorem dX1_findFits_5 : decode cX1_findFits 5 = .ok (.aload_n 0, 1) := by decide +kernel
theorem dX1_findFits_6 : decode cX1_findFits 6 = .ok (.iconst 0, 1) := by decide +kernel
theorem dX1_findFits_7 : decode cX1_findFits 7 = .ok (.putfield 88, 3) := by decide +kernel
theorem dX1_findFits_10 : decode cX1_findFits 10 = .ok (.iconst 1, 1) := by decide +kernel
theorem dX1_findFits_11 : decode cX1_findFits 11 = .ok (.istore_n 3, 1) := by decide +kernel
theorem dX1_findFits_12 : decode cX1_findFits 12 = .ok (.iload_n 3, 1) := by decide +kernel
theorem dX1_findFits_13 : decode cX1_findFits 13 = .ok (.bipush 12, 2) := by decide +kernel
theorem dX1_findFits_15 : decode cX1_findFits 15 = .ok (.if_icmp .gt 71, 3) := by decide +kernel
theorem dX1_findFits_18 : decode cX1_findFits 18 = .ok (.iconst 0, 1) := by decide +kernel
theorem dX1_findFits_19 : decode cX1_findFits 19 = .ok (.istore 4, 2) := by decide +kernel
theorem dX1_findFits_21 : decode cX1_findFits 21 = .ok (.iload 4, 2) := by decide +kernel
theorem dX1_findFits_23 : decode cX1_findFits 23 = .ok (.iload_n 3, 1) := by decide +kernel
theorem dX1_findFits_24 : decode cX1_findFits 24 = .ok (.if_icmp .ge 56, 3) := by decide +kernel
theorem dX1_findFits_27 : decode cX1_findFits 27 = .ok (.aload_n 0, 1) := by decide +kernel
theorem dX1_findFits_28 : decode cX1_findFits 28 = .ok (.iload_n 1, 1) := by decide +kernel
theorem dX1_findFits_29 : decode cX1_findFits 29 = .ok (.iload_n 3, 1) := by decide +kernel
theorem dX1_findFits_30 : decode cX1_findFits 30 = .ok (.iload 4, 2) := by decide +kernel
theorem dX1_findFits_32 : decode cX1_findFits 32 = .ok (.aload_n 2, 1) := by decide +kernel
theorem dX1_findFits_33 : decode cX1_findFits 33 = .ok (.invokevirtual 91, 3) := by decide +kernel
theorem dX1_findFits_36 : decode cX1_findFits 36 = .ok (.ifCond .eq 38, 3) := by decide +kernel
theorem dX1_findFits_39 : decode cX1_findFits 39 = .ok (.aload_n 0, 1) := by decide +kernel
theorem dX1_findFits_40 : decode cX1_findFits 40 = .ok (.aload_n 0, 1) := by decide +kernel
theorem dX1_findFits_41 : decode cX1_findFits 41 = .ok (.getfield 85, 3) := by decide +kernel
theorem dX1_findFits_44 : decode cX1_findFits 44 = .ok (.ifCond .ne 13, 3) := by decide +kernel
theorem dX1_findFits_47 : decode cX1_findFits 47 = .ok (.bipush 100, 2) := by decide +kernel
theorem dX1_findFits_49 : decode cX1_findFits 49 = .ok (.iload_n 3, 1) := by decide +kernel
theorem dX1_findFits_50 : decode cX1_findFits 50 = .ok (.imul, 1) := by decide +kernel
theorem dX1_findFits_51 : decode cX1_findFits 51 = .ok (.iload 4, 2) := by decide +kernel
theorem dX1_findFits_53 : decode cX1_findFits 53 = .ok (.iadd, 1) := by decide +kernel
theorem dX1_findFits_54 : decode cX1_findFits 54 = .ok (.goto 7, 3) := by decide +kernel
theorem dX1_findFits_57 : decode cX1_findFits 57 = .ok (.aload_n 0, 1) := by decide +kernel
theorem dX1_findFits_58 : decode cX1_findFits 58 = .ok (.getfield 88, 3) := by decide +kernel
theorem dX1_findFits_61 : decode cX1_findFits 61 = .ok (.putfield 88, 3) := by decide +kernel
theorem dX1_findFits_64 : decode cX1_findFits 64 = .ok (.aload_n 0, 1) := by decide +kernel
theorem dX1_findFits_65 : decode cX1_findFits 65 = .ok (.dup, 1) := by decide +kernel
theorem dX1_findFits_66 : decode cX1_findFits 66 = .ok (.getfield 85, 3) := by decide +kernel
theorem dX1_findFits_69 : decode cX1_findFits 69 = .ok (.iconst 1, 1) := by decide +kernel
theorem dX1_findFits_70 : decode cX1_findFits 70 = .ok (.iadd, 1) := by decide +kernel
theorem dX1_findFits_71 : decode cX1_findFits 71 = .ok (.putfield 85, 3) := by decide +kernel
theorem dX1_findFits_74 : decode cX1_findFits 74 = .ok (.iinc 4 1, 3) := by decide +kernel
theorem dX1_findFits_77 : decode cX1_findFits 77 = .ok (.goto (-56), 3) := by decide +kernel
theorem dX1_findFits_80 : decode cX1_findFits 80 = .ok (.iinc 3 1, 3) := by decide +kernel
theorem dX1_findFits_83 : decode cX1_findFits 83 = .ok (.goto (-71), 3) := by decide +kernel
theorem dX1_findFits_86 : decode cX1_findFits 86 = .ok (.return_, 1) := by decide +kernel
theorem dX1_isFit_0 : decode cX1_isFit 0 = .ok (.iconst 0, 1) := by decide +kernel
theorem dX1_isFit_1 : decode cX1_isFit 1 = .ok (.istore 5, 2) := by decide +kernel
theorem dX1_isFit_3 : decode cX1_isFit 3 = .ok (.iload 5, 2) := by decide +kernel
theorem dX1_isFit_5 : decode cX1_isFit 5 = .ok (.aload 4, 2) := by decide +kernel
theorem dX1_isFit_7 : decode cX1_isFit 7 = .ok (.invokevirtual 95, 3) := by decide +kernel
theorem dX1_isFit_10 : decode cX1_isFit 10 = .ok (.if_icmp .ge 53, 3) := by decide +kernel
theorem dX1_isFit_13 : decode cX1_isFit 13 = .ok (.aload_n 0, 1) := by decide +kernel
theorem dX1_isFit_14 : decode cX1_isFit 14 = .ok (.getfield 15, 3) := by decide +kernel
theorem dX1_isFit_17 : decode cX1_isFit 17 = .ok (.iload_n 1, 1) := by decide +kernel
theorem dX1_isFit_18 : decode cX1_isFit 18 = .ok (.aload_n 0, 1) := by decide +kernel
theorem dX1_isFit_19 : decode cX1_isFit 19 = .ok (.getfield 15, 3) := by decide +kernel
theorem dX1_isFit_22 : decode cX1_isFit 22 = .ok (.getfield 25, 3) := by decide +kernel
theorem dX1_isFit_25 : decode cX1_isFit 25 = .ok (.iload 5, 2) := by decide +kernel
theorem dX1_isFit_27 : decode cX1_isFit 27 = .ok (.iadd, 1) := by decide +kernel
theorem dX1_isFit_28 : decode cX1_isFit 28 = .ok (.iload_n 2, 1) := by decide +kernel
theorem dX1_isFit_29 : decode cX1_isFit 29 = .ok (.iload_n 3, 1) := by decide +kernel
theorem dX1_isFit_30 : decode cX1_isFit 30 = .ok (.invokevirtual 81, 3) := by decide +kernel
theorem dX1_isFit_33 : decode cX1_isFit 33 = .ok (.ifCond .eq 7, 3) := by decide +kernel
theorem dX1_isFit_36 : decode cX1_isFit 36 = .ok (.iconst 1, 1) := by decide +kernel
theorem dX1_isFit_37 : decode cX1_isFit 37 = .ok (.goto 4, 3) := by decide +kernel
theorem dX1_isFit_40 : decode cX1_isFit 40 = .ok (.iconst 0, 1) := by decide +kernel
theorem dX1_isFit_41 : decode cX1_isFit 41 = .ok (.istore 6, 2) := by decide +kernel
theorem dX1_isFit_43 : decode cX1_isFit 43 = .ok (.aload 4, 2) := by decide +kernel
theorem dX1_isFit_45 : decode cX1_isFit 45 = .ok (.iload 5, 2) := by decide +kernel
theorem dX1_isFit_47 : decode cX1_isFit 47 = .ok (.invokevirtual 101, 3) := by decide +kernel
theorem dX1_isFit_50 : decode cX1_isFit 50 = .ok (.iload 6, 2) := by decide +kernel
theorem dX1_isFit_52 : decode cX1_isFit 52 = .ok (.if_icmp .eq 5, 3) := by decide +kernel
theorem dX1_isFit_55 : decode cX1_isFit 55 = .ok (.iconst 0, 1) := by decide +kernel
theorem dX1_isFit_56 : decode cX1_isFit 56 = .ok (.ireturn, 1) := by decide +kernel
theorem dX1_isFit_57 : decode cX1_isFit 57 = .ok (.iinc 5 1, 3) := by decide +kernel
theorem dX1_isFit_60 : decode cX1_isFit 60 = .ok (.goto (-57), 3) := by decide +kernel
theorem dX1_isFit_63 : decode cX1_isFit 63 = .ok (.iconst 1, 1) := by decide +kernel
theorem dX1_isFit_64 : decode cX1_isFit 64 = .ok (.ireturn, 1) := by decide +kernel
theorem dX2_init_0 : decode cX2_init 0 = .ok (.aload_n 0, 1) := by decide +kernel
theorem dX2_init_1 : decode cX2_init 1 = .ok (.invokespecial 3, 3) := by decide +kernel
theorem dX2_init_4 : decode cX2_init 4 = .ok (.aload_n 0, 1) := by decide +kernel
theorem dX2_init_5 : decode cX2_init 5 = .ok (.bipush 6, 2) := by decide +kernel
theorem dX2_init_7 : decode cX2_init 7 = .ok (.anewarray 9, 3) := by decide +kernel
theorem dX2_init_10 : decode cX2_init 10 = .ok (.putfield 11, 3) := by decide +kernel
theorem dX2_init_13 : decode cX2_init 13 = .ok (.aload_n 0, 1) := by decide +kernel
theorem dX2_init_14 : decode cX2_init 14 = .ok (.bipush 6, 2) := by decide +kernel
theorem dX2_init_16 : decode cX2_init 16 = .ok (.anewarray 17, 3) := by decide +kernel
theorem dX2_init_19 : decode cX2_init 19 = .ok (.putfield 19, 3) := by decide +kernel
theorem dX2_init_22 : decode cX2_init 22 = .ok (.aload_n 0, 1) := by decide +kernel
theorem dX2_init_23 : decode cX2_init 23 = .ok (.new 23, 3) := by decide +kernel
theorem dX2_init_26 : decode cX2_init 26 = .ok (.dup, 1) := by decide +kernel
theorem dX2_init_27 : decode cX2_init 27 = .ok (.iconst 0, 1) := by decide +kernel
theorem dX2_init_28 : decode cX2_init 28 = .ok (.invokespecial 25, 3) := by decide +kernel
theorem dX2_init_31 : decode cX2_init 31 = .ok (.putfield 28, 3) := by decide +kernel
theorem dX2_init_34 : decode cX2_init 34 = .ok (.aload_n 0, 1) := by decide +kernel
theorem dX2_init_35 : decode cX2_init 35 = .ok (.new 23, 3) := by decide +kernel
theorem dX2_init_38 : decode cX2_init 38 = .ok (.dup, 1) := by decide +kernel
theorem dX2_init_39 : decode cX2_init 39 = .ok (.iconst 1, 1) := by decide +kernel
theorem dX2_init_40 : decode cX2_init 40 = .ok (.invokespecial 25, 3) := by decide +kernel
theorem dX2_init_43 : decode cX2_init 43 = .ok (.putfield 32, 3) := by decide +kernel
theorem dX2_init_46 : decode cX2_init 46 = .ok (.aload_n 0, 1) := by decide +kernel
theorem dX2_init_47 : decode cX2_init 47 = .ok (.new 35, 3) := by decide +kernel
theorem dX2_init_50 : decode cX2_init 50 = .ok (.dup, 1) := by decide +kernel
theorem dX2_init_51 : decode cX2_init 51 = .ok (.bipush 60, 2) := by decide +kernel
theorem dX2_init_53 : decode cX2_init 53 = .ok (.invokespecial 37, 3) := by decide +kernel
theorem dX2_init_56 : decode cX2_init 56 = .ok (.putfield 38, 3) := by decide +kernel
theorem dX2_init_59 : decode cX2_init 59 = .ok (.aload_n 0, 1) := by decide +kernel
theorem dX2_init_60 : decode cX2_init 60 = .ok (.new 35, 3) := by decide +kernel
theorem dX2_init_63 : decode cX2_init 63 = .ok (.dup, 1) := by decide +kernel
theorem dX2_init_64 : decode cX2_init 64 = .ok (.bipush 24, 2) := by decide +kernel
theorem dX2_init_66 : decode cX2_init 66 = .ok (.invokespecial 37, 3) := by decide +kernel
theorem dX2_init_69 : decode cX2_init 69 = .ok (.putfield 42, 3) := by decide +kernel
theorem dX2_init_72 : decode cX2_init 72 = .ok (.aload_n 0, 1) := by decide +kernel
theorem dX2_init_73 : decode cX2_init 73 = .ok (.iconst 1, 1) := by decide +kernel
theorem dX2_init_74 : decode cX2_init 74 = .ok (.putfield 45, 3) := by decide +kernel
theorem dX2_init_77 : decode cX2_init 77 = .ok (.iconst 0, 1) := by decide +kernel
theorem dX2_init_78 : decode cX2_init 78 = .ok (.istore_n 1, 1) := by decide +kernel
theorem dX2_init_79 : decode cX2_init 79 = .ok (.iload_n 1, 1) := by decide +kernel
theorem dX2_init_80 : decode cX2_init 80 = .ok (.bipush 6, 2) := by decide +kernel
theorem dX2_init_82 : decode cX2_init 82 = .ok (.if_icmp .ge 22, 3) := by decide +kernel
theorem dX2_init_85 : decode cX2_init 85 = .ok (.aload_n 0, 1) := by decide +kernel
theorem dX2_init_86 : decode cX2_init 86 = .ok (.getfield 11, 3) := by decide +kernel
theorem dX2_init_89 : decode cX2_init 89 = .ok (.iload_n 1, 1) := by decide +kernel
theorem dX2_init_90 : decode cX2_init 90 = .ok (.new 9, 3) := by decide +kernel
theorem dX2_init_93 : decode cX2_init 93 = .ok (.dup, 1) := by decide +kernel
theorem dX2_init_94 : decode cX2_init 94 = .ok (.invokespecial 49, 3) := by decide +kernel
theorem dX2_init_97 : decode cX2_init 97 = .ok (.aastore, 1) := by decide +kernel
theorem dX2_init_98 : decode cX2_init 98 = .ok (.iinc 1 1, 3) := by decide +kernel
theorem dX2_init_101 : decode cX2_init 101 = .ok (.goto (-22), 3) := by decide +kernel
theorem dX2_init_104 : decode cX2_init 104 = .ok (.iconst 0, 1) := by decide +kernel
theorem dX2_init_105 : decode cX2_init 105 = .ok (.istore_n 1, 1) := by decide +kernel
theorem dX2_init_106 : decode cX2_init 106 = .ok (.iload_n 1, 1) := by decide +kernel
theorem dX2_init_107 : decode cX2_init 107 = .ok (.bipush 6, 2) := by decide +kernel
theorem dX2_init_109 : decode cX2_init 109 = .ok (.if_icmp .ge 22, 3) := by decide +kernel
theorem dX2_init_112 : decode cX2_init 112 = .ok (.aload_n 0, 1) := by decide +kernel
theorem dX2_init_113 : decode cX2_init 113 = .ok (.getfield 19, 3) := by decide +kernel
theorem dX2_init_116 : decode cX2_init 116 = .ok (.iload_n 1, 1) := by decide +kernel
theorem dX2_init_117 : decode cX2_init 117 = .ok (.new 17, 3) := by decide +kernel
theorem dX2_init_120 : decode cX2_init 120 = .ok (.dup, 1) := by decide +kernel
theorem dX2_init_121 : decode cX2_init 121 = .ok (.invokespecial 50, 3) := by decide +kernel
theorem dX2_init_124 : decode cX2_init 124 = .ok (.aastore, 1) := by decide +kernel
theorem dX2_init_125 : decode cX2_init 125 = .ok (.iinc 1 1, 3) := by decide +kernel
theorem dX2_init_128 : decode cX2_init 128 = .ok (.goto (-22), 3) := by decide +kernel
theorem dX2_init_131 : decode cX2_init 131 = .ok (.return_, 1) := by decide +kernel
theorem dX2_beLike_0 : decode cX2_beLike 0 = .ok (.iconst 0, 1) := by decide +kernel
theorem dX2_beLike_1 : decode cX2_beLike 1 = .ok (.istore_n 2, 1) := by decide +kernel
theorem dX2_beLike_2 : decode cX2_beLike 2 = .ok (.iload_n 2, 1) := by decide +kernel
theorem dX2_beLike_3 : decode cX2_beLike 3 = .ok (.bipush 6, 2) := by decide +kernel
theorem dX2_beLike_5 : decode cX2_beLike 5 = .ok (.if_icmp .ge 24, 3) := by decide +kernel
theorem dX2_beLike_8 : decode cX2_beLike 8 = .ok (.aload_n 0, 1) := by decide +kernel
theorem dX2_beLike_9 : decode cX2_beLike 9 = .ok (.getfield 11, 3) := by decide +kernel
theorem dX2_beLike_12 : decode cX2_beLike 12 = .ok (.iload_n 2, 1) := by decide +kernel
theorem dX2_beLike_13 : decode cX2_beLike 13 = .ok (.aaload, 1) := by decide +kernel
theorem dX2_beLike_14 : decode cX2_beLike 14 = .ok (.aload_n 1, 1) := by decide +kernel
theorem dX2_beLike_15 : decode cX2_beLike 15 = .ok (.getfield 11, 3) := by decide +kernel
theorem dX2_beLike_18 : decode cX2_beLike 18 = .ok (.iload_n 2, 1) := by decide +kernel
theorem dX2_beLike_19 : decode cX2_beLike 19 = .ok (.aaload, 1) := by decide +kernel
theorem dX2_beLike_20 : decode cX2_beLike 20 = .ok (.invokevirtual 51, 3) := by decide +kernel
theorem dX2_beLike_23 : decode cX2_beLike 23 = .ok (.iinc 2 1, 3) := by decide +kernel
theorem dX2_beLike_26 : decode cX2_beLike 26 = .ok (.goto (-24), 3) := by decide +kernel
theorem dX2_beLike_29 : decode cX2_beLike 29 = .ok (.iconst 0, 1) := by decide +kernel
theorem dX2_beLike_30 : decode cX2_beLike 30 = .ok (.istore_n 2, 1) := by decide +kernel
theorem dX2_beLike_31 : decode cX2_beLike 31 = .ok (.iload_n 2, 1) := by decide +kernel
theorem dX2_beLike_32 : decode cX2_beLike 32 = .ok (.bipush 6, 2) := by decide +kernel
theorem dX2_beLike_34 : decode cX2_beLike 34 = .ok (.if_icmp .ge 24, 3) := by decide +kernel
theorem dX2_beLike_37 : decode cX2_beLike 37 = .ok (.aload_n 0, 1) := by decide +kernel
theorem dX2_beLike_38 : decode cX2_beLike 38 = .ok (.getfield 19, 3) := by decide +kernel
theorem dX2_beLike_41 : decode cX2_beLike 41 = .ok (.iload_n 2, 1) := by decide +kernel
theorem dX2_beLike_42 : decode cX2_beLike 42 = .ok (.aaload, 1) := by decide +kernel
theorem dX2_beLike_43 : decode cX2_beLike 43 = .ok (.aload_n 1, 1) := by decide +kernel
theorem dX2_beLike_44 : decode cX2_beLike 44 = .ok (.getfield 19, 3) := by decide +kernel
theorem dX2_beLike_47 : decode cX2_beLike 47 = .ok (.iload_n 2, 1) := by decide +kernel
theorem dX2_beLike_48 : decode cX2_beLike 48 = .ok (.aaload, 1) := by decide +kernel
theorem dX2_beLike_49 : decode cX2_beLike 49 = .ok (.invokevirtual 55, 3) := by decide +kernel
theorem dX2_beLike_52 : decode cX2_beLike 52 = .ok (.iinc 2 1, 3) := by decide +kernel
theorem dX2_beLike_55 : decode cX2_beLike 55 = .ok (.goto (-24), 3) := by decide +kernel
theorem dX2_beLike_58 : decode cX2_beLike 58 = .ok (.aload_n 0, 1) := by decide +kernel
theorem dX2_beLike_59 : decode cX2_beLike 59 = .ok (.getfield 28, 3) := by decide +kernel
theorem dX2_beLike_62 : decode cX2_beLike 62 = .ok (.aload_n 1, 1) := by decide +kernel
theorem dX2_beLike_63 : decode cX2_beLike 63 = .ok (.getfield 28, 3) := by decide +kernel
theorem dX2_beLike_66 : decode cX2_beLike 66 = .ok (.invokevirtual 58, 3) := by decide +kernel
theorem dX2_beLike_69 : decode cX2_beLike 69 = .ok (.aload_n 0, 1) := by decide +kernel
theorem dX2_beLike_70 : decode cX2_beLike 70 = .ok (.getfield 32, 3) := by decide +kernel
theorem dX2_beLike_73 : decode cX2_beLike 73 = .ok (.aload_n 1, 1) := by decide +kernel
theorem dX2_beLike_74 : decode cX2_beLike 74 = .ok (.getfield 32, 3) := by decide +kernel
theorem dX2_beLike_77 : decode cX2_beLike 77 = .ok (.invokevirtual 58, 3) := by decide +kernel
theorem dX2_beLike_80 : decode cX2_beLike 80 = .ok (.aload_n 0, 1) := by decide +kernel
theorem dX2_beLike_81 : decode cX2_beLike 81 = .ok (.getfield 38, 3) := by decide +kernel
theorem dX2_beLike_84 : decode cX2_beLike 84 = .ok (.aload_n 1, 1) := by decide +kernel
theorem dX2_beLike_85 : decode cX2_beLike 85 = .ok (.getfield 38, 3) := by decide +kernel
theorem dX2_beLike_88 : decode cX2_beLike 88 = .ok (.invokevirtual 61, 3) := by decide +kernel
theorem dX2_beLike_91 : decode cX2_beLike 91 = .ok (.aload_n 0, 1) := by decide +kernel
theorem dX2_beLike_92 : decode cX2_beLike 92 = .ok (.getfield 42, 3) := by decide +kernel
theorem dX2_beLike_95 : decode cX2_beLike 95 = .ok (.aload_n 1, 1) := by decide +kernel
theorem dX2_beLike_96 : decode cX2_beLike 96 = .ok (.getfield 42, 3) := by decide +kernel
theorem dX2_beLike_99 : decode cX2_beLike 99 = .ok (.invokevirtual 61, 3) := by decide +kernel
theorem dX2_beLike_102 : decode cX2_beLike 102 = .ok (.aload_n 0, 1) := by decide +kernel
theorem dX2_beLike_103 : decode cX2_beLike 103 = .ok (.aload_n 1, 1) := by decide +kernel
theorem dX2_beLike_104 : decode cX2_beLike 104 = .ok (.getfield 64, 3) := by decide +kernel
theorem dX2_beLike_107 : decode cX2_beLike 107 = .ok (.putfield 64, 3) := by decide +kernel
theorem dX2_beLike_110 : decode cX2_beLike 110 = .ok (.aload_n 0, 1) := by decide +kernel
theorem dX2_beLike_111 : decode cX2_beLike 111 = .ok (.aload_n 1, 1) := by decide +kernel
theorem dX2_beLike_112 : decode cX2_beLike 112 = .ok (.getfield 67, 3) := by decide +kernel
theorem dX2_beLike_115 : decode cX2_beLike 115 = .ok (.putfield 67, 3) := by decide +kernel
theorem dX2_beLike_118 : decode cX2_beLike 118 = .ok (.aload_n 0, 1) := by decide +kernel
theorem dX2_beLike_119 : decode cX2_beLike 119 = .ok (.aload_n 1, 1) := by decide +kernel
theorem dX2_beLike_120 : decode cX2_beLike 120 = .ok (.getfield 70, 3) := by decide +kernel
theorem dX2_beLike_123 : decode cX2_beLike 123 = .ok (.putfield 70, 3) := by decide +kernel
theorem dX2_beLike_126 : decode cX2_beLike 126 = .ok (.aload_n 0, 1) := by decide +kernel
theorem dX2_beLike_127 : decode cX2_beLike 127 = .ok (.aload_n 1, 1) := by decide +kernel
theorem dX2_beLike_128 : decode cX2_beLike 128 = .ok (.getfield 45, 3) := by decide +kernel
theorem dX2_beLike_131 : decode cX2_beLike 131 = .ok (.putfield 45, 3) := by decide +kernel
theorem dX2_beLike_134 : decode cX2_beLike 134 = .ok (.return_, 1) := by decide +kernel
theorem dX2_hasPerson_0 : decode cX2_hasPerson 0 = .ok (.iload_n 1, 1) := by decide +kernel
theorem dX2_hasPerson_1 : decode cX2_hasPerson 1 = .ok (.iconst 0, 1) := by decide +kernel
theorem dX2_hasPerson_2 : decode cX2_hasPerson 2 = .ok (.aload_n 0, 1) := by decide +kernel
theorem dX2_hasPerson_3 : decode cX2_hasPerson 3 = .ok (.getfield 64, 3) := by decide +kernel
theorem dX2_hasPerson_6 : decode cX2_hasPerson 6 = .ok (.iconst 1, 1) := by decide +kernel
theorem dX2_hasPerson_7 : decode cX2_hasPerson 7 = .ok (.isub, 1) := by decide +kernel
theorem dX2_hasPerson_8 : decode cX2_hasPerson 8 = .ok (.invokestatic 73, 3) := by decide +kernel
theorem dX2_hasPerson_11 : decode cX2_hasPerson 11 = .ok (.ireturn, 1) := by decide +kernel
theorem dX2_hasDoing_0 : decode cX2_hasDoing 0 = .ok (.iload_n 1, 1) := by decide +kernel
theorem dX2_hasDoing_1 : decode cX2_hasDoing 1 = .ok (.iconst 0, 1) := by decide +kernel
theorem dX2_hasDoing_2 : decode cX2_hasDoing 2 = .ok (.aload_n 0, 1) := by decide +kernel
theorem dX2_hasDoing_3 : decode cX2_hasDoing 3 = .ok (.getfield 67, 3) := by decide +kernel
theorem dX2_hasDoing_6 : decode cX2_hasDoing 6 = .ok (.iconst 1, 1) := by decide +kernel
theorem dX2_hasDoing_7 : decode cX2_hasDoing 7 = .ok (.isub, 1) := by decide +kernel
theorem dX2_hasDoing_8 : decode cX2_hasDoing 8 = .ok (.invokestatic 73, 3) := by decide +kernel
theorem dX2_hasDoing_11 : decode cX2_hasDoing 11 = .ok (.ireturn, 1) := by decide +kernel
theorem dX2_hasSet_0 : decode cX2_hasSet 0 = .ok (.iload_n 1, 1) := by decide +kernel
theorem dX2_hasSet_1 : decode cX2_hasSet 1 = .ok (.iconst 0, 1) := by decide +kernel
theorem dX2_hasSet_2 : decode cX2_hasSet 2 = .ok (.iconst 1, 1) := by decide +kernel
theorem dX2_hasSet_3 : decode cX2_hasSet 3 = .ok (.aload_n 0, 1) := by decide +kernel
theorem dX2_hasSet_4 : decode cX2_hasSet 4 = .ok (.getfield 64, 3) := by decide +kernel
theorem dX2_hasSet_7 : decode cX2_hasSet 7 = .ok (.ishl, 1) := by decide +kernel
theorem dX2_hasSet_8 : decode cX2_hasSet 8 = .ok (.iconst 1, 1) := by decide +kernel
theorem dX2_hasSet_9 : decode cX2_hasSet 9 = .ok (.isub, 1) := by decide +kernel
theorem dX2_hasSet_10 : decode cX2_hasSet 10 = .ok (.invokestatic 73, 3) := by decide +kernel
theorem dX2_hasSet_13 : decode cX2_hasSet 13 = .ok (.ireturn, 1) := by decide +kernel
theorem dX2_lawOf_0 : decode cX2_lawOf 0 = .ok (.iload_n 1, 1) := by decide +kernel
theorem dX2_lawOf_1 : decode cX2_lawOf 1 = .ok (.ifCond .ne 10, 3) := by decide +kernel
theorem dX2_lawOf_4 : decode cX2_lawOf 4 = .ok (.aload_n 0, 1) := by decide +kernel
theorem dX2_lawOf_5 : decode cX2_lawOf 5 = .ok (.getfield 28, 3) := by decide +kernel
theorem dX2_lawOf_8 : decode cX2_lawOf 8 = .ok (.goto 7, 3) := by decide +kernel
theorem dX2_lawOf_11 : decode cX2_lawOf 11 = .ok (.aload_n 0, 1) := by decide +kernel
theorem dX2_lawOf_12 : decode cX2_lawOf 12 = .ok (.getfield 32, 3) := by decide +kernel
theorem dX2_lawOf_15 : decode cX2_lawOf 15 = .ok (.areturn, 1) := by decide +kernel
theorem dX2_isShutBy_0 : decode cX2_isShutBy 0 = .ok (.aload_n 0, 1) := by decide +kernel
theorem dX2_isShutBy_1 : decode cX2_isShutBy 1 = .ok (.iload_n 1, 1) := by decide +kernel
theorem dX2_isShutBy_2 : decode cX2_isShutBy 2 = .ok (.invokevirtual 77, 3) := by decide +kernel
theorem dX2_isShutBy_5 : decode cX2_isShutBy 5 = .ok (.ifCond .ne 5, 3) := by decide +kernel
theorem dX2_isShutBy_8 : decode cX2_isShutBy 8 = .ok (.iconst 0, 1) := by decide +kernel
theorem dX2_isShutBy_9 : decode cX2_isShutBy 9 = .ok (.ireturn, 1) := by decide +kernel
theorem dX2_isShutBy_10 : decode cX2_isShutBy 10 = .ok (.iload_n 2, 1) := by decide +kernel
theorem dX2_isShutBy_11 : decode cX2_isShutBy 11 = .ok (.iload_n 3, 1) := by decide +kernel
theorem dX2_isShutBy_12 : decode cX2_isShutBy 12 = .ok (.iload 4, 2) := by decide +kernel
theorem dX2_isShutBy_14 : decode cX2_isShutBy 14 = .ok (.invokestatic 81, 3) := by decide +kernel
theorem dX2_isShutBy_17 : decode cX2_isShutBy 17 = .ok (.istore 5, 2) := by decide +kernel
theorem dX2_isShutBy_19 : decode cX2_isShutBy 19 = .ok (.aload_n 0, 1) := by decide +kernel
theorem dX2_isShutBy_20 : decode cX2_isShutBy 20 = .ok (.getfield 11, 3) := by decide +kernel
theorem dX2_isShutBy_23 : decode cX2_isShutBy 23 = .ok (.iload_n 1, 1) := by decide +kernel
theorem dX2_isShutBy_24 : decode cX2_isShutBy 24 = .ok (.aaload, 1) := by decide +kernel
theorem dX2_isShutBy_25 : decode cX2_isShutBy 25 = .ok (.iload_n 2, 1) := by decide +kernel
theorem dX2_isShutBy_26 : decode cX2_isShutBy 26 = .ok (.iload 5, 2) := by decide +kernel
theorem dX2_isShutBy_28 : decode cX2_isShutBy 28 = .ok (.invokevirtual 85, 3) := by decide +kernel
theorem dX2_isShutBy_31 : decode cX2_isShutBy 31 = .ok (.ifCond .eq 7, 3) := by decide +kernel
theorem dX2_isShutBy_34 : decode cX2_isShutBy 34 = .ok (.iconst 1, 1) := by decide +kernel
theorem dX2_isShutBy_35 : decode cX2_isShutBy 35 = .ok (.goto 4, 3) := by decide +kernel
theorem dX2_isShutBy_38 : decode cX2_isShutBy 38 = .ok (.iconst 0, 1) := by decide +kernel
theorem dX2_isShutBy_39 : decode cX2_isShutBy 39 = .ok (.istore 6, 2) := by decide +kernel
theorem dX2_isShutBy_41 : decode cX2_isShutBy 41 = .ok (.aload_n 0, 1) := by decide +kernel
theorem dX2_isShutBy_42 : decode cX2_isShutBy 42 = .ok (.getfield 28, 3) := by decide +kernel
theorem dX2_isShutBy_45 : decode cX2_isShutBy 45 = .ok (.iload 5, 2) := by decide +kernel
theorem dX2_isShutBy_47 : decode cX2_isShutBy 47 = .ok (.iload 6, 2) := by decide +kernel
theorem dX2_isShutBy_49 : decode cX2_isShutBy 49 = .ok (.iload_n 2, 1) := by decide +kernel
theorem dX2_isShutBy_50 : decode cX2_isShutBy 50 = .ok (.bipush 24, 2) := by decide +kernel
theorem dX2_isShutBy_52 : decode cX2_isShutBy 52 = .ok (.irem, 1) := by decide +kernel
theorem dX2_isShutBy_53 : decode cX2_isShutBy 53 = .ok (.invokevirtual 89, 3) := by decide +kernel
theorem dX2_isShutBy_56 : decode cX2_isShutBy 56 = .ok (.iconst 1, 1) := by decide +kernel
theorem dX2_isShutBy_57 : decode cX2_isShutBy 57 = .ok (.if_icmp .ne 7, 3) := by decide +kernel
theorem dX2_isShutBy_60 : decode cX2_isShutBy 60 = .ok (.iconst 1, 1) := by decide +kernel
theorem dX2_isShutBy_61 : decode cX2_isShutBy 61 = .ok (.goto 4, 3) := by decide +kernel
theorem dX2_isShutBy_64 : decode cX2_isShutBy 64 = .ok (.iconst 0, 1) := by decide +kernel
theorem dX2_isShutBy_65 : decode cX2_isShutBy 65 = .ok (.ireturn, 1) := by decide +kernel
theorem dX2_isShut_0 : decode cX2_isShut 0 = .ok (.aload_n 0, 1) := by decide +kernel
theorem dX2_isShut_1 : decode cX2_isShut 1 = .ok (.iload_n 1, 1) := by decide +kernel
theorem dX2_isShut_2 : decode cX2_isShut 2 = .ok (.invokevirtual 77, 3) := by decide +kernel
theorem dX2_isShut_5 : decode cX2_isShut 5 = .ok (.ifCond .eq 34, 3) := by decide +kernel
theorem dX2_isShut_8 : decode cX2_isShut 8 = .ok (.aload_n 0, 1) := by decide +kernel
theorem dX2_isShut_9 : decode cX2_isShut 9 = .ok (.iload_n 1, 1) := by decide +kernel
theorem dX2_isShut_10 : decode cX2_isShut 10 = .ok (.iload_n 2, 1) := by decide +kernel
theorem dX2_isShut_11 : decode cX2_isShut 11 = .ok (.aload_n 0, 1) := by decide +kernel
theorem dX2_isShut_12 : decode cX2_isShut 12 = .ok (.getfield 11, 3) := by decide +kernel
theorem dX2_isShut_15 : decode cX2_isShut 15 = .ok (.iload_n 1, 1) := by decide +kernel
theorem dX2_isShut_16 : decode cX2_isShut 16 = .ok (.aaload, 1) := by decide +kernel
theorem dX2_isShut_17 : decode cX2_isShut 17 = .ok (.getfield 92, 3) := by decide +kernel
theorem dX2_isShut_20 : decode cX2_isShut 20 = .ok (.aload_n 0, 1) := by decide +kernel
theorem dX2_isShut_21 : decode cX2_isShut 21 = .ok (.getfield 11, 3) := by decide +kernel
theorem dX2_isShut_24 : decode cX2_isShut 24 = .ok (.iload_n 1, 1) := by decide +kernel
theorem dX2_isShut_25 : decode cX2_isShut 25 = .ok (.aaload, 1) := by decide +kernel
theorem dX2_isShut_26 : decode cX2_isShut 26 = .ok (.getfield 95, 3) := by decide +kernel
theorem dX2_isShut_29 : decode cX2_isShut 29 = .ok (.invokevirtual 98, 3) := by decide +kernel
theorem dX2_isShut_32 : decode cX2_isShut 32 = .ok (.ifCond .eq 7, 3) := by decide +kernel
theorem dX2_isShut_35 : decode cX2_isShut 35 = .ok (.iconst 1, 1) := by decide +kernel
theorem dX2_isShut_36 : decode cX2_isShut 36 = .ok (.goto 4, 3) := by decide +kernel
theorem dX2_isShut_39 : decode cX2_isShut 39 = .ok (.iconst 0, 1) := by decide +kernel
theorem dX2_isShut_40 : decode cX2_isShut 40 = .ok (.ireturn, 1) := by decide +kernel
theorem dX2_shutSet_0 : decode cX2_shutSet 0 = .ok (.iconst 0, 1) := by decide +kernel
theorem dX2_shutSet_1 : decode cX2_shutSet 1 = .ok (.istore_n 2, 1) := by decide +kernel
theorem dX2_shutSet_2 : decode cX2_shutSet 2 = .ok (.iconst 0, 1) := by decide +kernel
theorem dX2_shutSet_3 : decode cX2_shutSet 3 = .ok (.istore_n 3, 1) := by decide +kernel
theorem dX2_shutSet_4 : decode cX2_shutSet 4 = .ok (.iload_n 3, 1) := by decide +kernel
theorem dX2_shutSet_5 : decode cX2_shutSet 5 = .ok (.aload_n 0, 1) := by decide +kernel
theorem dX2_shutSet_6 : decode cX2_shutSet 6 = .ok (.getfield 64, 3) := by decide +kernel
theorem dX2_shutSet_9 : decode cX2_shutSet 9 = .ok (.if_icmp .ge 42, 3) := by decide +kernel
theorem dX2_shutSet_12 : decode cX2_shutSet 12 = .ok (.aload_n 0, 1) := by decide +kernel
theorem dX2_shutSet_13 : decode cX2_shutSet 13 = .ok (.iload_n 3, 1) := by decide +kernel
theorem dX2_shutSet_14 : decode cX2_shutSet 14 = .ok (.iload_n 1, 1) := by decide +kernel
theorem dX2_shutSet_15 : decode cX2_shutSet 15 = .ok (.aload_n 0, 1) := by decide +kernel
theorem dX2_shutSet_16 : decode cX2_shutSet 16 = .ok (.getfield 11, 3) := by decide +kernel
theorem dX2_shutSet_19 : decode cX2_shutSet 19 = .ok (.iload_n 3, 1) := by decide +kernel
theorem dX2_shutSet_20 : decode cX2_shutSet 20 = .ok (.aaload, 1) := by decide +kernel
theorem dX2_shutSet_21 : decode cX2_shutSet 21 = .ok (.getfield 92, 3) := by decide +kernel
theorem dX2_shutSet_24 : decode cX2_shutSet 24 = .ok (.aload_n 0, 1) := by decide +kernel
theorem dX2_shutSet_25 : decode cX2_shutSet 25 = .ok (.getfield 11, 3) := by decide +kernel
theorem dX2_shutSet_28 : decode cX2_shutSet 28 = .ok (.iload_n 3, 1) := by decide +kernel
theorem dX2_shutSet_29 : decode cX2_shutSet 29 = .ok (.aaload, 1) := by decide +kernel
theorem dX2_shutSet_30 : decode cX2_shutSet 30 = .ok (.getfield 95, 3) := by decide +kernel
theorem dX2_shutSet_33 : decode cX2_shutSet 33 = .ok (.invokevirtual 98, 3) := by decide +kernel
theorem dX2_shutSet_36 : decode cX2_shutSet 36 = .ok (.ifCond .eq 9, 3) := by decide +kernel
theorem dX2_shutSet_39 : decode cX2_shutSet 39 = .ok (.iload_n 2, 1) := by decide +kernel
theorem dX2_shutSet_40 : decode cX2_shutSet 40 = .ok (.iconst 1, 1) := by decide +kernel
theorem dX2_shutSet_41 : decode cX2_shutSet 41 = .ok (.iload_n 3, 1) := by decide +kernel
theorem dX2_shutSet_42 : decode cX2_shutSet 42 = .ok (.ishl, 1) := by decide +kernel
theorem dX2_shutSet_43 : decode cX2_shutSet 43 = .ok (.ior, 1) := by decide +kernel
theorem dX2_shutSet_44 : decode cX2_shutSet 44 = .ok (.istore_n 2, 1) := by decide +kernel
theorem dX2_shutSet_45 : decode cX2_shutSet 45 = .ok (.iinc 3 1, 3) := by decide +kernel
theorem dX2_shutSet_48 : decode cX2_shutSet 48 = .ok (.goto (-44), 3) := by decide +kernel
theorem dX2_shutSet_51 : decode cX2_shutSet 51 = .ok (.iload_n 2, 1) := by decide +kernel
theorem dX2_shutSet_52 : decode cX2_shutSet 52 = .ok (.ireturn, 1) := by decide +kernel
theorem dX2_isMoment_0 : decode cX2_isMoment 0 = .ok (.iconst 0, 1) := by decide +kernel
theorem dX2_isMoment_1 : decode cX2_isMoment 1 = .ok (.istore_n 3, 1) := by decide +kernel
theorem dX2_isMoment_2 : decode cX2_isMoment 2 = .ok (.iload_n 3, 1) := by decide +kernel
theorem dX2_isMoment_3 : decode cX2_isMoment 3 = .ok (.aload_n 0, 1) := by decide +kernel
theorem dX2_isMoment_4 : decode cX2_isMoment 4 = .ok (.getfield 64, 3) := by decide +kernel
theorem dX2_isMoment_7 : decode cX2_isMoment 7 = .ok (.if_icmp .ge 28, 3) := by decide +kernel
theorem dX2_isMoment_10 : decode cX2_isMoment 10 = .ok (.iload_n 1, 1) := by decide +kernel
theorem dX2_isMoment_11 : decode cX2_isMoment 11 = .ok (.iload_n 3, 1) := by decide +kernel
theorem dX2_isMoment_12 : decode cX2_isMoment 12 = .ok (.invokestatic 102, 3) := by decide +kernel
theorem dX2_isMoment_15 : decode cX2_isMoment 15 = .ok (.ifCond .eq 14, 3) := by decide +kernel
theorem dX2_isMoment_18 : decode cX2_isMoment 18 = .ok (.aload_n 0, 1) := by decide +kernel
theorem dX2_isMoment_19 : decode cX2_isMoment 19 = .ok (.iload_n 3, 1) := by decide +kernel
theorem dX2_isMoment_20 : decode cX2_isMoment 20 = .ok (.iload_n 2, 1) := by decide +kernel
theorem dX2_isMoment_21 : decode cX2_isMoment 21 = .ok (.invokevirtual 105, 3) := by decide +kernel
theorem dX2_isMoment_24 : decode cX2_isMoment 24 = .ok (.ifCond .ne 5, 3) := by decide +kernel
theorem dX2_isMoment_27 : decode cX2_isMoment 27 = .ok (.iconst 0, 1) := by decide +kernel
theorem dX2_isMoment_28 : decode cX2_isMoment 28 = .ok (.ireturn, 1) := by decide +kernel
theorem dX2_isMoment_29 : decode cX2_isMoment 29 = .ok (.iinc 3 1, 3) := by decide +kernel
theorem dX2_isMoment_32 : decode cX2_isMoment 32 = .ok (.goto (-30), 3) := by decide +kernel
theorem dX2_isMoment_35 : decode cX2_isMoment 35 = .ok (.iconst 1, 1) := by decide +kernel
theorem dX2_isMoment_36 : decode cX2_isMoment 36 = .ok (.ireturn, 1) := by decide +kernel
theorem dX2_getsOnBy_0 : decode cX2_getsOnBy 0 = .ok (.aload_n 0, 1) := by decide +kernel
theorem dX2_getsOnBy_1 : decode cX2_getsOnBy 1 = .ok (.aload_n 1, 1) := by decide +kernel
theorem dX2_getsOnBy_2 : decode cX2_getsOnBy 2 = .ok (.getfield 108, 3) := by decide +kernel
theorem dX2_getsOnBy_5 : decode cX2_getsOnBy 5 = .ok (.invokevirtual 77, 3) := by decide +kernel
theorem dX2_getsOnBy_8 : decode cX2_getsOnBy 8 = .ok (.ifCond .eq 22, 3) := by decide +kernel
theorem dX2_getsOnBy_11 : decode cX2_getsOnBy 11 = .ok (.aload_n 0, 1) := by decide +kernel
theorem dX2_getsOnBy_12 : decode cX2_getsOnBy 12 = .ok (.getfield 11, 3) := by decide +kernel
theorem dX2_getsOnBy_15 : decode cX2_getsOnBy 15 = .ok (.aload_n 1, 1) := by decide +kernel
theorem dX2_getsOnBy_16 : decode cX2_getsOnBy 16 = .ok (.getfield 108, 3) := by decide +kernel
theorem dX2_getsOnBy_19 : decode cX2_getsOnBy 19 = .ok (.aaload, 1) := by decide +kernel
theorem dX2_getsOnBy_20 : decode cX2_getsOnBy 20 = .ok (.aload_n 0, 1) := by decide +kernel
theorem dX2_getsOnBy_21 : decode cX2_getsOnBy 21 = .ok (.getfield 67, 3) := by decide +kernel
theorem dX2_getsOnBy_24 : decode cX2_getsOnBy 24 = .ok (.invokevirtual 111, 3) := by decide +kernel
theorem dX2_getsOnBy_27 : decode cX2_getsOnBy 27 = .ok (.goto 4, 3) := by decide +kernel
theorem dX2_getsOnBy_30 : decode cX2_getsOnBy 30 = .ok (.iconst 0, 1) := by decide +kernel
theorem dX2_getsOnBy_31 : decode cX2_getsOnBy 31 = .ok (.istore 4, 2) := by decide +kernel
theorem dX2_getsOnBy_33 : decode cX2_getsOnBy 33 = .ok (.iload_n 3, 1) := by decide +kernel
theorem dX2_getsOnBy_34 : decode cX2_getsOnBy 34 = .ok (.iconst 1, 1) := by decide +kernel
theorem dX2_getsOnBy_35 : decode cX2_getsOnBy 35 = .ok (.aload_n 1, 1) := by decide +kernel
theorem dX2_getsOnBy_36 : decode cX2_getsOnBy 36 = .ok (.getfield 108, 3) := by decide +kernel
theorem dX2_getsOnBy_39 : decode cX2_getsOnBy 39 = .ok (.ishl, 1) := by decide +kernel
theorem dX2_getsOnBy_40 : decode cX2_getsOnBy 40 = .ok (.iconst (-1), 1) := by decide +kernel
theorem dX2_getsOnBy_41 : decode cX2_getsOnBy 41 = .ok (.ixor, 1) := by decide +kernel
theorem dX2_getsOnBy_42 : decode cX2_getsOnBy 42 = .ok (.iand, 1) := by decide +kernel
theorem dX2_getsOnBy_43 : decode cX2_getsOnBy 43 = .ok (.invokestatic 115, 3) := by decide +kernel
theorem dX2_getsOnBy_46 : decode cX2_getsOnBy 46 = .ok (.istore 5, 2) := by decide +kernel
theorem dX2_getsOnBy_48 : decode cX2_getsOnBy 48 = .ok (.aload_n 0, 1) := by decide +kernel
theorem dX2_getsOnBy_49 : decode cX2_getsOnBy 49 = .ok (.getfield 32, 3) := by decide +kernel
theorem dX2_getsOnBy_52 : decode cX2_getsOnBy 52 = .ok (.iload 4, 2) := by decide +kernel
theorem dX2_getsOnBy_54 : decode cX2_getsOnBy 54 = .ok (.iload 5, 2) := by decide +kernel
theorem dX2_getsOnBy_56 : decode cX2_getsOnBy 56 = .ok (.iload_n 2, 1) := by decide +kernel
theorem dX2_getsOnBy_57 : decode cX2_getsOnBy 57 = .ok (.invokevirtual 89, 3) := by decide +kernel
theorem dX2_getsOnBy_60 : decode cX2_getsOnBy 60 = .ok (.ireturn, 1) := by decide +kernel
theorem dX2_leftBehindTick_0 : decode cX2_leftBehindTick 0 = .ok (.iload_n 2, 1) := by decide +kernel
theorem dX2_leftBehindTick_1 : decode cX2_leftBehindTick 1 = .ok (.ifCond .eq 12, 3) := by decide +kernel
theorem dX2_leftBehindTick_4 : decode cX2_leftBehindTick 4 = .ok (.iload_n 3, 1) := by decide +kernel
theorem dX2_leftBehindTick_5 : decode cX2_leftBehindTick 5 = .ok (.iload 4, 2) := by decide +kernel
theorem dX2_leftBehindTick_7 : decode cX2_leftBehindTick 7 = .ok (.iconst (-1), 1) := by decide +kernel
theorem dX2_leftBehindTick_8 : decode cX2_leftBehindTick 8 = .ok (.ixor, 1) := by decide +kernel
theorem dX2_leftBehindTick_9 : decode cX2_leftBehindTick 9 = .ok (.iand, 1) := by decide +kernel
theorem dX2_leftBehindTick_10 : decode cX2_leftBehindTick 10 = .ok (.ifCond .eq 5, 3) := by decide +kernel
theorem dX2_leftBehindTick_13 : decode cX2_leftBehindTick 13 = .ok (.iload_n 2, 1) := by decide +kernel
theorem dX2_leftBehindTick_14 : decode cX2_leftBehindTick 14 = .ok (.ireturn, 1) := by decide +kernel
theorem dX2_leftBehindTick_15 : decode cX2_leftBehindTick 15 = .ok (.iconst 0, 1) := by decide +kernel
theorem dX2_leftBehindTick_16 : decode cX2_leftBehindTick 16 = .ok (.iload_n 2, 1) := by decide +kernel
theorem dX2_leftBehindTick_17 : decode cX2_leftBehindTick 17 = .ok (.aload_n 0, 1) := by decide +kernel
theorem dX2_leftBehindTick_18 : decode cX2_leftBehindTick 18 = .ok (.aload_n 1, 1) := by decide +kernel
theorem dX2_leftBehindTick_19 : decode cX2_leftBehindTick 19 = .ok (.iload_n 2, 1) := by decide +kernel
theorem dX2_leftBehindTick_20 : decode cX2_leftBehindTick 20 = .ok (.iload 4, 2) := by decide +kernel
theorem dX2_leftBehindTick_22 : decode cX2_leftBehindTick 22 = .ok (.invokevirtual 120, 3) := by decide +kernel
theorem dX2_leftBehindTick_25 : decode cX2_leftBehindTick 25 = .ok (.isub, 1) := by decide +kernel
theorem dX2_leftBehindTick_26 : decode cX2_leftBehindTick 26 = .ok (.invokestatic 124, 3) := by decide +kernel
theorem dX2_leftBehindTick_29 : decode cX2_leftBehindTick 29 = .ok (.ireturn, 1) := by decide +kernel
theorem dX2_goBy_0 : decode cX2_goBy 0 = .ok (.aload_n 0, 1) := by decide +kernel
theorem dX2_goBy_1 : decode cX2_goBy 1 = .ok (.aload_n 0, 1) := by decide +kernel
theorem dX2_goBy_2 : decode cX2_goBy 2 = .ok (.getfield 70, 3) := by decide +kernel
theorem dX2_goBy_5 : decode cX2_goBy 5 = .ok (.invokevirtual 130, 3) := by decide +kernel
theorem dX2_goBy_8 : decode cX2_goBy 8 = .ok (.istore_n 1, 1) := by decide +kernel
theorem dX2_goBy_9 : decode cX2_goBy 9 = .ok (.iconst 0, 1) := by decide +kernel
theorem dX2_goBy_10 : decode cX2_goBy 10 = .ok (.istore_n 2, 1) := by decide +kernel
theorem dX2_goBy_11 : decode cX2_goBy 11 = .ok (.iconst 0, 1) := by decide +kernel
theorem dX2_goBy_12 : decode cX2_goBy 12 = .ok (.istore_n 3, 1) := by decide +kernel
theorem dX2_goBy_13 : decode cX2_goBy 13 = .ok (.iload_n 3, 1) := by decide +kernel
theorem dX2_goBy_14 : decode cX2_goBy 14 = .ok (.aload_n 0, 1) := by decide +kernel
theorem dX2_goBy_15 : decode cX2_goBy 15 = .ok (.getfield 67, 3) := by decide +kernel
theorem dX2_goBy_18 : decode cX2_goBy 18 = .ok (.if_icmp .ge 59, 3) := by decide +kernel
theorem dX2_goBy_21 : decode cX2_goBy 21 = .ok (.aload_n 0, 1) := by decide +kernel
theorem dX2_goBy_22 : decode cX2_goBy 22 = .ok (.getfield 19, 3) := by decide +kernel
theorem dX2_goBy_25 : decode cX2_goBy 25 = .ok (.iload_n 3, 1) := by decide +kernel
theorem dX2_goBy_26 : decode cX2_goBy 26 = .ok (.aaload, 1) := by decide +kernel
theorem dX2_goBy_27 : decode cX2_goBy 27 = .ok (.astore 4, 2) := by decide +kernel
theorem dX2_goBy_29 : decode cX2_goBy 29 = .ok (.aload_n 0, 1) := by decide +kernel
theorem dX2_goBy_30 : decode cX2_goBy 30 = .ok (.aload 4, 2) := by decide +kernel
theorem dX2_goBy_32 : decode cX2_goBy 32 = .ok (.aload 4, 2) := by decide +kernel
theorem dX2_goBy_34 : decode cX2_goBy 34 = .ok (.getfield 133, 3) := by decide +kernel
theorem dX2_goBy_37 : decode cX2_goBy 37 = .ok (.aload 4, 2) := by decide +kernel
theorem dX2_goBy_39 : decode cX2_goBy 39 = .ok (.getfield 136, 3) := by decide +kernel
theorem dX2_goBy_42 : decode cX2_goBy 42 = .ok (.iload_n 1, 1) := by decide +kernel
theorem dX2_goBy_43 : decode cX2_goBy 43 = .ok (.invokevirtual 139, 3) := by decide +kernel
theorem dX2_goBy_46 : decode cX2_goBy 46 = .ok (.istore 5, 2) := by decide +kernel
theorem dX2_goBy_48 : decode cX2_goBy 48 = .ok (.iload 5, 2) := by decide +kernel
theorem dX2_goBy_50 : decode cX2_goBy 50 = .ok (.ifCond .ne 14, 3) := by decide +kernel
theorem dX2_goBy_53 : decode cX2_goBy 53 = .ok (.aload 4, 2) := by decide +kernel
theorem dX2_goBy_55 : decode cX2_goBy 55 = .ok (.getfield 133, 3) := by decide +kernel
theorem dX2_goBy_58 : decode cX2_goBy 58 = .ok (.ifCond .le 6, 3) := by decide +kernel
theorem dX2_goBy_61 : decode cX2_goBy 61 = .ok (.iinc 2 1, 3) := by decide +kernel
theorem dX2_goBy_64 : decode cX2_goBy 64 = .ok (.aload 4, 2) := by decide +kernel
theorem dX2_goBy_66 : decode cX2_goBy 66 = .ok (.iload 5, 2) := by decide +kernel
theorem dX2_goBy_68 : decode cX2_goBy 68 = .ok (.putfield 133, 3) := by decide +kernel
theorem dX2_goBy_71 : decode cX2_goBy 71 = .ok (.iinc 3 1, 3) := by decide +kernel
theorem dX2_goBy_74 : decode cX2_goBy 74 = .ok (.goto (-61), 3) := by decide +kernel
theorem dX2_goBy_77 : decode cX2_goBy 77 = .ok (.aload_n 0, 1) := by decide +kernel
theorem dX2_goBy_78 : decode cX2_goBy 78 = .ok (.dup, 1) := by decide +kernel
theorem dX2_goBy_79 : decode cX2_goBy 79 = .ok (.getfield 70, 3) := by decide +kernel
theorem dX2_goBy_82 : decode cX2_goBy 82 = .ok (.iconst 1, 1) := by decide +kernel
theorem dX2_goBy_83 : decode cX2_goBy 83 = .ok (.iadd, 1) := by decide +kernel
theorem dX2_goBy_84 : decode cX2_goBy 84 = .ok (.putfield 70, 3) := by decide +kernel
theorem dX2_goBy_87 : decode cX2_goBy 87 = .ok (.iload_n 2, 1) := by decide +kernel
theorem dX2_goBy_88 : decode cX2_goBy 88 = .ok (.ireturn, 1) := by decide +kernel
theorem dX2_draw_0 : decode cX2_draw 0 = .ok (.aload_n 0, 1) := by decide +kernel
theorem dX2_draw_1 : decode cX2_draw 1 = .ok (.aload_n 0, 1) := by decide +kernel
theorem dX2_draw_2 : decode cX2_draw 2 = .ok (.getfield 45, 3) := by decide +kernel
theorem dX2_draw_5 : decode cX2_draw 5 = .ok (.ldc 143, 2) := by decide +kernel
theorem dX2_draw_7 : decode cX2_draw 7 = .ok (.imul, 1) := by decide +kernel
theorem dX2_draw_8 : decode cX2_draw 8 = .ok (.sipush 12345, 3) := by decide +kernel
theorem dX2_draw_11 : decode cX2_draw 11 = .ok (.iadd, 1) := by decide +kernel
theorem dX2_draw_12 : decode cX2_draw 12 = .ok (.putfield 45, 3) := by decide +kernel
theorem dX2_draw_15 : decode cX2_draw 15 = .ok (.aload_n 0, 1) := by decide +kernel
theorem dX2_draw_16 : decode cX2_draw 16 = .ok (.getfield 45, 3) := by decide +kernel
theorem dX2_draw_19 : decode cX2_draw 19 = .ok (.bipush 8, 2) := by decide +kernel
theorem dX2_draw_21 : decode cX2_draw 21 = .ok (.iushr, 1) := by decide +kernel
theorem dX2_draw_22 : decode cX2_draw 22 = .ok (.ireturn, 1) := by decide +kernel
theorem dX2_drawPhase_0 : decode cX2_drawPhase 0 = .ok (.aload_n 0, 1) := by decide +kernel
theorem dX2_drawPhase_1 : decode cX2_drawPhase 1 = .ok (.getfield 64, 3) := by decide +kernel
theorem dX2_drawPhase_4 : decode cX2_drawPhase 4 = .ok (.ifCond .eq 12, 3) := by decide +kernel
theorem dX2_drawPhase_7 : decode cX2_drawPhase 7 = .ok (.aload_n 0, 1) := by decide +kernel
theorem dX2_drawPhase_8 : decode cX2_drawPhase 8 = .ok (.invokevirtual 144, 3) := by decide +kernel
theorem dX2_drawPhase_11 : decode cX2_drawPhase 11 = .ok (.iconst 4, 1) := by decide +kernel
theorem dX2_drawPhase_12 : decode cX2_drawPhase 12 = .ok (.irem, 1) := by decide +kernel
theorem dX2_drawPhase_13 : decode cX2_drawPhase 13 = .ok (.ifCond .eq 4, 3) := by decide +kernel
theorem dX2_drawPhase_16 : decode cX2_drawPhase 16 = .ok (.return_, 1) := by decide +kernel
theorem dX2_drawPhase_17 : decode cX2_drawPhase 17 = .ok (.aload_n 0, 1) := by decide +kernel
theorem dX2_drawPhase_18 : decode cX2_drawPhase 18 = .ok (.invokevirtual 144, 3) := by decide +kernel
theorem dX2_drawPhase_21 : decode cX2_drawPhase 21 = .ok (.aload_n 0, 1) := by decide +kernel
theorem dX2_drawPhase_22 : decode cX2_drawPhase 22 = .ok (.getfield 64, 3) := by decide +kernel
theorem dX2_drawPhase_25 : decode cX2_drawPhase 25 = .ok (.irem, 1) := by decide +kernel
theorem dX2_drawPhase_26 : decode cX2_drawPhase 26 = .ok (.istore_n 1, 1) := by decide +kernel
theorem dX2_drawPhase_27 : decode cX2_drawPhase 27 = .ok (.aload_n 0, 1) := by decide +kernel
theorem dX2_drawPhase_28 : decode cX2_drawPhase 28 = .ok (.invokevirtual 144, 3) := by decide +kernel
theorem dX2_drawPhase_31 : decode cX2_drawPhase 31 = .ok (.istore_n 2, 1) := by decide +kernel
theorem dX2_drawPhase_32 : decode cX2_drawPhase 32 = .ok (.aload_n 0, 1) := by decide +kernel
theorem dX2_drawPhase_33 : decode cX2_drawPhase 33 = .ok (.iload_n 1, 1) := by decide +kernel
theorem dX2_drawPhase_34 : decode cX2_drawPhase 34 = .ok (.invokevirtual 77, 3) := by decide +kernel
theorem dX2_drawPhase_37 : decode cX2_drawPhase 37 = .ok (.ifCond .eq 26, 3) := by decide +kernel
theorem dX2_drawPhase_40 : decode cX2_drawPhase 40 = .ok (.aload_n 0, 1) := by decide +kernel
theorem dX2_drawPhase_41 : decode cX2_drawPhase 41 = .ok (.getfield 11, 3) := by decide +kernel
theorem dX2_drawPhase_44 : decode cX2_drawPhase 44 = .ok (.iload_n 1, 1) := by decide +kernel
theorem dX2_drawPhase_45 : decode cX2_drawPhase 45 = .ok (.aaload, 1) := by decide +kernel
theorem dX2_drawPhase_46 : decode cX2_drawPhase 46 = .ok (.iload_n 2, 1) := by decide +kernel
theorem dX2_drawPhase_47 : decode cX2_drawPhase 47 = .ok (.aload_n 0, 1) := by decide +kernel
theorem dX2_drawPhase_48 : decode cX2_drawPhase 48 = .ok (.getfield 11, 3) := by decide +kernel
theorem dX2_drawPhase_51 : decode cX2_drawPhase 51 = .ok (.iload_n 1, 1) := by decide +kernel
theorem dX2_drawPhase_52 : decode cX2_drawPhase 52 = .ok (.aaload, 1) := by decide +kernel
theorem dX2_drawPhase_53 : decode cX2_drawPhase 53 = .ok (.getfield 92, 3) := by decide +kernel
theorem dX2_drawPhase_56 : decode cX2_drawPhase 56 = .ok (.iconst 0, 1) := by decide +kernel
theorem dX2_drawPhase_57 : decode cX2_drawPhase 57 = .ok (.invokestatic 81, 3) := by decide +kernel
theorem dX2_drawPhase_60 : decode cX2_drawPhase 60 = .ok (.putfield 95, 3) := by decide +kernel
theorem dX2_drawPhase_63 : decode cX2_drawPhase 63 = .ok (.return_, 1) := by decide +kernel
theorem dX2_partsTogether_0 : decode cX2_partsTogether 0 = .ok (.iconst 0, 1) := by decide +kernel
theorem dX2_partsTogether_1 : decode cX2_partsTogether 1 = .ok (.istore_n 1, 1) := by decide +kernel
theorem dX2_partsTogether_2 : decode cX2_partsTogether 2 = .ok (.iconst 0, 1) := by decide +kernel
theorem dX2_partsTogether_3 : decode cX2_partsTogether 3 = .ok (.istore_n 2, 1) := by decide +kernel
theorem dX2_partsTogether_4 : decode cX2_partsTogether 4 = .ok (.iload_n 2, 1) := by decide +kernel
theorem dX2_partsTogether_5 : decode cX2_partsTogether 5 = .ok (.aload_n 0, 1) := by decide +kernel
theorem dX2_partsTogether_6 : decode cX2_partsTogether 6 = .ok (.getfield 67, 3) := by decide +kernel
theorem dX2_partsTogether_9 : decode cX2_partsTogether 9 = .ok (.if_icmp .ge 21, 3) := by decide +kernel
theorem dX2_partsTogether_12 : decode cX2_partsTogether 12 = .ok (.iload_n 1, 1) := by decide +kernel
theorem dX2_partsTogether_13 : decode cX2_partsTogether 13 = .ok (.aload_n 0, 1) := by decide +kernel
theorem dX2_partsTogether_14 : decode cX2_partsTogether 14 = .ok (.getfield 19, 3) := by decide +kernel
theorem dX2_partsTogether_17 : decode cX2_partsTogether 17 = .ok (.iload_n 2, 1) := by decide +kernel
theorem dX2_partsTogether_18 : decode cX2_partsTogether 18 = .ok (.aaload, 1) := by decide +kernel
theorem dX2_partsTogether_19 : decode cX2_partsTogether 19 = .ok (.getfield 133, 3) := by decide +kernel
theorem dX2_partsTogether_22 : decode cX2_partsTogether 22 = .ok (.iadd, 1) := by decide +kernel
theorem dX2_partsTogether_23 : decode cX2_partsTogether 23 = .ok (.istore_n 1, 1) := by decide +kernel
theorem dX2_partsTogether_24 : decode cX2_partsTogether 24 = .ok (.iinc 2 1, 3) := by decide +kernel
theorem dX2_partsTogether_27 : decode cX2_partsTogether 27 = .ok (.goto (-23), 3) := by decide +kernel
theorem dX2_partsTogether_30 : decode cX2_partsTogether 30 = .ok (.iload_n 1, 1) := by decide +kernel
theorem dX2_partsTogether_31 : decode cX2_partsTogether 31 = .ok (.ireturn, 1) := by decide +kernel
theorem dX3_init_0 : decode cX3_init 0 = .ok (.aload_n 0, 1) := by decide +kernel
theorem dX3_init_1 : decode cX3_init 1 = .ok (.invokespecial 3, 3) := by decide +kernel
theorem dX3_init_4 : decode cX3_init 4 = .ok (.aload_n 0, 1) := by decide +kernel
theorem dX3_init_5 : decode cX3_init 5 = .ok (.new 9, 3) := by decide +kernel
theorem dX3_init_8 : decode cX3_init 8 = .ok (.dup, 1) := by decide +kernel
theorem dX3_init_9 : decode cX3_init 9 = .ok (.bipush 60, 2) := by decide +kernel
theorem dX3_init_11 : decode cX3_init 11 = .ok (.invokespecial 11, 3) := by decide +kernel
theorem dX3_init_14 : decode cX3_init 14 = .ok (.putfield 14, 3) := by decide +kernel
theorem dX3_init_17 : decode cX3_init 17 = .ok (.aload_n 0, 1) := by decide +kernel
theorem dX3_init_18 : decode cX3_init 18 = .ok (.bipush 60, 2) := by decide +kernel
theorem dX3_init_20 : decode cX3_init 20 = .ok (.newarray .int, 2) := by decide +kernel
theorem dX3_init_22 : decode cX3_init 22 = .ok (.putfield 20, 3) := by decide +kernel
theorem dX3_init_25 : decode cX3_init 25 = .ok (.aload_n 0, 1) := by decide +kernel
theorem dX3_init_26 : decode cX3_init 26 = .ok (.iload_n 1, 1) := by decide +kernel
theorem dX3_init_27 : decode cX3_init 27 = .ok (.putfield 24, 3) := by decide +kernel
theorem dX3_init_30 : decode cX3_init 30 = .ok (.return_, 1) := by decide +kernel
theorem dX3_give_0 : decode cX3_give 0 = .ok (.aload_n 0, 1) := by decide +kernel
theorem dX3_give_1 : decode cX3_give 1 = .ok (.getfield 14, 3) := by decide +kernel
theorem dX3_give_4 : decode cX3_give 4 = .ok (.aload_n 1, 1) := by decide +kernel
theorem dX3_give_5 : decode cX3_give 5 = .ok (.invokevirtual 28, 3) := by decide +kernel
theorem dX3_give_8 : decode cX3_give 8 = .ok (.aload_n 0, 1) := by decide +kernel
theorem dX3_give_9 : decode cX3_give 9 = .ok (.iconst 1, 1) := by decide +kernel
theorem dX3_give_10 : decode cX3_give 10 = .ok (.putfield 32, 3) := by decide +kernel
theorem dX3_give_13 : decode cX3_give 13 = .ok (.return_, 1) := by decide +kernel
theorem dX3_beLike_0 : decode cX3_beLike 0 = .ok (.aload_n 0, 1) := by decide +kernel
theorem dX3_beLike_1 : decode cX3_beLike 1 = .ok (.getfield 14, 3) := by decide +kernel
theorem dX3_beLike_4 : decode cX3_beLike 4 = .ok (.aload_n 1, 1) := by decide +kernel
theorem dX3_beLike_5 : decode cX3_beLike 5 = .ok (.getfield 14, 3) := by decide +kernel
theorem dX3_beLike_8 : decode cX3_beLike 8 = .ok (.invokevirtual 28, 3) := by decide +kernel
theorem dX3_beLike_11 : decode cX3_beLike 11 = .ok (.aload_n 0, 1) := by decide +kernel
theorem dX3_beLike_12 : decode cX3_beLike 12 = .ok (.aload_n 1, 1) := by decide +kernel
theorem dX3_beLike_13 : decode cX3_beLike 13 = .ok (.getfield 32, 3) := by decide +kernel
theorem dX3_beLike_16 : decode cX3_beLike 16 = .ok (.putfield 32, 3) := by decide +kernel
theorem dX3_beLike_19 : decode cX3_beLike 19 = .ok (.return_, 1) := by decide +kernel
theorem dX3_gives_0 : decode cX3_gives 0 = .ok (.aload_n 0, 1) := by decide +kernel
theorem dX3_gives_1 : decode cX3_gives 1 = .ok (.getfield 24, 3) := by decide +kernel
theorem dX3_gives_4 : decode cX3_gives 4 = .ok (.ifCond .ne 26, 3) := by decide +kernel
theorem dX3_gives_7 : decode cX3_gives 7 = .ok (.aload_n 0, 1) := by decide +kernel
theorem dX3_gives_8 : decode cX3_gives 8 = .ok (.getfield 32, 3) := by decide +kernel
theorem dX3_gives_11 : decode cX3_gives 11 = .ok (.ifCond .eq 13, 3) := by decide +kernel
theorem dX3_gives_14 : decode cX3_gives 14 = .ok (.aload_n 0, 1) := by decide +kernel
theorem dX3_gives_15 : decode cX3_gives 15 = .ok (.iload_n 1, 1) := by decide +kernel
theorem dX3_gives_16 : decode cX3_gives 16 = .ok (.iload_n 2, 1) := by decide +kernel
theorem dX3_gives_17 : decode cX3_gives 17 = .ok (.iload_n 3, 1) := by decide +kernel
theorem dX3_gives_18 : decode cX3_gives 18 = .ok (.invokevirtual 36, 3) := by decide +kernel
theorem dX3_gives_21 : decode cX3_gives 21 = .ok (.goto 4, 3) := by decide +kernel
theorem dX3_gives_24 : decode cX3_gives 24 = .ok (.iload_n 2, 1) := by decide +kernel
theorem dX3_gives_25 : decode cX3_gives 25 = .ok (.iconst 1, 1) := by decide +kernel
theorem dX3_gives_26 : decode cX3_gives 26 = .ok (.invokestatic 40, 3) := by decide +kernel
theorem dX3_gives_29 : decode cX3_gives 29 = .ok (.ireturn, 1) := by decide +kernel
theorem dX3_gives_30 : decode cX3_gives 30 = .ok (.aload_n 0, 1) := by decide +kernel
theorem dX3_gives_31 : decode cX3_gives 31 = .ok (.getfield 32, 3) := by decide +kernel
theorem dX3_gives_34 : decode cX3_gives 34 = .ok (.ifCond .eq 13, 3) := by decide +kernel
theorem dX3_gives_37 : decode cX3_gives 37 = .ok (.aload_n 0, 1) := by decide +kernel
theorem dX3_gives_38 : decode cX3_gives 38 = .ok (.iload_n 1, 1) := by decide +kernel
theorem dX3_gives_39 : decode cX3_gives 39 = .ok (.iload_n 2, 1) := by decide +kernel
theorem dX3_gives_40 : decode cX3_gives 40 = .ok (.iload_n 3, 1) := by decide +kernel
theorem dX3_gives_41 : decode cX3_gives 41 = .ok (.invokevirtual 36, 3) := by decide +kernel
theorem dX3_gives_44 : decode cX3_gives 44 = .ok (.goto 4, 3) := by decide +kernel
theorem dX3_gives_47 : decode cX3_gives 47 = .ok (.iload_n 1, 1) := by decide +kernel
theorem dX3_gives_48 : decode cX3_gives 48 = .ok (.bipush 9, 2) := by decide +kernel
theorem dX3_gives_50 : decode cX3_gives 50 = .ok (.invokestatic 40, 3) := by decide +kernel
theorem dX3_gives_53 : decode cX3_gives 53 = .ok (.ireturn, 1) := by decide +kernel
theorem dX3_held_0 : decode cX3_held 0 = .ok (.iconst 0, 1) := by decide +kernel
theorem dX3_held_1 : decode cX3_held 1 = .ok (.iload_n 1, 1) := by decide +kernel
theorem dX3_held_2 : decode cX3_held 2 = .ok (.iload_n 0, 1) := by decide +kernel
theorem dX3_held_3 : decode cX3_held 3 = .ok (.invokestatic 44, 3) := by decide +kernel
theorem dX3_held_6 : decode cX3_held 6 = .ok (.invokestatic 49, 3) := by decide +kernel
theorem dX3_held_9 : decode cX3_held 9 = .ok (.ireturn, 1) := by decide +kernel
theorem dX3_worked_0 : decode cX3_worked 0 = .ok (.iconst 0, 1) := by decide +kernel
theorem dX3_worked_1 : decode cX3_worked 1 = .ok (.istore 4, 2) := by decide +kernel
theorem dX3_worked_3 : decode cX3_worked 3 = .ok (.iconst 0, 1) := by decide +kernel
theorem dX3_worked_4 : decode cX3_worked 4 = .ok (.istore 5, 2) := by decide +kernel
theorem dX3_worked_6 : decode cX3_worked 6 = .ok (.iload 5, 2) := by decide +kernel
theorem dX3_worked_8 : decode cX3_worked 8 = .ok (.aload_n 0, 1) := by decide +kernel
theorem dX3_worked_9 : decode cX3_worked 9 = .ok (.getfield 14, 3) := by decide +kernel
theorem dX3_worked_12 : decode cX3_worked 12 = .ok (.invokevirtual 52, 3) := by decide +kernel
theorem dX3_worked_15 : decode cX3_worked 15 = .ok (.if_icmp .ge 150, 3) := by decide +kernel
theorem dX3_worked_18 : decode cX3_worked 18 = .ok (.aload_n 0, 1) := by decide +kernel
theorem dX3_worked_19 : decode cX3_worked 19 = .ok (.getfield 14, 3) := by decide +kernel
theorem dX3_worked_22 : decode cX3_worked 22 = .ok (.iload 5, 2) := by decide +kernel
theorem dX3_worked_24 : decode cX3_worked 24 = .ok (.invokevirtual 56, 3) := by decide +kernel
theorem dX3_worked_27 : decode cX3_worked 27 = .ok (.istore 6, 2) := by decide +kernel
theorem dX3_worked_29 : decode cX3_worked 29 = .ok (.iload 6, 2) := by decide +kernel
theorem dX3_worked_31 : decode cX3_worked 31 = .ok (.bipush (-33), 2) := by decide +kernel
theorem dX3_worked_33 : decode cX3_worked 33 = .ok (.if_icmp .ne 38, 3) := by decide +kernel
theorem dX3_worked_36 : decode cX3_worked 36 = .ok (.iload 4, 2) := by decide +kernel
theorem dX3_worked_38 : decode cX3_worked 38 = .ok (.iconst 1, 1) := by decide +kernel
theorem dX3_worked_39 : decode cX3_worked 39 = .ok (.if_icmp .lt 32, 3) := by decide +kernel
theorem dX3_worked_42 : decode cX3_worked 42 = .ok (.aload_n 0, 1) := by decide +kernel
theorem dX3_worked_43 : decode cX3_worked 43 = .ok (.getfield 20, 3) := by decide +kernel
theorem dX3_worked_46 : decode cX3_worked 46 = .ok (.iload 4, 2) := by decide +kernel
theorem dX3_worked_48 : decode cX3_worked 48 = .ok (.iconst 1, 1) := by decide +kernel
theorem dX3_worked_49 : decode cX3_worked 49 = .ok (.isub, 1) := by decide +kernel
theorem dX3_worked_50 : decode cX3_worked 50 = .ok (.aload_n 0, 1) := by decide +kernel
theorem dX3_worked_51 : decode cX3_worked 51 = .ok (.getfield 20, 3) := by decide +kernel
theorem dX3_worked_54 : decode cX3_worked 54 = .ok (.iload 4, 2) := by decide +kernel
theorem dX3_worked_56 : decode cX3_worked 56 = .ok (.iconst 1, 1) := by decide +kernel
theorem dX3_worked_57 : decode cX3_worked 57 = .ok (.isub, 1) := by decide +kernel
theorem dX3_worked_58 : decode cX3_worked 58 = .ok (.iaload, 1) := by decide +kernel
theorem dX3_worked_59 : decode cX3_worked 59 = .ok (.ifCond .ne 7, 3) := by decide +kernel
theorem dX3_worked_62 : decode cX3_worked 62 = .ok (.iconst 1, 1) := by decide +kernel
theorem dX3_worked_63 : decode cX3_worked 63 = .ok (.goto 4, 3) := by decide +kernel
theorem dX3_worked_66 : decode cX3_worked 66 = .ok (.iconst 0, 1) := by decide +kernel
theorem dX3_worked_67 : decode cX3_worked 67 = .ok (.iastore, 1) := by decide +kernel
theorem dX3_worked_68 : decode cX3_worked 68 = .ok (.goto 91, 3) := by decide +kernel
theorem dX3_worked_71 : decode cX3_worked 71 = .ok (.iload 6, 2) := by decide +kernel
theorem dX3_worked_73 : decode cX3_worked 73 = .ok (.bipush (-3), 2) := by decide +kernel
theorem dX3_worked_75 : decode cX3_worked 75 = .ok (.if_icmp .ge 46, 3) := by decide +kernel
theorem dX3_worked_78 : decode cX3_worked 78 = .ok (.iload 4, 2) := by decide +kernel
theorem dX3_worked_80 : decode cX3_worked 80 = .ok (.iconst 2, 1) := by decide +kernel
theorem dX3_worked_81 : decode cX3_worked 81 = .ok (.if_icmp .lt 40, 3) := by decide +kernel
theorem dX3_worked_84 : decode cX3_worked 84 = .ok (.iinc 4 (-1), 3) := by decide +kernel
theorem dX3_worked_87 : decode cX3_worked 87 = .ok (.aload_n 0, 1) := by decide +kernel
theorem dX3_worked_88 : decode cX3_worked 88 = .ok (.getfield 20, 3) := by decide +kernel
theorem dX3_worked_91 : decode cX3_worked 91 = .ok (.iload 4, 2) := by decide +kernel
theorem dX3_worked_93 : decode cX3_worked 93 = .ok (.iconst 1, 1) := by decide +kernel
theorem dX3_worked_94 : decode cX3_worked 94 = .ok (.isub, 1) := by decide +kernel
theorem dX3_worked_95 : decode cX3_worked 95 = .ok (.iload 6, 2) := by decide +kernel
theorem dX3_worked_97 : decode cX3_worked 97 = .ok (.ineg, 1) := by decide +kernel
theorem dX3_worked_98 : decode cX3_worked 98 = .ok (.aload_n 0, 1) := by decide +kernel
theorem dX3_worked_99 : decode cX3_worked 99 = .ok (.getfield 20, 3) := by decide +kernel
theorem dX3_worked_102 : decode cX3_worked 102 = .ok (.iload 4, 2) := by decide +kernel
theorem dX3_worked_104 : decode cX3_worked 104 = .ok (.iconst 1, 1) := by decide +kernel
theorem dX3_worked_105 : decode cX3_worked 105 = .ok (.isub, 1) := by decide +kernel
theorem dX3_worked_106 : decode cX3_worked 106 = .ok (.iaload, 1) := by decide +kernel
theorem dX3_worked_107 : decode cX3_worked 107 = .ok (.aload_n 0, 1) := by decide +kernel
theorem dX3_worked_108 : decode cX3_worked 108 = .ok (.getfield 20, 3) := by decide +kernel
theorem dX3_worked_111 : decode cX3_worked 111 = .ok (.iload 4, 2) := by decide +kernel
theorem dX3_worked_113 : decode cX3_worked 113 = .ok (.iaload, 1) := by decide +kernel
theorem dX3_worked_114 : decode cX3_worked 114 = .ok (.invokestatic 60, 3) := by decide +kernel
theorem dX3_worked_117 : decode cX3_worked 117 = .ok (.iastore, 1) := by decide +kernel
theorem dX3_worked_118 : decode cX3_worked 118 = .ok (.goto 41, 3) := by decide +kernel
theorem dX3_worked_121 : decode cX3_worked 121 = .ok (.iload 4, 2) := by decide +kernel
theorem dX3_worked_123 : decode cX3_worked 123 = .ok (.aload_n 0, 1) := by decide +kernel
theorem dX3_worked_124 : decode cX3_worked 124 = .ok (.getfield 20, 3) := by decide +kernel
theorem dX3_worked_127 : decode cX3_worked 127 = .ok (.arraylength, 1) := by decide +kernel
theorem dX3_worked_128 : decode cX3_worked 128 = .ok (.if_icmp .ge 31, 3) := by decide +kernel
theorem dX3_worked_131 : decode cX3_worked 131 = .ok (.aload_n 0, 1) := by decide +kernel
theorem dX3_worked_132 : decode cX3_worked 132 = .ok (.getfield 20, 3) := by decide +kernel
theorem dX3_worked_135 : decode cX3_worked 135 = .ok (.iload 4, 2) := by decide +kernel
theorem dX3_worked_137 : decode cX3_worked 137 = .ok (.iload 6, 2) := by decide +kernel
theorem dX3_worked_139 : decode cX3_worked 139 = .ok (.ifCond .lt 8, 3) := by decide +kernel
theorem dX3_worked_142 : decode cX3_worked 142 = .ok (.iload 6, 2) := by decide +kernel
theorem dX3_worked_144 : decode cX3_worked 144 = .ok (.goto 11, 3) := by decide +kernel
theorem dX3_worked_147 : decode cX3_worked 147 = .ok (.iload 6, 2) := by decide +kernel
theorem dX3_worked_149 : decode cX3_worked 149 = .ok (.iload_n 1, 1) := by decide +kernel
theorem dX3_worked_150 : decode cX3_worked 150 = .ok (.iload_n 2, 1) := by decide +kernel
theorem dX3_worked_151 : decode cX3_worked 151 = .ok (.iload_n 3, 1) := by decide +kernel
theorem dX3_worked_152 : decode cX3_worked 152 = .ok (.invokestatic 63, 3) := by decide +kernel
theorem dX3_worked_155 : decode cX3_worked 155 = .ok (.iastore, 1) := by decide +kernel
theorem dX3_worked_156 : decode cX3_worked 156 = .ok (.iinc 4 1, 3) := by decide +kernel
theorem dX3_worked_159 : decode cX3_worked 159 = .ok (.iinc 5 1, 3) := by decide +kernel
theorem dX3_worked_162 : decode cX3_worked 162 = .ok (.goto (-156), 3) := by decide +kernel
theorem dX3_worked_165 : decode cX3_worked 165 = .ok (.iload 4, 2) := by decide +kernel
theorem dX3_worked_167 : decode cX3_worked 167 = .ok (.ifCond .le 12, 3) := by decide +kernel
theorem dX3_worked_170 : decode cX3_worked 170 = .ok (.aload_n 0, 1) := by decide +kernel
theorem dX3_worked_171 : decode cX3_worked 171 = .ok (.getfield 20, 3) := by decide +kernel
theorem dX3_worked_174 : decode cX3_worked 174 = .ok (.iconst 0, 1) := by decide +kernel
theorem dX3_worked_175 : decode cX3_worked 175 = .ok (.iaload, 1) := by decide +kernel
theorem dX3_worked_176 : decode cX3_worked 176 = .ok (.goto 4, 3) := by decide +kernel
theorem dX3_worked_179 : decode cX3_worked 179 = .ok (.iconst 0, 1) := by decide +kernel
theorem dX3_worked_180 : decode cX3_worked 180 = .ok (.ireturn, 1) := by decide +kernel
theorem dX3_named_0 : decode cX3_named 0 = .ok (.iload_n 0, 1) := by decide +kernel
theorem dX3_named_1 : decode cX3_named 1 = .ok (.iconst (-1), 1) := by decide +kernel
theorem dX3_named_2 : decode cX3_named 2 = .ok (.if_icmp .ne 5, 3) := by decide +kernel
theorem dX3_named_5 : decode cX3_named 5 = .ok (.iload_n 1, 1) := by decide +kernel
theorem dX3_named_6 : decode cX3_named 6 = .ok (.ireturn, 1) := by decide +kernel
theorem dX3_named_7 : decode cX3_named 7 = .ok (.iload_n 0, 1) := by decide +kernel
theorem dX3_named_8 : decode cX3_named 8 = .ok (.bipush (-2), 2) := by decide +kernel
theorem dX3_named_10 : decode cX3_named 10 = .ok (.if_icmp .ne 7, 3) := by decide +kernel
theorem dX3_named_13 : decode cX3_named 13 = .ok (.iload_n 2, 1) := by decide +kernel
theorem dX3_named_14 : decode cX3_named 14 = .ok (.goto 4, 3) := by decide +kernel
theorem dX3_named_17 : decode cX3_named 17 = .ok (.iload_n 3, 1) := by decide +kernel
theorem dX3_named_18 : decode cX3_named 18 = .ok (.ireturn, 1) := by decide +kernel
theorem dX3_joined_0 : decode cX3_joined 0 = .ok (.iload_n 0, 1) := by decide +kernel
theorem dX3_joined_1 : decode cX3_joined 1 = .ok (.lookupswitch 168 #[(38, 97), (42, 152), (43, 144), (45, 148), (47, 156), (60, 111), (61, 122), (62, 133), (124, 83)], 83) := by decide +kernel
theorem dX3_joined_84 : decode cX3_joined 84 = .ok (.iload_n 1, 1) := by decide +kernel
theorem dX3_joined_85 : decode cX3_joined 85 = .ok (.ifCond .ne 7, 3) := by decide +kernel
theorem dX3_joined_88 : decode cX3_joined 88 = .ok (.iload_n 2, 1) := by decide +kernel
theorem dX3_joined_89 : decode cX3_joined 89 = .ok (.ifCond .eq 7, 3) := by decide +kernel
theorem dX3_joined_92 : decode cX3_joined 92 = .ok (.iconst 1, 1) := by decide +kernel
theorem dX3_joined_93 : decode cX3_joined 93 = .ok (.goto 4, 3) := by decide +kernel
theorem dX3_joined_96 : decode cX3_joined 96 = .ok (.iconst 0, 1) := by decide +kernel
theorem dX3_joined_97 : decode cX3_joined 97 = .ok (.ireturn, 1) := by decide +kernel
theorem dX3_joined_98 : decode cX3_joined 98 = .ok (.iload_n 1, 1) := by decide +kernel
theorem dX3_joined_99 : decode cX3_joined 99 = .ok (.ifCond .eq 11, 3) := by decide +kernel
theorem dX3_joined_102 : decode cX3_joined 102 = .ok (.iload_n 2, 1) := by decide +kernel
theorem dX3_joined_103 : decode cX3_joined 103 = .ok (.ifCond .eq 7, 3) := by decide +kernel
theorem dX3_joined_106 : decode cX3_joined 106 = .ok (.iconst 1, 1) := by decide +kernel
theorem dX3_joined_107 : decode cX3_joined 107 = .ok (.goto 4, 3) := by decide +kernel
theorem dX3_joined_110 : decode cX3_joined 110 = .ok (.iconst 0, 1) := by decide +kernel
theorem dX3_joined_111 : decode cX3_joined 111 = .ok (.ireturn, 1) := by decide +kernel
theorem dX3_joined_112 : decode cX3_joined 112 = .ok (.iload_n 1, 1) := by decide +kernel
theorem dX3_joined_113 : decode cX3_joined 113 = .ok (.iload_n 2, 1) := by decide +kernel
theorem dX3_joined_114 : decode cX3_joined 114 = .ok (.if_icmp .ge 7, 3) := by decide +kernel
theorem dX3_joined_117 : decode cX3_joined 117 = .ok (.iconst 1, 1) := by decide +kernel
theorem dX3_joined_118 : decode cX3_joined 118 = .ok (.goto 4, 3) := by decide +kernel
theorem dX3_joined_121 : decode cX3_joined 121 = .ok (.iconst 0, 1) := by decide +kernel
theorem dX3_joined_122 : decode cX3_joined 122 = .ok (.ireturn, 1) := by decide +kernel
theorem dX3_joined_123 : decode cX3_joined 123 = .ok (.iload_n 1, 1) := by decide +kernel
theorem dX3_joined_124 : decode cX3_joined 124 = .ok (.iload_n 2, 1) := by decide +kernel
theorem dX3_joined_125 : decode cX3_joined 125 = .ok (.if_icmp .ne 7, 3) := by decide +kernel
theorem dX3_joined_128 : decode cX3_joined 128 = .ok (.iconst 1, 1) := by decide +kernel
theorem dX3_joined_129 : decode cX3_joined 129 = .ok (.goto 4, 3) := by decide +kernel
theorem dX3_joined_132 : decode cX3_joined 132 = .ok (.iconst 0, 1) := by decide +kernel
theorem dX3_joined_133 : decode cX3_joined 133 = .ok (.ireturn, 1) := by decide +kernel
theorem dX3_joined_134 : decode cX3_joined 134 = .ok (.iload_n 1, 1) := by decide +kernel
theorem dX3_joined_135 : decode cX3_joined 135 = .ok (.iload_n 2, 1) := by decide +kernel
theorem dX3_joined_136 : decode cX3_joined 136 = .ok (.if_icmp .le 7, 3) := by decide +kernel
theorem dX3_joined_139 : decode cX3_joined 139 = .ok (.iconst 1, 1) := by decide +kernel
theorem dX3_joined_140 : decode cX3_joined 140 = .ok (.goto 4, 3) := by decide +kernel
theorem dX3_joined_143 : decode cX3_joined 143 = .ok (.iconst 0, 1) := by decide +kernel
theorem dX3_joined_144 : decode cX3_joined 144 = .ok (.ireturn, 1) := by decide +kernel
theorem dX3_joined_145 : decode cX3_joined 145 = .ok (.iload_n 1, 1) := by decide +kernel
theorem dX3_joined_146 : decode cX3_joined 146 = .ok (.iload_n 2, 1) := by decide +kernel
theorem dX3_joined_147 : decode cX3_joined 147 = .ok (.iadd, 1) := by decide +kernel
theorem dX3_joined_148 : decode cX3_joined 148 = .ok (.ireturn, 1) := by decide +kernel
theorem dX3_joined_149 : decode cX3_joined 149 = .ok (.iload_n 1, 1) := by decide +kernel
theorem dX3_joined_150 : decode cX3_joined 150 = .ok (.iload_n 2, 1) := by decide +kernel
theorem dX3_joined_151 : decode cX3_joined 151 = .ok (.isub, 1) := by decide +kernel
theorem dX3_joined_152 : decode cX3_joined 152 = .ok (.ireturn, 1) := by decide +kernel
theorem dX3_joined_153 : decode cX3_joined 153 = .ok (.iload_n 1, 1) := by decide +kernel
theorem dX3_joined_154 : decode cX3_joined 154 = .ok (.iload_n 2, 1) := by decide +kernel
theorem dX3_joined_155 : decode cX3_joined 155 = .ok (.imul, 1) := by decide +kernel
theorem dX3_joined_156 : decode cX3_joined 156 = .ok (.ireturn, 1) := by decide +kernel
theorem dX3_joined_157 : decode cX3_joined 157 = .ok (.iload_n 2, 1) := by decide +kernel
theorem dX3_joined_158 : decode cX3_joined 158 = .ok (.ifCond .ne 7, 3) := by decide +kernel
theorem dX3_joined_161 : decode cX3_joined 161 = .ok (.iconst 0, 1) := by decide +kernel
theorem dX3_joined_162 : decode cX3_joined 162 = .ok (.goto 6, 3) := by decide +kernel
theorem dX3_joined_165 : decode cX3_joined 165 = .ok (.iload_n 1, 1) := by decide +kernel
theorem dX3_joined_166 : decode cX3_joined 166 = .ok (.iload_n 2, 1) := by decide +kernel
theorem dX3_joined_167 : decode cX3_joined 167 = .ok (.idiv, 1) := by decide +kernel
theorem dX3_joined_168 : decode cX3_joined 168 = .ok (.ireturn, 1) := by decide +kernel
theorem dX3_joined_169 : decode cX3_joined 169 = .ok (.iload_n 2, 1) := by decide +kernel
theorem dX3_joined_170 : decode cX3_joined 170 = .ok (.ifCond .ne 7, 3) := by decide +kernel
theorem dX3_joined_173 : decode cX3_joined 173 = .ok (.iconst 0, 1) := by decide +kernel
theorem dX3_joined_174 : decode cX3_joined 174 = .ok (.goto 6, 3) := by decide +kernel
theorem dX3_joined_177 : decode cX3_joined 177 = .ok (.iload_n 1, 1) := by decide +kernel
theorem dX3_joined_178 : decode cX3_joined 178 = .ok (.iload_n 2, 1) := by decide +kernel
theorem dX3_joined_179 : decode cX3_joined 179 = .ok (.irem, 1) := by decide +kernel
theorem dX3_joined_180 : decode cX3_joined 180 = .ok (.ireturn, 1) := by decide +kernel
theorem dX4_init_0 : decode cX4_init 0 = .ok (.aload_n 0, 1) := by decide +kernel
theorem dX4_init_1 : decode cX4_init 1 = .ok (.invokespecial 3, 3) := by decide +kernel
theorem dX4_init_4 : decode cX4_init 4 = .ok (.aload_n 0, 1) := by decide +kernel
theorem dX4_init_5 : decode cX4_init 5 = .ok (.iconst 1, 1) := by decide +kernel
theorem dX4_init_6 : decode cX4_init 6 = .ok (.putfield 9, 3) := by decide +kernel
theorem dX4_init_9 : decode cX4_init 9 = .ok (.return_, 1) := by decide +kernel
theorem dX4_turnInto_0 : decode cX4_turnInto 0 = .ok (.aload_n 0, 1) := by decide +kernel
theorem dX4_turnInto_1 : decode cX4_turnInto 1 = .ok (.iload_n 1, 1) := by decide +kernel
theorem dX4_turnInto_2 : decode cX4_turnInto 2 = .ok (.bipush 10, 2) := by decide +kernel
theorem dX4_turnInto_4 : decode cX4_turnInto 4 = .ok (.idiv, 1) := by decide +kernel
theorem dX4_turnInto_5 : decode cX4_turnInto 5 = .ok (.putfield 15, 3) := by decide +kernel
theorem dX4_turnInto_8 : decode cX4_turnInto 8 = .ok (.aload_n 0, 1) := by decide +kernel
theorem dX4_turnInto_9 : decode cX4_turnInto 9 = .ok (.iload_n 1, 1) := by decide +kernel
theorem dX4_turnInto_10 : decode cX4_turnInto 10 = .ok (.bipush 10, 2) := by decide +kernel
theorem dX4_turnInto_12 : decode cX4_turnInto 12 = .ok (.irem, 1) := by decide +kernel
theorem dX4_turnInto_13 : decode cX4_turnInto 13 = .ok (.putfield 18, 3) := by decide +kernel
theorem dX4_turnInto_16 : decode cX4_turnInto 16 = .ok (.return_, 1) := by decide +kernel
theorem dX4_beLike_0 : decode cX4_beLike 0 = .ok (.aload_n 0, 1) := by decide +kernel
theorem dX4_beLike_1 : decode cX4_beLike 1 = .ok (.aload_n 1, 1) := by decide +kernel
theorem dX4_beLike_2 : decode cX4_beLike 2 = .ok (.getfield 15, 3) := by decide +kernel
theorem dX4_beLike_5 : decode cX4_beLike 5 = .ok (.putfield 15, 3) := by decide +kernel
theorem dX4_beLike_8 : decode cX4_beLike 8 = .ok (.aload_n 0, 1) := by decide +kernel
theorem dX4_beLike_9 : decode cX4_beLike 9 = .ok (.aload_n 1, 1) := by decide +kernel
theorem dX4_beLike_10 : decode cX4_beLike 10 = .ok (.getfield 18, 3) := by decide +kernel
theorem dX4_beLike_13 : decode cX4_beLike 13 = .ok (.putfield 18, 3) := by decide +kernel
theorem dX4_beLike_16 : decode cX4_beLike 16 = .ok (.aload_n 0, 1) := by decide +kernel
theorem dX4_beLike_17 : decode cX4_beLike 17 = .ok (.aload_n 1, 1) := by decide +kernel
theorem dX4_beLike_18 : decode cX4_beLike 18 = .ok (.getfield 9, 3) := by decide +kernel
theorem dX4_beLike_21 : decode cX4_beLike 21 = .ok (.putfield 9, 3) := by decide +kernel
theorem dX4_beLike_24 : decode cX4_beLike 24 = .ok (.aload_n 0, 1) := by decide +kernel
theorem dX4_beLike_25 : decode cX4_beLike 25 = .ok (.aload_n 1, 1) := by decide +kernel
theorem dX4_beLike_26 : decode cX4_beLike 26 = .ok (.getfield 21, 3) := by decide +kernel
theorem dX4_beLike_29 : decode cX4_beLike 29 = .ok (.putfield 21, 3) := by decide +kernel
theorem dX4_beLike_32 : decode cX4_beLike 32 = .ok (.return_, 1) := by decide +kernel
theorem dX4_blinks_0 : decode cX4_blinks 0 = .ok (.aload_n 0, 1) := by decide +kernel
theorem dX4_blinks_1 : decode cX4_blinks 1 = .ok (.getfield 15, 3) := by decide +kernel
theorem dX4_blinks_4 : decode cX4_blinks 4 = .ok (.tableswitch 123 2 6 #[36, 43, 54, 75, 99], 36) := by decide +kernel
theorem dX4_blinks_40 : decode cX4_blinks 40 = .ok (.aload_n 0, 1) := by decide +kernel
theorem dX4_blinks_41 : decode cX4_blinks 41 = .ok (.iload_n 1, 1) := by decide +kernel
theorem dX4_blinks_42 : decode cX4_blinks 42 = .ok (.iload_n 2, 1) := by decide +kernel
theorem dX4_blinks_43 : decode cX4_blinks 43 = .ok (.invokevirtual 24, 3) := by decide +kernel
theorem dX4_blinks_46 : decode cX4_blinks 46 = .ok (.ireturn, 1) := by decide +kernel
theorem dX4_blinks_47 : decode cX4_blinks 47 = .ok (.iload_n 2, 1) := by decide +kernel
theorem dX4_blinks_48 : decode cX4_blinks 48 = .ok (.iconst 2, 1) := by decide +kernel
theorem dX4_blinks_49 : decode cX4_blinks 49 = .ok (.if_icmp .ge 7, 3) := by decide +kernel
theorem dX4_blinks_52 : decode cX4_blinks 52 = .ok (.iconst 1, 1) := by decide +kernel
theorem dX4_blinks_53 : decode cX4_blinks 53 = .ok (.goto 4, 3) := by decide +kernel
theorem dX4_blinks_56 : decode cX4_blinks 56 = .ok (.iconst 0, 1) := by decide +kernel
theorem dX4_blinks_57 : decode cX4_blinks 57 = .ok (.ireturn, 1) := by decide +kernel
theorem dX4_blinks_58 : decode cX4_blinks 58 = .ok (.iload_n 2, 1) := by decide +kernel
theorem dX4_blinks_59 : decode cX4_blinks 59 = .ok (.ifCond .eq 14, 3) := by decide +kernel
theorem dX4_blinks_62 : decode cX4_blinks 62 = .ok (.iload_n 1, 1) := by decide +kernel
theorem dX4_blinks_63 : decode cX4_blinks 63 = .ok (.bipush 12, 2) := by decide +kernel
theorem dX4_blinks_65 : decode cX4_blinks 65 = .ok (.irem, 1) := by decide +kernel
theorem dX4_blinks_66 : decode cX4_blinks 66 = .ok (.aload_n 0, 1) := by decide +kernel
theorem dX4_blinks_67 : decode cX4_blinks 67 = .ok (.getfield 18, 3) := by decide +kernel
theorem dX4_blinks_70 : decode cX4_blinks 70 = .ok (.if_icmp .ne 7, 3) := by decide +kernel
theorem dX4_blinks_73 : decode cX4_blinks 73 = .ok (.iconst 1, 1) := by decide +kernel
theorem dX4_blinks_74 : decode cX4_blinks 74 = .ok (.goto 4, 3) := by decide +kernel
theorem dX4_blinks_77 : decode cX4_blinks 77 = .ok (.iconst 0, 1) := by decide +kernel
theorem dX4_blinks_78 : decode cX4_blinks 78 = .ok (.ireturn, 1) := by decide +kernel
theorem dX4_blinks_79 : decode cX4_blinks 79 = .ok (.aload_n 0, 1) := by decide +kernel
theorem dX4_blinks_80 : decode cX4_blinks 80 = .ok (.iload_n 1, 1) := by decide +kernel
theorem dX4_blinks_81 : decode cX4_blinks 81 = .ok (.iload_n 2, 1) := by decide +kernel
theorem dX4_blinks_82 : decode cX4_blinks 82 = .ok (.invokevirtual 24, 3) := by decide +kernel
theorem dX4_blinks_85 : decode cX4_blinks 85 = .ok (.ifCond .eq 16, 3) := by decide +kernel
theorem dX4_blinks_88 : decode cX4_blinks 88 = .ok (.aload_n 0, 1) := by decide +kernel
theorem dX4_blinks_89 : decode cX4_blinks 89 = .ok (.getfield 18, 3) := by decide +kernel
theorem dX4_blinks_92 : decode cX4_blinks 92 = .ok (.bipush 6, 2) := by decide +kernel
theorem dX4_blinks_94 : decode cX4_blinks 94 = .ok (.if_icmp .le 7, 3) := by decide +kernel
theorem dX4_blinks_97 : decode cX4_blinks 97 = .ok (.iconst 1, 1) := by decide +kernel
theorem dX4_blinks_98 : decode cX4_blinks 98 = .ok (.goto 4, 3) := by decide +kernel
theorem dX4_blinks_101 : decode cX4_blinks 101 = .ok (.iconst 0, 1) := by decide +kernel
theorem dX4_blinks_102 : decode cX4_blinks 102 = .ok (.ireturn, 1) := by decide +kernel
theorem dX4_blinks_103 : decode cX4_blinks 103 = .ok (.iload_n 2, 1) := by decide +kernel
theorem dX4_blinks_104 : decode cX4_blinks 104 = .ok (.ifCond .eq 17, 3) := by decide +kernel
theorem dX4_blinks_107 : decode cX4_blinks 107 = .ok (.iload_n 1, 1) := by decide +kernel
theorem dX4_blinks_108 : decode cX4_blinks 108 = .ok (.bipush 7, 2) := by decide +kernel
theorem dX4_blinks_110 : decode cX4_blinks 110 = .ok (.irem, 1) := by decide +kernel
theorem dX4_blinks_111 : decode cX4_blinks 111 = .ok (.aload_n 0, 1) := by decide +kernel
theorem dX4_blinks_112 : decode cX4_blinks 112 = .ok (.getfield 18, 3) := by decide +kernel
theorem dX4_blinks_115 : decode cX4_blinks 115 = .ok (.bipush 7, 2) := by decide +kernel
theorem dX4_blinks_117 : decode cX4_blinks 117 = .ok (.irem, 1) := by decide +kernel
theorem dX4_blinks_118 : decode cX4_blinks 118 = .ok (.if_icmp .ne 7, 3) := by decide +kernel
theorem dX4_blinks_121 : decode cX4_blinks 121 = .ok (.iconst 1, 1) := by decide +kernel
theorem dX4_blinks_122 : decode cX4_blinks 122 = .ok (.goto 4, 3) := by decide +kernel
theorem dX4_blinks_125 : decode cX4_blinks 125 = .ok (.iconst 0, 1) := by decide +kernel
theorem dX4_blinks_126 : decode cX4_blinks 126 = .ok (.ireturn, 1) := by decide +kernel
theorem dX4_blinks_127 : decode cX4_blinks 127 = .ok (.iload_n 2, 1) := by decide +kernel
theorem dX4_blinks_128 : decode cX4_blinks 128 = .ok (.ifCond .ne 7, 3) := by decide +kernel
theorem dX4_blinks_131 : decode cX4_blinks 131 = .ok (.iconst 1, 1) := by decide +kernel
theorem dX4_blinks_132 : decode cX4_blinks 132 = .ok (.goto 4, 3) := by decide +kernel
theorem dX4_blinks_135 : decode cX4_blinks 135 = .ok (.iconst 0, 1) := by decide +kernel
theorem dX4_blinks_136 : decode cX4_blinks 136 = .ok (.ireturn, 1) := by decide +kernel
theorem dX4_deafBlinks_0 : decode cX4_deafBlinks 0 = .ok (.iload_n 2, 1) := by decide +kernel
theorem dX4_deafBlinks_1 : decode cX4_deafBlinks 1 = .ok (.ifCond .ne 19, 3) := by decide +kernel
theorem dX4_deafBlinks_4 : decode cX4_deafBlinks 4 = .ok (.iload_n 1, 1) := by decide +kernel
theorem dX4_deafBlinks_5 : decode cX4_deafBlinks 5 = .ok (.iconst 3, 1) := by decide +kernel
theorem dX4_deafBlinks_6 : decode cX4_deafBlinks 6 = .ok (.irem, 1) := by decide +kernel
theorem dX4_deafBlinks_7 : decode cX4_deafBlinks 7 = .ok (.aload_n 0, 1) := by decide +kernel
theorem dX4_deafBlinks_8 : decode cX4_deafBlinks 8 = .ok (.getfield 18, 3) := by decide +kernel
theorem dX4_deafBlinks_11 : decode cX4_deafBlinks 11 = .ok (.iconst 3, 1) := by decide +kernel
theorem dX4_deafBlinks_12 : decode cX4_deafBlinks 12 = .ok (.irem, 1) := by decide +kernel
theorem dX4_deafBlinks_13 : decode cX4_deafBlinks 13 = .ok (.if_icmp .eq 7, 3) := by decide +kernel
theorem dX4_deafBlinks_16 : decode cX4_deafBlinks 16 = .ok (.iconst 1, 1) := by decide +kernel
theorem dX4_deafBlinks_17 : decode cX4_deafBlinks 17 = .ok (.goto 4, 3) := by decide +kernel
theorem dX4_deafBlinks_20 : decode cX4_deafBlinks 20 = .ok (.iconst 0, 1) := by decide +kernel
theorem dX4_deafBlinks_21 : decode cX4_deafBlinks 21 = .ok (.ireturn, 1) := by decide +kernel
theorem dX4_tries_0 : decode cX4_tries 0 = .ok (.aload_n 0, 1) := by decide +kernel
theorem dX4_tries_1 : decode cX4_tries 1 = .ok (.getfield 15, 3) := by decide +kernel
theorem dX4_tries_4 : decode cX4_tries 4 = .ok (.tableswitch 60 1 6 #[40, 60, 45, 49, 56, 58], 40) := by decide +kernel
theorem dX4_tries_44 : decode cX4_tries 44 = .ok (.aload_n 0, 1) := by decide +kernel
theorem dX4_tries_45 : decode cX4_tries 45 = .ok (.invokevirtual 28, 3) := by decide +kernel
theorem dX4_tries_48 : decode cX4_tries 48 = .ok (.ireturn, 1) := by decide +kernel
theorem dX4_tries_49 : decode cX4_tries 49 = .ok (.iconst 1, 1) := by decide +kernel
theorem dX4_tries_50 : decode cX4_tries 50 = .ok (.iload_n 1, 1) := by decide +kernel
theorem dX4_tries_51 : decode cX4_tries 51 = .ok (.iadd, 1) := by decide +kernel
theorem dX4_tries_52 : decode cX4_tries 52 = .ok (.ireturn, 1) := by decide +kernel
theorem dX4_tries_53 : decode cX4_tries 53 = .ok (.iconst 2, 1) := by decide +kernel
theorem dX4_tries_54 : decode cX4_tries 54 = .ok (.aload_n 0, 1) := by decide +kernel
theorem dX4_tries_55 : decode cX4_tries 55 = .ok (.invokevirtual 28, 3) := by decide +kernel
theorem dX4_tries_58 : decode cX4_tries 58 = .ok (.imul, 1) := by decide +kernel
theorem dX4_tries_59 : decode cX4_tries 59 = .ok (.ireturn, 1) := by decide +kernel
theorem dX4_tries_60 : decode cX4_tries 60 = .ok (.iconst 4, 1) := by decide +kernel
theorem dX4_tries_61 : decode cX4_tries 61 = .ok (.ireturn, 1) := by decide +kernel
theorem dX4_tries_62 : decode cX4_tries 62 = .ok (.iconst 0, 1) := by decide +kernel
theorem dX4_tries_63 : decode cX4_tries 63 = .ok (.ireturn, 1) := by decide +kernel
theorem dX4_tries_64 : decode cX4_tries 64 = .ok (.iconst 1, 1) := by decide +kernel
theorem dX4_tries_65 : decode cX4_tries 65 = .ok (.ireturn, 1) := by decide +kernel
theorem dX4_bankerTries_0 : decode cX4_bankerTries 0 = .ok (.iconst 2, 1) := by decide +kernel
theorem dX4_bankerTries_1 : decode cX4_bankerTries 1 = .ok (.aload_n 0, 1) := by decide +kernel
theorem dX4_bankerTries_2 : decode cX4_bankerTries 2 = .ok (.getfield 18, 3) := by decide +kernel
theorem dX4_bankerTries_5 : decode cX4_bankerTries 5 = .ok (.iconst 5, 1) := by decide +kernel
theorem dX4_bankerTries_6 : decode cX4_bankerTries 6 = .ok (.idiv, 1) := by decide +kernel
theorem dX4_bankerTries_7 : decode cX4_bankerTries 7 = .ok (.iadd, 1) := by decide +kernel
theorem dX4_bankerTries_8 : decode cX4_bankerTries 8 = .ok (.ireturn, 1) := by decide +kernel
theorem dX5_init_0 : decode cX5_init 0 = .ok (.aload_n 0, 1) := by decide +kernel
theorem dX5_init_1 : decode cX5_init 1 = .ok (.invokespecial 3, 3) := by decide +kernel
theorem dX5_init_4 : decode cX5_init 4 = .ok (.aload_n 0, 1) := by decide +kernel
theorem dX5_init_5 : decode cX5_init 5 = .ok (.new 9, 3) := by decide +kernel
theorem dX5_init_8 : decode cX5_init 8 = .ok (.dup, 1) := by decide +kernel
theorem dX5_init_9 : decode cX5_init 9 = .ok (.bipush 60, 2) := by decide +kernel
theorem dX5_init_11 : decode cX5_init 11 = .ok (.invokespecial 11, 3) := by decide +kernel
theorem dX5_init_14 : decode cX5_init 14 = .ok (.putfield 14, 3) := by decide +kernel
theorem dX5_init_17 : decode cX5_init 17 = .ok (.aload_n 0, 1) := by decide +kernel
theorem dX5_init_18 : decode cX5_init 18 = .ok (.aload_n 1, 1) := by decide +kernel
theorem dX5_init_19 : decode cX5_init 19 = .ok (.putfield 20, 3) := by decide +kernel
theorem dX5_init_22 : decode cX5_init 22 = .ok (.return_, 1) := by decide +kernel
theorem dX5_reads_0 : decode cX5_reads 0 = .ok (.aload_n 0, 1) := by decide +kernel
theorem dX5_reads_1 : decode cX5_reads 1 = .ok (.iload_n 1, 1) := by decide +kernel
theorem dX5_reads_2 : decode cX5_reads 2 = .ok (.putfield 23, 3) := by decide +kernel
theorem dX5_reads_5 : decode cX5_reads 5 = .ok (.aload_n 0, 1) := by decide +kernel
theorem dX5_reads_6 : decode cX5_reads 6 = .ok (.iconst 0, 1) := by decide +kernel
theorem dX5_reads_7 : decode cX5_reads 7 = .ok (.putfield 27, 3) := by decide +kernel
theorem dX5_reads_10 : decode cX5_reads 10 = .ok (.aload_n 0, 1) := by decide +kernel
theorem dX5_reads_11 : decode cX5_reads 11 = .ok (.getfield 14, 3) := by decide +kernel
theorem dX5_reads_14 : decode cX5_reads 14 = .ok (.invokevirtual 30, 3) := by decide +kernel
theorem dX5_reads_17 : decode cX5_reads 17 = .ok (.aload_n 0, 1) := by decide +kernel
theorem dX5_reads_18 : decode cX5_reads 18 = .ok (.iconst 0, 1) := by decide +kernel
theorem dX5_reads_19 : decode cX5_reads 19 = .ok (.invokevirtual 33, 3) := by decide +kernel
theorem dX5_reads_22 : decode cX5_reads 22 = .ok (.ifCond .eq 21, 3) := by decide +kernel
theorem dX5_reads_25 : decode cX5_reads 25 = .ok (.aload_n 0, 1) := by decide +kernel
theorem dX5_reads_26 : decode cX5_reads 26 = .ok (.getfield 27, 3) := by decide +kernel
theorem dX5_reads_29 : decode cX5_reads 29 = .ok (.aload_n 0, 1) := by decide +kernel
theorem dX5_reads_30 : decode cX5_reads 30 = .ok (.getfield 20, 3) := by decide +kernel
theorem dX5_reads_33 : decode cX5_reads 33 = .ok (.invokevirtual 37, 3) := by decide +kernel
theorem dX5_reads_36 : decode cX5_reads 36 = .ok (.if_icmp .ne 7, 3) := by decide +kernel
theorem dX5_reads_39 : decode cX5_reads 39 = .ok (.iconst 1, 1) := by decide +kernel
theorem dX5_reads_40 : decode cX5_reads 40 = .ok (.goto 4, 3) := by decide +kernel
theorem dX5_reads_43 : decode cX5_reads 43 = .ok (.iconst 0, 1) := by decide +kernel
theorem dX5_reads_44 : decode cX5_reads 44 = .ok (.ireturn, 1) := by decide +kernel
theorem dX5_fault_0 : decode cX5_fault 0 = .ok (.aload_n 0, 1) := by decide +kernel
theorem dX5_fault_1 : decode cX5_fault 1 = .ok (.getfield 27, 3) := by decide +kernel
theorem dX5_fault_4 : decode cX5_fault 4 = .ok (.ireturn, 1) := by decide +kernel
theorem dX5_next_0 : decode cX5_next 0 = .ok (.aload_n 0, 1) := by decide +kernel
theorem dX5_next_1 : decode cX5_next 1 = .ok (.getfield 27, 3) := by decide +kernel
theorem dX5_next_4 : decode cX5_next 4 = .ok (.aload_n 0, 1) := by decide +kernel
theorem dX5_next_5 : decode cX5_next 5 = .ok (.getfield 20, 3) := by decide +kernel
theorem dX5_next_8 : decode cX5_next 8 = .ok (.invokevirtual 37, 3) := by decide +kernel
theorem dX5_next_11 : decode cX5_next 11 = .ok (.if_icmp .ge 17, 3) := by decide +kernel
theorem dX5_next_14 : decode cX5_next 14 = .ok (.aload_n 0, 1) := by decide +kernel
theorem dX5_next_15 : decode cX5_next 15 = .ok (.getfield 20, 3) := by decide +kernel
theorem dX5_next_18 : decode cX5_next 18 = .ok (.aload_n 0, 1) := by decide +kernel
theorem dX5_next_19 : decode cX5_next 19 = .ok (.getfield 27, 3) := by decide +kernel
theorem dX5_next_22 : decode cX5_next 22 = .ok (.invokevirtual 41, 3) := by decide +kernel
theorem dX5_next_25 : decode cX5_next 25 = .ok (.goto 4, 3) := by decide +kernel
theorem dX5_next_28 : decode cX5_next 28 = .ok (.iconst (-1), 1) := by decide +kernel
theorem dX5_next_29 : decode cX5_next 29 = .ok (.ireturn, 1) := by decide +kernel
theorem dX5_takes_0 : decode cX5_takes 0 = .ok (.aload_n 0, 1) := by decide +kernel
theorem dX5_takes_1 : decode cX5_takes 1 = .ok (.invokevirtual 45, 3) := by decide +kernel
theorem dX5_takes_4 : decode cX5_takes 4 = .ok (.iload_n 1, 1) := by decide +kernel
theorem dX5_takes_5 : decode cX5_takes 5 = .ok (.if_icmp .eq 5, 3) := by decide +kernel
theorem dX5_takes_8 : decode cX5_takes 8 = .ok (.iconst 0, 1) := by decide +kernel
theorem dX5_takes_9 : decode cX5_takes 9 = .ok (.ireturn, 1) := by decide +kernel
theorem dX5_takes_10 : decode cX5_takes 10 = .ok (.aload_n 0, 1) := by decide +kernel
theorem dX5_takes_11 : decode cX5_takes 11 = .ok (.dup, 1) := by decide +kernel
theorem dX5_takes_12 : decode cX5_takes 12 = .ok (.getfield 27, 3) := by decide +kernel
theorem dX5_takes_15 : decode cX5_takes 15 = .ok (.iconst 1, 1) := by decide +kernel
theorem dX5_takes_16 : decode cX5_takes 16 = .ok (.iadd, 1) := by decide +kernel
theorem dX5_takes_17 : decode cX5_takes 17 = .ok (.putfield 27, 3) := by decide +kernel
theorem dX5_takes_20 : decode cX5_takes 20 = .ok (.iconst 1, 1) := by decide +kernel
theorem dX5_takes_21 : decode cX5_takes 21 = .ok (.ireturn, 1) := by decide +kernel
theorem dX5_readsAny_0 : decode cX5_readsAny 0 = .ok (.aload_n 0, 1) := by decide +kernel
theorem dX5_readsAny_1 : decode cX5_readsAny 1 = .ok (.iload_n 1, 1) := by decide +kernel
theorem dX5_readsAny_2 : decode cX5_readsAny 2 = .ok (.invokevirtual 48, 3) := by decide +kernel
theorem dX5_readsAny_5 : decode cX5_readsAny 5 = .ok (.istore_n 2, 1) := by decide +kernel
theorem dX5_readsAny_6 : decode cX5_readsAny 6 = .ok (.iconst 0, 1) := by decide +kernel
theorem dX5_readsAny_7 : decode cX5_readsAny 7 = .ok (.istore_n 3, 1) := by decide +kernel
theorem dX5_readsAny_8 : decode cX5_readsAny 8 = .ok (.iload_n 3, 1) := by decide +kernel
theorem dX5_readsAny_9 : decode cX5_readsAny 9 = .ok (.bipush 60, 2) := by decide +kernel
theorem dX5_readsAny_11 : decode cX5_readsAny 11 = .ok (.if_icmp .ge 38, 3) := by decide +kernel
theorem dX5_readsAny_14 : decode cX5_readsAny 14 = .ok (.iload_n 2, 1) := by decide +kernel
theorem dX5_readsAny_15 : decode cX5_readsAny 15 = .ok (.ifCond .eq 34, 3) := by decide +kernel
theorem dX5_readsAny_18 : decode cX5_readsAny 18 = .ok (.aload_n 0, 1) := by decide +kernel
theorem dX5_readsAny_19 : decode cX5_readsAny 19 = .ok (.bipush 124, 2) := by decide +kernel
theorem dX5_readsAny_21 : decode cX5_readsAny 21 = .ok (.invokevirtual 51, 3) := by decide +kernel
theorem dX5_readsAny_24 : decode cX5_readsAny 24 = .ok (.ifCond .eq 25, 3) := by decide +kernel
theorem dX5_readsAny_27 : decode cX5_readsAny 27 = .ok (.aload_n 0, 1) := by decide +kernel
theorem dX5_readsAny_28 : decode cX5_readsAny 28 = .ok (.iload_n 1, 1) := by decide +kernel
theorem dX5_readsAny_29 : decode cX5_readsAny 29 = .ok (.invokevirtual 48, 3) := by decide +kernel
theorem dX5_readsAny_32 : decode cX5_readsAny 32 = .ok (.istore_n 2, 1) := by decide +kernel
theorem dX5_readsAny_33 : decode cX5_readsAny 33 = .ok (.aload_n 0, 1) := by decide +kernel
theorem dX5_readsAny_34 : decode cX5_readsAny 34 = .ok (.getfield 14, 3) := by decide +kernel
theorem dX5_readsAny_37 : decode cX5_readsAny 37 = .ok (.bipush (-124), 2) := by decide +kernel
theorem dX5_readsAny_39 : decode cX5_readsAny 39 = .ok (.invokevirtual 54, 3) := by decide +kernel
theorem dX5_readsAny_42 : decode cX5_readsAny 42 = .ok (.pop, 1) := by decide +kernel
theorem dX5_readsAny_43 : decode cX5_readsAny 43 = .ok (.iinc 3 1, 3) := by decide +kernel
theorem dX5_readsAny_46 : decode cX5_readsAny 46 = .ok (.goto (-38), 3) := by decide +kernel
theorem dX5_readsAny_49 : decode cX5_readsAny 49 = .ok (.iload_n 2, 1) := by decide +kernel
theorem dX5_readsAny_50 : decode cX5_readsAny 50 = .ok (.ireturn, 1) := by decide +kernel
theorem dX5_readsAll_0 : decode cX5_readsAll 0 = .ok (.aload_n 0, 1) := by decide +kernel
theorem dX5_readsAll_1 : decode cX5_readsAll 1 = .ok (.iload_n 1, 1) := by decide +kernel
theorem dX5_readsAll_2 : decode cX5_readsAll 2 = .ok (.invokevirtual 57, 3) := by decide +kernel
theorem dX5_readsAll_5 : decode cX5_readsAll 5 = .ok (.istore_n 2, 1) := by decide +kernel
theorem dX5_readsAll_6 : decode cX5_readsAll 6 = .ok (.iconst 0, 1) := by decide +kernel
theorem dX5_readsAll_7 : decode cX5_readsAll 7 = .ok (.istore_n 3, 1) := by decide +kernel
theorem dX5_readsAll_8 : decode cX5_readsAll 8 = .ok (.iload_n 3, 1) := by decide +kernel
theorem dX5_readsAll_9 : decode cX5_readsAll 9 = .ok (.bipush 60, 2) := by decide +kernel
theorem dX5_readsAll_11 : decode cX5_readsAll 11 = .ok (.if_icmp .ge 38, 3) := by decide +kernel
theorem dX5_readsAll_14 : decode cX5_readsAll 14 = .ok (.iload_n 2, 1) := by decide +kernel
theorem dX5_readsAll_15 : decode cX5_readsAll 15 = .ok (.ifCond .eq 34, 3) := by decide +kernel
theorem dX5_readsAll_18 : decode cX5_readsAll 18 = .ok (.aload_n 0, 1) := by decide +kernel
theorem dX5_readsAll_19 : decode cX5_readsAll 19 = .ok (.bipush 38, 2) := by decide +kernel
theorem dX5_readsAll_21 : decode cX5_readsAll 21 = .ok (.invokevirtual 51, 3) := by decide +kernel
theorem dX5_readsAll_24 : decode cX5_readsAll 24 = .ok (.ifCond .eq 25, 3) := by decide +kernel
theorem dX5_readsAll_27 : decode cX5_readsAll 27 = .ok (.aload_n 0, 1) := by decide +kernel
theorem dX5_readsAll_28 : decode cX5_readsAll 28 = .ok (.iload_n 1, 1) := by decide +kernel
theorem dX5_readsAll_29 : decode cX5_readsAll 29 = .ok (.invokevirtual 57, 3) := by decide +kernel
theorem dX5_readsAll_32 : decode cX5_readsAll 32 = .ok (.istore_n 2, 1) := by decide +kernel
theorem dX5_readsAll_33 : decode cX5_readsAll 33 = .ok (.aload_n 0, 1) := by decide +kernel
theorem dX5_readsAll_34 : decode cX5_readsAll 34 = .ok (.getfield 14, 3) := by decide +kernel
theorem dX5_readsAll_37 : decode cX5_readsAll 37 = .ok (.bipush (-38), 2) := by decide +kernel
theorem dX5_readsAll_39 : decode cX5_readsAll 39 = .ok (.invokevirtual 54, 3) := by decide +kernel
theorem dX5_readsAll_42 : decode cX5_readsAll 42 = .ok (.pop, 1) := by decide +kernel
theorem dX5_readsAll_43 : decode cX5_readsAll 43 = .ok (.iinc 3 1, 3) := by decide +kernel
theorem dX5_readsAll_46 : decode cX5_readsAll 46 = .ok (.goto (-38), 3) := by decide +kernel
theorem dX5_readsAll_49 : decode cX5_readsAll 49 = .ok (.iload_n 2, 1) := by decide +kernel
theorem dX5_readsAll_50 : decode cX5_readsAll 50 = .ok (.ireturn, 1) := by decide +kernel
theorem dX5_readsComparison_0 : decode cX5_readsComparison 0 = .ok (.aload_n 0, 1) := by decide +kernel
theorem dX5_readsComparison_1 : decode cX5_readsComparison 1 = .ok (.iload_n 1, 1) := by decide +kernel
theorem dX5_readsComparison_2 : decode cX5_readsComparison 2 = .ok (.invokevirtual 60, 3) := by decide +kernel
theorem dX5_readsComparison_5 : decode cX5_readsComparison 5 = .ok (.ifCond .ne 5, 3) := by decide +kernel
theorem dX5_readsComparison_8 : decode cX5_readsComparison 8 = .ok (.iconst 0, 1) := by decide +kernel
theorem dX5_readsComparison_9 : decode cX5_readsComparison 9 = .ok (.ireturn, 1) := by decide +kernel
theorem dX5_readsComparison_10 : decode cX5_readsComparison 10 = .ok (.aload_n 0, 1) := by decide +kernel
theorem dX5_readsComparison_11 : decode cX5_readsComparison 11 = .ok (.invokevirtual 45, 3) := by decide +kernel
theorem dX5_readsComparison_14 : decode cX5_readsComparison 14 = .ok (.istore_n 2, 1) := by decide +kernel
theorem dX5_readsComparison_15 : decode cX5_readsComparison 15 = .ok (.iload_n 2, 1) := by decide +kernel
theorem dX5_readsComparison_16 : decode cX5_readsComparison 16 = .ok (.bipush 60, 2) := by decide +kernel
theorem dX5_readsComparison_18 : decode cX5_readsComparison 18 = .ok (.if_icmp .eq 17, 3) := by decide +kernel
theorem dX5_readsComparison_21 : decode cX5_readsComparison 21 = .ok (.iload_n 2, 1) := by decide +kernel
theorem dX5_readsComparison_22 : decode cX5_readsComparison 22 = .ok (.bipush 61, 2) := by decide +kernel
theorem dX5_readsComparison_24 : decode cX5_readsComparison 24 = .ok (.if_icmp .eq 11, 3) := by decide +kernel
theorem dX5_readsComparison_27 : decode cX5_readsComparison 27 = .ok (.iload_n 2, 1) := by decide +kernel
theorem dX5_readsComparison_28 : decode cX5_readsComparison 28 = .ok (.bipush 62, 2) := by decide +kernel
theorem dX5_readsComparison_30 : decode cX5_readsComparison 30 = .ok (.if_icmp .eq 5, 3) := by decide +kernel
theorem dX5_readsComparison_33 : decode cX5_readsComparison 33 = .ok (.iconst 1, 1) := by decide +kernel
theorem dX5_readsComparison_34 : decode cX5_readsComparison 34 = .ok (.ireturn, 1) := by decide +kernel
theorem dX5_readsComparison_35 : decode cX5_readsComparison 35 = .ok (.aload_n 0, 1) := by decide +kernel
theorem dX5_readsComparison_36 : decode cX5_readsComparison 36 = .ok (.dup, 1) := by decide +kernel
theorem dX5_readsComparison_37 : decode cX5_readsComparison 37 = .ok (.getfield 27, 3) := by decide +kernel
theorem dX5_readsComparison_40 : decode cX5_readsComparison 40 = .ok (.iconst 1, 1) := by decide +kernel
theorem dX5_readsComparison_41 : decode cX5_readsComparison 41 = .ok (.iadd, 1) := by decide +kernel
theorem dX5_readsComparison_42 : decode cX5_readsComparison 42 = .ok (.putfield 27, 3) := by decide +kernel
theorem dX5_readsComparison_45 : decode cX5_readsComparison 45 = .ok (.aload_n 0, 1) := by decide +kernel
theorem dX5_readsComparison_46 : decode cX5_readsComparison 46 = .ok (.iload_n 1, 1) := by decide +kernel
theorem dX5_readsComparison_47 : decode cX5_readsComparison 47 = .ok (.invokevirtual 60, 3) := by decide +kernel
theorem dX5_readsComparison_50 : decode cX5_readsComparison 50 = .ok (.ifCond .ne 5, 3) := by decide +kernel
theorem dX5_readsComparison_53 : decode cX5_readsComparison 53 = .ok (.iconst 0, 1) := by decide +kernel
theorem dX5_readsComparison_54 : decode cX5_readsComparison 54 = .ok (.ireturn, 1) := by decide +kernel
theorem dX5_readsComparison_55 : decode cX5_readsComparison 55 = .ok (.aload_n 0, 1) := by decide +kernel
theorem dX5_readsComparison_56 : decode cX5_readsComparison 56 = .ok (.getfield 14, 3) := by decide +kernel
theorem dX5_readsComparison_59 : decode cX5_readsComparison 59 = .ok (.iload_n 2, 1) := by decide +kernel
theorem dX5_readsComparison_60 : decode cX5_readsComparison 60 = .ok (.ineg, 1) := by decide +kernel
theorem dX5_readsComparison_61 : decode cX5_readsComparison 61 = .ok (.invokevirtual 54, 3) := by decide +kernel
theorem dX5_readsComparison_64 : decode cX5_readsComparison 64 = .ok (.pop, 1) := by decide +kernel
theorem dX5_readsComparison_65 : decode cX5_readsComparison 65 = .ok (.iconst 1, 1) := by decide +kernel
theorem dX5_readsComparison_66 : decode cX5_readsComparison 66 = .ok (.ireturn, 1) := by decide +kernel
theorem dX5_readsSum_0 : decode cX5_readsSum 0 = .ok (.aload_n 0, 1) := by decide +kernel
theorem dX5_readsSum_1 : decode cX5_readsSum 1 = .ok (.iload_n 1, 1) := by decide +kernel
theorem dX5_readsSum_2 : decode cX5_readsSum 2 = .ok (.invokevirtual 63, 3) := by decide +kernel
theorem dX5_readsSum_5 : decode cX5_readsSum 5 = .ok (.istore_n 2, 1) := by decide +kernel
theorem dX5_readsSum_6 : decode cX5_readsSum 6 = .ok (.iconst 0, 1) := by decide +kernel
theorem dX5_readsSum_7 : decode cX5_readsSum 7 = .ok (.istore_n 3, 1) := by decide +kernel
theorem dX5_readsSum_8 : decode cX5_readsSum 8 = .ok (.iload_n 3, 1) := by decide +kernel
theorem dX5_readsSum_9 : decode cX5_readsSum 9 = .ok (.bipush 60, 2) := by decide +kernel
theorem dX5_readsSum_11 : decode cX5_readsSum 11 = .ok (.if_icmp .ge 62, 3) := by decide +kernel
theorem dX5_readsSum_14 : decode cX5_readsSum 14 = .ok (.iload_n 2, 1) := by decide +kernel
theorem dX5_readsSum_15 : decode cX5_readsSum 15 = .ok (.ifCond .eq 58, 3) := by decide +kernel
theorem dX5_readsSum_18 : decode cX5_readsSum 18 = .ok (.aload_n 0, 1) := by decide +kernel
theorem dX5_readsSum_19 : decode cX5_readsSum 19 = .ok (.invokevirtual 45, 3) := by decide +kernel
theorem dX5_readsSum_22 : decode cX5_readsSum 22 = .ok (.istore 4, 2) := by decide +kernel
theorem dX5_readsSum_24 : decode cX5_readsSum 24 = .ok (.iload 4, 2) := by decide +kernel
theorem dX5_readsSum_26 : decode cX5_readsSum 26 = .ok (.bipush 43, 2) := by decide +kernel
theorem dX5_readsSum_28 : decode cX5_readsSum 28 = .ok (.if_icmp .eq 12, 3) := by decide +kernel
theorem dX5_readsSum_31 : decode cX5_readsSum 31 = .ok (.iload 4, 2) := by decide +kernel
theorem dX5_readsSum_33 : decode cX5_readsSum 33 = .ok (.bipush 45, 2) := by decide +kernel
theorem dX5_readsSum_35 : decode cX5_readsSum 35 = .ok (.if_icmp .eq 5, 3) := by decide +kernel
theorem dX5_readsSum_38 : decode cX5_readsSum 38 = .ok (.iconst 1, 1) := by decide +kernel
theorem dX5_readsSum_39 : decode cX5_readsSum 39 = .ok (.ireturn, 1) := by decide +kernel
theorem dX5_readsSum_40 : decode cX5_readsSum 40 = .ok (.aload_n 0, 1) := by decide +kernel
theorem dX5_readsSum_41 : decode cX5_readsSum 41 = .ok (.dup, 1) := by decide +kernel
theorem dX5_readsSum_42 : decode cX5_readsSum 42 = .ok (.getfield 27, 3) := by decide +kernel
theorem dX5_readsSum_45 : decode cX5_readsSum 45 = .ok (.iconst 1, 1) := by decide +kernel
theorem dX5_readsSum_46 : decode cX5_readsSum 46 = .ok (.iadd, 1) := by decide +kernel
theorem dX5_readsSum_47 : decode cX5_readsSum 47 = .ok (.putfield 27, 3) := by decide +kernel
theorem dX5_readsSum_50 : decode cX5_readsSum 50 = .ok (.aload_n 0, 1) := by decide +kernel
theorem dX5_readsSum_51 : decode cX5_readsSum 51 = .ok (.iload_n 1, 1) := by decide +kernel
theorem dX5_readsSum_52 : decode cX5_readsSum 52 = .ok (.invokevirtual 63, 3) := by decide +kernel
theorem dX5_readsSum_55 : decode cX5_readsSum 55 = .ok (.istore_n 2, 1) := by decide +kernel
theorem dX5_readsSum_56 : decode cX5_readsSum 56 = .ok (.aload_n 0, 1) := by decide +kernel
theorem dX5_readsSum_57 : decode cX5_readsSum 57 = .ok (.getfield 14, 3) := by decide +kernel
theorem dX5_readsSum_60 : decode cX5_readsSum 60 = .ok (.iload 4, 2) := by decide +kernel
theorem dX5_readsSum_62 : decode cX5_readsSum 62 = .ok (.ineg, 1) := by decide +kernel
theorem dX5_readsSum_63 : decode cX5_readsSum 63 = .ok (.invokevirtual 54, 3) := by decide +kernel
theorem dX5_readsSum_66 : decode cX5_readsSum 66 = .ok (.pop, 1) := by decide +kernel
theorem dX5_readsSum_67 : decode cX5_readsSum 67 = .ok (.iinc 3 1, 3) := by decide +kernel
theorem dX5_readsSum_70 : decode cX5_readsSum 70 = .ok (.goto (-62), 3) := by decide +kernel
theorem dX5_readsSum_73 : decode cX5_readsSum 73 = .ok (.iload_n 2, 1) := by decide +kernel
theorem dX5_readsSum_74 : decode cX5_readsSum 74 = .ok (.ireturn, 1) := by decide +kernel
theorem dX5_readsProduct_0 : decode cX5_readsProduct 0 = .ok (.aload_n 0, 1) := by decide +kernel
theorem dX5_readsProduct_1 : decode cX5_readsProduct 1 = .ok (.iload_n 1, 1) := by decide +kernel
theorem dX5_readsProduct_2 : decode cX5_readsProduct 2 = .ok (.invokevirtual 66, 3) := by decide +kernel
theorem dX5_readsProduct_5 : decode cX5_readsProduct 5 = .ok (.istore_n 2, 1) := by decide +kernel
theorem dX5_readsProduct_6 : decode cX5_readsProduct 6 = .ok (.iconst 0, 1) := by decide +kernel
theorem dX5_readsProduct_7 : decode cX5_readsProduct 7 = .ok (.istore_n 3, 1) := by decide +kernel
theorem dX5_readsProduct_8 : decode cX5_readsProduct 8 = .ok (.iload_n 3, 1) := by decide +kernel
theorem dX5_readsProduct_9 : decode cX5_readsProduct 9 = .ok (.bipush 60, 2) := by decide +kernel
theorem dX5_readsProduct_11 : decode cX5_readsProduct 11 = .ok (.if_icmp .ge 69, 3) := by decide +kernel
theorem dX5_readsProduct_14 : decode cX5_readsProduct 14 = .ok (.iload_n 2, 1) := by decide +kernel
theorem dX5_readsProduct_15 : decode cX5_readsProduct 15 = .ok (.ifCond .eq 65, 3) := by decide +kernel
theorem dX5_readsProduct_18 : decode cX5_readsProduct 18 = .ok (.aload_n 0, 1) := by decide +kernel
theorem dX5_readsProduct_19 : decode cX5_readsProduct 19 = .ok (.invokevirtual 45, 3) := by decide +kernel
theorem dX5_readsProduct_22 : decode cX5_readsProduct 22 = .ok (.istore 4, 2) := by decide +kernel
theorem dX5_readsProduct_24 : decode cX5_readsProduct 24 = .ok (.iload 4, 2) := by decide +kernel
theorem dX5_readsProduct_26 : decode cX5_readsProduct 26 = .ok (.bipush 42, 2) := by decide +kernel
theorem dX5_readsProduct_28 : decode cX5_readsProduct 28 = .ok (.if_icmp .eq 19, 3) := by decide +kernel
theorem dX5_readsProduct_31 : decode cX5_readsProduct 31 = .ok (.iload 4, 2) := by decide +kernel
theorem dX5_readsProduct_33 : decode cX5_readsProduct 33 = .ok (.bipush 47, 2) := by decide +kernel
theorem dX5_readsProduct_35 : decode cX5_readsProduct 35 = .ok (.if_icmp .eq 12, 3) := by decide +kernel
theorem dX5_readsProduct_38 : decode cX5_readsProduct 38 = .ok (.iload 4, 2) := by decide +kernel
theorem dX5_readsProduct_40 : decode cX5_readsProduct 40 = .ok (.bipush 37, 2) := by decide +kernel
theorem dX5_readsProduct_42 : decode cX5_readsProduct 42 = .ok (.if_icmp .eq 5, 3) := by decide +kernel
theorem dX5_readsProduct_45 : decode cX5_readsProduct 45 = .ok (.iconst 1, 1) := by decide +kernel
theorem dX5_readsProduct_46 : decode cX5_readsProduct 46 = .ok (.ireturn, 1) := by decide +kernel
theorem dX5_readsProduct_47 : decode cX5_readsProduct 47 = .ok (.aload_n 0, 1) := by decide +kernel
theorem dX5_readsProduct_48 : decode cX5_readsProduct 48 = .ok (.dup, 1) := by decide +kernel
theorem dX5_readsProduct_49 : decode cX5_readsProduct 49 = .ok (.getfield 27, 3) := by decide +kernel
theorem dX5_readsProduct_52 : decode cX5_readsProduct 52 = .ok (.iconst 1, 1) := by decide +kernel
theorem dX5_readsProduct_53 : decode cX5_readsProduct 53 = .ok (.iadd, 1) := by decide +kernel
theorem dX5_readsProduct_54 : decode cX5_readsProduct 54 = .ok (.putfield 27, 3) := by decide +kernel
theorem dX5_readsProduct_57 : decode cX5_readsProduct 57 = .ok (.aload_n 0, 1) := by decide +kernel
theorem dX5_readsProduct_58 : decode cX5_readsProduct 58 = .ok (.iload_n 1, 1) := by decide +kernel
theorem dX5_readsProduct_59 : decode cX5_readsProduct 59 = .ok (.invokevirtual 66, 3) := by decide +kernel
theorem dX5_readsProduct_62 : decode cX5_readsProduct 62 = .ok (.istore_n 2, 1) := by decide +kernel
theorem dX5_readsProduct_63 : decode cX5_readsProduct 63 = .ok (.aload_n 0, 1) := by decide +kernel
theorem dX5_readsProduct_64 : decode cX5_readsProduct 64 = .ok (.getfield 14, 3) := by decide +kernel
theorem dX5_readsProduct_67 : decode cX5_readsProduct 67 = .ok (.iload 4, 2) := by decide +kernel
theorem dX5_readsProduct_69 : decode cX5_readsProduct 69 = .ok (.ineg, 1) := by decide +kernel
theorem dX5_readsProduct_70 : decode cX5_readsProduct 70 = .ok (.invokevirtual 54, 3) := by decide +kernel
theorem dX5_readsProduct_73 : decode cX5_readsProduct 73 = .ok (.pop, 1) := by decide +kernel
theorem dX5_readsProduct_74 : decode cX5_readsProduct 74 = .ok (.iinc 3 1, 3) := by decide +kernel
theorem dX5_readsProduct_77 : decode cX5_readsProduct 77 = .ok (.goto (-69), 3) := by decide +kernel
theorem dX5_readsProduct_80 : decode cX5_readsProduct 80 = .ok (.iload_n 2, 1) := by decide +kernel
theorem dX5_readsProduct_81 : decode cX5_readsProduct 81 = .ok (.ireturn, 1) := by decide +kernel
theorem dX5_readsFactor_0 : decode cX5_readsFactor 0 = .ok (.aload_n 0, 1) := by decide +kernel
theorem dX5_readsFactor_1 : decode cX5_readsFactor 1 = .ok (.invokevirtual 45, 3) := by decide +kernel
theorem dX5_readsFactor_4 : decode cX5_readsFactor 4 = .ok (.istore_n 2, 1) := by decide +kernel
theorem dX5_readsFactor_5 : decode cX5_readsFactor 5 = .ok (.iload_n 2, 1) := by decide +kernel
theorem dX5_readsFactor_6 : decode cX5_readsFactor 6 = .ok (.invokestatic 69, 3) := by decide +kernel
theorem dX5_readsFactor_9 : decode cX5_readsFactor 9 = .ok (.ifCond .eq 9, 3) := by decide +kernel
theorem dX5_readsFactor_12 : decode cX5_readsFactor 12 = .ok (.aload_n 0, 1) := by decide +kernel
theorem dX5_readsFactor_13 : decode cX5_readsFactor 13 = .ok (.invokevirtual 72, 3) := by decide +kernel
theorem dX5_readsFactor_16 : decode cX5_readsFactor 16 = .ok (.iconst 1, 1) := by decide +kernel
theorem dX5_readsFactor_17 : decode cX5_readsFactor 17 = .ok (.ireturn, 1) := by decide +kernel
theorem dX5_readsFactor_18 : decode cX5_readsFactor 18 = .ok (.aload_n 0, 1) := by decide +kernel
theorem dX5_readsFactor_19 : decode cX5_readsFactor 19 = .ok (.iload_n 2, 1) := by decide +kernel
theorem dX5_readsFactor_20 : decode cX5_readsFactor 20 = .ok (.invokevirtual 75, 3) := by decide +kernel
theorem dX5_readsFactor_23 : decode cX5_readsFactor 23 = .ok (.istore_n 3, 1) := by decide +kernel
theorem dX5_readsFactor_24 : decode cX5_readsFactor 24 = .ok (.iload_n 3, 1) := by decide +kernel
theorem dX5_readsFactor_25 : decode cX5_readsFactor 25 = .ok (.ifCond .le 25, 3) := by decide +kernel
theorem dX5_readsFactor_28 : decode cX5_readsFactor 28 = .ok (.aload_n 0, 1) := by decide +kernel
theorem dX5_readsFactor_29 : decode cX5_readsFactor 29 = .ok (.dup, 1) := by decide +kernel
theorem dX5_readsFactor_30 : decode cX5_readsFactor 30 = .ok (.getfield 27, 3) := by decide +kernel
theorem dX5_readsFactor_33 : decode cX5_readsFactor 33 = .ok (.iconst 1, 1) := by decide +kernel
theorem dX5_readsFactor_34 : decode cX5_readsFactor 34 = .ok (.iadd, 1) := by decide +kernel
theorem dX5_readsFactor_35 : decode cX5_readsFactor 35 = .ok (.putfield 27, 3) := by decide +kernel
theorem dX5_readsFactor_38 : decode cX5_readsFactor 38 = .ok (.aload_n 0, 1) := by decide +kernel
theorem dX5_readsFactor_39 : decode cX5_readsFactor 39 = .ok (.getfield 14, 3) := by decide +kernel
theorem dX5_readsFactor_42 : decode cX5_readsFactor 42 = .ok (.iload_n 3, 1) := by decide +kernel
theorem dX5_readsFactor_43 : decode cX5_readsFactor 43 = .ok (.ineg, 1) := by decide +kernel
theorem dX5_readsFactor_44 : decode cX5_readsFactor 44 = .ok (.invokevirtual 54, 3) := by decide +kernel
theorem dX5_readsFactor_47 : decode cX5_readsFactor 47 = .ok (.pop, 1) := by decide +kernel
theorem dX5_readsFactor_48 : decode cX5_readsFactor 48 = .ok (.iconst 1, 1) := by decide +kernel
theorem dX5_readsFactor_49 : decode cX5_readsFactor 49 = .ok (.ireturn, 1) := by decide +kernel
theorem dX5_readsFactor_50 : decode cX5_readsFactor 50 = .ok (.iload_n 1, 1) := by decide +kernel
theorem dX5_readsFactor_51 : decode cX5_readsFactor 51 = .ok (.iconst 5, 1) := by decide +kernel
theorem dX5_readsFactor_52 : decode cX5_readsFactor 52 = .ok (.if_icmp .lt 5, 3) := by decide +kernel
theorem dX5_readsFactor_55 : decode cX5_readsFactor 55 = .ok (.iconst 0, 1) := by decide +kernel
theorem dX5_readsFactor_56 : decode cX5_readsFactor 56 = .ok (.ireturn, 1) := by decide +kernel
theorem dX5_readsFactor_57 : decode cX5_readsFactor 57 = .ok (.aload_n 0, 1) := by decide +kernel
theorem dX5_readsFactor_58 : decode cX5_readsFactor 58 = .ok (.bipush 33, 2) := by decide +kernel
theorem dX5_readsFactor_60 : decode cX5_readsFactor 60 = .ok (.invokevirtual 51, 3) := by decide +kernel
theorem dX5_readsFactor_63 : decode cX5_readsFactor 63 = .ok (.ifCond .eq 25, 3) := by decide +kernel
theorem dX5_readsFactor_66 : decode cX5_readsFactor 66 = .ok (.aload_n 0, 1) := by decide +kernel
theorem dX5_readsFactor_67 : decode cX5_readsFactor 67 = .ok (.iload_n 1, 1) := by decide +kernel
theorem dX5_readsFactor_68 : decode cX5_readsFactor 68 = .ok (.iconst 1, 1) := by decide +kernel
theorem dX5_readsFactor_69 : decode cX5_readsFactor 69 = .ok (.iadd, 1) := by decide +kernel
theorem dX5_readsFactor_70 : decode cX5_readsFactor 70 = .ok (.invokevirtual 66, 3) := by decide +kernel
theorem dX5_readsFactor_73 : decode cX5_readsFactor 73 = .ok (.istore 4, 2) := by decide +kernel
theorem dX5_readsFactor_75 : decode cX5_readsFactor 75 = .ok (.aload_n 0, 1) := by decide +kernel
theorem dX5_readsFactor_76 : decode cX5_readsFactor 76 = .ok (.getfield 14, 3) := by decide +kernel
theorem dX5_readsFactor_79 : decode cX5_readsFactor 79 = .ok (.bipush (-33), 2) := by decide +kernel
theorem dX5_readsFactor_81 : decode cX5_readsFactor 81 = .ok (.invokevirtual 54, 3) := by decide +kernel
theorem dX5_readsFactor_84 : decode cX5_readsFactor 84 = .ok (.pop, 1) := by decide +kernel
theorem dX5_readsFactor_85 : decode cX5_readsFactor 85 = .ok (.iload 4, 2) := by decide +kernel
theorem dX5_readsFactor_87 : decode cX5_readsFactor 87 = .ok (.ireturn, 1) := by decide +kernel
theorem dX5_readsFactor_88 : decode cX5_readsFactor 88 = .ok (.aload_n 0, 1) := by decide +kernel
theorem dX5_readsFactor_89 : decode cX5_readsFactor 89 = .ok (.bipush 40, 2) := by decide +kernel
theorem dX5_readsFactor_91 : decode cX5_readsFactor 91 = .ok (.invokevirtual 51, 3) := by decide +kernel
theorem dX5_readsFactor_94 : decode cX5_readsFactor 94 = .ok (.ifCond .eq 26, 3) := by decide +kernel
theorem dX5_readsFactor_97 : decode cX5_readsFactor 97 = .ok (.aload_n 0, 1) := by decide +kernel
theorem dX5_readsFactor_98 : decode cX5_readsFactor 98 = .ok (.iload_n 1, 1) := by decide +kernel
theorem dX5_readsFactor_99 : decode cX5_readsFactor 99 = .ok (.iconst 1, 1) := by decide +kernel
theorem dX5_readsFactor_100 : decode cX5_readsFactor 100 = .ok (.iadd, 1) := by decide +kernel
theorem dX5_readsFactor_101 : decode cX5_readsFactor 101 = .ok (.invokevirtual 33, 3) := by decide +kernel
theorem dX5_readsFactor_104 : decode cX5_readsFactor 104 = .ok (.ifCond .eq 16, 3) := by decide +kernel
theorem dX5_readsFactor_107 : decode cX5_readsFactor 107 = .ok (.aload_n 0, 1) := by decide +kernel
theorem dX5_readsFactor_108 : decode cX5_readsFactor 108 = .ok (.bipush 41, 2) := by decide +kernel
theorem dX5_readsFactor_110 : decode cX5_readsFactor 110 = .ok (.invokevirtual 51, 3) := by decide +kernel
theorem dX5_readsFactor_113 : decode cX5_readsFactor 113 = .ok (.ifCond .eq 7, 3) := by decide +kernel
theorem dX5_readsFactor_116 : decode cX5_readsFactor 116 = .ok (.iconst 1, 1) := by decide +kernel
theorem dX5_readsFactor_117 : decode cX5_readsFactor 117 = .ok (.goto 4, 3) := by decide +kernel
theorem dX5_readsFactor_120 : decode cX5_readsFactor 120 = .ok (.iconst 0, 1) := by decide +kernel
theorem dX5_readsFactor_121 : decode cX5_readsFactor 121 = .ok (.ireturn, 1) := by decide +kernel
theorem dX5_readNumber_0 : decode cX5_readNumber 0 = .ok (.iconst 0, 1) := by decide +kernel
theorem dX5_readNumber_1 : decode cX5_readNumber 1 = .ok (.istore_n 1, 1) := by decide +kernel
theorem dX5_readNumber_2 : decode cX5_readNumber 2 = .ok (.iconst 0, 1) := by decide +kernel
theorem dX5_readNumber_3 : decode cX5_readNumber 3 = .ok (.istore_n 2, 1) := by decide +kernel
theorem dX5_readNumber_4 : decode cX5_readNumber 4 = .ok (.iload_n 2, 1) := by decide +kernel
theorem dX5_readNumber_5 : decode cX5_readNumber 5 = .ok (.iconst 4, 1) := by decide +kernel
theorem dX5_readNumber_6 : decode cX5_readNumber 6 = .ok (.if_icmp .ge 42, 3) := by decide +kernel
theorem dX5_readNumber_9 : decode cX5_readNumber 9 = .ok (.aload_n 0, 1) := by decide +kernel
theorem dX5_readNumber_10 : decode cX5_readNumber 10 = .ok (.invokevirtual 45, 3) := by decide +kernel
theorem dX5_readNumber_13 : decode cX5_readNumber 13 = .ok (.invokestatic 69, 3) := by decide +kernel
theorem dX5_readNumber_16 : decode cX5_readNumber 16 = .ok (.ifCond .eq 32, 3) := by decide +kernel
theorem dX5_readNumber_19 : decode cX5_readNumber 19 = .ok (.iload_n 1, 1) := by decide +kernel
theorem dX5_readNumber_20 : decode cX5_readNumber 20 = .ok (.bipush 10, 2) := by decide +kernel
theorem dX5_readNumber_22 : decode cX5_readNumber 22 = .ok (.imul, 1) := by decide +kernel
theorem dX5_readNumber_23 : decode cX5_readNumber 23 = .ok (.aload_n 0, 1) := by decide +kernel
theorem dX5_readNumber_24 : decode cX5_readNumber 24 = .ok (.invokevirtual 45, 3) := by decide +kernel
theorem dX5_readNumber_27 : decode cX5_readNumber 27 = .ok (.iadd, 1) := by decide +kernel
theorem dX5_readNumber_28 : decode cX5_readNumber 28 = .ok (.bipush 48, 2) := by decide +kernel
theorem dX5_readNumber_30 : decode cX5_readNumber 30 = .ok (.isub, 1) := by decide +kernel
theorem dX5_readNumber_31 : decode cX5_readNumber 31 = .ok (.istore_n 1, 1) := by decide +kernel
theorem dX5_readNumber_32 : decode cX5_readNumber 32 = .ok (.aload_n 0, 1) := by decide +kernel
theorem dX5_readNumber_33 : decode cX5_readNumber 33 = .ok (.dup, 1) := by decide +kernel
theorem dX5_readNumber_34 : decode cX5_readNumber 34 = .ok (.getfield 27, 3) := by decide +kernel
theorem dX5_readNumber_37 : decode cX5_readNumber 37 = .ok (.iconst 1, 1) := by decide +kernel
theorem dX5_readNumber_38 : decode cX5_readNumber 38 = .ok (.iadd, 1) := by decide +kernel
theorem dX5_readNumber_39 : decode cX5_readNumber 39 = .ok (.putfield 27, 3) := by decide +kernel
theorem dX5_readNumber_42 : decode cX5_readNumber 42 = .ok (.iinc 2 1, 3) := by decide +kernel
theorem dX5_readNumber_45 : decode cX5_readNumber 45 = .ok (.goto (-41), 3) := by decide +kernel
theorem dX5_readNumber_48 : decode cX5_readNumber 48 = .ok (.aload_n 0, 1) := by decide +kernel
theorem dX5_readNumber_49 : decode cX5_readNumber 49 = .ok (.getfield 14, 3) := by decide +kernel
theorem dX5_readNumber_52 : decode cX5_readNumber 52 = .ok (.iload_n 1, 1) := by decide +kernel
theorem dX5_readNumber_53 : decode cX5_readNumber 53 = .ok (.invokevirtual 54, 3) := by decide +kernel
theorem dX5_readNumber_56 : decode cX5_readNumber 56 = .ok (.pop, 1) := by decide +kernel
theorem dX5_readNumber_57 : decode cX5_readNumber 57 = .ok (.return_, 1) := by decide +kernel
theorem dX5_isDigit_0 : decode cX5_isDigit 0 = .ok (.iload_n 0, 1) := by decide +kernel
theorem dX5_isDigit_1 : decode cX5_isDigit 1 = .ok (.bipush 48, 2) := by decide +kernel
theorem dX5_isDigit_3 : decode cX5_isDigit 3 = .ok (.if_icmp .lt 13, 3) := by decide +kernel
theorem dX5_isDigit_6 : decode cX5_isDigit 6 = .ok (.iload_n 0, 1) := by decide +kernel
theorem dX5_isDigit_7 : decode cX5_isDigit 7 = .ok (.bipush 57, 2) := by decide +kernel
theorem dX5_isDigit_9 : decode cX5_isDigit 9 = .ok (.if_icmp .gt 7, 3) := by decide +kernel
theorem dX5_isDigit_12 : decode cX5_isDigit 12 = .ok (.iconst 1, 1) := by decide +kernel
theorem dX5_isDigit_13 : decode cX5_isDigit 13 = .ok (.goto 4, 3) := by decide +kernel
theorem dX5_isDigit_16 : decode cX5_isDigit 16 = .ok (.iconst 0, 1) := by decide +kernel
theorem dX5_isDigit_17 : decode cX5_isDigit 17 = .ok (.ireturn, 1) := by decide +kernel
theorem dX5_nameOf_0 : decode cX5_nameOf 0 = .ok (.iconst 0, 1) := by decide +kernel
theorem dX5_nameOf_1 : decode cX5_nameOf 1 = .ok (.istore_n 2, 1) := by decide +kernel
theorem dX5_nameOf_2 : decode cX5_nameOf 2 = .ok (.iload_n 2, 1) := by decide +kernel
theorem dX5_nameOf_3 : decode cX5_nameOf 3 = .ok (.iconst 3, 1) := by decide +kernel
theorem dX5_nameOf_4 : decode cX5_nameOf 4 = .ok (.if_icmp .ge 43, 3) := by decide +kernel
theorem dX5_nameOf_7 : decode cX5_nameOf 7 = .ok (.aload_n 0, 1) := by decide +kernel
theorem dX5_nameOf_8 : decode cX5_nameOf 8 = .ok (.getfield 23, 3) := by decide +kernel
theorem dX5_nameOf_11 : decode cX5_nameOf 11 = .ok (.iconst 3, 1) := by decide +kernel
theorem dX5_nameOf_12 : decode cX5_nameOf 12 = .ok (.imul, 1) := by decide +kernel
theorem dX5_nameOf_13 : decode cX5_nameOf 13 = .ok (.iload_n 2, 1) := by decide +kernel
theorem dX5_nameOf_14 : decode cX5_nameOf 14 = .ok (.iadd, 1) := by decide +kernel
theorem dX5_nameOf_15 : decode cX5_nameOf 15 = .ok (.istore_n 3, 1) := by decide +kernel
theorem dX5_nameOf_16 : decode cX5_nameOf 16 = .ok (.iload_n 3, 1) := by decide +kernel
theorem dX5_nameOf_17 : decode cX5_nameOf 17 = .ok (.ifCond .lt 24, 3) := by decide +kernel
theorem dX5_nameOf_20 : decode cX5_nameOf 20 = .ok (.iload_n 3, 1) := by decide +kernel
theorem dX5_nameOf_21 : decode cX5_nameOf 21 = .ok (.getstatic 78, 3) := by decide +kernel
theorem dX5_nameOf_24 : decode cX5_nameOf 24 = .ok (.arraylength, 1) := by decide +kernel
theorem dX5_nameOf_25 : decode cX5_nameOf 25 = .ok (.if_icmp .ge 16, 3) := by decide +kernel
theorem dX5_nameOf_28 : decode cX5_nameOf 28 = .ok (.getstatic 78, 3) := by decide +kernel
theorem dX5_nameOf_31 : decode cX5_nameOf 31 = .ok (.iload_n 3, 1) := by decide +kernel
theorem dX5_nameOf_32 : decode cX5_nameOf 32 = .ok (.caload, 1) := by decide +kernel
theorem dX5_nameOf_33 : decode cX5_nameOf 33 = .ok (.iload_n 1, 1) := by decide +kernel
theorem dX5_nameOf_34 : decode cX5_nameOf 34 = .ok (.if_icmp .ne 7, 3) := by decide +kernel
theorem dX5_nameOf_37 : decode cX5_nameOf 37 = .ok (.iload_n 2, 1) := by decide +kernel
theorem dX5_nameOf_38 : decode cX5_nameOf 38 = .ok (.iconst 1, 1) := by decide +kernel
theorem dX5_nameOf_39 : decode cX5_nameOf 39 = .ok (.iadd, 1) := by decide +kernel
theorem dX5_nameOf_40 : decode cX5_nameOf 40 = .ok (.ireturn, 1) := by decide +kernel
theorem dX5_nameOf_41 : decode cX5_nameOf 41 = .ok (.iinc 2 1, 3) := by decide +kernel
theorem dX5_nameOf_44 : decode cX5_nameOf 44 = .ok (.goto (-42), 3) := by decide +kernel
theorem dX5_nameOf_47 : decode cX5_nameOf 47 = .ok (.iconst 0, 1) := by decide +kernel
theorem dX5_nameOf_48 : decode cX5_nameOf 48 = .ok (.ireturn, 1) := by decide +kernel
theorem dX6_init_0 : decode cX6_init 0 = .ok (.aload_n 0, 1) := by decide +kernel
theorem dX6_init_1 : decode cX6_init 1 = .ok (.invokespecial 1, 3) := by decide +kernel
theorem dX6_init_4 : decode cX6_init 4 = .ok (.aload_n 0, 1) := by decide +kernel
theorem dX6_init_5 : decode cX6_init 5 = .ok (.iconst 0, 1) := by decide +kernel
theorem dX6_init_6 : decode cX6_init 6 = .ok (.iload_n 1, 1) := by decide +kernel
theorem dX6_init_7 : decode cX6_init 7 = .ok (.invokestatic 7, 3) := by decide +kernel
theorem dX6_init_10 : decode cX6_init 10 = .ok (.newarray .int, 2) := by decide +kernel
theorem dX6_init_12 : decode cX6_init 12 = .ok (.putfield 13, 3) := by decide +kernel
theorem dX6_init_15 : decode cX6_init 15 = .ok (.return_, 1) := by decide +kernel
theorem dX6_size_0 : decode cX6_size 0 = .ok (.aload_n 0, 1) := by decide +kernel
theorem dX6_size_1 : decode cX6_size 1 = .ok (.getfield 19, 3) := by decide +kernel
theorem dX6_size_4 : decode cX6_size 4 = .ok (.ireturn, 1) := by decide +kernel
theorem dX6_at_0 : decode cX6_at 0 = .ok (.iload_n 1, 1) := by decide +kernel
theorem dX6_at_1 : decode cX6_at 1 = .ok (.ifCond .lt 20, 3) := by decide +kernel
theorem dX6_at_4 : decode cX6_at 4 = .ok (.iload_n 1, 1) := by decide +kernel
theorem dX6_at_5 : decode cX6_at 5 = .ok (.aload_n 0, 1) := by decide +kernel
theorem dX6_at_6 : decode cX6_at 6 = .ok (.getfield 19, 3) := by decide +kernel
theorem dX6_at_9 : decode cX6_at 9 = .ok (.if_icmp .ge 12, 3) := by decide +kernel
theorem dX6_at_12 : decode cX6_at 12 = .ok (.aload_n 0, 1) := by decide +kernel
theorem dX6_at_13 : decode cX6_at 13 = .ok (.getfield 13, 3) := by decide +kernel
theorem dX6_at_16 : decode cX6_at 16 = .ok (.iload_n 1, 1) := by decide +kernel
theorem dX6_at_17 : decode cX6_at 17 = .ok (.iaload, 1) := by decide +kernel
theorem dX6_at_18 : decode cX6_at 18 = .ok (.goto 4, 3) := by decide +kernel
theorem dX6_at_21 : decode cX6_at 21 = .ok (.iconst 0, 1) := by decide +kernel
theorem dX6_at_22 : decode cX6_at 22 = .ok (.ireturn, 1) := by decide +kernel
theorem dX6_add_0 : decode cX6_add 0 = .ok (.aload_n 0, 1) := by decide +kernel
theorem dX6_add_1 : decode cX6_add 1 = .ok (.getfield 19, 3) := by decide +kernel
theorem dX6_add_4 : decode cX6_add 4 = .ok (.aload_n 0, 1) := by decide +kernel
theorem dX6_add_5 : decode cX6_add 5 = .ok (.getfield 13, 3) := by decide +kernel
theorem dX6_add_8 : decode cX6_add 8 = .ok (.arraylength, 1) := by decide +kernel
theorem dX6_add_9 : decode cX6_add 9 = .ok (.if_icmp .lt 5, 3) := by decide +kernel
theorem dX6_add_12 : decode cX6_add 12 = .ok (.iconst 0, 1) := by decide +kernel
theorem dX6_add_13 : decode cX6_add 13 = .ok (.ireturn, 1) := by decide +kernel
theorem dX6_add_14 : decode cX6_add 14 = .ok (.aload_n 0, 1) := by decide +kernel
theorem dX6_add_15 : decode cX6_add 15 = .ok (.getfield 13, 3) := by decide +kernel
theorem dX6_add_18 : decode cX6_add 18 = .ok (.aload_n 0, 1) := by decide +kernel
theorem dX6_add_19 : decode cX6_add 19 = .ok (.getfield 19, 3) := by decide +kernel
theorem dX6_add_22 : decode cX6_add 22 = .ok (.iload_n 1, 1) := by decide +kernel
theorem dX6_add_23 : decode cX6_add 23 = .ok (.iastore, 1) := by decide +kernel
theorem dX6_add_24 : decode cX6_add 24 = .ok (.aload_n 0, 1) := by decide +kernel
theorem dX6_add_25 : decode cX6_add 25 = .ok (.dup, 1) := by decide +kernel
theorem dX6_add_26 : decode cX6_add 26 = .ok (.getfield 19, 3) := by decide +kernel
theorem dX6_add_29 : decode cX6_add 29 = .ok (.iconst 1, 1) := by decide +kernel
theorem dX6_add_30 : decode cX6_add 30 = .ok (.iadd, 1) := by decide +kernel
end
section
theorem dX6_add_31 : decode cX6_add 31 = .ok (.putfield 19, 3) := by decide +kernel
theorem dX6_add_34 : decode cX6_add 34 = .ok (.iconst 1, 1) := by decide +kernel
theorem dX6_add_35 : decode cX6_add 35 = .ok (.ireturn, 1) := by decide +kernel
theorem dX6_change_0 : decode cX6_change 0 = .ok (.iload_n 1, 1) := by decide +kernel
theorem dX6_change_1 : decode cX6_change 1 = .ok (.ifCond .lt 18, 3) := by decide +kernel
theorem dX6_change_4 : decode cX6_change 4 = .ok (.iload_n 1, 1) := by decide +kernel
theorem dX6_change_5 : decode cX6_change 5 = .ok (.aload_n 0, 1) := by decide +kernel
theorem dX6_change_6 : decode cX6_change 6 = .ok (.getfield 19, 3) := by decide +kernel
theorem dX6_change_9 : decode cX6_change 9 = .ok (.if_icmp .ge 10, 3) := by decide +kernel
theorem dX6_change_12 : decode cX6_change 12 = .ok (.aload_n 0, 1) := by decide +kernel
theorem dX6_change_13 : decode cX6_change 13 = .ok (.getfield 13, 3) := by decide +kernel
theorem dX6_change_16 : decode cX6_change 16 = .ok (.iload_n 1, 1) := by decide +kernel
theorem dX6_change_17 : decode cX6_change 17 = .ok (.iload_n 2, 1) := by decide +kernel
theorem dX6_change_18 : decode cX6_change 18 = .ok (.iastore, 1) := by decide +kernel
theorem dX6_change_19 : decode cX6_change 19 = .ok (.return_, 1) := by decide +kernel
theorem dX6_clear_0 : decode cX6_clear 0 = .ok (.aload_n 0, 1) := by decide +kernel
theorem dX6_clear_1 : decode cX6_clear 1 = .ok (.iconst 0, 1) := by decide +kernel
theorem dX6_clear_2 : decode cX6_clear 2 = .ok (.putfield 19, 3) := by decide +kernel
theorem dX6_clear_5 : decode cX6_clear 5 = .ok (.return_, 1) := by decide +kernel
theorem dX6_beZeros_0 : decode cX6_beZeros 0 = .ok (.aload_n 0, 1) := by decide +kernel
theorem dX6_beZeros_1 : decode cX6_beZeros 1 = .ok (.invokevirtual 23, 3) := by decide +kernel
theorem dX6_beZeros_4 : decode cX6_beZeros 4 = .ok (.iconst 0, 1) := by decide +kernel
theorem dX6_beZeros_5 : decode cX6_beZeros 5 = .ok (.istore_n 2, 1) := by decide +kernel
theorem dX6_beZeros_6 : decode cX6_beZeros 6 = .ok (.iload_n 2, 1) := by decide +kernel
theorem dX6_beZeros_7 : decode cX6_beZeros 7 = .ok (.iload_n 1, 1) := by decide +kernel
theorem dX6_beZeros_8 : decode cX6_beZeros 8 = .ok (.if_icmp .ge 15, 3) := by decide +kernel
theorem dX6_beZeros_11 : decode cX6_beZeros 11 = .ok (.aload_n 0, 1) := by decide +kernel
theorem dX6_beZeros_12 : decode cX6_beZeros 12 = .ok (.iconst 0, 1) := by decide +kernel
theorem dX6_beZeros_13 : decode cX6_beZeros 13 = .ok (.invokevirtual 26, 3) := by decide +kernel
theorem dX6_beZeros_16 : decode cX6_beZeros 16 = .ok (.pop, 1) := by decide +kernel
theorem dX6_beZeros_17 : decode cX6_beZeros 17 = .ok (.iinc 2 1, 3) := by decide +kernel
theorem dX6_beZeros_20 : decode cX6_beZeros 20 = .ok (.goto (-14), 3) := by decide +kernel
theorem dX6_beZeros_23 : decode cX6_beZeros 23 = .ok (.return_, 1) := by decide +kernel
theorem dX6_spans_0 : decode cX6_spans 0 = .ok (.iload_n 1, 1) := by decide +kernel
theorem dX6_spans_1 : decode cX6_spans 1 = .ok (.ifCond .lt 29, 3) := by decide +kernel
theorem dX6_spans_4 : decode cX6_spans 4 = .ok (.iload_n 2, 1) := by decide +kernel
theorem dX6_spans_5 : decode cX6_spans 5 = .ok (.ifCond .lt 25, 3) := by decide +kernel
theorem dX6_spans_8 : decode cX6_spans 8 = .ok (.iload_n 1, 1) := by decide +kernel
theorem dX6_spans_9 : decode cX6_spans 9 = .ok (.aload_n 0, 1) := by decide +kernel
theorem dX6_spans_10 : decode cX6_spans 10 = .ok (.getfield 19, 3) := by decide +kernel
theorem dX6_spans_13 : decode cX6_spans 13 = .ok (.if_icmp .gt 17, 3) := by decide +kernel
theorem dX6_spans_16 : decode cX6_spans 16 = .ok (.iload_n 2, 1) := by decide +kernel
theorem dX6_spans_17 : decode cX6_spans 17 = .ok (.aload_n 0, 1) := by decide +kernel
theorem dX6_spans_18 : decode cX6_spans 18 = .ok (.getfield 19, 3) := by decide +kernel
theorem dX6_spans_21 : decode cX6_spans 21 = .ok (.iload_n 1, 1) := by decide +kernel
theorem dX6_spans_22 : decode cX6_spans 22 = .ok (.isub, 1) := by decide +kernel
theorem dX6_spans_23 : decode cX6_spans 23 = .ok (.if_icmp .gt 7, 3) := by decide +kernel
theorem dX6_spans_26 : decode cX6_spans 26 = .ok (.iconst 1, 1) := by decide +kernel
theorem dX6_spans_27 : decode cX6_spans 27 = .ok (.goto 4, 3) := by decide +kernel
theorem dX6_spans_30 : decode cX6_spans 30 = .ok (.iconst 0, 1) := by decide +kernel
theorem dX6_spans_31 : decode cX6_spans 31 = .ok (.ireturn, 1) := by decide +kernel
theorem dX6_takeFrom_0 : decode cX6_takeFrom 0 = .ok (.aload_n 1, 1) := by decide +kernel
theorem dX6_takeFrom_1 : decode cX6_takeFrom 1 = .ok (.iload_n 2, 1) := by decide +kernel
theorem dX6_takeFrom_2 : decode cX6_takeFrom 2 = .ok (.iload 4, 2) := by decide +kernel
theorem dX6_takeFrom_4 : decode cX6_takeFrom 4 = .ok (.invokevirtual 30, 3) := by decide +kernel
theorem dX6_takeFrom_7 : decode cX6_takeFrom 7 = .ok (.ifCond .eq 28, 3) := by decide +kernel
theorem dX6_takeFrom_10 : decode cX6_takeFrom 10 = .ok (.aload_n 0, 1) := by decide +kernel
theorem dX6_takeFrom_11 : decode cX6_takeFrom 11 = .ok (.iload_n 3, 1) := by decide +kernel
theorem dX6_takeFrom_12 : decode cX6_takeFrom 12 = .ok (.iload 4, 2) := by decide +kernel
theorem dX6_takeFrom_14 : decode cX6_takeFrom 14 = .ok (.invokevirtual 30, 3) := by decide +kernel
theorem dX6_takeFrom_17 : decode cX6_takeFrom 17 = .ok (.ifCond .eq 18, 3) := by decide +kernel
theorem dX6_takeFrom_20 : decode cX6_takeFrom 20 = .ok (.aload_n 1, 1) := by decide +kernel
theorem dX6_takeFrom_21 : decode cX6_takeFrom 21 = .ok (.getfield 13, 3) := by decide +kernel
theorem dX6_takeFrom_24 : decode cX6_takeFrom 24 = .ok (.iload_n 2, 1) := by decide +kernel
theorem dX6_takeFrom_25 : decode cX6_takeFrom 25 = .ok (.aload_n 0, 1) := by decide +kernel
theorem dX6_takeFrom_26 : decode cX6_takeFrom 26 = .ok (.getfield 13, 3) := by decide +kernel
theorem dX6_takeFrom_29 : decode cX6_takeFrom 29 = .ok (.iload_n 3, 1) := by decide +kernel
theorem dX6_takeFrom_30 : decode cX6_takeFrom 30 = .ok (.iload 4, 2) := by decide +kernel
theorem dX6_takeFrom_32 : decode cX6_takeFrom 32 = .ok (.invokestatic 34, 3) := by decide +kernel
theorem dX6_takeFrom_35 : decode cX6_takeFrom 35 = .ok (.return_, 1) := by decide +kernel
theorem dX6_beLike_0 : decode cX6_beLike 0 = .ok (.aload_n 0, 1) := by decide +kernel
theorem dX6_beLike_1 : decode cX6_beLike 1 = .ok (.aload_n 1, 1) := by decide +kernel
theorem dX6_beLike_2 : decode cX6_beLike 2 = .ok (.getfield 19, 3) := by decide +kernel
theorem dX6_beLike_5 : decode cX6_beLike 5 = .ok (.invokevirtual 40, 3) := by decide +kernel
theorem dX6_beLike_8 : decode cX6_beLike 8 = .ok (.aload_n 0, 1) := by decide +kernel
theorem dX6_beLike_9 : decode cX6_beLike 9 = .ok (.aload_n 1, 1) := by decide +kernel
theorem dX6_beLike_10 : decode cX6_beLike 10 = .ok (.iconst 0, 1) := by decide +kernel
theorem dX6_beLike_11 : decode cX6_beLike 11 = .ok (.iconst 0, 1) := by decide +kernel
theorem dX6_beLike_12 : decode cX6_beLike 12 = .ok (.aload_n 1, 1) := by decide +kernel
theorem dX6_beLike_13 : decode cX6_beLike 13 = .ok (.getfield 19, 3) := by decide +kernel
theorem dX6_beLike_16 : decode cX6_beLike 16 = .ok (.invokevirtual 44, 3) := by decide +kernel
theorem dX6_beLike_19 : decode cX6_beLike 19 = .ok (.return_, 1) := by decide +kernel
theorem dX7_init_0 : decode cX7_init 0 = .ok (.aload_n 0, 1) := by decide +kernel
theorem dX7_init_1 : decode cX7_init 1 = .ok (.invokespecial 3, 3) := by decide +kernel
theorem dX7_init_4 : decode cX7_init 4 = .ok (.aload_n 0, 1) := by decide +kernel
theorem dX7_init_5 : decode cX7_init 5 = .ok (.new 9, 3) := by decide +kernel
theorem dX7_init_8 : decode cX7_init 8 = .ok (.dup, 1) := by decide +kernel
theorem dX7_init_9 : decode cX7_init 9 = .ok (.bipush 24, 2) := by decide +kernel
theorem dX7_init_11 : decode cX7_init 11 = .ok (.invokespecial 11, 3) := by decide +kernel
theorem dX7_init_14 : decode cX7_init 14 = .ok (.putfield 14, 3) := by decide +kernel
theorem dX7_init_17 : decode cX7_init 17 = .ok (.return_, 1) := by decide +kernel
theorem dX7_isMissing_0 : decode cX7_isMissing 0 = .ok (.aload_n 0, 1) := by decide +kernel
theorem dX7_isMissing_1 : decode cX7_isMissing 1 = .ok (.getfield 20, 3) := by decide +kernel
theorem dX7_isMissing_4 : decode cX7_isMissing 4 = .ok (.ifCond .ne 7, 3) := by decide +kernel
theorem dX7_isMissing_7 : decode cX7_isMissing 7 = .ok (.iconst 1, 1) := by decide +kernel
theorem dX7_isMissing_8 : decode cX7_isMissing 8 = .ok (.goto 4, 3) := by decide +kernel
theorem dX7_isMissing_11 : decode cX7_isMissing 11 = .ok (.iconst 0, 1) := by decide +kernel
theorem dX7_isMissing_12 : decode cX7_isMissing 12 = .ok (.ireturn, 1) := by decide +kernel
theorem dX7_renew_0 : decode cX7_renew 0 = .ok (.aload_n 0, 1) := by decide +kernel
theorem dX7_renew_1 : decode cX7_renew 1 = .ok (.iload_n 1, 1) := by decide +kernel
theorem dX7_renew_2 : decode cX7_renew 2 = .ok (.putfield 20, 3) := by decide +kernel
theorem dX7_renew_5 : decode cX7_renew 5 = .ok (.aload_n 0, 1) := by decide +kernel
theorem dX7_renew_6 : decode cX7_renew 6 = .ok (.getfield 14, 3) := by decide +kernel
theorem dX7_renew_9 : decode cX7_renew 9 = .ok (.iload_n 2, 1) := by decide +kernel
theorem dX7_renew_10 : decode cX7_renew 10 = .ok (.invokevirtual 24, 3) := by decide +kernel
theorem dX7_renew_13 : decode cX7_renew 13 = .ok (.return_, 1) := by decide +kernel
theorem dX7_lowestBits_0 : decode cX7_lowestBits 0 = .ok (.aload_n 0, 1) := by decide +kernel
theorem dX7_lowestBits_1 : decode cX7_lowestBits 1 = .ok (.getfield 20, 3) := by decide +kernel
theorem dX7_lowestBits_4 : decode cX7_lowestBits 4 = .ok (.lookupswitch 39 #[(8, 28), (16, 34)], 28) := by decide +kernel
theorem dX7_lowestBits_32 : decode cX7_lowestBits 32 = .ok (.iload_n 1, 1) := by decide +kernel
theorem dX7_lowestBits_33 : decode cX7_lowestBits 33 = .ok (.sipush 255, 3) := by decide +kernel
theorem dX7_lowestBits_36 : decode cX7_lowestBits 36 = .ok (.iand, 1) := by decide +kernel
theorem dX7_lowestBits_37 : decode cX7_lowestBits 37 = .ok (.ireturn, 1) := by decide +kernel
theorem dX7_lowestBits_38 : decode cX7_lowestBits 38 = .ok (.iload_n 1, 1) := by decide +kernel
theorem dX7_lowestBits_39 : decode cX7_lowestBits 39 = .ok (.ldc 27, 2) := by decide +kernel
theorem dX7_lowestBits_41 : decode cX7_lowestBits 41 = .ok (.iand, 1) := by decide +kernel
theorem dX7_lowestBits_42 : decode cX7_lowestBits 42 = .ok (.ireturn, 1) := by decide +kernel
theorem dX7_lowestBits_43 : decode cX7_lowestBits 43 = .ok (.iload_n 1, 1) := by decide +kernel
theorem dX7_lowestBits_44 : decode cX7_lowestBits 44 = .ok (.ireturn, 1) := by decide +kernel
theorem dX8_init_0 : decode cX8_init 0 = .ok (.aload_n 0, 1) := by decide +kernel
theorem dX8_init_1 : decode cX8_init 1 = .ok (.invokespecial 3, 3) := by decide +kernel
theorem dX8_init_4 : decode cX8_init 4 = .ok (.aload_n 0, 1) := by decide +kernel
theorem dX8_init_5 : decode cX8_init 5 = .ok (.new 9, 3) := by decide +kernel
theorem dX8_init_8 : decode cX8_init 8 = .ok (.dup, 1) := by decide +kernel
theorem dX8_init_9 : decode cX8_init 9 = .ok (.bipush 30, 2) := by decide +kernel
theorem dX8_init_11 : decode cX8_init 11 = .ok (.invokespecial 11, 3) := by decide +kernel
theorem dX8_init_14 : decode cX8_init 14 = .ok (.putfield 14, 3) := by decide +kernel
theorem dX8_init_17 : decode cX8_init 17 = .ok (.return_, 1) := by decide +kernel
theorem dX8_say_0 : decode cX8_say 0 = .ok (.aload_n 0, 1) := by decide +kernel
theorem dX8_say_1 : decode cX8_say 1 = .ok (.getfield 14, 3) := by decide +kernel
theorem dX8_say_4 : decode cX8_say 4 = .ok (.invokevirtual 20, 3) := by decide +kernel
theorem dX8_say_7 : decode cX8_say 7 = .ok (.aload_n 0, 1) := by decide +kernel
theorem dX8_say_8 : decode cX8_say 8 = .ok (.iconst 0, 1) := by decide +kernel
theorem dX8_say_9 : decode cX8_say 9 = .ok (.putfield 23, 3) := by decide +kernel
theorem dX8_say_12 : decode cX8_say 12 = .ok (.aload_n 0, 1) := by decide +kernel
theorem dX8_say_13 : decode cX8_say 13 = .ok (.aload_n 1, 1) := by decide +kernel
theorem dX8_say_14 : decode cX8_say 14 = .ok (.getfield 27, 3) := by decide +kernel
theorem dX8_say_17 : decode cX8_say 17 = .ok (.putfield 33, 3) := by decide +kernel
theorem dX8_say_20 : decode cX8_say 20 = .ok (.aload_n 0, 1) := by decide +kernel
theorem dX8_say_21 : decode cX8_say 21 = .ok (.iload_n 2, 1) := by decide +kernel
theorem dX8_say_22 : decode cX8_say 22 = .ok (.putfield 36, 3) := by decide +kernel
theorem dX8_say_25 : decode cX8_say 25 = .ok (.aload_n 0, 1) := by decide +kernel
theorem dX8_say_26 : decode cX8_say 26 = .ok (.aload_n 1, 1) := by decide +kernel
theorem dX8_say_27 : decode cX8_say 27 = .ok (.getfield 39, 3) := by decide +kernel
theorem dX8_say_30 : decode cX8_say 30 = .ok (.putfield 42, 3) := by decide +kernel
theorem dX8_say_33 : decode cX8_say 33 = .ok (.iload_n 3, 1) := by decide +kernel
theorem dX8_say_34 : decode cX8_say 34 = .ok (.tableswitch 59 0 2 #[26, 37, 48], 26) := by decide +kernel
theorem dX8_say_60 : decode cX8_say 60 = .ok (.aload_n 0, 1) := by decide +kernel
theorem dX8_say_61 : decode cX8_say 61 = .ok (.aload_n 0, 1) := by decide +kernel
theorem dX8_say_62 : decode cX8_say 62 = .ok (.getfield 33, 3) := by decide +kernel
theorem dX8_say_65 : decode cX8_say 65 = .ok (.iload 4, 2) := by decide +kernel
theorem dX8_say_67 : decode cX8_say 67 = .ok (.invokevirtual 43, 3) := by decide +kernel
theorem dX8_say_70 : decode cX8_say 70 = .ok (.ireturn, 1) := by decide +kernel
theorem dX8_say_71 : decode cX8_say 71 = .ok (.aload_n 0, 1) := by decide +kernel
theorem dX8_say_72 : decode cX8_say 72 = .ok (.aload_n 0, 1) := by decide +kernel
theorem dX8_say_73 : decode cX8_say 73 = .ok (.getfield 33, 3) := by decide +kernel
theorem dX8_say_76 : decode cX8_say 76 = .ok (.iload 4, 2) := by decide +kernel
theorem dX8_say_78 : decode cX8_say 78 = .ok (.invokevirtual 47, 3) := by decide +kernel
theorem dX8_say_81 : decode cX8_say 81 = .ok (.ireturn, 1) := by decide +kernel
theorem dX8_say_82 : decode cX8_say 82 = .ok (.aload_n 0, 1) := by decide +kernel
theorem dX8_say_83 : decode cX8_say 83 = .ok (.aload_n 0, 1) := by decide +kernel
theorem dX8_say_84 : decode cX8_say 84 = .ok (.getfield 33, 3) := by decide +kernel
theorem dX8_say_87 : decode cX8_say 87 = .ok (.iload 4, 2) := by decide +kernel
theorem dX8_say_89 : decode cX8_say 89 = .ok (.invokevirtual 50, 3) := by decide +kernel
theorem dX8_say_92 : decode cX8_say 92 = .ok (.ireturn, 1) := by decide +kernel
theorem dX8_say_93 : decode cX8_say 93 = .ok (.aload_n 0, 1) := by decide +kernel
theorem dX8_say_94 : decode cX8_say 94 = .ok (.aload_n 0, 1) := by decide +kernel
theorem dX8_say_95 : decode cX8_say 95 = .ok (.getfield 33, 3) := by decide +kernel
theorem dX8_say_98 : decode cX8_say 98 = .ok (.iload 4, 2) := by decide +kernel
theorem dX8_say_100 : decode cX8_say 100 = .ok (.invokevirtual 53, 3) := by decide +kernel
theorem dX8_say_103 : decode cX8_say 103 = .ok (.ireturn, 1) := by decide +kernel
theorem dX8_blinks_0 : decode cX8_blinks 0 = .ok (.iload_n 1, 1) := by decide +kernel
theorem dX8_blinks_1 : decode cX8_blinks 1 = .ok (.lookupswitch 86 #[(1, 67), (4, 48), (6, 35)], 35) := by decide +kernel
theorem dX8_blinks_36 : decode cX8_blinks 36 = .ok (.aload_n 0, 1) := by decide +kernel
theorem dX8_blinks_37 : decode cX8_blinks 37 = .ok (.getfield 14, 3) := by decide +kernel
theorem dX8_blinks_40 : decode cX8_blinks 40 = .ok (.bipush 70, 2) := by decide +kernel
theorem dX8_blinks_42 : decode cX8_blinks 42 = .ok (.invokevirtual 56, 3) := by decide +kernel
theorem dX8_blinks_45 : decode cX8_blinks 45 = .ok (.pop, 1) := by decide +kernel
theorem dX8_blinks_46 : decode cX8_blinks 46 = .ok (.bipush 9, 2) := by decide +kernel
theorem dX8_blinks_48 : decode cX8_blinks 48 = .ok (.ireturn, 1) := by decide +kernel
theorem dX8_blinks_49 : decode cX8_blinks 49 = .ok (.aload_n 0, 1) := by decide +kernel
theorem dX8_blinks_50 : decode cX8_blinks 50 = .ok (.getfield 14, 3) := by decide +kernel
theorem dX8_blinks_53 : decode cX8_blinks 53 = .ok (.bipush 50, 2) := by decide +kernel
theorem dX8_blinks_55 : decode cX8_blinks 55 = .ok (.invokevirtual 56, 3) := by decide +kernel
theorem dX8_blinks_58 : decode cX8_blinks 58 = .ok (.pop, 1) := by decide +kernel
theorem dX8_blinks_59 : decode cX8_blinks 59 = .ok (.aload_n 0, 1) := by decide +kernel
theorem dX8_blinks_60 : decode cX8_blinks 60 = .ok (.iconst 1, 1) := by decide +kernel
theorem dX8_blinks_61 : decode cX8_blinks 61 = .ok (.iload_n 2, 1) := by decide +kernel
theorem dX8_blinks_62 : decode cX8_blinks 62 = .ok (.invokevirtual 43, 3) := by decide +kernel
theorem dX8_blinks_65 : decode cX8_blinks 65 = .ok (.iconst 3, 1) := by decide +kernel
theorem dX8_blinks_66 : decode cX8_blinks 66 = .ok (.imul, 1) := by decide +kernel
theorem dX8_blinks_67 : decode cX8_blinks 67 = .ok (.ireturn, 1) := by decide +kernel
theorem dX8_blinks_68 : decode cX8_blinks 68 = .ok (.aload_n 0, 1) := by decide +kernel
theorem dX8_blinks_69 : decode cX8_blinks 69 = .ok (.getfield 14, 3) := by decide +kernel
theorem dX8_blinks_72 : decode cX8_blinks 72 = .ok (.bipush 20, 2) := by decide +kernel
theorem dX8_blinks_74 : decode cX8_blinks 74 = .ok (.invokevirtual 56, 3) := by decide +kernel
theorem dX8_blinks_77 : decode cX8_blinks 77 = .ok (.pop, 1) := by decide +kernel
theorem dX8_blinks_78 : decode cX8_blinks 78 = .ok (.aload_n 0, 1) := by decide +kernel
theorem dX8_blinks_79 : decode cX8_blinks 79 = .ok (.iconst 0, 1) := by decide +kernel
theorem dX8_blinks_80 : decode cX8_blinks 80 = .ok (.iload_n 2, 1) := by decide +kernel
theorem dX8_blinks_81 : decode cX8_blinks 81 = .ok (.invokevirtual 43, 3) := by decide +kernel
theorem dX8_blinks_84 : decode cX8_blinks 84 = .ok (.iconst 4, 1) := by decide +kernel
theorem dX8_blinks_85 : decode cX8_blinks 85 = .ok (.isub, 1) := by decide +kernel
theorem dX8_blinks_86 : decode cX8_blinks 86 = .ok (.ireturn, 1) := by decide +kernel
theorem dX8_blinks_87 : decode cX8_blinks 87 = .ok (.aload_n 0, 1) := by decide +kernel
theorem dX8_blinks_88 : decode cX8_blinks 88 = .ok (.getfield 14, 3) := by decide +kernel
theorem dX8_blinks_91 : decode cX8_blinks 91 = .ok (.bipush 10, 2) := by decide +kernel
theorem dX8_blinks_93 : decode cX8_blinks 93 = .ok (.invokevirtual 56, 3) := by decide +kernel
theorem dX8_blinks_96 : decode cX8_blinks 96 = .ok (.pop, 1) := by decide +kernel
theorem dX8_blinks_97 : decode cX8_blinks 97 = .ok (.iload_n 2, 1) := by decide +kernel
theorem dX8_blinks_98 : decode cX8_blinks 98 = .ok (.aload_n 0, 1) := by decide +kernel
theorem dX8_blinks_99 : decode cX8_blinks 99 = .ok (.getfield 36, 3) := by decide +kernel
theorem dX8_blinks_102 : decode cX8_blinks 102 = .ok (.iadd, 1) := by decide +kernel
theorem dX8_blinks_103 : decode cX8_blinks 103 = .ok (.ireturn, 1) := by decide +kernel
theorem dX8_moves_0 : decode cX8_moves 0 = .ok (.iload_n 1, 1) := by decide +kernel
theorem dX8_moves_1 : decode cX8_moves 1 = .ok (.tableswitch 95 2 6 #[76, 95, 95, 57, 35], 35) := by decide +kernel
theorem dX8_moves_36 : decode cX8_moves 36 = .ok (.aload_n 0, 1) := by decide +kernel
theorem dX8_moves_37 : decode cX8_moves 37 = .ok (.getfield 14, 3) := by decide +kernel
theorem dX8_moves_40 : decode cX8_moves 40 = .ok (.bipush 71, 2) := by decide +kernel
theorem dX8_moves_42 : decode cX8_moves 42 = .ok (.invokevirtual 56, 3) := by decide +kernel
theorem dX8_moves_45 : decode cX8_moves 45 = .ok (.pop, 1) := by decide +kernel
theorem dX8_moves_46 : decode cX8_moves 46 = .ok (.aload_n 0, 1) := by decide +kernel
theorem dX8_moves_47 : decode cX8_moves 47 = .ok (.iconst 0, 1) := by decide +kernel
theorem dX8_moves_48 : decode cX8_moves 48 = .ok (.iload_n 2, 1) := by decide +kernel
theorem dX8_moves_49 : decode cX8_moves 49 = .ok (.invokevirtual 47, 3) := by decide +kernel
theorem dX8_moves_52 : decode cX8_moves 52 = .ok (.aload_n 0, 1) := by decide +kernel
theorem dX8_moves_53 : decode cX8_moves 53 = .ok (.getfield 42, 3) := by decide +kernel
theorem dX8_moves_56 : decode cX8_moves 56 = .ok (.iadd, 1) := by decide +kernel
theorem dX8_moves_57 : decode cX8_moves 57 = .ok (.ireturn, 1) := by decide +kernel
theorem dX8_moves_58 : decode cX8_moves 58 = .ok (.aload_n 0, 1) := by decide +kernel
theorem dX8_moves_59 : decode cX8_moves 59 = .ok (.getfield 14, 3) := by decide +kernel
theorem dX8_moves_62 : decode cX8_moves 62 = .ok (.bipush 60, 2) := by decide +kernel
theorem dX8_moves_64 : decode cX8_moves 64 = .ok (.invokevirtual 56, 3) := by decide +kernel
theorem dX8_moves_67 : decode cX8_moves 67 = .ok (.pop, 1) := by decide +kernel
theorem dX8_moves_68 : decode cX8_moves 68 = .ok (.aload_n 0, 1) := by decide +kernel
theorem dX8_moves_69 : decode cX8_moves 69 = .ok (.iconst 2, 1) := by decide +kernel
theorem dX8_moves_70 : decode cX8_moves 70 = .ok (.iload_n 2, 1) := by decide +kernel
theorem dX8_moves_71 : decode cX8_moves 71 = .ok (.iconst 1, 1) := by decide +kernel
theorem dX8_moves_72 : decode cX8_moves 72 = .ok (.iadd, 1) := by decide +kernel
theorem dX8_moves_73 : decode cX8_moves 73 = .ok (.invokevirtual 47, 3) := by decide +kernel
theorem dX8_moves_76 : decode cX8_moves 76 = .ok (.ireturn, 1) := by decide +kernel
theorem dX8_moves_77 : decode cX8_moves 77 = .ok (.aload_n 0, 1) := by decide +kernel
theorem dX8_moves_78 : decode cX8_moves 78 = .ok (.getfield 14, 3) := by decide +kernel
theorem dX8_moves_81 : decode cX8_moves 81 = .ok (.bipush 30, 2) := by decide +kernel
theorem dX8_moves_83 : decode cX8_moves 83 = .ok (.invokevirtual 56, 3) := by decide +kernel
theorem dX8_moves_86 : decode cX8_moves 86 = .ok (.pop, 1) := by decide +kernel
theorem dX8_moves_87 : decode cX8_moves 87 = .ok (.iconst 0, 1) := by decide +kernel
theorem dX8_moves_88 : decode cX8_moves 88 = .ok (.aload_n 0, 1) := by decide +kernel
theorem dX8_moves_89 : decode cX8_moves 89 = .ok (.iconst 0, 1) := by decide +kernel
theorem dX8_moves_90 : decode cX8_moves 90 = .ok (.iload_n 2, 1) := by decide +kernel
theorem dX8_moves_91 : decode cX8_moves 91 = .ok (.invokevirtual 47, 3) := by decide +kernel
theorem dX8_moves_94 : decode cX8_moves 94 = .ok (.isub, 1) := by decide +kernel
theorem dX8_moves_95 : decode cX8_moves 95 = .ok (.ireturn, 1) := by decide +kernel
theorem dX8_moves_96 : decode cX8_moves 96 = .ok (.aload_n 0, 1) := by decide +kernel
theorem dX8_moves_97 : decode cX8_moves 97 = .ok (.getfield 14, 3) := by decide +kernel
theorem dX8_moves_100 : decode cX8_moves 100 = .ok (.bipush 11, 2) := by decide +kernel
theorem dX8_moves_102 : decode cX8_moves 102 = .ok (.invokevirtual 56, 3) := by decide +kernel
theorem dX8_moves_105 : decode cX8_moves 105 = .ok (.pop, 1) := by decide +kernel
theorem dX8_moves_106 : decode cX8_moves 106 = .ok (.aload_n 0, 1) := by decide +kernel
theorem dX8_moves_107 : decode cX8_moves 107 = .ok (.aload_n 0, 1) := by decide +kernel
theorem dX8_moves_108 : decode cX8_moves 108 = .ok (.getfield 33, 3) := by decide +kernel
theorem dX8_moves_111 : decode cX8_moves 111 = .ok (.iload_n 2, 1) := by decide +kernel
theorem dX8_moves_112 : decode cX8_moves 112 = .ok (.invokevirtual 43, 3) := by decide +kernel
theorem dX8_moves_115 : decode cX8_moves 115 = .ok (.iconst 2, 1) := by decide +kernel
theorem dX8_moves_116 : decode cX8_moves 116 = .ok (.imul, 1) := by decide +kernel
theorem dX8_moves_117 : decode cX8_moves 117 = .ok (.ireturn, 1) := by decide +kernel
theorem dX8_looks_0 : decode cX8_looks 0 = .ok (.iload_n 1, 1) := by decide +kernel
theorem dX8_looks_1 : decode cX8_looks 1 = .ok (.lookupswitch 68 #[(3, 49), (4, 27)], 27) := by decide +kernel
theorem dX8_looks_28 : decode cX8_looks 28 = .ok (.aload_n 0, 1) := by decide +kernel
theorem dX8_looks_29 : decode cX8_looks 29 = .ok (.getfield 14, 3) := by decide +kernel
theorem dX8_looks_32 : decode cX8_looks 32 = .ok (.bipush 51, 2) := by decide +kernel
theorem dX8_looks_34 : decode cX8_looks 34 = .ok (.invokevirtual 56, 3) := by decide +kernel
theorem dX8_looks_37 : decode cX8_looks 37 = .ok (.pop, 1) := by decide +kernel
theorem dX8_looks_38 : decode cX8_looks 38 = .ok (.aload_n 0, 1) := by decide +kernel
theorem dX8_looks_39 : decode cX8_looks 39 = .ok (.iconst 1, 1) := by decide +kernel
theorem dX8_looks_40 : decode cX8_looks 40 = .ok (.iload_n 2, 1) := by decide +kernel
theorem dX8_looks_41 : decode cX8_looks 41 = .ok (.invokevirtual 50, 3) := by decide +kernel
theorem dX8_looks_44 : decode cX8_looks 44 = .ok (.aload_n 0, 1) := by decide +kernel
theorem dX8_looks_45 : decode cX8_looks 45 = .ok (.getfield 36, 3) := by decide +kernel
theorem dX8_looks_48 : decode cX8_looks 48 = .ok (.ixor, 1) := by decide +kernel
theorem dX8_looks_49 : decode cX8_looks 49 = .ok (.ireturn, 1) := by decide +kernel
theorem dX8_looks_50 : decode cX8_looks 50 = .ok (.aload_n 0, 1) := by decide +kernel
theorem dX8_looks_51 : decode cX8_looks 51 = .ok (.getfield 14, 3) := by decide +kernel
theorem dX8_looks_54 : decode cX8_looks 54 = .ok (.bipush 40, 2) := by decide +kernel
theorem dX8_looks_56 : decode cX8_looks 56 = .ok (.invokevirtual 56, 3) := by decide +kernel
theorem dX8_looks_59 : decode cX8_looks 59 = .ok (.pop, 1) := by decide +kernel
theorem dX8_looks_60 : decode cX8_looks 60 = .ok (.aload_n 0, 1) := by decide +kernel
theorem dX8_looks_61 : decode cX8_looks 61 = .ok (.iconst 0, 1) := by decide +kernel
theorem dX8_looks_62 : decode cX8_looks 62 = .ok (.iload_n 2, 1) := by decide +kernel
theorem dX8_looks_63 : decode cX8_looks 63 = .ok (.iconst 2, 1) := by decide +kernel
theorem dX8_looks_64 : decode cX8_looks 64 = .ok (.idiv, 1) := by decide +kernel
theorem dX8_looks_65 : decode cX8_looks 65 = .ok (.invokevirtual 50, 3) := by decide +kernel
theorem dX8_looks_68 : decode cX8_looks 68 = .ok (.ireturn, 1) := by decide +kernel
theorem dX8_looks_69 : decode cX8_looks 69 = .ok (.aload_n 0, 1) := by decide +kernel
theorem dX8_looks_70 : decode cX8_looks 70 = .ok (.getfield 14, 3) := by decide +kernel
theorem dX8_looks_73 : decode cX8_looks 73 = .ok (.bipush 12, 2) := by decide +kernel
theorem dX8_looks_75 : decode cX8_looks 75 = .ok (.invokevirtual 56, 3) := by decide +kernel
theorem dX8_looks_78 : decode cX8_looks 78 = .ok (.pop, 1) := by decide +kernel
theorem dX8_looks_79 : decode cX8_looks 79 = .ok (.aload_n 0, 1) := by decide +kernel
theorem dX8_looks_80 : decode cX8_looks 80 = .ok (.aload_n 0, 1) := by decide +kernel
theorem dX8_looks_81 : decode cX8_looks 81 = .ok (.getfield 33, 3) := by decide +kernel
theorem dX8_looks_84 : decode cX8_looks 84 = .ok (.iload_n 2, 1) := by decide +kernel
theorem dX8_looks_85 : decode cX8_looks 85 = .ok (.invokevirtual 47, 3) := by decide +kernel
theorem dX8_looks_88 : decode cX8_looks 88 = .ok (.aload_n 0, 1) := by decide +kernel
theorem dX8_looks_89 : decode cX8_looks 89 = .ok (.getfield 42, 3) := by decide +kernel
theorem dX8_looks_92 : decode cX8_looks 92 = .ok (.isub, 1) := by decide +kernel
theorem dX8_looks_93 : decode cX8_looks 93 = .ok (.ireturn, 1) := by decide +kernel
theorem dX8_parts_0 : decode cX8_parts 0 = .ok (.iload_n 1, 1) := by decide +kernel
theorem dX8_parts_1 : decode cX8_parts 1 = .ok (.iconst 1, 1) := by decide +kernel
theorem dX8_parts_2 : decode cX8_parts 2 = .ok (.if_icmp .eq 8, 3) := by decide +kernel
theorem dX8_parts_5 : decode cX8_parts 5 = .ok (.iload_n 1, 1) := by decide +kernel
theorem dX8_parts_6 : decode cX8_parts 6 = .ok (.iconst 4, 1) := by decide +kernel
theorem dX8_parts_7 : decode cX8_parts 7 = .ok (.if_icmp .ne 43, 3) := by decide +kernel
theorem dX8_parts_10 : decode cX8_parts 10 = .ok (.aload_n 0, 1) := by decide +kernel
theorem dX8_parts_11 : decode cX8_parts 11 = .ok (.getfield 14, 3) := by decide +kernel
theorem dX8_parts_14 : decode cX8_parts 14 = .ok (.bipush 21, 2) := by decide +kernel
theorem dX8_parts_16 : decode cX8_parts 16 = .ok (.invokevirtual 56, 3) := by decide +kernel
theorem dX8_parts_19 : decode cX8_parts 19 = .ok (.pop, 1) := by decide +kernel
theorem dX8_parts_20 : decode cX8_parts 20 = .ok (.aload_n 0, 1) := by decide +kernel
theorem dX8_parts_21 : decode cX8_parts 21 = .ok (.iconst 0, 1) := by decide +kernel
theorem dX8_parts_22 : decode cX8_parts 22 = .ok (.iload_n 2, 1) := by decide +kernel
theorem dX8_parts_23 : decode cX8_parts 23 = .ok (.invokevirtual 53, 3) := by decide +kernel
theorem dX8_parts_26 : decode cX8_parts 26 = .ok (.istore_n 3, 1) := by decide +kernel
theorem dX8_parts_27 : decode cX8_parts 27 = .ok (.aload_n 0, 1) := by decide +kernel
theorem dX8_parts_28 : decode cX8_parts 28 = .ok (.getfield 23, 3) := by decide +kernel
theorem dX8_parts_31 : decode cX8_parts 31 = .ok (.ifCond .eq 7, 3) := by decide +kernel
theorem dX8_parts_34 : decode cX8_parts 34 = .ok (.iconst 0, 1) := by decide +kernel
theorem dX8_parts_35 : decode cX8_parts 35 = .ok (.goto 14, 3) := by decide +kernel
theorem dX8_parts_38 : decode cX8_parts 38 = .ok (.iload_n 3, 1) := by decide +kernel
theorem dX8_parts_39 : decode cX8_parts 39 = .ok (.aload_n 0, 1) := by decide +kernel
theorem dX8_parts_40 : decode cX8_parts 40 = .ok (.aload_n 0, 1) := by decide +kernel
theorem dX8_parts_41 : decode cX8_parts 41 = .ok (.getfield 33, 3) := by decide +kernel
theorem dX8_parts_44 : decode cX8_parts 44 = .ok (.iconst 1, 1) := by decide +kernel
theorem dX8_parts_45 : decode cX8_parts 45 = .ok (.invokevirtual 47, 3) := by decide +kernel
theorem dX8_parts_48 : decode cX8_parts 48 = .ok (.iadd, 1) := by decide +kernel
theorem dX8_parts_49 : decode cX8_parts 49 = .ok (.ireturn, 1) := by decide +kernel
theorem dX8_parts_50 : decode cX8_parts 50 = .ok (.aload_n 0, 1) := by decide +kernel
theorem dX8_parts_51 : decode cX8_parts 51 = .ok (.getfield 14, 3) := by decide +kernel
theorem dX8_parts_54 : decode cX8_parts 54 = .ok (.bipush 13, 2) := by decide +kernel
theorem dX8_parts_56 : decode cX8_parts 56 = .ok (.invokevirtual 56, 3) := by decide +kernel
theorem dX8_parts_59 : decode cX8_parts 59 = .ok (.pop, 1) := by decide +kernel
theorem dX8_parts_60 : decode cX8_parts 60 = .ok (.aload_n 0, 1) := by decide +kernel
theorem dX8_parts_61 : decode cX8_parts 61 = .ok (.getfield 42, 3) := by decide +kernel
theorem dX8_parts_64 : decode cX8_parts 64 = .ok (.aload_n 0, 1) := by decide +kernel
theorem dX8_parts_65 : decode cX8_parts 65 = .ok (.getfield 36, 3) := by decide +kernel
theorem dX8_parts_68 : decode cX8_parts 68 = .ok (.isub, 1) := by decide +kernel
theorem dX8_parts_69 : decode cX8_parts 69 = .ok (.istore_n 3, 1) := by decide +kernel
theorem dX8_parts_70 : decode cX8_parts 70 = .ok (.aload_n 0, 1) := by decide +kernel
theorem dX8_parts_71 : decode cX8_parts 71 = .ok (.iload_n 3, 1) := by decide +kernel
theorem dX8_parts_72 : decode cX8_parts 72 = .ok (.ifCond .ne 7, 3) := by decide +kernel
theorem dX8_parts_75 : decode cX8_parts 75 = .ok (.iconst 1, 1) := by decide +kernel
theorem dX8_parts_76 : decode cX8_parts 76 = .ok (.goto 4, 3) := by decide +kernel
theorem dX8_parts_79 : decode cX8_parts 79 = .ok (.iconst 0, 1) := by decide +kernel
theorem dX8_parts_80 : decode cX8_parts 80 = .ok (.putfield 23, 3) := by decide +kernel
theorem dX8_parts_83 : decode cX8_parts 83 = .ok (.iload_n 3, 1) := by decide +kernel
theorem dX8_parts_84 : decode cX8_parts 84 = .ok (.ifCond .ne 7, 3) := by decide +kernel
theorem dX8_parts_87 : decode cX8_parts 87 = .ok (.iconst 0, 1) := by decide +kernel
theorem dX8_parts_88 : decode cX8_parts 88 = .ok (.goto 6, 3) := by decide +kernel
theorem dX8_parts_91 : decode cX8_parts 91 = .ok (.iload_n 2, 1) := by decide +kernel
theorem dX8_parts_92 : decode cX8_parts 92 = .ok (.iload_n 3, 1) := by decide +kernel
theorem dX8_parts_93 : decode cX8_parts 93 = .ok (.idiv, 1) := by decide +kernel
theorem dX8_parts_94 : decode cX8_parts 94 = .ok (.ireturn, 1) := by decide +kernel
theorem dX9_init_0 : decode cX9_init 0 = .ok (.aload_n 0, 1) := by decide +kernel
theorem dX9_init_1 : decode cX9_init 1 = .ok (.invokespecial 3, 3) := by decide +kernel
theorem dX9_init_4 : decode cX9_init 4 = .ok (.aload_n 0, 1) := by decide +kernel
theorem dX9_init_5 : decode cX9_init 5 = .ok (.new 9, 3) := by decide +kernel
theorem dX9_init_8 : decode cX9_init 8 = .ok (.dup, 1) := by decide +kernel
theorem dX9_init_9 : decode cX9_init 9 = .ok (.invokespecial 11, 3) := by decide +kernel
theorem dX9_init_12 : decode cX9_init 12 = .ok (.putfield 12, 3) := by decide +kernel
theorem dX9_init_15 : decode cX9_init 15 = .ok (.aload_n 0, 1) := by decide +kernel
theorem dX9_init_16 : decode cX9_init 16 = .ok (.new 16, 3) := by decide +kernel
theorem dX9_init_19 : decode cX9_init 19 = .ok (.dup, 1) := by decide +kernel
theorem dX9_init_20 : decode cX9_init 20 = .ok (.aload_n 0, 1) := by decide +kernel
theorem dX9_init_21 : decode cX9_init 21 = .ok (.getfield 12, 3) := by decide +kernel
theorem dX9_init_24 : decode cX9_init 24 = .ok (.getfield 18, 3) := by decide +kernel
theorem dX9_init_27 : decode cX9_init 27 = .ok (.invokespecial 22, 3) := by decide +kernel
theorem dX9_init_30 : decode cX9_init 30 = .ok (.putfield 25, 3) := by decide +kernel
theorem dX9_init_33 : decode cX9_init 33 = .ok (.aload_n 0, 1) := by decide +kernel
theorem dX9_init_34 : decode cX9_init 34 = .ok (.new 29, 3) := by decide +kernel
theorem dX9_init_37 : decode cX9_init 37 = .ok (.dup, 1) := by decide +kernel
theorem dX9_init_38 : decode cX9_init 38 = .ok (.aload_n 0, 1) := by decide +kernel
theorem dX9_init_39 : decode cX9_init 39 = .ok (.getfield 12, 3) := by decide +kernel
theorem dX9_init_42 : decode cX9_init 42 = .ok (.invokespecial 31, 3) := by decide +kernel
theorem dX9_init_45 : decode cX9_init 45 = .ok (.putfield 34, 3) := by decide +kernel
theorem dX9_init_48 : decode cX9_init 48 = .ok (.aload_n 0, 1) := by decide +kernel
theorem dX9_init_49 : decode cX9_init 49 = .ok (.new 38, 3) := by decide +kernel
theorem dX9_init_52 : decode cX9_init 52 = .ok (.dup, 1) := by decide +kernel
theorem dX9_init_53 : decode cX9_init 53 = .ok (.invokespecial 40, 3) := by decide +kernel
theorem dX9_init_56 : decode cX9_init 56 = .ok (.putfield 41, 3) := by decide +kernel
theorem dX9_init_59 : decode cX9_init 59 = .ok (.aload_n 0, 1) := by decide +kernel
theorem dX9_init_60 : decode cX9_init 60 = .ok (.iconst 4, 1) := by decide +kernel
theorem dX9_init_61 : decode cX9_init 61 = .ok (.anewarray 45, 3) := by decide +kernel
theorem dX9_init_64 : decode cX9_init 64 = .ok (.putfield 47, 3) := by decide +kernel
theorem dX9_init_67 : decode cX9_init 67 = .ok (.aload_n 0, 1) := by decide +kernel
theorem dX9_init_68 : decode cX9_init 68 = .ok (.bipush 7, 2) := by decide +kernel
theorem dX9_init_70 : decode cX9_init 70 = .ok (.newarray .int, 2) := by decide +kernel
theorem dX9_init_72 : decode cX9_init 72 = .ok (.putfield 51, 3) := by decide +kernel
theorem dX9_init_75 : decode cX9_init 75 = .ok (.iconst 0, 1) := by decide +kernel
theorem dX9_init_76 : decode cX9_init 76 = .ok (.istore_n 1, 1) := by decide +kernel
theorem dX9_init_77 : decode cX9_init 77 = .ok (.iload_n 1, 1) := by decide +kernel
theorem dX9_init_78 : decode cX9_init 78 = .ok (.iconst 4, 1) := by decide +kernel
theorem dX9_init_79 : decode cX9_init 79 = .ok (.if_icmp .ge 22, 3) := by decide +kernel
theorem dX9_init_82 : decode cX9_init 82 = .ok (.aload_n 0, 1) := by decide +kernel
theorem dX9_init_83 : decode cX9_init 83 = .ok (.getfield 47, 3) := by decide +kernel
theorem dX9_init_86 : decode cX9_init 86 = .ok (.iload_n 1, 1) := by decide +kernel
theorem dX9_init_87 : decode cX9_init 87 = .ok (.new 45, 3) := by decide +kernel
theorem dX9_init_90 : decode cX9_init 90 = .ok (.dup, 1) := by decide +kernel
theorem dX9_init_91 : decode cX9_init 91 = .ok (.invokespecial 55, 3) := by decide +kernel
theorem dX9_init_94 : decode cX9_init 94 = .ok (.aastore, 1) := by decide +kernel
theorem dX9_init_95 : decode cX9_init 95 = .ok (.iinc 1 1, 3) := by decide +kernel
theorem dX9_init_98 : decode cX9_init 98 = .ok (.goto (-21), 3) := by decide +kernel
theorem dX9_init_101 : decode cX9_init 101 = .ok (.return_, 1) := by decide +kernel
theorem dX9_person_0 : decode cX9_person 0 = .ok (.iload_n 1, 1) := by decide +kernel
theorem dX9_person_1 : decode cX9_person 1 = .ok (.invokestatic 56, 3) := by decide +kernel
theorem dX9_person_4 : decode cX9_person 4 = .ok (.ifCond .eq 11, 3) := by decide +kernel
theorem dX9_person_7 : decode cX9_person 7 = .ok (.iload_n 2, 1) := by decide +kernel
theorem dX9_person_8 : decode cX9_person 8 = .ok (.iload_n 3, 1) := by decide +kernel
theorem dX9_person_9 : decode cX9_person 9 = .ok (.invokestatic 60, 3) := by decide +kernel
theorem dX9_person_12 : decode cX9_person 12 = .ok (.ifCond .ne 10, 3) := by decide +kernel
theorem dX9_person_15 : decode cX9_person 15 = .ok (.aload_n 0, 1) := by decide +kernel
theorem dX9_person_16 : decode cX9_person 16 = .ok (.ldc 64, 2) := by decide +kernel
theorem dX9_person_18 : decode cX9_person 18 = .ok (.invokevirtual 65, 3) := by decide +kernel
theorem dX9_person_21 : decode cX9_person 21 = .ok (.ireturn, 1) := by decide +kernel
theorem dX9_person_22 : decode cX9_person 22 = .ok (.aload_n 0, 1) := by decide +kernel
theorem dX9_person_23 : decode cX9_person 23 = .ok (.getfield 12, 3) := by decide +kernel
theorem dX9_person_26 : decode cX9_person 26 = .ok (.getfield 69, 3) := by decide +kernel
theorem dX9_person_29 : decode cX9_person 29 = .ok (.bipush 6, 2) := by decide +kernel
theorem dX9_person_31 : decode cX9_person 31 = .ok (.if_icmp .lt 10, 3) := by decide +kernel
theorem dX9_person_34 : decode cX9_person 34 = .ok (.aload_n 0, 1) := by decide +kernel
theorem dX9_person_35 : decode cX9_person 35 = .ok (.ldc 73, 2) := by decide +kernel
theorem dX9_person_37 : decode cX9_person 37 = .ok (.invokevirtual 65, 3) := by decide +kernel
theorem dX9_person_40 : decode cX9_person 40 = .ok (.ireturn, 1) := by decide +kernel
theorem dX9_person_41 : decode cX9_person 41 = .ok (.aload_n 0, 1) := by decide +kernel
theorem dX9_person_42 : decode cX9_person 42 = .ok (.getfield 12, 3) := by decide +kernel
theorem dX9_person_45 : decode cX9_person 45 = .ok (.getfield 69, 3) := by decide +kernel
theorem dX9_person_48 : decode cX9_person 48 = .ok (.istore 4, 2) := by decide +kernel
theorem dX9_person_50 : decode cX9_person 50 = .ok (.aload_n 0, 1) := by decide +kernel
theorem dX9_person_51 : decode cX9_person 51 = .ok (.getfield 12, 3) := by decide +kernel
theorem dX9_person_54 : decode cX9_person 54 = .ok (.getfield 74, 3) := by decide +kernel
theorem dX9_person_57 : decode cX9_person 57 = .ok (.iload 4, 2) := by decide +kernel
theorem dX9_person_59 : decode cX9_person 59 = .ok (.aaload, 1) := by decide +kernel
theorem dX9_person_60 : decode cX9_person 60 = .ok (.astore 5, 2) := by decide +kernel
theorem dX9_person_62 : decode cX9_person 62 = .ok (.aload 5, 2) := by decide +kernel
theorem dX9_person_64 : decode cX9_person 64 = .ok (.iload_n 1, 1) := by decide +kernel
theorem dX9_person_65 : decode cX9_person 65 = .ok (.invokevirtual 78, 3) := by decide +kernel
theorem dX9_person_68 : decode cX9_person 68 = .ok (.aload 5, 2) := by decide +kernel
theorem dX9_person_70 : decode cX9_person 70 = .ok (.iload_n 2, 1) := by decide +kernel
theorem dX9_person_71 : decode cX9_person 71 = .ok (.putfield 84, 3) := by decide +kernel
theorem dX9_person_74 : decode cX9_person 74 = .ok (.aload 5, 2) := by decide +kernel
theorem dX9_person_76 : decode cX9_person 76 = .ok (.iload_n 3, 1) := by decide +kernel
theorem dX9_person_77 : decode cX9_person 77 = .ok (.putfield 87, 3) := by decide +kernel
theorem dX9_person_80 : decode cX9_person 80 = .ok (.aload_n 0, 1) := by decide +kernel
theorem dX9_person_81 : decode cX9_person 81 = .ok (.getfield 12, 3) := by decide +kernel
theorem dX9_person_84 : decode cX9_person 84 = .ok (.dup, 1) := by decide +kernel
theorem dX9_person_85 : decode cX9_person 85 = .ok (.getfield 69, 3) := by decide +kernel
theorem dX9_person_88 : decode cX9_person 88 = .ok (.iconst 1, 1) := by decide +kernel
theorem dX9_person_89 : decode cX9_person 89 = .ok (.iadd, 1) := by decide +kernel
theorem dX9_person_90 : decode cX9_person 90 = .ok (.putfield 69, 3) := by decide +kernel
theorem dX9_person_93 : decode cX9_person 93 = .ok (.iload 4, 2) := by decide +kernel
theorem dX9_person_95 : decode cX9_person 95 = .ok (.ireturn, 1) := by decide +kernel
theorem dX9_personIs_0 : decode cX9_personIs 0 = .ok (.aload_n 0, 1) := by decide +kernel
theorem dX9_personIs_1 : decode cX9_personIs 1 = .ok (.getfield 12, 3) := by decide +kernel
theorem dX9_personIs_4 : decode cX9_personIs 4 = .ok (.iload_n 1, 1) := by decide +kernel
theorem dX9_personIs_5 : decode cX9_personIs 5 = .ok (.invokevirtual 90, 3) := by decide +kernel
theorem dX9_personIs_8 : decode cX9_personIs 8 = .ok (.ifCond .eq 12, 3) := by decide +kernel
theorem dX9_personIs_11 : decode cX9_personIs 11 = .ok (.iload_n 2, 1) := by decide +kernel
theorem dX9_personIs_12 : decode cX9_personIs 12 = .ok (.iconst 0, 1) := by decide +kernel
theorem dX9_personIs_13 : decode cX9_personIs 13 = .ok (.iconst 4, 1) := by decide +kernel
theorem dX9_personIs_14 : decode cX9_personIs 14 = .ok (.invokestatic 93, 3) := by decide +kernel
theorem dX9_personIs_17 : decode cX9_personIs 17 = .ok (.ifCond .ne 10, 3) := by decide +kernel
theorem dX9_personIs_20 : decode cX9_personIs 20 = .ok (.aload_n 0, 1) := by decide +kernel
theorem dX9_personIs_21 : decode cX9_personIs 21 = .ok (.ldc 64, 2) := by decide +kernel
theorem dX9_personIs_23 : decode cX9_personIs 23 = .ok (.invokevirtual 65, 3) := by decide +kernel
theorem dX9_personIs_26 : decode cX9_personIs 26 = .ok (.ireturn, 1) := by decide +kernel
theorem dX9_personIs_27 : decode cX9_personIs 27 = .ok (.aload_n 0, 1) := by decide +kernel
theorem dX9_personIs_28 : decode cX9_personIs 28 = .ok (.getfield 12, 3) := by decide +kernel
theorem dX9_personIs_31 : decode cX9_personIs 31 = .ok (.getfield 74, 3) := by decide +kernel
theorem dX9_personIs_34 : decode cX9_personIs 34 = .ok (.iload_n 1, 1) := by decide +kernel
theorem dX9_personIs_35 : decode cX9_personIs 35 = .ok (.aaload, 1) := by decide +kernel
theorem dX9_personIs_36 : decode cX9_personIs 36 = .ok (.astore_n 3, 1) := by decide +kernel
theorem dX9_personIs_37 : decode cX9_personIs 37 = .ok (.iload_n 2, 1) := by decide +kernel
theorem dX9_personIs_38 : decode cX9_personIs 38 = .ok (.tableswitch 50 0 3 #[30, 35, 40, 45], 30) := by decide +kernel
theorem dX9_personIs_68 : decode cX9_personIs 68 = .ok (.aload_n 3, 1) := by decide +kernel
theorem dX9_personIs_69 : decode cX9_personIs 69 = .ok (.getfield 97, 3) := by decide +kernel
theorem dX9_personIs_72 : decode cX9_personIs 72 = .ok (.ireturn, 1) := by decide +kernel
theorem dX9_personIs_73 : decode cX9_personIs 73 = .ok (.aload_n 3, 1) := by decide +kernel
theorem dX9_personIs_74 : decode cX9_personIs 74 = .ok (.getfield 100, 3) := by decide +kernel
theorem dX9_personIs_77 : decode cX9_personIs 77 = .ok (.ireturn, 1) := by decide +kernel
theorem dX9_personIs_78 : decode cX9_personIs 78 = .ok (.aload_n 3, 1) := by decide +kernel
theorem dX9_personIs_79 : decode cX9_personIs 79 = .ok (.getfield 84, 3) := by decide +kernel
theorem dX9_personIs_82 : decode cX9_personIs 82 = .ok (.ireturn, 1) := by decide +kernel
theorem dX9_personIs_83 : decode cX9_personIs 83 = .ok (.aload_n 3, 1) := by decide +kernel
theorem dX9_personIs_84 : decode cX9_personIs 84 = .ok (.getfield 87, 3) := by decide +kernel
theorem dX9_personIs_87 : decode cX9_personIs 87 = .ok (.ireturn, 1) := by decide +kernel
theorem dX9_personIs_88 : decode cX9_personIs 88 = .ok (.aload_n 0, 1) := by decide +kernel
theorem dX9_personIs_89 : decode cX9_personIs 89 = .ok (.getfield 12, 3) := by decide +kernel
theorem dX9_personIs_92 : decode cX9_personIs 92 = .ok (.iload_n 1, 1) := by decide +kernel
theorem dX9_personIs_93 : decode cX9_personIs 93 = .ok (.aload_n 0, 1) := by decide +kernel
theorem dX9_personIs_94 : decode cX9_personIs 94 = .ok (.getfield 12, 3) := by decide +kernel
theorem dX9_personIs_97 : decode cX9_personIs 97 = .ok (.getfield 103, 3) := by decide +kernel
theorem dX9_personIs_100 : decode cX9_personIs 100 = .ok (.invokevirtual 106, 3) := by decide +kernel
theorem dX9_personIs_103 : decode cX9_personIs 103 = .ok (.ifCond .eq 7, 3) := by decide +kernel
theorem dX9_personIs_106 : decode cX9_personIs 106 = .ok (.iconst 1, 1) := by decide +kernel
theorem dX9_personIs_107 : decode cX9_personIs 107 = .ok (.goto 4, 3) := by decide +kernel
theorem dX9_personIs_110 : decode cX9_personIs 110 = .ok (.iconst 0, 1) := by decide +kernel
theorem dX9_personIs_111 : decode cX9_personIs 111 = .ok (.ireturn, 1) := by decide +kernel
theorem dX9_become_0 : decode cX9_become 0 = .ok (.aload_n 0, 1) := by decide +kernel
theorem dX9_become_1 : decode cX9_become 1 = .ok (.getfield 12, 3) := by decide +kernel
theorem dX9_become_4 : decode cX9_become 4 = .ok (.iload_n 1, 1) := by decide +kernel
theorem dX9_become_5 : decode cX9_become 5 = .ok (.invokevirtual 90, 3) := by decide +kernel
theorem dX9_become_8 : decode cX9_become 8 = .ok (.ifCond .eq 10, 3) := by decide +kernel
theorem dX9_become_11 : decode cX9_become 11 = .ok (.iload_n 2, 1) := by decide +kernel
theorem dX9_become_12 : decode cX9_become 12 = .ok (.invokestatic 56, 3) := by decide +kernel
theorem dX9_become_15 : decode cX9_become 15 = .ok (.ifCond .ne 10, 3) := by decide +kernel
theorem dX9_become_18 : decode cX9_become 18 = .ok (.aload_n 0, 1) := by decide +kernel
theorem dX9_become_19 : decode cX9_become 19 = .ok (.ldc 64, 2) := by decide +kernel
theorem dX9_become_21 : decode cX9_become 21 = .ok (.invokevirtual 65, 3) := by decide +kernel
theorem dX9_become_24 : decode cX9_become 24 = .ok (.ireturn, 1) := by decide +kernel
theorem dX9_become_25 : decode cX9_become 25 = .ok (.aload_n 0, 1) := by decide +kernel
theorem dX9_become_26 : decode cX9_become 26 = .ok (.getfield 12, 3) := by decide +kernel
theorem dX9_become_29 : decode cX9_become 29 = .ok (.getfield 74, 3) := by decide +kernel
theorem dX9_become_32 : decode cX9_become 32 = .ok (.iload_n 1, 1) := by decide +kernel
theorem dX9_become_33 : decode cX9_become 33 = .ok (.aaload, 1) := by decide +kernel
theorem dX9_become_34 : decode cX9_become 34 = .ok (.astore_n 3, 1) := by decide +kernel
theorem dX9_become_35 : decode cX9_become 35 = .ok (.aload_n 3, 1) := by decide +kernel
theorem dX9_become_36 : decode cX9_become 36 = .ok (.getfield 97, 3) := by decide +kernel
theorem dX9_become_39 : decode cX9_become 39 = .ok (.istore 4, 2) := by decide +kernel
theorem dX9_become_41 : decode cX9_become 41 = .ok (.aload_n 3, 1) := by decide +kernel
theorem dX9_become_42 : decode cX9_become 42 = .ok (.iload_n 2, 1) := by decide +kernel
theorem dX9_become_43 : decode cX9_become 43 = .ok (.invokevirtual 78, 3) := by decide +kernel
theorem dX9_become_46 : decode cX9_become 46 = .ok (.iload 4, 2) := by decide +kernel
theorem dX9_become_48 : decode cX9_become 48 = .ok (.ireturn, 1) := by decide +kernel
theorem dX9_as_0 : decode cX9_as 0 = .ok (.aload_n 0, 1) := by decide +kernel
theorem dX9_as_1 : decode cX9_as 1 = .ok (.getfield 12, 3) := by decide +kernel
theorem dX9_as_4 : decode cX9_as 4 = .ok (.iload_n 1, 1) := by decide +kernel
theorem dX9_as_5 : decode cX9_as 5 = .ok (.invokevirtual 90, 3) := by decide +kernel
theorem dX9_as_8 : decode cX9_as 8 = .ok (.ifCond .eq 13, 3) := by decide +kernel
theorem dX9_as_11 : decode cX9_as 11 = .ok (.iload_n 2, 1) := by decide +kernel
theorem dX9_as_12 : decode cX9_as 12 = .ok (.iconst 0, 1) := by decide +kernel
theorem dX9_as_13 : decode cX9_as 13 = .ok (.bipush 6, 2) := by decide +kernel
theorem dX9_as_15 : decode cX9_as 15 = .ok (.invokestatic 93, 3) := by decide +kernel
theorem dX9_as_18 : decode cX9_as 18 = .ok (.ifCond .ne 10, 3) := by decide +kernel
theorem dX9_as_21 : decode cX9_as 21 = .ok (.aload_n 0, 1) := by decide +kernel
theorem dX9_as_22 : decode cX9_as 22 = .ok (.ldc 64, 2) := by decide +kernel
theorem dX9_as_24 : decode cX9_as 24 = .ok (.invokevirtual 65, 3) := by decide +kernel
theorem dX9_as_27 : decode cX9_as 27 = .ok (.ireturn, 1) := by decide +kernel
theorem dX9_as_28 : decode cX9_as 28 = .ok (.aload_n 0, 1) := by decide +kernel
theorem dX9_as_29 : decode cX9_as 29 = .ok (.getfield 12, 3) := by decide +kernel
theorem dX9_as_32 : decode cX9_as 32 = .ok (.getfield 74, 3) := by decide +kernel
theorem dX9_as_35 : decode cX9_as 35 = .ok (.iload_n 1, 1) := by decide +kernel
theorem dX9_as_36 : decode cX9_as 36 = .ok (.aaload, 1) := by decide +kernel
theorem dX9_as_37 : decode cX9_as 37 = .ok (.astore_n 3, 1) := by decide +kernel
theorem dX9_as_38 : decode cX9_as 38 = .ok (.aload_n 3, 1) := by decide +kernel
theorem dX9_as_39 : decode cX9_as 39 = .ok (.getfield 97, 3) := by decide +kernel
theorem dX9_as_42 : decode cX9_as 42 = .ok (.iload_n 2, 1) := by decide +kernel
theorem dX9_as_43 : decode cX9_as 43 = .ok (.invokestatic 109, 3) := by decide +kernel
theorem dX9_as_46 : decode cX9_as 46 = .ok (.ifCond .ne 10, 3) := by decide +kernel
theorem dX9_as_49 : decode cX9_as 49 = .ok (.aload_n 0, 1) := by decide +kernel
theorem dX9_as_50 : decode cX9_as 50 = .ok (.ldc 112, 2) := by decide +kernel
theorem dX9_as_52 : decode cX9_as 52 = .ok (.invokevirtual 65, 3) := by decide +kernel
theorem dX9_as_55 : decode cX9_as 55 = .ok (.ireturn, 1) := by decide +kernel
theorem dX9_as_56 : decode cX9_as 56 = .ok (.aload_n 3, 1) := by decide +kernel
theorem dX9_as_57 : decode cX9_as 57 = .ok (.getfield 100, 3) := by decide +kernel
theorem dX9_as_60 : decode cX9_as 60 = .ok (.ireturn, 1) := by decide +kernel
theorem dX9_beats_0 : decode cX9_beats 0 = .ok (.aload_n 0, 1) := by decide +kernel
theorem dX9_beats_1 : decode cX9_beats 1 = .ok (.getfield 12, 3) := by decide +kernel
theorem dX9_beats_4 : decode cX9_beats 4 = .ok (.iload_n 1, 1) := by decide +kernel
theorem dX9_beats_5 : decode cX9_beats 5 = .ok (.invokevirtual 90, 3) := by decide +kernel
theorem dX9_beats_8 : decode cX9_beats 8 = .ok (.ifCond .eq 11, 3) := by decide +kernel
theorem dX9_beats_11 : decode cX9_beats 11 = .ok (.iload_n 2, 1) := by decide +kernel
theorem dX9_beats_12 : decode cX9_beats 12 = .ok (.iload_n 3, 1) := by decide +kernel
theorem dX9_beats_13 : decode cX9_beats 13 = .ok (.invokestatic 60, 3) := by decide +kernel
theorem dX9_beats_16 : decode cX9_beats 16 = .ok (.ifCond .ne 10, 3) := by decide +kernel
theorem dX9_beats_19 : decode cX9_beats 19 = .ok (.aload_n 0, 1) := by decide +kernel
theorem dX9_beats_20 : decode cX9_beats 20 = .ok (.ldc 64, 2) := by decide +kernel
theorem dX9_beats_22 : decode cX9_beats 22 = .ok (.invokevirtual 65, 3) := by decide +kernel
theorem dX9_beats_25 : decode cX9_beats 25 = .ok (.ireturn, 1) := by decide +kernel
theorem dX9_beats_26 : decode cX9_beats 26 = .ok (.aload_n 0, 1) := by decide +kernel
theorem dX9_beats_27 : decode cX9_beats 27 = .ok (.getfield 12, 3) := by decide +kernel
theorem dX9_beats_30 : decode cX9_beats 30 = .ok (.getfield 74, 3) := by decide +kernel
theorem dX9_beats_33 : decode cX9_beats 33 = .ok (.iload_n 1, 1) := by decide +kernel
theorem dX9_beats_34 : decode cX9_beats 34 = .ok (.aaload, 1) := by decide +kernel
theorem dX9_beats_35 : decode cX9_beats 35 = .ok (.astore 4, 2) := by decide +kernel
theorem dX9_beats_37 : decode cX9_beats 37 = .ok (.aload 4, 2) := by decide +kernel
theorem dX9_beats_39 : decode cX9_beats 39 = .ok (.getfield 84, 3) := by decide +kernel
theorem dX9_beats_42 : decode cX9_beats 42 = .ok (.istore 5, 2) := by decide +kernel
theorem dX9_beats_44 : decode cX9_beats 44 = .ok (.aload 4, 2) := by decide +kernel
theorem dX9_beats_46 : decode cX9_beats 46 = .ok (.iload_n 2, 1) := by decide +kernel
theorem dX9_beats_47 : decode cX9_beats 47 = .ok (.putfield 84, 3) := by decide +kernel
theorem dX9_beats_50 : decode cX9_beats 50 = .ok (.aload 4, 2) := by decide +kernel
theorem dX9_beats_52 : decode cX9_beats 52 = .ok (.iload_n 3, 1) := by decide +kernel
theorem dX9_beats_53 : decode cX9_beats 53 = .ok (.putfield 87, 3) := by decide +kernel
theorem dX9_beats_56 : decode cX9_beats 56 = .ok (.iload 5, 2) := by decide +kernel
theorem dX9_beats_58 : decode cX9_beats 58 = .ok (.ireturn, 1) := by decide +kernel
theorem dX9_doing_0 : decode cX9_doing 0 = .ok (.aload_n 0, 1) := by decide +kernel
theorem dX9_doing_1 : decode cX9_doing 1 = .ok (.getfield 12, 3) := by decide +kernel
theorem dX9_doing_4 : decode cX9_doing 4 = .ok (.iload_n 1, 1) := by decide +kernel
theorem dX9_doing_5 : decode cX9_doing 5 = .ok (.invokevirtual 90, 3) := by decide +kernel
theorem dX9_doing_8 : decode cX9_doing 8 = .ok (.ifCond .eq 29, 3) := by decide +kernel
theorem dX9_doing_11 : decode cX9_doing 11 = .ok (.iload_n 2, 1) := by decide +kernel
theorem dX9_doing_12 : decode cX9_doing 12 = .ok (.invokestatic 113, 3) := by decide +kernel
theorem dX9_doing_15 : decode cX9_doing 15 = .ok (.ifCond .eq 22, 3) := by decide +kernel
theorem dX9_doing_18 : decode cX9_doing 18 = .ok (.aload_n 0, 1) := by decide +kernel
theorem dX9_doing_19 : decode cX9_doing 19 = .ok (.getfield 12, 3) := by decide +kernel
theorem dX9_doing_22 : decode cX9_doing 22 = .ok (.iload_n 3, 1) := by decide +kernel
theorem dX9_doing_23 : decode cX9_doing 23 = .ok (.invokevirtual 116, 3) := by decide +kernel
theorem dX9_doing_26 : decode cX9_doing 26 = .ok (.ifCond .eq 11, 3) := by decide +kernel
theorem dX9_doing_29 : decode cX9_doing 29 = .ok (.iload_n 3, 1) := by decide +kernel
theorem dX9_doing_30 : decode cX9_doing 30 = .ok (.iload_n 1, 1) := by decide +kernel
theorem dX9_doing_31 : decode cX9_doing 31 = .ok (.invokestatic 119, 3) := by decide +kernel
theorem dX9_doing_34 : decode cX9_doing 34 = .ok (.ifCond .eq 10, 3) := by decide +kernel
theorem dX9_doing_37 : decode cX9_doing 37 = .ok (.aload_n 0, 1) := by decide +kernel
theorem dX9_doing_38 : decode cX9_doing 38 = .ok (.ldc 64, 2) := by decide +kernel
theorem dX9_doing_40 : decode cX9_doing 40 = .ok (.invokevirtual 65, 3) := by decide +kernel
theorem dX9_doing_43 : decode cX9_doing 43 = .ok (.ireturn, 1) := by decide +kernel
theorem dX9_doing_44 : decode cX9_doing 44 = .ok (.aload_n 0, 1) := by decide +kernel
theorem dX9_doing_45 : decode cX9_doing 45 = .ok (.getfield 12, 3) := by decide +kernel
theorem dX9_doing_48 : decode cX9_doing 48 = .ok (.getfield 122, 3) := by decide +kernel
theorem dX9_doing_51 : decode cX9_doing 51 = .ok (.bipush 6, 2) := by decide +kernel
theorem dX9_doing_53 : decode cX9_doing 53 = .ok (.if_icmp .lt 10, 3) := by decide +kernel
theorem dX9_doing_56 : decode cX9_doing 56 = .ok (.aload_n 0, 1) := by decide +kernel
theorem dX9_doing_57 : decode cX9_doing 57 = .ok (.ldc 73, 2) := by decide +kernel
theorem dX9_doing_59 : decode cX9_doing 59 = .ok (.invokevirtual 65, 3) := by decide +kernel
theorem dX9_doing_62 : decode cX9_doing 62 = .ok (.ireturn, 1) := by decide +kernel
theorem dX9_doing_63 : decode cX9_doing 63 = .ok (.aload_n 0, 1) := by decide +kernel
theorem dX9_doing_64 : decode cX9_doing 64 = .ok (.getfield 12, 3) := by decide +kernel
theorem dX9_doing_67 : decode cX9_doing 67 = .ok (.getfield 122, 3) := by decide +kernel
theorem dX9_doing_70 : decode cX9_doing 70 = .ok (.istore 4, 2) := by decide +kernel
theorem dX9_doing_72 : decode cX9_doing 72 = .ok (.aload_n 0, 1) := by decide +kernel
theorem dX9_doing_73 : decode cX9_doing 73 = .ok (.getfield 12, 3) := by decide +kernel
theorem dX9_doing_76 : decode cX9_doing 76 = .ok (.getfield 125, 3) := by decide +kernel
theorem dX9_doing_79 : decode cX9_doing 79 = .ok (.iload 4, 2) := by decide +kernel
theorem dX9_doing_81 : decode cX9_doing 81 = .ok (.aaload, 1) := by decide +kernel
theorem dX9_doing_82 : decode cX9_doing 82 = .ok (.astore 5, 2) := by decide +kernel
theorem dX9_doing_84 : decode cX9_doing 84 = .ok (.aload 5, 2) := by decide +kernel
theorem dX9_doing_86 : decode cX9_doing 86 = .ok (.iload_n 1, 1) := by decide +kernel
theorem dX9_doing_87 : decode cX9_doing 87 = .ok (.putfield 129, 3) := by decide +kernel
theorem dX9_doing_90 : decode cX9_doing 90 = .ok (.aload 5, 2) := by decide +kernel
theorem dX9_doing_92 : decode cX9_doing 92 = .ok (.iload_n 2, 1) := by decide +kernel
theorem dX9_doing_93 : decode cX9_doing 93 = .ok (.putfield 134, 3) := by decide +kernel
theorem dX9_doing_96 : decode cX9_doing 96 = .ok (.aload 5, 2) := by decide +kernel
theorem dX9_doing_98 : decode cX9_doing 98 = .ok (.iload_n 3, 1) := by decide +kernel
theorem dX9_doing_99 : decode cX9_doing 99 = .ok (.putfield 137, 3) := by decide +kernel
theorem dX9_doing_102 : decode cX9_doing 102 = .ok (.aload_n 0, 1) := by decide +kernel
theorem dX9_doing_103 : decode cX9_doing 103 = .ok (.getfield 12, 3) := by decide +kernel
theorem dX9_doing_106 : decode cX9_doing 106 = .ok (.dup, 1) := by decide +kernel
theorem dX9_doing_107 : decode cX9_doing 107 = .ok (.getfield 122, 3) := by decide +kernel
theorem dX9_doing_110 : decode cX9_doing 110 = .ok (.iconst 1, 1) := by decide +kernel
theorem dX9_doing_111 : decode cX9_doing 111 = .ok (.iadd, 1) := by decide +kernel
theorem dX9_doing_112 : decode cX9_doing 112 = .ok (.putfield 122, 3) := by decide +kernel
theorem dX9_doing_115 : decode cX9_doing 115 = .ok (.iload 4, 2) := by decide +kernel
theorem dX9_doing_117 : decode cX9_doing 117 = .ok (.ireturn, 1) := by decide +kernel
theorem dX9_doingIs_0 : decode cX9_doingIs 0 = .ok (.aload_n 0, 1) := by decide +kernel
theorem dX9_doingIs_1 : decode cX9_doingIs 1 = .ok (.getfield 12, 3) := by decide +kernel
theorem dX9_doingIs_4 : decode cX9_doingIs 4 = .ok (.iload_n 1, 1) := by decide +kernel
theorem dX9_doingIs_5 : decode cX9_doingIs 5 = .ok (.invokevirtual 140, 3) := by decide +kernel
theorem dX9_doingIs_8 : decode cX9_doingIs 8 = .ok (.ifCond .eq 12, 3) := by decide +kernel
theorem dX9_doingIs_11 : decode cX9_doingIs 11 = .ok (.iload_n 2, 1) := by decide +kernel
theorem dX9_doingIs_12 : decode cX9_doingIs 12 = .ok (.iconst 0, 1) := by decide +kernel
theorem dX9_doingIs_13 : decode cX9_doingIs 13 = .ok (.iconst 3, 1) := by decide +kernel
theorem dX9_doingIs_14 : decode cX9_doingIs 14 = .ok (.invokestatic 93, 3) := by decide +kernel
theorem dX9_doingIs_17 : decode cX9_doingIs 17 = .ok (.ifCond .ne 10, 3) := by decide +kernel
theorem dX9_doingIs_20 : decode cX9_doingIs 20 = .ok (.aload_n 0, 1) := by decide +kernel
theorem dX9_doingIs_21 : decode cX9_doingIs 21 = .ok (.ldc 64, 2) := by decide +kernel
theorem dX9_doingIs_23 : decode cX9_doingIs 23 = .ok (.invokevirtual 65, 3) := by decide +kernel
theorem dX9_doingIs_26 : decode cX9_doingIs 26 = .ok (.ireturn, 1) := by decide +kernel
theorem dX9_doingIs_27 : decode cX9_doingIs 27 = .ok (.aload_n 0, 1) := by decide +kernel
theorem dX9_doingIs_28 : decode cX9_doingIs 28 = .ok (.getfield 12, 3) := by decide +kernel
theorem dX9_doingIs_31 : decode cX9_doingIs 31 = .ok (.getfield 125, 3) := by decide +kernel
theorem dX9_doingIs_34 : decode cX9_doingIs 34 = .ok (.iload_n 1, 1) := by decide +kernel
theorem dX9_doingIs_35 : decode cX9_doingIs 35 = .ok (.aaload, 1) := by decide +kernel
theorem dX9_doingIs_36 : decode cX9_doingIs 36 = .ok (.astore_n 3, 1) := by decide +kernel
theorem dX9_doingIs_37 : decode cX9_doingIs 37 = .ok (.iload_n 2, 1) := by decide +kernel
theorem dX9_doingIs_38 : decode cX9_doingIs 38 = .ok (.tableswitch 41 0 2 #[26, 31, 36], 26) := by decide +kernel
theorem dX9_doingIs_64 : decode cX9_doingIs 64 = .ok (.aload_n 3, 1) := by decide +kernel
theorem dX9_doingIs_65 : decode cX9_doingIs 65 = .ok (.getfield 129, 3) := by decide +kernel
theorem dX9_doingIs_68 : decode cX9_doingIs 68 = .ok (.ireturn, 1) := by decide +kernel
theorem dX9_doingIs_69 : decode cX9_doingIs 69 = .ok (.aload_n 3, 1) := by decide +kernel
theorem dX9_doingIs_70 : decode cX9_doingIs 70 = .ok (.getfield 134, 3) := by decide +kernel
theorem dX9_doingIs_73 : decode cX9_doingIs 73 = .ok (.ireturn, 1) := by decide +kernel
theorem dX9_doingIs_74 : decode cX9_doingIs 74 = .ok (.aload_n 3, 1) := by decide +kernel
theorem dX9_doingIs_75 : decode cX9_doingIs 75 = .ok (.getfield 137, 3) := by decide +kernel
theorem dX9_doingIs_78 : decode cX9_doingIs 78 = .ok (.ireturn, 1) := by decide +kernel
theorem dX9_doingIs_79 : decode cX9_doingIs 79 = .ok (.aload_n 0, 1) := by decide +kernel
theorem dX9_doingIs_80 : decode cX9_doingIs 80 = .ok (.getfield 12, 3) := by decide +kernel
theorem dX9_doingIs_83 : decode cX9_doingIs 83 = .ok (.aload_n 3, 1) := by decide +kernel
theorem dX9_doingIs_84 : decode cX9_doingIs 84 = .ok (.aload_n 3, 1) := by decide +kernel
theorem dX9_doingIs_85 : decode cX9_doingIs 85 = .ok (.getfield 134, 3) := by decide +kernel
theorem dX9_doingIs_88 : decode cX9_doingIs 88 = .ok (.aload_n 0, 1) := by decide +kernel
theorem dX9_doingIs_89 : decode cX9_doingIs 89 = .ok (.getfield 12, 3) := by decide +kernel
theorem dX9_doingIs_92 : decode cX9_doingIs 92 = .ok (.aload_n 0, 1) := by decide +kernel
theorem dX9_doingIs_93 : decode cX9_doingIs 93 = .ok (.getfield 12, 3) := by decide +kernel
theorem dX9_doingIs_96 : decode cX9_doingIs 96 = .ok (.getfield 103, 3) := by decide +kernel
theorem dX9_doingIs_99 : decode cX9_doingIs 99 = .ok (.invokevirtual 143, 3) := by decide +kernel
theorem dX9_doingIs_102 : decode cX9_doingIs 102 = .ok (.invokevirtual 146, 3) := by decide +kernel
theorem dX9_doingIs_105 : decode cX9_doingIs 105 = .ok (.ireturn, 1) := by decide +kernel
theorem dX9_sets_0 : decode cX9_sets 0 = .ok (.aload_n 0, 1) := by decide +kernel
theorem dX9_sets_1 : decode cX9_sets 1 = .ok (.getfield 12, 3) := by decide +kernel
theorem dX9_sets_4 : decode cX9_sets 4 = .ok (.iload_n 1, 1) := by decide +kernel
theorem dX9_sets_5 : decode cX9_sets 5 = .ok (.invokevirtual 140, 3) := by decide +kernel
theorem dX9_sets_8 : decode cX9_sets 8 = .ok (.ifCond .eq 10, 3) := by decide +kernel
theorem dX9_sets_11 : decode cX9_sets 11 = .ok (.iload_n 2, 1) := by decide +kernel
theorem dX9_sets_12 : decode cX9_sets 12 = .ok (.invokestatic 113, 3) := by decide +kernel
theorem dX9_sets_15 : decode cX9_sets 15 = .ok (.ifCond .ne 10, 3) := by decide +kernel
theorem dX9_sets_18 : decode cX9_sets 18 = .ok (.aload_n 0, 1) := by decide +kernel
theorem dX9_sets_19 : decode cX9_sets 19 = .ok (.ldc 64, 2) := by decide +kernel
theorem dX9_sets_21 : decode cX9_sets 21 = .ok (.invokevirtual 65, 3) := by decide +kernel
theorem dX9_sets_24 : decode cX9_sets 24 = .ok (.ireturn, 1) := by decide +kernel
theorem dX9_sets_25 : decode cX9_sets 25 = .ok (.aload_n 0, 1) := by decide +kernel
theorem dX9_sets_26 : decode cX9_sets 26 = .ok (.getfield 12, 3) := by decide +kernel
theorem dX9_sets_29 : decode cX9_sets 29 = .ok (.getfield 125, 3) := by decide +kernel
theorem dX9_sets_32 : decode cX9_sets 32 = .ok (.iload_n 1, 1) := by decide +kernel
theorem dX9_sets_33 : decode cX9_sets 33 = .ok (.aaload, 1) := by decide +kernel
theorem dX9_sets_34 : decode cX9_sets 34 = .ok (.astore_n 3, 1) := by decide +kernel
theorem dX9_sets_35 : decode cX9_sets 35 = .ok (.aload_n 3, 1) := by decide +kernel
theorem dX9_sets_36 : decode cX9_sets 36 = .ok (.getfield 134, 3) := by decide +kernel
theorem dX9_sets_39 : decode cX9_sets 39 = .ok (.istore 4, 2) := by decide +kernel
theorem dX9_sets_41 : decode cX9_sets 41 = .ok (.aload_n 3, 1) := by decide +kernel
theorem dX9_sets_42 : decode cX9_sets 42 = .ok (.iload_n 2, 1) := by decide +kernel
theorem dX9_sets_43 : decode cX9_sets 43 = .ok (.putfield 134, 3) := by decide +kernel
theorem dX9_sets_46 : decode cX9_sets 46 = .ok (.iload 4, 2) := by decide +kernel
theorem dX9_sets_48 : decode cX9_sets 48 = .ok (.ireturn, 1) := by decide +kernel
theorem dX9_shut_0 : decode cX9_shut 0 = .ok (.aload_n 0, 1) := by decide +kernel
theorem dX9_shut_1 : decode cX9_shut 1 = .ok (.getfield 12, 3) := by decide +kernel
theorem dX9_shut_4 : decode cX9_shut 4 = .ok (.aload_n 0, 1) := by decide +kernel
theorem dX9_shut_5 : decode cX9_shut 5 = .ok (.getfield 12, 3) := by decide +kernel
theorem dX9_shut_8 : decode cX9_shut 8 = .ok (.getfield 103, 3) := by decide +kernel
theorem dX9_shut_11 : decode cX9_shut 11 = .ok (.invokevirtual 143, 3) := by decide +kernel
theorem dX9_shut_14 : decode cX9_shut 14 = .ok (.ireturn, 1) := by decide +kernel
theorem dX9_feed_0 : decode cX9_feed 0 = .ok (.iload_n 3, 1) := by decide +kernel
theorem dX9_feed_1 : decode cX9_feed 1 = .ok (.iconst 1, 1) := by decide +kernel
theorem dX9_feed_2 : decode cX9_feed 2 = .ok (.bipush 8, 2) := by decide +kernel
theorem dX9_feed_4 : decode cX9_feed 4 = .ok (.invokestatic 93, 3) := by decide +kernel
theorem dX9_feed_7 : decode cX9_feed 7 = .ok (.ifCond .ne 10, 3) := by decide +kernel
theorem dX9_feed_10 : decode cX9_feed 10 = .ok (.aload_n 0, 1) := by decide +kernel
theorem dX9_feed_11 : decode cX9_feed 11 = .ok (.ldc 64, 2) := by decide +kernel
theorem dX9_feed_13 : decode cX9_feed 13 = .ok (.invokevirtual 65, 3) := by decide +kernel
theorem dX9_feed_16 : decode cX9_feed 16 = .ok (.ireturn, 1) := by decide +kernel
theorem dX9_feed_17 : decode cX9_feed 17 = .ok (.aload_n 0, 1) := by decide +kernel
theorem dX9_feed_18 : decode cX9_feed 18 = .ok (.getfield 12, 3) := by decide +kernel
theorem dX9_feed_21 : decode cX9_feed 21 = .ok (.getfield 18, 3) := by decide +kernel
theorem dX9_feed_24 : decode cX9_feed 24 = .ok (.invokevirtual 150, 3) := by decide +kernel
theorem dX9_feed_27 : decode cX9_feed 27 = .ok (.iload_n 3, 1) := by decide +kernel
theorem dX9_feed_28 : decode cX9_feed 28 = .ok (.iadd, 1) := by decide +kernel
theorem dX9_feed_29 : decode cX9_feed 29 = .ok (.bipush 60, 2) := by decide +kernel
theorem dX9_feed_31 : decode cX9_feed 31 = .ok (.if_icmp .le 10, 3) := by decide +kernel
theorem dX9_feed_34 : decode cX9_feed 34 = .ok (.aload_n 0, 1) := by decide +kernel
theorem dX9_feed_35 : decode cX9_feed 35 = .ok (.ldc 73, 2) := by decide +kernel
theorem dX9_feed_37 : decode cX9_feed 37 = .ok (.invokevirtual 65, 3) := by decide +kernel
theorem dX9_feed_40 : decode cX9_feed 40 = .ok (.ireturn, 1) := by decide +kernel
theorem dX9_feed_41 : decode cX9_feed 41 = .ok (.iconst 0, 1) := by decide +kernel
theorem dX9_feed_42 : decode cX9_feed 42 = .ok (.istore 4, 2) := by decide +kernel
theorem dX9_feed_44 : decode cX9_feed 44 = .ok (.iload 4, 2) := by decide +kernel
theorem dX9_feed_46 : decode cX9_feed 46 = .ok (.iload_n 3, 1) := by decide +kernel
theorem dX9_feed_47 : decode cX9_feed 47 = .ok (.if_icmp .ge 32, 3) := by decide +kernel
theorem dX9_feed_50 : decode cX9_feed 50 = .ok (.aload_n 0, 1) := by decide +kernel
theorem dX9_feed_51 : decode cX9_feed 51 = .ok (.getfield 12, 3) := by decide +kernel
theorem dX9_feed_54 : decode cX9_feed 54 = .ok (.getfield 18, 3) := by decide +kernel
theorem dX9_feed_57 : decode cX9_feed 57 = .ok (.lload_n 1, 1) := by decide +kernel
theorem dX9_feed_58 : decode cX9_feed 58 = .ok (.bipush 8, 2) := by decide +kernel
theorem dX9_feed_60 : decode cX9_feed 60 = .ok (.iload 4, 2) := by decide +kernel
theorem dX9_feed_62 : decode cX9_feed 62 = .ok (.imul, 1) := by decide +kernel
theorem dX9_feed_63 : decode cX9_feed 63 = .ok (.lushr, 1) := by decide +kernel
theorem dX9_feed_64 : decode cX9_feed 64 = .ok (.ldc2_w 156, 3) := by decide +kernel
theorem dX9_feed_67 : decode cX9_feed 67 = .ok (.land, 1) := by decide +kernel
theorem dX9_feed_68 : decode cX9_feed 68 = .ok (.l2i, 1) := by decide +kernel
theorem dX9_feed_69 : decode cX9_feed 69 = .ok (.invokevirtual 158, 3) := by decide +kernel
theorem dX9_feed_72 : decode cX9_feed 72 = .ok (.pop, 1) := by decide +kernel
theorem dX9_feed_73 : decode cX9_feed 73 = .ok (.iinc 4 1, 3) := by decide +kernel
theorem dX9_feed_76 : decode cX9_feed 76 = .ok (.goto (-32), 3) := by decide +kernel
theorem dX9_feed_79 : decode cX9_feed 79 = .ok (.aload_n 0, 1) := by decide +kernel
theorem dX9_feed_80 : decode cX9_feed 80 = .ok (.getfield 12, 3) := by decide +kernel
theorem dX9_feed_83 : decode cX9_feed 83 = .ok (.getfield 18, 3) := by decide +kernel
theorem dX9_feed_86 : decode cX9_feed 86 = .ok (.invokevirtual 150, 3) := by decide +kernel
theorem dX9_feed_89 : decode cX9_feed 89 = .ok (.ireturn, 1) := by decide +kernel
theorem dX9_text_0 : decode cX9_text 0 = .ok (.iload_n 1, 1) := by decide +kernel
theorem dX9_text_1 : decode cX9_text 1 = .ok (.invokestatic 161, 3) := by decide +kernel
theorem dX9_text_4 : decode cX9_text 4 = .ok (.ifCond .ne 10, 3) := by decide +kernel
theorem dX9_text_7 : decode cX9_text 7 = .ok (.aload_n 0, 1) := by decide +kernel
theorem dX9_text_8 : decode cX9_text 8 = .ok (.ldc 64, 2) := by decide +kernel
theorem dX9_text_10 : decode cX9_text 10 = .ok (.invokevirtual 65, 3) := by decide +kernel
theorem dX9_text_13 : decode cX9_text 13 = .ok (.ireturn, 1) := by decide +kernel
theorem dX9_text_14 : decode cX9_text 14 = .ok (.aload_n 0, 1) := by decide +kernel
theorem dX9_text_15 : decode cX9_text 15 = .ok (.getfield 25, 3) := by decide +kernel
theorem dX9_text_18 : decode cX9_text 18 = .ok (.iload_n 1, 1) := by decide +kernel
theorem dX9_text_19 : decode cX9_text 19 = .ok (.invokevirtual 164, 3) := by decide +kernel
theorem dX9_text_22 : decode cX9_text 22 = .ok (.istore_n 2, 1) := by decide +kernel
theorem dX9_text_23 : decode cX9_text 23 = .ok (.aload_n 0, 1) := by decide +kernel
theorem dX9_text_24 : decode cX9_text 24 = .ok (.getfield 12, 3) := by decide +kernel
theorem dX9_text_27 : decode cX9_text 27 = .ok (.getfield 18, 3) := by decide +kernel
theorem dX9_text_30 : decode cX9_text 30 = .ok (.invokevirtual 167, 3) := by decide +kernel
theorem dX9_text_33 : decode cX9_text 33 = .ok (.iload_n 2, 1) := by decide +kernel
theorem dX9_text_34 : decode cX9_text 34 = .ok (.ifCond .ne 14, 3) := by decide +kernel
theorem dX9_text_37 : decode cX9_text 37 = .ok (.bipush (-10), 2) := by decide +kernel
theorem dX9_text_39 : decode cX9_text 39 = .ok (.aload_n 0, 1) := by decide +kernel
theorem dX9_text_40 : decode cX9_text 40 = .ok (.getfield 25, 3) := by decide +kernel
theorem dX9_text_43 : decode cX9_text 43 = .ok (.invokevirtual 170, 3) := by decide +kernel
theorem dX9_text_46 : decode cX9_text 46 = .ok (.isub, 1) := by decide +kernel
theorem dX9_text_47 : decode cX9_text 47 = .ok (.ireturn, 1) := by decide +kernel
theorem dX9_text_48 : decode cX9_text 48 = .ok (.aload_n 0, 1) := by decide +kernel
theorem dX9_text_49 : decode cX9_text 49 = .ok (.getfield 12, 3) := by decide +kernel
theorem dX9_text_52 : decode cX9_text 52 = .ok (.iload_n 1, 1) := by decide +kernel
theorem dX9_text_53 : decode cX9_text 53 = .ok (.invokevirtual 173, 3) := by decide +kernel
theorem dX9_text_56 : decode cX9_text 56 = .ok (.aload_n 0, 1) := by decide +kernel
theorem dX9_text_57 : decode cX9_text 57 = .ok (.getfield 25, 3) := by decide +kernel
theorem dX9_text_60 : decode cX9_text 60 = .ok (.getfield 177, 3) := by decide +kernel
theorem dX9_text_63 : decode cX9_text 63 = .ok (.invokevirtual 180, 3) := by decide +kernel
theorem dX9_text_66 : decode cX9_text 66 = .ok (.iconst 1, 1) := by decide +kernel
theorem dX9_text_67 : decode cX9_text 67 = .ok (.ireturn, 1) := by decide +kernel
theorem dX9_untell_0 : decode cX9_untell 0 = .ok (.iload_n 1, 1) := by decide +kernel
theorem dX9_untell_1 : decode cX9_untell 1 = .ok (.invokestatic 161, 3) := by decide +kernel
theorem dX9_untell_4 : decode cX9_untell 4 = .ok (.ifCond .ne 10, 3) := by decide +kernel
theorem dX9_untell_7 : decode cX9_untell 7 = .ok (.aload_n 0, 1) := by decide +kernel
theorem dX9_untell_8 : decode cX9_untell 8 = .ok (.ldc 64, 2) := by decide +kernel
theorem dX9_untell_10 : decode cX9_untell 10 = .ok (.invokevirtual 65, 3) := by decide +kernel
theorem dX9_untell_13 : decode cX9_untell 13 = .ok (.ireturn, 1) := by decide +kernel
theorem dX9_untell_14 : decode cX9_untell 14 = .ok (.aload_n 0, 1) := by decide +kernel
theorem dX9_untell_15 : decode cX9_untell 15 = .ok (.getfield 12, 3) := by decide +kernel
theorem dX9_untell_18 : decode cX9_untell 18 = .ok (.iload_n 1, 1) := by decide +kernel
theorem dX9_untell_19 : decode cX9_untell 19 = .ok (.invokevirtual 173, 3) := by decide +kernel
theorem dX9_untell_22 : decode cX9_untell 22 = .ok (.astore_n 2, 1) := by decide +kernel
theorem dX9_untell_23 : decode cX9_untell 23 = .ok (.aload_n 2, 1) := by decide +kernel
theorem dX9_untell_24 : decode cX9_untell 24 = .ok (.getfield 185, 3) := by decide +kernel
theorem dX9_untell_27 : decode cX9_untell 27 = .ok (.ifCond .eq 7, 3) := by decide +kernel
theorem dX9_untell_30 : decode cX9_untell 30 = .ok (.iconst 1, 1) := by decide +kernel
theorem dX9_untell_31 : decode cX9_untell 31 = .ok (.goto 4, 3) := by decide +kernel
theorem dX9_untell_34 : decode cX9_untell 34 = .ok (.iconst 0, 1) := by decide +kernel
theorem dX9_untell_35 : decode cX9_untell 35 = .ok (.istore_n 3, 1) := by decide +kernel
theorem dX9_untell_36 : decode cX9_untell 36 = .ok (.aload_n 2, 1) := by decide +kernel
theorem dX9_untell_37 : decode cX9_untell 37 = .ok (.iconst 0, 1) := by decide +kernel
theorem dX9_untell_38 : decode cX9_untell 38 = .ok (.putfield 185, 3) := by decide +kernel
theorem dX9_untell_41 : decode cX9_untell 41 = .ok (.iload_n 3, 1) := by decide +kernel
theorem dX9_untell_42 : decode cX9_untell 42 = .ok (.ireturn, 1) := by decide +kernel
theorem dX9_law_0 : decode cX9_law 0 = .ok (.iload_n 1, 1) := by decide +kernel
theorem dX9_law_1 : decode cX9_law 1 = .ok (.invokestatic 161, 3) := by decide +kernel
theorem dX9_law_4 : decode cX9_law 4 = .ok (.ifCond .ne 10, 3) := by decide +kernel
theorem dX9_law_7 : decode cX9_law 7 = .ok (.aload_n 0, 1) := by decide +kernel
theorem dX9_law_8 : decode cX9_law 8 = .ok (.ldc 64, 2) := by decide +kernel
theorem dX9_law_10 : decode cX9_law 10 = .ok (.invokevirtual 65, 3) := by decide +kernel
theorem dX9_law_13 : decode cX9_law 13 = .ok (.ireturn, 1) := by decide +kernel
theorem dX9_law_14 : decode cX9_law 14 = .ok (.aload_n 0, 1) := by decide +kernel
theorem dX9_law_15 : decode cX9_law 15 = .ok (.getfield 12, 3) := by decide +kernel
theorem dX9_law_18 : decode cX9_law 18 = .ok (.iload_n 1, 1) := by decide +kernel
theorem dX9_law_19 : decode cX9_law 19 = .ok (.invokevirtual 173, 3) := by decide +kernel
theorem dX9_law_22 : decode cX9_law 22 = .ok (.iload_n 2, 1) := by decide +kernel
theorem dX9_law_23 : decode cX9_law 23 = .ok (.iload_n 3, 1) := by decide +kernel
theorem dX9_law_24 : decode cX9_law 24 = .ok (.iload 4, 2) := by decide +kernel
theorem dX9_law_26 : decode cX9_law 26 = .ok (.invokevirtual 189, 3) := by decide +kernel
theorem dX9_law_29 : decode cX9_law 29 = .ok (.ireturn, 1) := by decide +kernel
theorem dX9_ticks_0 : decode cX9_ticks 0 = .ok (.iload_n 1, 1) := by decide +kernel
theorem dX9_ticks_1 : decode cX9_ticks 1 = .ok (.iconst 1, 1) := by decide +kernel
theorem dX9_ticks_2 : decode cX9_ticks 2 = .ok (.sipush 200, 3) := by decide +kernel
theorem dX9_ticks_5 : decode cX9_ticks 5 = .ok (.invokestatic 93, 3) := by decide +kernel
theorem dX9_ticks_8 : decode cX9_ticks 8 = .ok (.ifCond .ne 10, 3) := by decide +kernel
theorem dX9_ticks_11 : decode cX9_ticks 11 = .ok (.aload_n 0, 1) := by decide +kernel
theorem dX9_ticks_12 : decode cX9_ticks 12 = .ok (.ldc 64, 2) := by decide +kernel
theorem dX9_ticks_14 : decode cX9_ticks 14 = .ok (.invokevirtual 65, 3) := by decide +kernel
theorem dX9_ticks_17 : decode cX9_ticks 17 = .ok (.ireturn, 1) := by decide +kernel
theorem dX9_ticks_18 : decode cX9_ticks 18 = .ok (.aload_n 0, 1) := by decide +kernel
theorem dX9_ticks_19 : decode cX9_ticks 19 = .ok (.getfield 12, 3) := by decide +kernel
theorem dX9_ticks_22 : decode cX9_ticks 22 = .ok (.getfield 103, 3) := by decide +kernel
theorem dX9_ticks_25 : decode cX9_ticks 25 = .ok (.iload_n 1, 1) := by decide +kernel
theorem dX9_ticks_26 : decode cX9_ticks 26 = .ok (.iadd, 1) := by decide +kernel
theorem dX9_ticks_27 : decode cX9_ticks 27 = .ok (.ldc 193, 2) := by decide +kernel
theorem dX9_ticks_29 : decode cX9_ticks 29 = .ok (.if_icmp .le 10, 3) := by decide +kernel
theorem dX9_ticks_32 : decode cX9_ticks 32 = .ok (.aload_n 0, 1) := by decide +kernel
theorem dX9_ticks_33 : decode cX9_ticks 33 = .ok (.ldc 194, 2) := by decide +kernel
theorem dX9_ticks_35 : decode cX9_ticks 35 = .ok (.invokevirtual 65, 3) := by decide +kernel
theorem dX9_ticks_38 : decode cX9_ticks 38 = .ok (.ireturn, 1) := by decide +kernel
theorem dX9_ticks_39 : decode cX9_ticks 39 = .ok (.iconst 0, 1) := by decide +kernel
theorem dX9_ticks_40 : decode cX9_ticks 40 = .ok (.istore_n 2, 1) := by decide +kernel
theorem dX9_ticks_41 : decode cX9_ticks 41 = .ok (.iconst 0, 1) := by decide +kernel
theorem dX9_ticks_42 : decode cX9_ticks 42 = .ok (.istore_n 3, 1) := by decide +kernel
theorem dX9_ticks_43 : decode cX9_ticks 43 = .ok (.iload_n 3, 1) := by decide +kernel
theorem dX9_ticks_44 : decode cX9_ticks 44 = .ok (.iload_n 1, 1) := by decide +kernel
theorem dX9_ticks_45 : decode cX9_ticks 45 = .ok (.if_icmp .ge 19, 3) := by decide +kernel
theorem dX9_ticks_48 : decode cX9_ticks 48 = .ok (.iload_n 2, 1) := by decide +kernel
theorem dX9_ticks_49 : decode cX9_ticks 49 = .ok (.aload_n 0, 1) := by decide +kernel
theorem dX9_ticks_50 : decode cX9_ticks 50 = .ok (.getfield 12, 3) := by decide +kernel
theorem dX9_ticks_53 : decode cX9_ticks 53 = .ok (.invokevirtual 195, 3) := by decide +kernel
theorem dX9_ticks_56 : decode cX9_ticks 56 = .ok (.iadd, 1) := by decide +kernel
theorem dX9_ticks_57 : decode cX9_ticks 57 = .ok (.istore_n 2, 1) := by decide +kernel
theorem dX9_ticks_58 : decode cX9_ticks 58 = .ok (.iinc 3 1, 3) := by decide +kernel
theorem dX9_ticks_61 : decode cX9_ticks 61 = .ok (.goto (-18), 3) := by decide +kernel
theorem dX9_ticks_64 : decode cX9_ticks 64 = .ok (.iload_n 2, 1) := by decide +kernel
theorem dX9_ticks_65 : decode cX9_ticks 65 = .ok (.ireturn, 1) := by decide +kernel
theorem dX9_loose_0 : decode cX9_loose 0 = .ok (.iload_n 1, 1) := by decide +kernel
theorem dX9_loose_1 : decode cX9_loose 1 = .ok (.iconst 1, 1) := by decide +kernel
theorem dX9_loose_2 : decode cX9_loose 2 = .ok (.bipush 30, 2) := by decide +kernel
theorem dX9_loose_4 : decode cX9_loose 4 = .ok (.invokestatic 93, 3) := by decide +kernel
theorem dX9_loose_7 : decode cX9_loose 7 = .ok (.ifCond .ne 10, 3) := by decide +kernel
theorem dX9_loose_10 : decode cX9_loose 10 = .ok (.aload_n 0, 1) := by decide +kernel
theorem dX9_loose_11 : decode cX9_loose 11 = .ok (.ldc 64, 2) := by decide +kernel
theorem dX9_loose_13 : decode cX9_loose 13 = .ok (.invokevirtual 65, 3) := by decide +kernel
theorem dX9_loose_16 : decode cX9_loose 16 = .ok (.ireturn, 1) := by decide +kernel
theorem dX9_loose_17 : decode cX9_loose 17 = .ok (.aload_n 0, 1) := by decide +kernel
theorem dX9_loose_18 : decode cX9_loose 18 = .ok (.getfield 12, 3) := by decide +kernel
theorem dX9_loose_21 : decode cX9_loose 21 = .ok (.getfield 103, 3) := by decide +kernel
theorem dX9_loose_24 : decode cX9_loose 24 = .ok (.iload_n 1, 1) := by decide +kernel
theorem dX9_loose_25 : decode cX9_loose 25 = .ok (.iadd, 1) := by decide +kernel
theorem dX9_loose_26 : decode cX9_loose 26 = .ok (.ldc 193, 2) := by decide +kernel
theorem dX9_loose_28 : decode cX9_loose 28 = .ok (.if_icmp .le 10, 3) := by decide +kernel
theorem dX9_loose_31 : decode cX9_loose 31 = .ok (.aload_n 0, 1) := by decide +kernel
theorem dX9_loose_32 : decode cX9_loose 32 = .ok (.ldc 194, 2) := by decide +kernel
theorem dX9_loose_34 : decode cX9_loose 34 = .ok (.invokevirtual 65, 3) := by decide +kernel
theorem dX9_loose_37 : decode cX9_loose 37 = .ok (.ireturn, 1) := by decide +kernel
theorem dX9_loose_38 : decode cX9_loose 38 = .ok (.iconst 0, 1) := by decide +kernel
theorem dX9_loose_39 : decode cX9_loose 39 = .ok (.istore_n 2, 1) := by decide +kernel
theorem dX9_loose_40 : decode cX9_loose 40 = .ok (.iconst 0, 1) := by decide +kernel
theorem dX9_loose_41 : decode cX9_loose 41 = .ok (.istore_n 3, 1) := by decide +kernel
theorem dX9_loose_42 : decode cX9_loose 42 = .ok (.iload_n 3, 1) := by decide +kernel
theorem dX9_loose_43 : decode cX9_loose 43 = .ok (.iload_n 1, 1) := by decide +kernel
theorem dX9_loose_44 : decode cX9_loose 44 = .ok (.if_icmp .ge 26, 3) := by decide +kernel
theorem dX9_loose_47 : decode cX9_loose 47 = .ok (.aload_n 0, 1) := by decide +kernel
theorem dX9_loose_48 : decode cX9_loose 48 = .ok (.getfield 12, 3) := by decide +kernel
theorem dX9_loose_51 : decode cX9_loose 51 = .ok (.invokevirtual 198, 3) := by decide +kernel
theorem dX9_loose_54 : decode cX9_loose 54 = .ok (.iload_n 2, 1) := by decide +kernel
theorem dX9_loose_55 : decode cX9_loose 55 = .ok (.aload_n 0, 1) := by decide +kernel
theorem dX9_loose_56 : decode cX9_loose 56 = .ok (.getfield 12, 3) := by decide +kernel
theorem dX9_loose_59 : decode cX9_loose 59 = .ok (.invokevirtual 195, 3) := by decide +kernel
theorem dX9_loose_62 : decode cX9_loose 62 = .ok (.iadd, 1) := by decide +kernel
theorem dX9_loose_63 : decode cX9_loose 63 = .ok (.istore_n 2, 1) := by decide +kernel
theorem dX9_loose_64 : decode cX9_loose 64 = .ok (.iinc 3 1, 3) := by decide +kernel
theorem dX9_loose_67 : decode cX9_loose 67 = .ok (.goto (-25), 3) := by decide +kernel
theorem dX9_loose_70 : decode cX9_loose 70 = .ok (.iload_n 2, 1) := by decide +kernel
theorem dX9_loose_71 : decode cX9_loose 71 = .ok (.ireturn, 1) := by decide +kernel
theorem dX9_tick_0 : decode cX9_tick 0 = .ok (.iload_n 1, 1) := by decide +kernel
theorem dX9_tick_1 : decode cX9_tick 1 = .ok (.iconst 0, 1) := by decide +kernel
theorem dX9_tick_2 : decode cX9_tick 2 = .ok (.ldc 193, 2) := by decide +kernel
theorem dX9_tick_4 : decode cX9_tick 4 = .ok (.invokestatic 93, 3) := by decide +kernel
theorem dX9_tick_7 : decode cX9_tick 7 = .ok (.ifCond .ne 10, 3) := by decide +kernel
theorem dX9_tick_10 : decode cX9_tick 10 = .ok (.aload_n 0, 1) := by decide +kernel
theorem dX9_tick_11 : decode cX9_tick 11 = .ok (.ldc 64, 2) := by decide +kernel
theorem dX9_tick_13 : decode cX9_tick 13 = .ok (.invokevirtual 65, 3) := by decide +kernel
theorem dX9_tick_16 : decode cX9_tick 16 = .ok (.ireturn, 1) := by decide +kernel
theorem dX9_tick_17 : decode cX9_tick 17 = .ok (.aload_n 0, 1) := by decide +kernel
theorem dX9_tick_18 : decode cX9_tick 18 = .ok (.getfield 12, 3) := by decide +kernel
theorem dX9_tick_21 : decode cX9_tick 21 = .ok (.getfield 103, 3) := by decide +kernel
theorem dX9_tick_24 : decode cX9_tick 24 = .ok (.istore_n 2, 1) := by decide +kernel
theorem dX9_tick_25 : decode cX9_tick 25 = .ok (.aload_n 0, 1) := by decide +kernel
theorem dX9_tick_26 : decode cX9_tick 26 = .ok (.getfield 12, 3) := by decide +kernel
theorem dX9_tick_29 : decode cX9_tick 29 = .ok (.iload_n 1, 1) := by decide +kernel
theorem dX9_tick_30 : decode cX9_tick 30 = .ok (.putfield 103, 3) := by decide +kernel
theorem dX9_tick_33 : decode cX9_tick 33 = .ok (.iload_n 2, 1) := by decide +kernel
theorem dX9_tick_34 : decode cX9_tick 34 = .ok (.ireturn, 1) := by decide +kernel
theorem dX9_seed_0 : decode cX9_seed 0 = .ok (.aload_n 0, 1) := by decide +kernel
theorem dX9_seed_1 : decode cX9_seed 1 = .ok (.getfield 12, 3) := by decide +kernel
theorem dX9_seed_4 : decode cX9_seed 4 = .ok (.getfield 201, 3) := by decide +kernel
theorem dX9_seed_7 : decode cX9_seed 7 = .ok (.istore_n 2, 1) := by decide +kernel
theorem dX9_seed_8 : decode cX9_seed 8 = .ok (.aload_n 0, 1) := by decide +kernel
theorem dX9_seed_9 : decode cX9_seed 9 = .ok (.getfield 12, 3) := by decide +kernel
theorem dX9_seed_12 : decode cX9_seed 12 = .ok (.iload_n 1, 1) := by decide +kernel
theorem dX9_seed_13 : decode cX9_seed 13 = .ok (.putfield 201, 3) := by decide +kernel
theorem dX9_seed_16 : decode cX9_seed 16 = .ok (.iload_n 2, 1) := by decide +kernel
theorem dX9_seed_17 : decode cX9_seed 17 = .ok (.ireturn, 1) := by decide +kernel
theorem dX9_then_0 : decode cX9_then 0 = .ok (.aload_n 0, 1) := by decide +kernel
theorem dX9_then_1 : decode cX9_then 1 = .ok (.getfield 12, 3) := by decide +kernel
theorem dX9_then_4 : decode cX9_then 4 = .ok (.iload_n 1, 1) := by decide +kernel
theorem dX9_then_5 : decode cX9_then 5 = .ok (.invokevirtual 140, 3) := by decide +kernel
theorem dX9_then_8 : decode cX9_then 8 = .ok (.ifCond .eq 14, 3) := by decide +kernel
theorem dX9_then_11 : decode cX9_then 11 = .ok (.iload_n 2, 1) := by decide +kernel
theorem dX9_then_12 : decode cX9_then 12 = .ok (.iconst 0, 1) := by decide +kernel
theorem dX9_then_13 : decode cX9_then 13 = .ok (.sipush 200, 3) := by decide +kernel
theorem dX9_then_16 : decode cX9_then 16 = .ok (.invokestatic 93, 3) := by decide +kernel
theorem dX9_then_19 : decode cX9_then 19 = .ok (.ifCond .ne 10, 3) := by decide +kernel
theorem dX9_then_22 : decode cX9_then 22 = .ok (.aload_n 0, 1) := by decide +kernel
theorem dX9_then_23 : decode cX9_then 23 = .ok (.ldc 64, 2) := by decide +kernel
theorem dX9_then_25 : decode cX9_then 25 = .ok (.invokevirtual 65, 3) := by decide +kernel
theorem dX9_then_28 : decode cX9_then 28 = .ok (.ireturn, 1) := by decide +kernel
theorem dX9_then_29 : decode cX9_then 29 = .ok (.aload_n 0, 1) := by decide +kernel
theorem dX9_then_30 : decode cX9_then 30 = .ok (.getfield 34, 3) := by decide +kernel
theorem dX9_then_33 : decode cX9_then 33 = .ok (.aload_n 0, 1) := by decide +kernel
theorem dX9_then_34 : decode cX9_then 34 = .ok (.getfield 12, 3) := by decide +kernel
theorem dX9_then_37 : decode cX9_then 37 = .ok (.getfield 125, 3) := by decide +kernel
theorem dX9_then_40 : decode cX9_then 40 = .ok (.iload_n 1, 1) := by decide +kernel
theorem dX9_then_41 : decode cX9_then 41 = .ok (.aaload, 1) := by decide +kernel
theorem dX9_then_42 : decode cX9_then 42 = .ok (.iload_n 2, 1) := by decide +kernel
theorem dX9_then_43 : decode cX9_then 43 = .ok (.invokevirtual 204, 3) := by decide +kernel
theorem dX9_then_46 : decode cX9_then 46 = .ok (.ireturn, 1) := by decide +kernel
theorem dX9_soonest_0 : decode cX9_soonest 0 = .ok (.aload_n 0, 1) := by decide +kernel
theorem dX9_soonest_1 : decode cX9_soonest 1 = .ok (.getfield 12, 3) := by decide +kernel
theorem dX9_soonest_4 : decode cX9_soonest 4 = .ok (.iload_n 1, 1) := by decide +kernel
theorem dX9_soonest_5 : decode cX9_soonest 5 = .ok (.invokevirtual 140, 3) := by decide +kernel
theorem dX9_soonest_8 : decode cX9_soonest 8 = .ok (.ifCond .ne 10, 3) := by decide +kernel
theorem dX9_soonest_11 : decode cX9_soonest 11 = .ok (.aload_n 0, 1) := by decide +kernel
theorem dX9_soonest_12 : decode cX9_soonest 12 = .ok (.ldc 64, 2) := by decide +kernel
theorem dX9_soonest_14 : decode cX9_soonest 14 = .ok (.invokevirtual 65, 3) := by decide +kernel
theorem dX9_soonest_17 : decode cX9_soonest 17 = .ok (.ireturn, 1) := by decide +kernel
theorem dX9_soonest_18 : decode cX9_soonest 18 = .ok (.aload_n 0, 1) := by decide +kernel
theorem dX9_soonest_19 : decode cX9_soonest 19 = .ok (.getfield 34, 3) := by decide +kernel
theorem dX9_soonest_22 : decode cX9_soonest 22 = .ok (.aload_n 0, 1) := by decide +kernel
theorem dX9_soonest_23 : decode cX9_soonest 23 = .ok (.getfield 12, 3) := by decide +kernel
theorem dX9_soonest_26 : decode cX9_soonest 26 = .ok (.getfield 125, 3) := by decide +kernel
theorem dX9_soonest_29 : decode cX9_soonest 29 = .ok (.iload_n 1, 1) := by decide +kernel
theorem dX9_soonest_30 : decode cX9_soonest 30 = .ok (.aaload, 1) := by decide +kernel
theorem dX9_soonest_31 : decode cX9_soonest 31 = .ok (.invokevirtual 208, 3) := by decide +kernel
theorem dX9_soonest_34 : decode cX9_soonest 34 = .ok (.istore_n 2, 1) := by decide +kernel
theorem dX9_soonest_35 : decode cX9_soonest 35 = .ok (.iload_n 2, 1) := by decide +kernel
theorem dX9_soonest_36 : decode cX9_soonest 36 = .ok (.ifCond .ge 12, 3) := by decide +kernel
theorem dX9_soonest_39 : decode cX9_soonest 39 = .ok (.aload_n 0, 1) := by decide +kernel
theorem dX9_soonest_40 : decode cX9_soonest 40 = .ok (.ldc 212, 2) := by decide +kernel
theorem dX9_soonest_42 : decode cX9_soonest 42 = .ok (.invokevirtual 65, 3) := by decide +kernel
theorem dX9_soonest_45 : decode cX9_soonest 45 = .ok (.goto 4, 3) := by decide +kernel
theorem dX9_soonest_48 : decode cX9_soonest 48 = .ok (.iload_n 2, 1) := by decide +kernel
theorem dX9_soonest_49 : decode cX9_soonest 49 = .ok (.ireturn, 1) := by decide +kernel
theorem dX9_moment_0 : decode cX9_moment 0 = .ok (.aload_n 0, 1) := by decide +kernel
theorem dX9_moment_1 : decode cX9_moment 1 = .ok (.getfield 12, 3) := by decide +kernel
theorem dX9_moment_4 : decode cX9_moment 4 = .ok (.iload_n 1, 1) := by decide +kernel
theorem dX9_moment_5 : decode cX9_moment 5 = .ok (.invokevirtual 116, 3) := by decide +kernel
theorem dX9_moment_8 : decode cX9_moment 8 = .ok (.ifCond .ne 10, 3) := by decide +kernel
theorem dX9_moment_11 : decode cX9_moment 11 = .ok (.aload_n 0, 1) := by decide +kernel
theorem dX9_moment_12 : decode cX9_moment 12 = .ok (.ldc 64, 2) := by decide +kernel
theorem dX9_moment_14 : decode cX9_moment 14 = .ok (.invokevirtual 65, 3) := by decide +kernel
theorem dX9_moment_17 : decode cX9_moment 17 = .ok (.ireturn, 1) := by decide +kernel
theorem dX9_moment_18 : decode cX9_moment 18 = .ok (.aload_n 0, 1) := by decide +kernel
theorem dX9_moment_19 : decode cX9_moment 19 = .ok (.getfield 34, 3) := by decide +kernel
theorem dX9_moment_22 : decode cX9_moment 22 = .ok (.iload_n 1, 1) := by decide +kernel
theorem dX9_moment_23 : decode cX9_moment 23 = .ok (.invokevirtual 213, 3) := by decide +kernel
theorem dX9_moment_26 : decode cX9_moment 26 = .ok (.istore_n 2, 1) := by decide +kernel
theorem dX9_moment_27 : decode cX9_moment 27 = .ok (.iload_n 2, 1) := by decide +kernel
theorem dX9_moment_28 : decode cX9_moment 28 = .ok (.ifCond .ge 12, 3) := by decide +kernel
theorem dX9_moment_31 : decode cX9_moment 31 = .ok (.aload_n 0, 1) := by decide +kernel
theorem dX9_moment_32 : decode cX9_moment 32 = .ok (.ldc 212, 2) := by decide +kernel
theorem dX9_moment_34 : decode cX9_moment 34 = .ok (.invokevirtual 65, 3) := by decide +kernel
theorem dX9_moment_37 : decode cX9_moment 37 = .ok (.goto 4, 3) := by decide +kernel
theorem dX9_moment_40 : decode cX9_moment 40 = .ok (.iload_n 2, 1) := by decide +kernel
theorem dX9_moment_41 : decode cX9_moment 41 = .ok (.ireturn, 1) := by decide +kernel
theorem dX9_moments_0 : decode cX9_moments 0 = .ok (.aload_n 0, 1) := by decide +kernel
theorem dX9_moments_1 : decode cX9_moments 1 = .ok (.getfield 12, 3) := by decide +kernel
theorem dX9_moments_4 : decode cX9_moments 4 = .ok (.iload_n 1, 1) := by decide +kernel
theorem dX9_moments_5 : decode cX9_moments 5 = .ok (.invokevirtual 116, 3) := by decide +kernel
theorem dX9_moments_8 : decode cX9_moments 8 = .ok (.ifCond .eq 13, 3) := by decide +kernel
theorem dX9_moments_11 : decode cX9_moments 11 = .ok (.iload_n 2, 1) := by decide +kernel
theorem dX9_moments_12 : decode cX9_moments 12 = .ok (.iconst 0, 1) := by decide +kernel
theorem dX9_moments_13 : decode cX9_moments 13 = .ok (.bipush 99, 2) := by decide +kernel
theorem dX9_moments_15 : decode cX9_moments 15 = .ok (.invokestatic 93, 3) := by decide +kernel
theorem dX9_moments_18 : decode cX9_moments 18 = .ok (.ifCond .ne 10, 3) := by decide +kernel
theorem dX9_moments_21 : decode cX9_moments 21 = .ok (.aload_n 0, 1) := by decide +kernel
theorem dX9_moments_22 : decode cX9_moments 22 = .ok (.ldc 64, 2) := by decide +kernel
theorem dX9_moments_24 : decode cX9_moments 24 = .ok (.invokevirtual 65, 3) := by decide +kernel
theorem dX9_moments_27 : decode cX9_moments 27 = .ok (.ireturn, 1) := by decide +kernel
theorem dX9_moments_28 : decode cX9_moments 28 = .ok (.aload_n 0, 1) := by decide +kernel
theorem dX9_moments_29 : decode cX9_moments 29 = .ok (.getfield 34, 3) := by decide +kernel
theorem dX9_moments_32 : decode cX9_moments 32 = .ok (.iload_n 1, 1) := by decide +kernel
theorem dX9_moments_33 : decode cX9_moments 33 = .ok (.iload_n 2, 1) := by decide +kernel
theorem dX9_moments_34 : decode cX9_moments 34 = .ok (.invokevirtual 216, 3) := by decide +kernel
theorem dX9_moments_37 : decode cX9_moments 37 = .ok (.ireturn, 1) := by decide +kernel
theorem dX9_away_0 : decode cX9_away 0 = .ok (.aload_n 0, 1) := by decide +kernel
theorem dX9_away_1 : decode cX9_away 1 = .ok (.getfield 12, 3) := by decide +kernel
theorem dX9_away_4 : decode cX9_away 4 = .ok (.iload_n 1, 1) := by decide +kernel
theorem dX9_away_5 : decode cX9_away 5 = .ok (.invokevirtual 140, 3) := by decide +kernel
theorem dX9_away_8 : decode cX9_away 8 = .ok (.ifCond .eq 22, 3) := by decide +kernel
theorem dX9_away_11 : decode cX9_away 11 = .ok (.iload_n 2, 1) := by decide +kernel
theorem dX9_away_12 : decode cX9_away 12 = .ok (.iconst 0, 1) := by decide +kernel
theorem dX9_away_13 : decode cX9_away 13 = .ok (.bipush 99, 2) := by decide +kernel
theorem dX9_away_15 : decode cX9_away 15 = .ok (.invokestatic 93, 3) := by decide +kernel
theorem dX9_away_18 : decode cX9_away 18 = .ok (.ifCond .eq 12, 3) := by decide +kernel
theorem dX9_away_21 : decode cX9_away 21 = .ok (.iload_n 3, 1) := by decide +kernel
theorem dX9_away_22 : decode cX9_away 22 = .ok (.iconst 0, 1) := by decide +kernel
theorem dX9_away_23 : decode cX9_away 23 = .ok (.iconst 1, 1) := by decide +kernel
theorem dX9_away_24 : decode cX9_away 24 = .ok (.invokestatic 93, 3) := by decide +kernel
theorem dX9_away_27 : decode cX9_away 27 = .ok (.ifCond .ne 10, 3) := by decide +kernel
theorem dX9_away_30 : decode cX9_away 30 = .ok (.aload_n 0, 1) := by decide +kernel
theorem dX9_away_31 : decode cX9_away 31 = .ok (.ldc 64, 2) := by decide +kernel
theorem dX9_away_33 : decode cX9_away 33 = .ok (.invokevirtual 65, 3) := by decide +kernel
theorem dX9_away_36 : decode cX9_away 36 = .ok (.ireturn, 1) := by decide +kernel
theorem dX9_away_37 : decode cX9_away 37 = .ok (.aload_n 0, 1) := by decide +kernel
theorem dX9_away_38 : decode cX9_away 38 = .ok (.getfield 34, 3) := by decide +kernel
theorem dX9_away_41 : decode cX9_away 41 = .ok (.aload_n 0, 1) := by decide +kernel
theorem dX9_away_42 : decode cX9_away 42 = .ok (.getfield 12, 3) := by decide +kernel
theorem dX9_away_45 : decode cX9_away 45 = .ok (.getfield 125, 3) := by decide +kernel
theorem dX9_away_48 : decode cX9_away 48 = .ok (.iload_n 1, 1) := by decide +kernel
theorem dX9_away_49 : decode cX9_away 49 = .ok (.aaload, 1) := by decide +kernel
theorem dX9_away_50 : decode cX9_away 50 = .ok (.iload_n 2, 1) := by decide +kernel
theorem dX9_away_51 : decode cX9_away 51 = .ok (.invokevirtual 220, 3) := by decide +kernel
theorem dX9_away_54 : decode cX9_away 54 = .ok (.istore 4, 2) := by decide +kernel
theorem dX9_away_56 : decode cX9_away 56 = .ok (.iload 4, 2) := by decide +kernel
theorem dX9_away_58 : decode cX9_away 58 = .ok (.ifCond .ge 10, 3) := by decide +kernel
theorem dX9_away_61 : decode cX9_away 61 = .ok (.aload_n 0, 1) := by decide +kernel
theorem dX9_away_62 : decode cX9_away 62 = .ok (.ldc 212, 2) := by decide +kernel
theorem dX9_away_64 : decode cX9_away 64 = .ok (.invokevirtual 65, 3) := by decide +kernel
theorem dX9_away_67 : decode cX9_away 67 = .ok (.ireturn, 1) := by decide +kernel
theorem dX9_away_68 : decode cX9_away 68 = .ok (.iload_n 3, 1) := by decide +kernel
theorem dX9_away_69 : decode cX9_away 69 = .ok (.ifCond .ne 11, 3) := by decide +kernel
theorem dX9_away_72 : decode cX9_away 72 = .ok (.iload 4, 2) := by decide +kernel
theorem dX9_away_74 : decode cX9_away 74 = .ok (.invokestatic 223, 3) := by decide +kernel
theorem dX9_away_77 : decode cX9_away 77 = .ok (.goto 5, 3) := by decide +kernel
theorem dX9_away_80 : decode cX9_away 80 = .ok (.iload 4, 2) := by decide +kernel
theorem dX9_away_82 : decode cX9_away 82 = .ok (.ireturn, 1) := by decide +kernel
theorem dX9_phaseFor_0 : decode cX9_phaseFor 0 = .ok (.aload_n 0, 1) := by decide +kernel
theorem dX9_phaseFor_1 : decode cX9_phaseFor 1 = .ok (.getfield 12, 3) := by decide +kernel
theorem dX9_phaseFor_4 : decode cX9_phaseFor 4 = .ok (.iload_n 1, 1) := by decide +kernel
theorem dX9_phaseFor_5 : decode cX9_phaseFor 5 = .ok (.invokevirtual 90, 3) := by decide +kernel
theorem dX9_phaseFor_8 : decode cX9_phaseFor 8 = .ok (.ifCond .eq 23, 3) := by decide +kernel
theorem dX9_phaseFor_11 : decode cX9_phaseFor 11 = .ok (.aload_n 0, 1) := by decide +kernel
theorem dX9_phaseFor_12 : decode cX9_phaseFor 12 = .ok (.getfield 12, 3) := by decide +kernel
theorem dX9_phaseFor_15 : decode cX9_phaseFor 15 = .ok (.iload_n 2, 1) := by decide +kernel
theorem dX9_phaseFor_16 : decode cX9_phaseFor 16 = .ok (.invokevirtual 140, 3) := by decide +kernel
theorem dX9_phaseFor_19 : decode cX9_phaseFor 19 = .ok (.ifCond .eq 12, 3) := by decide +kernel
theorem dX9_phaseFor_22 : decode cX9_phaseFor 22 = .ok (.iload_n 3, 1) := by decide +kernel
theorem dX9_phaseFor_23 : decode cX9_phaseFor 23 = .ok (.iconst 0, 1) := by decide +kernel
theorem dX9_phaseFor_24 : decode cX9_phaseFor 24 = .ok (.iconst 1, 1) := by decide +kernel
theorem dX9_phaseFor_25 : decode cX9_phaseFor 25 = .ok (.invokestatic 93, 3) := by decide +kernel
theorem dX9_phaseFor_28 : decode cX9_phaseFor 28 = .ok (.ifCond .ne 10, 3) := by decide +kernel
theorem dX9_phaseFor_31 : decode cX9_phaseFor 31 = .ok (.aload_n 0, 1) := by decide +kernel
theorem dX9_phaseFor_32 : decode cX9_phaseFor 32 = .ok (.ldc 64, 2) := by decide +kernel
theorem dX9_phaseFor_34 : decode cX9_phaseFor 34 = .ok (.invokevirtual 65, 3) := by decide +kernel
theorem dX9_phaseFor_37 : decode cX9_phaseFor 37 = .ok (.ireturn, 1) := by decide +kernel
theorem dX9_phaseFor_38 : decode cX9_phaseFor 38 = .ok (.aload_n 0, 1) := by decide +kernel
theorem dX9_phaseFor_39 : decode cX9_phaseFor 39 = .ok (.getfield 34, 3) := by decide +kernel
theorem dX9_phaseFor_42 : decode cX9_phaseFor 42 = .ok (.iload_n 1, 1) := by decide +kernel
theorem dX9_phaseFor_43 : decode cX9_phaseFor 43 = .ok (.aload_n 0, 1) := by decide +kernel
theorem dX9_phaseFor_44 : decode cX9_phaseFor 44 = .ok (.getfield 12, 3) := by decide +kernel
theorem dX9_phaseFor_47 : decode cX9_phaseFor 47 = .ok (.getfield 125, 3) := by decide +kernel
theorem dX9_phaseFor_50 : decode cX9_phaseFor 50 = .ok (.iload_n 2, 1) := by decide +kernel
theorem dX9_phaseFor_51 : decode cX9_phaseFor 51 = .ok (.aaload, 1) := by decide +kernel
theorem dX9_phaseFor_52 : decode cX9_phaseFor 52 = .ok (.invokevirtual 228, 3) := by decide +kernel
theorem dX9_phaseFor_55 : decode cX9_phaseFor 55 = .ok (.ifCond .ne 10, 3) := by decide +kernel
theorem dX9_phaseFor_58 : decode cX9_phaseFor 58 = .ok (.aload_n 0, 1) := by decide +kernel
theorem dX9_phaseFor_59 : decode cX9_phaseFor 59 = .ok (.ldc 212, 2) := by decide +kernel
theorem dX9_phaseFor_61 : decode cX9_phaseFor 61 = .ok (.invokevirtual 65, 3) := by decide +kernel
theorem dX9_phaseFor_64 : decode cX9_phaseFor 64 = .ok (.ireturn, 1) := by decide +kernel
theorem dX9_phaseFor_65 : decode cX9_phaseFor 65 = .ok (.iload_n 3, 1) := by decide +kernel
theorem dX9_phaseFor_66 : decode cX9_phaseFor 66 = .ok (.ifCond .ne 13, 3) := by decide +kernel
theorem dX9_phaseFor_69 : decode cX9_phaseFor 69 = .ok (.aload_n 0, 1) := by decide +kernel
theorem dX9_phaseFor_70 : decode cX9_phaseFor 70 = .ok (.getfield 34, 3) := by decide +kernel
theorem dX9_phaseFor_73 : decode cX9_phaseFor 73 = .ok (.getfield 232, 3) := by decide +kernel
theorem dX9_phaseFor_76 : decode cX9_phaseFor 76 = .ok (.goto 10, 3) := by decide +kernel
theorem dX9_phaseFor_79 : decode cX9_phaseFor 79 = .ok (.aload_n 0, 1) := by decide +kernel
theorem dX9_phaseFor_80 : decode cX9_phaseFor 80 = .ok (.getfield 34, 3) := by decide +kernel
theorem dX9_phaseFor_83 : decode cX9_phaseFor 83 = .ok (.getfield 235, 3) := by decide +kernel
theorem dX9_phaseFor_86 : decode cX9_phaseFor 86 = .ok (.ireturn, 1) := by decide +kernel
theorem dX9_odds_0 : decode cX9_odds 0 = .ok (.aload_n 0, 1) := by decide +kernel
theorem dX9_odds_1 : decode cX9_odds 1 = .ok (.getfield 12, 3) := by decide +kernel
theorem dX9_odds_4 : decode cX9_odds 4 = .ok (.iload_n 1, 1) := by decide +kernel
theorem dX9_odds_5 : decode cX9_odds 5 = .ok (.invokevirtual 116, 3) := by decide +kernel
theorem dX9_odds_8 : decode cX9_odds 8 = .ok (.ifCond .eq 22, 3) := by decide +kernel
theorem dX9_odds_11 : decode cX9_odds 11 = .ok (.iload_n 2, 1) := by decide +kernel
theorem dX9_odds_12 : decode cX9_odds 12 = .ok (.iconst 1, 1) := by decide +kernel
theorem dX9_odds_13 : decode cX9_odds 13 = .ok (.bipush 99, 2) := by decide +kernel
theorem dX9_odds_15 : decode cX9_odds 15 = .ok (.invokestatic 93, 3) := by decide +kernel
theorem dX9_odds_18 : decode cX9_odds 18 = .ok (.ifCond .eq 12, 3) := by decide +kernel
theorem dX9_odds_21 : decode cX9_odds 21 = .ok (.iload_n 3, 1) := by decide +kernel
theorem dX9_odds_22 : decode cX9_odds 22 = .ok (.iconst 0, 1) := by decide +kernel
theorem dX9_odds_23 : decode cX9_odds 23 = .ok (.iconst 1, 1) := by decide +kernel
theorem dX9_odds_24 : decode cX9_odds 24 = .ok (.invokestatic 93, 3) := by decide +kernel
theorem dX9_odds_27 : decode cX9_odds 27 = .ok (.ifCond .ne 10, 3) := by decide +kernel
theorem dX9_odds_30 : decode cX9_odds 30 = .ok (.aload_n 0, 1) := by decide +kernel
theorem dX9_odds_31 : decode cX9_odds 31 = .ok (.ldc 64, 2) := by decide +kernel
theorem dX9_odds_33 : decode cX9_odds 33 = .ok (.invokevirtual 65, 3) := by decide +kernel
theorem dX9_odds_36 : decode cX9_odds 36 = .ok (.ireturn, 1) := by decide +kernel
theorem dX9_odds_37 : decode cX9_odds 37 = .ok (.aload_n 0, 1) := by decide +kernel
theorem dX9_odds_38 : decode cX9_odds 38 = .ok (.getfield 34, 3) := by decide +kernel
theorem dX9_odds_41 : decode cX9_odds 41 = .ok (.iload_n 1, 1) := by decide +kernel
theorem dX9_odds_42 : decode cX9_odds 42 = .ok (.iload_n 2, 1) := by decide +kernel
theorem dX9_odds_43 : decode cX9_odds 43 = .ok (.invokevirtual 216, 3) := by decide +kernel
theorem dX9_odds_46 : decode cX9_odds 46 = .ok (.istore 4, 2) := by decide +kernel
theorem dX9_odds_48 : decode cX9_odds 48 = .ok (.iload_n 2, 1) := by decide +kernel
theorem dX9_odds_49 : decode cX9_odds 49 = .ok (.iload 4, 2) := by decide +kernel
theorem dX9_odds_51 : decode cX9_odds 51 = .ok (.invokestatic 238, 3) := by decide +kernel
theorem dX9_odds_54 : decode cX9_odds 54 = .ok (.istore 5, 2) := by decide +kernel
theorem dX9_odds_56 : decode cX9_odds 56 = .ok (.iload_n 3, 1) := by decide +kernel
theorem dX9_odds_57 : decode cX9_odds 57 = .ok (.ifCond .ne 8, 3) := by decide +kernel
theorem dX9_odds_60 : decode cX9_odds 60 = .ok (.iload 4, 2) := by decide +kernel
theorem dX9_odds_62 : decode cX9_odds 62 = .ok (.goto 4, 3) := by decide +kernel
theorem dX9_odds_65 : decode cX9_odds 65 = .ok (.iload_n 2, 1) := by decide +kernel
theorem dX9_odds_66 : decode cX9_odds 66 = .ok (.istore 6, 2) := by decide +kernel
theorem dX9_odds_68 : decode cX9_odds 68 = .ok (.iload 5, 2) := by decide +kernel
theorem dX9_odds_70 : decode cX9_odds 70 = .ok (.ifCond .le 11, 3) := by decide +kernel
theorem dX9_odds_73 : decode cX9_odds 73 = .ok (.iload 6, 2) := by decide +kernel
theorem dX9_odds_75 : decode cX9_odds 75 = .ok (.iload 5, 2) := by decide +kernel
theorem dX9_odds_77 : decode cX9_odds 77 = .ok (.idiv, 1) := by decide +kernel
theorem dX9_odds_78 : decode cX9_odds 78 = .ok (.goto 5, 3) := by decide +kernel
theorem dX9_odds_81 : decode cX9_odds 81 = .ok (.iload 6, 2) := by decide +kernel
theorem dX9_odds_83 : decode cX9_odds 83 = .ok (.ireturn, 1) := by decide +kernel
theorem dX9_fits_0 : decode cX9_fits 0 = .ok (.iload_n 1, 1) := by decide +kernel
theorem dX9_fits_1 : decode cX9_fits 1 = .ok (.invokestatic 241, 3) := by decide +kernel
theorem dX9_fits_4 : decode cX9_fits 4 = .ok (.ifCond .eq 23, 3) := by decide +kernel
theorem dX9_fits_7 : decode cX9_fits 7 = .ok (.aload_n 0, 1) := by decide +kernel
theorem dX9_fits_8 : decode cX9_fits 8 = .ok (.getfield 12, 3) := by decide +kernel
theorem dX9_fits_11 : decode cX9_fits 11 = .ok (.iload_n 2, 1) := by decide +kernel
theorem dX9_fits_12 : decode cX9_fits 12 = .ok (.invokevirtual 90, 3) := by decide +kernel
theorem dX9_fits_15 : decode cX9_fits 15 = .ok (.ifCond .eq 12, 3) := by decide +kernel
theorem dX9_fits_18 : decode cX9_fits 18 = .ok (.iload_n 3, 1) := by decide +kernel
theorem dX9_fits_19 : decode cX9_fits 19 = .ok (.iconst 0, 1) := by decide +kernel
theorem dX9_fits_20 : decode cX9_fits 20 = .ok (.iconst 1, 1) := by decide +kernel
theorem dX9_fits_21 : decode cX9_fits 21 = .ok (.invokestatic 93, 3) := by decide +kernel
theorem dX9_fits_24 : decode cX9_fits 24 = .ok (.ifCond .ne 10, 3) := by decide +kernel
theorem dX9_fits_27 : decode cX9_fits 27 = .ok (.aload_n 0, 1) := by decide +kernel
theorem dX9_fits_28 : decode cX9_fits 28 = .ok (.ldc 64, 2) := by decide +kernel
theorem dX9_fits_30 : decode cX9_fits 30 = .ok (.invokevirtual 65, 3) := by decide +kernel
theorem dX9_fits_33 : decode cX9_fits 33 = .ok (.ireturn, 1) := by decide +kernel
theorem dX9_fits_34 : decode cX9_fits 34 = .ok (.aload_n 0, 1) := by decide +kernel
theorem dX9_fits_35 : decode cX9_fits 35 = .ok (.getfield 47, 3) := by decide +kernel
theorem dX9_fits_38 : decode cX9_fits 38 = .ok (.iload_n 1, 1) := by decide +kernel
theorem dX9_fits_39 : decode cX9_fits 39 = .ok (.aaload, 1) := by decide +kernel
theorem dX9_fits_40 : decode cX9_fits 40 = .ok (.invokevirtual 244, 3) := by decide +kernel
theorem dX9_fits_43 : decode cX9_fits 43 = .ok (.ifCond .eq 10, 3) := by decide +kernel
theorem dX9_fits_46 : decode cX9_fits 46 = .ok (.aload_n 0, 1) := by decide +kernel
theorem dX9_fits_47 : decode cX9_fits 47 = .ok (.ldc 212, 2) := by decide +kernel
theorem dX9_fits_49 : decode cX9_fits 49 = .ok (.invokevirtual 65, 3) := by decide +kernel
theorem dX9_fits_52 : decode cX9_fits 52 = .ok (.ireturn, 1) := by decide +kernel
theorem dX9_fits_53 : decode cX9_fits 53 = .ok (.aload_n 0, 1) := by decide +kernel
theorem dX9_fits_54 : decode cX9_fits 54 = .ok (.getfield 34, 3) := by decide +kernel
theorem dX9_fits_57 : decode cX9_fits 57 = .ok (.iload_n 2, 1) := by decide +kernel
theorem dX9_fits_58 : decode cX9_fits 58 = .ok (.aload_n 0, 1) := by decide +kernel
theorem dX9_fits_59 : decode cX9_fits 59 = .ok (.getfield 47, 3) := by decide +kernel
theorem dX9_fits_62 : decode cX9_fits 62 = .ok (.iload_n 1, 1) := by decide +kernel
theorem dX9_fits_63 : decode cX9_fits 63 = .ok (.aaload, 1) := by decide +kernel
theorem dX9_fits_64 : decode cX9_fits 64 = .ok (.getfield 248, 3) := by decide +kernel
theorem dX9_fits_67 : decode cX9_fits 67 = .ok (.invokevirtual 251, 3) := by decide +kernel
theorem dX9_fits_70 : decode cX9_fits 70 = .ok (.iload_n 3, 1) := by decide +kernel
theorem dX9_fits_71 : decode cX9_fits 71 = .ok (.ifCond .ne 11, 3) := by decide +kernel
theorem dX9_fits_74 : decode cX9_fits 74 = .ok (.aload_n 0, 1) := by decide +kernel
theorem dX9_fits_75 : decode cX9_fits 75 = .ok (.getfield 34, 3) := by decide +kernel
theorem dX9_fits_78 : decode cX9_fits 78 = .ok (.getfield 255, 3) := by decide +kernel
theorem dX9_fits_81 : decode cX9_fits 81 = .ok (.ireturn, 1) := by decide +kernel
theorem dX9_fits_82 : decode cX9_fits 82 = .ok (.aload_n 0, 1) := by decide +kernel
theorem dX9_fits_83 : decode cX9_fits 83 = .ok (.getfield 34, 3) := by decide +kernel
theorem dX9_fits_86 : decode cX9_fits 86 = .ok (.getfield 255, 3) := by decide +kernel
theorem dX9_fits_89 : decode cX9_fits 89 = .ok (.ifCond .ne 12, 3) := by decide +kernel
theorem dX9_fits_92 : decode cX9_fits 92 = .ok (.aload_n 0, 1) := by decide +kernel
theorem dX9_fits_93 : decode cX9_fits 93 = .ok (.ldc 212, 2) := by decide +kernel
theorem dX9_fits_95 : decode cX9_fits 95 = .ok (.invokevirtual 65, 3) := by decide +kernel
theorem dX9_fits_98 : decode cX9_fits 98 = .ok (.goto 10, 3) := by decide +kernel
theorem dX9_fits_101 : decode cX9_fits 101 = .ok (.aload_n 0, 1) := by decide +kernel
theorem dX9_fits_102 : decode cX9_fits 102 = .ok (.getfield 34, 3) := by decide +kernel
theorem dX9_fits_105 : decode cX9_fits 105 = .ok (.getfield 258, 3) := by decide +kernel
theorem dX9_fits_108 : decode cX9_fits 108 = .ok (.ireturn, 1) := by decide +kernel
theorem dX9_voice_0 : decode cX9_voice 0 = .ok (.aload_n 0, 1) := by decide +kernel
theorem dX9_voice_1 : decode cX9_voice 1 = .ok (.getfield 12, 3) := by decide +kernel
theorem dX9_voice_4 : decode cX9_voice 4 = .ok (.iload_n 1, 1) := by decide +kernel
theorem dX9_voice_5 : decode cX9_voice 5 = .ok (.invokevirtual 90, 3) := by decide +kernel
theorem dX9_voice_8 : decode cX9_voice 8 = .ok (.ifCond .eq 12, 3) := by decide +kernel
theorem dX9_voice_11 : decode cX9_voice 11 = .ok (.iload_n 2, 1) := by decide +kernel
theorem dX9_voice_12 : decode cX9_voice 12 = .ok (.iconst 0, 1) := by decide +kernel
theorem dX9_voice_13 : decode cX9_voice 13 = .ok (.iconst 3, 1) := by decide +kernel
theorem dX9_voice_14 : decode cX9_voice 14 = .ok (.invokestatic 93, 3) := by decide +kernel
theorem dX9_voice_17 : decode cX9_voice 17 = .ok (.ifCond .ne 10, 3) := by decide +kernel
theorem dX9_voice_20 : decode cX9_voice 20 = .ok (.aload_n 0, 1) := by decide +kernel
theorem dX9_voice_21 : decode cX9_voice 21 = .ok (.ldc 64, 2) := by decide +kernel
theorem dX9_voice_23 : decode cX9_voice 23 = .ok (.invokevirtual 65, 3) := by decide +kernel
theorem dX9_voice_26 : decode cX9_voice 26 = .ok (.ireturn, 1) := by decide +kernel
theorem dX9_voice_27 : decode cX9_voice 27 = .ok (.aload_n 0, 1) := by decide +kernel
theorem dX9_voice_28 : decode cX9_voice 28 = .ok (.getfield 41, 3) := by decide +kernel
theorem dX9_voice_31 : decode cX9_voice 31 = .ok (.aload_n 0, 1) := by decide +kernel
theorem dX9_voice_32 : decode cX9_voice 32 = .ok (.getfield 12, 3) := by decide +kernel
theorem dX9_voice_35 : decode cX9_voice 35 = .ok (.getfield 74, 3) := by decide +kernel
theorem dX9_voice_38 : decode cX9_voice 38 = .ok (.iload_n 1, 1) := by decide +kernel
theorem dX9_voice_39 : decode cX9_voice 39 = .ok (.aaload, 1) := by decide +kernel
theorem dX9_voice_40 : decode cX9_voice 40 = .ok (.iload_n 1, 1) := by decide +kernel
theorem dX9_voice_41 : decode cX9_voice 41 = .ok (.iload_n 2, 1) := by decide +kernel
theorem dX9_voice_42 : decode cX9_voice 42 = .ok (.iload_n 3, 1) := by decide +kernel
theorem dX9_voice_43 : decode cX9_voice 43 = .ok (.invokevirtual 261, 3) := by decide +kernel
theorem dX9_voice_46 : decode cX9_voice 46 = .ok (.istore 4, 2) := by decide +kernel
theorem dX9_voice_48 : decode cX9_voice 48 = .ok (.aload_n 0, 1) := by decide +kernel
theorem dX9_voice_49 : decode cX9_voice 49 = .ok (.getfield 41, 3) := by decide +kernel
theorem dX9_voice_52 : decode cX9_voice 52 = .ok (.getfield 265, 3) := by decide +kernel
theorem dX9_voice_55 : decode cX9_voice 55 = .ok (.ifCond .eq 11, 3) := by decide +kernel
theorem dX9_voice_58 : decode cX9_voice 58 = .ok (.aload_n 0, 1) := by decide +kernel
theorem dX9_voice_59 : decode cX9_voice 59 = .ok (.ldc_w 268, 3) := by decide +kernel
theorem dX9_voice_62 : decode cX9_voice 62 = .ok (.invokevirtual 65, 3) := by decide +kernel
theorem dX9_voice_65 : decode cX9_voice 65 = .ok (.ireturn, 1) := by decide +kernel
theorem dX9_voice_66 : decode cX9_voice 66 = .ok (.iload 4, 2) := by decide +kernel
theorem dX9_voice_68 : decode cX9_voice 68 = .ok (.ireturn, 1) := by decide +kernel
theorem dX9_body_0 : decode cX9_body 0 = .ok (.iload_n 1, 1) := by decide +kernel
theorem dX9_body_1 : decode cX9_body 1 = .ok (.iconst 0, 1) := by decide +kernel
theorem dX9_body_2 : decode cX9_body 2 = .ok (.aload_n 0, 1) := by decide +kernel
theorem dX9_body_3 : decode cX9_body 3 = .ok (.getfield 41, 3) := by decide +kernel
theorem dX9_body_6 : decode cX9_body 6 = .ok (.getfield 269, 3) := by decide +kernel
theorem dX9_body_9 : decode cX9_body 9 = .ok (.invokevirtual 150, 3) := by decide +kernel
theorem dX9_body_12 : decode cX9_body 12 = .ok (.iconst 1, 1) := by decide +kernel
theorem dX9_body_13 : decode cX9_body 13 = .ok (.isub, 1) := by decide +kernel
theorem dX9_body_14 : decode cX9_body 14 = .ok (.invokestatic 93, 3) := by decide +kernel
theorem dX9_body_17 : decode cX9_body 17 = .ok (.ifCond .ne 10, 3) := by decide +kernel
theorem dX9_body_20 : decode cX9_body 20 = .ok (.aload_n 0, 1) := by decide +kernel
theorem dX9_body_21 : decode cX9_body 21 = .ok (.ldc 212, 2) := by decide +kernel
theorem dX9_body_23 : decode cX9_body 23 = .ok (.invokevirtual 65, 3) := by decide +kernel
theorem dX9_body_26 : decode cX9_body 26 = .ok (.ireturn, 1) := by decide +kernel
theorem dX9_body_27 : decode cX9_body 27 = .ok (.aload_n 0, 1) := by decide +kernel
theorem dX9_body_28 : decode cX9_body 28 = .ok (.getfield 41, 3) := by decide +kernel
theorem dX9_body_31 : decode cX9_body 31 = .ok (.getfield 269, 3) := by decide +kernel
theorem dX9_body_34 : decode cX9_body 34 = .ok (.iload_n 1, 1) := by decide +kernel
theorem dX9_body_35 : decode cX9_body 35 = .ok (.invokevirtual 272, 3) := by decide +kernel
theorem dX9_body_38 : decode cX9_body 38 = .ok (.ireturn, 1) := by decide +kernel
theorem dX9_sheet_0 : decode cX9_sheet 0 = .ok (.iload_n 1, 1) := by decide +kernel
theorem dX9_sheet_1 : decode cX9_sheet 1 = .ok (.invokestatic 241, 3) := by decide +kernel
theorem dX9_sheet_4 : decode cX9_sheet 4 = .ok (.ifCond .eq 25, 3) := by decide +kernel
theorem dX9_sheet_7 : decode cX9_sheet 7 = .ok (.iload_n 2, 1) := by decide +kernel
theorem dX9_sheet_8 : decode cX9_sheet 8 = .ok (.ifCond .eq 28, 3) := by decide +kernel
theorem dX9_sheet_11 : decode cX9_sheet 11 = .ok (.iload_n 2, 1) := by decide +kernel
theorem dX9_sheet_12 : decode cX9_sheet 12 = .ok (.bipush 8, 2) := by decide +kernel
theorem dX9_sheet_14 : decode cX9_sheet 14 = .ok (.if_icmp .eq 22, 3) := by decide +kernel
theorem dX9_sheet_17 : decode cX9_sheet 17 = .ok (.iload_n 2, 1) := by decide +kernel
theorem dX9_sheet_18 : decode cX9_sheet 18 = .ok (.bipush 16, 2) := by decide +kernel
theorem dX9_sheet_20 : decode cX9_sheet 20 = .ok (.if_icmp .eq 16, 3) := by decide +kernel
theorem dX9_sheet_23 : decode cX9_sheet 23 = .ok (.iload_n 2, 1) := by decide +kernel
theorem dX9_sheet_24 : decode cX9_sheet 24 = .ok (.bipush 32, 2) := by decide +kernel
theorem dX9_sheet_26 : decode cX9_sheet 26 = .ok (.if_icmp .eq 10, 3) := by decide +kernel
theorem dX9_sheet_29 : decode cX9_sheet 29 = .ok (.aload_n 0, 1) := by decide +kernel
theorem dX9_sheet_30 : decode cX9_sheet 30 = .ok (.ldc 64, 2) := by decide +kernel
theorem dX9_sheet_32 : decode cX9_sheet 32 = .ok (.invokevirtual 65, 3) := by decide +kernel
theorem dX9_sheet_35 : decode cX9_sheet 35 = .ok (.ireturn, 1) := by decide +kernel
theorem dX9_sheet_36 : decode cX9_sheet 36 = .ok (.iload_n 2, 1) := by decide +kernel
theorem dX9_sheet_37 : decode cX9_sheet 37 = .ok (.ifCond .eq 14, 3) := by decide +kernel
theorem dX9_sheet_40 : decode cX9_sheet 40 = .ok (.iload_n 3, 1) := by decide +kernel
theorem dX9_sheet_41 : decode cX9_sheet 41 = .ok (.ifCond .ge 10, 3) := by decide +kernel
theorem dX9_sheet_44 : decode cX9_sheet 44 = .ok (.aload_n 0, 1) := by decide +kernel
theorem dX9_sheet_45 : decode cX9_sheet 45 = .ok (.ldc 194, 2) := by decide +kernel
theorem dX9_sheet_47 : decode cX9_sheet 47 = .ok (.invokevirtual 65, 3) := by decide +kernel
theorem dX9_sheet_50 : decode cX9_sheet 50 = .ok (.ireturn, 1) := by decide +kernel
theorem dX9_sheet_51 : decode cX9_sheet 51 = .ok (.iload_n 2, 1) := by decide +kernel
theorem dX9_sheet_52 : decode cX9_sheet 52 = .ok (.ifCond .eq 16, 3) := by decide +kernel
theorem dX9_sheet_55 : decode cX9_sheet 55 = .ok (.iload_n 3, 1) := by decide +kernel
theorem dX9_sheet_56 : decode cX9_sheet 56 = .ok (.bipush 24, 2) := by decide +kernel
theorem dX9_sheet_58 : decode cX9_sheet 58 = .ok (.if_icmp .le 10, 3) := by decide +kernel
theorem dX9_sheet_61 : decode cX9_sheet 61 = .ok (.aload_n 0, 1) := by decide +kernel
theorem dX9_sheet_62 : decode cX9_sheet 62 = .ok (.ldc 64, 2) := by decide +kernel
theorem dX9_sheet_64 : decode cX9_sheet 64 = .ok (.invokevirtual 65, 3) := by decide +kernel
theorem dX9_sheet_67 : decode cX9_sheet 67 = .ok (.ireturn, 1) := by decide +kernel
theorem dX9_sheet_68 : decode cX9_sheet 68 = .ok (.aload_n 0, 1) := by decide +kernel
theorem dX9_sheet_69 : decode cX9_sheet 69 = .ok (.getfield 47, 3) := by decide +kernel
theorem dX9_sheet_72 : decode cX9_sheet 72 = .ok (.iload_n 1, 1) := by decide +kernel
theorem dX9_sheet_73 : decode cX9_sheet 73 = .ok (.aaload, 1) := by decide +kernel
theorem dX9_sheet_74 : decode cX9_sheet 74 = .ok (.iload_n 2, 1) := by decide +kernel
theorem dX9_sheet_75 : decode cX9_sheet 75 = .ok (.iload_n 2, 1) := by decide +kernel
theorem dX9_sheet_76 : decode cX9_sheet 76 = .ok (.ifCond .ne 7, 3) := by decide +kernel
theorem dX9_sheet_79 : decode cX9_sheet 79 = .ok (.iconst 0, 1) := by decide +kernel
theorem dX9_sheet_80 : decode cX9_sheet 80 = .ok (.goto 4, 3) := by decide +kernel
theorem dX9_sheet_83 : decode cX9_sheet 83 = .ok (.iload_n 3, 1) := by decide +kernel
theorem dX9_sheet_84 : decode cX9_sheet 84 = .ok (.invokevirtual 275, 3) := by decide +kernel
theorem dX9_sheet_87 : decode cX9_sheet 87 = .ok (.iconst 1, 1) := by decide +kernel
theorem dX9_sheet_88 : decode cX9_sheet 88 = .ok (.ireturn, 1) := by decide +kernel
theorem dX9_put_0 : decode cX9_put 0 = .ok (.iload_n 1, 1) := by decide +kernel
theorem dX9_put_1 : decode cX9_put 1 = .ok (.invokestatic 241, 3) := by decide +kernel
theorem dX9_put_4 : decode cX9_put 4 = .ok (.ifCond .ne 10, 3) := by decide +kernel
theorem dX9_put_7 : decode cX9_put 7 = .ok (.aload_n 0, 1) := by decide +kernel
theorem dX9_put_8 : decode cX9_put 8 = .ok (.ldc 64, 2) := by decide +kernel
theorem dX9_put_10 : decode cX9_put 10 = .ok (.invokevirtual 65, 3) := by decide +kernel
theorem dX9_put_13 : decode cX9_put 13 = .ok (.ireturn, 1) := by decide +kernel
theorem dX9_put_14 : decode cX9_put 14 = .ok (.aload_n 0, 1) := by decide +kernel
theorem dX9_put_15 : decode cX9_put 15 = .ok (.getfield 47, 3) := by decide +kernel
theorem dX9_put_18 : decode cX9_put 18 = .ok (.iload_n 1, 1) := by decide +kernel
theorem dX9_put_19 : decode cX9_put 19 = .ok (.aaload, 1) := by decide +kernel
theorem dX9_put_20 : decode cX9_put 20 = .ok (.astore 4, 2) := by decide +kernel
theorem dX9_put_22 : decode cX9_put 22 = .ok (.aload 4, 2) := by decide +kernel
theorem dX9_put_24 : decode cX9_put 24 = .ok (.invokevirtual 244, 3) := by decide +kernel
theorem dX9_put_27 : decode cX9_put 27 = .ok (.ifCond .eq 10, 3) := by decide +kernel
theorem dX9_put_30 : decode cX9_put 30 = .ok (.aload_n 0, 1) := by decide +kernel
theorem dX9_put_31 : decode cX9_put 31 = .ok (.ldc 212, 2) := by decide +kernel
theorem dX9_put_33 : decode cX9_put 33 = .ok (.invokevirtual 65, 3) := by decide +kernel
theorem dX9_put_36 : decode cX9_put 36 = .ok (.ireturn, 1) := by decide +kernel
theorem dX9_put_37 : decode cX9_put 37 = .ok (.iload_n 2, 1) := by decide +kernel
theorem dX9_put_38 : decode cX9_put 38 = .ok (.iconst 0, 1) := by decide +kernel
theorem dX9_put_39 : decode cX9_put 39 = .ok (.aload 4, 2) := by decide +kernel
theorem dX9_put_41 : decode cX9_put 41 = .ok (.getfield 248, 3) := by decide +kernel
theorem dX9_put_44 : decode cX9_put 44 = .ok (.invokevirtual 150, 3) := by decide +kernel
theorem dX9_put_47 : decode cX9_put 47 = .ok (.iconst 1, 1) := by decide +kernel
theorem dX9_put_48 : decode cX9_put 48 = .ok (.isub, 1) := by decide +kernel
theorem dX9_put_49 : decode cX9_put 49 = .ok (.invokestatic 93, 3) := by decide +kernel
theorem dX9_put_52 : decode cX9_put 52 = .ok (.ifCond .ne 10, 3) := by decide +kernel
theorem dX9_put_55 : decode cX9_put 55 = .ok (.aload_n 0, 1) := by decide +kernel
theorem dX9_put_56 : decode cX9_put 56 = .ok (.ldc 64, 2) := by decide +kernel
theorem dX9_put_58 : decode cX9_put 58 = .ok (.invokevirtual 65, 3) := by decide +kernel
theorem dX9_put_61 : decode cX9_put 61 = .ok (.ireturn, 1) := by decide +kernel
theorem dX9_put_62 : decode cX9_put 62 = .ok (.aload 4, 2) := by decide +kernel
theorem dX9_put_64 : decode cX9_put 64 = .ok (.getfield 248, 3) := by decide +kernel
theorem dX9_put_67 : decode cX9_put 67 = .ok (.iload_n 2, 1) := by decide +kernel
theorem dX9_put_68 : decode cX9_put 68 = .ok (.aload 4, 2) := by decide +kernel
theorem dX9_put_70 : decode cX9_put 70 = .ok (.iload_n 3, 1) := by decide +kernel
theorem dX9_put_71 : decode cX9_put 71 = .ok (.invokevirtual 279, 3) := by decide +kernel
theorem dX9_put_74 : decode cX9_put 74 = .ok (.invokevirtual 282, 3) := by decide +kernel
theorem dX9_put_77 : decode cX9_put 77 = .ok (.iconst 1, 1) := by decide +kernel
theorem dX9_put_78 : decode cX9_put 78 = .ok (.ireturn, 1) := by decide +kernel
theorem dX9_move_0 : decode cX9_move 0 = .ok (.iload_n 1, 1) := by decide +kernel
theorem dX9_move_1 : decode cX9_move 1 = .ok (.invokestatic 241, 3) := by decide +kernel
theorem dX9_move_4 : decode cX9_move 4 = .ok (.ifCond .eq 10, 3) := by decide +kernel
theorem dX9_move_7 : decode cX9_move 7 = .ok (.iload_n 3, 1) := by decide +kernel
theorem dX9_move_8 : decode cX9_move 8 = .ok (.invokestatic 241, 3) := by decide +kernel
theorem dX9_move_11 : decode cX9_move 11 = .ok (.ifCond .ne 10, 3) := by decide +kernel
theorem dX9_move_14 : decode cX9_move 14 = .ok (.aload_n 0, 1) := by decide +kernel
theorem dX9_move_15 : decode cX9_move 15 = .ok (.ldc 64, 2) := by decide +kernel
theorem dX9_move_17 : decode cX9_move 17 = .ok (.invokevirtual 65, 3) := by decide +kernel
theorem dX9_move_20 : decode cX9_move 20 = .ok (.ireturn, 1) := by decide +kernel
theorem dX9_move_21 : decode cX9_move 21 = .ok (.aload_n 0, 1) := by decide +kernel
theorem dX9_move_22 : decode cX9_move 22 = .ok (.getfield 47, 3) := by decide +kernel
theorem dX9_move_25 : decode cX9_move 25 = .ok (.iload_n 1, 1) := by decide +kernel
theorem dX9_move_26 : decode cX9_move 26 = .ok (.aaload, 1) := by decide +kernel
theorem dX9_move_27 : decode cX9_move 27 = .ok (.astore 6, 2) := by decide +kernel
theorem dX9_move_29 : decode cX9_move 29 = .ok (.aload_n 0, 1) := by decide +kernel
theorem dX9_move_30 : decode cX9_move 30 = .ok (.getfield 47, 3) := by decide +kernel
theorem dX9_move_33 : decode cX9_move 33 = .ok (.iload_n 3, 1) := by decide +kernel
theorem dX9_move_34 : decode cX9_move 34 = .ok (.aaload, 1) := by decide +kernel
theorem dX9_move_35 : decode cX9_move 35 = .ok (.astore 7, 2) := by decide +kernel
theorem dX9_move_37 : decode cX9_move 37 = .ok (.aload 6, 2) := by decide +kernel
theorem dX9_move_39 : decode cX9_move 39 = .ok (.invokevirtual 244, 3) := by decide +kernel
theorem dX9_move_42 : decode cX9_move 42 = .ok (.ifCond .ne 11, 3) := by decide +kernel
theorem dX9_move_45 : decode cX9_move 45 = .ok (.aload 7, 2) := by decide +kernel
theorem dX9_move_47 : decode cX9_move 47 = .ok (.invokevirtual 244, 3) := by decide +kernel
theorem dX9_move_50 : decode cX9_move 50 = .ok (.ifCond .eq 10, 3) := by decide +kernel
theorem dX9_move_53 : decode cX9_move 53 = .ok (.aload_n 0, 1) := by decide +kernel
theorem dX9_move_54 : decode cX9_move 54 = .ok (.ldc 212, 2) := by decide +kernel
theorem dX9_move_56 : decode cX9_move 56 = .ok (.invokevirtual 65, 3) := by decide +kernel
theorem dX9_move_59 : decode cX9_move 59 = .ok (.ireturn, 1) := by decide +kernel
theorem dX9_move_60 : decode cX9_move 60 = .ok (.aload 6, 2) := by decide +kernel
theorem dX9_move_62 : decode cX9_move 62 = .ok (.getfield 285, 3) := by decide +kernel
theorem dX9_move_65 : decode cX9_move 65 = .ok (.aload 7, 2) := by decide +kernel
theorem dX9_move_67 : decode cX9_move 67 = .ok (.getfield 285, 3) := by decide +kernel
theorem dX9_move_70 : decode cX9_move 70 = .ok (.if_icmp .eq 10, 3) := by decide +kernel
theorem dX9_move_73 : decode cX9_move 73 = .ok (.aload_n 0, 1) := by decide +kernel
theorem dX9_move_74 : decode cX9_move 74 = .ok (.ldc 112, 2) := by decide +kernel
theorem dX9_move_76 : decode cX9_move 76 = .ok (.invokevirtual 65, 3) := by decide +kernel
theorem dX9_move_79 : decode cX9_move 79 = .ok (.ireturn, 1) := by decide +kernel
theorem dX9_move_80 : decode cX9_move 80 = .ok (.aload 6, 2) := by decide +kernel
theorem dX9_move_82 : decode cX9_move 82 = .ok (.getfield 248, 3) := by decide +kernel
theorem dX9_move_85 : decode cX9_move 85 = .ok (.iload_n 2, 1) := by decide +kernel
theorem dX9_move_86 : decode cX9_move 86 = .ok (.iload 5, 2) := by decide +kernel
theorem dX9_move_88 : decode cX9_move 88 = .ok (.invokevirtual 288, 3) := by decide +kernel
theorem dX9_move_91 : decode cX9_move 91 = .ok (.ifCond .eq 18, 3) := by decide +kernel
theorem dX9_move_94 : decode cX9_move 94 = .ok (.aload 7, 2) := by decide +kernel
theorem dX9_move_96 : decode cX9_move 96 = .ok (.getfield 248, 3) := by decide +kernel
theorem dX9_move_99 : decode cX9_move 99 = .ok (.iload 4, 2) := by decide +kernel
theorem dX9_move_101 : decode cX9_move 101 = .ok (.iload 5, 2) := by decide +kernel
theorem dX9_move_103 : decode cX9_move 103 = .ok (.invokevirtual 288, 3) := by decide +kernel
theorem dX9_move_106 : decode cX9_move 106 = .ok (.ifCond .ne 10, 3) := by decide +kernel
theorem dX9_move_109 : decode cX9_move 109 = .ok (.aload_n 0, 1) := by decide +kernel
theorem dX9_move_110 : decode cX9_move 110 = .ok (.ldc 64, 2) := by decide +kernel
theorem dX9_move_112 : decode cX9_move 112 = .ok (.invokevirtual 65, 3) := by decide +kernel
theorem dX9_move_115 : decode cX9_move 115 = .ok (.ireturn, 1) := by decide +kernel
theorem dX9_move_116 : decode cX9_move 116 = .ok (.aload 7, 2) := by decide +kernel
theorem dX9_move_118 : decode cX9_move 118 = .ok (.getfield 248, 3) := by decide +kernel
theorem dX9_move_121 : decode cX9_move 121 = .ok (.aload 6, 2) := by decide +kernel
theorem dX9_move_123 : decode cX9_move 123 = .ok (.getfield 248, 3) := by decide +kernel
theorem dX9_move_126 : decode cX9_move 126 = .ok (.iload_n 2, 1) := by decide +kernel
theorem dX9_move_127 : decode cX9_move 127 = .ok (.iload 4, 2) := by decide +kernel
theorem dX9_move_129 : decode cX9_move 129 = .ok (.iload 5, 2) := by decide +kernel
theorem dX9_move_131 : decode cX9_move 131 = .ok (.invokevirtual 291, 3) := by decide +kernel
theorem dX9_move_134 : decode cX9_move 134 = .ok (.iload 5, 2) := by decide +kernel
theorem dX9_move_136 : decode cX9_move 136 = .ok (.ireturn, 1) := by decide +kernel
theorem dX9_partsAll_0 : decode cX9_partsAll 0 = .ok (.iload_n 1, 1) := by decide +kernel
theorem dX9_partsAll_1 : decode cX9_partsAll 1 = .ok (.invokestatic 241, 3) := by decide +kernel
theorem dX9_partsAll_4 : decode cX9_partsAll 4 = .ok (.ifCond .ne 10, 3) := by decide +kernel
theorem dX9_partsAll_7 : decode cX9_partsAll 7 = .ok (.aload_n 0, 1) := by decide +kernel
theorem dX9_partsAll_8 : decode cX9_partsAll 8 = .ok (.ldc 64, 2) := by decide +kernel
theorem dX9_partsAll_10 : decode cX9_partsAll 10 = .ok (.invokevirtual 65, 3) := by decide +kernel
theorem dX9_partsAll_13 : decode cX9_partsAll 13 = .ok (.ireturn, 1) := by decide +kernel
theorem dX9_partsAll_14 : decode cX9_partsAll 14 = .ok (.aload_n 0, 1) := by decide +kernel
theorem dX9_partsAll_15 : decode cX9_partsAll 15 = .ok (.getfield 47, 3) := by decide +kernel
theorem dX9_partsAll_18 : decode cX9_partsAll 18 = .ok (.iload_n 1, 1) := by decide +kernel
theorem dX9_partsAll_19 : decode cX9_partsAll 19 = .ok (.aaload, 1) := by decide +kernel
theorem dX9_partsAll_20 : decode cX9_partsAll 20 = .ok (.invokevirtual 244, 3) := by decide +kernel
theorem dX9_partsAll_23 : decode cX9_partsAll 23 = .ok (.ifCond .eq 10, 3) := by decide +kernel
theorem dX9_partsAll_26 : decode cX9_partsAll 26 = .ok (.aload_n 0, 1) := by decide +kernel
theorem dX9_partsAll_27 : decode cX9_partsAll 27 = .ok (.ldc 212, 2) := by decide +kernel
theorem dX9_partsAll_29 : decode cX9_partsAll 29 = .ok (.invokevirtual 65, 3) := by decide +kernel
theorem dX9_partsAll_32 : decode cX9_partsAll 32 = .ok (.ireturn, 1) := by decide +kernel
theorem dX9_partsAll_33 : decode cX9_partsAll 33 = .ok (.aload_n 0, 1) := by decide +kernel
theorem dX9_partsAll_34 : decode cX9_partsAll 34 = .ok (.getfield 47, 3) := by decide +kernel
theorem dX9_partsAll_37 : decode cX9_partsAll 37 = .ok (.iload_n 1, 1) := by decide +kernel
theorem dX9_partsAll_38 : decode cX9_partsAll 38 = .ok (.aaload, 1) := by decide +kernel
theorem dX9_partsAll_39 : decode cX9_partsAll 39 = .ok (.getfield 248, 3) := by decide +kernel
theorem dX9_partsAll_42 : decode cX9_partsAll 42 = .ok (.astore_n 2, 1) := by decide +kernel
theorem dX9_partsAll_43 : decode cX9_partsAll 43 = .ok (.iconst 0, 1) := by decide +kernel
theorem dX9_partsAll_44 : decode cX9_partsAll 44 = .ok (.istore_n 3, 1) := by decide +kernel
theorem dX9_partsAll_45 : decode cX9_partsAll 45 = .ok (.iload_n 3, 1) := by decide +kernel
theorem dX9_partsAll_46 : decode cX9_partsAll 46 = .ok (.aload_n 2, 1) := by decide +kernel
theorem dX9_partsAll_47 : decode cX9_partsAll 47 = .ok (.invokevirtual 150, 3) := by decide +kernel
theorem dX9_partsAll_50 : decode cX9_partsAll 50 = .ok (.if_icmp .ge 48, 3) := by decide +kernel
theorem dX9_partsAll_53 : decode cX9_partsAll 53 = .ok (.aload_n 0, 1) := by decide +kernel
theorem dX9_partsAll_54 : decode cX9_partsAll 54 = .ok (.getfield 12, 3) := by decide +kernel
theorem dX9_partsAll_57 : decode cX9_partsAll 57 = .ok (.iload_n 3, 1) := by decide +kernel
theorem dX9_partsAll_58 : decode cX9_partsAll 58 = .ok (.invokevirtual 140, 3) := by decide +kernel
theorem dX9_partsAll_61 : decode cX9_partsAll 61 = .ok (.ifCond .eq 37, 3) := by decide +kernel
theorem dX9_partsAll_64 : decode cX9_partsAll 64 = .ok (.aload_n 2, 1) := by decide +kernel
theorem dX9_partsAll_65 : decode cX9_partsAll 65 = .ok (.iload_n 3, 1) := by decide +kernel
theorem dX9_partsAll_66 : decode cX9_partsAll 66 = .ok (.invokevirtual 272, 3) := by decide +kernel
theorem dX9_partsAll_69 : decode cX9_partsAll 69 = .ok (.invokestatic 113, 3) := by decide +kernel
theorem dX9_partsAll_72 : decode cX9_partsAll 72 = .ok (.ifCond .eq 26, 3) := by decide +kernel
theorem dX9_partsAll_75 : decode cX9_partsAll 75 = .ok (.aload_n 0, 1) := by decide +kernel
theorem dX9_partsAll_76 : decode cX9_partsAll 76 = .ok (.getfield 12, 3) := by decide +kernel
theorem dX9_partsAll_79 : decode cX9_partsAll 79 = .ok (.getfield 125, 3) := by decide +kernel
theorem dX9_partsAll_82 : decode cX9_partsAll 82 = .ok (.iload_n 3, 1) := by decide +kernel
theorem dX9_partsAll_83 : decode cX9_partsAll 83 = .ok (.aaload, 1) := by decide +kernel
theorem dX9_partsAll_84 : decode cX9_partsAll 84 = .ok (.aload_n 2, 1) := by decide +kernel
theorem dX9_partsAll_85 : decode cX9_partsAll 85 = .ok (.iload_n 3, 1) := by decide +kernel
theorem dX9_partsAll_86 : decode cX9_partsAll 86 = .ok (.invokevirtual 272, 3) := by decide +kernel
theorem dX9_partsAll_89 : decode cX9_partsAll 89 = .ok (.putfield 134, 3) := by decide +kernel
theorem dX9_partsAll_92 : decode cX9_partsAll 92 = .ok (.iinc 3 1, 3) := by decide +kernel
theorem dX9_partsAll_95 : decode cX9_partsAll 95 = .ok (.goto (-50), 3) := by decide +kernel
theorem dX9_partsAll_98 : decode cX9_partsAll 98 = .ok (.iload_n 3, 1) := by decide +kernel
theorem dX9_partsAll_99 : decode cX9_partsAll 99 = .ok (.ireturn, 1) := by decide +kernel
theorem dX9_judge_0 : decode cX9_judge 0 = .ok (.iload_n 1, 1) := by decide +kernel
theorem dX9_judge_1 : decode cX9_judge 1 = .ok (.invokestatic 241, 3) := by decide +kernel
theorem dX9_judge_4 : decode cX9_judge 4 = .ok (.ifCond .ne 10, 3) := by decide +kernel
theorem dX9_judge_7 : decode cX9_judge 7 = .ok (.aload_n 0, 1) := by decide +kernel
theorem dX9_judge_8 : decode cX9_judge 8 = .ok (.ldc 64, 2) := by decide +kernel
theorem dX9_judge_10 : decode cX9_judge 10 = .ok (.invokevirtual 65, 3) := by decide +kernel
theorem dX9_judge_13 : decode cX9_judge 13 = .ok (.ireturn, 1) := by decide +kernel
theorem dX9_judge_14 : decode cX9_judge 14 = .ok (.aload_n 0, 1) := by decide +kernel
theorem dX9_judge_15 : decode cX9_judge 15 = .ok (.getfield 47, 3) := by decide +kernel
theorem dX9_judge_18 : decode cX9_judge 18 = .ok (.iload_n 1, 1) := by decide +kernel
theorem dX9_judge_19 : decode cX9_judge 19 = .ok (.aaload, 1) := by decide +kernel
theorem dX9_judge_20 : decode cX9_judge 20 = .ok (.invokevirtual 244, 3) := by decide +kernel
theorem dX9_judge_23 : decode cX9_judge 23 = .ok (.ifCond .eq 10, 3) := by decide +kernel
theorem dX9_judge_26 : decode cX9_judge 26 = .ok (.aload_n 0, 1) := by decide +kernel
theorem dX9_judge_27 : decode cX9_judge 27 = .ok (.ldc 212, 2) := by decide +kernel
theorem dX9_judge_29 : decode cX9_judge 29 = .ok (.invokevirtual 65, 3) := by decide +kernel
theorem dX9_judge_32 : decode cX9_judge 32 = .ok (.ireturn, 1) := by decide +kernel
theorem dX9_judge_33 : decode cX9_judge 33 = .ok (.aload_n 0, 1) := by decide +kernel
theorem dX9_judge_34 : decode cX9_judge 34 = .ok (.getfield 47, 3) := by decide +kernel
theorem dX9_judge_37 : decode cX9_judge 37 = .ok (.iload_n 1, 1) := by decide +kernel
theorem dX9_judge_38 : decode cX9_judge 38 = .ok (.aaload, 1) := by decide +kernel
theorem dX9_judge_39 : decode cX9_judge 39 = .ok (.getfield 248, 3) := by decide +kernel
theorem dX9_judge_42 : decode cX9_judge 42 = .ok (.astore_n 2, 1) := by decide +kernel
theorem dX9_judge_43 : decode cX9_judge 43 = .ok (.iconst 0, 1) := by decide +kernel
theorem dX9_judge_44 : decode cX9_judge 44 = .ok (.istore_n 3, 1) := by decide +kernel
theorem dX9_judge_45 : decode cX9_judge 45 = .ok (.iload_n 3, 1) := by decide +kernel
theorem dX9_judge_46 : decode cX9_judge 46 = .ok (.aload_n 2, 1) := by decide +kernel
theorem dX9_judge_47 : decode cX9_judge 47 = .ok (.invokevirtual 150, 3) := by decide +kernel
theorem dX9_judge_50 : decode cX9_judge 50 = .ok (.if_icmp .ge 33, 3) := by decide +kernel
theorem dX9_judge_53 : decode cX9_judge 53 = .ok (.aload_n 2, 1) := by decide +kernel
theorem dX9_judge_54 : decode cX9_judge 54 = .ok (.iload_n 3, 1) := by decide +kernel
theorem dX9_judge_55 : decode cX9_judge 55 = .ok (.invokevirtual 272, 3) := by decide +kernel
theorem dX9_judge_58 : decode cX9_judge 58 = .ok (.aload_n 0, 1) := by decide +kernel
theorem dX9_judge_59 : decode cX9_judge 59 = .ok (.getfield 12, 3) := by decide +kernel
theorem dX9_judge_62 : decode cX9_judge 62 = .ok (.aload_n 0, 1) := by decide +kernel
theorem dX9_judge_63 : decode cX9_judge 63 = .ok (.getfield 12, 3) := by decide +kernel
theorem dX9_judge_66 : decode cX9_judge 66 = .ok (.getfield 103, 3) := by decide +kernel
theorem dX9_judge_69 : decode cX9_judge 69 = .ok (.iload_n 3, 1) := by decide +kernel
theorem dX9_judge_70 : decode cX9_judge 70 = .ok (.iadd, 1) := by decide +kernel
theorem dX9_judge_71 : decode cX9_judge 71 = .ok (.invokevirtual 143, 3) := by decide +kernel
theorem dX9_judge_74 : decode cX9_judge 74 = .ok (.if_icmp .ne 9, 3) := by decide +kernel
theorem dX9_judge_77 : decode cX9_judge 77 = .ok (.iinc 3 1, 3) := by decide +kernel
theorem dX9_judge_80 : decode cX9_judge 80 = .ok (.goto (-35), 3) := by decide +kernel
theorem dX9_judge_83 : decode cX9_judge 83 = .ok (.iload_n 3, 1) := by decide +kernel
theorem dX9_judge_84 : decode cX9_judge 84 = .ok (.ireturn, 1) := by decide +kernel
theorem dX9_image_0 : decode cX9_image 0 = .ok (.aload_n 0, 1) := by decide +kernel
theorem dX9_image_1 : decode cX9_image 1 = .ok (.getfield 295, 3) := by decide +kernel
theorem dX9_image_4 : decode cX9_image 4 = .ok (.ifnonnull 14, 3) := by decide +kernel
theorem dX9_image_7 : decode cX9_image 7 = .ok (.aload_n 0, 1) := by decide +kernel
theorem dX9_image_8 : decode cX9_image 8 = .ok (.new 9, 3) := by decide +kernel
theorem dX9_image_11 : decode cX9_image 11 = .ok (.dup, 1) := by decide +kernel
theorem dX9_image_12 : decode cX9_image 12 = .ok (.invokespecial 11, 3) := by decide +kernel
theorem dX9_image_15 : decode cX9_image 15 = .ok (.putfield 295, 3) := by decide +kernel
theorem dX9_image_18 : decode cX9_image 18 = .ok (.aload_n 0, 1) := by decide +kernel
theorem dX9_image_19 : decode cX9_image 19 = .ok (.getfield 295, 3) := by decide +kernel
theorem dX9_image_22 : decode cX9_image 22 = .ok (.aload_n 0, 1) := by decide +kernel
theorem dX9_image_23 : decode cX9_image 23 = .ok (.getfield 12, 3) := by decide +kernel
theorem dX9_image_26 : decode cX9_image 26 = .ok (.invokevirtual 298, 3) := by decide +kernel
theorem dX9_image_29 : decode cX9_image 29 = .ok (.aload_n 0, 1) := by decide +kernel
theorem dX9_image_30 : decode cX9_image 30 = .ok (.dup, 1) := by decide +kernel
theorem dX9_image_31 : decode cX9_image 31 = .ok (.getfield 301, 3) := by decide +kernel
theorem dX9_image_34 : decode cX9_image 34 = .ok (.iconst 1, 1) := by decide +kernel
theorem dX9_image_35 : decode cX9_image 35 = .ok (.iadd, 1) := by decide +kernel
theorem dX9_image_36 : decode cX9_image 36 = .ok (.putfield 301, 3) := by decide +kernel
theorem dX9_image_39 : decode cX9_image 39 = .ok (.aload_n 0, 1) := by decide +kernel
theorem dX9_image_40 : decode cX9_image 40 = .ok (.getfield 301, 3) := by decide +kernel
theorem dX9_image_43 : decode cX9_image 43 = .ok (.ireturn, 1) := by decide +kernel
theorem dX9_restore_0 : decode cX9_restore 0 = .ok (.aload_n 0, 1) := by decide +kernel
theorem dX9_restore_1 : decode cX9_restore 1 = .ok (.getfield 295, 3) := by decide +kernel
theorem dX9_restore_4 : decode cX9_restore 4 = .ok (.ifnonnull 10, 3) := by decide +kernel
theorem dX9_restore_7 : decode cX9_restore 7 = .ok (.aload_n 0, 1) := by decide +kernel
theorem dX9_restore_8 : decode cX9_restore 8 = .ok (.ldc 212, 2) := by decide +kernel
theorem dX9_restore_10 : decode cX9_restore 10 = .ok (.invokevirtual 65, 3) := by decide +kernel
theorem dX9_restore_13 : decode cX9_restore 13 = .ok (.ireturn, 1) := by decide +kernel
theorem dX9_restore_14 : decode cX9_restore 14 = .ok (.aload_n 0, 1) := by decide +kernel
theorem dX9_restore_15 : decode cX9_restore 15 = .ok (.getfield 12, 3) := by decide +kernel
theorem dX9_restore_18 : decode cX9_restore 18 = .ok (.aload_n 0, 1) := by decide +kernel
theorem dX9_restore_19 : decode cX9_restore 19 = .ok (.getfield 295, 3) := by decide +kernel
theorem dX9_restore_22 : decode cX9_restore 22 = .ok (.invokevirtual 298, 3) := by decide +kernel
theorem dX9_restore_25 : decode cX9_restore 25 = .ok (.aload_n 0, 1) := by decide +kernel
theorem dX9_restore_26 : decode cX9_restore 26 = .ok (.getfield 12, 3) := by decide +kernel
theorem dX9_restore_29 : decode cX9_restore 29 = .ok (.getfield 103, 3) := by decide +kernel
theorem dX9_restore_32 : decode cX9_restore 32 = .ok (.ireturn, 1) := by decide +kernel
theorem dX9_tell_0 : decode cX9_tell 0 = .ok (.aload_n 0, 1) := by decide +kernel
theorem dX9_tell_1 : decode cX9_tell 1 = .ok (.getfield 12, 3) := by decide +kernel
theorem dX9_tell_4 : decode cX9_tell 4 = .ok (.getfield 304, 3) := by decide +kernel
theorem dX9_tell_7 : decode cX9_tell 7 = .ok (.iload_n 1, 1) := by decide +kernel
theorem dX9_tell_8 : decode cX9_tell 8 = .ok (.invokevirtual 158, 3) := by decide +kernel
theorem dX9_tell_11 : decode cX9_tell 11 = .ok (.ifCond .ne 10, 3) := by decide +kernel
theorem dX9_tell_14 : decode cX9_tell 14 = .ok (.aload_n 0, 1) := by decide +kernel
theorem dX9_tell_15 : decode cX9_tell 15 = .ok (.ldc 73, 2) := by decide +kernel
theorem dX9_tell_17 : decode cX9_tell 17 = .ok (.invokevirtual 65, 3) := by decide +kernel
theorem dX9_tell_20 : decode cX9_tell 20 = .ok (.ireturn, 1) := by decide +kernel
theorem dX9_tell_21 : decode cX9_tell 21 = .ok (.aload_n 0, 1) := by decide +kernel
theorem dX9_tell_22 : decode cX9_tell 22 = .ok (.getfield 12, 3) := by decide +kernel
theorem dX9_tell_25 : decode cX9_tell 25 = .ok (.getfield 304, 3) := by decide +kernel
theorem dX9_tell_28 : decode cX9_tell 28 = .ok (.invokevirtual 150, 3) := by decide +kernel
theorem dX9_tell_31 : decode cX9_tell 31 = .ok (.ireturn, 1) := by decide +kernel
theorem dX9_check_0 : decode cX9_check 0 = .ok (.aload_n 0, 1) := by decide +kernel
theorem dX9_check_1 : decode cX9_check 1 = .ok (.getfield 12, 3) := by decide +kernel
theorem dX9_check_4 : decode cX9_check 4 = .ok (.getfield 304, 3) := by decide +kernel
theorem dX9_check_7 : decode cX9_check 7 = .ok (.astore_n 1, 1) := by decide +kernel
theorem dX9_check_8 : decode cX9_check 8 = .ok (.iconst 0, 1) := by decide +kernel
theorem dX9_check_9 : decode cX9_check 9 = .ok (.istore_n 2, 1) := by decide +kernel
theorem dX9_check_10 : decode cX9_check 10 = .ok (.iload_n 2, 1) := by decide +kernel
theorem dX9_check_11 : decode cX9_check 11 = .ok (.aload_n 1, 1) := by decide +kernel
theorem dX9_check_12 : decode cX9_check 12 = .ok (.invokevirtual 150, 3) := by decide +kernel
theorem dX9_check_15 : decode cX9_check 15 = .ok (.if_icmp .ge 40, 3) := by decide +kernel
theorem dX9_check_18 : decode cX9_check 18 = .ok (.aload_n 0, 1) := by decide +kernel
theorem dX9_check_19 : decode cX9_check 19 = .ok (.getfield 12, 3) := by decide +kernel
theorem dX9_check_22 : decode cX9_check 22 = .ok (.iload_n 2, 1) := by decide +kernel
theorem dX9_check_23 : decode cX9_check 23 = .ok (.invokevirtual 140, 3) := by decide +kernel
theorem dX9_check_26 : decode cX9_check 26 = .ok (.ifCond .eq 29, 3) := by decide +kernel
theorem dX9_check_29 : decode cX9_check 29 = .ok (.aload_n 1, 1) := by decide +kernel
theorem dX9_check_30 : decode cX9_check 30 = .ok (.iload_n 2, 1) := by decide +kernel
theorem dX9_check_31 : decode cX9_check 31 = .ok (.invokevirtual 272, 3) := by decide +kernel
theorem dX9_check_34 : decode cX9_check 34 = .ok (.aload_n 0, 1) := by decide +kernel
theorem dX9_check_35 : decode cX9_check 35 = .ok (.getfield 12, 3) := by decide +kernel
theorem dX9_check_38 : decode cX9_check 38 = .ok (.getfield 125, 3) := by decide +kernel
theorem dX9_check_41 : decode cX9_check 41 = .ok (.iload_n 2, 1) := by decide +kernel
theorem dX9_check_42 : decode cX9_check 42 = .ok (.aaload, 1) := by decide +kernel
theorem dX9_check_43 : decode cX9_check 43 = .ok (.getfield 134, 3) := by decide +kernel
theorem dX9_check_46 : decode cX9_check 46 = .ok (.if_icmp .ne 9, 3) := by decide +kernel
theorem dX9_check_49 : decode cX9_check 49 = .ok (.iinc 2 1, 3) := by decide +kernel
theorem dX9_check_52 : decode cX9_check 52 = .ok (.goto (-42), 3) := by decide +kernel
theorem dX9_check_55 : decode cX9_check 55 = .ok (.iload_n 2, 1) := by decide +kernel
theorem dX9_check_56 : decode cX9_check 56 = .ok (.aload_n 1, 1) := by decide +kernel
theorem dX9_check_57 : decode cX9_check 57 = .ok (.invokevirtual 150, 3) := by decide +kernel
theorem dX9_check_60 : decode cX9_check 60 = .ok (.if_icmp .ne 7, 3) := by decide +kernel
theorem dX9_check_63 : decode cX9_check 63 = .ok (.iconst 1, 1) := by decide +kernel
theorem dX9_check_64 : decode cX9_check 64 = .ok (.goto 4, 3) := by decide +kernel
theorem dX9_check_67 : decode cX9_check 67 = .ok (.iconst 0, 1) := by decide +kernel
theorem dX9_check_68 : decode cX9_check 68 = .ok (.istore_n 3, 1) := by decide +kernel
theorem dX9_check_69 : decode cX9_check 69 = .ok (.aload_n 1, 1) := by decide +kernel
theorem dX9_check_70 : decode cX9_check 70 = .ok (.invokevirtual 167, 3) := by decide +kernel
theorem dX9_check_73 : decode cX9_check 73 = .ok (.iload_n 3, 1) := by decide +kernel
theorem dX9_check_74 : decode cX9_check 74 = .ok (.ifCond .eq 7, 3) := by decide +kernel
theorem dX9_check_77 : decode cX9_check 77 = .ok (.iconst 0, 1) := by decide +kernel
theorem dX9_check_78 : decode cX9_check 78 = .ok (.goto 6, 3) := by decide +kernel
theorem dX9_check_81 : decode cX9_check 81 = .ok (.iconst 1, 1) := by decide +kernel
theorem dX9_check_82 : decode cX9_check 82 = .ok (.iload_n 2, 1) := by decide +kernel
theorem dX9_check_83 : decode cX9_check 83 = .ok (.iadd, 1) := by decide +kernel
theorem dX9_check_84 : decode cX9_check 84 = .ok (.ireturn, 1) := by decide +kernel
theorem dX9_count_0 : decode cX9_count 0 = .ok (.iload_n 1, 1) := by decide +kernel
theorem dX9_count_1 : decode cX9_count 1 = .ok (.tableswitch 120 0 7 #[47, 55, 63, 71, 79, 90, 101, 112], 47) := by decide +kernel
theorem dX9_count_48 : decode cX9_count 48 = .ok (.aload_n 0, 1) := by decide +kernel
theorem dX9_count_49 : decode cX9_count 49 = .ok (.getfield 12, 3) := by decide +kernel
theorem dX9_count_52 : decode cX9_count 52 = .ok (.getfield 69, 3) := by decide +kernel
theorem dX9_count_55 : decode cX9_count 55 = .ok (.ireturn, 1) := by decide +kernel
theorem dX9_count_56 : decode cX9_count 56 = .ok (.aload_n 0, 1) := by decide +kernel
theorem dX9_count_57 : decode cX9_count 57 = .ok (.getfield 12, 3) := by decide +kernel
theorem dX9_count_60 : decode cX9_count 60 = .ok (.getfield 122, 3) := by decide +kernel
theorem dX9_count_63 : decode cX9_count 63 = .ok (.ireturn, 1) := by decide +kernel
theorem dX9_count_64 : decode cX9_count 64 = .ok (.aload_n 0, 1) := by decide +kernel
theorem dX9_count_65 : decode cX9_count 65 = .ok (.getfield 12, 3) := by decide +kernel
theorem dX9_count_68 : decode cX9_count 68 = .ok (.getfield 103, 3) := by decide +kernel
theorem dX9_count_71 : decode cX9_count 71 = .ok (.ireturn, 1) := by decide +kernel
theorem dX9_count_72 : decode cX9_count 72 = .ok (.aload_n 0, 1) := by decide +kernel
theorem dX9_count_73 : decode cX9_count 73 = .ok (.getfield 12, 3) := by decide +kernel
theorem dX9_count_76 : decode cX9_count 76 = .ok (.invokevirtual 307, 3) := by decide +kernel
theorem dX9_count_79 : decode cX9_count 79 = .ok (.ireturn, 1) := by decide +kernel
theorem dX9_count_80 : decode cX9_count 80 = .ok (.aload_n 0, 1) := by decide +kernel
theorem dX9_count_81 : decode cX9_count 81 = .ok (.getfield 12, 3) := by decide +kernel
theorem dX9_count_84 : decode cX9_count 84 = .ok (.getfield 18, 3) := by decide +kernel
theorem dX9_count_87 : decode cX9_count 87 = .ok (.invokevirtual 150, 3) := by decide +kernel
theorem dX9_count_90 : decode cX9_count 90 = .ok (.ireturn, 1) := by decide +kernel
theorem dX9_count_91 : decode cX9_count 91 = .ok (.aload_n 0, 1) := by decide +kernel
theorem dX9_count_92 : decode cX9_count 92 = .ok (.getfield 12, 3) := by decide +kernel
theorem dX9_count_95 : decode cX9_count 95 = .ok (.getfield 304, 3) := by decide +kernel
theorem dX9_count_98 : decode cX9_count 98 = .ok (.invokevirtual 150, 3) := by decide +kernel
theorem dX9_count_101 : decode cX9_count 101 = .ok (.ireturn, 1) := by decide +kernel
theorem dX9_count_102 : decode cX9_count 102 = .ok (.aload_n 0, 1) := by decide +kernel
theorem dX9_count_103 : decode cX9_count 103 = .ok (.getfield 41, 3) := by decide +kernel
theorem dX9_count_106 : decode cX9_count 106 = .ok (.getfield 269, 3) := by decide +kernel
theorem dX9_count_109 : decode cX9_count 109 = .ok (.invokevirtual 150, 3) := by decide +kernel
theorem dX9_count_112 : decode cX9_count 112 = .ok (.ireturn, 1) := by decide +kernel
theorem dX9_count_113 : decode cX9_count 113 = .ok (.aload_n 0, 1) := by decide +kernel
theorem dX9_count_114 : decode cX9_count 114 = .ok (.getfield 12, 3) := by decide +kernel
theorem dX9_count_117 : decode cX9_count 117 = .ok (.getfield 201, 3) := by decide +kernel
theorem dX9_count_120 : decode cX9_count 120 = .ok (.ireturn, 1) := by decide +kernel
theorem dX9_count_121 : decode cX9_count 121 = .ok (.aload_n 0, 1) := by decide +kernel
theorem dX9_count_122 : decode cX9_count 122 = .ok (.ldc 64, 2) := by decide +kernel
theorem dX9_count_124 : decode cX9_count 124 = .ok (.invokevirtual 65, 3) := by decide +kernel
theorem dX9_count_127 : decode cX9_count 127 = .ok (.ireturn, 1) := by decide +kernel
theorem dX9_told_0 : decode cX9_told 0 = .ok (.iload_n 1, 1) := by decide +kernel
theorem dX9_told_1 : decode cX9_told 1 = .ok (.iconst 1, 1) := by decide +kernel
theorem dX9_told_2 : decode cX9_told 2 = .ok (.bipush 6, 2) := by decide +kernel
theorem dX9_told_4 : decode cX9_told 4 = .ok (.invokestatic 93, 3) := by decide +kernel
theorem dX9_told_7 : decode cX9_told 7 = .ok (.ifCond .ne 10, 3) := by decide +kernel
theorem dX9_told_10 : decode cX9_told 10 = .ok (.aload_n 0, 1) := by decide +kernel
theorem dX9_told_11 : decode cX9_told 11 = .ok (.ldc 64, 2) := by decide +kernel
theorem dX9_told_13 : decode cX9_told 13 = .ok (.invokevirtual 65, 3) := by decide +kernel
theorem dX9_told_16 : decode cX9_told 16 = .ok (.ireturn, 1) := by decide +kernel
theorem dX9_told_17 : decode cX9_told 17 = .ok (.aload_n 0, 1) := by decide +kernel
theorem dX9_told_18 : decode cX9_told 18 = .ok (.getfield 51, 3) := by decide +kernel
theorem dX9_told_21 : decode cX9_told 21 = .ok (.iload_n 1, 1) := by decide +kernel
theorem dX9_told_22 : decode cX9_told 22 = .ok (.iaload, 1) := by decide +kernel
theorem dX9_told_23 : decode cX9_told 23 = .ok (.ireturn, 1) := by decide +kernel
theorem dX9_fail_0 : decode cX9_fail 0 = .ok (.ldc_w 310, 3) := by decide +kernel
theorem dX9_fail_3 : decode cX9_fail 3 = .ok (.iload_n 1, 1) := by decide +kernel
theorem dX9_fail_4 : decode cX9_fail 4 = .ok (.isub, 1) := by decide +kernel
theorem dX9_fail_5 : decode cX9_fail 5 = .ok (.istore_n 2, 1) := by decide +kernel
theorem dX9_fail_6 : decode cX9_fail 6 = .ok (.iload_n 2, 1) := by decide +kernel
theorem dX9_fail_7 : decode cX9_fail 7 = .ok (.iconst 1, 1) := by decide +kernel
theorem dX9_fail_8 : decode cX9_fail 8 = .ok (.bipush 6, 2) := by decide +kernel
theorem dX9_fail_10 : decode cX9_fail 10 = .ok (.invokestatic 93, 3) := by decide +kernel
theorem dX9_fail_13 : decode cX9_fail 13 = .ok (.ifCond .eq 13, 3) := by decide +kernel
theorem dX9_fail_16 : decode cX9_fail 16 = .ok (.aload_n 0, 1) := by decide +kernel
theorem dX9_fail_17 : decode cX9_fail 17 = .ok (.getfield 51, 3) := by decide +kernel
end
section
theorem dX9_fail_20 : decode cX9_fail 20 = .ok (.iload_n 2, 1) := by decide +kernel
theorem dX9_fail_21 : decode cX9_fail 21 = .ok (.dup2, 1) := by decide +kernel
theorem dX9_fail_22 : decode cX9_fail 22 = .ok (.iaload, 1) := by decide +kernel
theorem dX9_fail_23 : decode cX9_fail 23 = .ok (.iconst 1, 1) := by decide +kernel
theorem dX9_fail_24 : decode cX9_fail 24 = .ok (.iadd, 1) := by decide +kernel
theorem dX9_fail_25 : decode cX9_fail 25 = .ok (.iastore, 1) := by decide +kernel
theorem dX9_fail_26 : decode cX9_fail 26 = .ok (.iload_n 1, 1) := by decide +kernel
theorem dX9_fail_27 : decode cX9_fail 27 = .ok (.ireturn, 1) := by decide +kernel
theorem dX9_within_0 : decode cX9_within 0 = .ok (.iload_n 0, 1) := by decide +kernel
theorem dX9_within_1 : decode cX9_within 1 = .ok (.iload_n 1, 1) := by decide +kernel
theorem dX9_within_2 : decode cX9_within 2 = .ok (.if_icmp .lt 12, 3) := by decide +kernel
theorem dX9_within_5 : decode cX9_within 5 = .ok (.iload_n 0, 1) := by decide +kernel
theorem dX9_within_6 : decode cX9_within 6 = .ok (.iload_n 2, 1) := by decide +kernel
theorem dX9_within_7 : decode cX9_within 7 = .ok (.if_icmp .gt 7, 3) := by decide +kernel
theorem dX9_within_10 : decode cX9_within 10 = .ok (.iconst 1, 1) := by decide +kernel
theorem dX9_within_11 : decode cX9_within 11 = .ok (.goto 4, 3) := by decide +kernel
theorem dX9_within_14 : decode cX9_within 14 = .ok (.iconst 0, 1) := by decide +kernel
theorem dX9_within_15 : decode cX9_within 15 = .ok (.ireturn, 1) := by decide +kernel
theorem dX9_isKindAndNumber_0 : decode cX9_isKindAndNumber 0 = .ok (.iload_n 0, 1) := by decide +kernel
theorem dX9_isKindAndNumber_1 : decode cX9_isKindAndNumber 1 = .ok (.iconst 0, 1) := by decide +kernel
theorem dX9_isKindAndNumber_2 : decode cX9_isKindAndNumber 2 = .ok (.bipush 69, 2) := by decide +kernel
theorem dX9_isKindAndNumber_4 : decode cX9_isKindAndNumber 4 = .ok (.invokestatic 93, 3) := by decide +kernel
theorem dX9_isKindAndNumber_7 : decode cX9_isKindAndNumber 7 = .ok (.ireturn, 1) := by decide +kernel
theorem dX9_isBeatAndPhase_0 : decode cX9_isBeatAndPhase 0 = .ok (.iload_n 0, 1) := by decide +kernel
theorem dX9_isBeatAndPhase_1 : decode cX9_isBeatAndPhase 1 = .ok (.iconst 1, 1) := by decide +kernel
theorem dX9_isBeatAndPhase_2 : decode cX9_isBeatAndPhase 2 = .ok (.bipush 12, 2) := by decide +kernel
theorem dX9_isBeatAndPhase_4 : decode cX9_isBeatAndPhase 4 = .ok (.invokestatic 93, 3) := by decide +kernel
theorem dX9_isBeatAndPhase_7 : decode cX9_isBeatAndPhase 7 = .ok (.ifCond .eq 18, 3) := by decide +kernel
theorem dX9_isBeatAndPhase_10 : decode cX9_isBeatAndPhase 10 = .ok (.iload_n 1, 1) := by decide +kernel
theorem dX9_isBeatAndPhase_11 : decode cX9_isBeatAndPhase 11 = .ok (.iconst 0, 1) := by decide +kernel
theorem dX9_isBeatAndPhase_12 : decode cX9_isBeatAndPhase 12 = .ok (.iload_n 0, 1) := by decide +kernel
theorem dX9_isBeatAndPhase_13 : decode cX9_isBeatAndPhase 13 = .ok (.iconst 1, 1) := by decide +kernel
theorem dX9_isBeatAndPhase_14 : decode cX9_isBeatAndPhase 14 = .ok (.isub, 1) := by decide +kernel
theorem dX9_isBeatAndPhase_15 : decode cX9_isBeatAndPhase 15 = .ok (.invokestatic 93, 3) := by decide +kernel
theorem dX9_isBeatAndPhase_18 : decode cX9_isBeatAndPhase 18 = .ok (.ifCond .eq 7, 3) := by decide +kernel
theorem dX9_isBeatAndPhase_21 : decode cX9_isBeatAndPhase 21 = .ok (.iconst 1, 1) := by decide +kernel
theorem dX9_isBeatAndPhase_22 : decode cX9_isBeatAndPhase 22 = .ok (.goto 4, 3) := by decide +kernel
theorem dX9_isBeatAndPhase_25 : decode cX9_isBeatAndPhase 25 = .ok (.iconst 0, 1) := by decide +kernel
theorem dX9_isBeatAndPhase_26 : decode cX9_isBeatAndPhase 26 = .ok (.ireturn, 1) := by decide +kernel
theorem dX9_isParts_0 : decode cX9_isParts 0 = .ok (.iload_n 0, 1) := by decide +kernel
theorem dX9_isParts_1 : decode cX9_isParts 1 = .ok (.iconst 0, 1) := by decide +kernel
theorem dX9_isParts_2 : decode cX9_isParts 2 = .ok (.bipush 99, 2) := by decide +kernel
theorem dX9_isParts_4 : decode cX9_isParts 4 = .ok (.invokestatic 93, 3) := by decide +kernel
theorem dX9_isParts_7 : decode cX9_isParts 7 = .ok (.ireturn, 1) := by decide +kernel
theorem dX9_isUse_0 : decode cX9_isUse 0 = .ok (.iload_n 0, 1) := by decide +kernel
theorem dX9_isUse_1 : decode cX9_isUse 1 = .ok (.ifCond .eq 8, 3) := by decide +kernel
theorem dX9_isUse_4 : decode cX9_isUse 4 = .ok (.iload_n 0, 1) := by decide +kernel
theorem dX9_isUse_5 : decode cX9_isUse 5 = .ok (.iconst 1, 1) := by decide +kernel
theorem dX9_isUse_6 : decode cX9_isUse 6 = .ok (.if_icmp .ne 7, 3) := by decide +kernel
theorem dX9_isUse_9 : decode cX9_isUse 9 = .ok (.iconst 1, 1) := by decide +kernel
theorem dX9_isUse_10 : decode cX9_isUse 10 = .ok (.goto 4, 3) := by decide +kernel
theorem dX9_isUse_13 : decode cX9_isUse 13 = .ok (.iconst 0, 1) := by decide +kernel
theorem dX9_isUse_14 : decode cX9_isUse 14 = .ok (.ireturn, 1) := by decide +kernel
theorem dX9_isSheet_0 : decode cX9_isSheet 0 = .ok (.iload_n 0, 1) := by decide +kernel
theorem dX9_isSheet_1 : decode cX9_isSheet 1 = .ok (.iconst 0, 1) := by decide +kernel
theorem dX9_isSheet_2 : decode cX9_isSheet 2 = .ok (.iconst 3, 1) := by decide +kernel
theorem dX9_isSheet_3 : decode cX9_isSheet 3 = .ok (.invokestatic 93, 3) := by decide +kernel
theorem dX9_isSheet_6 : decode cX9_isSheet 6 = .ok (.ireturn, 1) := by decide +kernel
theorem dX9_holds_0 : decode cX9_holds 0 = .ok (.iload_n 0, 1) := by decide +kernel
theorem dX9_holds_1 : decode cX9_holds 1 = .ok (.iload_n 1, 1) := by decide +kernel
theorem dX9_holds_2 : decode cX9_holds 2 = .ok (.ishr, 1) := by decide +kernel
theorem dX9_holds_3 : decode cX9_holds 3 = .ok (.iconst 1, 1) := by decide +kernel
theorem dX9_holds_4 : decode cX9_holds 4 = .ok (.iand, 1) := by decide +kernel
theorem dX9_holds_5 : decode cX9_holds 5 = .ok (.iconst 1, 1) := by decide +kernel
theorem dX9_holds_6 : decode cX9_holds 6 = .ok (.if_icmp .ne 7, 3) := by decide +kernel
theorem dX9_holds_9 : decode cX9_holds 9 = .ok (.iconst 1, 1) := by decide +kernel
theorem dX9_holds_10 : decode cX9_holds 10 = .ok (.goto 4, 3) := by decide +kernel
theorem dX9_holds_13 : decode cX9_holds 13 = .ok (.iconst 0, 1) := by decide +kernel
theorem dX9_holds_14 : decode cX9_holds 14 = .ok (.ireturn, 1) := by decide +kernel
theorem dX9_isUnder_0 : decode cX9_isUnder 0 = .ok (.iload_n 0, 1) := by decide +kernel
theorem dX9_isUnder_1 : decode cX9_isUnder 1 = .ok (.istore_n 2, 1) := by decide +kernel
theorem dX9_isUnder_2 : decode cX9_isUnder 2 = .ok (.iconst 0, 1) := by decide +kernel
theorem dX9_isUnder_3 : decode cX9_isUnder 3 = .ok (.istore_n 3, 1) := by decide +kernel
theorem dX9_isUnder_4 : decode cX9_isUnder 4 = .ok (.iload_n 3, 1) := by decide +kernel
theorem dX9_isUnder_5 : decode cX9_isUnder 5 = .ok (.bipush 7, 2) := by decide +kernel
theorem dX9_isUnder_7 : decode cX9_isUnder 7 = .ok (.if_icmp .ge 30, 3) := by decide +kernel
theorem dX9_isUnder_10 : decode cX9_isUnder 10 = .ok (.iload_n 2, 1) := by decide +kernel
theorem dX9_isUnder_11 : decode cX9_isUnder 11 = .ok (.iload_n 1, 1) := by decide +kernel
theorem dX9_isUnder_12 : decode cX9_isUnder 12 = .ok (.if_icmp .eq 25, 3) := by decide +kernel
theorem dX9_isUnder_15 : decode cX9_isUnder 15 = .ok (.iload_n 2, 1) := by decide +kernel
theorem dX9_isUnder_16 : decode cX9_isUnder 16 = .ok (.iconst 0, 1) := by decide +kernel
theorem dX9_isUnder_17 : decode cX9_isUnder 17 = .ok (.bipush 6, 2) := by decide +kernel
theorem dX9_isUnder_19 : decode cX9_isUnder 19 = .ok (.invokestatic 93, 3) := by decide +kernel
theorem dX9_isUnder_22 : decode cX9_isUnder 22 = .ok (.ifCond .eq 15, 3) := by decide +kernel
theorem dX9_isUnder_25 : decode cX9_isUnder 25 = .ok (.getstatic 311, 3) := by decide +kernel
theorem dX9_isUnder_28 : decode cX9_isUnder 28 = .ok (.iload_n 2, 1) := by decide +kernel
theorem dX9_isUnder_29 : decode cX9_isUnder 29 = .ok (.iaload, 1) := by decide +kernel
theorem dX9_isUnder_30 : decode cX9_isUnder 30 = .ok (.istore_n 2, 1) := by decide +kernel
theorem dX9_isUnder_31 : decode cX9_isUnder 31 = .ok (.iinc 3 1, 3) := by decide +kernel
theorem dX9_isUnder_34 : decode cX9_isUnder 34 = .ok (.goto (-30), 3) := by decide +kernel
theorem dX9_isUnder_37 : decode cX9_isUnder 37 = .ok (.iload_n 2, 1) := by decide +kernel
theorem dX9_isUnder_38 : decode cX9_isUnder 38 = .ok (.iload_n 1, 1) := by decide +kernel
theorem dX9_isUnder_39 : decode cX9_isUnder 39 = .ok (.if_icmp .ne 7, 3) := by decide +kernel
theorem dX9_isUnder_42 : decode cX9_isUnder 42 = .ok (.iconst 1, 1) := by decide +kernel
theorem dX9_isUnder_43 : decode cX9_isUnder 43 = .ok (.goto 4, 3) := by decide +kernel
theorem dX9_isUnder_46 : decode cX9_isUnder 46 = .ok (.iconst 0, 1) := by decide +kernel
theorem dX9_isUnder_47 : decode cX9_isUnder 47 = .ok (.ireturn, 1) := by decide +kernel
theorem dX9_rest_0 : decode cX9_rest 0 = .ok (.iload_n 1, 1) := by decide +kernel
theorem dX9_rest_1 : decode cX9_rest 1 = .ok (.ifCond .le 11, 3) := by decide +kernel
theorem dX9_rest_4 : decode cX9_rest 4 = .ok (.iload_n 0, 1) := by decide +kernel
theorem dX9_rest_5 : decode cX9_rest 5 = .ok (.iload_n 2, 1) := by decide +kernel
theorem dX9_rest_6 : decode cX9_rest 6 = .ok (.iadd, 1) := by decide +kernel
theorem dX9_rest_7 : decode cX9_rest 7 = .ok (.iload_n 1, 1) := by decide +kernel
theorem dX9_rest_8 : decode cX9_rest 8 = .ok (.irem, 1) := by decide +kernel
theorem dX9_rest_9 : decode cX9_rest 9 = .ok (.goto 4, 3) := by decide +kernel
theorem dX9_rest_12 : decode cX9_rest 12 = .ok (.iconst 0, 1) := by decide +kernel
theorem dX9_rest_13 : decode cX9_rest 13 = .ok (.ireturn, 1) := by decide +kernel
theorem dX9_commonDivisor_0 : decode cX9_commonDivisor 0 = .ok (.iload_n 0, 1) := by decide +kernel
theorem dX9_commonDivisor_1 : decode cX9_commonDivisor 1 = .ok (.istore_n 2, 1) := by decide +kernel
theorem dX9_commonDivisor_2 : decode cX9_commonDivisor 2 = .ok (.iload_n 1, 1) := by decide +kernel
theorem dX9_commonDivisor_3 : decode cX9_commonDivisor 3 = .ok (.istore_n 3, 1) := by decide +kernel
theorem dX9_commonDivisor_4 : decode cX9_commonDivisor 4 = .ok (.iconst 0, 1) := by decide +kernel
theorem dX9_commonDivisor_5 : decode cX9_commonDivisor 5 = .ok (.istore 4, 2) := by decide +kernel
theorem dX9_commonDivisor_7 : decode cX9_commonDivisor 7 = .ok (.iload 4, 2) := by decide +kernel
theorem dX9_commonDivisor_9 : decode cX9_commonDivisor 9 = .ok (.bipush 99, 2) := by decide +kernel
theorem dX9_commonDivisor_11 : decode cX9_commonDivisor 11 = .ok (.if_icmp .ge 23, 3) := by decide +kernel
theorem dX9_commonDivisor_14 : decode cX9_commonDivisor 14 = .ok (.iload_n 3, 1) := by decide +kernel
theorem dX9_commonDivisor_15 : decode cX9_commonDivisor 15 = .ok (.ifCond .le 19, 3) := by decide +kernel
theorem dX9_commonDivisor_18 : decode cX9_commonDivisor 18 = .ok (.iload_n 2, 1) := by decide +kernel
theorem dX9_commonDivisor_19 : decode cX9_commonDivisor 19 = .ok (.iload_n 3, 1) := by decide +kernel
theorem dX9_commonDivisor_20 : decode cX9_commonDivisor 20 = .ok (.irem, 1) := by decide +kernel
theorem dX9_commonDivisor_21 : decode cX9_commonDivisor 21 = .ok (.istore 5, 2) := by decide +kernel
theorem dX9_commonDivisor_23 : decode cX9_commonDivisor 23 = .ok (.iload_n 3, 1) := by decide +kernel
theorem dX9_commonDivisor_24 : decode cX9_commonDivisor 24 = .ok (.istore_n 2, 1) := by decide +kernel
theorem dX9_commonDivisor_25 : decode cX9_commonDivisor 25 = .ok (.iload 5, 2) := by decide +kernel
theorem dX9_commonDivisor_27 : decode cX9_commonDivisor 27 = .ok (.istore_n 3, 1) := by decide +kernel
theorem dX9_commonDivisor_28 : decode cX9_commonDivisor 28 = .ok (.iinc 4 1, 3) := by decide +kernel
theorem dX9_commonDivisor_31 : decode cX9_commonDivisor 31 = .ok (.goto (-24), 3) := by decide +kernel
theorem dX9_commonDivisor_34 : decode cX9_commonDivisor 34 = .ok (.iload_n 2, 1) := by decide +kernel
theorem dX9_commonDivisor_35 : decode cX9_commonDivisor 35 = .ok (.ireturn, 1) := by decide +kernel
theorem dX10_init_0 : decode cX10_init 0 = .ok (.aload_n 0, 1) := by decide +kernel
theorem dX10_init_1 : decode cX10_init 1 = .ok (.invokespecial 1, 3) := by decide +kernel
theorem dX10_init_4 : decode cX10_init 4 = .ok (.aload_n 0, 1) := by decide +kernel
theorem dX10_init_5 : decode cX10_init 5 = .ok (.sipush 384, 3) := by decide +kernel
theorem dX10_init_8 : decode cX10_init 8 = .ok (.newarray .int, 2) := by decide +kernel
theorem dX10_init_10 : decode cX10_init 10 = .ok (.putfield 7, 3) := by decide +kernel
theorem dX10_init_13 : decode cX10_init 13 = .ok (.aload_n 0, 1) := by decide +kernel
theorem dX10_init_14 : decode cX10_init 14 = .ok (.sipush 384, 3) := by decide +kernel
theorem dX10_init_17 : decode cX10_init 17 = .ok (.newarray .int, 2) := by decide +kernel
theorem dX10_init_19 : decode cX10_init 19 = .ok (.putfield 13, 3) := by decide +kernel
theorem dX10_init_22 : decode cX10_init 22 = .ok (.aload_n 0, 1) := by decide +kernel
theorem dX10_init_23 : decode cX10_init 23 = .ok (.bipush 50, 2) := by decide +kernel
theorem dX10_init_25 : decode cX10_init 25 = .ok (.newarray .int, 2) := by decide +kernel
theorem dX10_init_27 : decode cX10_init 27 = .ok (.putfield 16, 3) := by decide +kernel
theorem dX10_init_30 : decode cX10_init 30 = .ok (.aload_n 0, 1) := by decide +kernel
theorem dX10_init_31 : decode cX10_init 31 = .ok (.bipush 7, 2) := by decide +kernel
theorem dX10_init_33 : decode cX10_init 33 = .ok (.newarray .int, 2) := by decide +kernel
theorem dX10_init_35 : decode cX10_init 35 = .ok (.putfield 19, 3) := by decide +kernel
theorem dX10_init_38 : decode cX10_init 38 = .ok (.aload_n 0, 1) := by decide +kernel
theorem dX10_init_39 : decode cX10_init 39 = .ok (.bipush 124, 2) := by decide +kernel
theorem dX10_init_41 : decode cX10_init 41 = .ok (.newarray .int, 2) := by decide +kernel
theorem dX10_init_43 : decode cX10_init 43 = .ok (.putfield 22, 3) := by decide +kernel
theorem dX10_init_46 : decode cX10_init 46 = .ok (.aload_n 0, 1) := by decide +kernel
theorem dX10_init_47 : decode cX10_init 47 = .ok (.sipush 128, 3) := by decide +kernel
theorem dX10_init_50 : decode cX10_init 50 = .ok (.newarray .int, 2) := by decide +kernel
theorem dX10_init_52 : decode cX10_init 52 = .ok (.putfield 25, 3) := by decide +kernel
theorem dX10_init_55 : decode cX10_init 55 = .ok (.aload_n 0, 1) := by decide +kernel
theorem dX10_init_56 : decode cX10_init 56 = .ok (.bipush 64, 2) := by decide +kernel
theorem dX10_init_58 : decode cX10_init 58 = .ok (.newarray .int, 2) := by decide +kernel
theorem dX10_init_60 : decode cX10_init 60 = .ok (.putfield 28, 3) := by decide +kernel
theorem dX10_init_63 : decode cX10_init 63 = .ok (.aload_n 0, 1) := by decide +kernel
theorem dX10_init_64 : decode cX10_init 64 = .ok (.bipush 30, 2) := by decide +kernel
theorem dX10_init_66 : decode cX10_init 66 = .ok (.newarray .int, 2) := by decide +kernel
theorem dX10_init_68 : decode cX10_init 68 = .ok (.putfield 31, 3) := by decide +kernel
theorem dX10_init_71 : decode cX10_init 71 = .ok (.aload_n 0, 1) := by decide +kernel
theorem dX10_init_72 : decode cX10_init 72 = .ok (.iconst 4, 1) := by decide +kernel
theorem dX10_init_73 : decode cX10_init 73 = .ok (.newarray .int, 2) := by decide +kernel
theorem dX10_init_75 : decode cX10_init 75 = .ok (.putfield 34, 3) := by decide +kernel
theorem dX10_init_78 : decode cX10_init 78 = .ok (.aload_n 0, 1) := by decide +kernel
theorem dX10_init_79 : decode cX10_init 79 = .ok (.iconst 4, 1) := by decide +kernel
theorem dX10_init_80 : decode cX10_init 80 = .ok (.newarray .int, 2) := by decide +kernel
theorem dX10_init_82 : decode cX10_init 82 = .ok (.putfield 37, 3) := by decide +kernel
theorem dX10_init_85 : decode cX10_init 85 = .ok (.aload_n 0, 1) := by decide +kernel
theorem dX10_init_86 : decode cX10_init 86 = .ok (.bipush 96, 2) := by decide +kernel
theorem dX10_init_88 : decode cX10_init 88 = .ok (.newarray .int, 2) := by decide +kernel
theorem dX10_init_90 : decode cX10_init 90 = .ok (.putfield 40, 3) := by decide +kernel
theorem dX10_init_93 : decode cX10_init 93 = .ok (.aload_n 0, 1) := by decide +kernel
theorem dX10_init_94 : decode cX10_init 94 = .ok (.bipush 24, 2) := by decide +kernel
theorem dX10_init_96 : decode cX10_init 96 = .ok (.newarray .int, 2) := by decide +kernel
theorem dX10_init_98 : decode cX10_init 98 = .ok (.putfield 43, 3) := by decide +kernel
theorem dX10_init_101 : decode cX10_init 101 = .ok (.aload_n 0, 1) := by decide +kernel
theorem dX10_init_102 : decode cX10_init 102 = .ok (.getfield 7, 3) := by decide +kernel
theorem dX10_init_105 : decode cX10_init 105 = .ok (.iconst 1, 1) := by decide +kernel
theorem dX10_init_106 : decode cX10_init 106 = .ok (.iconst 1, 1) := by decide +kernel
theorem dX10_init_107 : decode cX10_init 107 = .ok (.iastore, 1) := by decide +kernel
theorem dX10_init_108 : decode cX10_init 108 = .ok (.return_, 1) := by decide +kernel
theorem dX10_error_0 : decode cX10_error 0 = .ok (.aload_n 0, 1) := by decide +kernel
theorem dX10_error_1 : decode cX10_error 1 = .ok (.getfield 19, 3) := by decide +kernel
theorem dX10_error_4 : decode cX10_error 4 = .ok (.iload_n 1, 1) := by decide +kernel
theorem dX10_error_5 : decode cX10_error 5 = .ok (.dup2, 1) := by decide +kernel
theorem dX10_error_6 : decode cX10_error 6 = .ok (.iaload, 1) := by decide +kernel
theorem dX10_error_7 : decode cX10_error 7 = .ok (.iconst 1, 1) := by decide +kernel
theorem dX10_error_8 : decode cX10_error 8 = .ok (.iadd, 1) := by decide +kernel
theorem dX10_error_9 : decode cX10_error 9 = .ok (.iastore, 1) := by decide +kernel
theorem dX10_error_10 : decode cX10_error 10 = .ok (.ldc 46, 2) := by decide +kernel
theorem dX10_error_12 : decode cX10_error 12 = .ok (.iload_n 1, 1) := by decide +kernel
theorem dX10_error_13 : decode cX10_error 13 = .ok (.isub, 1) := by decide +kernel
theorem dX10_error_14 : decode cX10_error 14 = .ok (.ireturn, 1) := by decide +kernel
theorem dX10_in_0 : decode cX10_in 0 = .ok (.iload_n 0, 1) := by decide +kernel
theorem dX10_in_1 : decode cX10_in 1 = .ok (.iload_n 1, 1) := by decide +kernel
theorem dX10_in_2 : decode cX10_in 2 = .ok (.if_icmp .lt 12, 3) := by decide +kernel
theorem dX10_in_5 : decode cX10_in 5 = .ok (.iload_n 0, 1) := by decide +kernel
theorem dX10_in_6 : decode cX10_in 6 = .ok (.iload_n 2, 1) := by decide +kernel
theorem dX10_in_7 : decode cX10_in 7 = .ok (.if_icmp .gt 7, 3) := by decide +kernel
theorem dX10_in_10 : decode cX10_in 10 = .ok (.iconst 1, 1) := by decide +kernel
theorem dX10_in_11 : decode cX10_in 11 = .ok (.goto 4, 3) := by decide +kernel
theorem dX10_in_14 : decode cX10_in 14 = .ok (.iconst 0, 1) := by decide +kernel
theorem dX10_in_15 : decode cX10_in 15 = .ok (.ireturn, 1) := by decide +kernel
theorem dX10_held_0 : decode cX10_held 0 = .ok (.iload_n 0, 1) := by decide +kernel
theorem dX10_held_1 : decode cX10_held 1 = .ok (.iload_n 1, 1) := by decide +kernel
theorem dX10_held_2 : decode cX10_held 2 = .ok (.if_icmp .ge 7, 3) := by decide +kernel
theorem dX10_held_5 : decode cX10_held 5 = .ok (.iload_n 1, 1) := by decide +kernel
theorem dX10_held_6 : decode cX10_held 6 = .ok (.goto 13, 3) := by decide +kernel
theorem dX10_held_9 : decode cX10_held 9 = .ok (.iload_n 0, 1) := by decide +kernel
theorem dX10_held_10 : decode cX10_held 10 = .ok (.iload_n 2, 1) := by decide +kernel
theorem dX10_held_11 : decode cX10_held 11 = .ok (.if_icmp .le 7, 3) := by decide +kernel
theorem dX10_held_14 : decode cX10_held 14 = .ok (.iload_n 2, 1) := by decide +kernel
theorem dX10_held_15 : decode cX10_held 15 = .ok (.goto 4, 3) := by decide +kernel
theorem dX10_held_18 : decode cX10_held 18 = .ok (.iload_n 0, 1) := by decide +kernel
theorem dX10_held_19 : decode cX10_held 19 = .ok (.ireturn, 1) := by decide +kernel
theorem dX10_copyAll_0 : decode cX10_copyAll 0 = .ok (.iconst 0, 1) := by decide +kernel
theorem dX10_copyAll_1 : decode cX10_copyAll 1 = .ok (.istore_n 2, 1) := by decide +kernel
theorem dX10_copyAll_2 : decode cX10_copyAll 2 = .ok (.iload_n 2, 1) := by decide +kernel
theorem dX10_copyAll_3 : decode cX10_copyAll 3 = .ok (.sipush 384, 3) := by decide +kernel
theorem dX10_copyAll_6 : decode cX10_copyAll 6 = .ok (.if_icmp .ge 15, 3) := by decide +kernel
theorem dX10_copyAll_9 : decode cX10_copyAll 9 = .ok (.aload_n 1, 1) := by decide +kernel
theorem dX10_copyAll_10 : decode cX10_copyAll 10 = .ok (.iload_n 2, 1) := by decide +kernel
theorem dX10_copyAll_11 : decode cX10_copyAll 11 = .ok (.aload_n 0, 1) := by decide +kernel
theorem dX10_copyAll_12 : decode cX10_copyAll 12 = .ok (.iload_n 2, 1) := by decide +kernel
theorem dX10_copyAll_13 : decode cX10_copyAll 13 = .ok (.iaload, 1) := by decide +kernel
theorem dX10_copyAll_14 : decode cX10_copyAll 14 = .ok (.iastore, 1) := by decide +kernel
theorem dX10_copyAll_15 : decode cX10_copyAll 15 = .ok (.iinc 2 1, 3) := by decide +kernel
theorem dX10_copyAll_18 : decode cX10_copyAll 18 = .ok (.goto (-16), 3) := by decide +kernel
theorem dX10_copyAll_21 : decode cX10_copyAll 21 = .ok (.return_, 1) := by decide +kernel
theorem dX10_layDown_0 : decode cX10_layDown 0 = .ok (.iconst 0, 1) := by decide +kernel
theorem dX10_layDown_1 : decode cX10_layDown 1 = .ok (.istore_n 1, 1) := by decide +kernel
theorem dX10_layDown_2 : decode cX10_layDown 2 = .ok (.iload_n 1, 1) := by decide +kernel
theorem dX10_layDown_3 : decode cX10_layDown 3 = .ok (.bipush 50, 2) := by decide +kernel
theorem dX10_layDown_5 : decode cX10_layDown 5 = .ok (.if_icmp .ge 21, 3) := by decide +kernel
theorem dX10_layDown_8 : decode cX10_layDown 8 = .ok (.aload_n 0, 1) := by decide +kernel
theorem dX10_layDown_9 : decode cX10_layDown 9 = .ok (.getfield 16, 3) := by decide +kernel
theorem dX10_layDown_12 : decode cX10_layDown 12 = .ok (.iload_n 1, 1) := by decide +kernel
theorem dX10_layDown_13 : decode cX10_layDown 13 = .ok (.aload_n 0, 1) := by decide +kernel
theorem dX10_layDown_14 : decode cX10_layDown 14 = .ok (.getfield 7, 3) := by decide +kernel
theorem dX10_layDown_17 : decode cX10_layDown 17 = .ok (.iload_n 1, 1) := by decide +kernel
theorem dX10_layDown_18 : decode cX10_layDown 18 = .ok (.iaload, 1) := by decide +kernel
theorem dX10_layDown_19 : decode cX10_layDown 19 = .ok (.iastore, 1) := by decide +kernel
theorem dX10_layDown_20 : decode cX10_layDown 20 = .ok (.iinc 1 1, 3) := by decide +kernel
theorem dX10_layDown_23 : decode cX10_layDown 23 = .ok (.goto (-21), 3) := by decide +kernel
theorem dX10_layDown_26 : decode cX10_layDown 26 = .ok (.return_, 1) := by decide +kernel
theorem dX10_layBack_0 : decode cX10_layBack 0 = .ok (.iconst 0, 1) := by decide +kernel
theorem dX10_layBack_1 : decode cX10_layBack 1 = .ok (.istore_n 1, 1) := by decide +kernel
theorem dX10_layBack_2 : decode cX10_layBack 2 = .ok (.iload_n 1, 1) := by decide +kernel
theorem dX10_layBack_3 : decode cX10_layBack 3 = .ok (.bipush 50, 2) := by decide +kernel
theorem dX10_layBack_5 : decode cX10_layBack 5 = .ok (.if_icmp .ge 21, 3) := by decide +kernel
theorem dX10_layBack_8 : decode cX10_layBack 8 = .ok (.aload_n 0, 1) := by decide +kernel
theorem dX10_layBack_9 : decode cX10_layBack 9 = .ok (.getfield 7, 3) := by decide +kernel
theorem dX10_layBack_12 : decode cX10_layBack 12 = .ok (.iload_n 1, 1) := by decide +kernel
theorem dX10_layBack_13 : decode cX10_layBack 13 = .ok (.aload_n 0, 1) := by decide +kernel
theorem dX10_layBack_14 : decode cX10_layBack 14 = .ok (.getfield 16, 3) := by decide +kernel
theorem dX10_layBack_17 : decode cX10_layBack 17 = .ok (.iload_n 1, 1) := by decide +kernel
theorem dX10_layBack_18 : decode cX10_layBack 18 = .ok (.iaload, 1) := by decide +kernel
theorem dX10_layBack_19 : decode cX10_layBack 19 = .ok (.iastore, 1) := by decide +kernel
theorem dX10_layBack_20 : decode cX10_layBack 20 = .ok (.iinc 1 1, 3) := by decide +kernel
theorem dX10_layBack_23 : decode cX10_layBack 23 = .ok (.goto (-21), 3) := by decide +kernel
theorem dX10_layBack_26 : decode cX10_layBack 26 = .ok (.return_, 1) := by decide +kernel
theorem dX10_isPerson_0 : decode cX10_isPerson 0 = .ok (.iload_n 1, 1) := by decide +kernel
theorem dX10_isPerson_1 : decode cX10_isPerson 1 = .ok (.iconst 0, 1) := by decide +kernel
theorem dX10_isPerson_2 : decode cX10_isPerson 2 = .ok (.aload_n 0, 1) := by decide +kernel
theorem dX10_isPerson_3 : decode cX10_isPerson 3 = .ok (.getfield 7, 3) := by decide +kernel
theorem dX10_isPerson_6 : decode cX10_isPerson 6 = .ok (.iconst 4, 1) := by decide +kernel
theorem dX10_isPerson_7 : decode cX10_isPerson 7 = .ok (.iaload, 1) := by decide +kernel
theorem dX10_isPerson_8 : decode cX10_isPerson 8 = .ok (.iconst 1, 1) := by decide +kernel
theorem dX10_isPerson_9 : decode cX10_isPerson 9 = .ok (.isub, 1) := by decide +kernel
theorem dX10_isPerson_10 : decode cX10_isPerson 10 = .ok (.invokestatic 47, 3) := by decide +kernel
theorem dX10_isPerson_13 : decode cX10_isPerson 13 = .ok (.ireturn, 1) := by decide +kernel
theorem dX10_isDoing_0 : decode cX10_isDoing 0 = .ok (.iload_n 1, 1) := by decide +kernel
theorem dX10_isDoing_1 : decode cX10_isDoing 1 = .ok (.iconst 0, 1) := by decide +kernel
theorem dX10_isDoing_2 : decode cX10_isDoing 2 = .ok (.aload_n 0, 1) := by decide +kernel
theorem dX10_isDoing_3 : decode cX10_isDoing 3 = .ok (.getfield 7, 3) := by decide +kernel
theorem dX10_isDoing_6 : decode cX10_isDoing 6 = .ok (.iconst 5, 1) := by decide +kernel
theorem dX10_isDoing_7 : decode cX10_isDoing 7 = .ok (.iaload, 1) := by decide +kernel
theorem dX10_isDoing_8 : decode cX10_isDoing 8 = .ok (.iconst 1, 1) := by decide +kernel
theorem dX10_isDoing_9 : decode cX10_isDoing 9 = .ok (.isub, 1) := by decide +kernel
theorem dX10_isDoing_10 : decode cX10_isDoing 10 = .ok (.invokestatic 47, 3) := by decide +kernel
theorem dX10_isDoing_13 : decode cX10_isDoing 13 = .ok (.ireturn, 1) := by decide +kernel
theorem dX10_isSet_0 : decode cX10_isSet 0 = .ok (.iload_n 1, 1) := by decide +kernel
theorem dX10_isSet_1 : decode cX10_isSet 1 = .ok (.iconst 0, 1) := by decide +kernel
theorem dX10_isSet_2 : decode cX10_isSet 2 = .ok (.iconst 1, 1) := by decide +kernel
theorem dX10_isSet_3 : decode cX10_isSet 3 = .ok (.aload_n 0, 1) := by decide +kernel
theorem dX10_isSet_4 : decode cX10_isSet 4 = .ok (.getfield 7, 3) := by decide +kernel
theorem dX10_isSet_7 : decode cX10_isSet 7 = .ok (.iconst 4, 1) := by decide +kernel
theorem dX10_isSet_8 : decode cX10_isSet 8 = .ok (.iaload, 1) := by decide +kernel
theorem dX10_isSet_9 : decode cX10_isSet 9 = .ok (.ishl, 1) := by decide +kernel
theorem dX10_isSet_10 : decode cX10_isSet 10 = .ok (.iconst 1, 1) := by decide +kernel
theorem dX10_isSet_11 : decode cX10_isSet 11 = .ok (.isub, 1) := by decide +kernel
theorem dX10_isSet_12 : decode cX10_isSet 12 = .ok (.invokestatic 47, 3) := by decide +kernel
theorem dX10_isSet_15 : decode cX10_isSet 15 = .ok (.ireturn, 1) := by decide +kernel
theorem dX10_its_0 : decode cX10_its 0 = .ok (.aload_n 0, 1) := by decide +kernel
theorem dX10_its_1 : decode cX10_its 1 = .ok (.getfield 7, 3) := by decide +kernel
theorem dX10_its_4 : decode cX10_its 4 = .ok (.bipush 8, 2) := by decide +kernel
theorem dX10_its_6 : decode cX10_its 6 = .ok (.iconst 4, 1) := by decide +kernel
theorem dX10_its_7 : decode cX10_its 7 = .ok (.iload_n 1, 1) := by decide +kernel
theorem dX10_its_8 : decode cX10_its 8 = .ok (.imul, 1) := by decide +kernel
theorem dX10_its_9 : decode cX10_its 9 = .ok (.iadd, 1) := by decide +kernel
theorem dX10_its_10 : decode cX10_its 10 = .ok (.iload_n 2, 1) := by decide +kernel
theorem dX10_its_11 : decode cX10_its 11 = .ok (.iadd, 1) := by decide +kernel
theorem dX10_its_12 : decode cX10_its 12 = .ok (.iaload, 1) := by decide +kernel
theorem dX10_its_13 : decode cX10_its 13 = .ok (.ireturn, 1) := by decide +kernel
theorem dX10_lays1_0 : decode cX10_lays1 0 = .ok (.aload_n 0, 1) := by decide +kernel
theorem dX10_lays1_1 : decode cX10_lays1 1 = .ok (.getfield 7, 3) := by decide +kernel
theorem dX10_lays1_4 : decode cX10_lays1 4 = .ok (.bipush 8, 2) := by decide +kernel
theorem dX10_lays1_6 : decode cX10_lays1 6 = .ok (.iconst 4, 1) := by decide +kernel
theorem dX10_lays1_7 : decode cX10_lays1 7 = .ok (.iload_n 1, 1) := by decide +kernel
theorem dX10_lays1_8 : decode cX10_lays1 8 = .ok (.imul, 1) := by decide +kernel
theorem dX10_lays1_9 : decode cX10_lays1 9 = .ok (.iadd, 1) := by decide +kernel
theorem dX10_lays1_10 : decode cX10_lays1 10 = .ok (.iload_n 2, 1) := by decide +kernel
theorem dX10_lays1_11 : decode cX10_lays1 11 = .ok (.iadd, 1) := by decide +kernel
theorem dX10_lays1_12 : decode cX10_lays1 12 = .ok (.iload_n 3, 1) := by decide +kernel
theorem dX10_lays1_13 : decode cX10_lays1 13 = .ok (.iastore, 1) := by decide +kernel
theorem dX10_lays1_14 : decode cX10_lays1 14 = .ok (.return_, 1) := by decide +kernel
theorem dX10_ofDoing_0 : decode cX10_ofDoing 0 = .ok (.aload_n 0, 1) := by decide +kernel
theorem dX10_ofDoing_1 : decode cX10_ofDoing 1 = .ok (.getfield 7, 3) := by decide +kernel
theorem dX10_ofDoing_4 : decode cX10_ofDoing 4 = .ok (.bipush 32, 2) := by decide +kernel
theorem dX10_ofDoing_6 : decode cX10_ofDoing 6 = .ok (.iconst 3, 1) := by decide +kernel
theorem dX10_ofDoing_7 : decode cX10_ofDoing 7 = .ok (.iload_n 1, 1) := by decide +kernel
theorem dX10_ofDoing_8 : decode cX10_ofDoing 8 = .ok (.imul, 1) := by decide +kernel
theorem dX10_ofDoing_9 : decode cX10_ofDoing 9 = .ok (.iadd, 1) := by decide +kernel
theorem dX10_ofDoing_10 : decode cX10_ofDoing 10 = .ok (.iload_n 2, 1) := by decide +kernel
theorem dX10_ofDoing_11 : decode cX10_ofDoing 11 = .ok (.iadd, 1) := by decide +kernel
theorem dX10_ofDoing_12 : decode cX10_ofDoing 12 = .ok (.iaload, 1) := by decide +kernel
theorem dX10_ofDoing_13 : decode cX10_ofDoing 13 = .ok (.ireturn, 1) := by decide +kernel
theorem dX10_laysDoing_0 : decode cX10_laysDoing 0 = .ok (.aload_n 0, 1) := by decide +kernel
theorem dX10_laysDoing_1 : decode cX10_laysDoing 1 = .ok (.getfield 7, 3) := by decide +kernel
theorem dX10_laysDoing_4 : decode cX10_laysDoing 4 = .ok (.bipush 32, 2) := by decide +kernel
theorem dX10_laysDoing_6 : decode cX10_laysDoing 6 = .ok (.iconst 3, 1) := by decide +kernel
theorem dX10_laysDoing_7 : decode cX10_laysDoing 7 = .ok (.iload_n 1, 1) := by decide +kernel
theorem dX10_laysDoing_8 : decode cX10_laysDoing 8 = .ok (.imul, 1) := by decide +kernel
theorem dX10_laysDoing_9 : decode cX10_laysDoing 9 = .ok (.iadd, 1) := by decide +kernel
theorem dX10_laysDoing_10 : decode cX10_laysDoing 10 = .ok (.iload_n 2, 1) := by decide +kernel
theorem dX10_laysDoing_11 : decode cX10_laysDoing 11 = .ok (.iadd, 1) := by decide +kernel
theorem dX10_laysDoing_12 : decode cX10_laysDoing 12 = .ok (.iload_n 3, 1) := by decide +kernel
theorem dX10_laysDoing_13 : decode cX10_laysDoing 13 = .ok (.iastore, 1) := by decide +kernel
theorem dX10_laysDoing_14 : decode cX10_laysDoing 14 = .ok (.return_, 1) := by decide +kernel
theorem dX10_change1_0 : decode cX10_change1 0 = .ok (.aload_n 0, 1) := by decide +kernel
theorem dX10_change1_1 : decode cX10_change1 1 = .ok (.getfield 7, 3) := by decide +kernel
theorem dX10_change1_4 : decode cX10_change1 4 = .ok (.iload_n 1, 1) := by decide +kernel
theorem dX10_change1_5 : decode cX10_change1 5 = .ok (.iaload, 1) := by decide +kernel
theorem dX10_change1_6 : decode cX10_change1 6 = .ok (.istore_n 3, 1) := by decide +kernel
theorem dX10_change1_7 : decode cX10_change1 7 = .ok (.aload_n 0, 1) := by decide +kernel
theorem dX10_change1_8 : decode cX10_change1 8 = .ok (.getfield 7, 3) := by decide +kernel
theorem dX10_change1_11 : decode cX10_change1 11 = .ok (.iload_n 1, 1) := by decide +kernel
theorem dX10_change1_12 : decode cX10_change1 12 = .ok (.iload_n 2, 1) := by decide +kernel
theorem dX10_change1_13 : decode cX10_change1 13 = .ok (.iastore, 1) := by decide +kernel
theorem dX10_change1_14 : decode cX10_change1 14 = .ok (.iload_n 3, 1) := by decide +kernel
theorem dX10_change1_15 : decode cX10_change1 15 = .ok (.ireturn, 1) := by decide +kernel
theorem dX10_manyIn_0 : decode cX10_manyIn 0 = .ok (.iconst 0, 1) := by decide +kernel
theorem dX10_manyIn_1 : decode cX10_manyIn 1 = .ok (.istore_n 1, 1) := by decide +kernel
theorem dX10_manyIn_2 : decode cX10_manyIn 2 = .ok (.iconst 0, 1) := by decide +kernel
theorem dX10_manyIn_3 : decode cX10_manyIn 3 = .ok (.istore_n 2, 1) := by decide +kernel
theorem dX10_manyIn_4 : decode cX10_manyIn 4 = .ok (.iload_n 2, 1) := by decide +kernel
theorem dX10_manyIn_5 : decode cX10_manyIn 5 = .ok (.bipush 6, 2) := by decide +kernel
theorem dX10_manyIn_7 : decode cX10_manyIn 7 = .ok (.if_icmp .ge 17, 3) := by decide +kernel
theorem dX10_manyIn_10 : decode cX10_manyIn 10 = .ok (.iload_n 1, 1) := by decide +kernel
theorem dX10_manyIn_11 : decode cX10_manyIn 11 = .ok (.iload_n 0, 1) := by decide +kernel
theorem dX10_manyIn_12 : decode cX10_manyIn 12 = .ok (.iload_n 2, 1) := by decide +kernel
theorem dX10_manyIn_13 : decode cX10_manyIn 13 = .ok (.ishr, 1) := by decide +kernel
theorem dX10_manyIn_14 : decode cX10_manyIn 14 = .ok (.iconst 1, 1) := by decide +kernel
theorem dX10_manyIn_15 : decode cX10_manyIn 15 = .ok (.iand, 1) := by decide +kernel
theorem dX10_manyIn_16 : decode cX10_manyIn 16 = .ok (.iadd, 1) := by decide +kernel
theorem dX10_manyIn_17 : decode cX10_manyIn 17 = .ok (.istore_n 1, 1) := by decide +kernel
theorem dX10_manyIn_18 : decode cX10_manyIn 18 = .ok (.iinc 2 1, 3) := by decide +kernel
theorem dX10_manyIn_21 : decode cX10_manyIn 21 = .ok (.goto (-17), 3) := by decide +kernel
theorem dX10_manyIn_24 : decode cX10_manyIn 24 = .ok (.iload_n 1, 1) := by decide +kernel
theorem dX10_manyIn_25 : decode cX10_manyIn 25 = .ok (.ireturn, 1) := by decide +kernel
theorem dX10_feed_0 : decode cX10_feed 0 = .ok (.iload_n 3, 1) := by decide +kernel
theorem dX10_feed_1 : decode cX10_feed 1 = .ok (.iconst 1, 1) := by decide +kernel
theorem dX10_feed_2 : decode cX10_feed 2 = .ok (.bipush 8, 2) := by decide +kernel
theorem dX10_feed_4 : decode cX10_feed 4 = .ok (.invokestatic 47, 3) := by decide +kernel
theorem dX10_feed_7 : decode cX10_feed 7 = .ok (.ifCond .ne 9, 3) := by decide +kernel
theorem dX10_feed_10 : decode cX10_feed 10 = .ok (.aload_n 0, 1) := by decide +kernel
theorem dX10_feed_11 : decode cX10_feed 11 = .ok (.iconst 1, 1) := by decide +kernel
theorem dX10_feed_12 : decode cX10_feed 12 = .ok (.invokevirtual 51, 3) := by decide +kernel
theorem dX10_feed_15 : decode cX10_feed 15 = .ok (.ireturn, 1) := by decide +kernel
theorem dX10_feed_16 : decode cX10_feed 16 = .ok (.aload_n 0, 1) := by decide +kernel
theorem dX10_feed_17 : decode cX10_feed 17 = .ok (.getfield 7, 3) := by decide +kernel
theorem dX10_feed_20 : decode cX10_feed 20 = .ok (.iconst 2, 1) := by decide +kernel
theorem dX10_feed_21 : decode cX10_feed 21 = .ok (.iaload, 1) := by decide +kernel
theorem dX10_feed_22 : decode cX10_feed 22 = .ok (.iload_n 3, 1) := by decide +kernel
theorem dX10_feed_23 : decode cX10_feed 23 = .ok (.iadd, 1) := by decide +kernel
theorem dX10_feed_24 : decode cX10_feed 24 = .ok (.bipush 60, 2) := by decide +kernel
theorem dX10_feed_26 : decode cX10_feed 26 = .ok (.if_icmp .le 9, 3) := by decide +kernel
theorem dX10_feed_29 : decode cX10_feed 29 = .ok (.aload_n 0, 1) := by decide +kernel
theorem dX10_feed_30 : decode cX10_feed 30 = .ok (.iconst 4, 1) := by decide +kernel
theorem dX10_feed_31 : decode cX10_feed 31 = .ok (.invokevirtual 51, 3) := by decide +kernel
theorem dX10_feed_34 : decode cX10_feed 34 = .ok (.ireturn, 1) := by decide +kernel
theorem dX10_feed_35 : decode cX10_feed 35 = .ok (.iconst 0, 1) := by decide +kernel
theorem dX10_feed_36 : decode cX10_feed 36 = .ok (.istore 4, 2) := by decide +kernel
theorem dX10_feed_38 : decode cX10_feed 38 = .ok (.iload 4, 2) := by decide +kernel
theorem dX10_feed_40 : decode cX10_feed 40 = .ok (.iload_n 3, 1) := by decide +kernel
theorem dX10_feed_41 : decode cX10_feed 41 = .ok (.if_icmp .ge 46, 3) := by decide +kernel
theorem dX10_feed_44 : decode cX10_feed 44 = .ok (.aload_n 0, 1) := by decide +kernel
theorem dX10_feed_45 : decode cX10_feed 45 = .ok (.getfield 7, 3) := by decide +kernel
theorem dX10_feed_48 : decode cX10_feed 48 = .ok (.sipush 300, 3) := by decide +kernel
theorem dX10_feed_51 : decode cX10_feed 51 = .ok (.aload_n 0, 1) := by decide +kernel
theorem dX10_feed_52 : decode cX10_feed 52 = .ok (.getfield 7, 3) := by decide +kernel
theorem dX10_feed_55 : decode cX10_feed 55 = .ok (.iconst 2, 1) := by decide +kernel
theorem dX10_feed_56 : decode cX10_feed 56 = .ok (.iaload, 1) := by decide +kernel
theorem dX10_feed_57 : decode cX10_feed 57 = .ok (.iadd, 1) := by decide +kernel
theorem dX10_feed_58 : decode cX10_feed 58 = .ok (.lload_n 1, 1) := by decide +kernel
theorem dX10_feed_59 : decode cX10_feed 59 = .ok (.bipush 8, 2) := by decide +kernel
theorem dX10_feed_61 : decode cX10_feed 61 = .ok (.iload 4, 2) := by decide +kernel
theorem dX10_feed_63 : decode cX10_feed 63 = .ok (.imul, 1) := by decide +kernel
theorem dX10_feed_64 : decode cX10_feed 64 = .ok (.lshr, 1) := by decide +kernel
theorem dX10_feed_65 : decode cX10_feed 65 = .ok (.ldc2_w 55, 3) := by decide +kernel
theorem dX10_feed_68 : decode cX10_feed 68 = .ok (.land, 1) := by decide +kernel
theorem dX10_feed_69 : decode cX10_feed 69 = .ok (.l2i, 1) := by decide +kernel
theorem dX10_feed_70 : decode cX10_feed 70 = .ok (.iastore, 1) := by decide +kernel
theorem dX10_feed_71 : decode cX10_feed 71 = .ok (.aload_n 0, 1) := by decide +kernel
theorem dX10_feed_72 : decode cX10_feed 72 = .ok (.getfield 7, 3) := by decide +kernel
theorem dX10_feed_75 : decode cX10_feed 75 = .ok (.iconst 2, 1) := by decide +kernel
theorem dX10_feed_76 : decode cX10_feed 76 = .ok (.dup2, 1) := by decide +kernel
theorem dX10_feed_77 : decode cX10_feed 77 = .ok (.iaload, 1) := by decide +kernel
theorem dX10_feed_78 : decode cX10_feed 78 = .ok (.iconst 1, 1) := by decide +kernel
theorem dX10_feed_79 : decode cX10_feed 79 = .ok (.iadd, 1) := by decide +kernel
theorem dX10_feed_80 : decode cX10_feed 80 = .ok (.iastore, 1) := by decide +kernel
theorem dX10_feed_81 : decode cX10_feed 81 = .ok (.iinc 4 1, 3) := by decide +kernel
theorem dX10_feed_84 : decode cX10_feed 84 = .ok (.goto (-46), 3) := by decide +kernel
theorem dX10_feed_87 : decode cX10_feed 87 = .ok (.aload_n 0, 1) := by decide +kernel
theorem dX10_feed_88 : decode cX10_feed 88 = .ok (.getfield 7, 3) := by decide +kernel
theorem dX10_feed_91 : decode cX10_feed 91 = .ok (.iconst 2, 1) := by decide +kernel
theorem dX10_feed_92 : decode cX10_feed 92 = .ok (.iaload, 1) := by decide +kernel
theorem dX10_feed_93 : decode cX10_feed 93 = .ok (.ireturn, 1) := by decide +kernel
theorem dX10_look_0 : decode cX10_look 0 = .ok (.aload_n 0, 1) := by decide +kernel
theorem dX10_look_1 : decode cX10_look 1 = .ok (.getfield 57, 3) := by decide +kernel
theorem dX10_look_4 : decode cX10_look 4 = .ok (.aload_n 0, 1) := by decide +kernel
theorem dX10_look_5 : decode cX10_look 5 = .ok (.getfield 7, 3) := by decide +kernel
theorem dX10_look_8 : decode cX10_look 8 = .ok (.iconst 2, 1) := by decide +kernel
theorem dX10_look_9 : decode cX10_look 9 = .ok (.iaload, 1) := by decide +kernel
theorem dX10_look_10 : decode cX10_look 10 = .ok (.if_icmp .ge 19, 3) := by decide +kernel
theorem dX10_look_13 : decode cX10_look 13 = .ok (.aload_n 0, 1) := by decide +kernel
theorem dX10_look_14 : decode cX10_look 14 = .ok (.getfield 7, 3) := by decide +kernel
theorem dX10_look_17 : decode cX10_look 17 = .ok (.sipush 300, 3) := by decide +kernel
theorem dX10_look_20 : decode cX10_look 20 = .ok (.aload_n 0, 1) := by decide +kernel
theorem dX10_look_21 : decode cX10_look 21 = .ok (.getfield 57, 3) := by decide +kernel
theorem dX10_look_24 : decode cX10_look 24 = .ok (.iadd, 1) := by decide +kernel
theorem dX10_look_25 : decode cX10_look 25 = .ok (.iaload, 1) := by decide +kernel
theorem dX10_look_26 : decode cX10_look 26 = .ok (.goto 4, 3) := by decide +kernel
theorem dX10_look_29 : decode cX10_look 29 = .ok (.iconst (-1), 1) := by decide +kernel
theorem dX10_look_30 : decode cX10_look 30 = .ok (.ireturn, 1) := by decide +kernel
theorem dX10_isName_0 : decode cX10_isName 0 = .ok (.iload_n 1, 1) := by decide +kernel
theorem dX10_isName_1 : decode cX10_isName 1 = .ok (.aload_n 0, 1) := by decide +kernel
theorem dX10_isName_2 : decode cX10_isName 2 = .ok (.getfield 61, 3) := by decide +kernel
theorem dX10_isName_5 : decode cX10_isName 5 = .ok (.ifCond .ne 8, 3) := by decide +kernel
theorem dX10_isName_8 : decode cX10_isName 8 = .ok (.bipush 114, 2) := by decide +kernel
theorem dX10_isName_10 : decode cX10_isName 10 = .ok (.goto 5, 3) := by decide +kernel
theorem dX10_isName_13 : decode cX10_isName 13 = .ok (.bipush 112, 2) := by decide +kernel
theorem dX10_isName_15 : decode cX10_isName 15 = .ok (.if_icmp .ne 5, 3) := by decide +kernel
theorem dX10_isName_18 : decode cX10_isName 18 = .ok (.iconst 1, 1) := by decide +kernel
theorem dX10_isName_19 : decode cX10_isName 19 = .ok (.ireturn, 1) := by decide +kernel
theorem dX10_isName_20 : decode cX10_isName 20 = .ok (.aload_n 0, 1) := by decide +kernel
theorem dX10_isName_21 : decode cX10_isName 21 = .ok (.getfield 61, 3) := by decide +kernel
theorem dX10_isName_24 : decode cX10_isName 24 = .ok (.ifCond .ne 23, 3) := by decide +kernel
theorem dX10_isName_27 : decode cX10_isName 27 = .ok (.iload_n 1, 1) := by decide +kernel
theorem dX10_isName_28 : decode cX10_isName 28 = .ok (.bipush 115, 2) := by decide +kernel
theorem dX10_isName_30 : decode cX10_isName 30 = .ok (.if_icmp .eq 9, 3) := by decide +kernel
theorem dX10_isName_33 : decode cX10_isName 33 = .ok (.iload_n 1, 1) := by decide +kernel
theorem dX10_isName_34 : decode cX10_isName 34 = .ok (.bipush 116, 2) := by decide +kernel
theorem dX10_isName_36 : decode cX10_isName 36 = .ok (.if_icmp .ne 7, 3) := by decide +kernel
theorem dX10_isName_39 : decode cX10_isName 39 = .ok (.iconst 1, 1) := by decide +kernel
theorem dX10_isName_40 : decode cX10_isName 40 = .ok (.goto 24, 3) := by decide +kernel
theorem dX10_isName_43 : decode cX10_isName 43 = .ok (.iconst 0, 1) := by decide +kernel
theorem dX10_isName_44 : decode cX10_isName 44 = .ok (.goto 20, 3) := by decide +kernel
theorem dX10_isName_47 : decode cX10_isName 47 = .ok (.iload_n 1, 1) := by decide +kernel
theorem dX10_isName_48 : decode cX10_isName 48 = .ok (.bipush 111, 2) := by decide +kernel
theorem dX10_isName_50 : decode cX10_isName 50 = .ok (.if_icmp .eq 9, 3) := by decide +kernel
theorem dX10_isName_53 : decode cX10_isName 53 = .ok (.iload_n 1, 1) := by decide +kernel
theorem dX10_isName_54 : decode cX10_isName 54 = .ok (.bipush 108, 2) := by decide +kernel
theorem dX10_isName_56 : decode cX10_isName 56 = .ok (.if_icmp .ne 7, 3) := by decide +kernel
theorem dX10_isName_59 : decode cX10_isName 59 = .ok (.iconst 1, 1) := by decide +kernel
theorem dX10_isName_60 : decode cX10_isName 60 = .ok (.goto 4, 3) := by decide +kernel
theorem dX10_isName_63 : decode cX10_isName 63 = .ok (.iconst 0, 1) := by decide +kernel
theorem dX10_isName_64 : decode cX10_isName 64 = .ok (.ireturn, 1) := by decide +kernel
theorem dX10_step1_0 : decode cX10_step1 0 = .ok (.aload_n 0, 1) := by decide +kernel
theorem dX10_step1_1 : decode cX10_step1 1 = .ok (.getfield 22, 3) := by decide +kernel
theorem dX10_step1_4 : decode cX10_step1 4 = .ok (.iconst 2, 1) := by decide +kernel
theorem dX10_step1_5 : decode cX10_step1 5 = .ok (.aload_n 0, 1) := by decide +kernel
theorem dX10_step1_6 : decode cX10_step1 6 = .ok (.getfield 64, 3) := by decide +kernel
theorem dX10_step1_9 : decode cX10_step1 9 = .ok (.imul, 1) := by decide +kernel
theorem dX10_step1_10 : decode cX10_step1 10 = .ok (.iload_n 1, 1) := by decide +kernel
theorem dX10_step1_11 : decode cX10_step1 11 = .ok (.iastore, 1) := by decide +kernel
theorem dX10_step1_12 : decode cX10_step1 12 = .ok (.aload_n 0, 1) := by decide +kernel
theorem dX10_step1_13 : decode cX10_step1 13 = .ok (.getfield 22, 3) := by decide +kernel
theorem dX10_step1_16 : decode cX10_step1 16 = .ok (.iconst 2, 1) := by decide +kernel
theorem dX10_step1_17 : decode cX10_step1 17 = .ok (.aload_n 0, 1) := by decide +kernel
theorem dX10_step1_18 : decode cX10_step1 18 = .ok (.getfield 64, 3) := by decide +kernel
theorem dX10_step1_21 : decode cX10_step1 21 = .ok (.imul, 1) := by decide +kernel
theorem dX10_step1_22 : decode cX10_step1 22 = .ok (.iconst 1, 1) := by decide +kernel
theorem dX10_step1_23 : decode cX10_step1 23 = .ok (.iadd, 1) := by decide +kernel
theorem dX10_step1_24 : decode cX10_step1 24 = .ok (.iload_n 2, 1) := by decide +kernel
theorem dX10_step1_25 : decode cX10_step1 25 = .ok (.iastore, 1) := by decide +kernel
theorem dX10_step1_26 : decode cX10_step1 26 = .ok (.aload_n 0, 1) := by decide +kernel
theorem dX10_step1_27 : decode cX10_step1 27 = .ok (.dup, 1) := by decide +kernel
theorem dX10_step1_28 : decode cX10_step1 28 = .ok (.getfield 64, 3) := by decide +kernel
theorem dX10_step1_31 : decode cX10_step1 31 = .ok (.iconst 1, 1) := by decide +kernel
theorem dX10_step1_32 : decode cX10_step1 32 = .ok (.iadd, 1) := by decide +kernel
theorem dX10_step1_33 : decode cX10_step1 33 = .ok (.putfield 64, 3) := by decide +kernel
theorem dX10_step1_36 : decode cX10_step1 36 = .ok (.return_, 1) := by decide +kernel
theorem dX10_whole_0 : decode cX10_whole 0 = .ok (.aload_n 0, 1) := by decide +kernel
theorem dX10_whole_1 : decode cX10_whole 1 = .ok (.invokevirtual 67, 3) := by decide +kernel
theorem dX10_whole_4 : decode cX10_whole 4 = .ok (.ifCond .ne 5, 3) := by decide +kernel
theorem dX10_whole_7 : decode cX10_whole 7 = .ok (.iconst 0, 1) := by decide +kernel
theorem dX10_whole_8 : decode cX10_whole 8 = .ok (.ireturn, 1) := by decide +kernel
theorem dX10_whole_9 : decode cX10_whole 9 = .ok (.aload_n 0, 1) := by decide +kernel
theorem dX10_whole_10 : decode cX10_whole 10 = .ok (.invokevirtual 71, 3) := by decide +kernel
theorem dX10_whole_13 : decode cX10_whole 13 = .ok (.bipush 124, 2) := by decide +kernel
theorem dX10_whole_15 : decode cX10_whole 15 = .ok (.if_icmp .ne 32, 3) := by decide +kernel
theorem dX10_whole_18 : decode cX10_whole 18 = .ok (.aload_n 0, 1) := by decide +kernel
theorem dX10_whole_19 : decode cX10_whole 19 = .ok (.dup, 1) := by decide +kernel
theorem dX10_whole_20 : decode cX10_whole 20 = .ok (.getfield 57, 3) := by decide +kernel
theorem dX10_whole_23 : decode cX10_whole 23 = .ok (.iconst 1, 1) := by decide +kernel
theorem dX10_whole_24 : decode cX10_whole 24 = .ok (.iadd, 1) := by decide +kernel
theorem dX10_whole_25 : decode cX10_whole 25 = .ok (.putfield 57, 3) := by decide +kernel
theorem dX10_whole_28 : decode cX10_whole 28 = .ok (.aload_n 0, 1) := by decide +kernel
theorem dX10_whole_29 : decode cX10_whole 29 = .ok (.invokevirtual 67, 3) := by decide +kernel
theorem dX10_whole_32 : decode cX10_whole 32 = .ok (.ifCond .ne 5, 3) := by decide +kernel
theorem dX10_whole_35 : decode cX10_whole 35 = .ok (.iconst 0, 1) := by decide +kernel
theorem dX10_whole_36 : decode cX10_whole 36 = .ok (.ireturn, 1) := by decide +kernel
theorem dX10_whole_37 : decode cX10_whole 37 = .ok (.aload_n 0, 1) := by decide +kernel
theorem dX10_whole_38 : decode cX10_whole 38 = .ok (.iconst 3, 1) := by decide +kernel
theorem dX10_whole_39 : decode cX10_whole 39 = .ok (.bipush 124, 2) := by decide +kernel
theorem dX10_whole_41 : decode cX10_whole 41 = .ok (.invokevirtual 75, 3) := by decide +kernel
theorem dX10_whole_44 : decode cX10_whole 44 = .ok (.goto (-35), 3) := by decide +kernel
theorem dX10_whole_47 : decode cX10_whole 47 = .ok (.iconst 1, 1) := by decide +kernel
theorem dX10_whole_48 : decode cX10_whole 48 = .ok (.ireturn, 1) := by decide +kernel
theorem dX10_both_0 : decode cX10_both 0 = .ok (.aload_n 0, 1) := by decide +kernel
theorem dX10_both_1 : decode cX10_both 1 = .ok (.invokevirtual 79, 3) := by decide +kernel
theorem dX10_both_4 : decode cX10_both 4 = .ok (.ifCond .ne 5, 3) := by decide +kernel
theorem dX10_both_7 : decode cX10_both 7 = .ok (.iconst 0, 1) := by decide +kernel
theorem dX10_both_8 : decode cX10_both 8 = .ok (.ireturn, 1) := by decide +kernel
theorem dX10_both_9 : decode cX10_both 9 = .ok (.aload_n 0, 1) := by decide +kernel
theorem dX10_both_10 : decode cX10_both 10 = .ok (.invokevirtual 71, 3) := by decide +kernel
theorem dX10_both_13 : decode cX10_both 13 = .ok (.bipush 38, 2) := by decide +kernel
theorem dX10_both_15 : decode cX10_both 15 = .ok (.if_icmp .ne 32, 3) := by decide +kernel
theorem dX10_both_18 : decode cX10_both 18 = .ok (.aload_n 0, 1) := by decide +kernel
theorem dX10_both_19 : decode cX10_both 19 = .ok (.dup, 1) := by decide +kernel
theorem dX10_both_20 : decode cX10_both 20 = .ok (.getfield 57, 3) := by decide +kernel
theorem dX10_both_23 : decode cX10_both 23 = .ok (.iconst 1, 1) := by decide +kernel
theorem dX10_both_24 : decode cX10_both 24 = .ok (.iadd, 1) := by decide +kernel
theorem dX10_both_25 : decode cX10_both 25 = .ok (.putfield 57, 3) := by decide +kernel
theorem dX10_both_28 : decode cX10_both 28 = .ok (.aload_n 0, 1) := by decide +kernel
theorem dX10_both_29 : decode cX10_both 29 = .ok (.invokevirtual 79, 3) := by decide +kernel
theorem dX10_both_32 : decode cX10_both 32 = .ok (.ifCond .ne 5, 3) := by decide +kernel
theorem dX10_both_35 : decode cX10_both 35 = .ok (.iconst 0, 1) := by decide +kernel
theorem dX10_both_36 : decode cX10_both 36 = .ok (.ireturn, 1) := by decide +kernel
theorem dX10_both_37 : decode cX10_both 37 = .ok (.aload_n 0, 1) := by decide +kernel
theorem dX10_both_38 : decode cX10_both 38 = .ok (.iconst 3, 1) := by decide +kernel
theorem dX10_both_39 : decode cX10_both 39 = .ok (.bipush 38, 2) := by decide +kernel
theorem dX10_both_41 : decode cX10_both 41 = .ok (.invokevirtual 75, 3) := by decide +kernel
theorem dX10_both_44 : decode cX10_both 44 = .ok (.goto (-35), 3) := by decide +kernel
theorem dX10_both_47 : decode cX10_both 47 = .ok (.iconst 1, 1) := by decide +kernel
theorem dX10_both_48 : decode cX10_both 48 = .ok (.ireturn, 1) := by decide +kernel
theorem dX10_compared_0 : decode cX10_compared 0 = .ok (.aload_n 0, 1) := by decide +kernel
theorem dX10_compared_1 : decode cX10_compared 1 = .ok (.invokevirtual 82, 3) := by decide +kernel
theorem dX10_compared_4 : decode cX10_compared 4 = .ok (.ifCond .ne 5, 3) := by decide +kernel
theorem dX10_compared_7 : decode cX10_compared 7 = .ok (.iconst 0, 1) := by decide +kernel
theorem dX10_compared_8 : decode cX10_compared 8 = .ok (.ireturn, 1) := by decide +kernel
theorem dX10_compared_9 : decode cX10_compared 9 = .ok (.aload_n 0, 1) := by decide +kernel
theorem dX10_compared_10 : decode cX10_compared 10 = .ok (.invokevirtual 71, 3) := by decide +kernel
theorem dX10_compared_13 : decode cX10_compared 13 = .ok (.istore_n 1, 1) := by decide +kernel
theorem dX10_compared_14 : decode cX10_compared 14 = .ok (.iload_n 1, 1) := by decide +kernel
theorem dX10_compared_15 : decode cX10_compared 15 = .ok (.bipush 60, 2) := by decide +kernel
theorem dX10_compared_17 : decode cX10_compared 17 = .ok (.if_icmp .eq 17, 3) := by decide +kernel
theorem dX10_compared_20 : decode cX10_compared 20 = .ok (.iload_n 1, 1) := by decide +kernel
theorem dX10_compared_21 : decode cX10_compared 21 = .ok (.bipush 61, 2) := by decide +kernel
theorem dX10_compared_23 : decode cX10_compared 23 = .ok (.if_icmp .eq 11, 3) := by decide +kernel
theorem dX10_compared_26 : decode cX10_compared 26 = .ok (.iload_n 1, 1) := by decide +kernel
theorem dX10_compared_27 : decode cX10_compared 27 = .ok (.bipush 62, 2) := by decide +kernel
theorem dX10_compared_29 : decode cX10_compared 29 = .ok (.if_icmp .eq 5, 3) := by decide +kernel
theorem dX10_compared_32 : decode cX10_compared 32 = .ok (.iconst 1, 1) := by decide +kernel
theorem dX10_compared_33 : decode cX10_compared 33 = .ok (.ireturn, 1) := by decide +kernel
theorem dX10_compared_34 : decode cX10_compared 34 = .ok (.aload_n 0, 1) := by decide +kernel
theorem dX10_compared_35 : decode cX10_compared 35 = .ok (.dup, 1) := by decide +kernel
theorem dX10_compared_36 : decode cX10_compared 36 = .ok (.getfield 57, 3) := by decide +kernel
theorem dX10_compared_39 : decode cX10_compared 39 = .ok (.iconst 1, 1) := by decide +kernel
theorem dX10_compared_40 : decode cX10_compared 40 = .ok (.iadd, 1) := by decide +kernel
theorem dX10_compared_41 : decode cX10_compared 41 = .ok (.putfield 57, 3) := by decide +kernel
theorem dX10_compared_44 : decode cX10_compared 44 = .ok (.aload_n 0, 1) := by decide +kernel
theorem dX10_compared_45 : decode cX10_compared 45 = .ok (.invokevirtual 82, 3) := by decide +kernel
theorem dX10_compared_48 : decode cX10_compared 48 = .ok (.ifCond .ne 5, 3) := by decide +kernel
theorem dX10_compared_51 : decode cX10_compared 51 = .ok (.iconst 0, 1) := by decide +kernel
theorem dX10_compared_52 : decode cX10_compared 52 = .ok (.ireturn, 1) := by decide +kernel
theorem dX10_compared_53 : decode cX10_compared 53 = .ok (.aload_n 0, 1) := by decide +kernel
theorem dX10_compared_54 : decode cX10_compared 54 = .ok (.iconst 3, 1) := by decide +kernel
theorem dX10_compared_55 : decode cX10_compared 55 = .ok (.iload_n 1, 1) := by decide +kernel
theorem dX10_compared_56 : decode cX10_compared 56 = .ok (.invokevirtual 75, 3) := by decide +kernel
theorem dX10_compared_59 : decode cX10_compared 59 = .ok (.iconst 1, 1) := by decide +kernel
theorem dX10_compared_60 : decode cX10_compared 60 = .ok (.ireturn, 1) := by decide +kernel
theorem dX10_sum_0 : decode cX10_sum 0 = .ok (.aload_n 0, 1) := by decide +kernel
theorem dX10_sum_1 : decode cX10_sum 1 = .ok (.invokevirtual 85, 3) := by decide +kernel
theorem dX10_sum_4 : decode cX10_sum 4 = .ok (.ifCond .ne 5, 3) := by decide +kernel
theorem dX10_sum_7 : decode cX10_sum 7 = .ok (.iconst 0, 1) := by decide +kernel
theorem dX10_sum_8 : decode cX10_sum 8 = .ok (.ireturn, 1) := by decide +kernel
theorem dX10_sum_9 : decode cX10_sum 9 = .ok (.aload_n 0, 1) := by decide +kernel
theorem dX10_sum_10 : decode cX10_sum 10 = .ok (.invokevirtual 71, 3) := by decide +kernel
theorem dX10_sum_13 : decode cX10_sum 13 = .ok (.bipush 43, 2) := by decide +kernel
theorem dX10_sum_15 : decode cX10_sum 15 = .ok (.if_icmp .eq 12, 3) := by decide +kernel
theorem dX10_sum_18 : decode cX10_sum 18 = .ok (.aload_n 0, 1) := by decide +kernel
theorem dX10_sum_19 : decode cX10_sum 19 = .ok (.invokevirtual 71, 3) := by decide +kernel
theorem dX10_sum_22 : decode cX10_sum 22 = .ok (.bipush 45, 2) := by decide +kernel
theorem dX10_sum_24 : decode cX10_sum 24 = .ok (.if_icmp .ne 36, 3) := by decide +kernel
theorem dX10_sum_27 : decode cX10_sum 27 = .ok (.aload_n 0, 1) := by decide +kernel
theorem dX10_sum_28 : decode cX10_sum 28 = .ok (.invokevirtual 71, 3) := by decide +kernel
theorem dX10_sum_31 : decode cX10_sum 31 = .ok (.istore_n 1, 1) := by decide +kernel
theorem dX10_sum_32 : decode cX10_sum 32 = .ok (.aload_n 0, 1) := by decide +kernel
theorem dX10_sum_33 : decode cX10_sum 33 = .ok (.dup, 1) := by decide +kernel
theorem dX10_sum_34 : decode cX10_sum 34 = .ok (.getfield 57, 3) := by decide +kernel
theorem dX10_sum_37 : decode cX10_sum 37 = .ok (.iconst 1, 1) := by decide +kernel
theorem dX10_sum_38 : decode cX10_sum 38 = .ok (.iadd, 1) := by decide +kernel
theorem dX10_sum_39 : decode cX10_sum 39 = .ok (.putfield 57, 3) := by decide +kernel
theorem dX10_sum_42 : decode cX10_sum 42 = .ok (.aload_n 0, 1) := by decide +kernel
theorem dX10_sum_43 : decode cX10_sum 43 = .ok (.invokevirtual 85, 3) := by decide +kernel
theorem dX10_sum_46 : decode cX10_sum 46 = .ok (.ifCond .ne 5, 3) := by decide +kernel
theorem dX10_sum_49 : decode cX10_sum 49 = .ok (.iconst 0, 1) := by decide +kernel
theorem dX10_sum_50 : decode cX10_sum 50 = .ok (.ireturn, 1) := by decide +kernel
theorem dX10_sum_51 : decode cX10_sum 51 = .ok (.aload_n 0, 1) := by decide +kernel
theorem dX10_sum_52 : decode cX10_sum 52 = .ok (.iconst 3, 1) := by decide +kernel
theorem dX10_sum_53 : decode cX10_sum 53 = .ok (.iload_n 1, 1) := by decide +kernel
theorem dX10_sum_54 : decode cX10_sum 54 = .ok (.invokevirtual 75, 3) := by decide +kernel
theorem dX10_sum_57 : decode cX10_sum 57 = .ok (.goto (-48), 3) := by decide +kernel
theorem dX10_sum_60 : decode cX10_sum 60 = .ok (.iconst 1, 1) := by decide +kernel
theorem dX10_sum_61 : decode cX10_sum 61 = .ok (.ireturn, 1) := by decide +kernel
theorem dX10_product_0 : decode cX10_product 0 = .ok (.aload_n 0, 1) := by decide +kernel
theorem dX10_product_1 : decode cX10_product 1 = .ok (.invokevirtual 88, 3) := by decide +kernel
theorem dX10_product_4 : decode cX10_product 4 = .ok (.ifCond .ne 5, 3) := by decide +kernel
theorem dX10_product_7 : decode cX10_product 7 = .ok (.iconst 0, 1) := by decide +kernel
theorem dX10_product_8 : decode cX10_product 8 = .ok (.ireturn, 1) := by decide +kernel
theorem dX10_product_9 : decode cX10_product 9 = .ok (.aload_n 0, 1) := by decide +kernel
theorem dX10_product_10 : decode cX10_product 10 = .ok (.invokevirtual 71, 3) := by decide +kernel
theorem dX10_product_13 : decode cX10_product 13 = .ok (.bipush 42, 2) := by decide +kernel
theorem dX10_product_15 : decode cX10_product 15 = .ok (.if_icmp .eq 21, 3) := by decide +kernel
theorem dX10_product_18 : decode cX10_product 18 = .ok (.aload_n 0, 1) := by decide +kernel
theorem dX10_product_19 : decode cX10_product 19 = .ok (.invokevirtual 71, 3) := by decide +kernel
theorem dX10_product_22 : decode cX10_product 22 = .ok (.bipush 47, 2) := by decide +kernel
theorem dX10_product_24 : decode cX10_product 24 = .ok (.if_icmp .eq 12, 3) := by decide +kernel
theorem dX10_product_27 : decode cX10_product 27 = .ok (.aload_n 0, 1) := by decide +kernel
theorem dX10_product_28 : decode cX10_product 28 = .ok (.invokevirtual 71, 3) := by decide +kernel
theorem dX10_product_31 : decode cX10_product 31 = .ok (.bipush 37, 2) := by decide +kernel
theorem dX10_product_33 : decode cX10_product 33 = .ok (.if_icmp .ne 36, 3) := by decide +kernel
theorem dX10_product_36 : decode cX10_product 36 = .ok (.aload_n 0, 1) := by decide +kernel
theorem dX10_product_37 : decode cX10_product 37 = .ok (.invokevirtual 71, 3) := by decide +kernel
theorem dX10_product_40 : decode cX10_product 40 = .ok (.istore_n 1, 1) := by decide +kernel
theorem dX10_product_41 : decode cX10_product 41 = .ok (.aload_n 0, 1) := by decide +kernel
theorem dX10_product_42 : decode cX10_product 42 = .ok (.dup, 1) := by decide +kernel
theorem dX10_product_43 : decode cX10_product 43 = .ok (.getfield 57, 3) := by decide +kernel
theorem dX10_product_46 : decode cX10_product 46 = .ok (.iconst 1, 1) := by decide +kernel
theorem dX10_product_47 : decode cX10_product 47 = .ok (.iadd, 1) := by decide +kernel
theorem dX10_product_48 : decode cX10_product 48 = .ok (.putfield 57, 3) := by decide +kernel
theorem dX10_product_51 : decode cX10_product 51 = .ok (.aload_n 0, 1) := by decide +kernel
theorem dX10_product_52 : decode cX10_product 52 = .ok (.invokevirtual 88, 3) := by decide +kernel
theorem dX10_product_55 : decode cX10_product 55 = .ok (.ifCond .ne 5, 3) := by decide +kernel
theorem dX10_product_58 : decode cX10_product 58 = .ok (.iconst 0, 1) := by decide +kernel
theorem dX10_product_59 : decode cX10_product 59 = .ok (.ireturn, 1) := by decide +kernel
theorem dX10_product_60 : decode cX10_product 60 = .ok (.aload_n 0, 1) := by decide +kernel
theorem dX10_product_61 : decode cX10_product 61 = .ok (.iconst 3, 1) := by decide +kernel
theorem dX10_product_62 : decode cX10_product 62 = .ok (.iload_n 1, 1) := by decide +kernel
theorem dX10_product_63 : decode cX10_product 63 = .ok (.invokevirtual 75, 3) := by decide +kernel
theorem dX10_product_66 : decode cX10_product 66 = .ok (.goto (-57), 3) := by decide +kernel
theorem dX10_product_69 : decode cX10_product 69 = .ok (.iconst 1, 1) := by decide +kernel
theorem dX10_product_70 : decode cX10_product 70 = .ok (.ireturn, 1) := by decide +kernel
theorem dX10_opens_0 : decode cX10_opens 0 = .ok (.aload_n 0, 1) := by decide +kernel
theorem dX10_opens_1 : decode cX10_opens 1 = .ok (.getfield 91, 3) := by decide +kernel
theorem dX10_opens_4 : decode cX10_opens 4 = .ok (.iconst 5, 1) := by decide +kernel
theorem dX10_opens_5 : decode cX10_opens 5 = .ok (.if_icmp .ne 5, 3) := by decide +kernel
theorem dX10_opens_8 : decode cX10_opens 8 = .ok (.iconst 0, 1) := by decide +kernel
theorem dX10_opens_9 : decode cX10_opens 9 = .ok (.ireturn, 1) := by decide +kernel
theorem dX10_opens_10 : decode cX10_opens 10 = .ok (.aload_n 0, 1) := by decide +kernel
theorem dX10_opens_11 : decode cX10_opens 11 = .ok (.dup, 1) := by decide +kernel
theorem dX10_opens_12 : decode cX10_opens 12 = .ok (.getfield 91, 3) := by decide +kernel
theorem dX10_opens_15 : decode cX10_opens 15 = .ok (.iconst 1, 1) := by decide +kernel
theorem dX10_opens_16 : decode cX10_opens 16 = .ok (.iadd, 1) := by decide +kernel
theorem dX10_opens_17 : decode cX10_opens 17 = .ok (.putfield 91, 3) := by decide +kernel
theorem dX10_opens_20 : decode cX10_opens 20 = .ok (.aload_n 0, 1) := by decide +kernel
theorem dX10_opens_21 : decode cX10_opens 21 = .ok (.dup, 1) := by decide +kernel
theorem dX10_opens_22 : decode cX10_opens 22 = .ok (.getfield 57, 3) := by decide +kernel
theorem dX10_opens_25 : decode cX10_opens 25 = .ok (.iconst 1, 1) := by decide +kernel
theorem dX10_opens_26 : decode cX10_opens 26 = .ok (.iadd, 1) := by decide +kernel
theorem dX10_opens_27 : decode cX10_opens 27 = .ok (.putfield 57, 3) := by decide +kernel
theorem dX10_opens_30 : decode cX10_opens 30 = .ok (.iconst 1, 1) := by decide +kernel
theorem dX10_opens_31 : decode cX10_opens 31 = .ok (.ireturn, 1) := by decide +kernel
theorem dX10_one_0 : decode cX10_one 0 = .ok (.aload_n 0, 1) := by decide +kernel
theorem dX10_one_1 : decode cX10_one 1 = .ok (.invokevirtual 71, 3) := by decide +kernel
theorem dX10_one_4 : decode cX10_one 4 = .ok (.istore_n 1, 1) := by decide +kernel
theorem dX10_one_5 : decode cX10_one 5 = .ok (.aload_n 0, 1) := by decide +kernel
theorem dX10_one_6 : decode cX10_one 6 = .ok (.iload_n 1, 1) := by decide +kernel
theorem dX10_one_7 : decode cX10_one 7 = .ok (.invokevirtual 94, 3) := by decide +kernel
theorem dX10_one_10 : decode cX10_one 10 = .ok (.ifCond .eq 21, 3) := by decide +kernel
theorem dX10_one_13 : decode cX10_one 13 = .ok (.aload_n 0, 1) := by decide +kernel
theorem dX10_one_14 : decode cX10_one 14 = .ok (.dup, 1) := by decide +kernel
theorem dX10_one_15 : decode cX10_one 15 = .ok (.getfield 57, 3) := by decide +kernel
theorem dX10_one_18 : decode cX10_one 18 = .ok (.iconst 1, 1) := by decide +kernel
theorem dX10_one_19 : decode cX10_one 19 = .ok (.iadd, 1) := by decide +kernel
theorem dX10_one_20 : decode cX10_one 20 = .ok (.putfield 57, 3) := by decide +kernel
theorem dX10_one_23 : decode cX10_one 23 = .ok (.aload_n 0, 1) := by decide +kernel
theorem dX10_one_24 : decode cX10_one 24 = .ok (.iconst 1, 1) := by decide +kernel
theorem dX10_one_25 : decode cX10_one 25 = .ok (.iload_n 1, 1) := by decide +kernel
theorem dX10_one_26 : decode cX10_one 26 = .ok (.invokevirtual 75, 3) := by decide +kernel
theorem dX10_one_29 : decode cX10_one 29 = .ok (.iconst 1, 1) := by decide +kernel
theorem dX10_one_30 : decode cX10_one 30 = .ok (.ireturn, 1) := by decide +kernel
theorem dX10_one_31 : decode cX10_one 31 = .ok (.iload_n 1, 1) := by decide +kernel
theorem dX10_one_32 : decode cX10_one 32 = .ok (.bipush 48, 2) := by decide +kernel
theorem dX10_one_34 : decode cX10_one 34 = .ok (.bipush 57, 2) := by decide +kernel
theorem dX10_one_36 : decode cX10_one 36 = .ok (.invokestatic 47, 3) := by decide +kernel
theorem dX10_one_39 : decode cX10_one 39 = .ok (.ifCond .eq 63, 3) := by decide +kernel
theorem dX10_one_42 : decode cX10_one 42 = .ok (.iconst 0, 1) := by decide +kernel
theorem dX10_one_43 : decode cX10_one 43 = .ok (.istore_n 2, 1) := by decide +kernel
theorem dX10_one_44 : decode cX10_one 44 = .ok (.iconst 0, 1) := by decide +kernel
theorem dX10_one_45 : decode cX10_one 45 = .ok (.istore_n 3, 1) := by decide +kernel
theorem dX10_one_46 : decode cX10_one 46 = .ok (.iload_n 3, 1) := by decide +kernel
theorem dX10_one_47 : decode cX10_one 47 = .ok (.iconst 4, 1) := by decide +kernel
theorem dX10_one_48 : decode cX10_one 48 = .ok (.if_icmp .ge 46, 3) := by decide +kernel
theorem dX10_one_51 : decode cX10_one 51 = .ok (.aload_n 0, 1) := by decide +kernel
theorem dX10_one_52 : decode cX10_one 52 = .ok (.invokevirtual 71, 3) := by decide +kernel
theorem dX10_one_55 : decode cX10_one 55 = .ok (.bipush 48, 2) := by decide +kernel
theorem dX10_one_57 : decode cX10_one 57 = .ok (.bipush 57, 2) := by decide +kernel
theorem dX10_one_59 : decode cX10_one 59 = .ok (.invokestatic 47, 3) := by decide +kernel
theorem dX10_one_62 : decode cX10_one 62 = .ok (.ifCond .eq 32, 3) := by decide +kernel
theorem dX10_one_65 : decode cX10_one 65 = .ok (.bipush 10, 2) := by decide +kernel
theorem dX10_one_67 : decode cX10_one 67 = .ok (.iload_n 2, 1) := by decide +kernel
theorem dX10_one_68 : decode cX10_one 68 = .ok (.imul, 1) := by decide +kernel
theorem dX10_one_69 : decode cX10_one 69 = .ok (.aload_n 0, 1) := by decide +kernel
theorem dX10_one_70 : decode cX10_one 70 = .ok (.invokevirtual 71, 3) := by decide +kernel
theorem dX10_one_73 : decode cX10_one 73 = .ok (.iadd, 1) := by decide +kernel
theorem dX10_one_74 : decode cX10_one 74 = .ok (.bipush 48, 2) := by decide +kernel
theorem dX10_one_76 : decode cX10_one 76 = .ok (.isub, 1) := by decide +kernel
theorem dX10_one_77 : decode cX10_one 77 = .ok (.istore_n 2, 1) := by decide +kernel
theorem dX10_one_78 : decode cX10_one 78 = .ok (.aload_n 0, 1) := by decide +kernel
theorem dX10_one_79 : decode cX10_one 79 = .ok (.dup, 1) := by decide +kernel
theorem dX10_one_80 : decode cX10_one 80 = .ok (.getfield 57, 3) := by decide +kernel
theorem dX10_one_83 : decode cX10_one 83 = .ok (.iconst 1, 1) := by decide +kernel
theorem dX10_one_84 : decode cX10_one 84 = .ok (.iadd, 1) := by decide +kernel
theorem dX10_one_85 : decode cX10_one 85 = .ok (.putfield 57, 3) := by decide +kernel
theorem dX10_one_88 : decode cX10_one 88 = .ok (.iinc 3 1, 3) := by decide +kernel
theorem dX10_one_91 : decode cX10_one 91 = .ok (.goto (-45), 3) := by decide +kernel
theorem dX10_one_94 : decode cX10_one 94 = .ok (.aload_n 0, 1) := by decide +kernel
theorem dX10_one_95 : decode cX10_one 95 = .ok (.iconst 0, 1) := by decide +kernel
theorem dX10_one_96 : decode cX10_one 96 = .ok (.iload_n 2, 1) := by decide +kernel
theorem dX10_one_97 : decode cX10_one 97 = .ok (.invokevirtual 75, 3) := by decide +kernel
theorem dX10_one_100 : decode cX10_one 100 = .ok (.iconst 1, 1) := by decide +kernel
theorem dX10_one_101 : decode cX10_one 101 = .ok (.ireturn, 1) := by decide +kernel
theorem dX10_one_102 : decode cX10_one 102 = .ok (.iload_n 1, 1) := by decide +kernel
theorem dX10_one_103 : decode cX10_one 103 = .ok (.bipush 33, 2) := by decide +kernel
theorem dX10_one_105 : decode cX10_one 105 = .ok (.if_icmp .ne 37, 3) := by decide +kernel
theorem dX10_one_108 : decode cX10_one 108 = .ok (.aload_n 0, 1) := by decide +kernel
theorem dX10_one_109 : decode cX10_one 109 = .ok (.invokevirtual 98, 3) := by decide +kernel
theorem dX10_one_112 : decode cX10_one 112 = .ok (.ifCond .eq 10, 3) := by decide +kernel
theorem dX10_one_115 : decode cX10_one 115 = .ok (.aload_n 0, 1) := by decide +kernel
theorem dX10_one_116 : decode cX10_one 116 = .ok (.invokevirtual 88, 3) := by decide +kernel
theorem dX10_one_119 : decode cX10_one 119 = .ok (.ifCond .ne 5, 3) := by decide +kernel
theorem dX10_one_122 : decode cX10_one 122 = .ok (.iconst 0, 1) := by decide +kernel
theorem dX10_one_123 : decode cX10_one 123 = .ok (.ireturn, 1) := by decide +kernel
theorem dX10_one_124 : decode cX10_one 124 = .ok (.aload_n 0, 1) := by decide +kernel
theorem dX10_one_125 : decode cX10_one 125 = .ok (.dup, 1) := by decide +kernel
theorem dX10_one_126 : decode cX10_one 126 = .ok (.getfield 91, 3) := by decide +kernel
theorem dX10_one_129 : decode cX10_one 129 = .ok (.iconst 1, 1) := by decide +kernel
theorem dX10_one_130 : decode cX10_one 130 = .ok (.isub, 1) := by decide +kernel
theorem dX10_one_131 : decode cX10_one 131 = .ok (.putfield 91, 3) := by decide +kernel
theorem dX10_one_134 : decode cX10_one 134 = .ok (.aload_n 0, 1) := by decide +kernel
theorem dX10_one_135 : decode cX10_one 135 = .ok (.iconst 2, 1) := by decide +kernel
theorem dX10_one_136 : decode cX10_one 136 = .ok (.iconst 0, 1) := by decide +kernel
theorem dX10_one_137 : decode cX10_one 137 = .ok (.invokevirtual 75, 3) := by decide +kernel
theorem dX10_one_140 : decode cX10_one 140 = .ok (.iconst 1, 1) := by decide +kernel
theorem dX10_one_141 : decode cX10_one 141 = .ok (.ireturn, 1) := by decide +kernel
theorem dX10_one_142 : decode cX10_one 142 = .ok (.iload_n 1, 1) := by decide +kernel
theorem dX10_one_143 : decode cX10_one 143 = .ok (.bipush 40, 2) := by decide +kernel
theorem dX10_one_145 : decode cX10_one 145 = .ok (.if_icmp .ne 26, 3) := by decide +kernel
theorem dX10_one_148 : decode cX10_one 148 = .ok (.aload_n 0, 1) := by decide +kernel
theorem dX10_one_149 : decode cX10_one 149 = .ok (.invokevirtual 98, 3) := by decide +kernel
theorem dX10_one_152 : decode cX10_one 152 = .ok (.ifCond .eq 19, 3) := by decide +kernel
theorem dX10_one_155 : decode cX10_one 155 = .ok (.aload_n 0, 1) := by decide +kernel
theorem dX10_one_156 : decode cX10_one 156 = .ok (.invokevirtual 101, 3) := by decide +kernel
theorem dX10_one_159 : decode cX10_one 159 = .ok (.ifCond .eq 12, 3) := by decide +kernel
theorem dX10_one_162 : decode cX10_one 162 = .ok (.aload_n 0, 1) := by decide +kernel
theorem dX10_one_163 : decode cX10_one 163 = .ok (.invokevirtual 71, 3) := by decide +kernel
theorem dX10_one_166 : decode cX10_one 166 = .ok (.bipush 41, 2) := by decide +kernel
theorem dX10_one_168 : decode cX10_one 168 = .ok (.if_icmp .eq 5, 3) := by decide +kernel
theorem dX10_one_171 : decode cX10_one 171 = .ok (.iconst 0, 1) := by decide +kernel
theorem dX10_one_172 : decode cX10_one 172 = .ok (.ireturn, 1) := by decide +kernel
theorem dX10_one_173 : decode cX10_one 173 = .ok (.aload_n 0, 1) := by decide +kernel
theorem dX10_one_174 : decode cX10_one 174 = .ok (.dup, 1) := by decide +kernel
theorem dX10_one_175 : decode cX10_one 175 = .ok (.getfield 57, 3) := by decide +kernel
theorem dX10_one_178 : decode cX10_one 178 = .ok (.iconst 1, 1) := by decide +kernel
theorem dX10_one_179 : decode cX10_one 179 = .ok (.iadd, 1) := by decide +kernel
theorem dX10_one_180 : decode cX10_one 180 = .ok (.putfield 57, 3) := by decide +kernel
theorem dX10_one_183 : decode cX10_one 183 = .ok (.aload_n 0, 1) := by decide +kernel
theorem dX10_one_184 : decode cX10_one 184 = .ok (.dup, 1) := by decide +kernel
theorem dX10_one_185 : decode cX10_one 185 = .ok (.getfield 91, 3) := by decide +kernel
theorem dX10_one_188 : decode cX10_one 188 = .ok (.iconst 1, 1) := by decide +kernel
theorem dX10_one_189 : decode cX10_one 189 = .ok (.isub, 1) := by decide +kernel
theorem dX10_one_190 : decode cX10_one 190 = .ok (.putfield 91, 3) := by decide +kernel
theorem dX10_one_193 : decode cX10_one 193 = .ok (.iconst 1, 1) := by decide +kernel
theorem dX10_one_194 : decode cX10_one 194 = .ok (.ireturn, 1) := by decide +kernel
theorem dX10_hasText_0 : decode cX10_hasText 0 = .ok (.aload_n 0, 1) := by decide +kernel
theorem dX10_hasText_1 : decode cX10_hasText 1 = .ok (.getfield 7, 3) := by decide +kernel
theorem dX10_hasText_4 : decode cX10_hasText 4 = .ok (.bipush 50, 2) := by decide +kernel
theorem dX10_hasText_6 : decode cX10_hasText 6 = .ok (.bipush 125, 2) := by decide +kernel
theorem dX10_hasText_8 : decode cX10_hasText 8 = .ok (.iload_n 1, 1) := by decide +kernel
theorem dX10_hasText_9 : decode cX10_hasText 9 = .ok (.imul, 1) := by decide +kernel
theorem dX10_hasText_10 : decode cX10_hasText 10 = .ok (.iadd, 1) := by decide +kernel
theorem dX10_hasText_11 : decode cX10_hasText 11 = .ok (.iaload, 1) := by decide +kernel
theorem dX10_hasText_12 : decode cX10_hasText 12 = .ok (.ifCond .le 7, 3) := by decide +kernel
theorem dX10_hasText_15 : decode cX10_hasText 15 = .ok (.iconst 1, 1) := by decide +kernel
theorem dX10_hasText_16 : decode cX10_hasText 16 = .ok (.goto 4, 3) := by decide +kernel
theorem dX10_hasText_19 : decode cX10_hasText 19 = .ok (.iconst 0, 1) := by decide +kernel
theorem dX10_hasText_20 : decode cX10_hasText 20 = .ok (.ireturn, 1) := by decide +kernel
theorem dX10_text_0 : decode cX10_text 0 = .ok (.iload_n 1, 1) := by decide +kernel
theorem dX10_text_1 : decode cX10_text 1 = .ok (.iconst 0, 1) := by decide +kernel
theorem dX10_text_2 : decode cX10_text 2 = .ok (.iconst 1, 1) := by decide +kernel
theorem dX10_text_3 : decode cX10_text 3 = .ok (.invokestatic 47, 3) := by decide +kernel
theorem dX10_text_6 : decode cX10_text 6 = .ok (.ifCond .ne 9, 3) := by decide +kernel
theorem dX10_text_9 : decode cX10_text 9 = .ok (.aload_n 0, 1) := by decide +kernel
theorem dX10_text_10 : decode cX10_text 10 = .ok (.iconst 1, 1) := by decide +kernel
theorem dX10_text_11 : decode cX10_text 11 = .ok (.invokevirtual 51, 3) := by decide +kernel
theorem dX10_text_14 : decode cX10_text 14 = .ok (.ireturn, 1) := by decide +kernel
theorem dX10_text_15 : decode cX10_text 15 = .ok (.aload_n 0, 1) := by decide +kernel
theorem dX10_text_16 : decode cX10_text 16 = .ok (.iload_n 1, 1) := by decide +kernel
theorem dX10_text_17 : decode cX10_text 17 = .ok (.putfield 61, 3) := by decide +kernel
theorem dX10_text_20 : decode cX10_text 20 = .ok (.aload_n 0, 1) := by decide +kernel
theorem dX10_text_21 : decode cX10_text 21 = .ok (.iconst 0, 1) := by decide +kernel
theorem dX10_text_22 : decode cX10_text 22 = .ok (.putfield 57, 3) := by decide +kernel
theorem dX10_text_25 : decode cX10_text 25 = .ok (.aload_n 0, 1) := by decide +kernel
theorem dX10_text_26 : decode cX10_text 26 = .ok (.iconst 0, 1) := by decide +kernel
theorem dX10_text_27 : decode cX10_text 27 = .ok (.putfield 91, 3) := by decide +kernel
theorem dX10_text_30 : decode cX10_text 30 = .ok (.aload_n 0, 1) := by decide +kernel
theorem dX10_text_31 : decode cX10_text 31 = .ok (.iconst 0, 1) := by decide +kernel
theorem dX10_text_32 : decode cX10_text 32 = .ok (.putfield 64, 3) := by decide +kernel
theorem dX10_text_35 : decode cX10_text 35 = .ok (.aload_n 0, 1) := by decide +kernel
theorem dX10_text_36 : decode cX10_text 36 = .ok (.invokevirtual 101, 3) := by decide +kernel
theorem dX10_text_39 : decode cX10_text 39 = .ok (.ifCond .eq 20, 3) := by decide +kernel
theorem dX10_text_42 : decode cX10_text 42 = .ok (.aload_n 0, 1) := by decide +kernel
theorem dX10_text_43 : decode cX10_text 43 = .ok (.getfield 57, 3) := by decide +kernel
theorem dX10_text_46 : decode cX10_text 46 = .ok (.aload_n 0, 1) := by decide +kernel
theorem dX10_text_47 : decode cX10_text 47 = .ok (.getfield 7, 3) := by decide +kernel
theorem dX10_text_50 : decode cX10_text 50 = .ok (.iconst 2, 1) := by decide +kernel
theorem dX10_text_51 : decode cX10_text 51 = .ok (.iaload, 1) := by decide +kernel
theorem dX10_text_52 : decode cX10_text 52 = .ok (.if_icmp .ne 7, 3) := by decide +kernel
theorem dX10_text_55 : decode cX10_text 55 = .ok (.iconst 1, 1) := by decide +kernel
theorem dX10_text_56 : decode cX10_text 56 = .ok (.goto 4, 3) := by decide +kernel
theorem dX10_text_59 : decode cX10_text 59 = .ok (.iconst 0, 1) := by decide +kernel
theorem dX10_text_60 : decode cX10_text 60 = .ok (.istore_n 2, 1) := by decide +kernel
theorem dX10_text_61 : decode cX10_text 61 = .ok (.aload_n 0, 1) := by decide +kernel
theorem dX10_text_62 : decode cX10_text 62 = .ok (.getfield 7, 3) := by decide +kernel
theorem dX10_text_65 : decode cX10_text 65 = .ok (.iconst 2, 1) := by decide +kernel
theorem dX10_text_66 : decode cX10_text 66 = .ok (.iconst 0, 1) := by decide +kernel
theorem dX10_text_67 : decode cX10_text 67 = .ok (.iastore, 1) := by decide +kernel
theorem dX10_text_68 : decode cX10_text 68 = .ok (.iload_n 2, 1) := by decide +kernel
theorem dX10_text_69 : decode cX10_text 69 = .ok (.ifCond .ne 11, 3) := by decide +kernel
theorem dX10_text_72 : decode cX10_text 72 = .ok (.bipush (-10), 2) := by decide +kernel
theorem dX10_text_74 : decode cX10_text 74 = .ok (.aload_n 0, 1) := by decide +kernel
theorem dX10_text_75 : decode cX10_text 75 = .ok (.getfield 57, 3) := by decide +kernel
theorem dX10_text_78 : decode cX10_text 78 = .ok (.isub, 1) := by decide +kernel
theorem dX10_text_79 : decode cX10_text 79 = .ok (.ireturn, 1) := by decide +kernel
theorem dX10_text_80 : decode cX10_text 80 = .ok (.bipush 50, 2) := by decide +kernel
theorem dX10_text_82 : decode cX10_text 82 = .ok (.bipush 125, 2) := by decide +kernel
theorem dX10_text_84 : decode cX10_text 84 = .ok (.iload_n 1, 1) := by decide +kernel
theorem dX10_text_85 : decode cX10_text 85 = .ok (.imul, 1) := by decide +kernel
theorem dX10_text_86 : decode cX10_text 86 = .ok (.iadd, 1) := by decide +kernel
theorem dX10_text_87 : decode cX10_text 87 = .ok (.istore_n 3, 1) := by decide +kernel
theorem dX10_text_88 : decode cX10_text 88 = .ok (.aload_n 0, 1) := by decide +kernel
theorem dX10_text_89 : decode cX10_text 89 = .ok (.getfield 7, 3) := by decide +kernel
theorem dX10_text_92 : decode cX10_text 92 = .ok (.iload_n 3, 1) := by decide +kernel
theorem dX10_text_93 : decode cX10_text 93 = .ok (.aload_n 0, 1) := by decide +kernel
theorem dX10_text_94 : decode cX10_text 94 = .ok (.getfield 64, 3) := by decide +kernel
theorem dX10_text_97 : decode cX10_text 97 = .ok (.iastore, 1) := by decide +kernel
theorem dX10_text_98 : decode cX10_text 98 = .ok (.iconst 0, 1) := by decide +kernel
theorem dX10_text_99 : decode cX10_text 99 = .ok (.istore 4, 2) := by decide +kernel
theorem dX10_text_101 : decode cX10_text 101 = .ok (.iload 4, 2) := by decide +kernel
theorem dX10_text_103 : decode cX10_text 103 = .ok (.iconst 2, 1) := by decide +kernel
theorem dX10_text_104 : decode cX10_text 104 = .ok (.aload_n 0, 1) := by decide +kernel
theorem dX10_text_105 : decode cX10_text 105 = .ok (.getfield 64, 3) := by decide +kernel
theorem dX10_text_108 : decode cX10_text 108 = .ok (.imul, 1) := by decide +kernel
theorem dX10_text_109 : decode cX10_text 109 = .ok (.if_icmp .ge 27, 3) := by decide +kernel
theorem dX10_text_112 : decode cX10_text 112 = .ok (.aload_n 0, 1) := by decide +kernel
theorem dX10_text_113 : decode cX10_text 113 = .ok (.getfield 7, 3) := by decide +kernel
theorem dX10_text_116 : decode cX10_text 116 = .ok (.iload_n 3, 1) := by decide +kernel
theorem dX10_text_117 : decode cX10_text 117 = .ok (.iconst 1, 1) := by decide +kernel
theorem dX10_text_118 : decode cX10_text 118 = .ok (.iadd, 1) := by decide +kernel
theorem dX10_text_119 : decode cX10_text 119 = .ok (.iload 4, 2) := by decide +kernel
theorem dX10_text_121 : decode cX10_text 121 = .ok (.iadd, 1) := by decide +kernel
theorem dX10_text_122 : decode cX10_text 122 = .ok (.aload_n 0, 1) := by decide +kernel
theorem dX10_text_123 : decode cX10_text 123 = .ok (.getfield 22, 3) := by decide +kernel
theorem dX10_text_126 : decode cX10_text 126 = .ok (.iload 4, 2) := by decide +kernel
theorem dX10_text_128 : decode cX10_text 128 = .ok (.iaload, 1) := by decide +kernel
theorem dX10_text_129 : decode cX10_text 129 = .ok (.iastore, 1) := by decide +kernel
theorem dX10_text_130 : decode cX10_text 130 = .ok (.iinc 4 1, 3) := by decide +kernel
theorem dX10_text_133 : decode cX10_text 133 = .ok (.goto (-32), 3) := by decide +kernel
theorem dX10_text_136 : decode cX10_text 136 = .ok (.iconst 1, 1) := by decide +kernel
theorem dX10_text_137 : decode cX10_text 137 = .ok (.ireturn, 1) := by decide +kernel
theorem dX10_untell_0 : decode cX10_untell 0 = .ok (.iload_n 1, 1) := by decide +kernel
theorem dX10_untell_1 : decode cX10_untell 1 = .ok (.iconst 0, 1) := by decide +kernel
theorem dX10_untell_2 : decode cX10_untell 2 = .ok (.iconst 1, 1) := by decide +kernel
theorem dX10_untell_3 : decode cX10_untell 3 = .ok (.invokestatic 47, 3) := by decide +kernel
theorem dX10_untell_6 : decode cX10_untell 6 = .ok (.ifCond .ne 9, 3) := by decide +kernel
theorem dX10_untell_9 : decode cX10_untell 9 = .ok (.aload_n 0, 1) := by decide +kernel
theorem dX10_untell_10 : decode cX10_untell 10 = .ok (.iconst 1, 1) := by decide +kernel
theorem dX10_untell_11 : decode cX10_untell 11 = .ok (.invokevirtual 51, 3) := by decide +kernel
theorem dX10_untell_14 : decode cX10_untell 14 = .ok (.ireturn, 1) := by decide +kernel
theorem dX10_untell_15 : decode cX10_untell 15 = .ok (.aload_n 0, 1) := by decide +kernel
theorem dX10_untell_16 : decode cX10_untell 16 = .ok (.iload_n 1, 1) := by decide +kernel
theorem dX10_untell_17 : decode cX10_untell 17 = .ok (.invokevirtual 104, 3) := by decide +kernel
theorem dX10_untell_20 : decode cX10_untell 20 = .ok (.ifCond .eq 7, 3) := by decide +kernel
theorem dX10_untell_23 : decode cX10_untell 23 = .ok (.iconst 1, 1) := by decide +kernel
theorem dX10_untell_24 : decode cX10_untell 24 = .ok (.goto 4, 3) := by decide +kernel
theorem dX10_untell_27 : decode cX10_untell 27 = .ok (.iconst 0, 1) := by decide +kernel
theorem dX10_untell_28 : decode cX10_untell 28 = .ok (.istore_n 2, 1) := by decide +kernel
theorem dX10_untell_29 : decode cX10_untell 29 = .ok (.aload_n 0, 1) := by decide +kernel
theorem dX10_untell_30 : decode cX10_untell 30 = .ok (.getfield 7, 3) := by decide +kernel
theorem dX10_untell_33 : decode cX10_untell 33 = .ok (.bipush 50, 2) := by decide +kernel
theorem dX10_untell_35 : decode cX10_untell 35 = .ok (.bipush 125, 2) := by decide +kernel
theorem dX10_untell_37 : decode cX10_untell 37 = .ok (.iload_n 1, 1) := by decide +kernel
theorem dX10_untell_38 : decode cX10_untell 38 = .ok (.imul, 1) := by decide +kernel
theorem dX10_untell_39 : decode cX10_untell 39 = .ok (.iadd, 1) := by decide +kernel
theorem dX10_untell_40 : decode cX10_untell 40 = .ok (.iconst 0, 1) := by decide +kernel
theorem dX10_untell_41 : decode cX10_untell 41 = .ok (.iastore, 1) := by decide +kernel
theorem dX10_untell_42 : decode cX10_untell 42 = .ok (.iload_n 2, 1) := by decide +kernel
theorem dX10_untell_43 : decode cX10_untell 43 = .ok (.ireturn, 1) := by decide +kernel
theorem dX10_joined_0 : decode cX10_joined 0 = .ok (.iload_n 0, 1) := by decide +kernel
theorem dX10_joined_1 : decode cX10_joined 1 = .ok (.tableswitch 217 37 62 #[153, 203, 217, 217, 217, 127, 119, 217, 123, 217, 131, 217, 217, 217, 217, 217, 217, 217, 217, 217, 217, 217, 217, 170, 192, 181], 119) := by decide +kernel
theorem dX10_joined_120 : decode cX10_joined 120 = .ok (.iload_n 1, 1) := by decide +kernel
theorem dX10_joined_121 : decode cX10_joined 121 = .ok (.iload_n 2, 1) := by decide +kernel
theorem dX10_joined_122 : decode cX10_joined 122 = .ok (.iadd, 1) := by decide +kernel
theorem dX10_joined_123 : decode cX10_joined 123 = .ok (.ireturn, 1) := by decide +kernel
theorem dX10_joined_124 : decode cX10_joined 124 = .ok (.iload_n 1, 1) := by decide +kernel
theorem dX10_joined_125 : decode cX10_joined 125 = .ok (.iload_n 2, 1) := by decide +kernel
theorem dX10_joined_126 : decode cX10_joined 126 = .ok (.isub, 1) := by decide +kernel
theorem dX10_joined_127 : decode cX10_joined 127 = .ok (.ireturn, 1) := by decide +kernel
theorem dX10_joined_128 : decode cX10_joined 128 = .ok (.iload_n 1, 1) := by decide +kernel
theorem dX10_joined_129 : decode cX10_joined 129 = .ok (.iload_n 2, 1) := by decide +kernel
theorem dX10_joined_130 : decode cX10_joined 130 = .ok (.imul, 1) := by decide +kernel
theorem dX10_joined_131 : decode cX10_joined 131 = .ok (.ireturn, 1) := by decide +kernel
theorem dX10_joined_132 : decode cX10_joined 132 = .ok (.iload_n 2, 1) := by decide +kernel
theorem dX10_joined_133 : decode cX10_joined 133 = .ok (.ifCond .ne 7, 3) := by decide +kernel
theorem dX10_joined_136 : decode cX10_joined 136 = .ok (.iconst 0, 1) := by decide +kernel
theorem dX10_joined_137 : decode cX10_joined 137 = .ok (.goto 16, 3) := by decide +kernel
theorem dX10_joined_140 : decode cX10_joined 140 = .ok (.iload_n 2, 1) := by decide +kernel
theorem dX10_joined_141 : decode cX10_joined 141 = .ok (.iconst (-1), 1) := by decide +kernel
theorem dX10_joined_142 : decode cX10_joined 142 = .ok (.if_icmp .ne 8, 3) := by decide +kernel
theorem dX10_joined_145 : decode cX10_joined 145 = .ok (.iload_n 1, 1) := by decide +kernel
theorem dX10_joined_146 : decode cX10_joined 146 = .ok (.ineg, 1) := by decide +kernel
theorem dX10_joined_147 : decode cX10_joined 147 = .ok (.goto 6, 3) := by decide +kernel
theorem dX10_joined_150 : decode cX10_joined 150 = .ok (.iload_n 1, 1) := by decide +kernel
theorem dX10_joined_151 : decode cX10_joined 151 = .ok (.iload_n 2, 1) := by decide +kernel
theorem dX10_joined_152 : decode cX10_joined 152 = .ok (.idiv, 1) := by decide +kernel
theorem dX10_joined_153 : decode cX10_joined 153 = .ok (.ireturn, 1) := by decide +kernel
theorem dX10_joined_154 : decode cX10_joined 154 = .ok (.iload_n 2, 1) := by decide +kernel
theorem dX10_joined_155 : decode cX10_joined 155 = .ok (.ifCond .eq 8, 3) := by decide +kernel
theorem dX10_joined_158 : decode cX10_joined 158 = .ok (.iload_n 2, 1) := by decide +kernel
theorem dX10_joined_159 : decode cX10_joined 159 = .ok (.iconst (-1), 1) := by decide +kernel
theorem dX10_joined_160 : decode cX10_joined 160 = .ok (.if_icmp .ne 7, 3) := by decide +kernel
theorem dX10_joined_163 : decode cX10_joined 163 = .ok (.iconst 0, 1) := by decide +kernel
theorem dX10_joined_164 : decode cX10_joined 164 = .ok (.goto 6, 3) := by decide +kernel
theorem dX10_joined_167 : decode cX10_joined 167 = .ok (.iload_n 1, 1) := by decide +kernel
theorem dX10_joined_168 : decode cX10_joined 168 = .ok (.iload_n 2, 1) := by decide +kernel
theorem dX10_joined_169 : decode cX10_joined 169 = .ok (.irem, 1) := by decide +kernel
theorem dX10_joined_170 : decode cX10_joined 170 = .ok (.ireturn, 1) := by decide +kernel
theorem dX10_joined_171 : decode cX10_joined 171 = .ok (.iload_n 1, 1) := by decide +kernel
theorem dX10_joined_172 : decode cX10_joined 172 = .ok (.iload_n 2, 1) := by decide +kernel
theorem dX10_joined_173 : decode cX10_joined 173 = .ok (.if_icmp .ge 7, 3) := by decide +kernel
theorem dX10_joined_176 : decode cX10_joined 176 = .ok (.iconst 1, 1) := by decide +kernel
theorem dX10_joined_177 : decode cX10_joined 177 = .ok (.goto 4, 3) := by decide +kernel
theorem dX10_joined_180 : decode cX10_joined 180 = .ok (.iconst 0, 1) := by decide +kernel
theorem dX10_joined_181 : decode cX10_joined 181 = .ok (.ireturn, 1) := by decide +kernel
theorem dX10_joined_182 : decode cX10_joined 182 = .ok (.iload_n 1, 1) := by decide +kernel
theorem dX10_joined_183 : decode cX10_joined 183 = .ok (.iload_n 2, 1) := by decide +kernel
theorem dX10_joined_184 : decode cX10_joined 184 = .ok (.if_icmp .le 7, 3) := by decide +kernel
theorem dX10_joined_187 : decode cX10_joined 187 = .ok (.iconst 1, 1) := by decide +kernel
theorem dX10_joined_188 : decode cX10_joined 188 = .ok (.goto 4, 3) := by decide +kernel
theorem dX10_joined_191 : decode cX10_joined 191 = .ok (.iconst 0, 1) := by decide +kernel
theorem dX10_joined_192 : decode cX10_joined 192 = .ok (.ireturn, 1) := by decide +kernel
theorem dX10_joined_193 : decode cX10_joined 193 = .ok (.iload_n 1, 1) := by decide +kernel
theorem dX10_joined_194 : decode cX10_joined 194 = .ok (.iload_n 2, 1) := by decide +kernel
theorem dX10_joined_195 : decode cX10_joined 195 = .ok (.if_icmp .ne 7, 3) := by decide +kernel
theorem dX10_joined_198 : decode cX10_joined 198 = .ok (.iconst 1, 1) := by decide +kernel
theorem dX10_joined_199 : decode cX10_joined 199 = .ok (.goto 4, 3) := by decide +kernel
theorem dX10_joined_202 : decode cX10_joined 202 = .ok (.iconst 0, 1) := by decide +kernel
theorem dX10_joined_203 : decode cX10_joined 203 = .ok (.ireturn, 1) := by decide +kernel
theorem dX10_joined_204 : decode cX10_joined 204 = .ok (.iload_n 1, 1) := by decide +kernel
theorem dX10_joined_205 : decode cX10_joined 205 = .ok (.ifCond .eq 11, 3) := by decide +kernel
theorem dX10_joined_208 : decode cX10_joined 208 = .ok (.iload_n 2, 1) := by decide +kernel
theorem dX10_joined_209 : decode cX10_joined 209 = .ok (.ifCond .eq 7, 3) := by decide +kernel
theorem dX10_joined_212 : decode cX10_joined 212 = .ok (.iconst 1, 1) := by decide +kernel
theorem dX10_joined_213 : decode cX10_joined 213 = .ok (.goto 4, 3) := by decide +kernel
theorem dX10_joined_216 : decode cX10_joined 216 = .ok (.iconst 0, 1) := by decide +kernel
theorem dX10_joined_217 : decode cX10_joined 217 = .ok (.ireturn, 1) := by decide +kernel
theorem dX10_joined_218 : decode cX10_joined 218 = .ok (.iload_n 1, 1) := by decide +kernel
theorem dX10_joined_219 : decode cX10_joined 219 = .ok (.ifCond .ne 7, 3) := by decide +kernel
theorem dX10_joined_222 : decode cX10_joined 222 = .ok (.iload_n 2, 1) := by decide +kernel
theorem dX10_joined_223 : decode cX10_joined 223 = .ok (.ifCond .eq 7, 3) := by decide +kernel
theorem dX10_joined_226 : decode cX10_joined 226 = .ok (.iconst 1, 1) := by decide +kernel
theorem dX10_joined_227 : decode cX10_joined 227 = .ok (.goto 4, 3) := by decide +kernel
theorem dX10_joined_230 : decode cX10_joined 230 = .ok (.iconst 0, 1) := by decide +kernel
theorem dX10_joined_231 : decode cX10_joined 231 = .ok (.ireturn, 1) := by decide +kernel
theorem dX10_worked_0 : decode cX10_worked 0 = .ok (.bipush 50, 2) := by decide +kernel
theorem dX10_worked_2 : decode cX10_worked 2 = .ok (.bipush 125, 2) := by decide +kernel
theorem dX10_worked_4 : decode cX10_worked 4 = .ok (.iload_n 1, 1) := by decide +kernel
theorem dX10_worked_5 : decode cX10_worked 5 = .ok (.imul, 1) := by decide +kernel
theorem dX10_worked_6 : decode cX10_worked 6 = .ok (.iadd, 1) := by decide +kernel
theorem dX10_worked_7 : decode cX10_worked 7 = .ok (.istore_n 2, 1) := by decide +kernel
theorem dX10_worked_8 : decode cX10_worked 8 = .ok (.iconst 0, 1) := by decide +kernel
theorem dX10_worked_9 : decode cX10_worked 9 = .ok (.istore_n 3, 1) := by decide +kernel
theorem dX10_worked_10 : decode cX10_worked 10 = .ok (.iconst 0, 1) := by decide +kernel
theorem dX10_worked_11 : decode cX10_worked 11 = .ok (.istore 4, 2) := by decide +kernel
theorem dX10_worked_13 : decode cX10_worked 13 = .ok (.iload 4, 2) := by decide +kernel
theorem dX10_worked_15 : decode cX10_worked 15 = .ok (.aload_n 0, 1) := by decide +kernel
theorem dX10_worked_16 : decode cX10_worked 16 = .ok (.getfield 7, 3) := by decide +kernel
theorem dX10_worked_19 : decode cX10_worked 19 = .ok (.iload_n 2, 1) := by decide +kernel
theorem dX10_worked_20 : decode cX10_worked 20 = .ok (.iaload, 1) := by decide +kernel
theorem dX10_worked_21 : decode cX10_worked 21 = .ok (.if_icmp .ge 142, 3) := by decide +kernel
theorem dX10_worked_24 : decode cX10_worked 24 = .ok (.aload_n 0, 1) := by decide +kernel
theorem dX10_worked_25 : decode cX10_worked 25 = .ok (.getfield 7, 3) := by decide +kernel
theorem dX10_worked_28 : decode cX10_worked 28 = .ok (.iload_n 2, 1) := by decide +kernel
theorem dX10_worked_29 : decode cX10_worked 29 = .ok (.iconst 1, 1) := by decide +kernel
theorem dX10_worked_30 : decode cX10_worked 30 = .ok (.iadd, 1) := by decide +kernel
theorem dX10_worked_31 : decode cX10_worked 31 = .ok (.iconst 2, 1) := by decide +kernel
theorem dX10_worked_32 : decode cX10_worked 32 = .ok (.iload 4, 2) := by decide +kernel
theorem dX10_worked_34 : decode cX10_worked 34 = .ok (.imul, 1) := by decide +kernel
theorem dX10_worked_35 : decode cX10_worked 35 = .ok (.iadd, 1) := by decide +kernel
theorem dX10_worked_36 : decode cX10_worked 36 = .ok (.iaload, 1) := by decide +kernel
theorem dX10_worked_37 : decode cX10_worked 37 = .ok (.istore 5, 2) := by decide +kernel
theorem dX10_worked_39 : decode cX10_worked 39 = .ok (.aload_n 0, 1) := by decide +kernel
theorem dX10_worked_40 : decode cX10_worked 40 = .ok (.getfield 7, 3) := by decide +kernel
theorem dX10_worked_43 : decode cX10_worked 43 = .ok (.iload_n 2, 1) := by decide +kernel
theorem dX10_worked_44 : decode cX10_worked 44 = .ok (.iconst 2, 1) := by decide +kernel
theorem dX10_worked_45 : decode cX10_worked 45 = .ok (.iadd, 1) := by decide +kernel
theorem dX10_worked_46 : decode cX10_worked 46 = .ok (.iconst 2, 1) := by decide +kernel
theorem dX10_worked_47 : decode cX10_worked 47 = .ok (.iload 4, 2) := by decide +kernel
theorem dX10_worked_49 : decode cX10_worked 49 = .ok (.imul, 1) := by decide +kernel
theorem dX10_worked_50 : decode cX10_worked 50 = .ok (.iadd, 1) := by decide +kernel
theorem dX10_worked_51 : decode cX10_worked 51 = .ok (.iaload, 1) := by decide +kernel
theorem dX10_worked_52 : decode cX10_worked 52 = .ok (.istore 6, 2) := by decide +kernel
theorem dX10_worked_54 : decode cX10_worked 54 = .ok (.iload 5, 2) := by decide +kernel
theorem dX10_worked_56 : decode cX10_worked 56 = .ok (.ifCond .eq 9, 3) := by decide +kernel
theorem dX10_worked_59 : decode cX10_worked 59 = .ok (.iload 5, 2) := by decide +kernel
theorem dX10_worked_61 : decode cX10_worked 61 = .ok (.iconst 1, 1) := by decide +kernel
theorem dX10_worked_62 : decode cX10_worked 62 = .ok (.if_icmp .ne 32, 3) := by decide +kernel
theorem dX10_worked_65 : decode cX10_worked 65 = .ok (.aload_n 0, 1) := by decide +kernel
theorem dX10_worked_66 : decode cX10_worked 66 = .ok (.getfield 28, 3) := by decide +kernel
theorem dX10_worked_69 : decode cX10_worked 69 = .ok (.iload_n 3, 1) := by decide +kernel
theorem dX10_worked_70 : decode cX10_worked 70 = .ok (.iload 5, 2) := by decide +kernel
theorem dX10_worked_72 : decode cX10_worked 72 = .ok (.ifCond .ne 8, 3) := by decide +kernel
theorem dX10_worked_75 : decode cX10_worked 75 = .ok (.iload 6, 2) := by decide +kernel
theorem dX10_worked_77 : decode cX10_worked 77 = .ok (.goto 10, 3) := by decide +kernel
theorem dX10_worked_80 : decode cX10_worked 80 = .ok (.aload_n 0, 1) := by decide +kernel
theorem dX10_worked_81 : decode cX10_worked 81 = .ok (.getfield 25, 3) := by decide +kernel
theorem dX10_worked_84 : decode cX10_worked 84 = .ok (.iload 6, 2) := by decide +kernel
theorem dX10_worked_86 : decode cX10_worked 86 = .ok (.iaload, 1) := by decide +kernel
theorem dX10_worked_87 : decode cX10_worked 87 = .ok (.iastore, 1) := by decide +kernel
theorem dX10_worked_88 : decode cX10_worked 88 = .ok (.iinc 3 1, 3) := by decide +kernel
theorem dX10_worked_91 : decode cX10_worked 91 = .ok (.goto 66, 3) := by decide +kernel
theorem dX10_worked_94 : decode cX10_worked 94 = .ok (.iload 5, 2) := by decide +kernel
theorem dX10_worked_96 : decode cX10_worked 96 = .ok (.iconst 2, 1) := by decide +kernel
theorem dX10_worked_97 : decode cX10_worked 97 = .ok (.if_icmp .ne 30, 3) := by decide +kernel
theorem dX10_worked_100 : decode cX10_worked 100 = .ok (.aload_n 0, 1) := by decide +kernel
theorem dX10_worked_101 : decode cX10_worked 101 = .ok (.getfield 28, 3) := by decide +kernel
theorem dX10_worked_104 : decode cX10_worked 104 = .ok (.iload_n 3, 1) := by decide +kernel
theorem dX10_worked_105 : decode cX10_worked 105 = .ok (.iconst 1, 1) := by decide +kernel
theorem dX10_worked_106 : decode cX10_worked 106 = .ok (.isub, 1) := by decide +kernel
theorem dX10_worked_107 : decode cX10_worked 107 = .ok (.aload_n 0, 1) := by decide +kernel
theorem dX10_worked_108 : decode cX10_worked 108 = .ok (.getfield 28, 3) := by decide +kernel
theorem dX10_worked_111 : decode cX10_worked 111 = .ok (.iload_n 3, 1) := by decide +kernel
theorem dX10_worked_112 : decode cX10_worked 112 = .ok (.iconst 1, 1) := by decide +kernel
theorem dX10_worked_113 : decode cX10_worked 113 = .ok (.isub, 1) := by decide +kernel
theorem dX10_worked_114 : decode cX10_worked 114 = .ok (.iaload, 1) := by decide +kernel
theorem dX10_worked_115 : decode cX10_worked 115 = .ok (.ifCond .ne 7, 3) := by decide +kernel
theorem dX10_worked_118 : decode cX10_worked 118 = .ok (.iconst 1, 1) := by decide +kernel
theorem dX10_worked_119 : decode cX10_worked 119 = .ok (.goto 4, 3) := by decide +kernel
theorem dX10_worked_122 : decode cX10_worked 122 = .ok (.iconst 0, 1) := by decide +kernel
theorem dX10_worked_123 : decode cX10_worked 123 = .ok (.iastore, 1) := by decide +kernel
theorem dX10_worked_124 : decode cX10_worked 124 = .ok (.goto 33, 3) := by decide +kernel
theorem dX10_worked_127 : decode cX10_worked 127 = .ok (.iinc 3 (-1), 3) := by decide +kernel
theorem dX10_worked_130 : decode cX10_worked 130 = .ok (.aload_n 0, 1) := by decide +kernel
theorem dX10_worked_131 : decode cX10_worked 131 = .ok (.getfield 28, 3) := by decide +kernel
theorem dX10_worked_134 : decode cX10_worked 134 = .ok (.iload_n 3, 1) := by decide +kernel
theorem dX10_worked_135 : decode cX10_worked 135 = .ok (.iconst 1, 1) := by decide +kernel
theorem dX10_worked_136 : decode cX10_worked 136 = .ok (.isub, 1) := by decide +kernel
theorem dX10_worked_137 : decode cX10_worked 137 = .ok (.iload 6, 2) := by decide +kernel
theorem dX10_worked_139 : decode cX10_worked 139 = .ok (.aload_n 0, 1) := by decide +kernel
theorem dX10_worked_140 : decode cX10_worked 140 = .ok (.getfield 28, 3) := by decide +kernel
theorem dX10_worked_143 : decode cX10_worked 143 = .ok (.iload_n 3, 1) := by decide +kernel
theorem dX10_worked_144 : decode cX10_worked 144 = .ok (.iconst 1, 1) := by decide +kernel
theorem dX10_worked_145 : decode cX10_worked 145 = .ok (.isub, 1) := by decide +kernel
theorem dX10_worked_146 : decode cX10_worked 146 = .ok (.iaload, 1) := by decide +kernel
theorem dX10_worked_147 : decode cX10_worked 147 = .ok (.aload_n 0, 1) := by decide +kernel
theorem dX10_worked_148 : decode cX10_worked 148 = .ok (.getfield 28, 3) := by decide +kernel
theorem dX10_worked_151 : decode cX10_worked 151 = .ok (.iload_n 3, 1) := by decide +kernel
theorem dX10_worked_152 : decode cX10_worked 152 = .ok (.iaload, 1) := by decide +kernel
theorem dX10_worked_153 : decode cX10_worked 153 = .ok (.invokestatic 107, 3) := by decide +kernel
theorem dX10_worked_156 : decode cX10_worked 156 = .ok (.iastore, 1) := by decide +kernel
theorem dX10_worked_157 : decode cX10_worked 157 = .ok (.iinc 4 1, 3) := by decide +kernel
theorem dX10_worked_160 : decode cX10_worked 160 = .ok (.goto (-147), 3) := by decide +kernel
theorem dX10_worked_163 : decode cX10_worked 163 = .ok (.aload_n 0, 1) := by decide +kernel
theorem dX10_worked_164 : decode cX10_worked 164 = .ok (.getfield 28, 3) := by decide +kernel
theorem dX10_worked_167 : decode cX10_worked 167 = .ok (.iconst 0, 1) := by decide +kernel
theorem dX10_worked_168 : decode cX10_worked 168 = .ok (.iaload, 1) := by decide +kernel
theorem dX10_worked_169 : decode cX10_worked 169 = .ok (.ireturn, 1) := by decide +kernel
theorem dX10_blinksNow_0 : decode cX10_blinksNow 0 = .ok (.aload_n 0, 1) := by decide +kernel
theorem dX10_blinksNow_1 : decode cX10_blinksNow 1 = .ok (.getfield 7, 3) := by decide +kernel
theorem dX10_blinksNow_4 : decode cX10_blinksNow 4 = .ok (.iconst 0, 1) := by decide +kernel
theorem dX10_blinksNow_5 : decode cX10_blinksNow 5 = .ok (.iaload, 1) := by decide +kernel
theorem dX10_blinksNow_6 : decode cX10_blinksNow 6 = .ok (.istore_n 2, 1) := by decide +kernel
theorem dX10_blinksNow_7 : decode cX10_blinksNow 7 = .ok (.aload_n 0, 1) := by decide +kernel
theorem dX10_blinksNow_8 : decode cX10_blinksNow 8 = .ok (.iload_n 1, 1) := by decide +kernel
theorem dX10_blinksNow_9 : decode cX10_blinksNow 9 = .ok (.iconst 1, 1) := by decide +kernel
theorem dX10_blinksNow_10 : decode cX10_blinksNow 10 = .ok (.invokevirtual 111, 3) := by decide +kernel
theorem dX10_blinksNow_13 : decode cX10_blinksNow 13 = .ok (.istore_n 3, 1) := by decide +kernel
theorem dX10_blinksNow_14 : decode cX10_blinksNow 14 = .ok (.iload_n 2, 1) := by decide +kernel
theorem dX10_blinksNow_15 : decode cX10_blinksNow 15 = .ok (.aload_n 0, 1) := by decide +kernel
theorem dX10_blinksNow_16 : decode cX10_blinksNow 16 = .ok (.iload_n 1, 1) := by decide +kernel
theorem dX10_blinksNow_17 : decode cX10_blinksNow 17 = .ok (.iconst 3, 1) := by decide +kernel
theorem dX10_blinksNow_18 : decode cX10_blinksNow 18 = .ok (.invokevirtual 111, 3) := by decide +kernel
theorem dX10_blinksNow_21 : decode cX10_blinksNow 21 = .ok (.iadd, 1) := by decide +kernel
theorem dX10_blinksNow_22 : decode cX10_blinksNow 22 = .ok (.aload_n 0, 1) := by decide +kernel
theorem dX10_blinksNow_23 : decode cX10_blinksNow 23 = .ok (.iload_n 1, 1) := by decide +kernel
theorem dX10_blinksNow_24 : decode cX10_blinksNow 24 = .ok (.iconst 2, 1) := by decide +kernel
theorem dX10_blinksNow_25 : decode cX10_blinksNow 25 = .ok (.invokevirtual 111, 3) := by decide +kernel
theorem dX10_blinksNow_28 : decode cX10_blinksNow 28 = .ok (.irem, 1) := by decide +kernel
theorem dX10_blinksNow_29 : decode cX10_blinksNow 29 = .ok (.istore 4, 2) := by decide +kernel
theorem dX10_blinksNow_31 : decode cX10_blinksNow 31 = .ok (.iload 4, 2) := by decide +kernel
theorem dX10_blinksNow_33 : decode cX10_blinksNow 33 = .ok (.ifCond .ne 16, 3) := by decide +kernel
theorem dX10_blinksNow_36 : decode cX10_blinksNow 36 = .ok (.iload_n 2, 1) := by decide +kernel
theorem dX10_blinksNow_37 : decode cX10_blinksNow 37 = .ok (.iconst 3, 1) := by decide +kernel
theorem dX10_blinksNow_38 : decode cX10_blinksNow 38 = .ok (.irem, 1) := by decide +kernel
theorem dX10_blinksNow_39 : decode cX10_blinksNow 39 = .ok (.iload_n 3, 1) := by decide +kernel
theorem dX10_blinksNow_40 : decode cX10_blinksNow 40 = .ok (.iconst 3, 1) := by decide +kernel
theorem dX10_blinksNow_41 : decode cX10_blinksNow 41 = .ok (.irem, 1) := by decide +kernel
theorem dX10_blinksNow_42 : decode cX10_blinksNow 42 = .ok (.if_icmp .eq 7, 3) := by decide +kernel
theorem dX10_blinksNow_45 : decode cX10_blinksNow 45 = .ok (.iconst 1, 1) := by decide +kernel
theorem dX10_blinksNow_46 : decode cX10_blinksNow 46 = .ok (.goto 4, 3) := by decide +kernel
theorem dX10_blinksNow_49 : decode cX10_blinksNow 49 = .ok (.iconst 0, 1) := by decide +kernel
theorem dX10_blinksNow_50 : decode cX10_blinksNow 50 = .ok (.istore 5, 2) := by decide +kernel
theorem dX10_blinksNow_52 : decode cX10_blinksNow 52 = .ok (.aload_n 0, 1) := by decide +kernel
theorem dX10_blinksNow_53 : decode cX10_blinksNow 53 = .ok (.iload_n 1, 1) := by decide +kernel
theorem dX10_blinksNow_54 : decode cX10_blinksNow 54 = .ok (.iconst 0, 1) := by decide +kernel
theorem dX10_blinksNow_55 : decode cX10_blinksNow 55 = .ok (.invokevirtual 111, 3) := by decide +kernel
theorem dX10_blinksNow_58 : decode cX10_blinksNow 58 = .ok (.tableswitch 107 2 6 #[34, 37, 49, 68, 85], 34) := by decide +kernel
theorem dX10_blinksNow_92 : decode cX10_blinksNow 92 = .ok (.iload 5, 2) := by decide +kernel
theorem dX10_blinksNow_94 : decode cX10_blinksNow 94 = .ok (.ireturn, 1) := by decide +kernel
theorem dX10_blinksNow_95 : decode cX10_blinksNow 95 = .ok (.iload 4, 2) := by decide +kernel
theorem dX10_blinksNow_97 : decode cX10_blinksNow 97 = .ok (.iconst 2, 1) := by decide +kernel
theorem dX10_blinksNow_98 : decode cX10_blinksNow 98 = .ok (.if_icmp .ge 7, 3) := by decide +kernel
theorem dX10_blinksNow_101 : decode cX10_blinksNow 101 = .ok (.iconst 1, 1) := by decide +kernel
theorem dX10_blinksNow_102 : decode cX10_blinksNow 102 = .ok (.goto 4, 3) := by decide +kernel
theorem dX10_blinksNow_105 : decode cX10_blinksNow 105 = .ok (.iconst 0, 1) := by decide +kernel
theorem dX10_blinksNow_106 : decode cX10_blinksNow 106 = .ok (.ireturn, 1) := by decide +kernel
theorem dX10_blinksNow_107 : decode cX10_blinksNow 107 = .ok (.iload 4, 2) := by decide +kernel
theorem dX10_blinksNow_109 : decode cX10_blinksNow 109 = .ok (.ifCond .eq 11, 3) := by decide +kernel
theorem dX10_blinksNow_112 : decode cX10_blinksNow 112 = .ok (.iload_n 2, 1) := by decide +kernel
theorem dX10_blinksNow_113 : decode cX10_blinksNow 113 = .ok (.bipush 12, 2) := by decide +kernel
theorem dX10_blinksNow_115 : decode cX10_blinksNow 115 = .ok (.irem, 1) := by decide +kernel
theorem dX10_blinksNow_116 : decode cX10_blinksNow 116 = .ok (.iload_n 3, 1) := by decide +kernel
theorem dX10_blinksNow_117 : decode cX10_blinksNow 117 = .ok (.if_icmp .ne 7, 3) := by decide +kernel
theorem dX10_blinksNow_120 : decode cX10_blinksNow 120 = .ok (.iconst 1, 1) := by decide +kernel
theorem dX10_blinksNow_121 : decode cX10_blinksNow 121 = .ok (.goto 4, 3) := by decide +kernel
theorem dX10_blinksNow_124 : decode cX10_blinksNow 124 = .ok (.iconst 0, 1) := by decide +kernel
theorem dX10_blinksNow_125 : decode cX10_blinksNow 125 = .ok (.ireturn, 1) := by decide +kernel
theorem dX10_blinksNow_126 : decode cX10_blinksNow 126 = .ok (.iload 5, 2) := by decide +kernel
theorem dX10_blinksNow_128 : decode cX10_blinksNow 128 = .ok (.ifCond .eq 13, 3) := by decide +kernel
theorem dX10_blinksNow_131 : decode cX10_blinksNow 131 = .ok (.iload_n 3, 1) := by decide +kernel
theorem dX10_blinksNow_132 : decode cX10_blinksNow 132 = .ok (.bipush 6, 2) := by decide +kernel
theorem dX10_blinksNow_134 : decode cX10_blinksNow 134 = .ok (.if_icmp .le 7, 3) := by decide +kernel
theorem dX10_blinksNow_137 : decode cX10_blinksNow 137 = .ok (.iconst 1, 1) := by decide +kernel
theorem dX10_blinksNow_138 : decode cX10_blinksNow 138 = .ok (.goto 4, 3) := by decide +kernel
theorem dX10_blinksNow_141 : decode cX10_blinksNow 141 = .ok (.iconst 0, 1) := by decide +kernel
theorem dX10_blinksNow_142 : decode cX10_blinksNow 142 = .ok (.ireturn, 1) := by decide +kernel
theorem dX10_blinksNow_143 : decode cX10_blinksNow 143 = .ok (.iload 4, 2) := by decide +kernel
theorem dX10_blinksNow_145 : decode cX10_blinksNow 145 = .ok (.ifCond .eq 14, 3) := by decide +kernel
theorem dX10_blinksNow_148 : decode cX10_blinksNow 148 = .ok (.iload_n 2, 1) := by decide +kernel
theorem dX10_blinksNow_149 : decode cX10_blinksNow 149 = .ok (.bipush 7, 2) := by decide +kernel
theorem dX10_blinksNow_151 : decode cX10_blinksNow 151 = .ok (.irem, 1) := by decide +kernel
theorem dX10_blinksNow_152 : decode cX10_blinksNow 152 = .ok (.iload_n 3, 1) := by decide +kernel
theorem dX10_blinksNow_153 : decode cX10_blinksNow 153 = .ok (.bipush 7, 2) := by decide +kernel
theorem dX10_blinksNow_155 : decode cX10_blinksNow 155 = .ok (.irem, 1) := by decide +kernel
theorem dX10_blinksNow_156 : decode cX10_blinksNow 156 = .ok (.if_icmp .ne 7, 3) := by decide +kernel
theorem dX10_blinksNow_159 : decode cX10_blinksNow 159 = .ok (.iconst 1, 1) := by decide +kernel
theorem dX10_blinksNow_160 : decode cX10_blinksNow 160 = .ok (.goto 4, 3) := by decide +kernel
theorem dX10_blinksNow_163 : decode cX10_blinksNow 163 = .ok (.iconst 0, 1) := by decide +kernel
theorem dX10_blinksNow_164 : decode cX10_blinksNow 164 = .ok (.ireturn, 1) := by decide +kernel
theorem dX10_blinksNow_165 : decode cX10_blinksNow 165 = .ok (.iload 4, 2) := by decide +kernel
theorem dX10_blinksNow_167 : decode cX10_blinksNow 167 = .ok (.ifCond .ne 7, 3) := by decide +kernel
theorem dX10_blinksNow_170 : decode cX10_blinksNow 170 = .ok (.iconst 1, 1) := by decide +kernel
theorem dX10_blinksNow_171 : decode cX10_blinksNow 171 = .ok (.goto 4, 3) := by decide +kernel
theorem dX10_blinksNow_174 : decode cX10_blinksNow 174 = .ok (.iconst 0, 1) := by decide +kernel
theorem dX10_blinksNow_175 : decode cX10_blinksNow 175 = .ok (.ireturn, 1) := by decide +kernel
theorem dX10_triesOf_0 : decode cX10_triesOf 0 = .ok (.iconst 2, 1) := by decide +kernel
theorem dX10_triesOf_1 : decode cX10_triesOf 1 = .ok (.aload_n 0, 1) := by decide +kernel
theorem dX10_triesOf_2 : decode cX10_triesOf 2 = .ok (.iload_n 1, 1) := by decide +kernel
theorem dX10_triesOf_3 : decode cX10_triesOf 3 = .ok (.iconst 1, 1) := by decide +kernel
theorem dX10_triesOf_4 : decode cX10_triesOf 4 = .ok (.invokevirtual 111, 3) := by decide +kernel
theorem dX10_triesOf_7 : decode cX10_triesOf 7 = .ok (.iconst 5, 1) := by decide +kernel
theorem dX10_triesOf_8 : decode cX10_triesOf 8 = .ok (.idiv, 1) := by decide +kernel
theorem dX10_triesOf_9 : decode cX10_triesOf 9 = .ok (.iadd, 1) := by decide +kernel
theorem dX10_triesOf_10 : decode cX10_triesOf 10 = .ok (.istore_n 2, 1) := by decide +kernel
theorem dX10_triesOf_11 : decode cX10_triesOf 11 = .ok (.aload_n 0, 1) := by decide +kernel
theorem dX10_triesOf_12 : decode cX10_triesOf 12 = .ok (.iload_n 1, 1) := by decide +kernel
theorem dX10_triesOf_13 : decode cX10_triesOf 13 = .ok (.iconst 0, 1) := by decide +kernel
theorem dX10_triesOf_14 : decode cX10_triesOf 14 = .ok (.invokevirtual 111, 3) := by decide +kernel
theorem dX10_triesOf_17 : decode cX10_triesOf 17 = .ok (.tableswitch 58 1 6 #[39, 58, 41, 50, 54, 56], 39) := by decide +kernel
theorem dX10_triesOf_56 : decode cX10_triesOf 56 = .ok (.iload_n 2, 1) := by decide +kernel
theorem dX10_triesOf_57 : decode cX10_triesOf 57 = .ok (.ireturn, 1) := by decide +kernel
theorem dX10_triesOf_58 : decode cX10_triesOf 58 = .ok (.iconst 1, 1) := by decide +kernel
theorem dX10_triesOf_59 : decode cX10_triesOf 59 = .ok (.aload_n 0, 1) := by decide +kernel
theorem dX10_triesOf_60 : decode cX10_triesOf 60 = .ok (.getfield 7, 3) := by decide +kernel
theorem dX10_triesOf_63 : decode cX10_triesOf 63 = .ok (.iconst 5, 1) := by decide +kernel
theorem dX10_triesOf_64 : decode cX10_triesOf 64 = .ok (.iaload, 1) := by decide +kernel
theorem dX10_triesOf_65 : decode cX10_triesOf 65 = .ok (.iadd, 1) := by decide +kernel
theorem dX10_triesOf_66 : decode cX10_triesOf 66 = .ok (.ireturn, 1) := by decide +kernel
theorem dX10_triesOf_67 : decode cX10_triesOf 67 = .ok (.iconst 2, 1) := by decide +kernel
theorem dX10_triesOf_68 : decode cX10_triesOf 68 = .ok (.iload_n 2, 1) := by decide +kernel
theorem dX10_triesOf_69 : decode cX10_triesOf 69 = .ok (.imul, 1) := by decide +kernel
theorem dX10_triesOf_70 : decode cX10_triesOf 70 = .ok (.ireturn, 1) := by decide +kernel
theorem dX10_triesOf_71 : decode cX10_triesOf 71 = .ok (.iconst 4, 1) := by decide +kernel
theorem dX10_triesOf_72 : decode cX10_triesOf 72 = .ok (.ireturn, 1) := by decide +kernel
theorem dX10_triesOf_73 : decode cX10_triesOf 73 = .ok (.iconst 0, 1) := by decide +kernel
theorem dX10_triesOf_74 : decode cX10_triesOf 74 = .ok (.ireturn, 1) := by decide +kernel
theorem dX10_triesOf_75 : decode cX10_triesOf 75 = .ok (.iconst 1, 1) := by decide +kernel
theorem dX10_triesOf_76 : decode cX10_triesOf 76 = .ok (.ireturn, 1) := by decide +kernel
theorem dX10_shutTold_0 : decode cX10_shutTold 0 = .ok (.aload_n 0, 1) := by decide +kernel
theorem dX10_shutTold_1 : decode cX10_shutTold 1 = .ok (.getfield 25, 3) := by decide +kernel
theorem dX10_shutTold_4 : decode cX10_shutTold 4 = .ok (.bipush 114, 2) := by decide +kernel
theorem dX10_shutTold_6 : decode cX10_shutTold 6 = .ok (.iload_n 1, 1) := by decide +kernel
theorem dX10_shutTold_7 : decode cX10_shutTold 7 = .ok (.iastore, 1) := by decide +kernel
theorem dX10_shutTold_8 : decode cX10_shutTold 8 = .ok (.aload_n 0, 1) := by decide +kernel
theorem dX10_shutTold_9 : decode cX10_shutTold 9 = .ok (.getfield 25, 3) := by decide +kernel
theorem dX10_shutTold_12 : decode cX10_shutTold 12 = .ok (.bipush 115, 2) := by decide +kernel
theorem dX10_shutTold_14 : decode cX10_shutTold 14 = .ok (.iload_n 2, 1) := by decide +kernel
theorem dX10_shutTold_15 : decode cX10_shutTold 15 = .ok (.iastore, 1) := by decide +kernel
theorem dX10_shutTold_16 : decode cX10_shutTold 16 = .ok (.aload_n 0, 1) := by decide +kernel
theorem dX10_shutTold_17 : decode cX10_shutTold 17 = .ok (.getfield 25, 3) := by decide +kernel
theorem dX10_shutTold_20 : decode cX10_shutTold 20 = .ok (.bipush 116, 2) := by decide +kernel
theorem dX10_shutTold_22 : decode cX10_shutTold 22 = .ok (.iload_n 3, 1) := by decide +kernel
theorem dX10_shutTold_23 : decode cX10_shutTold 23 = .ok (.iastore, 1) := by decide +kernel
theorem dX10_shutTold_24 : decode cX10_shutTold 24 = .ok (.aload_n 0, 1) := by decide +kernel
theorem dX10_shutTold_25 : decode cX10_shutTold 25 = .ok (.iconst 0, 1) := by decide +kernel
theorem dX10_shutTold_26 : decode cX10_shutTold 26 = .ok (.invokevirtual 104, 3) := by decide +kernel
theorem dX10_shutTold_29 : decode cX10_shutTold 29 = .ok (.ifCond .eq 11, 3) := by decide +kernel
theorem dX10_shutTold_32 : decode cX10_shutTold 32 = .ok (.aload_n 0, 1) := by decide +kernel
theorem dX10_shutTold_33 : decode cX10_shutTold 33 = .ok (.iconst 0, 1) := by decide +kernel
theorem dX10_shutTold_34 : decode cX10_shutTold 34 = .ok (.invokevirtual 115, 3) := by decide +kernel
theorem dX10_shutTold_37 : decode cX10_shutTold 37 = .ok (.goto 4, 3) := by decide +kernel
theorem dX10_shutTold_40 : decode cX10_shutTold 40 = .ok (.iload_n 2, 1) := by decide +kernel
theorem dX10_shutTold_41 : decode cX10_shutTold 41 = .ok (.iconst 0, 1) := by decide +kernel
theorem dX10_shutTold_42 : decode cX10_shutTold 42 = .ok (.iconst 1, 1) := by decide +kernel
theorem dX10_shutTold_43 : decode cX10_shutTold 43 = .ok (.invokestatic 118, 3) := by decide +kernel
theorem dX10_shutTold_46 : decode cX10_shutTold 46 = .ok (.ireturn, 1) := by decide +kernel
theorem dX10_onTold_0 : decode cX10_onTold 0 = .ok (.aload_n 0, 1) := by decide +kernel
theorem dX10_onTold_1 : decode cX10_onTold 1 = .ok (.getfield 25, 3) := by decide +kernel
theorem dX10_onTold_4 : decode cX10_onTold 4 = .ok (.bipush 112, 2) := by decide +kernel
theorem dX10_onTold_6 : decode cX10_onTold 6 = .ok (.iload_n 1, 1) := by decide +kernel
theorem dX10_onTold_7 : decode cX10_onTold 7 = .ok (.iastore, 1) := by decide +kernel
theorem dX10_onTold_8 : decode cX10_onTold 8 = .ok (.aload_n 0, 1) := by decide +kernel
theorem dX10_onTold_9 : decode cX10_onTold 9 = .ok (.getfield 25, 3) := by decide +kernel
theorem dX10_onTold_12 : decode cX10_onTold 12 = .ok (.bipush 111, 2) := by decide +kernel
theorem dX10_onTold_14 : decode cX10_onTold 14 = .ok (.iload_n 2, 1) := by decide +kernel
theorem dX10_onTold_15 : decode cX10_onTold 15 = .ok (.iastore, 1) := by decide +kernel
theorem dX10_onTold_16 : decode cX10_onTold 16 = .ok (.aload_n 0, 1) := by decide +kernel
theorem dX10_onTold_17 : decode cX10_onTold 17 = .ok (.getfield 25, 3) := by decide +kernel
theorem dX10_onTold_20 : decode cX10_onTold 20 = .ok (.bipush 108, 2) := by decide +kernel
theorem dX10_onTold_22 : decode cX10_onTold 22 = .ok (.iload_n 3, 1) := by decide +kernel
theorem dX10_onTold_23 : decode cX10_onTold 23 = .ok (.iastore, 1) := by decide +kernel
theorem dX10_onTold_24 : decode cX10_onTold 24 = .ok (.aload_n 0, 1) := by decide +kernel
theorem dX10_onTold_25 : decode cX10_onTold 25 = .ok (.iconst 1, 1) := by decide +kernel
theorem dX10_onTold_26 : decode cX10_onTold 26 = .ok (.invokevirtual 104, 3) := by decide +kernel
theorem dX10_onTold_29 : decode cX10_onTold 29 = .ok (.ifCond .eq 11, 3) := by decide +kernel
theorem dX10_onTold_32 : decode cX10_onTold 32 = .ok (.aload_n 0, 1) := by decide +kernel
theorem dX10_onTold_33 : decode cX10_onTold 33 = .ok (.iconst 1, 1) := by decide +kernel
theorem dX10_onTold_34 : decode cX10_onTold 34 = .ok (.invokevirtual 115, 3) := by decide +kernel
theorem dX10_onTold_37 : decode cX10_onTold 37 = .ok (.goto 4, 3) := by decide +kernel
theorem dX10_onTold_40 : decode cX10_onTold 40 = .ok (.iload_n 1, 1) := by decide +kernel
theorem dX10_onTold_41 : decode cX10_onTold 41 = .ok (.iconst 0, 1) := by decide +kernel
theorem dX10_onTold_42 : decode cX10_onTold 42 = .ok (.bipush 9, 2) := by decide +kernel
theorem dX10_onTold_44 : decode cX10_onTold 44 = .ok (.invokestatic 118, 3) := by decide +kernel
theorem dX10_onTold_47 : decode cX10_onTold 47 = .ok (.ireturn, 1) := by decide +kernel
theorem dX10_shutOf_0 : decode cX10_shutOf 0 = .ok (.aload_n 0, 1) := by decide +kernel
theorem dX10_shutOf_1 : decode cX10_shutOf 1 = .ok (.getfield 7, 3) := by decide +kernel
theorem dX10_shutOf_4 : decode cX10_shutOf 4 = .ok (.iconst 0, 1) := by decide +kernel
theorem dX10_shutOf_5 : decode cX10_shutOf 5 = .ok (.iaload, 1) := by decide +kernel
theorem dX10_shutOf_6 : decode cX10_shutOf 6 = .ok (.aload_n 0, 1) := by decide +kernel
theorem dX10_shutOf_7 : decode cX10_shutOf 7 = .ok (.iload_n 1, 1) := by decide +kernel
theorem dX10_shutOf_8 : decode cX10_shutOf 8 = .ok (.iconst 3, 1) := by decide +kernel
theorem dX10_shutOf_9 : decode cX10_shutOf 9 = .ok (.invokevirtual 111, 3) := by decide +kernel
theorem dX10_shutOf_12 : decode cX10_shutOf 12 = .ok (.iadd, 1) := by decide +kernel
theorem dX10_shutOf_13 : decode cX10_shutOf 13 = .ok (.aload_n 0, 1) := by decide +kernel
theorem dX10_shutOf_14 : decode cX10_shutOf 14 = .ok (.iload_n 1, 1) := by decide +kernel
theorem dX10_shutOf_15 : decode cX10_shutOf 15 = .ok (.iconst 2, 1) := by decide +kernel
theorem dX10_shutOf_16 : decode cX10_shutOf 16 = .ok (.invokevirtual 111, 3) := by decide +kernel
theorem dX10_shutOf_19 : decode cX10_shutOf 19 = .ok (.irem, 1) := by decide +kernel
theorem dX10_shutOf_20 : decode cX10_shutOf 20 = .ok (.istore_n 2, 1) := by decide +kernel
theorem dX10_shutOf_21 : decode cX10_shutOf 21 = .ok (.aload_n 0, 1) := by decide +kernel
theorem dX10_shutOf_22 : decode cX10_shutOf 22 = .ok (.iload_n 2, 1) := by decide +kernel
theorem dX10_shutOf_23 : decode cX10_shutOf 23 = .ok (.aload_n 0, 1) := by decide +kernel
theorem dX10_shutOf_24 : decode cX10_shutOf 24 = .ok (.iload_n 1, 1) := by decide +kernel
theorem dX10_shutOf_25 : decode cX10_shutOf 25 = .ok (.invokevirtual 121, 3) := by decide +kernel
theorem dX10_shutOf_28 : decode cX10_shutOf 28 = .ok (.ifCond .eq 7, 3) := by decide +kernel
theorem dX10_shutOf_31 : decode cX10_shutOf 31 = .ok (.iconst 1, 1) := by decide +kernel
theorem dX10_shutOf_32 : decode cX10_shutOf 32 = .ok (.goto 4, 3) := by decide +kernel
theorem dX10_shutOf_35 : decode cX10_shutOf 35 = .ok (.iconst 0, 1) := by decide +kernel
theorem dX10_shutOf_36 : decode cX10_shutOf 36 = .ok (.aload_n 0, 1) := by decide +kernel
theorem dX10_shutOf_37 : decode cX10_shutOf 37 = .ok (.getfield 7, 3) := by decide +kernel
theorem dX10_shutOf_40 : decode cX10_shutOf 40 = .ok (.iconst 0, 1) := by decide +kernel
theorem dX10_shutOf_41 : decode cX10_shutOf 41 = .ok (.iaload, 1) := by decide +kernel
theorem dX10_shutOf_42 : decode cX10_shutOf 42 = .ok (.bipush 24, 2) := by decide +kernel
theorem dX10_shutOf_44 : decode cX10_shutOf 44 = .ok (.irem, 1) := by decide +kernel
theorem dX10_shutOf_45 : decode cX10_shutOf 45 = .ok (.invokevirtual 124, 3) := by decide +kernel
theorem dX10_shutOf_48 : decode cX10_shutOf 48 = .ok (.ireturn, 1) := by decide +kernel
theorem dX10_shutNow_0 : decode cX10_shutNow 0 = .ok (.iconst 0, 1) := by decide +kernel
theorem dX10_shutNow_1 : decode cX10_shutNow 1 = .ok (.istore_n 1, 1) := by decide +kernel
theorem dX10_shutNow_2 : decode cX10_shutNow 2 = .ok (.iconst 0, 1) := by decide +kernel
theorem dX10_shutNow_3 : decode cX10_shutNow 3 = .ok (.istore_n 2, 1) := by decide +kernel
theorem dX10_shutNow_4 : decode cX10_shutNow 4 = .ok (.iload_n 2, 1) := by decide +kernel
theorem dX10_shutNow_5 : decode cX10_shutNow 5 = .ok (.aload_n 0, 1) := by decide +kernel
theorem dX10_shutNow_6 : decode cX10_shutNow 6 = .ok (.getfield 7, 3) := by decide +kernel
theorem dX10_shutNow_9 : decode cX10_shutNow 9 = .ok (.iconst 4, 1) := by decide +kernel
theorem dX10_shutNow_10 : decode cX10_shutNow 10 = .ok (.iaload, 1) := by decide +kernel
theorem dX10_shutNow_11 : decode cX10_shutNow 11 = .ok (.if_icmp .ge 19, 3) := by decide +kernel
theorem dX10_shutNow_14 : decode cX10_shutNow 14 = .ok (.iload_n 1, 1) := by decide +kernel
theorem dX10_shutNow_15 : decode cX10_shutNow 15 = .ok (.aload_n 0, 1) := by decide +kernel
theorem dX10_shutNow_16 : decode cX10_shutNow 16 = .ok (.iload_n 2, 1) := by decide +kernel
theorem dX10_shutNow_17 : decode cX10_shutNow 17 = .ok (.invokevirtual 127, 3) := by decide +kernel
theorem dX10_shutNow_20 : decode cX10_shutNow 20 = .ok (.iload_n 2, 1) := by decide +kernel
theorem dX10_shutNow_21 : decode cX10_shutNow 21 = .ok (.ishl, 1) := by decide +kernel
theorem dX10_shutNow_22 : decode cX10_shutNow 22 = .ok (.ior, 1) := by decide +kernel
theorem dX10_shutNow_23 : decode cX10_shutNow 23 = .ok (.istore_n 1, 1) := by decide +kernel
theorem dX10_shutNow_24 : decode cX10_shutNow 24 = .ok (.iinc 2 1, 3) := by decide +kernel
theorem dX10_shutNow_27 : decode cX10_shutNow 27 = .ok (.goto (-23), 3) := by decide +kernel
theorem dX10_shutNow_30 : decode cX10_shutNow 30 = .ok (.iload_n 1, 1) := by decide +kernel
theorem dX10_shutNow_31 : decode cX10_shutNow 31 = .ok (.ireturn, 1) := by decide +kernel
theorem dX10_onBy_0 : decode cX10_onBy 0 = .ok (.aload_n 0, 1) := by decide +kernel
theorem dX10_onBy_1 : decode cX10_onBy 1 = .ok (.iload_n 1, 1) := by decide +kernel
theorem dX10_onBy_2 : decode cX10_onBy 2 = .ok (.iconst 0, 1) := by decide +kernel
theorem dX10_onBy_3 : decode cX10_onBy 3 = .ok (.invokevirtual 130, 3) := by decide +kernel
theorem dX10_onBy_6 : decode cX10_onBy 6 = .ok (.istore_n 3, 1) := by decide +kernel
theorem dX10_onBy_7 : decode cX10_onBy 7 = .ok (.aload_n 0, 1) := by decide +kernel
theorem dX10_onBy_8 : decode cX10_onBy 8 = .ok (.aload_n 0, 1) := by decide +kernel
theorem dX10_onBy_9 : decode cX10_onBy 9 = .ok (.iload_n 3, 1) := by decide +kernel
theorem dX10_onBy_10 : decode cX10_onBy 10 = .ok (.invokevirtual 133, 3) := by decide +kernel
theorem dX10_onBy_13 : decode cX10_onBy 13 = .ok (.iload_n 2, 1) := by decide +kernel
theorem dX10_onBy_14 : decode cX10_onBy 14 = .ok (.iconst 1, 1) := by decide +kernel
theorem dX10_onBy_15 : decode cX10_onBy 15 = .ok (.iload_n 3, 1) := by decide +kernel
theorem dX10_onBy_16 : decode cX10_onBy 16 = .ok (.ishl, 1) := by decide +kernel
theorem dX10_onBy_17 : decode cX10_onBy 17 = .ok (.iconst (-1), 1) := by decide +kernel
theorem dX10_onBy_18 : decode cX10_onBy 18 = .ok (.ixor, 1) := by decide +kernel
theorem dX10_onBy_19 : decode cX10_onBy 19 = .ok (.iand, 1) := by decide +kernel
theorem dX10_onBy_20 : decode cX10_onBy 20 = .ok (.invokestatic 136, 3) := by decide +kernel
theorem dX10_onBy_23 : decode cX10_onBy 23 = .ok (.aload_n 0, 1) := by decide +kernel
theorem dX10_onBy_24 : decode cX10_onBy 24 = .ok (.iload_n 1, 1) := by decide +kernel
theorem dX10_onBy_25 : decode cX10_onBy 25 = .ok (.iconst 1, 1) := by decide +kernel
theorem dX10_onBy_26 : decode cX10_onBy 26 = .ok (.invokevirtual 130, 3) := by decide +kernel
theorem dX10_onBy_29 : decode cX10_onBy 29 = .ok (.invokevirtual 139, 3) := by decide +kernel
theorem dX10_onBy_32 : decode cX10_onBy 32 = .ok (.ireturn, 1) := by decide +kernel
theorem dX10_getsOn_0 : decode cX10_getsOn 0 = .ok (.aload_n 0, 1) := by decide +kernel
theorem dX10_getsOn_1 : decode cX10_getsOn 1 = .ok (.iload_n 1, 1) := by decide +kernel
theorem dX10_getsOn_2 : decode cX10_getsOn 2 = .ok (.iconst 1, 1) := by decide +kernel
theorem dX10_getsOn_3 : decode cX10_getsOn 3 = .ok (.invokevirtual 130, 3) := by decide +kernel
theorem dX10_getsOn_6 : decode cX10_getsOn 6 = .ok (.istore_n 3, 1) := by decide +kernel
theorem dX10_getsOn_7 : decode cX10_getsOn 7 = .ok (.iload_n 3, 1) := by decide +kernel
theorem dX10_getsOn_8 : decode cX10_getsOn 8 = .ok (.ifCond .eq 16, 3) := by decide +kernel
theorem dX10_getsOn_11 : decode cX10_getsOn 11 = .ok (.aload_n 0, 1) := by decide +kernel
theorem dX10_getsOn_12 : decode cX10_getsOn 12 = .ok (.iload_n 1, 1) := by decide +kernel
theorem dX10_getsOn_13 : decode cX10_getsOn 13 = .ok (.iconst 2, 1) := by decide +kernel
theorem dX10_getsOn_14 : decode cX10_getsOn 14 = .ok (.invokevirtual 130, 3) := by decide +kernel
theorem dX10_getsOn_17 : decode cX10_getsOn 17 = .ok (.iload_n 2, 1) := by decide +kernel
theorem dX10_getsOn_18 : decode cX10_getsOn 18 = .ok (.iconst (-1), 1) := by decide +kernel
theorem dX10_getsOn_19 : decode cX10_getsOn 19 = .ok (.ixor, 1) := by decide +kernel
theorem dX10_getsOn_20 : decode cX10_getsOn 20 = .ok (.iand, 1) := by decide +kernel
theorem dX10_getsOn_21 : decode cX10_getsOn 21 = .ok (.ifCond .eq 5, 3) := by decide +kernel
theorem dX10_getsOn_24 : decode cX10_getsOn 24 = .ok (.iconst 0, 1) := by decide +kernel
theorem dX10_getsOn_25 : decode cX10_getsOn 25 = .ok (.ireturn, 1) := by decide +kernel
theorem dX10_getsOn_26 : decode cX10_getsOn 26 = .ok (.aload_n 0, 1) := by decide +kernel
theorem dX10_getsOn_27 : decode cX10_getsOn 27 = .ok (.iload_n 1, 1) := by decide +kernel
theorem dX10_getsOn_28 : decode cX10_getsOn 28 = .ok (.iconst 1, 1) := by decide +kernel
theorem dX10_getsOn_29 : decode cX10_getsOn 29 = .ok (.iload_n 3, 1) := by decide +kernel
theorem dX10_getsOn_30 : decode cX10_getsOn 30 = .ok (.aload_n 0, 1) := by decide +kernel
theorem dX10_getsOn_31 : decode cX10_getsOn 31 = .ok (.iload_n 1, 1) := by decide +kernel
theorem dX10_getsOn_32 : decode cX10_getsOn 32 = .ok (.iload_n 2, 1) := by decide +kernel
theorem dX10_getsOn_33 : decode cX10_getsOn 33 = .ok (.invokevirtual 142, 3) := by decide +kernel
theorem dX10_getsOn_36 : decode cX10_getsOn 36 = .ok (.isub, 1) := by decide +kernel
theorem dX10_getsOn_37 : decode cX10_getsOn 37 = .ok (.iconst 0, 1) := by decide +kernel
theorem dX10_getsOn_38 : decode cX10_getsOn 38 = .ok (.bipush 99, 2) := by decide +kernel
theorem dX10_getsOn_40 : decode cX10_getsOn 40 = .ok (.invokestatic 118, 3) := by decide +kernel
theorem dX10_getsOn_43 : decode cX10_getsOn 43 = .ok (.invokevirtual 145, 3) := by decide +kernel
theorem dX10_getsOn_46 : decode cX10_getsOn 46 = .ok (.aload_n 0, 1) := by decide +kernel
theorem dX10_getsOn_47 : decode cX10_getsOn 47 = .ok (.iload_n 1, 1) := by decide +kernel
theorem dX10_getsOn_48 : decode cX10_getsOn 48 = .ok (.iconst 1, 1) := by decide +kernel
theorem dX10_getsOn_49 : decode cX10_getsOn 49 = .ok (.invokevirtual 130, 3) := by decide +kernel
theorem dX10_getsOn_52 : decode cX10_getsOn 52 = .ok (.ifCond .ne 7, 3) := by decide +kernel
theorem dX10_getsOn_55 : decode cX10_getsOn 55 = .ok (.iconst 1, 1) := by decide +kernel
theorem dX10_getsOn_56 : decode cX10_getsOn 56 = .ok (.goto 4, 3) := by decide +kernel
theorem dX10_getsOn_59 : decode cX10_getsOn 59 = .ok (.iconst 0, 1) := by decide +kernel
theorem dX10_getsOn_60 : decode cX10_getsOn 60 = .ok (.ireturn, 1) := by decide +kernel
theorem dX10_aTick_0 : decode cX10_aTick 0 = .ok (.aload_n 0, 1) := by decide +kernel
theorem dX10_aTick_1 : decode cX10_aTick 1 = .ok (.invokevirtual 149, 3) := by decide +kernel
theorem dX10_aTick_4 : decode cX10_aTick 4 = .ok (.istore_n 1, 1) := by decide +kernel
theorem dX10_aTick_5 : decode cX10_aTick 5 = .ok (.iconst 0, 1) := by decide +kernel
theorem dX10_aTick_6 : decode cX10_aTick 6 = .ok (.istore_n 2, 1) := by decide +kernel
theorem dX10_aTick_7 : decode cX10_aTick 7 = .ok (.iconst 0, 1) := by decide +kernel
theorem dX10_aTick_8 : decode cX10_aTick 8 = .ok (.istore_n 3, 1) := by decide +kernel
theorem dX10_aTick_9 : decode cX10_aTick 9 = .ok (.iload_n 3, 1) := by decide +kernel
theorem dX10_aTick_10 : decode cX10_aTick 10 = .ok (.aload_n 0, 1) := by decide +kernel
theorem dX10_aTick_11 : decode cX10_aTick 11 = .ok (.getfield 7, 3) := by decide +kernel
theorem dX10_aTick_14 : decode cX10_aTick 14 = .ok (.iconst 5, 1) := by decide +kernel
theorem dX10_aTick_15 : decode cX10_aTick 15 = .ok (.iaload, 1) := by decide +kernel
theorem dX10_aTick_16 : decode cX10_aTick 16 = .ok (.if_icmp .ge 26, 3) := by decide +kernel
theorem dX10_aTick_19 : decode cX10_aTick 19 = .ok (.iload_n 2, 1) := by decide +kernel
theorem dX10_aTick_20 : decode cX10_aTick 20 = .ok (.aload_n 0, 1) := by decide +kernel
theorem dX10_aTick_21 : decode cX10_aTick 21 = .ok (.iload_n 3, 1) := by decide +kernel
theorem dX10_aTick_22 : decode cX10_aTick 22 = .ok (.iload_n 1, 1) := by decide +kernel
theorem dX10_aTick_23 : decode cX10_aTick 23 = .ok (.invokevirtual 152, 3) := by decide +kernel
theorem dX10_aTick_26 : decode cX10_aTick 26 = .ok (.ifCond .eq 7, 3) := by decide +kernel
theorem dX10_aTick_29 : decode cX10_aTick 29 = .ok (.iconst 1, 1) := by decide +kernel
theorem dX10_aTick_30 : decode cX10_aTick 30 = .ok (.goto 4, 3) := by decide +kernel
theorem dX10_aTick_33 : decode cX10_aTick 33 = .ok (.iconst 0, 1) := by decide +kernel
theorem dX10_aTick_34 : decode cX10_aTick 34 = .ok (.iadd, 1) := by decide +kernel
theorem dX10_aTick_35 : decode cX10_aTick 35 = .ok (.istore_n 2, 1) := by decide +kernel
theorem dX10_aTick_36 : decode cX10_aTick 36 = .ok (.iinc 3 1, 3) := by decide +kernel
theorem dX10_aTick_39 : decode cX10_aTick 39 = .ok (.goto (-30), 3) := by decide +kernel
theorem dX10_aTick_42 : decode cX10_aTick 42 = .ok (.aload_n 0, 1) := by decide +kernel
theorem dX10_aTick_43 : decode cX10_aTick 43 = .ok (.getfield 7, 3) := by decide +kernel
theorem dX10_aTick_46 : decode cX10_aTick 46 = .ok (.iconst 0, 1) := by decide +kernel
theorem dX10_aTick_47 : decode cX10_aTick 47 = .ok (.dup2, 1) := by decide +kernel
theorem dX10_aTick_48 : decode cX10_aTick 48 = .ok (.iaload, 1) := by decide +kernel
theorem dX10_aTick_49 : decode cX10_aTick 49 = .ok (.iconst 1, 1) := by decide +kernel
theorem dX10_aTick_50 : decode cX10_aTick 50 = .ok (.iadd, 1) := by decide +kernel
theorem dX10_aTick_51 : decode cX10_aTick 51 = .ok (.iastore, 1) := by decide +kernel
theorem dX10_aTick_52 : decode cX10_aTick 52 = .ok (.iload_n 2, 1) := by decide +kernel
theorem dX10_aTick_53 : decode cX10_aTick 53 = .ok (.ireturn, 1) := by decide +kernel
theorem dX10_draw_0 : decode cX10_draw 0 = .ok (.aload_n 0, 1) := by decide +kernel
theorem dX10_draw_1 : decode cX10_draw 1 = .ok (.getfield 7, 3) := by decide +kernel
theorem dX10_draw_4 : decode cX10_draw 4 = .ok (.iconst 1, 1) := by decide +kernel
theorem dX10_draw_5 : decode cX10_draw 5 = .ok (.aload_n 0, 1) := by decide +kernel
theorem dX10_draw_6 : decode cX10_draw 6 = .ok (.getfield 7, 3) := by decide +kernel
theorem dX10_draw_9 : decode cX10_draw 9 = .ok (.iconst 1, 1) := by decide +kernel
theorem dX10_draw_10 : decode cX10_draw 10 = .ok (.iaload, 1) := by decide +kernel
theorem dX10_draw_11 : decode cX10_draw 11 = .ok (.ldc 156, 2) := by decide +kernel
theorem dX10_draw_13 : decode cX10_draw 13 = .ok (.imul, 1) := by decide +kernel
theorem dX10_draw_14 : decode cX10_draw 14 = .ok (.sipush 12345, 3) := by decide +kernel
theorem dX10_draw_17 : decode cX10_draw 17 = .ok (.iadd, 1) := by decide +kernel
theorem dX10_draw_18 : decode cX10_draw 18 = .ok (.iastore, 1) := by decide +kernel
theorem dX10_draw_19 : decode cX10_draw 19 = .ok (.aload_n 0, 1) := by decide +kernel
theorem dX10_draw_20 : decode cX10_draw 20 = .ok (.getfield 7, 3) := by decide +kernel
theorem dX10_draw_23 : decode cX10_draw 23 = .ok (.iconst 1, 1) := by decide +kernel
theorem dX10_draw_24 : decode cX10_draw 24 = .ok (.iaload, 1) := by decide +kernel
theorem dX10_draw_25 : decode cX10_draw 25 = .ok (.bipush 8, 2) := by decide +kernel
theorem dX10_draw_27 : decode cX10_draw 27 = .ok (.iushr, 1) := by decide +kernel
theorem dX10_draw_28 : decode cX10_draw 28 = .ok (.ireturn, 1) := by decide +kernel
theorem dX10_isKind_0 : decode cX10_isKind 0 = .ok (.iload_n 0, 1) := by decide +kernel
theorem dX10_isKind_1 : decode cX10_isKind 1 = .ok (.iconst 0, 1) := by decide +kernel
theorem dX10_isKind_2 : decode cX10_isKind 2 = .ok (.bipush 69, 2) := by decide +kernel
theorem dX10_isKind_4 : decode cX10_isKind 4 = .ok (.invokestatic 47, 3) := by decide +kernel
theorem dX10_isKind_7 : decode cX10_isKind 7 = .ok (.ireturn, 1) := by decide +kernel
theorem dX10_isBeat_0 : decode cX10_isBeat 0 = .ok (.iload_n 0, 1) := by decide +kernel
theorem dX10_isBeat_1 : decode cX10_isBeat 1 = .ok (.iconst 1, 1) := by decide +kernel
theorem dX10_isBeat_2 : decode cX10_isBeat 2 = .ok (.bipush 12, 2) := by decide +kernel
theorem dX10_isBeat_4 : decode cX10_isBeat 4 = .ok (.invokestatic 47, 3) := by decide +kernel
theorem dX10_isBeat_7 : decode cX10_isBeat 7 = .ok (.ifCond .eq 18, 3) := by decide +kernel
theorem dX10_isBeat_10 : decode cX10_isBeat 10 = .ok (.iload_n 1, 1) := by decide +kernel
theorem dX10_isBeat_11 : decode cX10_isBeat 11 = .ok (.iconst 0, 1) := by decide +kernel
theorem dX10_isBeat_12 : decode cX10_isBeat 12 = .ok (.iload_n 0, 1) := by decide +kernel
theorem dX10_isBeat_13 : decode cX10_isBeat 13 = .ok (.iconst 1, 1) := by decide +kernel
theorem dX10_isBeat_14 : decode cX10_isBeat 14 = .ok (.isub, 1) := by decide +kernel
theorem dX10_isBeat_15 : decode cX10_isBeat 15 = .ok (.invokestatic 47, 3) := by decide +kernel
theorem dX10_isBeat_18 : decode cX10_isBeat 18 = .ok (.ifCond .eq 7, 3) := by decide +kernel
theorem dX10_isBeat_21 : decode cX10_isBeat 21 = .ok (.iconst 1, 1) := by decide +kernel
theorem dX10_isBeat_22 : decode cX10_isBeat 22 = .ok (.goto 4, 3) := by decide +kernel
theorem dX10_isBeat_25 : decode cX10_isBeat 25 = .ok (.iconst 0, 1) := by decide +kernel
theorem dX10_isBeat_26 : decode cX10_isBeat 26 = .ok (.ireturn, 1) := by decide +kernel
theorem dX10_person_0 : decode cX10_person 0 = .ok (.iload_n 1, 1) := by decide +kernel
theorem dX10_person_1 : decode cX10_person 1 = .ok (.invokestatic 157, 3) := by decide +kernel
theorem dX10_person_4 : decode cX10_person 4 = .ok (.ifCond .eq 11, 3) := by decide +kernel
theorem dX10_person_7 : decode cX10_person 7 = .ok (.iload_n 2, 1) := by decide +kernel
theorem dX10_person_8 : decode cX10_person 8 = .ok (.iload_n 3, 1) := by decide +kernel
theorem dX10_person_9 : decode cX10_person 9 = .ok (.invokestatic 160, 3) := by decide +kernel
theorem dX10_person_12 : decode cX10_person 12 = .ok (.ifCond .ne 9, 3) := by decide +kernel
theorem dX10_person_15 : decode cX10_person 15 = .ok (.aload_n 0, 1) := by decide +kernel
theorem dX10_person_16 : decode cX10_person 16 = .ok (.iconst 1, 1) := by decide +kernel
theorem dX10_person_17 : decode cX10_person 17 = .ok (.invokevirtual 51, 3) := by decide +kernel
theorem dX10_person_20 : decode cX10_person 20 = .ok (.ireturn, 1) := by decide +kernel
theorem dX10_person_21 : decode cX10_person 21 = .ok (.aload_n 0, 1) := by decide +kernel
theorem dX10_person_22 : decode cX10_person 22 = .ok (.getfield 7, 3) := by decide +kernel
theorem dX10_person_25 : decode cX10_person 25 = .ok (.iconst 4, 1) := by decide +kernel
theorem dX10_person_26 : decode cX10_person 26 = .ok (.iaload, 1) := by decide +kernel
theorem dX10_person_27 : decode cX10_person 27 = .ok (.bipush 6, 2) := by decide +kernel
theorem dX10_person_29 : decode cX10_person 29 = .ok (.if_icmp .ne 9, 3) := by decide +kernel
theorem dX10_person_32 : decode cX10_person 32 = .ok (.aload_n 0, 1) := by decide +kernel
theorem dX10_person_33 : decode cX10_person 33 = .ok (.iconst 4, 1) := by decide +kernel
theorem dX10_person_34 : decode cX10_person 34 = .ok (.invokevirtual 51, 3) := by decide +kernel
theorem dX10_person_37 : decode cX10_person 37 = .ok (.ireturn, 1) := by decide +kernel
theorem dX10_person_38 : decode cX10_person 38 = .ok (.aload_n 0, 1) := by decide +kernel
theorem dX10_person_39 : decode cX10_person 39 = .ok (.getfield 7, 3) := by decide +kernel
theorem dX10_person_42 : decode cX10_person 42 = .ok (.iconst 4, 1) := by decide +kernel
theorem dX10_person_43 : decode cX10_person 43 = .ok (.iaload, 1) := by decide +kernel
theorem dX10_person_44 : decode cX10_person 44 = .ok (.istore 4, 2) := by decide +kernel
theorem dX10_person_46 : decode cX10_person 46 = .ok (.aload_n 0, 1) := by decide +kernel
theorem dX10_person_47 : decode cX10_person 47 = .ok (.iload 4, 2) := by decide +kernel
theorem dX10_person_49 : decode cX10_person 49 = .ok (.iconst 0, 1) := by decide +kernel
theorem dX10_person_50 : decode cX10_person 50 = .ok (.iload_n 1, 1) := by decide +kernel
theorem dX10_person_51 : decode cX10_person 51 = .ok (.bipush 10, 2) := by decide +kernel
theorem dX10_person_53 : decode cX10_person 53 = .ok (.idiv, 1) := by decide +kernel
theorem dX10_person_54 : decode cX10_person 54 = .ok (.invokevirtual 163, 3) := by decide +kernel
theorem dX10_person_57 : decode cX10_person 57 = .ok (.aload_n 0, 1) := by decide +kernel
theorem dX10_person_58 : decode cX10_person 58 = .ok (.iload 4, 2) := by decide +kernel
theorem dX10_person_60 : decode cX10_person 60 = .ok (.iconst 1, 1) := by decide +kernel
theorem dX10_person_61 : decode cX10_person 61 = .ok (.iload_n 1, 1) := by decide +kernel
theorem dX10_person_62 : decode cX10_person 62 = .ok (.bipush 10, 2) := by decide +kernel
theorem dX10_person_64 : decode cX10_person 64 = .ok (.irem, 1) := by decide +kernel
theorem dX10_person_65 : decode cX10_person 65 = .ok (.invokevirtual 163, 3) := by decide +kernel
theorem dX10_person_68 : decode cX10_person 68 = .ok (.aload_n 0, 1) := by decide +kernel
theorem dX10_person_69 : decode cX10_person 69 = .ok (.iload 4, 2) := by decide +kernel
theorem dX10_person_71 : decode cX10_person 71 = .ok (.iconst 2, 1) := by decide +kernel
theorem dX10_person_72 : decode cX10_person 72 = .ok (.iload_n 2, 1) := by decide +kernel
theorem dX10_person_73 : decode cX10_person 73 = .ok (.invokevirtual 163, 3) := by decide +kernel
theorem dX10_person_76 : decode cX10_person 76 = .ok (.aload_n 0, 1) := by decide +kernel
theorem dX10_person_77 : decode cX10_person 77 = .ok (.iload 4, 2) := by decide +kernel
theorem dX10_person_79 : decode cX10_person 79 = .ok (.iconst 3, 1) := by decide +kernel
theorem dX10_person_80 : decode cX10_person 80 = .ok (.iload_n 3, 1) := by decide +kernel
theorem dX10_person_81 : decode cX10_person 81 = .ok (.invokevirtual 163, 3) := by decide +kernel
theorem dX10_person_84 : decode cX10_person 84 = .ok (.aload_n 0, 1) := by decide +kernel
theorem dX10_person_85 : decode cX10_person 85 = .ok (.getfield 7, 3) := by decide +kernel
theorem dX10_person_88 : decode cX10_person 88 = .ok (.iconst 4, 1) := by decide +kernel
theorem dX10_person_89 : decode cX10_person 89 = .ok (.dup2, 1) := by decide +kernel
theorem dX10_person_90 : decode cX10_person 90 = .ok (.iaload, 1) := by decide +kernel
theorem dX10_person_91 : decode cX10_person 91 = .ok (.iconst 1, 1) := by decide +kernel
theorem dX10_person_92 : decode cX10_person 92 = .ok (.iadd, 1) := by decide +kernel
theorem dX10_person_93 : decode cX10_person 93 = .ok (.iastore, 1) := by decide +kernel
theorem dX10_person_94 : decode cX10_person 94 = .ok (.iload 4, 2) := by decide +kernel
theorem dX10_person_96 : decode cX10_person 96 = .ok (.ireturn, 1) := by decide +kernel
theorem dX10_personIs_0 : decode cX10_personIs 0 = .ok (.aload_n 0, 1) := by decide +kernel
theorem dX10_personIs_1 : decode cX10_personIs 1 = .ok (.iload_n 1, 1) := by decide +kernel
theorem dX10_personIs_2 : decode cX10_personIs 2 = .ok (.invokevirtual 166, 3) := by decide +kernel
theorem dX10_personIs_5 : decode cX10_personIs 5 = .ok (.ifCond .eq 12, 3) := by decide +kernel
theorem dX10_personIs_8 : decode cX10_personIs 8 = .ok (.iload_n 2, 1) := by decide +kernel
theorem dX10_personIs_9 : decode cX10_personIs 9 = .ok (.iconst 0, 1) := by decide +kernel
theorem dX10_personIs_10 : decode cX10_personIs 10 = .ok (.iconst 4, 1) := by decide +kernel
theorem dX10_personIs_11 : decode cX10_personIs 11 = .ok (.invokestatic 47, 3) := by decide +kernel
theorem dX10_personIs_14 : decode cX10_personIs 14 = .ok (.ifCond .ne 9, 3) := by decide +kernel
theorem dX10_personIs_17 : decode cX10_personIs 17 = .ok (.aload_n 0, 1) := by decide +kernel
theorem dX10_personIs_18 : decode cX10_personIs 18 = .ok (.iconst 1, 1) := by decide +kernel
theorem dX10_personIs_19 : decode cX10_personIs 19 = .ok (.invokevirtual 51, 3) := by decide +kernel
theorem dX10_personIs_22 : decode cX10_personIs 22 = .ok (.ireturn, 1) := by decide +kernel
theorem dX10_personIs_23 : decode cX10_personIs 23 = .ok (.iload_n 2, 1) := by decide +kernel
theorem dX10_personIs_24 : decode cX10_personIs 24 = .ok (.iconst 4, 1) := by decide +kernel
theorem dX10_personIs_25 : decode cX10_personIs 25 = .ok (.if_icmp .ge 12, 3) := by decide +kernel
theorem dX10_personIs_28 : decode cX10_personIs 28 = .ok (.aload_n 0, 1) := by decide +kernel
theorem dX10_personIs_29 : decode cX10_personIs 29 = .ok (.iload_n 1, 1) := by decide +kernel
theorem dX10_personIs_30 : decode cX10_personIs 30 = .ok (.iload_n 2, 1) := by decide +kernel
theorem dX10_personIs_31 : decode cX10_personIs 31 = .ok (.invokevirtual 111, 3) := by decide +kernel
theorem dX10_personIs_34 : decode cX10_personIs 34 = .ok (.goto 8, 3) := by decide +kernel
theorem dX10_personIs_37 : decode cX10_personIs 37 = .ok (.aload_n 0, 1) := by decide +kernel
theorem dX10_personIs_38 : decode cX10_personIs 38 = .ok (.iload_n 1, 1) := by decide +kernel
theorem dX10_personIs_39 : decode cX10_personIs 39 = .ok (.invokevirtual 127, 3) := by decide +kernel
theorem dX10_personIs_42 : decode cX10_personIs 42 = .ok (.ireturn, 1) := by decide +kernel
theorem dX10_become_0 : decode cX10_become 0 = .ok (.aload_n 0, 1) := by decide +kernel
theorem dX10_become_1 : decode cX10_become 1 = .ok (.iload_n 1, 1) := by decide +kernel
theorem dX10_become_2 : decode cX10_become 2 = .ok (.invokevirtual 166, 3) := by decide +kernel
theorem dX10_become_5 : decode cX10_become 5 = .ok (.ifCond .eq 10, 3) := by decide +kernel
theorem dX10_become_8 : decode cX10_become 8 = .ok (.iload_n 2, 1) := by decide +kernel
theorem dX10_become_9 : decode cX10_become 9 = .ok (.invokestatic 157, 3) := by decide +kernel
theorem dX10_become_12 : decode cX10_become 12 = .ok (.ifCond .ne 9, 3) := by decide +kernel
theorem dX10_become_15 : decode cX10_become 15 = .ok (.aload_n 0, 1) := by decide +kernel
theorem dX10_become_16 : decode cX10_become 16 = .ok (.iconst 1, 1) := by decide +kernel
theorem dX10_become_17 : decode cX10_become 17 = .ok (.invokevirtual 51, 3) := by decide +kernel
theorem dX10_become_20 : decode cX10_become 20 = .ok (.ireturn, 1) := by decide +kernel
theorem dX10_become_21 : decode cX10_become 21 = .ok (.aload_n 0, 1) := by decide +kernel
theorem dX10_become_22 : decode cX10_become 22 = .ok (.iload_n 1, 1) := by decide +kernel
theorem dX10_become_23 : decode cX10_become 23 = .ok (.iconst 1, 1) := by decide +kernel
theorem dX10_become_24 : decode cX10_become 24 = .ok (.iload_n 2, 1) := by decide +kernel
theorem dX10_become_25 : decode cX10_become 25 = .ok (.bipush 10, 2) := by decide +kernel
theorem dX10_become_27 : decode cX10_become 27 = .ok (.irem, 1) := by decide +kernel
theorem dX10_become_28 : decode cX10_become 28 = .ok (.invokevirtual 163, 3) := by decide +kernel
theorem dX10_become_31 : decode cX10_become 31 = .ok (.aload_n 0, 1) := by decide +kernel
theorem dX10_become_32 : decode cX10_become 32 = .ok (.bipush 8, 2) := by decide +kernel
theorem dX10_become_34 : decode cX10_become 34 = .ok (.iconst 4, 1) := by decide +kernel
theorem dX10_become_35 : decode cX10_become 35 = .ok (.iload_n 1, 1) := by decide +kernel
theorem dX10_become_36 : decode cX10_become 36 = .ok (.imul, 1) := by decide +kernel
theorem dX10_become_37 : decode cX10_become 37 = .ok (.iadd, 1) := by decide +kernel
theorem dX10_become_38 : decode cX10_become 38 = .ok (.iconst 0, 1) := by decide +kernel
theorem dX10_become_39 : decode cX10_become 39 = .ok (.iadd, 1) := by decide +kernel
theorem dX10_become_40 : decode cX10_become 40 = .ok (.iload_n 2, 1) := by decide +kernel
theorem dX10_become_41 : decode cX10_become 41 = .ok (.bipush 10, 2) := by decide +kernel
theorem dX10_become_43 : decode cX10_become 43 = .ok (.idiv, 1) := by decide +kernel
theorem dX10_become_44 : decode cX10_become 44 = .ok (.invokevirtual 169, 3) := by decide +kernel
theorem dX10_become_47 : decode cX10_become 47 = .ok (.ireturn, 1) := by decide +kernel
theorem dX10_as_0 : decode cX10_as 0 = .ok (.aload_n 0, 1) := by decide +kernel
theorem dX10_as_1 : decode cX10_as 1 = .ok (.iload_n 1, 1) := by decide +kernel
theorem dX10_as_2 : decode cX10_as 2 = .ok (.invokevirtual 166, 3) := by decide +kernel
theorem dX10_as_5 : decode cX10_as 5 = .ok (.ifCond .eq 13, 3) := by decide +kernel
theorem dX10_as_8 : decode cX10_as 8 = .ok (.iload_n 2, 1) := by decide +kernel
theorem dX10_as_9 : decode cX10_as 9 = .ok (.iconst 0, 1) := by decide +kernel
theorem dX10_as_10 : decode cX10_as 10 = .ok (.bipush 6, 2) := by decide +kernel
theorem dX10_as_12 : decode cX10_as 12 = .ok (.invokestatic 47, 3) := by decide +kernel
theorem dX10_as_15 : decode cX10_as 15 = .ok (.ifCond .ne 9, 3) := by decide +kernel
theorem dX10_as_18 : decode cX10_as 18 = .ok (.aload_n 0, 1) := by decide +kernel
theorem dX10_as_19 : decode cX10_as 19 = .ok (.iconst 1, 1) := by decide +kernel
theorem dX10_as_20 : decode cX10_as 20 = .ok (.invokevirtual 51, 3) := by decide +kernel
theorem dX10_as_23 : decode cX10_as 23 = .ok (.ireturn, 1) := by decide +kernel
theorem dX10_as_24 : decode cX10_as 24 = .ok (.aload_n 0, 1) := by decide +kernel
theorem dX10_as_25 : decode cX10_as 25 = .ok (.iload_n 1, 1) := by decide +kernel
theorem dX10_as_26 : decode cX10_as 26 = .ok (.iconst 0, 1) := by decide +kernel
theorem dX10_as_27 : decode cX10_as 27 = .ok (.invokevirtual 111, 3) := by decide +kernel
theorem dX10_as_30 : decode cX10_as 30 = .ok (.istore_n 3, 1) := by decide +kernel
theorem dX10_as_31 : decode cX10_as 31 = .ok (.iload_n 3, 1) := by decide +kernel
theorem dX10_as_32 : decode cX10_as 32 = .ok (.iload_n 2, 1) := by decide +kernel
theorem dX10_as_33 : decode cX10_as 33 = .ok (.if_icmp .eq 15, 3) := by decide +kernel
theorem dX10_as_36 : decode cX10_as 36 = .ok (.iload_n 3, 1) := by decide +kernel
theorem dX10_as_37 : decode cX10_as 37 = .ok (.ifCond .eq 11, 3) := by decide +kernel
theorem dX10_as_40 : decode cX10_as 40 = .ok (.iload_n 3, 1) := by decide +kernel
theorem dX10_as_41 : decode cX10_as 41 = .ok (.invokestatic 172, 3) := by decide +kernel
theorem dX10_as_44 : decode cX10_as 44 = .ok (.istore_n 3, 1) := by decide +kernel
theorem dX10_as_45 : decode cX10_as 45 = .ok (.goto (-14), 3) := by decide +kernel
theorem dX10_as_48 : decode cX10_as 48 = .ok (.iload_n 3, 1) := by decide +kernel
theorem dX10_as_49 : decode cX10_as 49 = .ok (.iload_n 2, 1) := by decide +kernel
theorem dX10_as_50 : decode cX10_as 50 = .ok (.if_icmp .ne 12, 3) := by decide +kernel
theorem dX10_as_53 : decode cX10_as 53 = .ok (.aload_n 0, 1) := by decide +kernel
theorem dX10_as_54 : decode cX10_as 54 = .ok (.iload_n 1, 1) := by decide +kernel
theorem dX10_as_55 : decode cX10_as 55 = .ok (.iconst 1, 1) := by decide +kernel
theorem dX10_as_56 : decode cX10_as 56 = .ok (.invokevirtual 111, 3) := by decide +kernel
theorem dX10_as_59 : decode cX10_as 59 = .ok (.goto 8, 3) := by decide +kernel
theorem dX10_as_62 : decode cX10_as 62 = .ok (.aload_n 0, 1) := by decide +kernel
theorem dX10_as_63 : decode cX10_as 63 = .ok (.iconst 5, 1) := by decide +kernel
theorem dX10_as_64 : decode cX10_as 64 = .ok (.invokevirtual 51, 3) := by decide +kernel
theorem dX10_as_67 : decode cX10_as 67 = .ok (.ireturn, 1) := by decide +kernel
theorem dX10_beats_0 : decode cX10_beats 0 = .ok (.aload_n 0, 1) := by decide +kernel
theorem dX10_beats_1 : decode cX10_beats 1 = .ok (.iload_n 1, 1) := by decide +kernel
theorem dX10_beats_2 : decode cX10_beats 2 = .ok (.invokevirtual 166, 3) := by decide +kernel
theorem dX10_beats_5 : decode cX10_beats 5 = .ok (.ifCond .eq 11, 3) := by decide +kernel
theorem dX10_beats_8 : decode cX10_beats 8 = .ok (.iload_n 2, 1) := by decide +kernel
theorem dX10_beats_9 : decode cX10_beats 9 = .ok (.iload_n 3, 1) := by decide +kernel
theorem dX10_beats_10 : decode cX10_beats 10 = .ok (.invokestatic 160, 3) := by decide +kernel
theorem dX10_beats_13 : decode cX10_beats 13 = .ok (.ifCond .ne 9, 3) := by decide +kernel
theorem dX10_beats_16 : decode cX10_beats 16 = .ok (.aload_n 0, 1) := by decide +kernel
theorem dX10_beats_17 : decode cX10_beats 17 = .ok (.iconst 1, 1) := by decide +kernel
theorem dX10_beats_18 : decode cX10_beats 18 = .ok (.invokevirtual 51, 3) := by decide +kernel
theorem dX10_beats_21 : decode cX10_beats 21 = .ok (.ireturn, 1) := by decide +kernel
theorem dX10_beats_22 : decode cX10_beats 22 = .ok (.aload_n 0, 1) := by decide +kernel
theorem dX10_beats_23 : decode cX10_beats 23 = .ok (.iload_n 1, 1) := by decide +kernel
theorem dX10_beats_24 : decode cX10_beats 24 = .ok (.iconst 3, 1) := by decide +kernel
theorem dX10_beats_25 : decode cX10_beats 25 = .ok (.iload_n 3, 1) := by decide +kernel
theorem dX10_beats_26 : decode cX10_beats 26 = .ok (.invokevirtual 163, 3) := by decide +kernel
theorem dX10_beats_29 : decode cX10_beats 29 = .ok (.aload_n 0, 1) := by decide +kernel
theorem dX10_beats_30 : decode cX10_beats 30 = .ok (.bipush 8, 2) := by decide +kernel
theorem dX10_beats_32 : decode cX10_beats 32 = .ok (.iconst 4, 1) := by decide +kernel
theorem dX10_beats_33 : decode cX10_beats 33 = .ok (.iload_n 1, 1) := by decide +kernel
theorem dX10_beats_34 : decode cX10_beats 34 = .ok (.imul, 1) := by decide +kernel
theorem dX10_beats_35 : decode cX10_beats 35 = .ok (.iadd, 1) := by decide +kernel
theorem dX10_beats_36 : decode cX10_beats 36 = .ok (.iconst 2, 1) := by decide +kernel
theorem dX10_beats_37 : decode cX10_beats 37 = .ok (.iadd, 1) := by decide +kernel
theorem dX10_beats_38 : decode cX10_beats 38 = .ok (.iload_n 2, 1) := by decide +kernel
theorem dX10_beats_39 : decode cX10_beats 39 = .ok (.invokevirtual 169, 3) := by decide +kernel
theorem dX10_beats_42 : decode cX10_beats 42 = .ok (.ireturn, 1) := by decide +kernel
theorem dX10_doing_0 : decode cX10_doing 0 = .ok (.aload_n 0, 1) := by decide +kernel
theorem dX10_doing_1 : decode cX10_doing 1 = .ok (.iload_n 1, 1) := by decide +kernel
theorem dX10_doing_2 : decode cX10_doing 2 = .ok (.invokevirtual 166, 3) := by decide +kernel
theorem dX10_doing_5 : decode cX10_doing 5 = .ok (.ifCond .eq 30, 3) := by decide +kernel
theorem dX10_doing_8 : decode cX10_doing 8 = .ok (.iload_n 2, 1) := by decide +kernel
theorem dX10_doing_9 : decode cX10_doing 9 = .ok (.iconst 0, 1) := by decide +kernel
theorem dX10_doing_10 : decode cX10_doing 10 = .ok (.bipush 99, 2) := by decide +kernel
theorem dX10_doing_12 : decode cX10_doing 12 = .ok (.invokestatic 47, 3) := by decide +kernel
theorem dX10_doing_15 : decode cX10_doing 15 = .ok (.ifCond .eq 20, 3) := by decide +kernel
theorem dX10_doing_18 : decode cX10_doing 18 = .ok (.aload_n 0, 1) := by decide +kernel
theorem dX10_doing_19 : decode cX10_doing 19 = .ok (.iload_n 3, 1) := by decide +kernel
theorem dX10_doing_20 : decode cX10_doing 20 = .ok (.invokevirtual 175, 3) := by decide +kernel
theorem dX10_doing_23 : decode cX10_doing 23 = .ok (.ifCond .eq 12, 3) := by decide +kernel
theorem dX10_doing_26 : decode cX10_doing 26 = .ok (.iload_n 3, 1) := by decide +kernel
theorem dX10_doing_27 : decode cX10_doing 27 = .ok (.iload_n 1, 1) := by decide +kernel
theorem dX10_doing_28 : decode cX10_doing 28 = .ok (.ishr, 1) := by decide +kernel
theorem dX10_doing_29 : decode cX10_doing 29 = .ok (.iconst 1, 1) := by decide +kernel
theorem dX10_doing_30 : decode cX10_doing 30 = .ok (.iand, 1) := by decide +kernel
theorem dX10_doing_31 : decode cX10_doing 31 = .ok (.iconst 1, 1) := by decide +kernel
theorem dX10_doing_32 : decode cX10_doing 32 = .ok (.if_icmp .ne 9, 3) := by decide +kernel
theorem dX10_doing_35 : decode cX10_doing 35 = .ok (.aload_n 0, 1) := by decide +kernel
theorem dX10_doing_36 : decode cX10_doing 36 = .ok (.iconst 1, 1) := by decide +kernel
theorem dX10_doing_37 : decode cX10_doing 37 = .ok (.invokevirtual 51, 3) := by decide +kernel
theorem dX10_doing_40 : decode cX10_doing 40 = .ok (.ireturn, 1) := by decide +kernel
theorem dX10_doing_41 : decode cX10_doing 41 = .ok (.aload_n 0, 1) := by decide +kernel
theorem dX10_doing_42 : decode cX10_doing 42 = .ok (.getfield 7, 3) := by decide +kernel
theorem dX10_doing_45 : decode cX10_doing 45 = .ok (.iconst 5, 1) := by decide +kernel
theorem dX10_doing_46 : decode cX10_doing 46 = .ok (.iaload, 1) := by decide +kernel
theorem dX10_doing_47 : decode cX10_doing 47 = .ok (.bipush 6, 2) := by decide +kernel
theorem dX10_doing_49 : decode cX10_doing 49 = .ok (.if_icmp .ne 9, 3) := by decide +kernel
theorem dX10_doing_52 : decode cX10_doing 52 = .ok (.aload_n 0, 1) := by decide +kernel
theorem dX10_doing_53 : decode cX10_doing 53 = .ok (.iconst 4, 1) := by decide +kernel
theorem dX10_doing_54 : decode cX10_doing 54 = .ok (.invokevirtual 51, 3) := by decide +kernel
theorem dX10_doing_57 : decode cX10_doing 57 = .ok (.ireturn, 1) := by decide +kernel
theorem dX10_doing_58 : decode cX10_doing 58 = .ok (.aload_n 0, 1) := by decide +kernel
theorem dX10_doing_59 : decode cX10_doing 59 = .ok (.getfield 7, 3) := by decide +kernel
theorem dX10_doing_62 : decode cX10_doing 62 = .ok (.iconst 5, 1) := by decide +kernel
theorem dX10_doing_63 : decode cX10_doing 63 = .ok (.iaload, 1) := by decide +kernel
theorem dX10_doing_64 : decode cX10_doing 64 = .ok (.istore 4, 2) := by decide +kernel
theorem dX10_doing_66 : decode cX10_doing 66 = .ok (.aload_n 0, 1) := by decide +kernel
theorem dX10_doing_67 : decode cX10_doing 67 = .ok (.iload 4, 2) := by decide +kernel
theorem dX10_doing_69 : decode cX10_doing 69 = .ok (.iconst 0, 1) := by decide +kernel
end
section
theorem dX10_doing_70 : decode cX10_doing 70 = .ok (.iload_n 1, 1) := by decide +kernel
theorem dX10_doing_71 : decode cX10_doing 71 = .ok (.invokevirtual 145, 3) := by decide +kernel
theorem dX10_doing_74 : decode cX10_doing 74 = .ok (.aload_n 0, 1) := by decide +kernel
theorem dX10_doing_75 : decode cX10_doing 75 = .ok (.iload 4, 2) := by decide +kernel
theorem dX10_doing_77 : decode cX10_doing 77 = .ok (.iconst 1, 1) := by decide +kernel
theorem dX10_doing_78 : decode cX10_doing 78 = .ok (.iload_n 2, 1) := by decide +kernel
theorem dX10_doing_79 : decode cX10_doing 79 = .ok (.invokevirtual 145, 3) := by decide +kernel
theorem dX10_doing_82 : decode cX10_doing 82 = .ok (.aload_n 0, 1) := by decide +kernel
theorem dX10_doing_83 : decode cX10_doing 83 = .ok (.iload 4, 2) := by decide +kernel
theorem dX10_doing_85 : decode cX10_doing 85 = .ok (.iconst 2, 1) := by decide +kernel
theorem dX10_doing_86 : decode cX10_doing 86 = .ok (.iload_n 3, 1) := by decide +kernel
theorem dX10_doing_87 : decode cX10_doing 87 = .ok (.invokevirtual 145, 3) := by decide +kernel
theorem dX10_doing_90 : decode cX10_doing 90 = .ok (.aload_n 0, 1) := by decide +kernel
theorem dX10_doing_91 : decode cX10_doing 91 = .ok (.getfield 7, 3) := by decide +kernel
theorem dX10_doing_94 : decode cX10_doing 94 = .ok (.iconst 5, 1) := by decide +kernel
theorem dX10_doing_95 : decode cX10_doing 95 = .ok (.dup2, 1) := by decide +kernel
theorem dX10_doing_96 : decode cX10_doing 96 = .ok (.iaload, 1) := by decide +kernel
theorem dX10_doing_97 : decode cX10_doing 97 = .ok (.iconst 1, 1) := by decide +kernel
theorem dX10_doing_98 : decode cX10_doing 98 = .ok (.iadd, 1) := by decide +kernel
theorem dX10_doing_99 : decode cX10_doing 99 = .ok (.iastore, 1) := by decide +kernel
theorem dX10_doing_100 : decode cX10_doing 100 = .ok (.iload 4, 2) := by decide +kernel
theorem dX10_doing_102 : decode cX10_doing 102 = .ok (.ireturn, 1) := by decide +kernel
theorem dX10_doingIs_0 : decode cX10_doingIs 0 = .ok (.aload_n 0, 1) := by decide +kernel
theorem dX10_doingIs_1 : decode cX10_doingIs 1 = .ok (.iload_n 1, 1) := by decide +kernel
theorem dX10_doingIs_2 : decode cX10_doingIs 2 = .ok (.invokevirtual 178, 3) := by decide +kernel
theorem dX10_doingIs_5 : decode cX10_doingIs 5 = .ok (.ifCond .eq 12, 3) := by decide +kernel
theorem dX10_doingIs_8 : decode cX10_doingIs 8 = .ok (.iload_n 2, 1) := by decide +kernel
theorem dX10_doingIs_9 : decode cX10_doingIs 9 = .ok (.iconst 0, 1) := by decide +kernel
theorem dX10_doingIs_10 : decode cX10_doingIs 10 = .ok (.iconst 3, 1) := by decide +kernel
theorem dX10_doingIs_11 : decode cX10_doingIs 11 = .ok (.invokestatic 47, 3) := by decide +kernel
theorem dX10_doingIs_14 : decode cX10_doingIs 14 = .ok (.ifCond .ne 9, 3) := by decide +kernel
theorem dX10_doingIs_17 : decode cX10_doingIs 17 = .ok (.aload_n 0, 1) := by decide +kernel
theorem dX10_doingIs_18 : decode cX10_doingIs 18 = .ok (.iconst 1, 1) := by decide +kernel
theorem dX10_doingIs_19 : decode cX10_doingIs 19 = .ok (.invokevirtual 51, 3) := by decide +kernel
theorem dX10_doingIs_22 : decode cX10_doingIs 22 = .ok (.ireturn, 1) := by decide +kernel
theorem dX10_doingIs_23 : decode cX10_doingIs 23 = .ok (.iload_n 2, 1) := by decide +kernel
theorem dX10_doingIs_24 : decode cX10_doingIs 24 = .ok (.iconst 3, 1) := by decide +kernel
theorem dX10_doingIs_25 : decode cX10_doingIs 25 = .ok (.if_icmp .ge 12, 3) := by decide +kernel
theorem dX10_doingIs_28 : decode cX10_doingIs 28 = .ok (.aload_n 0, 1) := by decide +kernel
theorem dX10_doingIs_29 : decode cX10_doingIs 29 = .ok (.iload_n 1, 1) := by decide +kernel
theorem dX10_doingIs_30 : decode cX10_doingIs 30 = .ok (.iload_n 2, 1) := by decide +kernel
theorem dX10_doingIs_31 : decode cX10_doingIs 31 = .ok (.invokevirtual 130, 3) := by decide +kernel
theorem dX10_doingIs_34 : decode cX10_doingIs 34 = .ok (.goto 12, 3) := by decide +kernel
theorem dX10_doingIs_37 : decode cX10_doingIs 37 = .ok (.aload_n 0, 1) := by decide +kernel
theorem dX10_doingIs_38 : decode cX10_doingIs 38 = .ok (.iload_n 1, 1) := by decide +kernel
theorem dX10_doingIs_39 : decode cX10_doingIs 39 = .ok (.aload_n 0, 1) := by decide +kernel
theorem dX10_doingIs_40 : decode cX10_doingIs 40 = .ok (.invokevirtual 149, 3) := by decide +kernel
theorem dX10_doingIs_43 : decode cX10_doingIs 43 = .ok (.invokevirtual 142, 3) := by decide +kernel
theorem dX10_doingIs_46 : decode cX10_doingIs 46 = .ok (.ireturn, 1) := by decide +kernel
theorem dX10_sets_0 : decode cX10_sets 0 = .ok (.aload_n 0, 1) := by decide +kernel
theorem dX10_sets_1 : decode cX10_sets 1 = .ok (.iload_n 1, 1) := by decide +kernel
theorem dX10_sets_2 : decode cX10_sets 2 = .ok (.invokevirtual 178, 3) := by decide +kernel
theorem dX10_sets_5 : decode cX10_sets 5 = .ok (.ifCond .eq 29, 3) := by decide +kernel
theorem dX10_sets_8 : decode cX10_sets 8 = .ok (.iload_n 2, 1) := by decide +kernel
theorem dX10_sets_9 : decode cX10_sets 9 = .ok (.iconst 0, 1) := by decide +kernel
theorem dX10_sets_10 : decode cX10_sets 10 = .ok (.bipush 99, 2) := by decide +kernel
theorem dX10_sets_12 : decode cX10_sets 12 = .ok (.invokestatic 47, 3) := by decide +kernel
theorem dX10_sets_15 : decode cX10_sets 15 = .ok (.ifCond .eq 19, 3) := by decide +kernel
theorem dX10_sets_18 : decode cX10_sets 18 = .ok (.aload_n 0, 1) := by decide +kernel
theorem dX10_sets_19 : decode cX10_sets 19 = .ok (.bipush 32, 2) := by decide +kernel
theorem dX10_sets_21 : decode cX10_sets 21 = .ok (.iconst 3, 1) := by decide +kernel
theorem dX10_sets_22 : decode cX10_sets 22 = .ok (.iload_n 1, 1) := by decide +kernel
theorem dX10_sets_23 : decode cX10_sets 23 = .ok (.imul, 1) := by decide +kernel
theorem dX10_sets_24 : decode cX10_sets 24 = .ok (.iadd, 1) := by decide +kernel
theorem dX10_sets_25 : decode cX10_sets 25 = .ok (.iconst 1, 1) := by decide +kernel
theorem dX10_sets_26 : decode cX10_sets 26 = .ok (.iadd, 1) := by decide +kernel
theorem dX10_sets_27 : decode cX10_sets 27 = .ok (.iload_n 2, 1) := by decide +kernel
theorem dX10_sets_28 : decode cX10_sets 28 = .ok (.invokevirtual 169, 3) := by decide +kernel
theorem dX10_sets_31 : decode cX10_sets 31 = .ok (.goto 8, 3) := by decide +kernel
theorem dX10_sets_34 : decode cX10_sets 34 = .ok (.aload_n 0, 1) := by decide +kernel
theorem dX10_sets_35 : decode cX10_sets 35 = .ok (.iconst 1, 1) := by decide +kernel
theorem dX10_sets_36 : decode cX10_sets 36 = .ok (.invokevirtual 51, 3) := by decide +kernel
theorem dX10_sets_39 : decode cX10_sets 39 = .ok (.ireturn, 1) := by decide +kernel
theorem dX10_shut_0 : decode cX10_shut 0 = .ok (.aload_n 0, 1) := by decide +kernel
theorem dX10_shut_1 : decode cX10_shut 1 = .ok (.invokevirtual 149, 3) := by decide +kernel
theorem dX10_shut_4 : decode cX10_shut 4 = .ok (.ireturn, 1) := by decide +kernel
theorem dX10_law_0 : decode cX10_law 0 = .ok (.iload_n 1, 1) := by decide +kernel
theorem dX10_law_1 : decode cX10_law 1 = .ok (.iconst 0, 1) := by decide +kernel
theorem dX10_law_2 : decode cX10_law 2 = .ok (.iconst 1, 1) := by decide +kernel
theorem dX10_law_3 : decode cX10_law 3 = .ok (.invokestatic 47, 3) := by decide +kernel
theorem dX10_law_6 : decode cX10_law 6 = .ok (.ifCond .ne 9, 3) := by decide +kernel
theorem dX10_law_9 : decode cX10_law 9 = .ok (.aload_n 0, 1) := by decide +kernel
theorem dX10_law_10 : decode cX10_law 10 = .ok (.iconst 1, 1) := by decide +kernel
theorem dX10_law_11 : decode cX10_law 11 = .ok (.invokevirtual 51, 3) := by decide +kernel
theorem dX10_law_14 : decode cX10_law 14 = .ok (.ireturn, 1) := by decide +kernel
theorem dX10_law_15 : decode cX10_law 15 = .ok (.iload_n 1, 1) := by decide +kernel
theorem dX10_law_16 : decode cX10_law 16 = .ok (.ifCond .ne 14, 3) := by decide +kernel
theorem dX10_law_19 : decode cX10_law 19 = .ok (.aload_n 0, 1) := by decide +kernel
theorem dX10_law_20 : decode cX10_law 20 = .ok (.iload_n 2, 1) := by decide +kernel
theorem dX10_law_21 : decode cX10_law 21 = .ok (.iload_n 3, 1) := by decide +kernel
theorem dX10_law_22 : decode cX10_law 22 = .ok (.iload 4, 2) := by decide +kernel
theorem dX10_law_24 : decode cX10_law 24 = .ok (.invokevirtual 124, 3) := by decide +kernel
theorem dX10_law_27 : decode cX10_law 27 = .ok (.goto 11, 3) := by decide +kernel
theorem dX10_law_30 : decode cX10_law 30 = .ok (.aload_n 0, 1) := by decide +kernel
theorem dX10_law_31 : decode cX10_law 31 = .ok (.iload_n 2, 1) := by decide +kernel
theorem dX10_law_32 : decode cX10_law 32 = .ok (.iload_n 3, 1) := by decide +kernel
theorem dX10_law_33 : decode cX10_law 33 = .ok (.iload 4, 2) := by decide +kernel
theorem dX10_law_35 : decode cX10_law 35 = .ok (.invokevirtual 139, 3) := by decide +kernel
theorem dX10_law_38 : decode cX10_law 38 = .ok (.ireturn, 1) := by decide +kernel
theorem dX10_whyNot_0 : decode cX10_whyNot 0 = .ok (.iload_n 1, 1) := by decide +kernel
theorem dX10_whyNot_1 : decode cX10_whyNot 1 = .ok (.iconst 1, 1) := by decide +kernel
theorem dX10_whyNot_2 : decode cX10_whyNot 2 = .ok (.iload_n 2, 1) := by decide +kernel
theorem dX10_whyNot_3 : decode cX10_whyNot 3 = .ok (.invokestatic 47, 3) := by decide +kernel
theorem dX10_whyNot_6 : decode cX10_whyNot 6 = .ok (.ifCond .ne 7, 3) := by decide +kernel
theorem dX10_whyNot_9 : decode cX10_whyNot 9 = .ok (.iconst 1, 1) := by decide +kernel
theorem dX10_whyNot_10 : decode cX10_whyNot 10 = .ok (.goto 21, 3) := by decide +kernel
theorem dX10_whyNot_13 : decode cX10_whyNot 13 = .ok (.aload_n 0, 1) := by decide +kernel
theorem dX10_whyNot_14 : decode cX10_whyNot 14 = .ok (.getfield 7, 3) := by decide +kernel
theorem dX10_whyNot_17 : decode cX10_whyNot 17 = .ok (.iconst 0, 1) := by decide +kernel
theorem dX10_whyNot_18 : decode cX10_whyNot 18 = .ok (.iaload, 1) := by decide +kernel
theorem dX10_whyNot_19 : decode cX10_whyNot 19 = .ok (.iload_n 1, 1) := by decide +kernel
theorem dX10_whyNot_20 : decode cX10_whyNot 20 = .ok (.iadd, 1) := by decide +kernel
theorem dX10_whyNot_21 : decode cX10_whyNot 21 = .ok (.ldc 181, 2) := by decide +kernel
theorem dX10_whyNot_23 : decode cX10_whyNot 23 = .ok (.if_icmp .le 7, 3) := by decide +kernel
theorem dX10_whyNot_26 : decode cX10_whyNot 26 = .ok (.iconst 3, 1) := by decide +kernel
theorem dX10_whyNot_27 : decode cX10_whyNot 27 = .ok (.goto 4, 3) := by decide +kernel
theorem dX10_whyNot_30 : decode cX10_whyNot 30 = .ok (.iconst 0, 1) := by decide +kernel
theorem dX10_whyNot_31 : decode cX10_whyNot 31 = .ok (.ireturn, 1) := by decide +kernel
theorem dX10_ticks_0 : decode cX10_ticks 0 = .ok (.aload_n 0, 1) := by decide +kernel
theorem dX10_ticks_1 : decode cX10_ticks 1 = .ok (.iload_n 1, 1) := by decide +kernel
theorem dX10_ticks_2 : decode cX10_ticks 2 = .ok (.sipush 200, 3) := by decide +kernel
theorem dX10_ticks_5 : decode cX10_ticks 5 = .ok (.invokevirtual 182, 3) := by decide +kernel
theorem dX10_ticks_8 : decode cX10_ticks 8 = .ok (.istore_n 2, 1) := by decide +kernel
theorem dX10_ticks_9 : decode cX10_ticks 9 = .ok (.iload_n 2, 1) := by decide +kernel
theorem dX10_ticks_10 : decode cX10_ticks 10 = .ok (.ifCond .eq 9, 3) := by decide +kernel
theorem dX10_ticks_13 : decode cX10_ticks 13 = .ok (.aload_n 0, 1) := by decide +kernel
theorem dX10_ticks_14 : decode cX10_ticks 14 = .ok (.iload_n 2, 1) := by decide +kernel
theorem dX10_ticks_15 : decode cX10_ticks 15 = .ok (.invokevirtual 51, 3) := by decide +kernel
theorem dX10_ticks_18 : decode cX10_ticks 18 = .ok (.ireturn, 1) := by decide +kernel
theorem dX10_ticks_19 : decode cX10_ticks 19 = .ok (.iconst 0, 1) := by decide +kernel
theorem dX10_ticks_20 : decode cX10_ticks 20 = .ok (.istore_n 3, 1) := by decide +kernel
theorem dX10_ticks_21 : decode cX10_ticks 21 = .ok (.iconst 0, 1) := by decide +kernel
theorem dX10_ticks_22 : decode cX10_ticks 22 = .ok (.istore 4, 2) := by decide +kernel
theorem dX10_ticks_24 : decode cX10_ticks 24 = .ok (.iload 4, 2) := by decide +kernel
theorem dX10_ticks_26 : decode cX10_ticks 26 = .ok (.iload_n 1, 1) := by decide +kernel
theorem dX10_ticks_27 : decode cX10_ticks 27 = .ok (.if_icmp .ge 16, 3) := by decide +kernel
theorem dX10_ticks_30 : decode cX10_ticks 30 = .ok (.iload_n 3, 1) := by decide +kernel
theorem dX10_ticks_31 : decode cX10_ticks 31 = .ok (.aload_n 0, 1) := by decide +kernel
theorem dX10_ticks_32 : decode cX10_ticks 32 = .ok (.invokevirtual 185, 3) := by decide +kernel
theorem dX10_ticks_35 : decode cX10_ticks 35 = .ok (.iadd, 1) := by decide +kernel
theorem dX10_ticks_36 : decode cX10_ticks 36 = .ok (.istore_n 3, 1) := by decide +kernel
theorem dX10_ticks_37 : decode cX10_ticks 37 = .ok (.iinc 4 1, 3) := by decide +kernel
theorem dX10_ticks_40 : decode cX10_ticks 40 = .ok (.goto (-16), 3) := by decide +kernel
theorem dX10_ticks_43 : decode cX10_ticks 43 = .ok (.iload_n 3, 1) := by decide +kernel
theorem dX10_ticks_44 : decode cX10_ticks 44 = .ok (.ireturn, 1) := by decide +kernel
theorem dX10_shifts_0 : decode cX10_shifts 0 = .ok (.aload_n 0, 1) := by decide +kernel
theorem dX10_shifts_1 : decode cX10_shifts 1 = .ok (.getfield 7, 3) := by decide +kernel
theorem dX10_shifts_4 : decode cX10_shifts 4 = .ok (.iconst 4, 1) := by decide +kernel
theorem dX10_shifts_5 : decode cX10_shifts 5 = .ok (.iaload, 1) := by decide +kernel
theorem dX10_shifts_6 : decode cX10_shifts 6 = .ok (.ifCond .le 41, 3) := by decide +kernel
theorem dX10_shifts_9 : decode cX10_shifts 9 = .ok (.aload_n 0, 1) := by decide +kernel
theorem dX10_shifts_10 : decode cX10_shifts 10 = .ok (.invokevirtual 188, 3) := by decide +kernel
theorem dX10_shifts_13 : decode cX10_shifts 13 = .ok (.iconst 4, 1) := by decide +kernel
theorem dX10_shifts_14 : decode cX10_shifts 14 = .ok (.irem, 1) := by decide +kernel
theorem dX10_shifts_15 : decode cX10_shifts 15 = .ok (.ifCond .ne 32, 3) := by decide +kernel
theorem dX10_shifts_18 : decode cX10_shifts 18 = .ok (.aload_n 0, 1) := by decide +kernel
theorem dX10_shifts_19 : decode cX10_shifts 19 = .ok (.invokevirtual 188, 3) := by decide +kernel
theorem dX10_shifts_22 : decode cX10_shifts 22 = .ok (.aload_n 0, 1) := by decide +kernel
theorem dX10_shifts_23 : decode cX10_shifts 23 = .ok (.getfield 7, 3) := by decide +kernel
theorem dX10_shifts_26 : decode cX10_shifts 26 = .ok (.iconst 4, 1) := by decide +kernel
theorem dX10_shifts_27 : decode cX10_shifts 27 = .ok (.iaload, 1) := by decide +kernel
theorem dX10_shifts_28 : decode cX10_shifts 28 = .ok (.irem, 1) := by decide +kernel
theorem dX10_shifts_29 : decode cX10_shifts 29 = .ok (.istore_n 1, 1) := by decide +kernel
theorem dX10_shifts_30 : decode cX10_shifts 30 = .ok (.aload_n 0, 1) := by decide +kernel
theorem dX10_shifts_31 : decode cX10_shifts 31 = .ok (.iload_n 1, 1) := by decide +kernel
theorem dX10_shifts_32 : decode cX10_shifts 32 = .ok (.iconst 3, 1) := by decide +kernel
theorem dX10_shifts_33 : decode cX10_shifts 33 = .ok (.aload_n 0, 1) := by decide +kernel
theorem dX10_shifts_34 : decode cX10_shifts 34 = .ok (.invokevirtual 188, 3) := by decide +kernel
theorem dX10_shifts_37 : decode cX10_shifts 37 = .ok (.aload_n 0, 1) := by decide +kernel
theorem dX10_shifts_38 : decode cX10_shifts 38 = .ok (.iload_n 1, 1) := by decide +kernel
theorem dX10_shifts_39 : decode cX10_shifts 39 = .ok (.iconst 2, 1) := by decide +kernel
theorem dX10_shifts_40 : decode cX10_shifts 40 = .ok (.invokevirtual 111, 3) := by decide +kernel
theorem dX10_shifts_43 : decode cX10_shifts 43 = .ok (.irem, 1) := by decide +kernel
theorem dX10_shifts_44 : decode cX10_shifts 44 = .ok (.invokevirtual 163, 3) := by decide +kernel
theorem dX10_shifts_47 : decode cX10_shifts 47 = .ok (.return_, 1) := by decide +kernel
theorem dX10_loose_0 : decode cX10_loose 0 = .ok (.aload_n 0, 1) := by decide +kernel
theorem dX10_loose_1 : decode cX10_loose 1 = .ok (.iload_n 1, 1) := by decide +kernel
theorem dX10_loose_2 : decode cX10_loose 2 = .ok (.bipush 30, 2) := by decide +kernel
theorem dX10_loose_4 : decode cX10_loose 4 = .ok (.invokevirtual 182, 3) := by decide +kernel
theorem dX10_loose_7 : decode cX10_loose 7 = .ok (.istore_n 2, 1) := by decide +kernel
theorem dX10_loose_8 : decode cX10_loose 8 = .ok (.iload_n 2, 1) := by decide +kernel
theorem dX10_loose_9 : decode cX10_loose 9 = .ok (.ifCond .eq 9, 3) := by decide +kernel
theorem dX10_loose_12 : decode cX10_loose 12 = .ok (.aload_n 0, 1) := by decide +kernel
theorem dX10_loose_13 : decode cX10_loose 13 = .ok (.iload_n 2, 1) := by decide +kernel
theorem dX10_loose_14 : decode cX10_loose 14 = .ok (.invokevirtual 51, 3) := by decide +kernel
theorem dX10_loose_17 : decode cX10_loose 17 = .ok (.ireturn, 1) := by decide +kernel
theorem dX10_loose_18 : decode cX10_loose 18 = .ok (.iconst 0, 1) := by decide +kernel
theorem dX10_loose_19 : decode cX10_loose 19 = .ok (.istore_n 3, 1) := by decide +kernel
theorem dX10_loose_20 : decode cX10_loose 20 = .ok (.iconst 0, 1) := by decide +kernel
theorem dX10_loose_21 : decode cX10_loose 21 = .ok (.istore 4, 2) := by decide +kernel
theorem dX10_loose_23 : decode cX10_loose 23 = .ok (.iload 4, 2) := by decide +kernel
theorem dX10_loose_25 : decode cX10_loose 25 = .ok (.iload_n 1, 1) := by decide +kernel
theorem dX10_loose_26 : decode cX10_loose 26 = .ok (.if_icmp .ge 20, 3) := by decide +kernel
theorem dX10_loose_29 : decode cX10_loose 29 = .ok (.aload_n 0, 1) := by decide +kernel
theorem dX10_loose_30 : decode cX10_loose 30 = .ok (.invokevirtual 191, 3) := by decide +kernel
theorem dX10_loose_33 : decode cX10_loose 33 = .ok (.iload_n 3, 1) := by decide +kernel
theorem dX10_loose_34 : decode cX10_loose 34 = .ok (.aload_n 0, 1) := by decide +kernel
theorem dX10_loose_35 : decode cX10_loose 35 = .ok (.invokevirtual 185, 3) := by decide +kernel
theorem dX10_loose_38 : decode cX10_loose 38 = .ok (.iadd, 1) := by decide +kernel
theorem dX10_loose_39 : decode cX10_loose 39 = .ok (.istore_n 3, 1) := by decide +kernel
theorem dX10_loose_40 : decode cX10_loose 40 = .ok (.iinc 4 1, 3) := by decide +kernel
theorem dX10_loose_43 : decode cX10_loose 43 = .ok (.goto (-20), 3) := by decide +kernel
theorem dX10_loose_46 : decode cX10_loose 46 = .ok (.iload_n 3, 1) := by decide +kernel
theorem dX10_loose_47 : decode cX10_loose 47 = .ok (.ireturn, 1) := by decide +kernel
theorem dX10_tick_0 : decode cX10_tick 0 = .ok (.iload_n 1, 1) := by decide +kernel
theorem dX10_tick_1 : decode cX10_tick 1 = .ok (.iconst 0, 1) := by decide +kernel
theorem dX10_tick_2 : decode cX10_tick 2 = .ok (.ldc 181, 2) := by decide +kernel
theorem dX10_tick_4 : decode cX10_tick 4 = .ok (.invokestatic 47, 3) := by decide +kernel
theorem dX10_tick_7 : decode cX10_tick 7 = .ok (.ifCond .eq 12, 3) := by decide +kernel
theorem dX10_tick_10 : decode cX10_tick 10 = .ok (.aload_n 0, 1) := by decide +kernel
theorem dX10_tick_11 : decode cX10_tick 11 = .ok (.iconst 0, 1) := by decide +kernel
theorem dX10_tick_12 : decode cX10_tick 12 = .ok (.iload_n 1, 1) := by decide +kernel
theorem dX10_tick_13 : decode cX10_tick 13 = .ok (.invokevirtual 169, 3) := by decide +kernel
theorem dX10_tick_16 : decode cX10_tick 16 = .ok (.goto 8, 3) := by decide +kernel
theorem dX10_tick_19 : decode cX10_tick 19 = .ok (.aload_n 0, 1) := by decide +kernel
theorem dX10_tick_20 : decode cX10_tick 20 = .ok (.iconst 1, 1) := by decide +kernel
theorem dX10_tick_21 : decode cX10_tick 21 = .ok (.invokevirtual 51, 3) := by decide +kernel
theorem dX10_tick_24 : decode cX10_tick 24 = .ok (.ireturn, 1) := by decide +kernel
theorem dX10_seed_0 : decode cX10_seed 0 = .ok (.aload_n 0, 1) := by decide +kernel
theorem dX10_seed_1 : decode cX10_seed 1 = .ok (.iconst 1, 1) := by decide +kernel
theorem dX10_seed_2 : decode cX10_seed 2 = .ok (.iload_n 1, 1) := by decide +kernel
theorem dX10_seed_3 : decode cX10_seed 3 = .ok (.invokevirtual 169, 3) := by decide +kernel
theorem dX10_seed_6 : decode cX10_seed 6 = .ok (.ireturn, 1) := by decide +kernel
theorem dX10_then_0 : decode cX10_then 0 = .ok (.aload_n 0, 1) := by decide +kernel
theorem dX10_then_1 : decode cX10_then 1 = .ok (.iload_n 1, 1) := by decide +kernel
theorem dX10_then_2 : decode cX10_then 2 = .ok (.invokevirtual 178, 3) := by decide +kernel
theorem dX10_then_5 : decode cX10_then 5 = .ok (.ifCond .eq 14, 3) := by decide +kernel
theorem dX10_then_8 : decode cX10_then 8 = .ok (.iload_n 2, 1) := by decide +kernel
theorem dX10_then_9 : decode cX10_then 9 = .ok (.iconst 0, 1) := by decide +kernel
theorem dX10_then_10 : decode cX10_then 10 = .ok (.sipush 200, 3) := by decide +kernel
theorem dX10_then_13 : decode cX10_then 13 = .ok (.invokestatic 47, 3) := by decide +kernel
theorem dX10_then_16 : decode cX10_then 16 = .ok (.ifCond .ne 9, 3) := by decide +kernel
theorem dX10_then_19 : decode cX10_then 19 = .ok (.aload_n 0, 1) := by decide +kernel
theorem dX10_then_20 : decode cX10_then 20 = .ok (.iconst 1, 1) := by decide +kernel
theorem dX10_then_21 : decode cX10_then 21 = .ok (.invokevirtual 51, 3) := by decide +kernel
theorem dX10_then_24 : decode cX10_then 24 = .ok (.ireturn, 1) := by decide +kernel
theorem dX10_then_25 : decode cX10_then 25 = .ok (.aload_n 0, 1) := by decide +kernel
theorem dX10_then_26 : decode cX10_then 26 = .ok (.invokevirtual 194, 3) := by decide +kernel
theorem dX10_then_29 : decode cX10_then 29 = .ok (.iconst 0, 1) := by decide +kernel
theorem dX10_then_30 : decode cX10_then 30 = .ok (.istore_n 3, 1) := by decide +kernel
theorem dX10_then_31 : decode cX10_then 31 = .ok (.iload_n 3, 1) := by decide +kernel
theorem dX10_then_32 : decode cX10_then 32 = .ok (.iload_n 2, 1) := by decide +kernel
theorem dX10_then_33 : decode cX10_then 33 = .ok (.if_icmp .ge 30, 3) := by decide +kernel
theorem dX10_then_36 : decode cX10_then 36 = .ok (.aload_n 0, 1) := by decide +kernel
theorem dX10_then_37 : decode cX10_then 37 = .ok (.iload_n 1, 1) := by decide +kernel
theorem dX10_then_38 : decode cX10_then 38 = .ok (.aload_n 0, 1) := by decide +kernel
theorem dX10_then_39 : decode cX10_then 39 = .ok (.invokevirtual 149, 3) := by decide +kernel
theorem dX10_then_42 : decode cX10_then 42 = .ok (.invokevirtual 152, 3) := by decide +kernel
theorem dX10_then_45 : decode cX10_then 45 = .ok (.istore 4, 2) := by decide +kernel
theorem dX10_then_47 : decode cX10_then 47 = .ok (.aload_n 0, 1) := by decide +kernel
theorem dX10_then_48 : decode cX10_then 48 = .ok (.getfield 7, 3) := by decide +kernel
theorem dX10_then_51 : decode cX10_then 51 = .ok (.iconst 0, 1) := by decide +kernel
theorem dX10_then_52 : decode cX10_then 52 = .ok (.dup2, 1) := by decide +kernel
theorem dX10_then_53 : decode cX10_then 53 = .ok (.iaload, 1) := by decide +kernel
theorem dX10_then_54 : decode cX10_then 54 = .ok (.iconst 1, 1) := by decide +kernel
theorem dX10_then_55 : decode cX10_then 55 = .ok (.iadd, 1) := by decide +kernel
theorem dX10_then_56 : decode cX10_then 56 = .ok (.iastore, 1) := by decide +kernel
theorem dX10_then_57 : decode cX10_then 57 = .ok (.iinc 3 1, 3) := by decide +kernel
theorem dX10_then_60 : decode cX10_then 60 = .ok (.goto (-29), 3) := by decide +kernel
theorem dX10_then_63 : decode cX10_then 63 = .ok (.aload_n 0, 1) := by decide +kernel
theorem dX10_then_64 : decode cX10_then 64 = .ok (.iload_n 1, 1) := by decide +kernel
theorem dX10_then_65 : decode cX10_then 65 = .ok (.iconst 1, 1) := by decide +kernel
theorem dX10_then_66 : decode cX10_then 66 = .ok (.invokevirtual 130, 3) := by decide +kernel
theorem dX10_then_69 : decode cX10_then 69 = .ok (.istore_n 3, 1) := by decide +kernel
theorem dX10_then_70 : decode cX10_then 70 = .ok (.aload_n 0, 1) := by decide +kernel
theorem dX10_then_71 : decode cX10_then 71 = .ok (.invokevirtual 197, 3) := by decide +kernel
theorem dX10_then_74 : decode cX10_then 74 = .ok (.iload_n 3, 1) := by decide +kernel
theorem dX10_then_75 : decode cX10_then 75 = .ok (.ireturn, 1) := by decide +kernel
theorem dX10_doneBy_0 : decode cX10_doneBy 0 = .ok (.iconst 0, 1) := by decide +kernel
theorem dX10_doneBy_1 : decode cX10_doneBy 1 = .ok (.istore_n 3, 1) := by decide +kernel
theorem dX10_doneBy_2 : decode cX10_doneBy 2 = .ok (.iload_n 3, 1) := by decide +kernel
theorem dX10_doneBy_3 : decode cX10_doneBy 3 = .ok (.iload_n 2, 1) := by decide +kernel
theorem dX10_doneBy_4 : decode cX10_doneBy 4 = .ok (.if_icmp .gt 39, 3) := by decide +kernel
theorem dX10_doneBy_7 : decode cX10_doneBy 7 = .ok (.aload_n 0, 1) := by decide +kernel
theorem dX10_doneBy_8 : decode cX10_doneBy 8 = .ok (.iload_n 1, 1) := by decide +kernel
theorem dX10_doneBy_9 : decode cX10_doneBy 9 = .ok (.iconst 1, 1) := by decide +kernel
theorem dX10_doneBy_10 : decode cX10_doneBy 10 = .ok (.invokevirtual 130, 3) := by decide +kernel
theorem dX10_doneBy_13 : decode cX10_doneBy 13 = .ok (.ifCond .le 30, 3) := by decide +kernel
theorem dX10_doneBy_16 : decode cX10_doneBy 16 = .ok (.aload_n 0, 1) := by decide +kernel
theorem dX10_doneBy_17 : decode cX10_doneBy 17 = .ok (.iload_n 1, 1) := by decide +kernel
theorem dX10_doneBy_18 : decode cX10_doneBy 18 = .ok (.aload_n 0, 1) := by decide +kernel
theorem dX10_doneBy_19 : decode cX10_doneBy 19 = .ok (.invokevirtual 149, 3) := by decide +kernel
theorem dX10_doneBy_22 : decode cX10_doneBy 22 = .ok (.invokevirtual 152, 3) := by decide +kernel
theorem dX10_doneBy_25 : decode cX10_doneBy 25 = .ok (.istore 4, 2) := by decide +kernel
theorem dX10_doneBy_27 : decode cX10_doneBy 27 = .ok (.aload_n 0, 1) := by decide +kernel
theorem dX10_doneBy_28 : decode cX10_doneBy 28 = .ok (.getfield 7, 3) := by decide +kernel
theorem dX10_doneBy_31 : decode cX10_doneBy 31 = .ok (.iconst 0, 1) := by decide +kernel
theorem dX10_doneBy_32 : decode cX10_doneBy 32 = .ok (.dup2, 1) := by decide +kernel
theorem dX10_doneBy_33 : decode cX10_doneBy 33 = .ok (.iaload, 1) := by decide +kernel
theorem dX10_doneBy_34 : decode cX10_doneBy 34 = .ok (.iconst 1, 1) := by decide +kernel
theorem dX10_doneBy_35 : decode cX10_doneBy 35 = .ok (.iadd, 1) := by decide +kernel
theorem dX10_doneBy_36 : decode cX10_doneBy 36 = .ok (.iastore, 1) := by decide +kernel
theorem dX10_doneBy_37 : decode cX10_doneBy 37 = .ok (.iinc 3 1, 3) := by decide +kernel
theorem dX10_doneBy_40 : decode cX10_doneBy 40 = .ok (.goto (-38), 3) := by decide +kernel
theorem dX10_doneBy_43 : decode cX10_doneBy 43 = .ok (.aload_n 0, 1) := by decide +kernel
theorem dX10_doneBy_44 : decode cX10_doneBy 44 = .ok (.invokevirtual 197, 3) := by decide +kernel
theorem dX10_doneBy_47 : decode cX10_doneBy 47 = .ok (.iload_n 3, 1) := by decide +kernel
theorem dX10_doneBy_48 : decode cX10_doneBy 48 = .ok (.iload_n 2, 1) := by decide +kernel
theorem dX10_doneBy_49 : decode cX10_doneBy 49 = .ok (.if_icmp .le 7, 3) := by decide +kernel
theorem dX10_doneBy_52 : decode cX10_doneBy 52 = .ok (.iconst (-1), 1) := by decide +kernel
theorem dX10_doneBy_53 : decode cX10_doneBy 53 = .ok (.goto 4, 3) := by decide +kernel
theorem dX10_doneBy_56 : decode cX10_doneBy 56 = .ok (.iload_n 3, 1) := by decide +kernel
theorem dX10_doneBy_57 : decode cX10_doneBy 57 = .ok (.ireturn, 1) := by decide +kernel
theorem dX10_soonest_0 : decode cX10_soonest 0 = .ok (.aload_n 0, 1) := by decide +kernel
theorem dX10_soonest_1 : decode cX10_soonest 1 = .ok (.iload_n 1, 1) := by decide +kernel
theorem dX10_soonest_2 : decode cX10_soonest 2 = .ok (.invokevirtual 178, 3) := by decide +kernel
theorem dX10_soonest_5 : decode cX10_soonest 5 = .ok (.ifCond .ne 9, 3) := by decide +kernel
theorem dX10_soonest_8 : decode cX10_soonest 8 = .ok (.aload_n 0, 1) := by decide +kernel
theorem dX10_soonest_9 : decode cX10_soonest 9 = .ok (.iconst 1, 1) := by decide +kernel
theorem dX10_soonest_10 : decode cX10_soonest 10 = .ok (.invokevirtual 51, 3) := by decide +kernel
theorem dX10_soonest_13 : decode cX10_soonest 13 = .ok (.ireturn, 1) := by decide +kernel
theorem dX10_soonest_14 : decode cX10_soonest 14 = .ok (.aload_n 0, 1) := by decide +kernel
theorem dX10_soonest_15 : decode cX10_soonest 15 = .ok (.invokevirtual 194, 3) := by decide +kernel
theorem dX10_soonest_18 : decode cX10_soonest 18 = .ok (.aload_n 0, 1) := by decide +kernel
theorem dX10_soonest_19 : decode cX10_soonest 19 = .ok (.iload_n 1, 1) := by decide +kernel
theorem dX10_soonest_20 : decode cX10_soonest 20 = .ok (.sipush 200, 3) := by decide +kernel
theorem dX10_soonest_23 : decode cX10_soonest 23 = .ok (.invokevirtual 200, 3) := by decide +kernel
theorem dX10_soonest_26 : decode cX10_soonest 26 = .ok (.istore_n 2, 1) := by decide +kernel
theorem dX10_soonest_27 : decode cX10_soonest 27 = .ok (.iload_n 2, 1) := by decide +kernel
theorem dX10_soonest_28 : decode cX10_soonest 28 = .ok (.iconst (-1), 1) := by decide +kernel
theorem dX10_soonest_29 : decode cX10_soonest 29 = .ok (.if_icmp .ne 11, 3) := by decide +kernel
theorem dX10_soonest_32 : decode cX10_soonest 32 = .ok (.aload_n 0, 1) := by decide +kernel
theorem dX10_soonest_33 : decode cX10_soonest 33 = .ok (.iconst 2, 1) := by decide +kernel
theorem dX10_soonest_34 : decode cX10_soonest 34 = .ok (.invokevirtual 51, 3) := by decide +kernel
theorem dX10_soonest_37 : decode cX10_soonest 37 = .ok (.goto 4, 3) := by decide +kernel
theorem dX10_soonest_40 : decode cX10_soonest 40 = .ok (.iload_n 2, 1) := by decide +kernel
theorem dX10_soonest_41 : decode cX10_soonest 41 = .ok (.ireturn, 1) := by decide +kernel
theorem dX10_isMoment_0 : decode cX10_isMoment 0 = .ok (.iconst 1, 1) := by decide +kernel
theorem dX10_isMoment_1 : decode cX10_isMoment 1 = .ok (.istore_n 2, 1) := by decide +kernel
theorem dX10_isMoment_2 : decode cX10_isMoment 2 = .ok (.iconst 0, 1) := by decide +kernel
theorem dX10_isMoment_3 : decode cX10_isMoment 3 = .ok (.istore_n 3, 1) := by decide +kernel
theorem dX10_isMoment_4 : decode cX10_isMoment 4 = .ok (.iload_n 3, 1) := by decide +kernel
theorem dX10_isMoment_5 : decode cX10_isMoment 5 = .ok (.aload_n 0, 1) := by decide +kernel
theorem dX10_isMoment_6 : decode cX10_isMoment 6 = .ok (.getfield 7, 3) := by decide +kernel
theorem dX10_isMoment_9 : decode cX10_isMoment 9 = .ok (.iconst 4, 1) := by decide +kernel
theorem dX10_isMoment_10 : decode cX10_isMoment 10 = .ok (.iaload, 1) := by decide +kernel
theorem dX10_isMoment_11 : decode cX10_isMoment 11 = .ok (.if_icmp .ge 36, 3) := by decide +kernel
theorem dX10_isMoment_14 : decode cX10_isMoment 14 = .ok (.iload_n 2, 1) := by decide +kernel
theorem dX10_isMoment_15 : decode cX10_isMoment 15 = .ok (.ifCond .eq 32, 3) := by decide +kernel
theorem dX10_isMoment_18 : decode cX10_isMoment 18 = .ok (.iload_n 1, 1) := by decide +kernel
theorem dX10_isMoment_19 : decode cX10_isMoment 19 = .ok (.iload_n 3, 1) := by decide +kernel
theorem dX10_isMoment_20 : decode cX10_isMoment 20 = .ok (.ishr, 1) := by decide +kernel
theorem dX10_isMoment_21 : decode cX10_isMoment 21 = .ok (.iconst 1, 1) := by decide +kernel
theorem dX10_isMoment_22 : decode cX10_isMoment 22 = .ok (.iand, 1) := by decide +kernel
theorem dX10_isMoment_23 : decode cX10_isMoment 23 = .ok (.ifCond .eq 12, 3) := by decide +kernel
theorem dX10_isMoment_26 : decode cX10_isMoment 26 = .ok (.aload_n 0, 1) := by decide +kernel
theorem dX10_isMoment_27 : decode cX10_isMoment 27 = .ok (.iload_n 3, 1) := by decide +kernel
theorem dX10_isMoment_28 : decode cX10_isMoment 28 = .ok (.invokevirtual 127, 3) := by decide +kernel
theorem dX10_isMoment_31 : decode cX10_isMoment 31 = .ok (.iconst 1, 1) := by decide +kernel
theorem dX10_isMoment_32 : decode cX10_isMoment 32 = .ok (.if_icmp .ne 7, 3) := by decide +kernel
theorem dX10_isMoment_35 : decode cX10_isMoment 35 = .ok (.iconst 1, 1) := by decide +kernel
theorem dX10_isMoment_36 : decode cX10_isMoment 36 = .ok (.goto 4, 3) := by decide +kernel
theorem dX10_isMoment_39 : decode cX10_isMoment 39 = .ok (.iconst 0, 1) := by decide +kernel
theorem dX10_isMoment_40 : decode cX10_isMoment 40 = .ok (.istore_n 2, 1) := by decide +kernel
theorem dX10_isMoment_41 : decode cX10_isMoment 41 = .ok (.iinc 3 1, 3) := by decide +kernel
theorem dX10_isMoment_44 : decode cX10_isMoment 44 = .ok (.goto (-40), 3) := by decide +kernel
theorem dX10_isMoment_47 : decode cX10_isMoment 47 = .ok (.iload_n 2, 1) := by decide +kernel
theorem dX10_isMoment_48 : decode cX10_isMoment 48 = .ok (.ireturn, 1) := by decide +kernel
theorem dX10_moment_0 : decode cX10_moment 0 = .ok (.aload_n 0, 1) := by decide +kernel
theorem dX10_moment_1 : decode cX10_moment 1 = .ok (.iload_n 1, 1) := by decide +kernel
theorem dX10_moment_2 : decode cX10_moment 2 = .ok (.invokevirtual 175, 3) := by decide +kernel
theorem dX10_moment_5 : decode cX10_moment 5 = .ok (.ifCond .ne 9, 3) := by decide +kernel
theorem dX10_moment_8 : decode cX10_moment 8 = .ok (.aload_n 0, 1) := by decide +kernel
theorem dX10_moment_9 : decode cX10_moment 9 = .ok (.iconst 1, 1) := by decide +kernel
theorem dX10_moment_10 : decode cX10_moment 10 = .ok (.invokevirtual 51, 3) := by decide +kernel
theorem dX10_moment_13 : decode cX10_moment 13 = .ok (.ireturn, 1) := by decide +kernel
theorem dX10_moment_14 : decode cX10_moment 14 = .ok (.aload_n 0, 1) := by decide +kernel
theorem dX10_moment_15 : decode cX10_moment 15 = .ok (.getfield 7, 3) := by decide +kernel
theorem dX10_moment_18 : decode cX10_moment 18 = .ok (.iconst 0, 1) := by decide +kernel
theorem dX10_moment_19 : decode cX10_moment 19 = .ok (.iaload, 1) := by decide +kernel
theorem dX10_moment_20 : decode cX10_moment 20 = .ok (.istore_n 2, 1) := by decide +kernel
theorem dX10_moment_21 : decode cX10_moment 21 = .ok (.iconst 0, 1) := by decide +kernel
theorem dX10_moment_22 : decode cX10_moment 22 = .ok (.istore_n 3, 1) := by decide +kernel
theorem dX10_moment_23 : decode cX10_moment 23 = .ok (.iload_n 3, 1) := by decide +kernel
theorem dX10_moment_24 : decode cX10_moment 24 = .ok (.sipush 400, 3) := by decide +kernel
theorem dX10_moment_27 : decode cX10_moment 27 = .ok (.if_icmp .gt 27, 3) := by decide +kernel
theorem dX10_moment_30 : decode cX10_moment 30 = .ok (.aload_n 0, 1) := by decide +kernel
theorem dX10_moment_31 : decode cX10_moment 31 = .ok (.iload_n 1, 1) := by decide +kernel
theorem dX10_moment_32 : decode cX10_moment 32 = .ok (.invokevirtual 203, 3) := by decide +kernel
theorem dX10_moment_35 : decode cX10_moment 35 = .ok (.ifCond .ne 19, 3) := by decide +kernel
theorem dX10_moment_38 : decode cX10_moment 38 = .ok (.aload_n 0, 1) := by decide +kernel
theorem dX10_moment_39 : decode cX10_moment 39 = .ok (.getfield 7, 3) := by decide +kernel
theorem dX10_moment_42 : decode cX10_moment 42 = .ok (.iconst 0, 1) := by decide +kernel
theorem dX10_moment_43 : decode cX10_moment 43 = .ok (.dup2, 1) := by decide +kernel
theorem dX10_moment_44 : decode cX10_moment 44 = .ok (.iaload, 1) := by decide +kernel
theorem dX10_moment_45 : decode cX10_moment 45 = .ok (.iconst 1, 1) := by decide +kernel
theorem dX10_moment_46 : decode cX10_moment 46 = .ok (.iadd, 1) := by decide +kernel
theorem dX10_moment_47 : decode cX10_moment 47 = .ok (.iastore, 1) := by decide +kernel
theorem dX10_moment_48 : decode cX10_moment 48 = .ok (.iinc 3 1, 3) := by decide +kernel
theorem dX10_moment_51 : decode cX10_moment 51 = .ok (.goto (-28), 3) := by decide +kernel
theorem dX10_moment_54 : decode cX10_moment 54 = .ok (.aload_n 0, 1) := by decide +kernel
theorem dX10_moment_55 : decode cX10_moment 55 = .ok (.getfield 7, 3) := by decide +kernel
theorem dX10_moment_58 : decode cX10_moment 58 = .ok (.iconst 0, 1) := by decide +kernel
theorem dX10_moment_59 : decode cX10_moment 59 = .ok (.iload_n 2, 1) := by decide +kernel
theorem dX10_moment_60 : decode cX10_moment 60 = .ok (.iastore, 1) := by decide +kernel
theorem dX10_moment_61 : decode cX10_moment 61 = .ok (.iload_n 3, 1) := by decide +kernel
theorem dX10_moment_62 : decode cX10_moment 62 = .ok (.sipush 400, 3) := by decide +kernel
theorem dX10_moment_65 : decode cX10_moment 65 = .ok (.if_icmp .le 11, 3) := by decide +kernel
theorem dX10_moment_68 : decode cX10_moment 68 = .ok (.aload_n 0, 1) := by decide +kernel
theorem dX10_moment_69 : decode cX10_moment 69 = .ok (.iconst 2, 1) := by decide +kernel
theorem dX10_moment_70 : decode cX10_moment 70 = .ok (.invokevirtual 51, 3) := by decide +kernel
theorem dX10_moment_73 : decode cX10_moment 73 = .ok (.goto 4, 3) := by decide +kernel
theorem dX10_moment_76 : decode cX10_moment 76 = .ok (.iload_n 3, 1) := by decide +kernel
theorem dX10_moment_77 : decode cX10_moment 77 = .ok (.ireturn, 1) := by decide +kernel
theorem dX10_momentsOf_0 : decode cX10_momentsOf 0 = .ok (.aload_n 0, 1) := by decide +kernel
theorem dX10_momentsOf_1 : decode cX10_momentsOf 1 = .ok (.getfield 7, 3) := by decide +kernel
theorem dX10_momentsOf_4 : decode cX10_momentsOf 4 = .ok (.iconst 0, 1) := by decide +kernel
theorem dX10_momentsOf_5 : decode cX10_momentsOf 5 = .ok (.iaload, 1) := by decide +kernel
theorem dX10_momentsOf_6 : decode cX10_momentsOf 6 = .ok (.istore_n 3, 1) := by decide +kernel
theorem dX10_momentsOf_7 : decode cX10_momentsOf 7 = .ok (.iconst 0, 1) := by decide +kernel
theorem dX10_momentsOf_8 : decode cX10_momentsOf 8 = .ok (.istore 4, 2) := by decide +kernel
theorem dX10_momentsOf_10 : decode cX10_momentsOf 10 = .ok (.iconst 0, 1) := by decide +kernel
theorem dX10_momentsOf_11 : decode cX10_momentsOf 11 = .ok (.istore 5, 2) := by decide +kernel
theorem dX10_momentsOf_13 : decode cX10_momentsOf 13 = .ok (.iload 5, 2) := by decide +kernel
theorem dX10_momentsOf_15 : decode cX10_momentsOf 15 = .ok (.iload_n 2, 1) := by decide +kernel
theorem dX10_momentsOf_16 : decode cX10_momentsOf 16 = .ok (.if_icmp .ge 37, 3) := by decide +kernel
theorem dX10_momentsOf_19 : decode cX10_momentsOf 19 = .ok (.iload 4, 2) := by decide +kernel
theorem dX10_momentsOf_21 : decode cX10_momentsOf 21 = .ok (.aload_n 0, 1) := by decide +kernel
theorem dX10_momentsOf_22 : decode cX10_momentsOf 22 = .ok (.iload_n 1, 1) := by decide +kernel
theorem dX10_momentsOf_23 : decode cX10_momentsOf 23 = .ok (.invokevirtual 203, 3) := by decide +kernel
theorem dX10_momentsOf_26 : decode cX10_momentsOf 26 = .ok (.ifCond .eq 7, 3) := by decide +kernel
theorem dX10_momentsOf_29 : decode cX10_momentsOf 29 = .ok (.iconst 1, 1) := by decide +kernel
theorem dX10_momentsOf_30 : decode cX10_momentsOf 30 = .ok (.goto 4, 3) := by decide +kernel
theorem dX10_momentsOf_33 : decode cX10_momentsOf 33 = .ok (.iconst 0, 1) := by decide +kernel
theorem dX10_momentsOf_34 : decode cX10_momentsOf 34 = .ok (.iadd, 1) := by decide +kernel
theorem dX10_momentsOf_35 : decode cX10_momentsOf 35 = .ok (.istore 4, 2) := by decide +kernel
theorem dX10_momentsOf_37 : decode cX10_momentsOf 37 = .ok (.aload_n 0, 1) := by decide +kernel
theorem dX10_momentsOf_38 : decode cX10_momentsOf 38 = .ok (.getfield 7, 3) := by decide +kernel
theorem dX10_momentsOf_41 : decode cX10_momentsOf 41 = .ok (.iconst 0, 1) := by decide +kernel
theorem dX10_momentsOf_42 : decode cX10_momentsOf 42 = .ok (.dup2, 1) := by decide +kernel
theorem dX10_momentsOf_43 : decode cX10_momentsOf 43 = .ok (.iaload, 1) := by decide +kernel
theorem dX10_momentsOf_44 : decode cX10_momentsOf 44 = .ok (.iconst 1, 1) := by decide +kernel
theorem dX10_momentsOf_45 : decode cX10_momentsOf 45 = .ok (.iadd, 1) := by decide +kernel
theorem dX10_momentsOf_46 : decode cX10_momentsOf 46 = .ok (.iastore, 1) := by decide +kernel
theorem dX10_momentsOf_47 : decode cX10_momentsOf 47 = .ok (.iinc 5 1, 3) := by decide +kernel
theorem dX10_momentsOf_50 : decode cX10_momentsOf 50 = .ok (.goto (-37), 3) := by decide +kernel
theorem dX10_momentsOf_53 : decode cX10_momentsOf 53 = .ok (.aload_n 0, 1) := by decide +kernel
theorem dX10_momentsOf_54 : decode cX10_momentsOf 54 = .ok (.getfield 7, 3) := by decide +kernel
theorem dX10_momentsOf_57 : decode cX10_momentsOf 57 = .ok (.iconst 0, 1) := by decide +kernel
theorem dX10_momentsOf_58 : decode cX10_momentsOf 58 = .ok (.iload_n 3, 1) := by decide +kernel
theorem dX10_momentsOf_59 : decode cX10_momentsOf 59 = .ok (.iastore, 1) := by decide +kernel
theorem dX10_momentsOf_60 : decode cX10_momentsOf 60 = .ok (.iload 4, 2) := by decide +kernel
theorem dX10_momentsOf_62 : decode cX10_momentsOf 62 = .ok (.ireturn, 1) := by decide +kernel
theorem dX10_moments_0 : decode cX10_moments 0 = .ok (.aload_n 0, 1) := by decide +kernel
theorem dX10_moments_1 : decode cX10_moments 1 = .ok (.iload_n 1, 1) := by decide +kernel
theorem dX10_moments_2 : decode cX10_moments 2 = .ok (.invokevirtual 175, 3) := by decide +kernel
theorem dX10_moments_5 : decode cX10_moments 5 = .ok (.ifCond .eq 22, 3) := by decide +kernel
theorem dX10_moments_8 : decode cX10_moments 8 = .ok (.iload_n 2, 1) := by decide +kernel
theorem dX10_moments_9 : decode cX10_moments 9 = .ok (.iconst 0, 1) := by decide +kernel
theorem dX10_moments_10 : decode cX10_moments 10 = .ok (.bipush 99, 2) := by decide +kernel
theorem dX10_moments_12 : decode cX10_moments 12 = .ok (.invokestatic 47, 3) := by decide +kernel
theorem dX10_moments_15 : decode cX10_moments 15 = .ok (.ifCond .eq 12, 3) := by decide +kernel
theorem dX10_moments_18 : decode cX10_moments 18 = .ok (.aload_n 0, 1) := by decide +kernel
theorem dX10_moments_19 : decode cX10_moments 19 = .ok (.iload_n 1, 1) := by decide +kernel
theorem dX10_moments_20 : decode cX10_moments 20 = .ok (.iload_n 2, 1) := by decide +kernel
theorem dX10_moments_21 : decode cX10_moments 21 = .ok (.invokevirtual 206, 3) := by decide +kernel
theorem dX10_moments_24 : decode cX10_moments 24 = .ok (.goto 8, 3) := by decide +kernel
theorem dX10_moments_27 : decode cX10_moments 27 = .ok (.aload_n 0, 1) := by decide +kernel
theorem dX10_moments_28 : decode cX10_moments 28 = .ok (.iconst 1, 1) := by decide +kernel
theorem dX10_moments_29 : decode cX10_moments 29 = .ok (.invokevirtual 51, 3) := by decide +kernel
theorem dX10_moments_32 : decode cX10_moments 32 = .ok (.ireturn, 1) := by decide +kernel
theorem dX10_isDoneWithout_0 : decode cX10_isDoneWithout 0 = .ok (.aload_n 0, 1) := by decide +kernel
theorem dX10_isDoneWithout_1 : decode cX10_isDoneWithout 1 = .ok (.invokevirtual 194, 3) := by decide +kernel
theorem dX10_isDoneWithout_4 : decode cX10_isDoneWithout 4 = .ok (.aload_n 0, 1) := by decide +kernel
theorem dX10_isDoneWithout_5 : decode cX10_isDoneWithout 5 = .ok (.iload_n 1, 1) := by decide +kernel
theorem dX10_isDoneWithout_6 : decode cX10_isDoneWithout 6 = .ok (.iconst 2, 1) := by decide +kernel
theorem dX10_isDoneWithout_7 : decode cX10_isDoneWithout 7 = .ok (.aload_n 0, 1) := by decide +kernel
theorem dX10_isDoneWithout_8 : decode cX10_isDoneWithout 8 = .ok (.iload_n 1, 1) := by decide +kernel
theorem dX10_isDoneWithout_9 : decode cX10_isDoneWithout 9 = .ok (.iconst 2, 1) := by decide +kernel
theorem dX10_isDoneWithout_10 : decode cX10_isDoneWithout 10 = .ok (.invokevirtual 130, 3) := by decide +kernel
theorem dX10_isDoneWithout_13 : decode cX10_isDoneWithout 13 = .ok (.iload_n 2, 1) := by decide +kernel
theorem dX10_isDoneWithout_14 : decode cX10_isDoneWithout 14 = .ok (.iconst (-1), 1) := by decide +kernel
theorem dX10_isDoneWithout_15 : decode cX10_isDoneWithout 15 = .ok (.ixor, 1) := by decide +kernel
theorem dX10_isDoneWithout_16 : decode cX10_isDoneWithout 16 = .ok (.iand, 1) := by decide +kernel
theorem dX10_isDoneWithout_17 : decode cX10_isDoneWithout 17 = .ok (.invokevirtual 145, 3) := by decide +kernel
theorem dX10_isDoneWithout_20 : decode cX10_isDoneWithout 20 = .ok (.aload_n 0, 1) := by decide +kernel
theorem dX10_isDoneWithout_21 : decode cX10_isDoneWithout 21 = .ok (.iload_n 1, 1) := by decide +kernel
theorem dX10_isDoneWithout_22 : decode cX10_isDoneWithout 22 = .ok (.iload_n 3, 1) := by decide +kernel
theorem dX10_isDoneWithout_23 : decode cX10_isDoneWithout 23 = .ok (.invokevirtual 200, 3) := by decide +kernel
theorem dX10_isDoneWithout_26 : decode cX10_isDoneWithout 26 = .ok (.iconst (-1), 1) := by decide +kernel
theorem dX10_isDoneWithout_27 : decode cX10_isDoneWithout 27 = .ok (.if_icmp .eq 7, 3) := by decide +kernel
theorem dX10_isDoneWithout_30 : decode cX10_isDoneWithout 30 = .ok (.iconst 1, 1) := by decide +kernel
theorem dX10_isDoneWithout_31 : decode cX10_isDoneWithout 31 = .ok (.goto 4, 3) := by decide +kernel
theorem dX10_isDoneWithout_34 : decode cX10_isDoneWithout 34 = .ok (.iconst 0, 1) := by decide +kernel
theorem dX10_isDoneWithout_35 : decode cX10_isDoneWithout 35 = .ok (.ireturn, 1) := by decide +kernel
theorem dX10_away_0 : decode cX10_away 0 = .ok (.aload_n 0, 1) := by decide +kernel
theorem dX10_away_1 : decode cX10_away 1 = .ok (.iload_n 1, 1) := by decide +kernel
theorem dX10_away_2 : decode cX10_away 2 = .ok (.invokevirtual 178, 3) := by decide +kernel
theorem dX10_away_5 : decode cX10_away 5 = .ok (.ifCond .eq 22, 3) := by decide +kernel
theorem dX10_away_8 : decode cX10_away 8 = .ok (.iload_n 2, 1) := by decide +kernel
theorem dX10_away_9 : decode cX10_away 9 = .ok (.iconst 0, 1) := by decide +kernel
theorem dX10_away_10 : decode cX10_away 10 = .ok (.bipush 99, 2) := by decide +kernel
theorem dX10_away_12 : decode cX10_away 12 = .ok (.invokestatic 47, 3) := by decide +kernel
theorem dX10_away_15 : decode cX10_away 15 = .ok (.ifCond .eq 12, 3) := by decide +kernel
theorem dX10_away_18 : decode cX10_away 18 = .ok (.iload_n 3, 1) := by decide +kernel
theorem dX10_away_19 : decode cX10_away 19 = .ok (.iconst 0, 1) := by decide +kernel
theorem dX10_away_20 : decode cX10_away 20 = .ok (.iconst 1, 1) := by decide +kernel
theorem dX10_away_21 : decode cX10_away 21 = .ok (.invokestatic 47, 3) := by decide +kernel
theorem dX10_away_24 : decode cX10_away 24 = .ok (.ifCond .ne 9, 3) := by decide +kernel
theorem dX10_away_27 : decode cX10_away 27 = .ok (.aload_n 0, 1) := by decide +kernel
theorem dX10_away_28 : decode cX10_away 28 = .ok (.iconst 1, 1) := by decide +kernel
theorem dX10_away_29 : decode cX10_away 29 = .ok (.invokevirtual 51, 3) := by decide +kernel
theorem dX10_away_32 : decode cX10_away 32 = .ok (.ireturn, 1) := by decide +kernel
theorem dX10_away_33 : decode cX10_away 33 = .ok (.aload_n 0, 1) := by decide +kernel
theorem dX10_away_34 : decode cX10_away 34 = .ok (.iload_n 1, 1) := by decide +kernel
theorem dX10_away_35 : decode cX10_away 35 = .ok (.iconst 2, 1) := by decide +kernel
theorem dX10_away_36 : decode cX10_away 36 = .ok (.invokevirtual 130, 3) := by decide +kernel
theorem dX10_away_39 : decode cX10_away 39 = .ok (.istore 4, 2) := by decide +kernel
theorem dX10_away_41 : decode cX10_away 41 = .ok (.iconst (-1), 1) := by decide +kernel
theorem dX10_away_42 : decode cX10_away 42 = .ok (.istore 5, 2) := by decide +kernel
theorem dX10_away_44 : decode cX10_away 44 = .ok (.iconst 0, 1) := by decide +kernel
theorem dX10_away_45 : decode cX10_away 45 = .ok (.istore 6, 2) := by decide +kernel
theorem dX10_away_47 : decode cX10_away 47 = .ok (.iload 6, 2) := by decide +kernel
theorem dX10_away_49 : decode cX10_away 49 = .ok (.iload 4, 2) := by decide +kernel
theorem dX10_away_51 : decode cX10_away 51 = .ok (.if_icmp .gt 70, 3) := by decide +kernel
theorem dX10_away_54 : decode cX10_away 54 = .ok (.iload 6, 2) := by decide +kernel
theorem dX10_away_56 : decode cX10_away 56 = .ok (.iload 4, 2) := by decide +kernel
theorem dX10_away_58 : decode cX10_away 58 = .ok (.iconst (-1), 1) := by decide +kernel
theorem dX10_away_59 : decode cX10_away 59 = .ok (.ixor, 1) := by decide +kernel
theorem dX10_away_60 : decode cX10_away 60 = .ok (.iand, 1) := by decide +kernel
theorem dX10_away_61 : decode cX10_away 61 = .ok (.ifCond .ne 26, 3) := by decide +kernel
theorem dX10_away_64 : decode cX10_away 64 = .ok (.iload 5, 2) := by decide +kernel
theorem dX10_away_66 : decode cX10_away 66 = .ok (.iconst (-1), 1) := by decide +kernel
theorem dX10_away_67 : decode cX10_away 67 = .ok (.if_icmp .eq 16, 3) := by decide +kernel
theorem dX10_away_70 : decode cX10_away 70 = .ok (.iload 6, 2) := by decide +kernel
theorem dX10_away_72 : decode cX10_away 72 = .ok (.invokestatic 136, 3) := by decide +kernel
theorem dX10_away_75 : decode cX10_away 75 = .ok (.iload 5, 2) := by decide +kernel
theorem dX10_away_77 : decode cX10_away 77 = .ok (.invokestatic 136, 3) := by decide +kernel
theorem dX10_away_80 : decode cX10_away 80 = .ok (.if_icmp .ge 7, 3) := by decide +kernel
theorem dX10_away_83 : decode cX10_away 83 = .ok (.iconst 1, 1) := by decide +kernel
theorem dX10_away_84 : decode cX10_away 84 = .ok (.goto 4, 3) := by decide +kernel
theorem dX10_away_87 : decode cX10_away 87 = .ok (.iconst 0, 1) := by decide +kernel
theorem dX10_away_88 : decode cX10_away 88 = .ok (.istore 7, 2) := by decide +kernel
theorem dX10_away_90 : decode cX10_away 90 = .ok (.iload 7, 2) := by decide +kernel
theorem dX10_away_92 : decode cX10_away 92 = .ok (.ifCond .eq 19, 3) := by decide +kernel
theorem dX10_away_95 : decode cX10_away 95 = .ok (.aload_n 0, 1) := by decide +kernel
theorem dX10_away_96 : decode cX10_away 96 = .ok (.iload_n 1, 1) := by decide +kernel
theorem dX10_away_97 : decode cX10_away 97 = .ok (.iload 6, 2) := by decide +kernel
theorem dX10_away_99 : decode cX10_away 99 = .ok (.iload_n 2, 1) := by decide +kernel
theorem dX10_away_100 : decode cX10_away 100 = .ok (.invokevirtual 209, 3) := by decide +kernel
theorem dX10_away_103 : decode cX10_away 103 = .ok (.ifCond .eq 8, 3) := by decide +kernel
theorem dX10_away_106 : decode cX10_away 106 = .ok (.iload 6, 2) := by decide +kernel
theorem dX10_away_108 : decode cX10_away 108 = .ok (.goto 5, 3) := by decide +kernel
theorem dX10_away_111 : decode cX10_away 111 = .ok (.iload 5, 2) := by decide +kernel
theorem dX10_away_113 : decode cX10_away 113 = .ok (.istore 5, 2) := by decide +kernel
theorem dX10_away_115 : decode cX10_away 115 = .ok (.iinc 6 1, 3) := by decide +kernel
theorem dX10_away_118 : decode cX10_away 118 = .ok (.goto (-71), 3) := by decide +kernel
theorem dX10_away_121 : decode cX10_away 121 = .ok (.iload 5, 2) := by decide +kernel
theorem dX10_away_123 : decode cX10_away 123 = .ok (.iconst (-1), 1) := by decide +kernel
theorem dX10_away_124 : decode cX10_away 124 = .ok (.if_icmp .ne 11, 3) := by decide +kernel
theorem dX10_away_127 : decode cX10_away 127 = .ok (.aload_n 0, 1) := by decide +kernel
theorem dX10_away_128 : decode cX10_away 128 = .ok (.iconst 2, 1) := by decide +kernel
theorem dX10_away_129 : decode cX10_away 129 = .ok (.invokevirtual 51, 3) := by decide +kernel
theorem dX10_away_132 : decode cX10_away 132 = .ok (.goto 17, 3) := by decide +kernel
theorem dX10_away_135 : decode cX10_away 135 = .ok (.iload_n 3, 1) := by decide +kernel
theorem dX10_away_136 : decode cX10_away 136 = .ok (.ifCond .ne 11, 3) := by decide +kernel
theorem dX10_away_139 : decode cX10_away 139 = .ok (.iload 5, 2) := by decide +kernel
theorem dX10_away_141 : decode cX10_away 141 = .ok (.invokestatic 136, 3) := by decide +kernel
theorem dX10_away_144 : decode cX10_away 144 = .ok (.goto 5, 3) := by decide +kernel
theorem dX10_away_147 : decode cX10_away 147 = .ok (.iload 5, 2) := by decide +kernel
theorem dX10_away_149 : decode cX10_away 149 = .ok (.ireturn, 1) := by decide +kernel
theorem dX10_phaseFor_0 : decode cX10_phaseFor 0 = .ok (.aload_n 0, 1) := by decide +kernel
theorem dX10_phaseFor_1 : decode cX10_phaseFor 1 = .ok (.iload_n 1, 1) := by decide +kernel
theorem dX10_phaseFor_2 : decode cX10_phaseFor 2 = .ok (.invokevirtual 166, 3) := by decide +kernel
theorem dX10_phaseFor_5 : decode cX10_phaseFor 5 = .ok (.ifCond .eq 20, 3) := by decide +kernel
theorem dX10_phaseFor_8 : decode cX10_phaseFor 8 = .ok (.aload_n 0, 1) := by decide +kernel
theorem dX10_phaseFor_9 : decode cX10_phaseFor 9 = .ok (.iload_n 2, 1) := by decide +kernel
theorem dX10_phaseFor_10 : decode cX10_phaseFor 10 = .ok (.invokevirtual 178, 3) := by decide +kernel
theorem dX10_phaseFor_13 : decode cX10_phaseFor 13 = .ok (.ifCond .eq 12, 3) := by decide +kernel
theorem dX10_phaseFor_16 : decode cX10_phaseFor 16 = .ok (.iload_n 3, 1) := by decide +kernel
theorem dX10_phaseFor_17 : decode cX10_phaseFor 17 = .ok (.iconst 0, 1) := by decide +kernel
theorem dX10_phaseFor_18 : decode cX10_phaseFor 18 = .ok (.iconst 1, 1) := by decide +kernel
theorem dX10_phaseFor_19 : decode cX10_phaseFor 19 = .ok (.invokestatic 47, 3) := by decide +kernel
theorem dX10_phaseFor_22 : decode cX10_phaseFor 22 = .ok (.ifCond .ne 9, 3) := by decide +kernel
theorem dX10_phaseFor_25 : decode cX10_phaseFor 25 = .ok (.aload_n 0, 1) := by decide +kernel
theorem dX10_phaseFor_26 : decode cX10_phaseFor 26 = .ok (.iconst 1, 1) := by decide +kernel
theorem dX10_phaseFor_27 : decode cX10_phaseFor 27 = .ok (.invokevirtual 51, 3) := by decide +kernel
theorem dX10_phaseFor_30 : decode cX10_phaseFor 30 = .ok (.ireturn, 1) := by decide +kernel
theorem dX10_phaseFor_31 : decode cX10_phaseFor 31 = .ok (.iconst (-1), 1) := by decide +kernel
theorem dX10_phaseFor_32 : decode cX10_phaseFor 32 = .ok (.istore 4, 2) := by decide +kernel
theorem dX10_phaseFor_34 : decode cX10_phaseFor 34 = .ok (.bipush 100, 2) := by decide +kernel
theorem dX10_phaseFor_36 : decode cX10_phaseFor 36 = .ok (.istore 5, 2) := by decide +kernel
theorem dX10_phaseFor_38 : decode cX10_phaseFor 38 = .ok (.iconst 0, 1) := by decide +kernel
theorem dX10_phaseFor_39 : decode cX10_phaseFor 39 = .ok (.istore 6, 2) := by decide +kernel
theorem dX10_phaseFor_41 : decode cX10_phaseFor 41 = .ok (.iload 6, 2) := by decide +kernel
theorem dX10_phaseFor_43 : decode cX10_phaseFor 43 = .ok (.aload_n 0, 1) := by decide +kernel
theorem dX10_phaseFor_44 : decode cX10_phaseFor 44 = .ok (.iload_n 1, 1) := by decide +kernel
theorem dX10_phaseFor_45 : decode cX10_phaseFor 45 = .ok (.iconst 2, 1) := by decide +kernel
theorem dX10_phaseFor_46 : decode cX10_phaseFor 46 = .ok (.invokevirtual 111, 3) := by decide +kernel
theorem dX10_phaseFor_49 : decode cX10_phaseFor 49 = .ok (.if_icmp .ge 78, 3) := by decide +kernel
theorem dX10_phaseFor_52 : decode cX10_phaseFor 52 = .ok (.aload_n 0, 1) := by decide +kernel
theorem dX10_phaseFor_53 : decode cX10_phaseFor 53 = .ok (.invokevirtual 194, 3) := by decide +kernel
theorem dX10_phaseFor_56 : decode cX10_phaseFor 56 = .ok (.aload_n 0, 1) := by decide +kernel
theorem dX10_phaseFor_57 : decode cX10_phaseFor 57 = .ok (.iload_n 1, 1) := by decide +kernel
theorem dX10_phaseFor_58 : decode cX10_phaseFor 58 = .ok (.iconst 3, 1) := by decide +kernel
theorem dX10_phaseFor_59 : decode cX10_phaseFor 59 = .ok (.iload 6, 2) := by decide +kernel
theorem dX10_phaseFor_61 : decode cX10_phaseFor 61 = .ok (.invokevirtual 163, 3) := by decide +kernel
theorem dX10_phaseFor_64 : decode cX10_phaseFor 64 = .ok (.aload_n 0, 1) := by decide +kernel
theorem dX10_phaseFor_65 : decode cX10_phaseFor 65 = .ok (.iload_n 2, 1) := by decide +kernel
theorem dX10_phaseFor_66 : decode cX10_phaseFor 66 = .ok (.bipush 99, 2) := by decide +kernel
theorem dX10_phaseFor_68 : decode cX10_phaseFor 68 = .ok (.invokevirtual 200, 3) := by decide +kernel
theorem dX10_phaseFor_71 : decode cX10_phaseFor 71 = .ok (.istore 7, 2) := by decide +kernel
theorem dX10_phaseFor_73 : decode cX10_phaseFor 73 = .ok (.iload 7, 2) := by decide +kernel
theorem dX10_phaseFor_75 : decode cX10_phaseFor 75 = .ok (.iconst (-1), 1) := by decide +kernel
theorem dX10_phaseFor_76 : decode cX10_phaseFor 76 = .ok (.if_icmp .eq 14, 3) := by decide +kernel
theorem dX10_phaseFor_79 : decode cX10_phaseFor 79 = .ok (.iload 7, 2) := by decide +kernel
theorem dX10_phaseFor_81 : decode cX10_phaseFor 81 = .ok (.iload 5, 2) := by decide +kernel
theorem dX10_phaseFor_83 : decode cX10_phaseFor 83 = .ok (.if_icmp .ge 7, 3) := by decide +kernel
theorem dX10_phaseFor_86 : decode cX10_phaseFor 86 = .ok (.iconst 1, 1) := by decide +kernel
theorem dX10_phaseFor_87 : decode cX10_phaseFor 87 = .ok (.goto 4, 3) := by decide +kernel
theorem dX10_phaseFor_90 : decode cX10_phaseFor 90 = .ok (.iconst 0, 1) := by decide +kernel
theorem dX10_phaseFor_91 : decode cX10_phaseFor 91 = .ok (.istore 8, 2) := by decide +kernel
theorem dX10_phaseFor_93 : decode cX10_phaseFor 93 = .ok (.iload 8, 2) := by decide +kernel
theorem dX10_phaseFor_95 : decode cX10_phaseFor 95 = .ok (.ifCond .eq 8, 3) := by decide +kernel
theorem dX10_phaseFor_98 : decode cX10_phaseFor 98 = .ok (.iload 6, 2) := by decide +kernel
theorem dX10_phaseFor_100 : decode cX10_phaseFor 100 = .ok (.goto 5, 3) := by decide +kernel
theorem dX10_phaseFor_103 : decode cX10_phaseFor 103 = .ok (.iload 4, 2) := by decide +kernel
theorem dX10_phaseFor_105 : decode cX10_phaseFor 105 = .ok (.istore 4, 2) := by decide +kernel
theorem dX10_phaseFor_107 : decode cX10_phaseFor 107 = .ok (.iload 8, 2) := by decide +kernel
theorem dX10_phaseFor_109 : decode cX10_phaseFor 109 = .ok (.ifCond .eq 8, 3) := by decide +kernel
theorem dX10_phaseFor_112 : decode cX10_phaseFor 112 = .ok (.iload 7, 2) := by decide +kernel
theorem dX10_phaseFor_114 : decode cX10_phaseFor 114 = .ok (.goto 5, 3) := by decide +kernel
theorem dX10_phaseFor_117 : decode cX10_phaseFor 117 = .ok (.iload 5, 2) := by decide +kernel
theorem dX10_phaseFor_119 : decode cX10_phaseFor 119 = .ok (.istore 5, 2) := by decide +kernel
theorem dX10_phaseFor_121 : decode cX10_phaseFor 121 = .ok (.iinc 6 1, 3) := by decide +kernel
theorem dX10_phaseFor_124 : decode cX10_phaseFor 124 = .ok (.goto (-83), 3) := by decide +kernel
theorem dX10_phaseFor_127 : decode cX10_phaseFor 127 = .ok (.iload 4, 2) := by decide +kernel
theorem dX10_phaseFor_129 : decode cX10_phaseFor 129 = .ok (.iconst (-1), 1) := by decide +kernel
theorem dX10_phaseFor_130 : decode cX10_phaseFor 130 = .ok (.if_icmp .ne 11, 3) := by decide +kernel
theorem dX10_phaseFor_133 : decode cX10_phaseFor 133 = .ok (.aload_n 0, 1) := by decide +kernel
theorem dX10_phaseFor_134 : decode cX10_phaseFor 134 = .ok (.iconst 2, 1) := by decide +kernel
theorem dX10_phaseFor_135 : decode cX10_phaseFor 135 = .ok (.invokevirtual 51, 3) := by decide +kernel
theorem dX10_phaseFor_138 : decode cX10_phaseFor 138 = .ok (.goto 14, 3) := by decide +kernel
theorem dX10_phaseFor_141 : decode cX10_phaseFor 141 = .ok (.iload_n 3, 1) := by decide +kernel
theorem dX10_phaseFor_142 : decode cX10_phaseFor 142 = .ok (.ifCond .ne 8, 3) := by decide +kernel
theorem dX10_phaseFor_145 : decode cX10_phaseFor 145 = .ok (.iload 4, 2) := by decide +kernel
theorem dX10_phaseFor_147 : decode cX10_phaseFor 147 = .ok (.goto 5, 3) := by decide +kernel
theorem dX10_phaseFor_150 : decode cX10_phaseFor 150 = .ok (.iload 5, 2) := by decide +kernel
theorem dX10_phaseFor_152 : decode cX10_phaseFor 152 = .ok (.ireturn, 1) := by decide +kernel
theorem dX10_divisor_0 : decode cX10_divisor 0 = .ok (.iload_n 0, 1) := by decide +kernel
theorem dX10_divisor_1 : decode cX10_divisor 1 = .ok (.istore_n 2, 1) := by decide +kernel
theorem dX10_divisor_2 : decode cX10_divisor 2 = .ok (.iload_n 1, 1) := by decide +kernel
theorem dX10_divisor_3 : decode cX10_divisor 3 = .ok (.istore_n 3, 1) := by decide +kernel
theorem dX10_divisor_4 : decode cX10_divisor 4 = .ok (.iload_n 3, 1) := by decide +kernel
theorem dX10_divisor_5 : decode cX10_divisor 5 = .ok (.ifCond .eq 16, 3) := by decide +kernel
theorem dX10_divisor_8 : decode cX10_divisor 8 = .ok (.iload_n 2, 1) := by decide +kernel
theorem dX10_divisor_9 : decode cX10_divisor 9 = .ok (.iload_n 3, 1) := by decide +kernel
theorem dX10_divisor_10 : decode cX10_divisor 10 = .ok (.irem, 1) := by decide +kernel
theorem dX10_divisor_11 : decode cX10_divisor 11 = .ok (.istore 4, 2) := by decide +kernel
theorem dX10_divisor_13 : decode cX10_divisor 13 = .ok (.iload_n 3, 1) := by decide +kernel
theorem dX10_divisor_14 : decode cX10_divisor 14 = .ok (.istore_n 2, 1) := by decide +kernel
theorem dX10_divisor_15 : decode cX10_divisor 15 = .ok (.iload 4, 2) := by decide +kernel
theorem dX10_divisor_17 : decode cX10_divisor 17 = .ok (.istore_n 3, 1) := by decide +kernel
theorem dX10_divisor_18 : decode cX10_divisor 18 = .ok (.goto (-14), 3) := by decide +kernel
theorem dX10_divisor_21 : decode cX10_divisor 21 = .ok (.iload_n 2, 1) := by decide +kernel
theorem dX10_divisor_22 : decode cX10_divisor 22 = .ok (.ireturn, 1) := by decide +kernel
theorem dX10_odds_0 : decode cX10_odds 0 = .ok (.aload_n 0, 1) := by decide +kernel
theorem dX10_odds_1 : decode cX10_odds 1 = .ok (.iload_n 1, 1) := by decide +kernel
theorem dX10_odds_2 : decode cX10_odds 2 = .ok (.invokevirtual 175, 3) := by decide +kernel
theorem dX10_odds_5 : decode cX10_odds 5 = .ok (.ifCond .eq 22, 3) := by decide +kernel
theorem dX10_odds_8 : decode cX10_odds 8 = .ok (.iload_n 2, 1) := by decide +kernel
theorem dX10_odds_9 : decode cX10_odds 9 = .ok (.iconst 1, 1) := by decide +kernel
theorem dX10_odds_10 : decode cX10_odds 10 = .ok (.bipush 99, 2) := by decide +kernel
theorem dX10_odds_12 : decode cX10_odds 12 = .ok (.invokestatic 47, 3) := by decide +kernel
theorem dX10_odds_15 : decode cX10_odds 15 = .ok (.ifCond .eq 12, 3) := by decide +kernel
theorem dX10_odds_18 : decode cX10_odds 18 = .ok (.iload_n 3, 1) := by decide +kernel
theorem dX10_odds_19 : decode cX10_odds 19 = .ok (.iconst 0, 1) := by decide +kernel
theorem dX10_odds_20 : decode cX10_odds 20 = .ok (.iconst 1, 1) := by decide +kernel
theorem dX10_odds_21 : decode cX10_odds 21 = .ok (.invokestatic 47, 3) := by decide +kernel
theorem dX10_odds_24 : decode cX10_odds 24 = .ok (.ifCond .ne 9, 3) := by decide +kernel
theorem dX10_odds_27 : decode cX10_odds 27 = .ok (.aload_n 0, 1) := by decide +kernel
theorem dX10_odds_28 : decode cX10_odds 28 = .ok (.iconst 1, 1) := by decide +kernel
theorem dX10_odds_29 : decode cX10_odds 29 = .ok (.invokevirtual 51, 3) := by decide +kernel
theorem dX10_odds_32 : decode cX10_odds 32 = .ok (.ireturn, 1) := by decide +kernel
theorem dX10_odds_33 : decode cX10_odds 33 = .ok (.aload_n 0, 1) := by decide +kernel
theorem dX10_odds_34 : decode cX10_odds 34 = .ok (.iload_n 1, 1) := by decide +kernel
theorem dX10_odds_35 : decode cX10_odds 35 = .ok (.iload_n 2, 1) := by decide +kernel
theorem dX10_odds_36 : decode cX10_odds 36 = .ok (.invokevirtual 206, 3) := by decide +kernel
theorem dX10_odds_39 : decode cX10_odds 39 = .ok (.istore 4, 2) := by decide +kernel
theorem dX10_odds_41 : decode cX10_odds 41 = .ok (.iload 4, 2) := by decide +kernel
theorem dX10_odds_43 : decode cX10_odds 43 = .ok (.iload_n 2, 1) := by decide +kernel
theorem dX10_odds_44 : decode cX10_odds 44 = .ok (.invokestatic 212, 3) := by decide +kernel
theorem dX10_odds_47 : decode cX10_odds 47 = .ok (.istore 5, 2) := by decide +kernel
theorem dX10_odds_49 : decode cX10_odds 49 = .ok (.iload_n 3, 1) := by decide +kernel
theorem dX10_odds_50 : decode cX10_odds 50 = .ok (.ifCond .ne 11, 3) := by decide +kernel
theorem dX10_odds_53 : decode cX10_odds 53 = .ok (.iload 4, 2) := by decide +kernel
theorem dX10_odds_55 : decode cX10_odds 55 = .ok (.iload 5, 2) := by decide +kernel
theorem dX10_odds_57 : decode cX10_odds 57 = .ok (.idiv, 1) := by decide +kernel
theorem dX10_odds_58 : decode cX10_odds 58 = .ok (.goto 7, 3) := by decide +kernel
theorem dX10_odds_61 : decode cX10_odds 61 = .ok (.iload_n 2, 1) := by decide +kernel
theorem dX10_odds_62 : decode cX10_odds 62 = .ok (.iload 5, 2) := by decide +kernel
theorem dX10_odds_64 : decode cX10_odds 64 = .ok (.idiv, 1) := by decide +kernel
theorem dX10_odds_65 : decode cX10_odds 65 = .ok (.ireturn, 1) := by decide +kernel
theorem dX10_isShutSo_0 : decode cX10_isShutSo 0 = .ok (.aload_n 0, 1) := by decide +kernel
theorem dX10_isShutSo_1 : decode cX10_isShutSo 1 = .ok (.invokevirtual 194, 3) := by decide +kernel
theorem dX10_isShutSo_4 : decode cX10_isShutSo 4 = .ok (.aload_n 0, 1) := by decide +kernel
theorem dX10_isShutSo_5 : decode cX10_isShutSo 5 = .ok (.iload_n 2, 1) := by decide +kernel
theorem dX10_isShutSo_6 : decode cX10_isShutSo 6 = .ok (.iconst 2, 1) := by decide +kernel
theorem dX10_isShutSo_7 : decode cX10_isShutSo 7 = .ok (.iload_n 3, 1) := by decide +kernel
theorem dX10_isShutSo_8 : decode cX10_isShutSo 8 = .ok (.invokevirtual 163, 3) := by decide +kernel
theorem dX10_isShutSo_11 : decode cX10_isShutSo 11 = .ok (.aload_n 0, 1) := by decide +kernel
theorem dX10_isShutSo_12 : decode cX10_isShutSo 12 = .ok (.iload_n 2, 1) := by decide +kernel
theorem dX10_isShutSo_13 : decode cX10_isShutSo 13 = .ok (.iconst 3, 1) := by decide +kernel
theorem dX10_isShutSo_14 : decode cX10_isShutSo 14 = .ok (.iload 4, 2) := by decide +kernel
theorem dX10_isShutSo_16 : decode cX10_isShutSo 16 = .ok (.invokevirtual 163, 3) := by decide +kernel
theorem dX10_isShutSo_19 : decode cX10_isShutSo 19 = .ok (.iconst 1, 1) := by decide +kernel
theorem dX10_isShutSo_20 : decode cX10_isShutSo 20 = .ok (.istore 5, 2) := by decide +kernel
theorem dX10_isShutSo_22 : decode cX10_isShutSo 22 = .ok (.iconst 0, 1) := by decide +kernel
theorem dX10_isShutSo_23 : decode cX10_isShutSo 23 = .ok (.istore 6, 2) := by decide +kernel
theorem dX10_isShutSo_25 : decode cX10_isShutSo 25 = .ok (.iload 6, 2) := by decide +kernel
theorem dX10_isShutSo_27 : decode cX10_isShutSo 27 = .ok (.aload_n 0, 1) := by decide +kernel
theorem dX10_isShutSo_28 : decode cX10_isShutSo 28 = .ok (.getfield 37, 3) := by decide +kernel
theorem dX10_isShutSo_31 : decode cX10_isShutSo 31 = .ok (.iload_n 1, 1) := by decide +kernel
theorem dX10_isShutSo_32 : decode cX10_isShutSo 32 = .ok (.iaload, 1) := by decide +kernel
theorem dX10_isShutSo_33 : decode cX10_isShutSo 33 = .ok (.if_icmp .ge 51, 3) := by decide +kernel
theorem dX10_isShutSo_36 : decode cX10_isShutSo 36 = .ok (.iload 5, 2) := by decide +kernel
theorem dX10_isShutSo_38 : decode cX10_isShutSo 38 = .ok (.ifCond .eq 46, 3) := by decide +kernel
theorem dX10_isShutSo_41 : decode cX10_isShutSo 41 = .ok (.aload_n 0, 1) := by decide +kernel
theorem dX10_isShutSo_42 : decode cX10_isShutSo 42 = .ok (.iload_n 2, 1) := by decide +kernel
theorem dX10_isShutSo_43 : decode cX10_isShutSo 43 = .ok (.invokevirtual 127, 3) := by decide +kernel
theorem dX10_isShutSo_46 : decode cX10_isShutSo 46 = .ok (.aload_n 0, 1) := by decide +kernel
theorem dX10_isShutSo_47 : decode cX10_isShutSo 47 = .ok (.getfield 40, 3) := by decide +kernel
theorem dX10_isShutSo_50 : decode cX10_isShutSo 50 = .ok (.bipush 24, 2) := by decide +kernel
theorem dX10_isShutSo_52 : decode cX10_isShutSo 52 = .ok (.iload_n 1, 1) := by decide +kernel
theorem dX10_isShutSo_53 : decode cX10_isShutSo 53 = .ok (.imul, 1) := by decide +kernel
theorem dX10_isShutSo_54 : decode cX10_isShutSo 54 = .ok (.iload 6, 2) := by decide +kernel
theorem dX10_isShutSo_56 : decode cX10_isShutSo 56 = .ok (.iadd, 1) := by decide +kernel
theorem dX10_isShutSo_57 : decode cX10_isShutSo 57 = .ok (.iaload, 1) := by decide +kernel
theorem dX10_isShutSo_58 : decode cX10_isShutSo 58 = .ok (.if_icmp .ne 7, 3) := by decide +kernel
theorem dX10_isShutSo_61 : decode cX10_isShutSo 61 = .ok (.iconst 1, 1) := by decide +kernel
theorem dX10_isShutSo_62 : decode cX10_isShutSo 62 = .ok (.goto 4, 3) := by decide +kernel
theorem dX10_isShutSo_65 : decode cX10_isShutSo 65 = .ok (.iconst 0, 1) := by decide +kernel
theorem dX10_isShutSo_66 : decode cX10_isShutSo 66 = .ok (.istore 5, 2) := by decide +kernel
theorem dX10_isShutSo_68 : decode cX10_isShutSo 68 = .ok (.aload_n 0, 1) := by decide +kernel
theorem dX10_isShutSo_69 : decode cX10_isShutSo 69 = .ok (.getfield 7, 3) := by decide +kernel
theorem dX10_isShutSo_72 : decode cX10_isShutSo 72 = .ok (.iconst 0, 1) := by decide +kernel
theorem dX10_isShutSo_73 : decode cX10_isShutSo 73 = .ok (.dup2, 1) := by decide +kernel
theorem dX10_isShutSo_74 : decode cX10_isShutSo 74 = .ok (.iaload, 1) := by decide +kernel
theorem dX10_isShutSo_75 : decode cX10_isShutSo 75 = .ok (.iconst 1, 1) := by decide +kernel
theorem dX10_isShutSo_76 : decode cX10_isShutSo 76 = .ok (.iadd, 1) := by decide +kernel
theorem dX10_isShutSo_77 : decode cX10_isShutSo 77 = .ok (.iastore, 1) := by decide +kernel
theorem dX10_isShutSo_78 : decode cX10_isShutSo 78 = .ok (.iinc 6 1, 3) := by decide +kernel
theorem dX10_isShutSo_81 : decode cX10_isShutSo 81 = .ok (.goto (-56), 3) := by decide +kernel
theorem dX10_isShutSo_84 : decode cX10_isShutSo 84 = .ok (.aload_n 0, 1) := by decide +kernel
theorem dX10_isShutSo_85 : decode cX10_isShutSo 85 = .ok (.invokevirtual 197, 3) := by decide +kernel
theorem dX10_isShutSo_88 : decode cX10_isShutSo 88 = .ok (.iload 5, 2) := by decide +kernel
theorem dX10_isShutSo_90 : decode cX10_isShutSo 90 = .ok (.ireturn, 1) := by decide +kernel
theorem dX10_fits_0 : decode cX10_fits 0 = .ok (.aload_n 0, 1) := by decide +kernel
theorem dX10_fits_1 : decode cX10_fits 1 = .ok (.iload_n 2, 1) := by decide +kernel
theorem dX10_fits_2 : decode cX10_fits 2 = .ok (.invokevirtual 166, 3) := by decide +kernel
theorem dX10_fits_5 : decode cX10_fits 5 = .ok (.ifCond .eq 20, 3) := by decide +kernel
theorem dX10_fits_8 : decode cX10_fits 8 = .ok (.iload_n 3, 1) := by decide +kernel
theorem dX10_fits_9 : decode cX10_fits 9 = .ok (.iconst 0, 1) := by decide +kernel
theorem dX10_fits_10 : decode cX10_fits 10 = .ok (.iconst 1, 1) := by decide +kernel
theorem dX10_fits_11 : decode cX10_fits 11 = .ok (.invokestatic 47, 3) := by decide +kernel
theorem dX10_fits_14 : decode cX10_fits 14 = .ok (.ifCond .eq 11, 3) := by decide +kernel
theorem dX10_fits_17 : decode cX10_fits 17 = .ok (.aload_n 0, 1) := by decide +kernel
theorem dX10_fits_18 : decode cX10_fits 18 = .ok (.iload_n 1, 1) := by decide +kernel
theorem dX10_fits_19 : decode cX10_fits 19 = .ok (.invokevirtual 215, 3) := by decide +kernel
theorem dX10_fits_22 : decode cX10_fits 22 = .ok (.goto 4, 3) := by decide +kernel
theorem dX10_fits_25 : decode cX10_fits 25 = .ok (.iconst 1, 1) := by decide +kernel
theorem dX10_fits_26 : decode cX10_fits 26 = .ok (.istore 4, 2) := by decide +kernel
theorem dX10_fits_28 : decode cX10_fits 28 = .ok (.iload 4, 2) := by decide +kernel
theorem dX10_fits_30 : decode cX10_fits 30 = .ok (.ifCond .eq 10, 3) := by decide +kernel
theorem dX10_fits_33 : decode cX10_fits 33 = .ok (.aload_n 0, 1) := by decide +kernel
theorem dX10_fits_34 : decode cX10_fits 34 = .ok (.iload 4, 2) := by decide +kernel
theorem dX10_fits_36 : decode cX10_fits 36 = .ok (.invokevirtual 51, 3) := by decide +kernel
theorem dX10_fits_39 : decode cX10_fits 39 = .ok (.ireturn, 1) := by decide +kernel
theorem dX10_fits_40 : decode cX10_fits 40 = .ok (.iconst 0, 1) := by decide +kernel
theorem dX10_fits_41 : decode cX10_fits 41 = .ok (.istore 5, 2) := by decide +kernel
theorem dX10_fits_43 : decode cX10_fits 43 = .ok (.iconst (-1), 1) := by decide +kernel
theorem dX10_fits_44 : decode cX10_fits 44 = .ok (.istore 6, 2) := by decide +kernel
theorem dX10_fits_46 : decode cX10_fits 46 = .ok (.bipush 12, 2) := by decide +kernel
theorem dX10_fits_48 : decode cX10_fits 48 = .ok (.istore 7, 2) := by decide +kernel
theorem dX10_fits_50 : decode cX10_fits 50 = .ok (.iload 7, 2) := by decide +kernel
theorem dX10_fits_52 : decode cX10_fits 52 = .ok (.ifCond .le 73, 3) := by decide +kernel
theorem dX10_fits_55 : decode cX10_fits 55 = .ok (.iload 7, 2) := by decide +kernel
theorem dX10_fits_57 : decode cX10_fits 57 = .ok (.iconst 1, 1) := by decide +kernel
theorem dX10_fits_58 : decode cX10_fits 58 = .ok (.isub, 1) := by decide +kernel
theorem dX10_fits_59 : decode cX10_fits 59 = .ok (.istore 8, 2) := by decide +kernel
theorem dX10_fits_61 : decode cX10_fits 61 = .ok (.iload 8, 2) := by decide +kernel
theorem dX10_fits_63 : decode cX10_fits 63 = .ok (.ifCond .lt 56, 3) := by decide +kernel
theorem dX10_fits_66 : decode cX10_fits 66 = .ok (.aload_n 0, 1) := by decide +kernel
theorem dX10_fits_67 : decode cX10_fits 67 = .ok (.iload_n 1, 1) := by decide +kernel
theorem dX10_fits_68 : decode cX10_fits 68 = .ok (.iload_n 2, 1) := by decide +kernel
theorem dX10_fits_69 : decode cX10_fits 69 = .ok (.iload 7, 2) := by decide +kernel
theorem dX10_fits_71 : decode cX10_fits 71 = .ok (.iload 8, 2) := by decide +kernel
theorem dX10_fits_73 : decode cX10_fits 73 = .ok (.invokevirtual 218, 3) := by decide +kernel
theorem dX10_fits_76 : decode cX10_fits 76 = .ok (.istore 9, 2) := by decide +kernel
theorem dX10_fits_78 : decode cX10_fits 78 = .ok (.iload 5, 2) := by decide +kernel
theorem dX10_fits_80 : decode cX10_fits 80 = .ok (.iload 9, 2) := by decide +kernel
theorem dX10_fits_82 : decode cX10_fits 82 = .ok (.ifCond .eq 7, 3) := by decide +kernel
theorem dX10_fits_85 : decode cX10_fits 85 = .ok (.iconst 1, 1) := by decide +kernel
theorem dX10_fits_86 : decode cX10_fits 86 = .ok (.goto 4, 3) := by decide +kernel
theorem dX10_fits_89 : decode cX10_fits 89 = .ok (.iconst 0, 1) := by decide +kernel
theorem dX10_fits_90 : decode cX10_fits 90 = .ok (.iadd, 1) := by decide +kernel
theorem dX10_fits_91 : decode cX10_fits 91 = .ok (.istore 5, 2) := by decide +kernel
theorem dX10_fits_93 : decode cX10_fits 93 = .ok (.iload 9, 2) := by decide +kernel
theorem dX10_fits_95 : decode cX10_fits 95 = .ok (.ifCond .eq 14, 3) := by decide +kernel
theorem dX10_fits_98 : decode cX10_fits 98 = .ok (.bipush 100, 2) := by decide +kernel
theorem dX10_fits_100 : decode cX10_fits 100 = .ok (.iload 7, 2) := by decide +kernel
theorem dX10_fits_102 : decode cX10_fits 102 = .ok (.imul, 1) := by decide +kernel
theorem dX10_fits_103 : decode cX10_fits 103 = .ok (.iload 8, 2) := by decide +kernel
theorem dX10_fits_105 : decode cX10_fits 105 = .ok (.iadd, 1) := by decide +kernel
theorem dX10_fits_106 : decode cX10_fits 106 = .ok (.goto 5, 3) := by decide +kernel
theorem dX10_fits_109 : decode cX10_fits 109 = .ok (.iload 6, 2) := by decide +kernel
theorem dX10_fits_111 : decode cX10_fits 111 = .ok (.istore 6, 2) := by decide +kernel
theorem dX10_fits_113 : decode cX10_fits 113 = .ok (.iinc 8 (-1), 3) := by decide +kernel
theorem dX10_fits_116 : decode cX10_fits 116 = .ok (.goto (-55), 3) := by decide +kernel
theorem dX10_fits_119 : decode cX10_fits 119 = .ok (.iinc 7 (-1), 3) := by decide +kernel
theorem dX10_fits_122 : decode cX10_fits 122 = .ok (.goto (-72), 3) := by decide +kernel
theorem dX10_fits_125 : decode cX10_fits 125 = .ok (.iload_n 3, 1) := by decide +kernel
theorem dX10_fits_126 : decode cX10_fits 126 = .ok (.ifCond .ne 8, 3) := by decide +kernel
theorem dX10_fits_129 : decode cX10_fits 129 = .ok (.iload 5, 2) := by decide +kernel
theorem dX10_fits_131 : decode cX10_fits 131 = .ok (.goto 19, 3) := by decide +kernel
theorem dX10_fits_134 : decode cX10_fits 134 = .ok (.iload 6, 2) := by decide +kernel
theorem dX10_fits_136 : decode cX10_fits 136 = .ok (.iconst (-1), 1) := by decide +kernel
theorem dX10_fits_137 : decode cX10_fits 137 = .ok (.if_icmp .ne 11, 3) := by decide +kernel
theorem dX10_fits_140 : decode cX10_fits 140 = .ok (.aload_n 0, 1) := by decide +kernel
theorem dX10_fits_141 : decode cX10_fits 141 = .ok (.iconst 2, 1) := by decide +kernel
theorem dX10_fits_142 : decode cX10_fits 142 = .ok (.invokevirtual 51, 3) := by decide +kernel
theorem dX10_fits_145 : decode cX10_fits 145 = .ok (.goto 5, 3) := by decide +kernel
theorem dX10_fits_148 : decode cX10_fits 148 = .ok (.iload 6, 2) := by decide +kernel
theorem dX10_fits_150 : decode cX10_fits 150 = .ok (.ireturn, 1) := by decide +kernel
theorem dX10_starts_0 : decode cX10_starts 0 = .ok (.aload_n 0, 1) := by decide +kernel
theorem dX10_starts_1 : decode cX10_starts 1 = .ok (.getfield 222, 3) := by decide +kernel
theorem dX10_starts_4 : decode cX10_starts 4 = .ok (.bipush 30, 2) := by decide +kernel
theorem dX10_starts_6 : decode cX10_starts 6 = .ok (.if_icmp .ge 23, 3) := by decide +kernel
theorem dX10_starts_9 : decode cX10_starts 9 = .ok (.aload_n 0, 1) := by decide +kernel
theorem dX10_starts_10 : decode cX10_starts 10 = .ok (.getfield 31, 3) := by decide +kernel
theorem dX10_starts_13 : decode cX10_starts 13 = .ok (.aload_n 0, 1) := by decide +kernel
theorem dX10_starts_14 : decode cX10_starts 14 = .ok (.getfield 222, 3) := by decide +kernel
theorem dX10_starts_17 : decode cX10_starts 17 = .ok (.iload_n 1, 1) := by decide +kernel
theorem dX10_starts_18 : decode cX10_starts 18 = .ok (.iastore, 1) := by decide +kernel
theorem dX10_starts_19 : decode cX10_starts 19 = .ok (.aload_n 0, 1) := by decide +kernel
theorem dX10_starts_20 : decode cX10_starts 20 = .ok (.dup, 1) := by decide +kernel
theorem dX10_starts_21 : decode cX10_starts 21 = .ok (.getfield 222, 3) := by decide +kernel
theorem dX10_starts_24 : decode cX10_starts 24 = .ok (.iconst 1, 1) := by decide +kernel
theorem dX10_starts_25 : decode cX10_starts 25 = .ok (.iadd, 1) := by decide +kernel
theorem dX10_starts_26 : decode cX10_starts 26 = .ok (.putfield 222, 3) := by decide +kernel
theorem dX10_starts_29 : decode cX10_starts 29 = .ok (.return_, 1) := by decide +kernel
theorem dX10_above_0 : decode cX10_above 0 = .ok (.iload_n 0, 1) := by decide +kernel
theorem dX10_above_1 : decode cX10_above 1 = .ok (.iconst 4, 1) := by decide +kernel
theorem dX10_above_2 : decode cX10_above 2 = .ok (.if_icmp .ne 7, 3) := by decide +kernel
theorem dX10_above_5 : decode cX10_above 5 = .ok (.iconst 1, 1) := by decide +kernel
theorem dX10_above_6 : decode cX10_above 6 = .ok (.goto 13, 3) := by decide +kernel
theorem dX10_above_9 : decode cX10_above 9 = .ok (.iload_n 0, 1) := by decide +kernel
theorem dX10_above_10 : decode cX10_above 10 = .ok (.iconst 5, 1) := by decide +kernel
theorem dX10_above_11 : decode cX10_above 11 = .ok (.if_icmp .ne 7, 3) := by decide +kernel
theorem dX10_above_14 : decode cX10_above 14 = .ok (.iconst 2, 1) := by decide +kernel
theorem dX10_above_15 : decode cX10_above 15 = .ok (.goto 4, 3) := by decide +kernel
theorem dX10_above_18 : decode cX10_above 18 = .ok (.iconst 0, 1) := by decide +kernel
theorem dX10_above_19 : decode cX10_above 19 = .ok (.ireturn, 1) := by decide +kernel
theorem dX10_kindNow_0 : decode cX10_kindNow 0 = .ok (.aload_n 0, 1) := by decide +kernel
theorem dX10_kindNow_1 : decode cX10_kindNow 1 = .ok (.aload_n 0, 1) := by decide +kernel
theorem dX10_kindNow_2 : decode cX10_kindNow 2 = .ok (.getfield 225, 3) := by decide +kernel
theorem dX10_kindNow_5 : decode cX10_kindNow 5 = .ok (.iconst 0, 1) := by decide +kernel
theorem dX10_kindNow_6 : decode cX10_kindNow 6 = .ok (.invokevirtual 111, 3) := by decide +kernel
theorem dX10_kindNow_9 : decode cX10_kindNow 9 = .ok (.ireturn, 1) := by decide +kernel
theorem dX10_mNow_0 : decode cX10_mNow 0 = .ok (.aload_n 0, 1) := by decide +kernel
theorem dX10_mNow_1 : decode cX10_mNow 1 = .ok (.aload_n 0, 1) := by decide +kernel
theorem dX10_mNow_2 : decode cX10_mNow 2 = .ok (.getfield 225, 3) := by decide +kernel
theorem dX10_mNow_5 : decode cX10_mNow 5 = .ok (.iconst 1, 1) := by decide +kernel
theorem dX10_mNow_6 : decode cX10_mNow 6 = .ok (.invokevirtual 111, 3) := by decide +kernel
theorem dX10_mNow_9 : decode cX10_mNow 9 = .ok (.ireturn, 1) := by decide +kernel
theorem dX10_blinksAs_0 : decode cX10_blinksAs 0 = .ok (.iload_n 1, 1) := by decide +kernel
theorem dX10_blinksAs_1 : decode cX10_blinksAs 1 = .ok (.tableswitch 101 0 6 #[43, 56, 101, 101, 74, 101, 92], 43) := by decide +kernel
theorem dX10_blinksAs_44 : decode cX10_blinksAs 44 = .ok (.aload_n 0, 1) := by decide +kernel
theorem dX10_blinksAs_45 : decode cX10_blinksAs 45 = .ok (.bipush 10, 2) := by decide +kernel
theorem dX10_blinksAs_47 : decode cX10_blinksAs 47 = .ok (.invokevirtual 228, 3) := by decide +kernel
theorem dX10_blinksAs_50 : decode cX10_blinksAs 50 = .ok (.iload_n 2, 1) := by decide +kernel
theorem dX10_blinksAs_51 : decode cX10_blinksAs 51 = .ok (.aload_n 0, 1) := by decide +kernel
theorem dX10_blinksAs_52 : decode cX10_blinksAs 52 = .ok (.getfield 225, 3) := by decide +kernel
theorem dX10_blinksAs_55 : decode cX10_blinksAs 55 = .ok (.iadd, 1) := by decide +kernel
theorem dX10_blinksAs_56 : decode cX10_blinksAs 56 = .ok (.ireturn, 1) := by decide +kernel
theorem dX10_blinksAs_57 : decode cX10_blinksAs 57 = .ok (.aload_n 0, 1) := by decide +kernel
theorem dX10_blinksAs_58 : decode cX10_blinksAs 58 = .ok (.bipush 20, 2) := by decide +kernel
theorem dX10_blinksAs_60 : decode cX10_blinksAs 60 = .ok (.invokevirtual 228, 3) := by decide +kernel
theorem dX10_blinksAs_63 : decode cX10_blinksAs 63 = .ok (.aload_n 0, 1) := by decide +kernel
theorem dX10_blinksAs_64 : decode cX10_blinksAs 64 = .ok (.iconst 1, 1) := by decide +kernel
theorem dX10_blinksAs_65 : decode cX10_blinksAs 65 = .ok (.invokestatic 172, 3) := by decide +kernel
theorem dX10_blinksAs_68 : decode cX10_blinksAs 68 = .ok (.iload_n 2, 1) := by decide +kernel
theorem dX10_blinksAs_69 : decode cX10_blinksAs 69 = .ok (.invokevirtual 232, 3) := by decide +kernel
theorem dX10_blinksAs_72 : decode cX10_blinksAs 72 = .ok (.iconst 4, 1) := by decide +kernel
theorem dX10_blinksAs_73 : decode cX10_blinksAs 73 = .ok (.isub, 1) := by decide +kernel
theorem dX10_blinksAs_74 : decode cX10_blinksAs 74 = .ok (.ireturn, 1) := by decide +kernel
theorem dX10_blinksAs_75 : decode cX10_blinksAs 75 = .ok (.aload_n 0, 1) := by decide +kernel
theorem dX10_blinksAs_76 : decode cX10_blinksAs 76 = .ok (.bipush 50, 2) := by decide +kernel
theorem dX10_blinksAs_78 : decode cX10_blinksAs 78 = .ok (.invokevirtual 228, 3) := by decide +kernel
theorem dX10_blinksAs_81 : decode cX10_blinksAs 81 = .ok (.aload_n 0, 1) := by decide +kernel
theorem dX10_blinksAs_82 : decode cX10_blinksAs 82 = .ok (.iconst 4, 1) := by decide +kernel
theorem dX10_blinksAs_83 : decode cX10_blinksAs 83 = .ok (.invokestatic 172, 3) := by decide +kernel
theorem dX10_blinksAs_86 : decode cX10_blinksAs 86 = .ok (.iload_n 2, 1) := by decide +kernel
theorem dX10_blinksAs_87 : decode cX10_blinksAs 87 = .ok (.invokevirtual 232, 3) := by decide +kernel
theorem dX10_blinksAs_90 : decode cX10_blinksAs 90 = .ok (.iconst 3, 1) := by decide +kernel
theorem dX10_blinksAs_91 : decode cX10_blinksAs 91 = .ok (.imul, 1) := by decide +kernel
theorem dX10_blinksAs_92 : decode cX10_blinksAs 92 = .ok (.ireturn, 1) := by decide +kernel
theorem dX10_blinksAs_93 : decode cX10_blinksAs 93 = .ok (.aload_n 0, 1) := by decide +kernel
theorem dX10_blinksAs_94 : decode cX10_blinksAs 94 = .ok (.bipush 70, 2) := by decide +kernel
theorem dX10_blinksAs_96 : decode cX10_blinksAs 96 = .ok (.invokevirtual 228, 3) := by decide +kernel
theorem dX10_blinksAs_99 : decode cX10_blinksAs 99 = .ok (.bipush 9, 2) := by decide +kernel
theorem dX10_blinksAs_101 : decode cX10_blinksAs 101 = .ok (.ireturn, 1) := by decide +kernel
theorem dX10_blinksAs_102 : decode cX10_blinksAs 102 = .ok (.aload_n 0, 1) := by decide +kernel
theorem dX10_blinksAs_103 : decode cX10_blinksAs 103 = .ok (.iload_n 1, 1) := by decide +kernel
theorem dX10_blinksAs_104 : decode cX10_blinksAs 104 = .ok (.invokestatic 172, 3) := by decide +kernel
theorem dX10_blinksAs_107 : decode cX10_blinksAs 107 = .ok (.iload_n 2, 1) := by decide +kernel
theorem dX10_blinksAs_108 : decode cX10_blinksAs 108 = .ok (.invokevirtual 232, 3) := by decide +kernel
theorem dX10_blinksAs_111 : decode cX10_blinksAs 111 = .ok (.ireturn, 1) := by decide +kernel
theorem dX10_movesAs_0 : decode cX10_movesAs 0 = .ok (.iload_n 1, 1) := by decide +kernel
theorem dX10_movesAs_1 : decode cX10_movesAs 1 = .ok (.tableswitch 119 0 6 #[43, 119, 61, 119, 119, 79, 97], 43) := by decide +kernel
theorem dX10_movesAs_44 : decode cX10_movesAs 44 = .ok (.aload_n 0, 1) := by decide +kernel
theorem dX10_movesAs_45 : decode cX10_movesAs 45 = .ok (.bipush 11, 2) := by decide +kernel
theorem dX10_movesAs_47 : decode cX10_movesAs 47 = .ok (.invokevirtual 228, 3) := by decide +kernel
theorem dX10_movesAs_50 : decode cX10_movesAs 50 = .ok (.aload_n 0, 1) := by decide +kernel
theorem dX10_movesAs_51 : decode cX10_movesAs 51 = .ok (.aload_n 0, 1) := by decide +kernel
theorem dX10_movesAs_52 : decode cX10_movesAs 52 = .ok (.invokevirtual 235, 3) := by decide +kernel
theorem dX10_movesAs_55 : decode cX10_movesAs 55 = .ok (.iload_n 2, 1) := by decide +kernel
theorem dX10_movesAs_56 : decode cX10_movesAs 56 = .ok (.invokevirtual 232, 3) := by decide +kernel
theorem dX10_movesAs_59 : decode cX10_movesAs 59 = .ok (.iconst 2, 1) := by decide +kernel
theorem dX10_movesAs_60 : decode cX10_movesAs 60 = .ok (.imul, 1) := by decide +kernel
theorem dX10_movesAs_61 : decode cX10_movesAs 61 = .ok (.ireturn, 1) := by decide +kernel
theorem dX10_movesAs_62 : decode cX10_movesAs 62 = .ok (.aload_n 0, 1) := by decide +kernel
theorem dX10_movesAs_63 : decode cX10_movesAs 63 = .ok (.bipush 30, 2) := by decide +kernel
theorem dX10_movesAs_65 : decode cX10_movesAs 65 = .ok (.invokevirtual 228, 3) := by decide +kernel
theorem dX10_movesAs_68 : decode cX10_movesAs 68 = .ok (.iconst 0, 1) := by decide +kernel
theorem dX10_movesAs_69 : decode cX10_movesAs 69 = .ok (.aload_n 0, 1) := by decide +kernel
theorem dX10_movesAs_70 : decode cX10_movesAs 70 = .ok (.iconst 2, 1) := by decide +kernel
theorem dX10_movesAs_71 : decode cX10_movesAs 71 = .ok (.invokestatic 172, 3) := by decide +kernel
theorem dX10_movesAs_74 : decode cX10_movesAs 74 = .ok (.iload_n 2, 1) := by decide +kernel
theorem dX10_movesAs_75 : decode cX10_movesAs 75 = .ok (.invokevirtual 238, 3) := by decide +kernel
theorem dX10_movesAs_78 : decode cX10_movesAs 78 = .ok (.isub, 1) := by decide +kernel
theorem dX10_movesAs_79 : decode cX10_movesAs 79 = .ok (.ireturn, 1) := by decide +kernel
theorem dX10_movesAs_80 : decode cX10_movesAs 80 = .ok (.aload_n 0, 1) := by decide +kernel
theorem dX10_movesAs_81 : decode cX10_movesAs 81 = .ok (.bipush 60, 2) := by decide +kernel
theorem dX10_movesAs_83 : decode cX10_movesAs 83 = .ok (.invokevirtual 228, 3) := by decide +kernel
theorem dX10_movesAs_86 : decode cX10_movesAs 86 = .ok (.aload_n 0, 1) := by decide +kernel
theorem dX10_movesAs_87 : decode cX10_movesAs 87 = .ok (.iconst 5, 1) := by decide +kernel
theorem dX10_movesAs_88 : decode cX10_movesAs 88 = .ok (.invokestatic 172, 3) := by decide +kernel
theorem dX10_movesAs_91 : decode cX10_movesAs 91 = .ok (.iload_n 2, 1) := by decide +kernel
theorem dX10_movesAs_92 : decode cX10_movesAs 92 = .ok (.iconst 1, 1) := by decide +kernel
theorem dX10_movesAs_93 : decode cX10_movesAs 93 = .ok (.iadd, 1) := by decide +kernel
theorem dX10_movesAs_94 : decode cX10_movesAs 94 = .ok (.invokevirtual 238, 3) := by decide +kernel
theorem dX10_movesAs_97 : decode cX10_movesAs 97 = .ok (.ireturn, 1) := by decide +kernel
theorem dX10_movesAs_98 : decode cX10_movesAs 98 = .ok (.aload_n 0, 1) := by decide +kernel
theorem dX10_movesAs_99 : decode cX10_movesAs 99 = .ok (.bipush 71, 2) := by decide +kernel
theorem dX10_movesAs_101 : decode cX10_movesAs 101 = .ok (.invokevirtual 228, 3) := by decide +kernel
theorem dX10_movesAs_104 : decode cX10_movesAs 104 = .ok (.aload_n 0, 1) := by decide +kernel
theorem dX10_movesAs_105 : decode cX10_movesAs 105 = .ok (.bipush 6, 2) := by decide +kernel
theorem dX10_movesAs_107 : decode cX10_movesAs 107 = .ok (.invokestatic 172, 3) := by decide +kernel
theorem dX10_movesAs_110 : decode cX10_movesAs 110 = .ok (.iload_n 2, 1) := by decide +kernel
theorem dX10_movesAs_111 : decode cX10_movesAs 111 = .ok (.invokevirtual 238, 3) := by decide +kernel
theorem dX10_movesAs_114 : decode cX10_movesAs 114 = .ok (.aload_n 0, 1) := by decide +kernel
theorem dX10_movesAs_115 : decode cX10_movesAs 115 = .ok (.invokevirtual 241, 3) := by decide +kernel
theorem dX10_movesAs_118 : decode cX10_movesAs 118 = .ok (.iadd, 1) := by decide +kernel
theorem dX10_movesAs_119 : decode cX10_movesAs 119 = .ok (.ireturn, 1) := by decide +kernel
theorem dX10_movesAs_120 : decode cX10_movesAs 120 = .ok (.aload_n 0, 1) := by decide +kernel
theorem dX10_movesAs_121 : decode cX10_movesAs 121 = .ok (.iload_n 1, 1) := by decide +kernel
theorem dX10_movesAs_122 : decode cX10_movesAs 122 = .ok (.invokestatic 172, 3) := by decide +kernel
theorem dX10_movesAs_125 : decode cX10_movesAs 125 = .ok (.iload_n 2, 1) := by decide +kernel
theorem dX10_movesAs_126 : decode cX10_movesAs 126 = .ok (.invokevirtual 238, 3) := by decide +kernel
theorem dX10_movesAs_129 : decode cX10_movesAs 129 = .ok (.ireturn, 1) := by decide +kernel
theorem dX10_looksAs_0 : decode cX10_looksAs 0 = .ok (.iload_n 1, 1) := by decide +kernel
theorem dX10_looksAs_1 : decode cX10_looksAs 1 = .ok (.tableswitch 95 0 4 #[35, 95, 95, 56, 74], 35) := by decide +kernel
theorem dX10_looksAs_36 : decode cX10_looksAs 36 = .ok (.aload_n 0, 1) := by decide +kernel
theorem dX10_looksAs_37 : decode cX10_looksAs 37 = .ok (.bipush 12, 2) := by decide +kernel
theorem dX10_looksAs_39 : decode cX10_looksAs 39 = .ok (.invokevirtual 228, 3) := by decide +kernel
theorem dX10_looksAs_42 : decode cX10_looksAs 42 = .ok (.aload_n 0, 1) := by decide +kernel
theorem dX10_looksAs_43 : decode cX10_looksAs 43 = .ok (.aload_n 0, 1) := by decide +kernel
theorem dX10_looksAs_44 : decode cX10_looksAs 44 = .ok (.invokevirtual 235, 3) := by decide +kernel
theorem dX10_looksAs_47 : decode cX10_looksAs 47 = .ok (.iload_n 2, 1) := by decide +kernel
theorem dX10_looksAs_48 : decode cX10_looksAs 48 = .ok (.invokevirtual 238, 3) := by decide +kernel
theorem dX10_looksAs_51 : decode cX10_looksAs 51 = .ok (.aload_n 0, 1) := by decide +kernel
theorem dX10_looksAs_52 : decode cX10_looksAs 52 = .ok (.invokevirtual 241, 3) := by decide +kernel
theorem dX10_looksAs_55 : decode cX10_looksAs 55 = .ok (.isub, 1) := by decide +kernel
theorem dX10_looksAs_56 : decode cX10_looksAs 56 = .ok (.ireturn, 1) := by decide +kernel
theorem dX10_looksAs_57 : decode cX10_looksAs 57 = .ok (.aload_n 0, 1) := by decide +kernel
theorem dX10_looksAs_58 : decode cX10_looksAs 58 = .ok (.bipush 40, 2) := by decide +kernel
theorem dX10_looksAs_60 : decode cX10_looksAs 60 = .ok (.invokevirtual 228, 3) := by decide +kernel
theorem dX10_looksAs_63 : decode cX10_looksAs 63 = .ok (.aload_n 0, 1) := by decide +kernel
theorem dX10_looksAs_64 : decode cX10_looksAs 64 = .ok (.iconst 3, 1) := by decide +kernel
theorem dX10_looksAs_65 : decode cX10_looksAs 65 = .ok (.invokestatic 172, 3) := by decide +kernel
theorem dX10_looksAs_68 : decode cX10_looksAs 68 = .ok (.iload_n 2, 1) := by decide +kernel
theorem dX10_looksAs_69 : decode cX10_looksAs 69 = .ok (.iconst 2, 1) := by decide +kernel
theorem dX10_looksAs_70 : decode cX10_looksAs 70 = .ok (.idiv, 1) := by decide +kernel
theorem dX10_looksAs_71 : decode cX10_looksAs 71 = .ok (.invokevirtual 244, 3) := by decide +kernel
theorem dX10_looksAs_74 : decode cX10_looksAs 74 = .ok (.ireturn, 1) := by decide +kernel
theorem dX10_looksAs_75 : decode cX10_looksAs 75 = .ok (.aload_n 0, 1) := by decide +kernel
theorem dX10_looksAs_76 : decode cX10_looksAs 76 = .ok (.bipush 51, 2) := by decide +kernel
theorem dX10_looksAs_78 : decode cX10_looksAs 78 = .ok (.invokevirtual 228, 3) := by decide +kernel
theorem dX10_looksAs_81 : decode cX10_looksAs 81 = .ok (.aload_n 0, 1) := by decide +kernel
theorem dX10_looksAs_82 : decode cX10_looksAs 82 = .ok (.iconst 4, 1) := by decide +kernel
theorem dX10_looksAs_83 : decode cX10_looksAs 83 = .ok (.invokestatic 172, 3) := by decide +kernel
theorem dX10_looksAs_86 : decode cX10_looksAs 86 = .ok (.iload_n 2, 1) := by decide +kernel
theorem dX10_looksAs_87 : decode cX10_looksAs 87 = .ok (.invokevirtual 244, 3) := by decide +kernel
theorem dX10_looksAs_90 : decode cX10_looksAs 90 = .ok (.aload_n 0, 1) := by decide +kernel
theorem dX10_looksAs_91 : decode cX10_looksAs 91 = .ok (.getfield 225, 3) := by decide +kernel
theorem dX10_looksAs_94 : decode cX10_looksAs 94 = .ok (.ixor, 1) := by decide +kernel
theorem dX10_looksAs_95 : decode cX10_looksAs 95 = .ok (.ireturn, 1) := by decide +kernel
theorem dX10_looksAs_96 : decode cX10_looksAs 96 = .ok (.aload_n 0, 1) := by decide +kernel
theorem dX10_looksAs_97 : decode cX10_looksAs 97 = .ok (.iload_n 1, 1) := by decide +kernel
theorem dX10_looksAs_98 : decode cX10_looksAs 98 = .ok (.invokestatic 172, 3) := by decide +kernel
theorem dX10_looksAs_101 : decode cX10_looksAs 101 = .ok (.iload_n 2, 1) := by decide +kernel
theorem dX10_looksAs_102 : decode cX10_looksAs 102 = .ok (.invokevirtual 244, 3) := by decide +kernel
theorem dX10_looksAs_105 : decode cX10_looksAs 105 = .ok (.ireturn, 1) := by decide +kernel
theorem dX10_partsAs_0 : decode cX10_partsAs 0 = .ok (.iload_n 1, 1) := by decide +kernel
theorem dX10_partsAs_1 : decode cX10_partsAs 1 = .ok (.lookupswitch 119 #[(0, 27), (1, 78)], 27) := by decide +kernel
theorem dX10_partsAs_28 : decode cX10_partsAs 28 = .ok (.aload_n 0, 1) := by decide +kernel
theorem dX10_partsAs_29 : decode cX10_partsAs 29 = .ok (.bipush 13, 2) := by decide +kernel
theorem dX10_partsAs_31 : decode cX10_partsAs 31 = .ok (.invokevirtual 228, 3) := by decide +kernel
theorem dX10_partsAs_34 : decode cX10_partsAs 34 = .ok (.aload_n 0, 1) := by decide +kernel
theorem dX10_partsAs_35 : decode cX10_partsAs 35 = .ok (.invokevirtual 241, 3) := by decide +kernel
theorem dX10_partsAs_38 : decode cX10_partsAs 38 = .ok (.aload_n 0, 1) := by decide +kernel
theorem dX10_partsAs_39 : decode cX10_partsAs 39 = .ok (.getfield 225, 3) := by decide +kernel
theorem dX10_partsAs_42 : decode cX10_partsAs 42 = .ok (.isub, 1) := by decide +kernel
theorem dX10_partsAs_43 : decode cX10_partsAs 43 = .ok (.istore_n 3, 1) := by decide +kernel
theorem dX10_partsAs_44 : decode cX10_partsAs 44 = .ok (.aload_n 0, 1) := by decide +kernel
theorem dX10_partsAs_45 : decode cX10_partsAs 45 = .ok (.iload_n 3, 1) := by decide +kernel
theorem dX10_partsAs_46 : decode cX10_partsAs 46 = .ok (.ifCond .ne 7, 3) := by decide +kernel
theorem dX10_partsAs_49 : decode cX10_partsAs 49 = .ok (.iconst 1, 1) := by decide +kernel
theorem dX10_partsAs_50 : decode cX10_partsAs 50 = .ok (.goto 4, 3) := by decide +kernel
theorem dX10_partsAs_53 : decode cX10_partsAs 53 = .ok (.iconst 0, 1) := by decide +kernel
theorem dX10_partsAs_54 : decode cX10_partsAs 54 = .ok (.putfield 247, 3) := by decide +kernel
theorem dX10_partsAs_57 : decode cX10_partsAs 57 = .ok (.iload_n 3, 1) := by decide +kernel
theorem dX10_partsAs_58 : decode cX10_partsAs 58 = .ok (.ifCond .ne 7, 3) := by decide +kernel
theorem dX10_partsAs_61 : decode cX10_partsAs 61 = .ok (.iconst 0, 1) := by decide +kernel
theorem dX10_partsAs_62 : decode cX10_partsAs 62 = .ok (.goto 16, 3) := by decide +kernel
theorem dX10_partsAs_65 : decode cX10_partsAs 65 = .ok (.iload_n 3, 1) := by decide +kernel
theorem dX10_partsAs_66 : decode cX10_partsAs 66 = .ok (.iconst (-1), 1) := by decide +kernel
theorem dX10_partsAs_67 : decode cX10_partsAs 67 = .ok (.if_icmp .ne 8, 3) := by decide +kernel
theorem dX10_partsAs_70 : decode cX10_partsAs 70 = .ok (.iload_n 2, 1) := by decide +kernel
theorem dX10_partsAs_71 : decode cX10_partsAs 71 = .ok (.ineg, 1) := by decide +kernel
theorem dX10_partsAs_72 : decode cX10_partsAs 72 = .ok (.goto 6, 3) := by decide +kernel
theorem dX10_partsAs_75 : decode cX10_partsAs 75 = .ok (.iload_n 2, 1) := by decide +kernel
theorem dX10_partsAs_76 : decode cX10_partsAs 76 = .ok (.iload_n 3, 1) := by decide +kernel
theorem dX10_partsAs_77 : decode cX10_partsAs 77 = .ok (.idiv, 1) := by decide +kernel
theorem dX10_partsAs_78 : decode cX10_partsAs 78 = .ok (.ireturn, 1) := by decide +kernel
theorem dX10_partsAs_79 : decode cX10_partsAs 79 = .ok (.aload_n 0, 1) := by decide +kernel
theorem dX10_partsAs_80 : decode cX10_partsAs 80 = .ok (.bipush 21, 2) := by decide +kernel
theorem dX10_partsAs_82 : decode cX10_partsAs 82 = .ok (.invokevirtual 228, 3) := by decide +kernel
theorem dX10_partsAs_85 : decode cX10_partsAs 85 = .ok (.aload_n 0, 1) := by decide +kernel
theorem dX10_partsAs_86 : decode cX10_partsAs 86 = .ok (.iconst 1, 1) := by decide +kernel
theorem dX10_partsAs_87 : decode cX10_partsAs 87 = .ok (.invokestatic 172, 3) := by decide +kernel
theorem dX10_partsAs_90 : decode cX10_partsAs 90 = .ok (.iload_n 2, 1) := by decide +kernel
theorem dX10_partsAs_91 : decode cX10_partsAs 91 = .ok (.invokevirtual 251, 3) := by decide +kernel
theorem dX10_partsAs_94 : decode cX10_partsAs 94 = .ok (.istore 4, 2) := by decide +kernel
theorem dX10_partsAs_96 : decode cX10_partsAs 96 = .ok (.aload_n 0, 1) := by decide +kernel
theorem dX10_partsAs_97 : decode cX10_partsAs 97 = .ok (.getfield 247, 3) := by decide +kernel
theorem dX10_partsAs_100 : decode cX10_partsAs 100 = .ok (.ifCond .eq 7, 3) := by decide +kernel
theorem dX10_partsAs_103 : decode cX10_partsAs 103 = .ok (.iconst 0, 1) := by decide +kernel
theorem dX10_partsAs_104 : decode cX10_partsAs 104 = .ok (.goto 15, 3) := by decide +kernel
theorem dX10_partsAs_107 : decode cX10_partsAs 107 = .ok (.iload 4, 2) := by decide +kernel
theorem dX10_partsAs_109 : decode cX10_partsAs 109 = .ok (.aload_n 0, 1) := by decide +kernel
theorem dX10_partsAs_110 : decode cX10_partsAs 110 = .ok (.aload_n 0, 1) := by decide +kernel
theorem dX10_partsAs_111 : decode cX10_partsAs 111 = .ok (.invokevirtual 235, 3) := by decide +kernel
theorem dX10_partsAs_114 : decode cX10_partsAs 114 = .ok (.iconst 1, 1) := by decide +kernel
theorem dX10_partsAs_115 : decode cX10_partsAs 115 = .ok (.invokevirtual 238, 3) := by decide +kernel
theorem dX10_partsAs_118 : decode cX10_partsAs 118 = .ok (.iadd, 1) := by decide +kernel
theorem dX10_partsAs_119 : decode cX10_partsAs 119 = .ok (.ireturn, 1) := by decide +kernel
theorem dX10_partsAs_120 : decode cX10_partsAs 120 = .ok (.aload_n 0, 1) := by decide +kernel
theorem dX10_partsAs_121 : decode cX10_partsAs 121 = .ok (.iload_n 1, 1) := by decide +kernel
theorem dX10_partsAs_122 : decode cX10_partsAs 122 = .ok (.invokestatic 172, 3) := by decide +kernel
theorem dX10_partsAs_125 : decode cX10_partsAs 125 = .ok (.iload_n 2, 1) := by decide +kernel
theorem dX10_partsAs_126 : decode cX10_partsAs 126 = .ok (.invokevirtual 251, 3) := by decide +kernel
theorem dX10_partsAs_129 : decode cX10_partsAs 129 = .ok (.ireturn, 1) := by decide +kernel
theorem dX10_voice_0 : decode cX10_voice 0 = .ok (.aload_n 0, 1) := by decide +kernel
theorem dX10_voice_1 : decode cX10_voice 1 = .ok (.iload_n 1, 1) := by decide +kernel
theorem dX10_voice_2 : decode cX10_voice 2 = .ok (.invokevirtual 166, 3) := by decide +kernel
theorem dX10_voice_5 : decode cX10_voice 5 = .ok (.ifCond .eq 12, 3) := by decide +kernel
theorem dX10_voice_8 : decode cX10_voice 8 = .ok (.iload_n 2, 1) := by decide +kernel
theorem dX10_voice_9 : decode cX10_voice 9 = .ok (.iconst 0, 1) := by decide +kernel
theorem dX10_voice_10 : decode cX10_voice 10 = .ok (.iconst 3, 1) := by decide +kernel
theorem dX10_voice_11 : decode cX10_voice 11 = .ok (.invokestatic 47, 3) := by decide +kernel
theorem dX10_voice_14 : decode cX10_voice 14 = .ok (.ifCond .ne 9, 3) := by decide +kernel
theorem dX10_voice_17 : decode cX10_voice 17 = .ok (.aload_n 0, 1) := by decide +kernel
theorem dX10_voice_18 : decode cX10_voice 18 = .ok (.iconst 1, 1) := by decide +kernel
theorem dX10_voice_19 : decode cX10_voice 19 = .ok (.invokevirtual 51, 3) := by decide +kernel
theorem dX10_voice_22 : decode cX10_voice 22 = .ok (.ireturn, 1) := by decide +kernel
theorem dX10_voice_23 : decode cX10_voice 23 = .ok (.aload_n 0, 1) := by decide +kernel
theorem dX10_voice_24 : decode cX10_voice 24 = .ok (.iconst 0, 1) := by decide +kernel
theorem dX10_voice_25 : decode cX10_voice 25 = .ok (.putfield 222, 3) := by decide +kernel
theorem dX10_voice_28 : decode cX10_voice 28 = .ok (.aload_n 0, 1) := by decide +kernel
theorem dX10_voice_29 : decode cX10_voice 29 = .ok (.iload_n 1, 1) := by decide +kernel
theorem dX10_voice_30 : decode cX10_voice 30 = .ok (.putfield 225, 3) := by decide +kernel
theorem dX10_voice_33 : decode cX10_voice 33 = .ok (.aload_n 0, 1) := by decide +kernel
theorem dX10_voice_34 : decode cX10_voice 34 = .ok (.iconst 0, 1) := by decide +kernel
theorem dX10_voice_35 : decode cX10_voice 35 = .ok (.putfield 247, 3) := by decide +kernel
theorem dX10_voice_38 : decode cX10_voice 38 = .ok (.aload_n 0, 1) := by decide +kernel
theorem dX10_voice_39 : decode cX10_voice 39 = .ok (.invokevirtual 235, 3) := by decide +kernel
theorem dX10_voice_42 : decode cX10_voice 42 = .ok (.istore 4, 2) := by decide +kernel
theorem dX10_voice_44 : decode cX10_voice 44 = .ok (.iload_n 2, 1) := by decide +kernel
theorem dX10_voice_45 : decode cX10_voice 45 = .ok (.ifCond .ne 13, 3) := by decide +kernel
theorem dX10_voice_48 : decode cX10_voice 48 = .ok (.aload_n 0, 1) := by decide +kernel
theorem dX10_voice_49 : decode cX10_voice 49 = .ok (.iload 4, 2) := by decide +kernel
theorem dX10_voice_51 : decode cX10_voice 51 = .ok (.iload_n 3, 1) := by decide +kernel
theorem dX10_voice_52 : decode cX10_voice 52 = .ok (.invokevirtual 232, 3) := by decide +kernel
theorem dX10_voice_55 : decode cX10_voice 55 = .ok (.goto 40, 3) := by decide +kernel
theorem dX10_voice_58 : decode cX10_voice 58 = .ok (.iload_n 2, 1) := by decide +kernel
theorem dX10_voice_59 : decode cX10_voice 59 = .ok (.iconst 1, 1) := by decide +kernel
theorem dX10_voice_60 : decode cX10_voice 60 = .ok (.if_icmp .ne 13, 3) := by decide +kernel
theorem dX10_voice_63 : decode cX10_voice 63 = .ok (.aload_n 0, 1) := by decide +kernel
theorem dX10_voice_64 : decode cX10_voice 64 = .ok (.iload 4, 2) := by decide +kernel
theorem dX10_voice_66 : decode cX10_voice 66 = .ok (.iload_n 3, 1) := by decide +kernel
theorem dX10_voice_67 : decode cX10_voice 67 = .ok (.invokevirtual 238, 3) := by decide +kernel
theorem dX10_voice_70 : decode cX10_voice 70 = .ok (.goto 25, 3) := by decide +kernel
theorem dX10_voice_73 : decode cX10_voice 73 = .ok (.iload_n 2, 1) := by decide +kernel
theorem dX10_voice_74 : decode cX10_voice 74 = .ok (.iconst 2, 1) := by decide +kernel
theorem dX10_voice_75 : decode cX10_voice 75 = .ok (.if_icmp .ne 13, 3) := by decide +kernel
theorem dX10_voice_78 : decode cX10_voice 78 = .ok (.aload_n 0, 1) := by decide +kernel
theorem dX10_voice_79 : decode cX10_voice 79 = .ok (.iload 4, 2) := by decide +kernel
theorem dX10_voice_81 : decode cX10_voice 81 = .ok (.iload_n 3, 1) := by decide +kernel
theorem dX10_voice_82 : decode cX10_voice 82 = .ok (.invokevirtual 244, 3) := by decide +kernel
theorem dX10_voice_85 : decode cX10_voice 85 = .ok (.goto 10, 3) := by decide +kernel
theorem dX10_voice_88 : decode cX10_voice 88 = .ok (.aload_n 0, 1) := by decide +kernel
theorem dX10_voice_89 : decode cX10_voice 89 = .ok (.iload 4, 2) := by decide +kernel
theorem dX10_voice_91 : decode cX10_voice 91 = .ok (.iload_n 3, 1) := by decide +kernel
theorem dX10_voice_92 : decode cX10_voice 92 = .ok (.invokevirtual 251, 3) := by decide +kernel
theorem dX10_voice_95 : decode cX10_voice 95 = .ok (.istore 5, 2) := by decide +kernel
theorem dX10_voice_97 : decode cX10_voice 97 = .ok (.aload_n 0, 1) := by decide +kernel
theorem dX10_voice_98 : decode cX10_voice 98 = .ok (.getfield 247, 3) := by decide +kernel
theorem dX10_voice_101 : decode cX10_voice 101 = .ok (.ifCond .eq 12, 3) := by decide +kernel
theorem dX10_voice_104 : decode cX10_voice 104 = .ok (.aload_n 0, 1) := by decide +kernel
theorem dX10_voice_105 : decode cX10_voice 105 = .ok (.bipush 6, 2) := by decide +kernel
theorem dX10_voice_107 : decode cX10_voice 107 = .ok (.invokevirtual 51, 3) := by decide +kernel
theorem dX10_voice_110 : decode cX10_voice 110 = .ok (.goto 5, 3) := by decide +kernel
theorem dX10_voice_113 : decode cX10_voice 113 = .ok (.iload 5, 2) := by decide +kernel
theorem dX10_voice_115 : decode cX10_voice 115 = .ok (.ireturn, 1) := by decide +kernel
theorem dX10_body_0 : decode cX10_body 0 = .ok (.iload_n 1, 1) := by decide +kernel
theorem dX10_body_1 : decode cX10_body 1 = .ok (.iconst 0, 1) := by decide +kernel
theorem dX10_body_2 : decode cX10_body 2 = .ok (.aload_n 0, 1) := by decide +kernel
theorem dX10_body_3 : decode cX10_body 3 = .ok (.getfield 222, 3) := by decide +kernel
theorem dX10_body_6 : decode cX10_body 6 = .ok (.iconst 1, 1) := by decide +kernel
theorem dX10_body_7 : decode cX10_body 7 = .ok (.isub, 1) := by decide +kernel
theorem dX10_body_8 : decode cX10_body 8 = .ok (.invokestatic 47, 3) := by decide +kernel
theorem dX10_body_11 : decode cX10_body 11 = .ok (.ifCond .eq 12, 3) := by decide +kernel
theorem dX10_body_14 : decode cX10_body 14 = .ok (.aload_n 0, 1) := by decide +kernel
theorem dX10_body_15 : decode cX10_body 15 = .ok (.getfield 31, 3) := by decide +kernel
theorem dX10_body_18 : decode cX10_body 18 = .ok (.iload_n 1, 1) := by decide +kernel
theorem dX10_body_19 : decode cX10_body 19 = .ok (.iaload, 1) := by decide +kernel
theorem dX10_body_20 : decode cX10_body 20 = .ok (.goto 8, 3) := by decide +kernel
theorem dX10_body_23 : decode cX10_body 23 = .ok (.aload_n 0, 1) := by decide +kernel
theorem dX10_body_24 : decode cX10_body 24 = .ok (.iconst 2, 1) := by decide +kernel
theorem dX10_body_25 : decode cX10_body 25 = .ok (.invokevirtual 51, 3) := by decide +kernel
theorem dX10_body_28 : decode cX10_body 28 = .ok (.ireturn, 1) := by decide +kernel
theorem dX10_isSheet_0 : decode cX10_isSheet 0 = .ok (.iload_n 0, 1) := by decide +kernel
theorem dX10_isSheet_1 : decode cX10_isSheet 1 = .ok (.iconst 0, 1) := by decide +kernel
theorem dX10_isSheet_2 : decode cX10_isSheet 2 = .ok (.iconst 3, 1) := by decide +kernel
theorem dX10_isSheet_3 : decode cX10_isSheet 3 = .ok (.invokestatic 47, 3) := by decide +kernel
theorem dX10_isSheet_6 : decode cX10_isSheet 6 = .ok (.ireturn, 1) := by decide +kernel
theorem dX10_sheet_0 : decode cX10_sheet 0 = .ok (.iload_n 1, 1) := by decide +kernel
theorem dX10_sheet_1 : decode cX10_sheet 1 = .ok (.invokestatic 254, 3) := by decide +kernel
theorem dX10_sheet_4 : decode cX10_sheet 4 = .ok (.ifCond .eq 25, 3) := by decide +kernel
theorem dX10_sheet_7 : decode cX10_sheet 7 = .ok (.iload_n 2, 1) := by decide +kernel
theorem dX10_sheet_8 : decode cX10_sheet 8 = .ok (.ifCond .eq 27, 3) := by decide +kernel
theorem dX10_sheet_11 : decode cX10_sheet 11 = .ok (.iload_n 2, 1) := by decide +kernel
theorem dX10_sheet_12 : decode cX10_sheet 12 = .ok (.bipush 8, 2) := by decide +kernel
theorem dX10_sheet_14 : decode cX10_sheet 14 = .ok (.if_icmp .eq 21, 3) := by decide +kernel
theorem dX10_sheet_17 : decode cX10_sheet 17 = .ok (.iload_n 2, 1) := by decide +kernel
theorem dX10_sheet_18 : decode cX10_sheet 18 = .ok (.bipush 16, 2) := by decide +kernel
theorem dX10_sheet_20 : decode cX10_sheet 20 = .ok (.if_icmp .eq 15, 3) := by decide +kernel
theorem dX10_sheet_23 : decode cX10_sheet 23 = .ok (.iload_n 2, 1) := by decide +kernel
theorem dX10_sheet_24 : decode cX10_sheet 24 = .ok (.bipush 32, 2) := by decide +kernel
theorem dX10_sheet_26 : decode cX10_sheet 26 = .ok (.if_icmp .eq 9, 3) := by decide +kernel
theorem dX10_sheet_29 : decode cX10_sheet 29 = .ok (.aload_n 0, 1) := by decide +kernel
theorem dX10_sheet_30 : decode cX10_sheet 30 = .ok (.iconst 1, 1) := by decide +kernel
theorem dX10_sheet_31 : decode cX10_sheet 31 = .ok (.invokevirtual 51, 3) := by decide +kernel
theorem dX10_sheet_34 : decode cX10_sheet 34 = .ok (.ireturn, 1) := by decide +kernel
theorem dX10_sheet_35 : decode cX10_sheet 35 = .ok (.iload_n 2, 1) := by decide +kernel
theorem dX10_sheet_36 : decode cX10_sheet 36 = .ok (.ifCond .eq 13, 3) := by decide +kernel
theorem dX10_sheet_39 : decode cX10_sheet 39 = .ok (.iload_n 3, 1) := by decide +kernel
theorem dX10_sheet_40 : decode cX10_sheet 40 = .ok (.ifCond .ge 9, 3) := by decide +kernel
theorem dX10_sheet_43 : decode cX10_sheet 43 = .ok (.aload_n 0, 1) := by decide +kernel
theorem dX10_sheet_44 : decode cX10_sheet 44 = .ok (.iconst 3, 1) := by decide +kernel
theorem dX10_sheet_45 : decode cX10_sheet 45 = .ok (.invokevirtual 51, 3) := by decide +kernel
theorem dX10_sheet_48 : decode cX10_sheet 48 = .ok (.ireturn, 1) := by decide +kernel
theorem dX10_sheet_49 : decode cX10_sheet 49 = .ok (.iload_n 2, 1) := by decide +kernel
theorem dX10_sheet_50 : decode cX10_sheet 50 = .ok (.ifCond .eq 15, 3) := by decide +kernel
theorem dX10_sheet_53 : decode cX10_sheet 53 = .ok (.iload_n 3, 1) := by decide +kernel
theorem dX10_sheet_54 : decode cX10_sheet 54 = .ok (.bipush 24, 2) := by decide +kernel
theorem dX10_sheet_56 : decode cX10_sheet 56 = .ok (.if_icmp .le 9, 3) := by decide +kernel
theorem dX10_sheet_59 : decode cX10_sheet 59 = .ok (.aload_n 0, 1) := by decide +kernel
theorem dX10_sheet_60 : decode cX10_sheet 60 = .ok (.iconst 1, 1) := by decide +kernel
theorem dX10_sheet_61 : decode cX10_sheet 61 = .ok (.invokevirtual 51, 3) := by decide +kernel
theorem dX10_sheet_64 : decode cX10_sheet 64 = .ok (.ireturn, 1) := by decide +kernel
theorem dX10_sheet_65 : decode cX10_sheet 65 = .ok (.aload_n 0, 1) := by decide +kernel
theorem dX10_sheet_66 : decode cX10_sheet 66 = .ok (.getfield 34, 3) := by decide +kernel
theorem dX10_sheet_69 : decode cX10_sheet 69 = .ok (.iload_n 1, 1) := by decide +kernel
theorem dX10_sheet_70 : decode cX10_sheet 70 = .ok (.iload_n 2, 1) := by decide +kernel
theorem dX10_sheet_71 : decode cX10_sheet 71 = .ok (.iastore, 1) := by decide +kernel
theorem dX10_sheet_72 : decode cX10_sheet 72 = .ok (.aload_n 0, 1) := by decide +kernel
theorem dX10_sheet_73 : decode cX10_sheet 73 = .ok (.getfield 37, 3) := by decide +kernel
theorem dX10_sheet_76 : decode cX10_sheet 76 = .ok (.iload_n 1, 1) := by decide +kernel
theorem dX10_sheet_77 : decode cX10_sheet 77 = .ok (.iload_n 2, 1) := by decide +kernel
theorem dX10_sheet_78 : decode cX10_sheet 78 = .ok (.ifCond .ne 7, 3) := by decide +kernel
theorem dX10_sheet_81 : decode cX10_sheet 81 = .ok (.iconst 0, 1) := by decide +kernel
theorem dX10_sheet_82 : decode cX10_sheet 82 = .ok (.goto 4, 3) := by decide +kernel
theorem dX10_sheet_85 : decode cX10_sheet 85 = .ok (.iload_n 3, 1) := by decide +kernel
theorem dX10_sheet_86 : decode cX10_sheet 86 = .ok (.iastore, 1) := by decide +kernel
theorem dX10_sheet_87 : decode cX10_sheet 87 = .ok (.iconst 0, 1) := by decide +kernel
theorem dX10_sheet_88 : decode cX10_sheet 88 = .ok (.istore 4, 2) := by decide +kernel
theorem dX10_sheet_90 : decode cX10_sheet 90 = .ok (.iload 4, 2) := by decide +kernel
theorem dX10_sheet_92 : decode cX10_sheet 92 = .ok (.bipush 24, 2) := by decide +kernel
theorem dX10_sheet_94 : decode cX10_sheet 94 = .ok (.if_icmp .ge 22, 3) := by decide +kernel
theorem dX10_sheet_97 : decode cX10_sheet 97 = .ok (.aload_n 0, 1) := by decide +kernel
theorem dX10_sheet_98 : decode cX10_sheet 98 = .ok (.getfield 40, 3) := by decide +kernel
theorem dX10_sheet_101 : decode cX10_sheet 101 = .ok (.bipush 24, 2) := by decide +kernel
theorem dX10_sheet_103 : decode cX10_sheet 103 = .ok (.iload_n 1, 1) := by decide +kernel
theorem dX10_sheet_104 : decode cX10_sheet 104 = .ok (.imul, 1) := by decide +kernel
theorem dX10_sheet_105 : decode cX10_sheet 105 = .ok (.iload 4, 2) := by decide +kernel
theorem dX10_sheet_107 : decode cX10_sheet 107 = .ok (.iadd, 1) := by decide +kernel
theorem dX10_sheet_108 : decode cX10_sheet 108 = .ok (.iconst 0, 1) := by decide +kernel
theorem dX10_sheet_109 : decode cX10_sheet 109 = .ok (.iastore, 1) := by decide +kernel
theorem dX10_sheet_110 : decode cX10_sheet 110 = .ok (.iinc 4 1, 3) := by decide +kernel
theorem dX10_sheet_113 : decode cX10_sheet 113 = .ok (.goto (-23), 3) := by decide +kernel
theorem dX10_sheet_116 : decode cX10_sheet 116 = .ok (.iconst 1, 1) := by decide +kernel
theorem dX10_sheet_117 : decode cX10_sheet 117 = .ok (.ireturn, 1) := by decide +kernel
theorem dX10_put_0 : decode cX10_put 0 = .ok (.iload_n 1, 1) := by decide +kernel
theorem dX10_put_1 : decode cX10_put 1 = .ok (.invokestatic 254, 3) := by decide +kernel
theorem dX10_put_4 : decode cX10_put 4 = .ok (.ifCond .ne 9, 3) := by decide +kernel
theorem dX10_put_7 : decode cX10_put 7 = .ok (.aload_n 0, 1) := by decide +kernel
theorem dX10_put_8 : decode cX10_put 8 = .ok (.iconst 1, 1) := by decide +kernel
theorem dX10_put_9 : decode cX10_put 9 = .ok (.invokevirtual 51, 3) := by decide +kernel
theorem dX10_put_12 : decode cX10_put 12 = .ok (.ireturn, 1) := by decide +kernel
theorem dX10_put_13 : decode cX10_put 13 = .ok (.aload_n 0, 1) := by decide +kernel
theorem dX10_put_14 : decode cX10_put 14 = .ok (.getfield 34, 3) := by decide +kernel
theorem dX10_put_17 : decode cX10_put 17 = .ok (.iload_n 1, 1) := by decide +kernel
theorem dX10_put_18 : decode cX10_put 18 = .ok (.iaload, 1) := by decide +kernel
theorem dX10_put_19 : decode cX10_put 19 = .ok (.ifCond .ne 9, 3) := by decide +kernel
theorem dX10_put_22 : decode cX10_put 22 = .ok (.aload_n 0, 1) := by decide +kernel
theorem dX10_put_23 : decode cX10_put 23 = .ok (.iconst 2, 1) := by decide +kernel
theorem dX10_put_24 : decode cX10_put 24 = .ok (.invokevirtual 51, 3) := by decide +kernel
theorem dX10_put_27 : decode cX10_put 27 = .ok (.ireturn, 1) := by decide +kernel
theorem dX10_put_28 : decode cX10_put 28 = .ok (.iload_n 2, 1) := by decide +kernel
theorem dX10_put_29 : decode cX10_put 29 = .ok (.iconst 0, 1) := by decide +kernel
theorem dX10_put_30 : decode cX10_put 30 = .ok (.aload_n 0, 1) := by decide +kernel
theorem dX10_put_31 : decode cX10_put 31 = .ok (.getfield 37, 3) := by decide +kernel
theorem dX10_put_34 : decode cX10_put 34 = .ok (.iload_n 1, 1) := by decide +kernel
theorem dX10_put_35 : decode cX10_put 35 = .ok (.iaload, 1) := by decide +kernel
theorem dX10_put_36 : decode cX10_put 36 = .ok (.iconst 1, 1) := by decide +kernel
theorem dX10_put_37 : decode cX10_put 37 = .ok (.isub, 1) := by decide +kernel
theorem dX10_put_38 : decode cX10_put 38 = .ok (.invokestatic 47, 3) := by decide +kernel
theorem dX10_put_41 : decode cX10_put 41 = .ok (.ifCond .ne 9, 3) := by decide +kernel
theorem dX10_put_44 : decode cX10_put 44 = .ok (.aload_n 0, 1) := by decide +kernel
theorem dX10_put_45 : decode cX10_put 45 = .ok (.iconst 1, 1) := by decide +kernel
theorem dX10_put_46 : decode cX10_put 46 = .ok (.invokevirtual 51, 3) := by decide +kernel
theorem dX10_put_49 : decode cX10_put 49 = .ok (.ireturn, 1) := by decide +kernel
theorem dX10_put_50 : decode cX10_put 50 = .ok (.bipush 32, 2) := by decide +kernel
theorem dX10_put_52 : decode cX10_put 52 = .ok (.aload_n 0, 1) := by decide +kernel
theorem dX10_put_53 : decode cX10_put 53 = .ok (.getfield 34, 3) := by decide +kernel
theorem dX10_put_56 : decode cX10_put 56 = .ok (.iload_n 1, 1) := by decide +kernel
theorem dX10_put_57 : decode cX10_put 57 = .ok (.iaload, 1) := by decide +kernel
theorem dX10_put_58 : decode cX10_put 58 = .ok (.isub, 1) := by decide +kernel
theorem dX10_put_59 : decode cX10_put 59 = .ok (.istore 4, 2) := by decide +kernel
theorem dX10_put_61 : decode cX10_put 61 = .ok (.aload_n 0, 1) := by decide +kernel
theorem dX10_put_62 : decode cX10_put 62 = .ok (.getfield 40, 3) := by decide +kernel
theorem dX10_put_65 : decode cX10_put 65 = .ok (.bipush 24, 2) := by decide +kernel
theorem dX10_put_67 : decode cX10_put 67 = .ok (.iload_n 1, 1) := by decide +kernel
theorem dX10_put_68 : decode cX10_put 68 = .ok (.imul, 1) := by decide +kernel
theorem dX10_put_69 : decode cX10_put 69 = .ok (.iload_n 2, 1) := by decide +kernel
theorem dX10_put_70 : decode cX10_put 70 = .ok (.iadd, 1) := by decide +kernel
theorem dX10_put_71 : decode cX10_put 71 = .ok (.iload_n 3, 1) := by decide +kernel
theorem dX10_put_72 : decode cX10_put 72 = .ok (.iload 4, 2) := by decide +kernel
theorem dX10_put_74 : decode cX10_put 74 = .ok (.ishl, 1) := by decide +kernel
theorem dX10_put_75 : decode cX10_put 75 = .ok (.iload 4, 2) := by decide +kernel
theorem dX10_put_77 : decode cX10_put 77 = .ok (.ishr, 1) := by decide +kernel
theorem dX10_put_78 : decode cX10_put 78 = .ok (.iastore, 1) := by decide +kernel
theorem dX10_put_79 : decode cX10_put 79 = .ok (.iconst 1, 1) := by decide +kernel
theorem dX10_put_80 : decode cX10_put 80 = .ok (.ireturn, 1) := by decide +kernel
theorem dX10_move_0 : decode cX10_move 0 = .ok (.iload_n 1, 1) := by decide +kernel
theorem dX10_move_1 : decode cX10_move 1 = .ok (.invokestatic 254, 3) := by decide +kernel
theorem dX10_move_4 : decode cX10_move 4 = .ok (.ifCond .eq 10, 3) := by decide +kernel
theorem dX10_move_7 : decode cX10_move 7 = .ok (.iload_n 3, 1) := by decide +kernel
theorem dX10_move_8 : decode cX10_move 8 = .ok (.invokestatic 254, 3) := by decide +kernel
theorem dX10_move_11 : decode cX10_move 11 = .ok (.ifCond .ne 9, 3) := by decide +kernel
theorem dX10_move_14 : decode cX10_move 14 = .ok (.aload_n 0, 1) := by decide +kernel
theorem dX10_move_15 : decode cX10_move 15 = .ok (.iconst 1, 1) := by decide +kernel
theorem dX10_move_16 : decode cX10_move 16 = .ok (.invokevirtual 51, 3) := by decide +kernel
theorem dX10_move_19 : decode cX10_move 19 = .ok (.ireturn, 1) := by decide +kernel
theorem dX10_move_20 : decode cX10_move 20 = .ok (.aload_n 0, 1) := by decide +kernel
theorem dX10_move_21 : decode cX10_move 21 = .ok (.getfield 34, 3) := by decide +kernel
theorem dX10_move_24 : decode cX10_move 24 = .ok (.iload_n 1, 1) := by decide +kernel
theorem dX10_move_25 : decode cX10_move 25 = .ok (.iaload, 1) := by decide +kernel
theorem dX10_move_26 : decode cX10_move 26 = .ok (.ifCond .eq 12, 3) := by decide +kernel
theorem dX10_move_29 : decode cX10_move 29 = .ok (.aload_n 0, 1) := by decide +kernel
theorem dX10_move_30 : decode cX10_move 30 = .ok (.getfield 34, 3) := by decide +kernel
theorem dX10_move_33 : decode cX10_move 33 = .ok (.iload_n 3, 1) := by decide +kernel
theorem dX10_move_34 : decode cX10_move 34 = .ok (.iaload, 1) := by decide +kernel
theorem dX10_move_35 : decode cX10_move 35 = .ok (.ifCond .ne 9, 3) := by decide +kernel
theorem dX10_move_38 : decode cX10_move 38 = .ok (.aload_n 0, 1) := by decide +kernel
theorem dX10_move_39 : decode cX10_move 39 = .ok (.iconst 2, 1) := by decide +kernel
theorem dX10_move_40 : decode cX10_move 40 = .ok (.invokevirtual 51, 3) := by decide +kernel
theorem dX10_move_43 : decode cX10_move 43 = .ok (.ireturn, 1) := by decide +kernel
theorem dX10_move_44 : decode cX10_move 44 = .ok (.aload_n 0, 1) := by decide +kernel
theorem dX10_move_45 : decode cX10_move 45 = .ok (.getfield 34, 3) := by decide +kernel
theorem dX10_move_48 : decode cX10_move 48 = .ok (.iload_n 1, 1) := by decide +kernel
theorem dX10_move_49 : decode cX10_move 49 = .ok (.iaload, 1) := by decide +kernel
theorem dX10_move_50 : decode cX10_move 50 = .ok (.aload_n 0, 1) := by decide +kernel
theorem dX10_move_51 : decode cX10_move 51 = .ok (.getfield 34, 3) := by decide +kernel
theorem dX10_move_54 : decode cX10_move 54 = .ok (.iload_n 3, 1) := by decide +kernel
theorem dX10_move_55 : decode cX10_move 55 = .ok (.iaload, 1) := by decide +kernel
theorem dX10_move_56 : decode cX10_move 56 = .ok (.if_icmp .eq 9, 3) := by decide +kernel
theorem dX10_move_59 : decode cX10_move 59 = .ok (.aload_n 0, 1) := by decide +kernel
theorem dX10_move_60 : decode cX10_move 60 = .ok (.iconst 5, 1) := by decide +kernel
theorem dX10_move_61 : decode cX10_move 61 = .ok (.invokevirtual 51, 3) := by decide +kernel
theorem dX10_move_64 : decode cX10_move 64 = .ok (.ireturn, 1) := by decide +kernel
theorem dX10_move_65 : decode cX10_move 65 = .ok (.iload 5, 2) := by decide +kernel
theorem dX10_move_67 : decode cX10_move 67 = .ok (.ifCond .lt 39, 3) := by decide +kernel
theorem dX10_move_70 : decode cX10_move 70 = .ok (.iload_n 2, 1) := by decide +kernel
theorem dX10_move_71 : decode cX10_move 71 = .ok (.ifCond .lt 35, 3) := by decide +kernel
theorem dX10_move_74 : decode cX10_move 74 = .ok (.iload 4, 2) := by decide +kernel
theorem dX10_move_76 : decode cX10_move 76 = .ok (.ifCond .lt 30, 3) := by decide +kernel
theorem dX10_move_79 : decode cX10_move 79 = .ok (.iload_n 2, 1) := by decide +kernel
theorem dX10_move_80 : decode cX10_move 80 = .ok (.aload_n 0, 1) := by decide +kernel
theorem dX10_move_81 : decode cX10_move 81 = .ok (.getfield 37, 3) := by decide +kernel
theorem dX10_move_84 : decode cX10_move 84 = .ok (.iload_n 1, 1) := by decide +kernel
theorem dX10_move_85 : decode cX10_move 85 = .ok (.iaload, 1) := by decide +kernel
theorem dX10_move_86 : decode cX10_move 86 = .ok (.iload 5, 2) := by decide +kernel
theorem dX10_move_88 : decode cX10_move 88 = .ok (.isub, 1) := by decide +kernel
theorem dX10_move_89 : decode cX10_move 89 = .ok (.if_icmp .gt 17, 3) := by decide +kernel
theorem dX10_move_92 : decode cX10_move 92 = .ok (.iload 4, 2) := by decide +kernel
theorem dX10_move_94 : decode cX10_move 94 = .ok (.aload_n 0, 1) := by decide +kernel
theorem dX10_move_95 : decode cX10_move 95 = .ok (.getfield 37, 3) := by decide +kernel
theorem dX10_move_98 : decode cX10_move 98 = .ok (.iload_n 3, 1) := by decide +kernel
theorem dX10_move_99 : decode cX10_move 99 = .ok (.iaload, 1) := by decide +kernel
theorem dX10_move_100 : decode cX10_move 100 = .ok (.iload 5, 2) := by decide +kernel
theorem dX10_move_102 : decode cX10_move 102 = .ok (.isub, 1) := by decide +kernel
theorem dX10_move_103 : decode cX10_move 103 = .ok (.if_icmp .le 9, 3) := by decide +kernel
theorem dX10_move_106 : decode cX10_move 106 = .ok (.aload_n 0, 1) := by decide +kernel
theorem dX10_move_107 : decode cX10_move 107 = .ok (.iconst 1, 1) := by decide +kernel
theorem dX10_move_108 : decode cX10_move 108 = .ok (.invokevirtual 51, 3) := by decide +kernel
theorem dX10_move_111 : decode cX10_move 111 = .ok (.ireturn, 1) := by decide +kernel
theorem dX10_move_112 : decode cX10_move 112 = .ok (.iconst 0, 1) := by decide +kernel
theorem dX10_move_113 : decode cX10_move 113 = .ok (.istore 6, 2) := by decide +kernel
theorem dX10_move_115 : decode cX10_move 115 = .ok (.iload 6, 2) := by decide +kernel
theorem dX10_move_117 : decode cX10_move 117 = .ok (.iload 5, 2) := by decide +kernel
theorem dX10_move_119 : decode cX10_move 119 = .ok (.if_icmp .ge 30, 3) := by decide +kernel
theorem dX10_move_122 : decode cX10_move 122 = .ok (.aload_n 0, 1) := by decide +kernel
theorem dX10_move_123 : decode cX10_move 123 = .ok (.getfield 43, 3) := by decide +kernel
theorem dX10_move_126 : decode cX10_move 126 = .ok (.iload 6, 2) := by decide +kernel
theorem dX10_move_128 : decode cX10_move 128 = .ok (.aload_n 0, 1) := by decide +kernel
theorem dX10_move_129 : decode cX10_move 129 = .ok (.getfield 40, 3) := by decide +kernel
theorem dX10_move_132 : decode cX10_move 132 = .ok (.bipush 24, 2) := by decide +kernel
theorem dX10_move_134 : decode cX10_move 134 = .ok (.iload_n 1, 1) := by decide +kernel
theorem dX10_move_135 : decode cX10_move 135 = .ok (.imul, 1) := by decide +kernel
theorem dX10_move_136 : decode cX10_move 136 = .ok (.iload_n 2, 1) := by decide +kernel
theorem dX10_move_137 : decode cX10_move 137 = .ok (.iadd, 1) := by decide +kernel
theorem dX10_move_138 : decode cX10_move 138 = .ok (.iload 6, 2) := by decide +kernel
theorem dX10_move_140 : decode cX10_move 140 = .ok (.iadd, 1) := by decide +kernel
theorem dX10_move_141 : decode cX10_move 141 = .ok (.iaload, 1) := by decide +kernel
theorem dX10_move_142 : decode cX10_move 142 = .ok (.iastore, 1) := by decide +kernel
theorem dX10_move_143 : decode cX10_move 143 = .ok (.iinc 6 1, 3) := by decide +kernel
theorem dX10_move_146 : decode cX10_move 146 = .ok (.goto (-31), 3) := by decide +kernel
theorem dX10_move_149 : decode cX10_move 149 = .ok (.iconst 0, 1) := by decide +kernel
theorem dX10_move_150 : decode cX10_move 150 = .ok (.istore 6, 2) := by decide +kernel
theorem dX10_move_152 : decode cX10_move 152 = .ok (.iload 6, 2) := by decide +kernel
theorem dX10_move_154 : decode cX10_move 154 = .ok (.iload 5, 2) := by decide +kernel
theorem dX10_move_156 : decode cX10_move 156 = .ok (.if_icmp .ge 31, 3) := by decide +kernel
theorem dX10_move_159 : decode cX10_move 159 = .ok (.aload_n 0, 1) := by decide +kernel
theorem dX10_move_160 : decode cX10_move 160 = .ok (.getfield 40, 3) := by decide +kernel
theorem dX10_move_163 : decode cX10_move 163 = .ok (.bipush 24, 2) := by decide +kernel
theorem dX10_move_165 : decode cX10_move 165 = .ok (.iload_n 3, 1) := by decide +kernel
theorem dX10_move_166 : decode cX10_move 166 = .ok (.imul, 1) := by decide +kernel
theorem dX10_move_167 : decode cX10_move 167 = .ok (.iload 4, 2) := by decide +kernel
theorem dX10_move_169 : decode cX10_move 169 = .ok (.iadd, 1) := by decide +kernel
theorem dX10_move_170 : decode cX10_move 170 = .ok (.iload 6, 2) := by decide +kernel
theorem dX10_move_172 : decode cX10_move 172 = .ok (.iadd, 1) := by decide +kernel
theorem dX10_move_173 : decode cX10_move 173 = .ok (.aload_n 0, 1) := by decide +kernel
theorem dX10_move_174 : decode cX10_move 174 = .ok (.getfield 43, 3) := by decide +kernel
theorem dX10_move_177 : decode cX10_move 177 = .ok (.iload 6, 2) := by decide +kernel
theorem dX10_move_179 : decode cX10_move 179 = .ok (.iaload, 1) := by decide +kernel
theorem dX10_move_180 : decode cX10_move 180 = .ok (.iastore, 1) := by decide +kernel
theorem dX10_move_181 : decode cX10_move 181 = .ok (.iinc 6 1, 3) := by decide +kernel
theorem dX10_move_184 : decode cX10_move 184 = .ok (.goto (-32), 3) := by decide +kernel
theorem dX10_move_187 : decode cX10_move 187 = .ok (.iload 5, 2) := by decide +kernel
theorem dX10_move_189 : decode cX10_move 189 = .ok (.ireturn, 1) := by decide +kernel
theorem dX10_lacks_0 : decode cX10_lacks 0 = .ok (.iload_n 1, 1) := by decide +kernel
theorem dX10_lacks_1 : decode cX10_lacks 1 = .ok (.invokestatic 254, 3) := by decide +kernel
theorem dX10_lacks_4 : decode cX10_lacks 4 = .ok (.ifCond .ne 7, 3) := by decide +kernel
theorem dX10_lacks_7 : decode cX10_lacks 7 = .ok (.iconst 1, 1) := by decide +kernel
theorem dX10_lacks_8 : decode cX10_lacks 8 = .ok (.goto 17, 3) := by decide +kernel
theorem dX10_lacks_11 : decode cX10_lacks 11 = .ok (.aload_n 0, 1) := by decide +kernel
theorem dX10_lacks_12 : decode cX10_lacks 12 = .ok (.getfield 34, 3) := by decide +kernel
theorem dX10_lacks_15 : decode cX10_lacks 15 = .ok (.iload_n 1, 1) := by decide +kernel
theorem dX10_lacks_16 : decode cX10_lacks 16 = .ok (.iaload, 1) := by decide +kernel
theorem dX10_lacks_17 : decode cX10_lacks 17 = .ok (.ifCond .ne 7, 3) := by decide +kernel
theorem dX10_lacks_20 : decode cX10_lacks 20 = .ok (.iconst 2, 1) := by decide +kernel
theorem dX10_lacks_21 : decode cX10_lacks 21 = .ok (.goto 4, 3) := by decide +kernel
theorem dX10_lacks_24 : decode cX10_lacks 24 = .ok (.iconst 0, 1) := by decide +kernel
theorem dX10_lacks_25 : decode cX10_lacks 25 = .ok (.ireturn, 1) := by decide +kernel
theorem dX10_partsAll_0 : decode cX10_partsAll 0 = .ok (.aload_n 0, 1) := by decide +kernel
theorem dX10_partsAll_1 : decode cX10_partsAll 1 = .ok (.iload_n 1, 1) := by decide +kernel
theorem dX10_partsAll_2 : decode cX10_partsAll 2 = .ok (.invokevirtual 215, 3) := by decide +kernel
theorem dX10_partsAll_5 : decode cX10_partsAll 5 = .ok (.istore_n 2, 1) := by decide +kernel
theorem dX10_partsAll_6 : decode cX10_partsAll 6 = .ok (.iload_n 2, 1) := by decide +kernel
theorem dX10_partsAll_7 : decode cX10_partsAll 7 = .ok (.ifCond .eq 9, 3) := by decide +kernel
theorem dX10_partsAll_10 : decode cX10_partsAll 10 = .ok (.aload_n 0, 1) := by decide +kernel
theorem dX10_partsAll_11 : decode cX10_partsAll 11 = .ok (.iload_n 2, 1) := by decide +kernel
theorem dX10_partsAll_12 : decode cX10_partsAll 12 = .ok (.invokevirtual 51, 3) := by decide +kernel
theorem dX10_partsAll_15 : decode cX10_partsAll 15 = .ok (.ireturn, 1) := by decide +kernel
theorem dX10_partsAll_16 : decode cX10_partsAll 16 = .ok (.iconst 0, 1) := by decide +kernel
theorem dX10_partsAll_17 : decode cX10_partsAll 17 = .ok (.istore_n 3, 1) := by decide +kernel
theorem dX10_partsAll_18 : decode cX10_partsAll 18 = .ok (.iload_n 3, 1) := by decide +kernel
theorem dX10_partsAll_19 : decode cX10_partsAll 19 = .ok (.aload_n 0, 1) := by decide +kernel
theorem dX10_partsAll_20 : decode cX10_partsAll 20 = .ok (.getfield 37, 3) := by decide +kernel
theorem dX10_partsAll_23 : decode cX10_partsAll 23 = .ok (.iload_n 1, 1) := by decide +kernel
theorem dX10_partsAll_24 : decode cX10_partsAll 24 = .ok (.iaload, 1) := by decide +kernel
theorem dX10_partsAll_25 : decode cX10_partsAll 25 = .ok (.if_icmp .ge 54, 3) := by decide +kernel
theorem dX10_partsAll_28 : decode cX10_partsAll 28 = .ok (.aload_n 0, 1) := by decide +kernel
theorem dX10_partsAll_29 : decode cX10_partsAll 29 = .ok (.iload_n 3, 1) := by decide +kernel
theorem dX10_partsAll_30 : decode cX10_partsAll 30 = .ok (.invokevirtual 178, 3) := by decide +kernel
theorem dX10_partsAll_33 : decode cX10_partsAll 33 = .ok (.ifCond .eq 46, 3) := by decide +kernel
theorem dX10_partsAll_36 : decode cX10_partsAll 36 = .ok (.aload_n 0, 1) := by decide +kernel
theorem dX10_partsAll_37 : decode cX10_partsAll 37 = .ok (.getfield 40, 3) := by decide +kernel
theorem dX10_partsAll_40 : decode cX10_partsAll 40 = .ok (.bipush 24, 2) := by decide +kernel
theorem dX10_partsAll_42 : decode cX10_partsAll 42 = .ok (.iload_n 1, 1) := by decide +kernel
theorem dX10_partsAll_43 : decode cX10_partsAll 43 = .ok (.imul, 1) := by decide +kernel
theorem dX10_partsAll_44 : decode cX10_partsAll 44 = .ok (.iload_n 3, 1) := by decide +kernel
theorem dX10_partsAll_45 : decode cX10_partsAll 45 = .ok (.iadd, 1) := by decide +kernel
theorem dX10_partsAll_46 : decode cX10_partsAll 46 = .ok (.iaload, 1) := by decide +kernel
theorem dX10_partsAll_47 : decode cX10_partsAll 47 = .ok (.iconst 0, 1) := by decide +kernel
theorem dX10_partsAll_48 : decode cX10_partsAll 48 = .ok (.bipush 99, 2) := by decide +kernel
theorem dX10_partsAll_50 : decode cX10_partsAll 50 = .ok (.invokestatic 47, 3) := by decide +kernel
theorem dX10_partsAll_53 : decode cX10_partsAll 53 = .ok (.ifCond .eq 26, 3) := by decide +kernel
theorem dX10_partsAll_56 : decode cX10_partsAll 56 = .ok (.aload_n 0, 1) := by decide +kernel
theorem dX10_partsAll_57 : decode cX10_partsAll 57 = .ok (.iload_n 3, 1) := by decide +kernel
theorem dX10_partsAll_58 : decode cX10_partsAll 58 = .ok (.iconst 1, 1) := by decide +kernel
theorem dX10_partsAll_59 : decode cX10_partsAll 59 = .ok (.aload_n 0, 1) := by decide +kernel
theorem dX10_partsAll_60 : decode cX10_partsAll 60 = .ok (.getfield 40, 3) := by decide +kernel
theorem dX10_partsAll_63 : decode cX10_partsAll 63 = .ok (.bipush 24, 2) := by decide +kernel
theorem dX10_partsAll_65 : decode cX10_partsAll 65 = .ok (.iload_n 1, 1) := by decide +kernel
theorem dX10_partsAll_66 : decode cX10_partsAll 66 = .ok (.imul, 1) := by decide +kernel
theorem dX10_partsAll_67 : decode cX10_partsAll 67 = .ok (.iload_n 3, 1) := by decide +kernel
theorem dX10_partsAll_68 : decode cX10_partsAll 68 = .ok (.iadd, 1) := by decide +kernel
theorem dX10_partsAll_69 : decode cX10_partsAll 69 = .ok (.iaload, 1) := by decide +kernel
theorem dX10_partsAll_70 : decode cX10_partsAll 70 = .ok (.invokevirtual 145, 3) := by decide +kernel
theorem dX10_partsAll_73 : decode cX10_partsAll 73 = .ok (.iinc 3 1, 3) := by decide +kernel
theorem dX10_partsAll_76 : decode cX10_partsAll 76 = .ok (.goto (-58), 3) := by decide +kernel
theorem dX10_partsAll_79 : decode cX10_partsAll 79 = .ok (.iload_n 3, 1) := by decide +kernel
theorem dX10_partsAll_80 : decode cX10_partsAll 80 = .ok (.ireturn, 1) := by decide +kernel
theorem dX10_judge_0 : decode cX10_judge 0 = .ok (.aload_n 0, 1) := by decide +kernel
theorem dX10_judge_1 : decode cX10_judge 1 = .ok (.iload_n 1, 1) := by decide +kernel
theorem dX10_judge_2 : decode cX10_judge 2 = .ok (.invokevirtual 215, 3) := by decide +kernel
theorem dX10_judge_5 : decode cX10_judge 5 = .ok (.istore_n 2, 1) := by decide +kernel
theorem dX10_judge_6 : decode cX10_judge 6 = .ok (.iload_n 2, 1) := by decide +kernel
theorem dX10_judge_7 : decode cX10_judge 7 = .ok (.ifCond .eq 9, 3) := by decide +kernel
theorem dX10_judge_10 : decode cX10_judge 10 = .ok (.aload_n 0, 1) := by decide +kernel
theorem dX10_judge_11 : decode cX10_judge 11 = .ok (.iload_n 2, 1) := by decide +kernel
theorem dX10_judge_12 : decode cX10_judge 12 = .ok (.invokevirtual 51, 3) := by decide +kernel
theorem dX10_judge_15 : decode cX10_judge 15 = .ok (.ireturn, 1) := by decide +kernel
theorem dX10_judge_16 : decode cX10_judge 16 = .ok (.aload_n 0, 1) := by decide +kernel
theorem dX10_judge_17 : decode cX10_judge 17 = .ok (.getfield 7, 3) := by decide +kernel
theorem dX10_judge_20 : decode cX10_judge 20 = .ok (.iconst 0, 1) := by decide +kernel
theorem dX10_judge_21 : decode cX10_judge 21 = .ok (.iaload, 1) := by decide +kernel
theorem dX10_judge_22 : decode cX10_judge 22 = .ok (.istore_n 3, 1) := by decide +kernel
theorem dX10_judge_23 : decode cX10_judge 23 = .ok (.iconst 0, 1) := by decide +kernel
theorem dX10_judge_24 : decode cX10_judge 24 = .ok (.istore 4, 2) := by decide +kernel
theorem dX10_judge_26 : decode cX10_judge 26 = .ok (.iload 4, 2) := by decide +kernel
theorem dX10_judge_28 : decode cX10_judge 28 = .ok (.aload_n 0, 1) := by decide +kernel
theorem dX10_judge_29 : decode cX10_judge 29 = .ok (.getfield 37, 3) := by decide +kernel
theorem dX10_judge_32 : decode cX10_judge 32 = .ok (.iload_n 1, 1) := by decide +kernel
theorem dX10_judge_33 : decode cX10_judge 33 = .ok (.iaload, 1) := by decide +kernel
theorem dX10_judge_34 : decode cX10_judge 34 = .ok (.if_icmp .ge 38, 3) := by decide +kernel
theorem dX10_judge_37 : decode cX10_judge 37 = .ok (.aload_n 0, 1) := by decide +kernel
theorem dX10_judge_38 : decode cX10_judge 38 = .ok (.invokevirtual 149, 3) := by decide +kernel
theorem dX10_judge_41 : decode cX10_judge 41 = .ok (.aload_n 0, 1) := by decide +kernel
theorem dX10_judge_42 : decode cX10_judge 42 = .ok (.getfield 40, 3) := by decide +kernel
theorem dX10_judge_45 : decode cX10_judge 45 = .ok (.bipush 24, 2) := by decide +kernel
theorem dX10_judge_47 : decode cX10_judge 47 = .ok (.iload_n 1, 1) := by decide +kernel
theorem dX10_judge_48 : decode cX10_judge 48 = .ok (.imul, 1) := by decide +kernel
theorem dX10_judge_49 : decode cX10_judge 49 = .ok (.iload 4, 2) := by decide +kernel
theorem dX10_judge_51 : decode cX10_judge 51 = .ok (.iadd, 1) := by decide +kernel
theorem dX10_judge_52 : decode cX10_judge 52 = .ok (.iaload, 1) := by decide +kernel
theorem dX10_judge_53 : decode cX10_judge 53 = .ok (.if_icmp .ne 19, 3) := by decide +kernel
theorem dX10_judge_56 : decode cX10_judge 56 = .ok (.aload_n 0, 1) := by decide +kernel
theorem dX10_judge_57 : decode cX10_judge 57 = .ok (.getfield 7, 3) := by decide +kernel
theorem dX10_judge_60 : decode cX10_judge 60 = .ok (.iconst 0, 1) := by decide +kernel
theorem dX10_judge_61 : decode cX10_judge 61 = .ok (.dup2, 1) := by decide +kernel
theorem dX10_judge_62 : decode cX10_judge 62 = .ok (.iaload, 1) := by decide +kernel
theorem dX10_judge_63 : decode cX10_judge 63 = .ok (.iconst 1, 1) := by decide +kernel
theorem dX10_judge_64 : decode cX10_judge 64 = .ok (.iadd, 1) := by decide +kernel
theorem dX10_judge_65 : decode cX10_judge 65 = .ok (.iastore, 1) := by decide +kernel
theorem dX10_judge_66 : decode cX10_judge 66 = .ok (.iinc 4 1, 3) := by decide +kernel
theorem dX10_judge_69 : decode cX10_judge 69 = .ok (.goto (-43), 3) := by decide +kernel
theorem dX10_judge_72 : decode cX10_judge 72 = .ok (.aload_n 0, 1) := by decide +kernel
theorem dX10_judge_73 : decode cX10_judge 73 = .ok (.getfield 7, 3) := by decide +kernel
theorem dX10_judge_76 : decode cX10_judge 76 = .ok (.iconst 0, 1) := by decide +kernel
theorem dX10_judge_77 : decode cX10_judge 77 = .ok (.iload_n 3, 1) := by decide +kernel
theorem dX10_judge_78 : decode cX10_judge 78 = .ok (.iastore, 1) := by decide +kernel
theorem dX10_judge_79 : decode cX10_judge 79 = .ok (.iload 4, 2) := by decide +kernel
theorem dX10_judge_81 : decode cX10_judge 81 = .ok (.ireturn, 1) := by decide +kernel
theorem dX10_image_0 : decode cX10_image 0 = .ok (.aload_n 0, 1) := by decide +kernel
theorem dX10_image_1 : decode cX10_image 1 = .ok (.getfield 7, 3) := by decide +kernel
theorem dX10_image_4 : decode cX10_image 4 = .ok (.aload_n 0, 1) := by decide +kernel
theorem dX10_image_5 : decode cX10_image 5 = .ok (.getfield 13, 3) := by decide +kernel
theorem dX10_image_8 : decode cX10_image 8 = .ok (.invokestatic 257, 3) := by decide +kernel
theorem dX10_image_11 : decode cX10_image 11 = .ok (.aload_n 0, 1) := by decide +kernel
theorem dX10_image_12 : decode cX10_image 12 = .ok (.dup, 1) := by decide +kernel
theorem dX10_image_13 : decode cX10_image 13 = .ok (.getfield 261, 3) := by decide +kernel
theorem dX10_image_16 : decode cX10_image 16 = .ok (.iconst 1, 1) := by decide +kernel
theorem dX10_image_17 : decode cX10_image 17 = .ok (.iadd, 1) := by decide +kernel
theorem dX10_image_18 : decode cX10_image 18 = .ok (.putfield 261, 3) := by decide +kernel
theorem dX10_image_21 : decode cX10_image 21 = .ok (.aload_n 0, 1) := by decide +kernel
theorem dX10_image_22 : decode cX10_image 22 = .ok (.getfield 261, 3) := by decide +kernel
theorem dX10_image_25 : decode cX10_image 25 = .ok (.ireturn, 1) := by decide +kernel
theorem dX10_restore_0 : decode cX10_restore 0 = .ok (.aload_n 0, 1) := by decide +kernel
theorem dX10_restore_1 : decode cX10_restore 1 = .ok (.getfield 261, 3) := by decide +kernel
theorem dX10_restore_4 : decode cX10_restore 4 = .ok (.ifCond .ne 9, 3) := by decide +kernel
theorem dX10_restore_7 : decode cX10_restore 7 = .ok (.aload_n 0, 1) := by decide +kernel
theorem dX10_restore_8 : decode cX10_restore 8 = .ok (.iconst 2, 1) := by decide +kernel
theorem dX10_restore_9 : decode cX10_restore 9 = .ok (.invokevirtual 51, 3) := by decide +kernel
theorem dX10_restore_12 : decode cX10_restore 12 = .ok (.ireturn, 1) := by decide +kernel
theorem dX10_restore_13 : decode cX10_restore 13 = .ok (.aload_n 0, 1) := by decide +kernel
theorem dX10_restore_14 : decode cX10_restore 14 = .ok (.getfield 13, 3) := by decide +kernel
theorem dX10_restore_17 : decode cX10_restore 17 = .ok (.aload_n 0, 1) := by decide +kernel
theorem dX10_restore_18 : decode cX10_restore 18 = .ok (.getfield 7, 3) := by decide +kernel
theorem dX10_restore_21 : decode cX10_restore 21 = .ok (.invokestatic 257, 3) := by decide +kernel
theorem dX10_restore_24 : decode cX10_restore 24 = .ok (.aload_n 0, 1) := by decide +kernel
theorem dX10_restore_25 : decode cX10_restore 25 = .ok (.getfield 7, 3) := by decide +kernel
theorem dX10_restore_28 : decode cX10_restore 28 = .ok (.iconst 0, 1) := by decide +kernel
theorem dX10_restore_29 : decode cX10_restore 29 = .ok (.iaload, 1) := by decide +kernel
theorem dX10_restore_30 : decode cX10_restore 30 = .ok (.ireturn, 1) := by decide +kernel
theorem dX10_tell_0 : decode cX10_tell 0 = .ok (.aload_n 0, 1) := by decide +kernel
theorem dX10_tell_1 : decode cX10_tell 1 = .ok (.getfield 7, 3) := by decide +kernel
theorem dX10_tell_4 : decode cX10_tell 4 = .ok (.iconst 3, 1) := by decide +kernel
theorem dX10_tell_5 : decode cX10_tell 5 = .ok (.iaload, 1) := by decide +kernel
theorem dX10_tell_6 : decode cX10_tell 6 = .ok (.bipush 24, 2) := by decide +kernel
theorem dX10_tell_8 : decode cX10_tell 8 = .ok (.if_icmp .ne 9, 3) := by decide +kernel
theorem dX10_tell_11 : decode cX10_tell 11 = .ok (.aload_n 0, 1) := by decide +kernel
theorem dX10_tell_12 : decode cX10_tell 12 = .ok (.iconst 4, 1) := by decide +kernel
theorem dX10_tell_13 : decode cX10_tell 13 = .ok (.invokevirtual 51, 3) := by decide +kernel
theorem dX10_tell_16 : decode cX10_tell 16 = .ok (.ireturn, 1) := by decide +kernel
theorem dX10_tell_17 : decode cX10_tell 17 = .ok (.aload_n 0, 1) := by decide +kernel
theorem dX10_tell_18 : decode cX10_tell 18 = .ok (.getfield 7, 3) := by decide +kernel
theorem dX10_tell_21 : decode cX10_tell 21 = .ok (.sipush 360, 3) := by decide +kernel
theorem dX10_tell_24 : decode cX10_tell 24 = .ok (.aload_n 0, 1) := by decide +kernel
theorem dX10_tell_25 : decode cX10_tell 25 = .ok (.getfield 7, 3) := by decide +kernel
theorem dX10_tell_28 : decode cX10_tell 28 = .ok (.iconst 3, 1) := by decide +kernel
theorem dX10_tell_29 : decode cX10_tell 29 = .ok (.iaload, 1) := by decide +kernel
theorem dX10_tell_30 : decode cX10_tell 30 = .ok (.iadd, 1) := by decide +kernel
theorem dX10_tell_31 : decode cX10_tell 31 = .ok (.iload_n 1, 1) := by decide +kernel
theorem dX10_tell_32 : decode cX10_tell 32 = .ok (.iastore, 1) := by decide +kernel
theorem dX10_tell_33 : decode cX10_tell 33 = .ok (.aload_n 0, 1) := by decide +kernel
theorem dX10_tell_34 : decode cX10_tell 34 = .ok (.getfield 7, 3) := by decide +kernel
theorem dX10_tell_37 : decode cX10_tell 37 = .ok (.iconst 3, 1) := by decide +kernel
theorem dX10_tell_38 : decode cX10_tell 38 = .ok (.dup2, 1) := by decide +kernel
theorem dX10_tell_39 : decode cX10_tell 39 = .ok (.iaload, 1) := by decide +kernel
theorem dX10_tell_40 : decode cX10_tell 40 = .ok (.iconst 1, 1) := by decide +kernel
theorem dX10_tell_41 : decode cX10_tell 41 = .ok (.iadd, 1) := by decide +kernel
theorem dX10_tell_42 : decode cX10_tell 42 = .ok (.iastore, 1) := by decide +kernel
theorem dX10_tell_43 : decode cX10_tell 43 = .ok (.aload_n 0, 1) := by decide +kernel
theorem dX10_tell_44 : decode cX10_tell 44 = .ok (.getfield 7, 3) := by decide +kernel
theorem dX10_tell_47 : decode cX10_tell 47 = .ok (.iconst 3, 1) := by decide +kernel
theorem dX10_tell_48 : decode cX10_tell 48 = .ok (.iaload, 1) := by decide +kernel
theorem dX10_tell_49 : decode cX10_tell 49 = .ok (.ireturn, 1) := by decide +kernel
theorem dX10_check_0 : decode cX10_check 0 = .ok (.aload_n 0, 1) := by decide +kernel
theorem dX10_check_1 : decode cX10_check 1 = .ok (.getfield 7, 3) := by decide +kernel
theorem dX10_check_4 : decode cX10_check 4 = .ok (.iconst 3, 1) := by decide +kernel
theorem dX10_check_5 : decode cX10_check 5 = .ok (.iaload, 1) := by decide +kernel
theorem dX10_check_6 : decode cX10_check 6 = .ok (.istore_n 1, 1) := by decide +kernel
theorem dX10_check_7 : decode cX10_check 7 = .ok (.aload_n 0, 1) := by decide +kernel
theorem dX10_check_8 : decode cX10_check 8 = .ok (.getfield 7, 3) := by decide +kernel
theorem dX10_check_11 : decode cX10_check 11 = .ok (.iconst 3, 1) := by decide +kernel
theorem dX10_check_12 : decode cX10_check 12 = .ok (.iconst 0, 1) := by decide +kernel
theorem dX10_check_13 : decode cX10_check 13 = .ok (.iastore, 1) := by decide +kernel
theorem dX10_check_14 : decode cX10_check 14 = .ok (.iconst 0, 1) := by decide +kernel
theorem dX10_check_15 : decode cX10_check 15 = .ok (.istore_n 2, 1) := by decide +kernel
theorem dX10_check_16 : decode cX10_check 16 = .ok (.iload_n 2, 1) := by decide +kernel
theorem dX10_check_17 : decode cX10_check 17 = .ok (.iload_n 1, 1) := by decide +kernel
theorem dX10_check_18 : decode cX10_check 18 = .ok (.if_icmp .ge 40, 3) := by decide +kernel
theorem dX10_check_21 : decode cX10_check 21 = .ok (.aload_n 0, 1) := by decide +kernel
theorem dX10_check_22 : decode cX10_check 22 = .ok (.iload_n 2, 1) := by decide +kernel
theorem dX10_check_23 : decode cX10_check 23 = .ok (.invokevirtual 178, 3) := by decide +kernel
theorem dX10_check_26 : decode cX10_check 26 = .ok (.ifCond .eq 22, 3) := by decide +kernel
theorem dX10_check_29 : decode cX10_check 29 = .ok (.aload_n 0, 1) := by decide +kernel
theorem dX10_check_30 : decode cX10_check 30 = .ok (.getfield 7, 3) := by decide +kernel
theorem dX10_check_33 : decode cX10_check 33 = .ok (.sipush 360, 3) := by decide +kernel
theorem dX10_check_36 : decode cX10_check 36 = .ok (.iload_n 2, 1) := by decide +kernel
theorem dX10_check_37 : decode cX10_check 37 = .ok (.iadd, 1) := by decide +kernel
theorem dX10_check_38 : decode cX10_check 38 = .ok (.iaload, 1) := by decide +kernel
theorem dX10_check_39 : decode cX10_check 39 = .ok (.aload_n 0, 1) := by decide +kernel
theorem dX10_check_40 : decode cX10_check 40 = .ok (.iload_n 2, 1) := by decide +kernel
theorem dX10_check_41 : decode cX10_check 41 = .ok (.iconst 1, 1) := by decide +kernel
theorem dX10_check_42 : decode cX10_check 42 = .ok (.invokevirtual 130, 3) := by decide +kernel
theorem dX10_check_45 : decode cX10_check 45 = .ok (.if_icmp .eq 7, 3) := by decide +kernel
theorem dX10_check_48 : decode cX10_check 48 = .ok (.iconst 1, 1) := by decide +kernel
theorem dX10_check_49 : decode cX10_check 49 = .ok (.iload_n 2, 1) := by decide +kernel
theorem dX10_check_50 : decode cX10_check 50 = .ok (.iadd, 1) := by decide +kernel
theorem dX10_check_51 : decode cX10_check 51 = .ok (.ireturn, 1) := by decide +kernel
theorem dX10_check_52 : decode cX10_check 52 = .ok (.iinc 2 1, 3) := by decide +kernel
theorem dX10_check_55 : decode cX10_check 55 = .ok (.goto (-39), 3) := by decide +kernel
theorem dX10_check_58 : decode cX10_check 58 = .ok (.iconst 0, 1) := by decide +kernel
theorem dX10_check_59 : decode cX10_check 59 = .ok (.ireturn, 1) := by decide +kernel
theorem dX10_allParts_0 : decode cX10_allParts 0 = .ok (.iconst 0, 1) := by decide +kernel
theorem dX10_allParts_1 : decode cX10_allParts 1 = .ok (.istore_n 1, 1) := by decide +kernel
theorem dX10_allParts_2 : decode cX10_allParts 2 = .ok (.iconst 0, 1) := by decide +kernel
theorem dX10_allParts_3 : decode cX10_allParts 3 = .ok (.istore_n 2, 1) := by decide +kernel
theorem dX10_allParts_4 : decode cX10_allParts 4 = .ok (.iload_n 2, 1) := by decide +kernel
theorem dX10_allParts_5 : decode cX10_allParts 5 = .ok (.aload_n 0, 1) := by decide +kernel
theorem dX10_allParts_6 : decode cX10_allParts 6 = .ok (.getfield 7, 3) := by decide +kernel
theorem dX10_allParts_9 : decode cX10_allParts 9 = .ok (.iconst 5, 1) := by decide +kernel
theorem dX10_allParts_10 : decode cX10_allParts 10 = .ok (.iaload, 1) := by decide +kernel
theorem dX10_allParts_11 : decode cX10_allParts 11 = .ok (.if_icmp .ge 18, 3) := by decide +kernel
theorem dX10_allParts_14 : decode cX10_allParts 14 = .ok (.iload_n 1, 1) := by decide +kernel
theorem dX10_allParts_15 : decode cX10_allParts 15 = .ok (.aload_n 0, 1) := by decide +kernel
theorem dX10_allParts_16 : decode cX10_allParts 16 = .ok (.iload_n 2, 1) := by decide +kernel
theorem dX10_allParts_17 : decode cX10_allParts 17 = .ok (.iconst 1, 1) := by decide +kernel
theorem dX10_allParts_18 : decode cX10_allParts 18 = .ok (.invokevirtual 130, 3) := by decide +kernel
theorem dX10_allParts_21 : decode cX10_allParts 21 = .ok (.iadd, 1) := by decide +kernel
theorem dX10_allParts_22 : decode cX10_allParts 22 = .ok (.istore_n 1, 1) := by decide +kernel
theorem dX10_allParts_23 : decode cX10_allParts 23 = .ok (.iinc 2 1, 3) := by decide +kernel
theorem dX10_allParts_26 : decode cX10_allParts 26 = .ok (.goto (-22), 3) := by decide +kernel
theorem dX10_allParts_29 : decode cX10_allParts 29 = .ok (.iload_n 1, 1) := by decide +kernel
theorem dX10_allParts_30 : decode cX10_allParts 30 = .ok (.ireturn, 1) := by decide +kernel
theorem dX10_count_0 : decode cX10_count 0 = .ok (.iload_n 1, 1) := by decide +kernel
theorem dX10_count_1 : decode cX10_count 1 = .ok (.tableswitch 99 0 7 #[47, 54, 61, 68, 73, 80, 87, 92], 47) := by decide +kernel
theorem dX10_count_48 : decode cX10_count 48 = .ok (.aload_n 0, 1) := by decide +kernel
theorem dX10_count_49 : decode cX10_count 49 = .ok (.getfield 7, 3) := by decide +kernel
theorem dX10_count_52 : decode cX10_count 52 = .ok (.iconst 4, 1) := by decide +kernel
theorem dX10_count_53 : decode cX10_count 53 = .ok (.iaload, 1) := by decide +kernel
theorem dX10_count_54 : decode cX10_count 54 = .ok (.ireturn, 1) := by decide +kernel
theorem dX10_count_55 : decode cX10_count 55 = .ok (.aload_n 0, 1) := by decide +kernel
theorem dX10_count_56 : decode cX10_count 56 = .ok (.getfield 7, 3) := by decide +kernel
theorem dX10_count_59 : decode cX10_count 59 = .ok (.iconst 5, 1) := by decide +kernel
theorem dX10_count_60 : decode cX10_count 60 = .ok (.iaload, 1) := by decide +kernel
theorem dX10_count_61 : decode cX10_count 61 = .ok (.ireturn, 1) := by decide +kernel
theorem dX10_count_62 : decode cX10_count 62 = .ok (.aload_n 0, 1) := by decide +kernel
theorem dX10_count_63 : decode cX10_count 63 = .ok (.getfield 7, 3) := by decide +kernel
theorem dX10_count_66 : decode cX10_count 66 = .ok (.iconst 0, 1) := by decide +kernel
theorem dX10_count_67 : decode cX10_count 67 = .ok (.iaload, 1) := by decide +kernel
theorem dX10_count_68 : decode cX10_count 68 = .ok (.ireturn, 1) := by decide +kernel
theorem dX10_count_69 : decode cX10_count 69 = .ok (.aload_n 0, 1) := by decide +kernel
theorem dX10_count_70 : decode cX10_count 70 = .ok (.invokevirtual 264, 3) := by decide +kernel
theorem dX10_count_73 : decode cX10_count 73 = .ok (.ireturn, 1) := by decide +kernel
theorem dX10_count_74 : decode cX10_count 74 = .ok (.aload_n 0, 1) := by decide +kernel
theorem dX10_count_75 : decode cX10_count 75 = .ok (.getfield 7, 3) := by decide +kernel
theorem dX10_count_78 : decode cX10_count 78 = .ok (.iconst 2, 1) := by decide +kernel
theorem dX10_count_79 : decode cX10_count 79 = .ok (.iaload, 1) := by decide +kernel
theorem dX10_count_80 : decode cX10_count 80 = .ok (.ireturn, 1) := by decide +kernel
theorem dX10_count_81 : decode cX10_count 81 = .ok (.aload_n 0, 1) := by decide +kernel
theorem dX10_count_82 : decode cX10_count 82 = .ok (.getfield 7, 3) := by decide +kernel
theorem dX10_count_85 : decode cX10_count 85 = .ok (.iconst 3, 1) := by decide +kernel
theorem dX10_count_86 : decode cX10_count 86 = .ok (.iaload, 1) := by decide +kernel
theorem dX10_count_87 : decode cX10_count 87 = .ok (.ireturn, 1) := by decide +kernel
theorem dX10_count_88 : decode cX10_count 88 = .ok (.aload_n 0, 1) := by decide +kernel
theorem dX10_count_89 : decode cX10_count 89 = .ok (.getfield 222, 3) := by decide +kernel
theorem dX10_count_92 : decode cX10_count 92 = .ok (.ireturn, 1) := by decide +kernel
theorem dX10_count_93 : decode cX10_count 93 = .ok (.aload_n 0, 1) := by decide +kernel
theorem dX10_count_94 : decode cX10_count 94 = .ok (.getfield 7, 3) := by decide +kernel
theorem dX10_count_97 : decode cX10_count 97 = .ok (.iconst 1, 1) := by decide +kernel
theorem dX10_count_98 : decode cX10_count 98 = .ok (.iaload, 1) := by decide +kernel
theorem dX10_count_99 : decode cX10_count 99 = .ok (.ireturn, 1) := by decide +kernel
theorem dX10_count_100 : decode cX10_count 100 = .ok (.aload_n 0, 1) := by decide +kernel
theorem dX10_count_101 : decode cX10_count 101 = .ok (.iconst 1, 1) := by decide +kernel
theorem dX10_count_102 : decode cX10_count 102 = .ok (.invokevirtual 51, 3) := by decide +kernel
theorem dX10_count_105 : decode cX10_count 105 = .ok (.ireturn, 1) := by decide +kernel
theorem dX10_told_0 : decode cX10_told 0 = .ok (.iload_n 1, 1) := by decide +kernel
theorem dX10_told_1 : decode cX10_told 1 = .ok (.iconst 1, 1) := by decide +kernel
theorem dX10_told_2 : decode cX10_told 2 = .ok (.bipush 6, 2) := by decide +kernel
theorem dX10_told_4 : decode cX10_told 4 = .ok (.invokestatic 47, 3) := by decide +kernel
theorem dX10_told_7 : decode cX10_told 7 = .ok (.ifCond .eq 12, 3) := by decide +kernel
theorem dX10_told_10 : decode cX10_told 10 = .ok (.aload_n 0, 1) := by decide +kernel
theorem dX10_told_11 : decode cX10_told 11 = .ok (.getfield 19, 3) := by decide +kernel
theorem dX10_told_14 : decode cX10_told 14 = .ok (.iload_n 1, 1) := by decide +kernel
theorem dX10_told_15 : decode cX10_told 15 = .ok (.iaload, 1) := by decide +kernel
theorem dX10_told_16 : decode cX10_told 16 = .ok (.goto 8, 3) := by decide +kernel
theorem dX10_told_19 : decode cX10_told 19 = .ok (.aload_n 0, 1) := by decide +kernel
theorem dX10_told_20 : decode cX10_told 20 = .ok (.iconst 1, 1) := by decide +kernel
theorem dX10_told_21 : decode cX10_told 21 = .ok (.invokevirtual 51, 3) := by decide +kernel
theorem dX10_told_24 : decode cX10_told 24 = .ok (.ireturn, 1) := by decide +kernel
theorem dJ6_bitCount_0f7a4_0 : decode cJ6_bitCount_0f7a4 0 = .ok (.iload_n 0, 1) := by decide +kernel
theorem dJ6_bitCount_0f7a4_1 : decode cJ6_bitCount_0f7a4 1 = .ok (.iload_n 0, 1) := by decide +kernel
theorem dJ6_bitCount_0f7a4_2 : decode cJ6_bitCount_0f7a4 2 = .ok (.iconst 1, 1) := by decide +kernel
theorem dJ6_bitCount_0f7a4_3 : decode cJ6_bitCount_0f7a4 3 = .ok (.iushr, 1) := by decide +kernel
theorem dJ6_bitCount_0f7a4_4 : decode cJ6_bitCount_0f7a4 4 = .ok (.ldc_w 265, 3) := by decide +kernel
theorem dJ6_bitCount_0f7a4_7 : decode cJ6_bitCount_0f7a4 7 = .ok (.iand, 1) := by decide +kernel
theorem dJ6_bitCount_0f7a4_8 : decode cJ6_bitCount_0f7a4 8 = .ok (.isub, 1) := by decide +kernel
theorem dJ6_bitCount_0f7a4_9 : decode cJ6_bitCount_0f7a4 9 = .ok (.istore_n 0, 1) := by decide +kernel
theorem dJ6_bitCount_0f7a4_10 : decode cJ6_bitCount_0f7a4 10 = .ok (.iload_n 0, 1) := by decide +kernel
theorem dJ6_bitCount_0f7a4_11 : decode cJ6_bitCount_0f7a4 11 = .ok (.ldc_w 266, 3) := by decide +kernel
theorem dJ6_bitCount_0f7a4_14 : decode cJ6_bitCount_0f7a4 14 = .ok (.iand, 1) := by decide +kernel
theorem dJ6_bitCount_0f7a4_15 : decode cJ6_bitCount_0f7a4 15 = .ok (.iload_n 0, 1) := by decide +kernel
theorem dJ6_bitCount_0f7a4_16 : decode cJ6_bitCount_0f7a4 16 = .ok (.iconst 2, 1) := by decide +kernel
theorem dJ6_bitCount_0f7a4_17 : decode cJ6_bitCount_0f7a4 17 = .ok (.iushr, 1) := by decide +kernel
theorem dJ6_bitCount_0f7a4_18 : decode cJ6_bitCount_0f7a4 18 = .ok (.ldc_w 266, 3) := by decide +kernel
theorem dJ6_bitCount_0f7a4_21 : decode cJ6_bitCount_0f7a4 21 = .ok (.iand, 1) := by decide +kernel
theorem dJ6_bitCount_0f7a4_22 : decode cJ6_bitCount_0f7a4 22 = .ok (.iadd, 1) := by decide +kernel
theorem dJ6_bitCount_0f7a4_23 : decode cJ6_bitCount_0f7a4 23 = .ok (.istore_n 0, 1) := by decide +kernel
theorem dJ6_bitCount_0f7a4_24 : decode cJ6_bitCount_0f7a4 24 = .ok (.iload_n 0, 1) := by decide +kernel
theorem dJ6_bitCount_0f7a4_25 : decode cJ6_bitCount_0f7a4 25 = .ok (.iload_n 0, 1) := by decide +kernel
theorem dJ6_bitCount_0f7a4_26 : decode cJ6_bitCount_0f7a4 26 = .ok (.iconst 4, 1) := by decide +kernel
theorem dJ6_bitCount_0f7a4_27 : decode cJ6_bitCount_0f7a4 27 = .ok (.iushr, 1) := by decide +kernel
theorem dJ6_bitCount_0f7a4_28 : decode cJ6_bitCount_0f7a4 28 = .ok (.iadd, 1) := by decide +kernel
theorem dJ6_bitCount_0f7a4_29 : decode cJ6_bitCount_0f7a4 29 = .ok (.ldc_w 267, 3) := by decide +kernel
theorem dJ6_bitCount_0f7a4_32 : decode cJ6_bitCount_0f7a4 32 = .ok (.iand, 1) := by decide +kernel
theorem dJ6_bitCount_0f7a4_33 : decode cJ6_bitCount_0f7a4 33 = .ok (.istore_n 0, 1) := by decide +kernel
theorem dJ6_bitCount_0f7a4_34 : decode cJ6_bitCount_0f7a4 34 = .ok (.iload_n 0, 1) := by decide +kernel
theorem dJ6_bitCount_0f7a4_35 : decode cJ6_bitCount_0f7a4 35 = .ok (.iload_n 0, 1) := by decide +kernel
theorem dJ6_bitCount_0f7a4_36 : decode cJ6_bitCount_0f7a4 36 = .ok (.bipush 8, 2) := by decide +kernel
theorem dJ6_bitCount_0f7a4_38 : decode cJ6_bitCount_0f7a4 38 = .ok (.iushr, 1) := by decide +kernel
theorem dJ6_bitCount_0f7a4_39 : decode cJ6_bitCount_0f7a4 39 = .ok (.iadd, 1) := by decide +kernel
theorem dJ6_bitCount_0f7a4_40 : decode cJ6_bitCount_0f7a4 40 = .ok (.istore_n 0, 1) := by decide +kernel
end
section
theorem dJ6_bitCount_0f7a4_41 : decode cJ6_bitCount_0f7a4 41 = .ok (.iload_n 0, 1) := by decide +kernel
theorem dJ6_bitCount_0f7a4_42 : decode cJ6_bitCount_0f7a4 42 = .ok (.iload_n 0, 1) := by decide +kernel
theorem dJ6_bitCount_0f7a4_43 : decode cJ6_bitCount_0f7a4 43 = .ok (.bipush 16, 2) := by decide +kernel
theorem dJ6_bitCount_0f7a4_45 : decode cJ6_bitCount_0f7a4 45 = .ok (.iushr, 1) := by decide +kernel
theorem dJ6_bitCount_0f7a4_46 : decode cJ6_bitCount_0f7a4 46 = .ok (.iadd, 1) := by decide +kernel
theorem dJ6_bitCount_0f7a4_47 : decode cJ6_bitCount_0f7a4 47 = .ok (.istore_n 0, 1) := by decide +kernel
theorem dJ6_bitCount_0f7a4_48 : decode cJ6_bitCount_0f7a4 48 = .ok (.iload_n 0, 1) := by decide +kernel
theorem dJ6_bitCount_0f7a4_49 : decode cJ6_bitCount_0f7a4 49 = .ok (.bipush 63, 2) := by decide +kernel
theorem dJ6_bitCount_0f7a4_51 : decode cJ6_bitCount_0f7a4 51 = .ok (.iand, 1) := by decide +kernel
theorem dJ6_bitCount_0f7a4_52 : decode cJ6_bitCount_0f7a4 52 = .ok (.ireturn, 1) := by decide +kernel
theorem dJ9_max_7cf53_0 : decode cJ9_max_7cf53 0 = .ok (.iload_n 0, 1) := by decide +kernel
theorem dJ9_max_7cf53_1 : decode cJ9_max_7cf53 1 = .ok (.iload_n 1, 1) := by decide +kernel
theorem dJ9_max_7cf53_2 : decode cJ9_max_7cf53 2 = .ok (.if_icmp .lt 7, 3) := by decide +kernel
theorem dJ9_max_7cf53_5 : decode cJ9_max_7cf53 5 = .ok (.iload_n 0, 1) := by decide +kernel
theorem dJ9_max_7cf53_6 : decode cJ9_max_7cf53 6 = .ok (.goto 4, 3) := by decide +kernel
theorem dJ9_max_7cf53_9 : decode cJ9_max_7cf53 9 = .ok (.iload_n 1, 1) := by decide +kernel
theorem dJ9_max_7cf53_10 : decode cJ9_max_7cf53 10 = .ok (.ireturn, 1) := by decide +kernel
theorem dJ9_min_7cf53_0 : decode cJ9_min_7cf53 0 = .ok (.iload_n 0, 1) := by decide +kernel
theorem dJ9_min_7cf53_1 : decode cJ9_min_7cf53 1 = .ok (.iload_n 1, 1) := by decide +kernel
theorem dJ9_min_7cf53_2 : decode cJ9_min_7cf53 2 = .ok (.if_icmp .gt 7, 3) := by decide +kernel
theorem dJ9_min_7cf53_5 : decode cJ9_min_7cf53 5 = .ok (.iload_n 0, 1) := by decide +kernel
theorem dJ9_min_7cf53_6 : decode cJ9_min_7cf53 6 = .ok (.goto 4, 3) := by decide +kernel
theorem dJ9_min_7cf53_9 : decode cJ9_min_7cf53 9 = .ok (.iload_n 1, 1) := by decide +kernel
theorem dJ9_min_7cf53_10 : decode cJ9_min_7cf53 10 = .ok (.ireturn, 1) := by decide +kernel
end
section
theorem dL_law_0 : decode cL_law 0 = .ok (.new 7, 3) := by decide +kernel
theorem dL_law_3 : decode cL_law 3 = .ok (.dup, 1) := by decide +kernel
theorem dL_law_4 : decode cL_law 4 = .ok (.invokespecial 9, 3) := by decide +kernel
theorem dL_law_7 : decode cL_law 7 = .ok (.astore_n 1, 1) := by decide +kernel
theorem dL_law_8 : decode cL_law 8 = .ok (.new 10, 3) := by decide +kernel
theorem dL_law_11 : decode cL_law 11 = .ok (.dup, 1) := by decide +kernel
theorem dL_law_12 : decode cL_law 12 = .ok (.invokespecial 12, 3) := by decide +kernel
theorem dL_law_15 : decode cL_law 15 = .ok (.astore_n 2, 1) := by decide +kernel
theorem dL_law_16 : decode cL_law 16 = .ok (.iconst 0, 1) := by decide +kernel
theorem dL_law_17 : decode cL_law 17 = .ok (.istore_n 3, 1) := by decide +kernel
theorem dL_law_18 : decode cL_law 18 = .ok (.iload_n 3, 1) := by decide +kernel
theorem dL_law_19 : decode cL_law 19 = .ok (.aload_n 0, 1) := by decide +kernel
theorem dL_law_20 : decode cL_law 20 = .ok (.arraylength, 1) := by decide +kernel
theorem dL_law_21 : decode cL_law 21 = .ok (.bipush 6, 2) := by decide +kernel
theorem dL_law_23 : decode cL_law 23 = .ok (.isub, 1) := by decide +kernel
theorem dL_law_24 : decode cL_law 24 = .ok (.if_icmp .gt 1396, 3) := by decide +kernel
theorem dL_law_27 : decode cL_law 27 = .ok (.aload_n 0, 1) := by decide +kernel
theorem dL_law_28 : decode cL_law 28 = .ok (.iload_n 3, 1) := by decide +kernel
theorem dL_law_29 : decode cL_law 29 = .ok (.iaload, 1) := by decide +kernel
theorem dL_law_30 : decode cL_law 30 = .ok (.bipush 63, 2) := by decide +kernel
theorem dL_law_32 : decode cL_law 32 = .ok (.iand, 1) := by decide +kernel
theorem dL_law_33 : decode cL_law 33 = .ok (.tableswitch 1381 0 37 #[167, 210, 243, 276, 309, 352, 395, 428, 461, 474, 537, 560, 583, 636, 659, 682, 705, 728, 761, 784, 807, 840, 883, 926, 969, 1012, 1055, 1078, 1121, 1164, 1227, 1250, 1273, 1286, 1299, 1322, 1335, 1358], 167) := by decide +kernel
theorem dL_law_200 : decode cL_law 200 = .ok (.aload_n 1, 1) := by decide +kernel
theorem dL_law_201 : decode cL_law 201 = .ok (.aload_n 0, 1) := by decide +kernel
theorem dL_law_202 : decode cL_law 202 = .ok (.iload_n 3, 1) := by decide +kernel
theorem dL_law_203 : decode cL_law 203 = .ok (.iconst 1, 1) := by decide +kernel
theorem dL_law_204 : decode cL_law 204 = .ok (.iadd, 1) := by decide +kernel
theorem dL_law_205 : decode cL_law 205 = .ok (.iaload, 1) := by decide +kernel
theorem dL_law_206 : decode cL_law 206 = .ok (.aload_n 0, 1) := by decide +kernel
theorem dL_law_207 : decode cL_law 207 = .ok (.iload_n 3, 1) := by decide +kernel
theorem dL_law_208 : decode cL_law 208 = .ok (.iconst 2, 1) := by decide +kernel
theorem dL_law_209 : decode cL_law 209 = .ok (.iadd, 1) := by decide +kernel
theorem dL_law_210 : decode cL_law 210 = .ok (.iaload, 1) := by decide +kernel
theorem dL_law_211 : decode cL_law 211 = .ok (.aload_n 0, 1) := by decide +kernel
theorem dL_law_212 : decode cL_law 212 = .ok (.iload_n 3, 1) := by decide +kernel
theorem dL_law_213 : decode cL_law 213 = .ok (.iconst 3, 1) := by decide +kernel
theorem dL_law_214 : decode cL_law 214 = .ok (.iadd, 1) := by decide +kernel
theorem dL_law_215 : decode cL_law 215 = .ok (.iaload, 1) := by decide +kernel
theorem dL_law_216 : decode cL_law 216 = .ok (.invokevirtual 13, 3) := by decide +kernel
theorem dL_law_219 : decode cL_law 219 = .ok (.aload_n 2, 1) := by decide +kernel
theorem dL_law_220 : decode cL_law 220 = .ok (.aload_n 0, 1) := by decide +kernel
theorem dL_law_221 : decode cL_law 221 = .ok (.iload_n 3, 1) := by decide +kernel
theorem dL_law_222 : decode cL_law 222 = .ok (.iconst 1, 1) := by decide +kernel
theorem dL_law_223 : decode cL_law 223 = .ok (.iadd, 1) := by decide +kernel
theorem dL_law_224 : decode cL_law 224 = .ok (.iaload, 1) := by decide +kernel
theorem dL_law_225 : decode cL_law 225 = .ok (.aload_n 0, 1) := by decide +kernel
theorem dL_law_226 : decode cL_law 226 = .ok (.iload_n 3, 1) := by decide +kernel
theorem dL_law_227 : decode cL_law 227 = .ok (.iconst 2, 1) := by decide +kernel
theorem dL_law_228 : decode cL_law 228 = .ok (.iadd, 1) := by decide +kernel
theorem dL_law_229 : decode cL_law 229 = .ok (.iaload, 1) := by decide +kernel
theorem dL_law_230 : decode cL_law 230 = .ok (.aload_n 0, 1) := by decide +kernel
theorem dL_law_231 : decode cL_law 231 = .ok (.iload_n 3, 1) := by decide +kernel
theorem dL_law_232 : decode cL_law 232 = .ok (.iconst 3, 1) := by decide +kernel
theorem dL_law_233 : decode cL_law 233 = .ok (.iadd, 1) := by decide +kernel
theorem dL_law_234 : decode cL_law 234 = .ok (.iaload, 1) := by decide +kernel
theorem dL_law_235 : decode cL_law 235 = .ok (.invokevirtual 17, 3) := by decide +kernel
theorem dL_law_238 : decode cL_law 238 = .ok (.if_icmp .eq 1176, 3) := by decide +kernel
theorem dL_law_241 : decode cL_law 241 = .ok (.iconst 0, 1) := by decide +kernel
theorem dL_law_242 : decode cL_law 242 = .ok (.ireturn, 1) := by decide +kernel
theorem dL_law_243 : decode cL_law 243 = .ok (.aload_n 1, 1) := by decide +kernel
theorem dL_law_244 : decode cL_law 244 = .ok (.aload_n 0, 1) := by decide +kernel
theorem dL_law_245 : decode cL_law 245 = .ok (.iload_n 3, 1) := by decide +kernel
theorem dL_law_246 : decode cL_law 246 = .ok (.iconst 1, 1) := by decide +kernel
theorem dL_law_247 : decode cL_law 247 = .ok (.iadd, 1) := by decide +kernel
theorem dL_law_248 : decode cL_law 248 = .ok (.iaload, 1) := by decide +kernel
theorem dL_law_249 : decode cL_law 249 = .ok (.aload_n 0, 1) := by decide +kernel
theorem dL_law_250 : decode cL_law 250 = .ok (.iload_n 3, 1) := by decide +kernel
theorem dL_law_251 : decode cL_law 251 = .ok (.iconst 2, 1) := by decide +kernel
theorem dL_law_252 : decode cL_law 252 = .ok (.iadd, 1) := by decide +kernel
theorem dL_law_253 : decode cL_law 253 = .ok (.iaload, 1) := by decide +kernel
theorem dL_law_254 : decode cL_law 254 = .ok (.invokevirtual 18, 3) := by decide +kernel
theorem dL_law_257 : decode cL_law 257 = .ok (.aload_n 2, 1) := by decide +kernel
theorem dL_law_258 : decode cL_law 258 = .ok (.aload_n 0, 1) := by decide +kernel
theorem dL_law_259 : decode cL_law 259 = .ok (.iload_n 3, 1) := by decide +kernel
theorem dL_law_260 : decode cL_law 260 = .ok (.iconst 1, 1) := by decide +kernel
theorem dL_law_261 : decode cL_law 261 = .ok (.iadd, 1) := by decide +kernel
theorem dL_law_262 : decode cL_law 262 = .ok (.iaload, 1) := by decide +kernel
theorem dL_law_263 : decode cL_law 263 = .ok (.aload_n 0, 1) := by decide +kernel
theorem dL_law_264 : decode cL_law 264 = .ok (.iload_n 3, 1) := by decide +kernel
theorem dL_law_265 : decode cL_law 265 = .ok (.iconst 2, 1) := by decide +kernel
theorem dL_law_266 : decode cL_law 266 = .ok (.iadd, 1) := by decide +kernel
theorem dL_law_267 : decode cL_law 267 = .ok (.iaload, 1) := by decide +kernel
theorem dL_law_268 : decode cL_law 268 = .ok (.invokevirtual 22, 3) := by decide +kernel
theorem dL_law_271 : decode cL_law 271 = .ok (.if_icmp .eq 1143, 3) := by decide +kernel
theorem dL_law_274 : decode cL_law 274 = .ok (.iconst 0, 1) := by decide +kernel
theorem dL_law_275 : decode cL_law 275 = .ok (.ireturn, 1) := by decide +kernel
theorem dL_law_276 : decode cL_law 276 = .ok (.aload_n 1, 1) := by decide +kernel
theorem dL_law_277 : decode cL_law 277 = .ok (.aload_n 0, 1) := by decide +kernel
theorem dL_law_278 : decode cL_law 278 = .ok (.iload_n 3, 1) := by decide +kernel
theorem dL_law_279 : decode cL_law 279 = .ok (.iconst 1, 1) := by decide +kernel
theorem dL_law_280 : decode cL_law 280 = .ok (.iadd, 1) := by decide +kernel
theorem dL_law_281 : decode cL_law 281 = .ok (.iaload, 1) := by decide +kernel
theorem dL_law_282 : decode cL_law 282 = .ok (.aload_n 0, 1) := by decide +kernel
theorem dL_law_283 : decode cL_law 283 = .ok (.iload_n 3, 1) := by decide +kernel
theorem dL_law_284 : decode cL_law 284 = .ok (.iconst 2, 1) := by decide +kernel
theorem dL_law_285 : decode cL_law 285 = .ok (.iadd, 1) := by decide +kernel
theorem dL_law_286 : decode cL_law 286 = .ok (.iaload, 1) := by decide +kernel
theorem dL_law_287 : decode cL_law 287 = .ok (.invokevirtual 23, 3) := by decide +kernel
theorem dL_law_290 : decode cL_law 290 = .ok (.aload_n 2, 1) := by decide +kernel
theorem dL_law_291 : decode cL_law 291 = .ok (.aload_n 0, 1) := by decide +kernel
theorem dL_law_292 : decode cL_law 292 = .ok (.iload_n 3, 1) := by decide +kernel
theorem dL_law_293 : decode cL_law 293 = .ok (.iconst 1, 1) := by decide +kernel
theorem dL_law_294 : decode cL_law 294 = .ok (.iadd, 1) := by decide +kernel
theorem dL_law_295 : decode cL_law 295 = .ok (.iaload, 1) := by decide +kernel
theorem dL_law_296 : decode cL_law 296 = .ok (.aload_n 0, 1) := by decide +kernel
theorem dL_law_297 : decode cL_law 297 = .ok (.iload_n 3, 1) := by decide +kernel
theorem dL_law_298 : decode cL_law 298 = .ok (.iconst 2, 1) := by decide +kernel
theorem dL_law_299 : decode cL_law 299 = .ok (.iadd, 1) := by decide +kernel
theorem dL_law_300 : decode cL_law 300 = .ok (.iaload, 1) := by decide +kernel
theorem dL_law_301 : decode cL_law 301 = .ok (.invokevirtual 26, 3) := by decide +kernel
theorem dL_law_304 : decode cL_law 304 = .ok (.if_icmp .eq 1110, 3) := by decide +kernel
theorem dL_law_307 : decode cL_law 307 = .ok (.iconst 0, 1) := by decide +kernel
theorem dL_law_308 : decode cL_law 308 = .ok (.ireturn, 1) := by decide +kernel
theorem dL_law_309 : decode cL_law 309 = .ok (.aload_n 1, 1) := by decide +kernel
theorem dL_law_310 : decode cL_law 310 = .ok (.aload_n 0, 1) := by decide +kernel
theorem dL_law_311 : decode cL_law 311 = .ok (.iload_n 3, 1) := by decide +kernel
theorem dL_law_312 : decode cL_law 312 = .ok (.iconst 1, 1) := by decide +kernel
theorem dL_law_313 : decode cL_law 313 = .ok (.iadd, 1) := by decide +kernel
theorem dL_law_314 : decode cL_law 314 = .ok (.iaload, 1) := by decide +kernel
theorem dL_law_315 : decode cL_law 315 = .ok (.aload_n 0, 1) := by decide +kernel
theorem dL_law_316 : decode cL_law 316 = .ok (.iload_n 3, 1) := by decide +kernel
theorem dL_law_317 : decode cL_law 317 = .ok (.iconst 2, 1) := by decide +kernel
theorem dL_law_318 : decode cL_law 318 = .ok (.iadd, 1) := by decide +kernel
theorem dL_law_319 : decode cL_law 319 = .ok (.iaload, 1) := by decide +kernel
theorem dL_law_320 : decode cL_law 320 = .ok (.invokevirtual 27, 3) := by decide +kernel
theorem dL_law_323 : decode cL_law 323 = .ok (.aload_n 2, 1) := by decide +kernel
theorem dL_law_324 : decode cL_law 324 = .ok (.aload_n 0, 1) := by decide +kernel
theorem dL_law_325 : decode cL_law 325 = .ok (.iload_n 3, 1) := by decide +kernel
theorem dL_law_326 : decode cL_law 326 = .ok (.iconst 1, 1) := by decide +kernel
theorem dL_law_327 : decode cL_law 327 = .ok (.iadd, 1) := by decide +kernel
theorem dL_law_328 : decode cL_law 328 = .ok (.iaload, 1) := by decide +kernel
theorem dL_law_329 : decode cL_law 329 = .ok (.aload_n 0, 1) := by decide +kernel
theorem dL_law_330 : decode cL_law 330 = .ok (.iload_n 3, 1) := by decide +kernel
theorem dL_law_331 : decode cL_law 331 = .ok (.iconst 2, 1) := by decide +kernel
theorem dL_law_332 : decode cL_law 332 = .ok (.iadd, 1) := by decide +kernel
theorem dL_law_333 : decode cL_law 333 = .ok (.iaload, 1) := by decide +kernel
theorem dL_law_334 : decode cL_law 334 = .ok (.invokevirtual 30, 3) := by decide +kernel
theorem dL_law_337 : decode cL_law 337 = .ok (.if_icmp .eq 1077, 3) := by decide +kernel
theorem dL_law_340 : decode cL_law 340 = .ok (.iconst 0, 1) := by decide +kernel
theorem dL_law_341 : decode cL_law 341 = .ok (.ireturn, 1) := by decide +kernel
theorem dL_law_342 : decode cL_law 342 = .ok (.aload_n 1, 1) := by decide +kernel
theorem dL_law_343 : decode cL_law 343 = .ok (.aload_n 0, 1) := by decide +kernel
theorem dL_law_344 : decode cL_law 344 = .ok (.iload_n 3, 1) := by decide +kernel
theorem dL_law_345 : decode cL_law 345 = .ok (.iconst 1, 1) := by decide +kernel
theorem dL_law_346 : decode cL_law 346 = .ok (.iadd, 1) := by decide +kernel
theorem dL_law_347 : decode cL_law 347 = .ok (.iaload, 1) := by decide +kernel
theorem dL_law_348 : decode cL_law 348 = .ok (.aload_n 0, 1) := by decide +kernel
theorem dL_law_349 : decode cL_law 349 = .ok (.iload_n 3, 1) := by decide +kernel
theorem dL_law_350 : decode cL_law 350 = .ok (.iconst 2, 1) := by decide +kernel
theorem dL_law_351 : decode cL_law 351 = .ok (.iadd, 1) := by decide +kernel
theorem dL_law_352 : decode cL_law 352 = .ok (.iaload, 1) := by decide +kernel
theorem dL_law_353 : decode cL_law 353 = .ok (.aload_n 0, 1) := by decide +kernel
theorem dL_law_354 : decode cL_law 354 = .ok (.iload_n 3, 1) := by decide +kernel
theorem dL_law_355 : decode cL_law 355 = .ok (.iconst 3, 1) := by decide +kernel
theorem dL_law_356 : decode cL_law 356 = .ok (.iadd, 1) := by decide +kernel
theorem dL_law_357 : decode cL_law 357 = .ok (.iaload, 1) := by decide +kernel
theorem dL_law_358 : decode cL_law 358 = .ok (.invokevirtual 31, 3) := by decide +kernel
theorem dL_law_361 : decode cL_law 361 = .ok (.aload_n 2, 1) := by decide +kernel
theorem dL_law_362 : decode cL_law 362 = .ok (.aload_n 0, 1) := by decide +kernel
theorem dL_law_363 : decode cL_law 363 = .ok (.iload_n 3, 1) := by decide +kernel
theorem dL_law_364 : decode cL_law 364 = .ok (.iconst 1, 1) := by decide +kernel
theorem dL_law_365 : decode cL_law 365 = .ok (.iadd, 1) := by decide +kernel
theorem dL_law_366 : decode cL_law 366 = .ok (.iaload, 1) := by decide +kernel
theorem dL_law_367 : decode cL_law 367 = .ok (.aload_n 0, 1) := by decide +kernel
theorem dL_law_368 : decode cL_law 368 = .ok (.iload_n 3, 1) := by decide +kernel
theorem dL_law_369 : decode cL_law 369 = .ok (.iconst 2, 1) := by decide +kernel
theorem dL_law_370 : decode cL_law 370 = .ok (.iadd, 1) := by decide +kernel
theorem dL_law_371 : decode cL_law 371 = .ok (.iaload, 1) := by decide +kernel
theorem dL_law_372 : decode cL_law 372 = .ok (.aload_n 0, 1) := by decide +kernel
theorem dL_law_373 : decode cL_law 373 = .ok (.iload_n 3, 1) := by decide +kernel
theorem dL_law_374 : decode cL_law 374 = .ok (.iconst 3, 1) := by decide +kernel
theorem dL_law_375 : decode cL_law 375 = .ok (.iadd, 1) := by decide +kernel
theorem dL_law_376 : decode cL_law 376 = .ok (.iaload, 1) := by decide +kernel
theorem dL_law_377 : decode cL_law 377 = .ok (.invokevirtual 34, 3) := by decide +kernel
theorem dL_law_380 : decode cL_law 380 = .ok (.if_icmp .eq 1034, 3) := by decide +kernel
theorem dL_law_383 : decode cL_law 383 = .ok (.iconst 0, 1) := by decide +kernel
theorem dL_law_384 : decode cL_law 384 = .ok (.ireturn, 1) := by decide +kernel
theorem dL_law_385 : decode cL_law 385 = .ok (.aload_n 1, 1) := by decide +kernel
theorem dL_law_386 : decode cL_law 386 = .ok (.aload_n 0, 1) := by decide +kernel
theorem dL_law_387 : decode cL_law 387 = .ok (.iload_n 3, 1) := by decide +kernel
theorem dL_law_388 : decode cL_law 388 = .ok (.iconst 1, 1) := by decide +kernel
theorem dL_law_389 : decode cL_law 389 = .ok (.iadd, 1) := by decide +kernel
theorem dL_law_390 : decode cL_law 390 = .ok (.iaload, 1) := by decide +kernel
theorem dL_law_391 : decode cL_law 391 = .ok (.aload_n 0, 1) := by decide +kernel
theorem dL_law_392 : decode cL_law 392 = .ok (.iload_n 3, 1) := by decide +kernel
theorem dL_law_393 : decode cL_law 393 = .ok (.iconst 2, 1) := by decide +kernel
theorem dL_law_394 : decode cL_law 394 = .ok (.iadd, 1) := by decide +kernel
theorem dL_law_395 : decode cL_law 395 = .ok (.iaload, 1) := by decide +kernel
theorem dL_law_396 : decode cL_law 396 = .ok (.aload_n 0, 1) := by decide +kernel
theorem dL_law_397 : decode cL_law 397 = .ok (.iload_n 3, 1) := by decide +kernel
theorem dL_law_398 : decode cL_law 398 = .ok (.iconst 3, 1) := by decide +kernel
theorem dL_law_399 : decode cL_law 399 = .ok (.iadd, 1) := by decide +kernel
theorem dL_law_400 : decode cL_law 400 = .ok (.iaload, 1) := by decide +kernel
theorem dL_law_401 : decode cL_law 401 = .ok (.invokevirtual 35, 3) := by decide +kernel
theorem dL_law_404 : decode cL_law 404 = .ok (.aload_n 2, 1) := by decide +kernel
theorem dL_law_405 : decode cL_law 405 = .ok (.aload_n 0, 1) := by decide +kernel
theorem dL_law_406 : decode cL_law 406 = .ok (.iload_n 3, 1) := by decide +kernel
theorem dL_law_407 : decode cL_law 407 = .ok (.iconst 1, 1) := by decide +kernel
theorem dL_law_408 : decode cL_law 408 = .ok (.iadd, 1) := by decide +kernel
theorem dL_law_409 : decode cL_law 409 = .ok (.iaload, 1) := by decide +kernel
theorem dL_law_410 : decode cL_law 410 = .ok (.aload_n 0, 1) := by decide +kernel
theorem dL_law_411 : decode cL_law 411 = .ok (.iload_n 3, 1) := by decide +kernel
theorem dL_law_412 : decode cL_law 412 = .ok (.iconst 2, 1) := by decide +kernel
theorem dL_law_413 : decode cL_law 413 = .ok (.iadd, 1) := by decide +kernel
theorem dL_law_414 : decode cL_law 414 = .ok (.iaload, 1) := by decide +kernel
theorem dL_law_415 : decode cL_law 415 = .ok (.aload_n 0, 1) := by decide +kernel
theorem dL_law_416 : decode cL_law 416 = .ok (.iload_n 3, 1) := by decide +kernel
theorem dL_law_417 : decode cL_law 417 = .ok (.iconst 3, 1) := by decide +kernel
theorem dL_law_418 : decode cL_law 418 = .ok (.iadd, 1) := by decide +kernel
theorem dL_law_419 : decode cL_law 419 = .ok (.iaload, 1) := by decide +kernel
theorem dL_law_420 : decode cL_law 420 = .ok (.invokevirtual 38, 3) := by decide +kernel
theorem dL_law_423 : decode cL_law 423 = .ok (.if_icmp .eq 991, 3) := by decide +kernel
theorem dL_law_426 : decode cL_law 426 = .ok (.iconst 0, 1) := by decide +kernel
theorem dL_law_427 : decode cL_law 427 = .ok (.ireturn, 1) := by decide +kernel
theorem dL_law_428 : decode cL_law 428 = .ok (.aload_n 1, 1) := by decide +kernel
theorem dL_law_429 : decode cL_law 429 = .ok (.aload_n 0, 1) := by decide +kernel
theorem dL_law_430 : decode cL_law 430 = .ok (.iload_n 3, 1) := by decide +kernel
theorem dL_law_431 : decode cL_law 431 = .ok (.iconst 1, 1) := by decide +kernel
theorem dL_law_432 : decode cL_law 432 = .ok (.iadd, 1) := by decide +kernel
theorem dL_law_433 : decode cL_law 433 = .ok (.iaload, 1) := by decide +kernel
theorem dL_law_434 : decode cL_law 434 = .ok (.aload_n 0, 1) := by decide +kernel
theorem dL_law_435 : decode cL_law 435 = .ok (.iload_n 3, 1) := by decide +kernel
theorem dL_law_436 : decode cL_law 436 = .ok (.iconst 2, 1) := by decide +kernel
theorem dL_law_437 : decode cL_law 437 = .ok (.iadd, 1) := by decide +kernel
theorem dL_law_438 : decode cL_law 438 = .ok (.iaload, 1) := by decide +kernel
theorem dL_law_439 : decode cL_law 439 = .ok (.invokevirtual 39, 3) := by decide +kernel
theorem dL_law_442 : decode cL_law 442 = .ok (.aload_n 2, 1) := by decide +kernel
theorem dL_law_443 : decode cL_law 443 = .ok (.aload_n 0, 1) := by decide +kernel
theorem dL_law_444 : decode cL_law 444 = .ok (.iload_n 3, 1) := by decide +kernel
theorem dL_law_445 : decode cL_law 445 = .ok (.iconst 1, 1) := by decide +kernel
theorem dL_law_446 : decode cL_law 446 = .ok (.iadd, 1) := by decide +kernel
theorem dL_law_447 : decode cL_law 447 = .ok (.iaload, 1) := by decide +kernel
theorem dL_law_448 : decode cL_law 448 = .ok (.aload_n 0, 1) := by decide +kernel
theorem dL_law_449 : decode cL_law 449 = .ok (.iload_n 3, 1) := by decide +kernel
theorem dL_law_450 : decode cL_law 450 = .ok (.iconst 2, 1) := by decide +kernel
theorem dL_law_451 : decode cL_law 451 = .ok (.iadd, 1) := by decide +kernel
theorem dL_law_452 : decode cL_law 452 = .ok (.iaload, 1) := by decide +kernel
theorem dL_law_453 : decode cL_law 453 = .ok (.invokevirtual 42, 3) := by decide +kernel
theorem dL_law_456 : decode cL_law 456 = .ok (.if_icmp .eq 958, 3) := by decide +kernel
theorem dL_law_459 : decode cL_law 459 = .ok (.iconst 0, 1) := by decide +kernel
theorem dL_law_460 : decode cL_law 460 = .ok (.ireturn, 1) := by decide +kernel
theorem dL_law_461 : decode cL_law 461 = .ok (.aload_n 1, 1) := by decide +kernel
theorem dL_law_462 : decode cL_law 462 = .ok (.aload_n 0, 1) := by decide +kernel
theorem dL_law_463 : decode cL_law 463 = .ok (.iload_n 3, 1) := by decide +kernel
theorem dL_law_464 : decode cL_law 464 = .ok (.iconst 1, 1) := by decide +kernel
theorem dL_law_465 : decode cL_law 465 = .ok (.iadd, 1) := by decide +kernel
theorem dL_law_466 : decode cL_law 466 = .ok (.iaload, 1) := by decide +kernel
theorem dL_law_467 : decode cL_law 467 = .ok (.aload_n 0, 1) := by decide +kernel
theorem dL_law_468 : decode cL_law 468 = .ok (.iload_n 3, 1) := by decide +kernel
theorem dL_law_469 : decode cL_law 469 = .ok (.iconst 2, 1) := by decide +kernel
theorem dL_law_470 : decode cL_law 470 = .ok (.iadd, 1) := by decide +kernel
theorem dL_law_471 : decode cL_law 471 = .ok (.iaload, 1) := by decide +kernel
theorem dL_law_472 : decode cL_law 472 = .ok (.invokevirtual 43, 3) := by decide +kernel
theorem dL_law_475 : decode cL_law 475 = .ok (.aload_n 2, 1) := by decide +kernel
theorem dL_law_476 : decode cL_law 476 = .ok (.aload_n 0, 1) := by decide +kernel
theorem dL_law_477 : decode cL_law 477 = .ok (.iload_n 3, 1) := by decide +kernel
theorem dL_law_478 : decode cL_law 478 = .ok (.iconst 1, 1) := by decide +kernel
theorem dL_law_479 : decode cL_law 479 = .ok (.iadd, 1) := by decide +kernel
theorem dL_law_480 : decode cL_law 480 = .ok (.iaload, 1) := by decide +kernel
theorem dL_law_481 : decode cL_law 481 = .ok (.aload_n 0, 1) := by decide +kernel
theorem dL_law_482 : decode cL_law 482 = .ok (.iload_n 3, 1) := by decide +kernel
theorem dL_law_483 : decode cL_law 483 = .ok (.iconst 2, 1) := by decide +kernel
theorem dL_law_484 : decode cL_law 484 = .ok (.iadd, 1) := by decide +kernel
theorem dL_law_485 : decode cL_law 485 = .ok (.iaload, 1) := by decide +kernel
theorem dL_law_486 : decode cL_law 486 = .ok (.invokevirtual 46, 3) := by decide +kernel
theorem dL_law_489 : decode cL_law 489 = .ok (.if_icmp .eq 925, 3) := by decide +kernel
theorem dL_law_492 : decode cL_law 492 = .ok (.iconst 0, 1) := by decide +kernel
theorem dL_law_493 : decode cL_law 493 = .ok (.ireturn, 1) := by decide +kernel
theorem dL_law_494 : decode cL_law 494 = .ok (.aload_n 1, 1) := by decide +kernel
theorem dL_law_495 : decode cL_law 495 = .ok (.invokevirtual 47, 3) := by decide +kernel
theorem dL_law_498 : decode cL_law 498 = .ok (.aload_n 2, 1) := by decide +kernel
theorem dL_law_499 : decode cL_law 499 = .ok (.invokevirtual 51, 3) := by decide +kernel
theorem dL_law_502 : decode cL_law 502 = .ok (.if_icmp .eq 912, 3) := by decide +kernel
theorem dL_law_505 : decode cL_law 505 = .ok (.iconst 0, 1) := by decide +kernel
theorem dL_law_506 : decode cL_law 506 = .ok (.ireturn, 1) := by decide +kernel
theorem dL_law_507 : decode cL_law 507 = .ok (.aload_n 1, 1) := by decide +kernel
theorem dL_law_508 : decode cL_law 508 = .ok (.aload_n 0, 1) := by decide +kernel
theorem dL_law_509 : decode cL_law 509 = .ok (.iload_n 3, 1) := by decide +kernel
theorem dL_law_510 : decode cL_law 510 = .ok (.iconst 1, 1) := by decide +kernel
theorem dL_law_511 : decode cL_law 511 = .ok (.iadd, 1) := by decide +kernel
theorem dL_law_512 : decode cL_law 512 = .ok (.iaload, 1) := by decide +kernel
theorem dL_law_513 : decode cL_law 513 = .ok (.i2l, 1) := by decide +kernel
theorem dL_law_514 : decode cL_law 514 = .ok (.bipush 32, 2) := by decide +kernel
theorem dL_law_516 : decode cL_law 516 = .ok (.lshl, 1) := by decide +kernel
theorem dL_law_517 : decode cL_law 517 = .ok (.aload_n 0, 1) := by decide +kernel
theorem dL_law_518 : decode cL_law 518 = .ok (.iload_n 3, 1) := by decide +kernel
theorem dL_law_519 : decode cL_law 519 = .ok (.iconst 2, 1) := by decide +kernel
theorem dL_law_520 : decode cL_law 520 = .ok (.iadd, 1) := by decide +kernel
theorem dL_law_521 : decode cL_law 521 = .ok (.iaload, 1) := by decide +kernel
theorem dL_law_522 : decode cL_law 522 = .ok (.i2l, 1) := by decide +kernel
theorem dL_law_523 : decode cL_law 523 = .ok (.ldc2_w 52, 3) := by decide +kernel
theorem dL_law_526 : decode cL_law 526 = .ok (.land, 1) := by decide +kernel
theorem dL_law_527 : decode cL_law 527 = .ok (.lor, 1) := by decide +kernel
theorem dL_law_528 : decode cL_law 528 = .ok (.aload_n 0, 1) := by decide +kernel
theorem dL_law_529 : decode cL_law 529 = .ok (.iload_n 3, 1) := by decide +kernel
theorem dL_law_530 : decode cL_law 530 = .ok (.iconst 3, 1) := by decide +kernel
theorem dL_law_531 : decode cL_law 531 = .ok (.iadd, 1) := by decide +kernel
theorem dL_law_532 : decode cL_law 532 = .ok (.iaload, 1) := by decide +kernel
theorem dL_law_533 : decode cL_law 533 = .ok (.invokevirtual 54, 3) := by decide +kernel
theorem dL_law_536 : decode cL_law 536 = .ok (.aload_n 2, 1) := by decide +kernel
theorem dL_law_537 : decode cL_law 537 = .ok (.aload_n 0, 1) := by decide +kernel
theorem dL_law_538 : decode cL_law 538 = .ok (.iload_n 3, 1) := by decide +kernel
theorem dL_law_539 : decode cL_law 539 = .ok (.iconst 1, 1) := by decide +kernel
theorem dL_law_540 : decode cL_law 540 = .ok (.iadd, 1) := by decide +kernel
theorem dL_law_541 : decode cL_law 541 = .ok (.iaload, 1) := by decide +kernel
theorem dL_law_542 : decode cL_law 542 = .ok (.i2l, 1) := by decide +kernel
theorem dL_law_543 : decode cL_law 543 = .ok (.bipush 32, 2) := by decide +kernel
theorem dL_law_545 : decode cL_law 545 = .ok (.lshl, 1) := by decide +kernel
theorem dL_law_546 : decode cL_law 546 = .ok (.aload_n 0, 1) := by decide +kernel
theorem dL_law_547 : decode cL_law 547 = .ok (.iload_n 3, 1) := by decide +kernel
theorem dL_law_548 : decode cL_law 548 = .ok (.iconst 2, 1) := by decide +kernel
theorem dL_law_549 : decode cL_law 549 = .ok (.iadd, 1) := by decide +kernel
theorem dL_law_550 : decode cL_law 550 = .ok (.iaload, 1) := by decide +kernel
theorem dL_law_551 : decode cL_law 551 = .ok (.i2l, 1) := by decide +kernel
theorem dL_law_552 : decode cL_law 552 = .ok (.ldc2_w 52, 3) := by decide +kernel
theorem dL_law_555 : decode cL_law 555 = .ok (.land, 1) := by decide +kernel
theorem dL_law_556 : decode cL_law 556 = .ok (.lor, 1) := by decide +kernel
theorem dL_law_557 : decode cL_law 557 = .ok (.aload_n 0, 1) := by decide +kernel
theorem dL_law_558 : decode cL_law 558 = .ok (.iload_n 3, 1) := by decide +kernel
theorem dL_law_559 : decode cL_law 559 = .ok (.iconst 3, 1) := by decide +kernel
theorem dL_law_560 : decode cL_law 560 = .ok (.iadd, 1) := by decide +kernel
theorem dL_law_561 : decode cL_law 561 = .ok (.iaload, 1) := by decide +kernel
theorem dL_law_562 : decode cL_law 562 = .ok (.invokevirtual 58, 3) := by decide +kernel
theorem dL_law_565 : decode cL_law 565 = .ok (.if_icmp .eq 849, 3) := by decide +kernel
theorem dL_law_568 : decode cL_law 568 = .ok (.iconst 0, 1) := by decide +kernel
theorem dL_law_569 : decode cL_law 569 = .ok (.ireturn, 1) := by decide +kernel
theorem dL_law_570 : decode cL_law 570 = .ok (.aload_n 1, 1) := by decide +kernel
theorem dL_law_571 : decode cL_law 571 = .ok (.aload_n 0, 1) := by decide +kernel
theorem dL_law_572 : decode cL_law 572 = .ok (.iload_n 3, 1) := by decide +kernel
theorem dL_law_573 : decode cL_law 573 = .ok (.iconst 1, 1) := by decide +kernel
theorem dL_law_574 : decode cL_law 574 = .ok (.iadd, 1) := by decide +kernel
theorem dL_law_575 : decode cL_law 575 = .ok (.iaload, 1) := by decide +kernel
theorem dL_law_576 : decode cL_law 576 = .ok (.invokevirtual 59, 3) := by decide +kernel
theorem dL_law_579 : decode cL_law 579 = .ok (.aload_n 2, 1) := by decide +kernel
theorem dL_law_580 : decode cL_law 580 = .ok (.aload_n 0, 1) := by decide +kernel
theorem dL_law_581 : decode cL_law 581 = .ok (.iload_n 3, 1) := by decide +kernel
theorem dL_law_582 : decode cL_law 582 = .ok (.iconst 1, 1) := by decide +kernel
theorem dL_law_583 : decode cL_law 583 = .ok (.iadd, 1) := by decide +kernel
theorem dL_law_584 : decode cL_law 584 = .ok (.iaload, 1) := by decide +kernel
theorem dL_law_585 : decode cL_law 585 = .ok (.invokevirtual 63, 3) := by decide +kernel
theorem dL_law_588 : decode cL_law 588 = .ok (.if_icmp .eq 826, 3) := by decide +kernel
theorem dL_law_591 : decode cL_law 591 = .ok (.iconst 0, 1) := by decide +kernel
theorem dL_law_592 : decode cL_law 592 = .ok (.ireturn, 1) := by decide +kernel
theorem dL_law_593 : decode cL_law 593 = .ok (.aload_n 1, 1) := by decide +kernel
theorem dL_law_594 : decode cL_law 594 = .ok (.aload_n 0, 1) := by decide +kernel
theorem dL_law_595 : decode cL_law 595 = .ok (.iload_n 3, 1) := by decide +kernel
theorem dL_law_596 : decode cL_law 596 = .ok (.iconst 1, 1) := by decide +kernel
theorem dL_law_597 : decode cL_law 597 = .ok (.iadd, 1) := by decide +kernel
theorem dL_law_598 : decode cL_law 598 = .ok (.iaload, 1) := by decide +kernel
theorem dL_law_599 : decode cL_law 599 = .ok (.invokevirtual 64, 3) := by decide +kernel
theorem dL_law_602 : decode cL_law 602 = .ok (.aload_n 2, 1) := by decide +kernel
theorem dL_law_603 : decode cL_law 603 = .ok (.aload_n 0, 1) := by decide +kernel
theorem dL_law_604 : decode cL_law 604 = .ok (.iload_n 3, 1) := by decide +kernel
theorem dL_law_605 : decode cL_law 605 = .ok (.iconst 1, 1) := by decide +kernel
theorem dL_law_606 : decode cL_law 606 = .ok (.iadd, 1) := by decide +kernel
theorem dL_law_607 : decode cL_law 607 = .ok (.iaload, 1) := by decide +kernel
theorem dL_law_608 : decode cL_law 608 = .ok (.invokevirtual 67, 3) := by decide +kernel
theorem dL_law_611 : decode cL_law 611 = .ok (.if_icmp .eq 803, 3) := by decide +kernel
theorem dL_law_614 : decode cL_law 614 = .ok (.iconst 0, 1) := by decide +kernel
theorem dL_law_615 : decode cL_law 615 = .ok (.ireturn, 1) := by decide +kernel
theorem dL_law_616 : decode cL_law 616 = .ok (.aload_n 1, 1) := by decide +kernel
theorem dL_law_617 : decode cL_law 617 = .ok (.aload_n 0, 1) := by decide +kernel
theorem dL_law_618 : decode cL_law 618 = .ok (.iload_n 3, 1) := by decide +kernel
theorem dL_law_619 : decode cL_law 619 = .ok (.iconst 1, 1) := by decide +kernel
theorem dL_law_620 : decode cL_law 620 = .ok (.iadd, 1) := by decide +kernel
theorem dL_law_621 : decode cL_law 621 = .ok (.iaload, 1) := by decide +kernel
theorem dL_law_622 : decode cL_law 622 = .ok (.aload_n 0, 1) := by decide +kernel
theorem dL_law_623 : decode cL_law 623 = .ok (.iload_n 3, 1) := by decide +kernel
theorem dL_law_624 : decode cL_law 624 = .ok (.iconst 2, 1) := by decide +kernel
theorem dL_law_625 : decode cL_law 625 = .ok (.iadd, 1) := by decide +kernel
theorem dL_law_626 : decode cL_law 626 = .ok (.iaload, 1) := by decide +kernel
theorem dL_law_627 : decode cL_law 627 = .ok (.aload_n 0, 1) := by decide +kernel
theorem dL_law_628 : decode cL_law 628 = .ok (.iload_n 3, 1) := by decide +kernel
theorem dL_law_629 : decode cL_law 629 = .ok (.iconst 3, 1) := by decide +kernel
theorem dL_law_630 : decode cL_law 630 = .ok (.iadd, 1) := by decide +kernel
theorem dL_law_631 : decode cL_law 631 = .ok (.iaload, 1) := by decide +kernel
theorem dL_law_632 : decode cL_law 632 = .ok (.aload_n 0, 1) := by decide +kernel
theorem dL_law_633 : decode cL_law 633 = .ok (.iload_n 3, 1) := by decide +kernel
theorem dL_law_634 : decode cL_law 634 = .ok (.iconst 4, 1) := by decide +kernel
theorem dL_law_635 : decode cL_law 635 = .ok (.iadd, 1) := by decide +kernel
theorem dL_law_636 : decode cL_law 636 = .ok (.iaload, 1) := by decide +kernel
theorem dL_law_637 : decode cL_law 637 = .ok (.invokevirtual 68, 3) := by decide +kernel
theorem dL_law_640 : decode cL_law 640 = .ok (.aload_n 2, 1) := by decide +kernel
theorem dL_law_641 : decode cL_law 641 = .ok (.aload_n 0, 1) := by decide +kernel
theorem dL_law_642 : decode cL_law 642 = .ok (.iload_n 3, 1) := by decide +kernel
theorem dL_law_643 : decode cL_law 643 = .ok (.iconst 1, 1) := by decide +kernel
theorem dL_law_644 : decode cL_law 644 = .ok (.iadd, 1) := by decide +kernel
theorem dL_law_645 : decode cL_law 645 = .ok (.iaload, 1) := by decide +kernel
theorem dL_law_646 : decode cL_law 646 = .ok (.aload_n 0, 1) := by decide +kernel
theorem dL_law_647 : decode cL_law 647 = .ok (.iload_n 3, 1) := by decide +kernel
theorem dL_law_648 : decode cL_law 648 = .ok (.iconst 2, 1) := by decide +kernel
theorem dL_law_649 : decode cL_law 649 = .ok (.iadd, 1) := by decide +kernel
theorem dL_law_650 : decode cL_law 650 = .ok (.iaload, 1) := by decide +kernel
theorem dL_law_651 : decode cL_law 651 = .ok (.aload_n 0, 1) := by decide +kernel
theorem dL_law_652 : decode cL_law 652 = .ok (.iload_n 3, 1) := by decide +kernel
theorem dL_law_653 : decode cL_law 653 = .ok (.iconst 3, 1) := by decide +kernel
theorem dL_law_654 : decode cL_law 654 = .ok (.iadd, 1) := by decide +kernel
theorem dL_law_655 : decode cL_law 655 = .ok (.iaload, 1) := by decide +kernel
theorem dL_law_656 : decode cL_law 656 = .ok (.aload_n 0, 1) := by decide +kernel
theorem dL_law_657 : decode cL_law 657 = .ok (.iload_n 3, 1) := by decide +kernel
theorem dL_law_658 : decode cL_law 658 = .ok (.iconst 4, 1) := by decide +kernel
theorem dL_law_659 : decode cL_law 659 = .ok (.iadd, 1) := by decide +kernel
theorem dL_law_660 : decode cL_law 660 = .ok (.iaload, 1) := by decide +kernel
theorem dL_law_661 : decode cL_law 661 = .ok (.invokevirtual 72, 3) := by decide +kernel
theorem dL_law_664 : decode cL_law 664 = .ok (.if_icmp .eq 750, 3) := by decide +kernel
theorem dL_law_667 : decode cL_law 667 = .ok (.iconst 0, 1) := by decide +kernel
theorem dL_law_668 : decode cL_law 668 = .ok (.ireturn, 1) := by decide +kernel
theorem dL_law_669 : decode cL_law 669 = .ok (.aload_n 1, 1) := by decide +kernel
theorem dL_law_670 : decode cL_law 670 = .ok (.aload_n 0, 1) := by decide +kernel
theorem dL_law_671 : decode cL_law 671 = .ok (.iload_n 3, 1) := by decide +kernel
theorem dL_law_672 : decode cL_law 672 = .ok (.iconst 1, 1) := by decide +kernel
theorem dL_law_673 : decode cL_law 673 = .ok (.iadd, 1) := by decide +kernel
theorem dL_law_674 : decode cL_law 674 = .ok (.iaload, 1) := by decide +kernel
theorem dL_law_675 : decode cL_law 675 = .ok (.invokevirtual 73, 3) := by decide +kernel
theorem dL_law_678 : decode cL_law 678 = .ok (.aload_n 2, 1) := by decide +kernel
theorem dL_law_679 : decode cL_law 679 = .ok (.aload_n 0, 1) := by decide +kernel
theorem dL_law_680 : decode cL_law 680 = .ok (.iload_n 3, 1) := by decide +kernel
theorem dL_law_681 : decode cL_law 681 = .ok (.iconst 1, 1) := by decide +kernel
theorem dL_law_682 : decode cL_law 682 = .ok (.iadd, 1) := by decide +kernel
theorem dL_law_683 : decode cL_law 683 = .ok (.iaload, 1) := by decide +kernel
theorem dL_law_684 : decode cL_law 684 = .ok (.invokevirtual 76, 3) := by decide +kernel
theorem dL_law_687 : decode cL_law 687 = .ok (.if_icmp .eq 727, 3) := by decide +kernel
theorem dL_law_690 : decode cL_law 690 = .ok (.iconst 0, 1) := by decide +kernel
theorem dL_law_691 : decode cL_law 691 = .ok (.ireturn, 1) := by decide +kernel
theorem dL_law_692 : decode cL_law 692 = .ok (.aload_n 1, 1) := by decide +kernel
theorem dL_law_693 : decode cL_law 693 = .ok (.aload_n 0, 1) := by decide +kernel
theorem dL_law_694 : decode cL_law 694 = .ok (.iload_n 3, 1) := by decide +kernel
theorem dL_law_695 : decode cL_law 695 = .ok (.iconst 1, 1) := by decide +kernel
theorem dL_law_696 : decode cL_law 696 = .ok (.iadd, 1) := by decide +kernel
theorem dL_law_697 : decode cL_law 697 = .ok (.iaload, 1) := by decide +kernel
theorem dL_law_698 : decode cL_law 698 = .ok (.invokevirtual 77, 3) := by decide +kernel
theorem dL_law_701 : decode cL_law 701 = .ok (.aload_n 2, 1) := by decide +kernel
theorem dL_law_702 : decode cL_law 702 = .ok (.aload_n 0, 1) := by decide +kernel
theorem dL_law_703 : decode cL_law 703 = .ok (.iload_n 3, 1) := by decide +kernel
theorem dL_law_704 : decode cL_law 704 = .ok (.iconst 1, 1) := by decide +kernel
theorem dL_law_705 : decode cL_law 705 = .ok (.iadd, 1) := by decide +kernel
theorem dL_law_706 : decode cL_law 706 = .ok (.iaload, 1) := by decide +kernel
theorem dL_law_707 : decode cL_law 707 = .ok (.invokevirtual 80, 3) := by decide +kernel
theorem dL_law_710 : decode cL_law 710 = .ok (.if_icmp .eq 704, 3) := by decide +kernel
theorem dL_law_713 : decode cL_law 713 = .ok (.iconst 0, 1) := by decide +kernel
theorem dL_law_714 : decode cL_law 714 = .ok (.ireturn, 1) := by decide +kernel
theorem dL_law_715 : decode cL_law 715 = .ok (.aload_n 1, 1) := by decide +kernel
theorem dL_law_716 : decode cL_law 716 = .ok (.aload_n 0, 1) := by decide +kernel
theorem dL_law_717 : decode cL_law 717 = .ok (.iload_n 3, 1) := by decide +kernel
theorem dL_law_718 : decode cL_law 718 = .ok (.iconst 1, 1) := by decide +kernel
theorem dL_law_719 : decode cL_law 719 = .ok (.iadd, 1) := by decide +kernel
theorem dL_law_720 : decode cL_law 720 = .ok (.iaload, 1) := by decide +kernel
theorem dL_law_721 : decode cL_law 721 = .ok (.invokevirtual 81, 3) := by decide +kernel
theorem dL_law_724 : decode cL_law 724 = .ok (.aload_n 2, 1) := by decide +kernel
theorem dL_law_725 : decode cL_law 725 = .ok (.aload_n 0, 1) := by decide +kernel
theorem dL_law_726 : decode cL_law 726 = .ok (.iload_n 3, 1) := by decide +kernel
theorem dL_law_727 : decode cL_law 727 = .ok (.iconst 1, 1) := by decide +kernel
theorem dL_law_728 : decode cL_law 728 = .ok (.iadd, 1) := by decide +kernel
theorem dL_law_729 : decode cL_law 729 = .ok (.iaload, 1) := by decide +kernel
theorem dL_law_730 : decode cL_law 730 = .ok (.invokevirtual 84, 3) := by decide +kernel
theorem dL_law_733 : decode cL_law 733 = .ok (.if_icmp .eq 681, 3) := by decide +kernel
theorem dL_law_736 : decode cL_law 736 = .ok (.iconst 0, 1) := by decide +kernel
theorem dL_law_737 : decode cL_law 737 = .ok (.ireturn, 1) := by decide +kernel
theorem dL_law_738 : decode cL_law 738 = .ok (.aload_n 1, 1) := by decide +kernel
theorem dL_law_739 : decode cL_law 739 = .ok (.aload_n 0, 1) := by decide +kernel
theorem dL_law_740 : decode cL_law 740 = .ok (.iload_n 3, 1) := by decide +kernel
theorem dL_law_741 : decode cL_law 741 = .ok (.iconst 1, 1) := by decide +kernel
theorem dL_law_742 : decode cL_law 742 = .ok (.iadd, 1) := by decide +kernel
theorem dL_law_743 : decode cL_law 743 = .ok (.iaload, 1) := by decide +kernel
theorem dL_law_744 : decode cL_law 744 = .ok (.invokevirtual 85, 3) := by decide +kernel
theorem dL_law_747 : decode cL_law 747 = .ok (.aload_n 2, 1) := by decide +kernel
theorem dL_law_748 : decode cL_law 748 = .ok (.aload_n 0, 1) := by decide +kernel
theorem dL_law_749 : decode cL_law 749 = .ok (.iload_n 3, 1) := by decide +kernel
theorem dL_law_750 : decode cL_law 750 = .ok (.iconst 1, 1) := by decide +kernel
theorem dL_law_751 : decode cL_law 751 = .ok (.iadd, 1) := by decide +kernel
theorem dL_law_752 : decode cL_law 752 = .ok (.iaload, 1) := by decide +kernel
theorem dL_law_753 : decode cL_law 753 = .ok (.invokevirtual 88, 3) := by decide +kernel
theorem dL_law_756 : decode cL_law 756 = .ok (.if_icmp .eq 658, 3) := by decide +kernel
theorem dL_law_759 : decode cL_law 759 = .ok (.iconst 0, 1) := by decide +kernel
theorem dL_law_760 : decode cL_law 760 = .ok (.ireturn, 1) := by decide +kernel
theorem dL_law_761 : decode cL_law 761 = .ok (.aload_n 1, 1) := by decide +kernel
theorem dL_law_762 : decode cL_law 762 = .ok (.aload_n 0, 1) := by decide +kernel
theorem dL_law_763 : decode cL_law 763 = .ok (.iload_n 3, 1) := by decide +kernel
theorem dL_law_764 : decode cL_law 764 = .ok (.iconst 1, 1) := by decide +kernel
theorem dL_law_765 : decode cL_law 765 = .ok (.iadd, 1) := by decide +kernel
theorem dL_law_766 : decode cL_law 766 = .ok (.iaload, 1) := by decide +kernel
theorem dL_law_767 : decode cL_law 767 = .ok (.aload_n 0, 1) := by decide +kernel
theorem dL_law_768 : decode cL_law 768 = .ok (.iload_n 3, 1) := by decide +kernel
theorem dL_law_769 : decode cL_law 769 = .ok (.iconst 2, 1) := by decide +kernel
theorem dL_law_770 : decode cL_law 770 = .ok (.iadd, 1) := by decide +kernel
theorem dL_law_771 : decode cL_law 771 = .ok (.iaload, 1) := by decide +kernel
theorem dL_law_772 : decode cL_law 772 = .ok (.invokevirtual 89, 3) := by decide +kernel
theorem dL_law_775 : decode cL_law 775 = .ok (.aload_n 2, 1) := by decide +kernel
theorem dL_law_776 : decode cL_law 776 = .ok (.aload_n 0, 1) := by decide +kernel
theorem dL_law_777 : decode cL_law 777 = .ok (.iload_n 3, 1) := by decide +kernel
theorem dL_law_778 : decode cL_law 778 = .ok (.iconst 1, 1) := by decide +kernel
theorem dL_law_779 : decode cL_law 779 = .ok (.iadd, 1) := by decide +kernel
theorem dL_law_780 : decode cL_law 780 = .ok (.iaload, 1) := by decide +kernel
theorem dL_law_781 : decode cL_law 781 = .ok (.aload_n 0, 1) := by decide +kernel
theorem dL_law_782 : decode cL_law 782 = .ok (.iload_n 3, 1) := by decide +kernel
theorem dL_law_783 : decode cL_law 783 = .ok (.iconst 2, 1) := by decide +kernel
theorem dL_law_784 : decode cL_law 784 = .ok (.iadd, 1) := by decide +kernel
theorem dL_law_785 : decode cL_law 785 = .ok (.iaload, 1) := by decide +kernel
theorem dL_law_786 : decode cL_law 786 = .ok (.invokevirtual 92, 3) := by decide +kernel
theorem dL_law_789 : decode cL_law 789 = .ok (.if_icmp .eq 625, 3) := by decide +kernel
theorem dL_law_792 : decode cL_law 792 = .ok (.iconst 0, 1) := by decide +kernel
theorem dL_law_793 : decode cL_law 793 = .ok (.ireturn, 1) := by decide +kernel
theorem dL_law_794 : decode cL_law 794 = .ok (.aload_n 1, 1) := by decide +kernel
theorem dL_law_795 : decode cL_law 795 = .ok (.aload_n 0, 1) := by decide +kernel
theorem dL_law_796 : decode cL_law 796 = .ok (.iload_n 3, 1) := by decide +kernel
theorem dL_law_797 : decode cL_law 797 = .ok (.iconst 1, 1) := by decide +kernel
theorem dL_law_798 : decode cL_law 798 = .ok (.iadd, 1) := by decide +kernel
theorem dL_law_799 : decode cL_law 799 = .ok (.iaload, 1) := by decide +kernel
theorem dL_law_800 : decode cL_law 800 = .ok (.invokevirtual 93, 3) := by decide +kernel
theorem dL_law_803 : decode cL_law 803 = .ok (.aload_n 2, 1) := by decide +kernel
theorem dL_law_804 : decode cL_law 804 = .ok (.aload_n 0, 1) := by decide +kernel
theorem dL_law_805 : decode cL_law 805 = .ok (.iload_n 3, 1) := by decide +kernel
theorem dL_law_806 : decode cL_law 806 = .ok (.iconst 1, 1) := by decide +kernel
theorem dL_law_807 : decode cL_law 807 = .ok (.iadd, 1) := by decide +kernel
theorem dL_law_808 : decode cL_law 808 = .ok (.iaload, 1) := by decide +kernel
theorem dL_law_809 : decode cL_law 809 = .ok (.invokevirtual 96, 3) := by decide +kernel
theorem dL_law_812 : decode cL_law 812 = .ok (.if_icmp .eq 602, 3) := by decide +kernel
theorem dL_law_815 : decode cL_law 815 = .ok (.iconst 0, 1) := by decide +kernel
theorem dL_law_816 : decode cL_law 816 = .ok (.ireturn, 1) := by decide +kernel
theorem dL_law_817 : decode cL_law 817 = .ok (.aload_n 1, 1) := by decide +kernel
theorem dL_law_818 : decode cL_law 818 = .ok (.aload_n 0, 1) := by decide +kernel
theorem dL_law_819 : decode cL_law 819 = .ok (.iload_n 3, 1) := by decide +kernel
theorem dL_law_820 : decode cL_law 820 = .ok (.iconst 1, 1) := by decide +kernel
theorem dL_law_821 : decode cL_law 821 = .ok (.iadd, 1) := by decide +kernel
theorem dL_law_822 : decode cL_law 822 = .ok (.iaload, 1) := by decide +kernel
theorem dL_law_823 : decode cL_law 823 = .ok (.invokevirtual 97, 3) := by decide +kernel
theorem dL_law_826 : decode cL_law 826 = .ok (.aload_n 2, 1) := by decide +kernel
theorem dL_law_827 : decode cL_law 827 = .ok (.aload_n 0, 1) := by decide +kernel
theorem dL_law_828 : decode cL_law 828 = .ok (.iload_n 3, 1) := by decide +kernel
theorem dL_law_829 : decode cL_law 829 = .ok (.iconst 1, 1) := by decide +kernel
theorem dL_law_830 : decode cL_law 830 = .ok (.iadd, 1) := by decide +kernel
theorem dL_law_831 : decode cL_law 831 = .ok (.iaload, 1) := by decide +kernel
theorem dL_law_832 : decode cL_law 832 = .ok (.invokevirtual 100, 3) := by decide +kernel
theorem dL_law_835 : decode cL_law 835 = .ok (.if_icmp .eq 579, 3) := by decide +kernel
theorem dL_law_838 : decode cL_law 838 = .ok (.iconst 0, 1) := by decide +kernel
theorem dL_law_839 : decode cL_law 839 = .ok (.ireturn, 1) := by decide +kernel
theorem dL_law_840 : decode cL_law 840 = .ok (.aload_n 1, 1) := by decide +kernel
theorem dL_law_841 : decode cL_law 841 = .ok (.aload_n 0, 1) := by decide +kernel
theorem dL_law_842 : decode cL_law 842 = .ok (.iload_n 3, 1) := by decide +kernel
theorem dL_law_843 : decode cL_law 843 = .ok (.iconst 1, 1) := by decide +kernel
theorem dL_law_844 : decode cL_law 844 = .ok (.iadd, 1) := by decide +kernel
theorem dL_law_845 : decode cL_law 845 = .ok (.iaload, 1) := by decide +kernel
theorem dL_law_846 : decode cL_law 846 = .ok (.aload_n 0, 1) := by decide +kernel
theorem dL_law_847 : decode cL_law 847 = .ok (.iload_n 3, 1) := by decide +kernel
theorem dL_law_848 : decode cL_law 848 = .ok (.iconst 2, 1) := by decide +kernel
theorem dL_law_849 : decode cL_law 849 = .ok (.iadd, 1) := by decide +kernel
theorem dL_law_850 : decode cL_law 850 = .ok (.iaload, 1) := by decide +kernel
theorem dL_law_851 : decode cL_law 851 = .ok (.invokevirtual 101, 3) := by decide +kernel
theorem dL_law_854 : decode cL_law 854 = .ok (.aload_n 2, 1) := by decide +kernel
theorem dL_law_855 : decode cL_law 855 = .ok (.aload_n 0, 1) := by decide +kernel
theorem dL_law_856 : decode cL_law 856 = .ok (.iload_n 3, 1) := by decide +kernel
theorem dL_law_857 : decode cL_law 857 = .ok (.iconst 1, 1) := by decide +kernel
theorem dL_law_858 : decode cL_law 858 = .ok (.iadd, 1) := by decide +kernel
theorem dL_law_859 : decode cL_law 859 = .ok (.iaload, 1) := by decide +kernel
theorem dL_law_860 : decode cL_law 860 = .ok (.aload_n 0, 1) := by decide +kernel
theorem dL_law_861 : decode cL_law 861 = .ok (.iload_n 3, 1) := by decide +kernel
theorem dL_law_862 : decode cL_law 862 = .ok (.iconst 2, 1) := by decide +kernel
theorem dL_law_863 : decode cL_law 863 = .ok (.iadd, 1) := by decide +kernel
theorem dL_law_864 : decode cL_law 864 = .ok (.iaload, 1) := by decide +kernel
theorem dL_law_865 : decode cL_law 865 = .ok (.invokevirtual 104, 3) := by decide +kernel
theorem dL_law_868 : decode cL_law 868 = .ok (.if_icmp .eq 546, 3) := by decide +kernel
theorem dL_law_871 : decode cL_law 871 = .ok (.iconst 0, 1) := by decide +kernel
theorem dL_law_872 : decode cL_law 872 = .ok (.ireturn, 1) := by decide +kernel
theorem dL_law_873 : decode cL_law 873 = .ok (.aload_n 1, 1) := by decide +kernel
theorem dL_law_874 : decode cL_law 874 = .ok (.aload_n 0, 1) := by decide +kernel
theorem dL_law_875 : decode cL_law 875 = .ok (.iload_n 3, 1) := by decide +kernel
theorem dL_law_876 : decode cL_law 876 = .ok (.iconst 1, 1) := by decide +kernel
theorem dL_law_877 : decode cL_law 877 = .ok (.iadd, 1) := by decide +kernel
theorem dL_law_878 : decode cL_law 878 = .ok (.iaload, 1) := by decide +kernel
theorem dL_law_879 : decode cL_law 879 = .ok (.aload_n 0, 1) := by decide +kernel
theorem dL_law_880 : decode cL_law 880 = .ok (.iload_n 3, 1) := by decide +kernel
theorem dL_law_881 : decode cL_law 881 = .ok (.iconst 2, 1) := by decide +kernel
theorem dL_law_882 : decode cL_law 882 = .ok (.iadd, 1) := by decide +kernel
theorem dL_law_883 : decode cL_law 883 = .ok (.iaload, 1) := by decide +kernel
theorem dL_law_884 : decode cL_law 884 = .ok (.aload_n 0, 1) := by decide +kernel
theorem dL_law_885 : decode cL_law 885 = .ok (.iload_n 3, 1) := by decide +kernel
theorem dL_law_886 : decode cL_law 886 = .ok (.iconst 3, 1) := by decide +kernel
theorem dL_law_887 : decode cL_law 887 = .ok (.iadd, 1) := by decide +kernel
theorem dL_law_888 : decode cL_law 888 = .ok (.iaload, 1) := by decide +kernel
theorem dL_law_889 : decode cL_law 889 = .ok (.invokevirtual 105, 3) := by decide +kernel
theorem dL_law_892 : decode cL_law 892 = .ok (.aload_n 2, 1) := by decide +kernel
theorem dL_law_893 : decode cL_law 893 = .ok (.aload_n 0, 1) := by decide +kernel
theorem dL_law_894 : decode cL_law 894 = .ok (.iload_n 3, 1) := by decide +kernel
theorem dL_law_895 : decode cL_law 895 = .ok (.iconst 1, 1) := by decide +kernel
theorem dL_law_896 : decode cL_law 896 = .ok (.iadd, 1) := by decide +kernel
theorem dL_law_897 : decode cL_law 897 = .ok (.iaload, 1) := by decide +kernel
theorem dL_law_898 : decode cL_law 898 = .ok (.aload_n 0, 1) := by decide +kernel
theorem dL_law_899 : decode cL_law 899 = .ok (.iload_n 3, 1) := by decide +kernel
theorem dL_law_900 : decode cL_law 900 = .ok (.iconst 2, 1) := by decide +kernel
theorem dL_law_901 : decode cL_law 901 = .ok (.iadd, 1) := by decide +kernel
theorem dL_law_902 : decode cL_law 902 = .ok (.iaload, 1) := by decide +kernel
theorem dL_law_903 : decode cL_law 903 = .ok (.aload_n 0, 1) := by decide +kernel
theorem dL_law_904 : decode cL_law 904 = .ok (.iload_n 3, 1) := by decide +kernel
theorem dL_law_905 : decode cL_law 905 = .ok (.iconst 3, 1) := by decide +kernel
theorem dL_law_906 : decode cL_law 906 = .ok (.iadd, 1) := by decide +kernel
theorem dL_law_907 : decode cL_law 907 = .ok (.iaload, 1) := by decide +kernel
theorem dL_law_908 : decode cL_law 908 = .ok (.invokevirtual 108, 3) := by decide +kernel
theorem dL_law_911 : decode cL_law 911 = .ok (.if_icmp .eq 503, 3) := by decide +kernel
theorem dL_law_914 : decode cL_law 914 = .ok (.iconst 0, 1) := by decide +kernel
theorem dL_law_915 : decode cL_law 915 = .ok (.ireturn, 1) := by decide +kernel
theorem dL_law_916 : decode cL_law 916 = .ok (.aload_n 1, 1) := by decide +kernel
theorem dL_law_917 : decode cL_law 917 = .ok (.aload_n 0, 1) := by decide +kernel
theorem dL_law_918 : decode cL_law 918 = .ok (.iload_n 3, 1) := by decide +kernel
theorem dL_law_919 : decode cL_law 919 = .ok (.iconst 1, 1) := by decide +kernel
theorem dL_law_920 : decode cL_law 920 = .ok (.iadd, 1) := by decide +kernel
theorem dL_law_921 : decode cL_law 921 = .ok (.iaload, 1) := by decide +kernel
theorem dL_law_922 : decode cL_law 922 = .ok (.aload_n 0, 1) := by decide +kernel
theorem dL_law_923 : decode cL_law 923 = .ok (.iload_n 3, 1) := by decide +kernel
theorem dL_law_924 : decode cL_law 924 = .ok (.iconst 2, 1) := by decide +kernel
theorem dL_law_925 : decode cL_law 925 = .ok (.iadd, 1) := by decide +kernel
theorem dL_law_926 : decode cL_law 926 = .ok (.iaload, 1) := by decide +kernel
theorem dL_law_927 : decode cL_law 927 = .ok (.aload_n 0, 1) := by decide +kernel
theorem dL_law_928 : decode cL_law 928 = .ok (.iload_n 3, 1) := by decide +kernel
theorem dL_law_929 : decode cL_law 929 = .ok (.iconst 3, 1) := by decide +kernel
theorem dL_law_930 : decode cL_law 930 = .ok (.iadd, 1) := by decide +kernel
theorem dL_law_931 : decode cL_law 931 = .ok (.iaload, 1) := by decide +kernel
theorem dL_law_932 : decode cL_law 932 = .ok (.invokevirtual 109, 3) := by decide +kernel
theorem dL_law_935 : decode cL_law 935 = .ok (.aload_n 2, 1) := by decide +kernel
theorem dL_law_936 : decode cL_law 936 = .ok (.aload_n 0, 1) := by decide +kernel
theorem dL_law_937 : decode cL_law 937 = .ok (.iload_n 3, 1) := by decide +kernel
theorem dL_law_938 : decode cL_law 938 = .ok (.iconst 1, 1) := by decide +kernel
theorem dL_law_939 : decode cL_law 939 = .ok (.iadd, 1) := by decide +kernel
theorem dL_law_940 : decode cL_law 940 = .ok (.iaload, 1) := by decide +kernel
theorem dL_law_941 : decode cL_law 941 = .ok (.aload_n 0, 1) := by decide +kernel
theorem dL_law_942 : decode cL_law 942 = .ok (.iload_n 3, 1) := by decide +kernel
theorem dL_law_943 : decode cL_law 943 = .ok (.iconst 2, 1) := by decide +kernel
theorem dL_law_944 : decode cL_law 944 = .ok (.iadd, 1) := by decide +kernel
theorem dL_law_945 : decode cL_law 945 = .ok (.iaload, 1) := by decide +kernel
theorem dL_law_946 : decode cL_law 946 = .ok (.aload_n 0, 1) := by decide +kernel
theorem dL_law_947 : decode cL_law 947 = .ok (.iload_n 3, 1) := by decide +kernel
theorem dL_law_948 : decode cL_law 948 = .ok (.iconst 3, 1) := by decide +kernel
theorem dL_law_949 : decode cL_law 949 = .ok (.iadd, 1) := by decide +kernel
theorem dL_law_950 : decode cL_law 950 = .ok (.iaload, 1) := by decide +kernel
theorem dL_law_951 : decode cL_law 951 = .ok (.invokevirtual 112, 3) := by decide +kernel
theorem dL_law_954 : decode cL_law 954 = .ok (.if_icmp .eq 460, 3) := by decide +kernel
theorem dL_law_957 : decode cL_law 957 = .ok (.iconst 0, 1) := by decide +kernel
theorem dL_law_958 : decode cL_law 958 = .ok (.ireturn, 1) := by decide +kernel
theorem dL_law_959 : decode cL_law 959 = .ok (.aload_n 1, 1) := by decide +kernel
theorem dL_law_960 : decode cL_law 960 = .ok (.aload_n 0, 1) := by decide +kernel
theorem dL_law_961 : decode cL_law 961 = .ok (.iload_n 3, 1) := by decide +kernel
theorem dL_law_962 : decode cL_law 962 = .ok (.iconst 1, 1) := by decide +kernel
theorem dL_law_963 : decode cL_law 963 = .ok (.iadd, 1) := by decide +kernel
theorem dL_law_964 : decode cL_law 964 = .ok (.iaload, 1) := by decide +kernel
theorem dL_law_965 : decode cL_law 965 = .ok (.aload_n 0, 1) := by decide +kernel
theorem dL_law_966 : decode cL_law 966 = .ok (.iload_n 3, 1) := by decide +kernel
theorem dL_law_967 : decode cL_law 967 = .ok (.iconst 2, 1) := by decide +kernel
theorem dL_law_968 : decode cL_law 968 = .ok (.iadd, 1) := by decide +kernel
theorem dL_law_969 : decode cL_law 969 = .ok (.iaload, 1) := by decide +kernel
theorem dL_law_970 : decode cL_law 970 = .ok (.aload_n 0, 1) := by decide +kernel
theorem dL_law_971 : decode cL_law 971 = .ok (.iload_n 3, 1) := by decide +kernel
theorem dL_law_972 : decode cL_law 972 = .ok (.iconst 3, 1) := by decide +kernel
theorem dL_law_973 : decode cL_law 973 = .ok (.iadd, 1) := by decide +kernel
theorem dL_law_974 : decode cL_law 974 = .ok (.iaload, 1) := by decide +kernel
theorem dL_law_975 : decode cL_law 975 = .ok (.invokevirtual 113, 3) := by decide +kernel
theorem dL_law_978 : decode cL_law 978 = .ok (.aload_n 2, 1) := by decide +kernel
theorem dL_law_979 : decode cL_law 979 = .ok (.aload_n 0, 1) := by decide +kernel
theorem dL_law_980 : decode cL_law 980 = .ok (.iload_n 3, 1) := by decide +kernel
theorem dL_law_981 : decode cL_law 981 = .ok (.iconst 1, 1) := by decide +kernel
theorem dL_law_982 : decode cL_law 982 = .ok (.iadd, 1) := by decide +kernel
theorem dL_law_983 : decode cL_law 983 = .ok (.iaload, 1) := by decide +kernel
theorem dL_law_984 : decode cL_law 984 = .ok (.aload_n 0, 1) := by decide +kernel
theorem dL_law_985 : decode cL_law 985 = .ok (.iload_n 3, 1) := by decide +kernel
theorem dL_law_986 : decode cL_law 986 = .ok (.iconst 2, 1) := by decide +kernel
theorem dL_law_987 : decode cL_law 987 = .ok (.iadd, 1) := by decide +kernel
theorem dL_law_988 : decode cL_law 988 = .ok (.iaload, 1) := by decide +kernel
theorem dL_law_989 : decode cL_law 989 = .ok (.aload_n 0, 1) := by decide +kernel
theorem dL_law_990 : decode cL_law 990 = .ok (.iload_n 3, 1) := by decide +kernel
theorem dL_law_991 : decode cL_law 991 = .ok (.iconst 3, 1) := by decide +kernel
theorem dL_law_992 : decode cL_law 992 = .ok (.iadd, 1) := by decide +kernel
theorem dL_law_993 : decode cL_law 993 = .ok (.iaload, 1) := by decide +kernel
theorem dL_law_994 : decode cL_law 994 = .ok (.invokevirtual 116, 3) := by decide +kernel
theorem dL_law_997 : decode cL_law 997 = .ok (.if_icmp .eq 417, 3) := by decide +kernel
theorem dL_law_1000 : decode cL_law 1000 = .ok (.iconst 0, 1) := by decide +kernel
theorem dL_law_1001 : decode cL_law 1001 = .ok (.ireturn, 1) := by decide +kernel
theorem dL_law_1002 : decode cL_law 1002 = .ok (.aload_n 1, 1) := by decide +kernel
theorem dL_law_1003 : decode cL_law 1003 = .ok (.aload_n 0, 1) := by decide +kernel
theorem dL_law_1004 : decode cL_law 1004 = .ok (.iload_n 3, 1) := by decide +kernel
theorem dL_law_1005 : decode cL_law 1005 = .ok (.iconst 1, 1) := by decide +kernel
theorem dL_law_1006 : decode cL_law 1006 = .ok (.iadd, 1) := by decide +kernel
theorem dL_law_1007 : decode cL_law 1007 = .ok (.iaload, 1) := by decide +kernel
theorem dL_law_1008 : decode cL_law 1008 = .ok (.aload_n 0, 1) := by decide +kernel
theorem dL_law_1009 : decode cL_law 1009 = .ok (.iload_n 3, 1) := by decide +kernel
theorem dL_law_1010 : decode cL_law 1010 = .ok (.iconst 2, 1) := by decide +kernel
theorem dL_law_1011 : decode cL_law 1011 = .ok (.iadd, 1) := by decide +kernel
theorem dL_law_1012 : decode cL_law 1012 = .ok (.iaload, 1) := by decide +kernel
theorem dL_law_1013 : decode cL_law 1013 = .ok (.aload_n 0, 1) := by decide +kernel
theorem dL_law_1014 : decode cL_law 1014 = .ok (.iload_n 3, 1) := by decide +kernel
theorem dL_law_1015 : decode cL_law 1015 = .ok (.iconst 3, 1) := by decide +kernel
theorem dL_law_1016 : decode cL_law 1016 = .ok (.iadd, 1) := by decide +kernel
theorem dL_law_1017 : decode cL_law 1017 = .ok (.iaload, 1) := by decide +kernel
theorem dL_law_1018 : decode cL_law 1018 = .ok (.invokevirtual 117, 3) := by decide +kernel
theorem dL_law_1021 : decode cL_law 1021 = .ok (.aload_n 2, 1) := by decide +kernel
theorem dL_law_1022 : decode cL_law 1022 = .ok (.aload_n 0, 1) := by decide +kernel
theorem dL_law_1023 : decode cL_law 1023 = .ok (.iload_n 3, 1) := by decide +kernel
theorem dL_law_1024 : decode cL_law 1024 = .ok (.iconst 1, 1) := by decide +kernel
theorem dL_law_1025 : decode cL_law 1025 = .ok (.iadd, 1) := by decide +kernel
theorem dL_law_1026 : decode cL_law 1026 = .ok (.iaload, 1) := by decide +kernel
theorem dL_law_1027 : decode cL_law 1027 = .ok (.aload_n 0, 1) := by decide +kernel
theorem dL_law_1028 : decode cL_law 1028 = .ok (.iload_n 3, 1) := by decide +kernel
theorem dL_law_1029 : decode cL_law 1029 = .ok (.iconst 2, 1) := by decide +kernel
theorem dL_law_1030 : decode cL_law 1030 = .ok (.iadd, 1) := by decide +kernel
theorem dL_law_1031 : decode cL_law 1031 = .ok (.iaload, 1) := by decide +kernel
theorem dL_law_1032 : decode cL_law 1032 = .ok (.aload_n 0, 1) := by decide +kernel
theorem dL_law_1033 : decode cL_law 1033 = .ok (.iload_n 3, 1) := by decide +kernel
theorem dL_law_1034 : decode cL_law 1034 = .ok (.iconst 3, 1) := by decide +kernel
theorem dL_law_1035 : decode cL_law 1035 = .ok (.iadd, 1) := by decide +kernel
theorem dL_law_1036 : decode cL_law 1036 = .ok (.iaload, 1) := by decide +kernel
theorem dL_law_1037 : decode cL_law 1037 = .ok (.invokevirtual 120, 3) := by decide +kernel
theorem dL_law_1040 : decode cL_law 1040 = .ok (.if_icmp .eq 374, 3) := by decide +kernel
theorem dL_law_1043 : decode cL_law 1043 = .ok (.iconst 0, 1) := by decide +kernel
theorem dL_law_1044 : decode cL_law 1044 = .ok (.ireturn, 1) := by decide +kernel
theorem dL_law_1045 : decode cL_law 1045 = .ok (.aload_n 1, 1) := by decide +kernel
theorem dL_law_1046 : decode cL_law 1046 = .ok (.aload_n 0, 1) := by decide +kernel
theorem dL_law_1047 : decode cL_law 1047 = .ok (.iload_n 3, 1) := by decide +kernel
theorem dL_law_1048 : decode cL_law 1048 = .ok (.iconst 1, 1) := by decide +kernel
theorem dL_law_1049 : decode cL_law 1049 = .ok (.iadd, 1) := by decide +kernel
theorem dL_law_1050 : decode cL_law 1050 = .ok (.iaload, 1) := by decide +kernel
theorem dL_law_1051 : decode cL_law 1051 = .ok (.aload_n 0, 1) := by decide +kernel
theorem dL_law_1052 : decode cL_law 1052 = .ok (.iload_n 3, 1) := by decide +kernel
theorem dL_law_1053 : decode cL_law 1053 = .ok (.iconst 2, 1) := by decide +kernel
theorem dL_law_1054 : decode cL_law 1054 = .ok (.iadd, 1) := by decide +kernel
theorem dL_law_1055 : decode cL_law 1055 = .ok (.iaload, 1) := by decide +kernel
theorem dL_law_1056 : decode cL_law 1056 = .ok (.aload_n 0, 1) := by decide +kernel
theorem dL_law_1057 : decode cL_law 1057 = .ok (.iload_n 3, 1) := by decide +kernel
theorem dL_law_1058 : decode cL_law 1058 = .ok (.iconst 3, 1) := by decide +kernel
theorem dL_law_1059 : decode cL_law 1059 = .ok (.iadd, 1) := by decide +kernel
theorem dL_law_1060 : decode cL_law 1060 = .ok (.iaload, 1) := by decide +kernel
theorem dL_law_1061 : decode cL_law 1061 = .ok (.invokevirtual 121, 3) := by decide +kernel
theorem dL_law_1064 : decode cL_law 1064 = .ok (.aload_n 2, 1) := by decide +kernel
theorem dL_law_1065 : decode cL_law 1065 = .ok (.aload_n 0, 1) := by decide +kernel
theorem dL_law_1066 : decode cL_law 1066 = .ok (.iload_n 3, 1) := by decide +kernel
theorem dL_law_1067 : decode cL_law 1067 = .ok (.iconst 1, 1) := by decide +kernel
theorem dL_law_1068 : decode cL_law 1068 = .ok (.iadd, 1) := by decide +kernel
theorem dL_law_1069 : decode cL_law 1069 = .ok (.iaload, 1) := by decide +kernel
theorem dL_law_1070 : decode cL_law 1070 = .ok (.aload_n 0, 1) := by decide +kernel
theorem dL_law_1071 : decode cL_law 1071 = .ok (.iload_n 3, 1) := by decide +kernel
theorem dL_law_1072 : decode cL_law 1072 = .ok (.iconst 2, 1) := by decide +kernel
theorem dL_law_1073 : decode cL_law 1073 = .ok (.iadd, 1) := by decide +kernel
theorem dL_law_1074 : decode cL_law 1074 = .ok (.iaload, 1) := by decide +kernel
theorem dL_law_1075 : decode cL_law 1075 = .ok (.aload_n 0, 1) := by decide +kernel
theorem dL_law_1076 : decode cL_law 1076 = .ok (.iload_n 3, 1) := by decide +kernel
theorem dL_law_1077 : decode cL_law 1077 = .ok (.iconst 3, 1) := by decide +kernel
theorem dL_law_1078 : decode cL_law 1078 = .ok (.iadd, 1) := by decide +kernel
theorem dL_law_1079 : decode cL_law 1079 = .ok (.iaload, 1) := by decide +kernel
theorem dL_law_1080 : decode cL_law 1080 = .ok (.invokevirtual 124, 3) := by decide +kernel
theorem dL_law_1083 : decode cL_law 1083 = .ok (.if_icmp .eq 331, 3) := by decide +kernel
theorem dL_law_1086 : decode cL_law 1086 = .ok (.iconst 0, 1) := by decide +kernel
theorem dL_law_1087 : decode cL_law 1087 = .ok (.ireturn, 1) := by decide +kernel
theorem dL_law_1088 : decode cL_law 1088 = .ok (.aload_n 1, 1) := by decide +kernel
theorem dL_law_1089 : decode cL_law 1089 = .ok (.aload_n 0, 1) := by decide +kernel
theorem dL_law_1090 : decode cL_law 1090 = .ok (.iload_n 3, 1) := by decide +kernel
theorem dL_law_1091 : decode cL_law 1091 = .ok (.iconst 1, 1) := by decide +kernel
theorem dL_law_1092 : decode cL_law 1092 = .ok (.iadd, 1) := by decide +kernel
theorem dL_law_1093 : decode cL_law 1093 = .ok (.iaload, 1) := by decide +kernel
theorem dL_law_1094 : decode cL_law 1094 = .ok (.invokevirtual 125, 3) := by decide +kernel
theorem dL_law_1097 : decode cL_law 1097 = .ok (.aload_n 2, 1) := by decide +kernel
theorem dL_law_1098 : decode cL_law 1098 = .ok (.aload_n 0, 1) := by decide +kernel
theorem dL_law_1099 : decode cL_law 1099 = .ok (.iload_n 3, 1) := by decide +kernel
theorem dL_law_1100 : decode cL_law 1100 = .ok (.iconst 1, 1) := by decide +kernel
theorem dL_law_1101 : decode cL_law 1101 = .ok (.iadd, 1) := by decide +kernel
theorem dL_law_1102 : decode cL_law 1102 = .ok (.iaload, 1) := by decide +kernel
theorem dL_law_1103 : decode cL_law 1103 = .ok (.invokevirtual 128, 3) := by decide +kernel
theorem dL_law_1106 : decode cL_law 1106 = .ok (.if_icmp .eq 308, 3) := by decide +kernel
theorem dL_law_1109 : decode cL_law 1109 = .ok (.iconst 0, 1) := by decide +kernel
theorem dL_law_1110 : decode cL_law 1110 = .ok (.ireturn, 1) := by decide +kernel
theorem dL_law_1111 : decode cL_law 1111 = .ok (.aload_n 1, 1) := by decide +kernel
theorem dL_law_1112 : decode cL_law 1112 = .ok (.aload_n 0, 1) := by decide +kernel
theorem dL_law_1113 : decode cL_law 1113 = .ok (.iload_n 3, 1) := by decide +kernel
theorem dL_law_1114 : decode cL_law 1114 = .ok (.iconst 1, 1) := by decide +kernel
theorem dL_law_1115 : decode cL_law 1115 = .ok (.iadd, 1) := by decide +kernel
theorem dL_law_1116 : decode cL_law 1116 = .ok (.iaload, 1) := by decide +kernel
theorem dL_law_1117 : decode cL_law 1117 = .ok (.aload_n 0, 1) := by decide +kernel
theorem dL_law_1118 : decode cL_law 1118 = .ok (.iload_n 3, 1) := by decide +kernel
theorem dL_law_1119 : decode cL_law 1119 = .ok (.iconst 2, 1) := by decide +kernel
theorem dL_law_1120 : decode cL_law 1120 = .ok (.iadd, 1) := by decide +kernel
theorem dL_law_1121 : decode cL_law 1121 = .ok (.iaload, 1) := by decide +kernel
theorem dL_law_1122 : decode cL_law 1122 = .ok (.aload_n 0, 1) := by decide +kernel
theorem dL_law_1123 : decode cL_law 1123 = .ok (.iload_n 3, 1) := by decide +kernel
theorem dL_law_1124 : decode cL_law 1124 = .ok (.iconst 3, 1) := by decide +kernel
theorem dL_law_1125 : decode cL_law 1125 = .ok (.iadd, 1) := by decide +kernel
theorem dL_law_1126 : decode cL_law 1126 = .ok (.iaload, 1) := by decide +kernel
theorem dL_law_1127 : decode cL_law 1127 = .ok (.invokevirtual 129, 3) := by decide +kernel
theorem dL_law_1130 : decode cL_law 1130 = .ok (.aload_n 2, 1) := by decide +kernel
theorem dL_law_1131 : decode cL_law 1131 = .ok (.aload_n 0, 1) := by decide +kernel
theorem dL_law_1132 : decode cL_law 1132 = .ok (.iload_n 3, 1) := by decide +kernel
theorem dL_law_1133 : decode cL_law 1133 = .ok (.iconst 1, 1) := by decide +kernel
theorem dL_law_1134 : decode cL_law 1134 = .ok (.iadd, 1) := by decide +kernel
theorem dL_law_1135 : decode cL_law 1135 = .ok (.iaload, 1) := by decide +kernel
theorem dL_law_1136 : decode cL_law 1136 = .ok (.aload_n 0, 1) := by decide +kernel
theorem dL_law_1137 : decode cL_law 1137 = .ok (.iload_n 3, 1) := by decide +kernel
theorem dL_law_1138 : decode cL_law 1138 = .ok (.iconst 2, 1) := by decide +kernel
theorem dL_law_1139 : decode cL_law 1139 = .ok (.iadd, 1) := by decide +kernel
theorem dL_law_1140 : decode cL_law 1140 = .ok (.iaload, 1) := by decide +kernel
theorem dL_law_1141 : decode cL_law 1141 = .ok (.aload_n 0, 1) := by decide +kernel
theorem dL_law_1142 : decode cL_law 1142 = .ok (.iload_n 3, 1) := by decide +kernel
theorem dL_law_1143 : decode cL_law 1143 = .ok (.iconst 3, 1) := by decide +kernel
theorem dL_law_1144 : decode cL_law 1144 = .ok (.iadd, 1) := by decide +kernel
theorem dL_law_1145 : decode cL_law 1145 = .ok (.iaload, 1) := by decide +kernel
theorem dL_law_1146 : decode cL_law 1146 = .ok (.invokevirtual 132, 3) := by decide +kernel
theorem dL_law_1149 : decode cL_law 1149 = .ok (.if_icmp .eq 265, 3) := by decide +kernel
theorem dL_law_1152 : decode cL_law 1152 = .ok (.iconst 0, 1) := by decide +kernel
theorem dL_law_1153 : decode cL_law 1153 = .ok (.ireturn, 1) := by decide +kernel
theorem dL_law_1154 : decode cL_law 1154 = .ok (.aload_n 1, 1) := by decide +kernel
theorem dL_law_1155 : decode cL_law 1155 = .ok (.aload_n 0, 1) := by decide +kernel
theorem dL_law_1156 : decode cL_law 1156 = .ok (.iload_n 3, 1) := by decide +kernel
theorem dL_law_1157 : decode cL_law 1157 = .ok (.iconst 1, 1) := by decide +kernel
theorem dL_law_1158 : decode cL_law 1158 = .ok (.iadd, 1) := by decide +kernel
theorem dL_law_1159 : decode cL_law 1159 = .ok (.iaload, 1) := by decide +kernel
theorem dL_law_1160 : decode cL_law 1160 = .ok (.aload_n 0, 1) := by decide +kernel
theorem dL_law_1161 : decode cL_law 1161 = .ok (.iload_n 3, 1) := by decide +kernel
theorem dL_law_1162 : decode cL_law 1162 = .ok (.iconst 2, 1) := by decide +kernel
theorem dL_law_1163 : decode cL_law 1163 = .ok (.iadd, 1) := by decide +kernel
theorem dL_law_1164 : decode cL_law 1164 = .ok (.iaload, 1) := by decide +kernel
theorem dL_law_1165 : decode cL_law 1165 = .ok (.aload_n 0, 1) := by decide +kernel
theorem dL_law_1166 : decode cL_law 1166 = .ok (.iload_n 3, 1) := by decide +kernel
theorem dL_law_1167 : decode cL_law 1167 = .ok (.iconst 3, 1) := by decide +kernel
theorem dL_law_1168 : decode cL_law 1168 = .ok (.iadd, 1) := by decide +kernel
theorem dL_law_1169 : decode cL_law 1169 = .ok (.iaload, 1) := by decide +kernel
theorem dL_law_1170 : decode cL_law 1170 = .ok (.invokevirtual 133, 3) := by decide +kernel
theorem dL_law_1173 : decode cL_law 1173 = .ok (.aload_n 2, 1) := by decide +kernel
theorem dL_law_1174 : decode cL_law 1174 = .ok (.aload_n 0, 1) := by decide +kernel
theorem dL_law_1175 : decode cL_law 1175 = .ok (.iload_n 3, 1) := by decide +kernel
theorem dL_law_1176 : decode cL_law 1176 = .ok (.iconst 1, 1) := by decide +kernel
theorem dL_law_1177 : decode cL_law 1177 = .ok (.iadd, 1) := by decide +kernel
theorem dL_law_1178 : decode cL_law 1178 = .ok (.iaload, 1) := by decide +kernel
theorem dL_law_1179 : decode cL_law 1179 = .ok (.aload_n 0, 1) := by decide +kernel
theorem dL_law_1180 : decode cL_law 1180 = .ok (.iload_n 3, 1) := by decide +kernel
theorem dL_law_1181 : decode cL_law 1181 = .ok (.iconst 2, 1) := by decide +kernel
theorem dL_law_1182 : decode cL_law 1182 = .ok (.iadd, 1) := by decide +kernel
theorem dL_law_1183 : decode cL_law 1183 = .ok (.iaload, 1) := by decide +kernel
theorem dL_law_1184 : decode cL_law 1184 = .ok (.aload_n 0, 1) := by decide +kernel
theorem dL_law_1185 : decode cL_law 1185 = .ok (.iload_n 3, 1) := by decide +kernel
theorem dL_law_1186 : decode cL_law 1186 = .ok (.iconst 3, 1) := by decide +kernel
theorem dL_law_1187 : decode cL_law 1187 = .ok (.iadd, 1) := by decide +kernel
theorem dL_law_1188 : decode cL_law 1188 = .ok (.iaload, 1) := by decide +kernel
theorem dL_law_1189 : decode cL_law 1189 = .ok (.invokevirtual 136, 3) := by decide +kernel
theorem dL_law_1192 : decode cL_law 1192 = .ok (.if_icmp .eq 222, 3) := by decide +kernel
theorem dL_law_1195 : decode cL_law 1195 = .ok (.iconst 0, 1) := by decide +kernel
theorem dL_law_1196 : decode cL_law 1196 = .ok (.ireturn, 1) := by decide +kernel
theorem dL_law_1197 : decode cL_law 1197 = .ok (.aload_n 1, 1) := by decide +kernel
theorem dL_law_1198 : decode cL_law 1198 = .ok (.aload_n 0, 1) := by decide +kernel
theorem dL_law_1199 : decode cL_law 1199 = .ok (.iload_n 3, 1) := by decide +kernel
theorem dL_law_1200 : decode cL_law 1200 = .ok (.iconst 1, 1) := by decide +kernel
theorem dL_law_1201 : decode cL_law 1201 = .ok (.iadd, 1) := by decide +kernel
theorem dL_law_1202 : decode cL_law 1202 = .ok (.iaload, 1) := by decide +kernel
theorem dL_law_1203 : decode cL_law 1203 = .ok (.aload_n 0, 1) := by decide +kernel
theorem dL_law_1204 : decode cL_law 1204 = .ok (.iload_n 3, 1) := by decide +kernel
theorem dL_law_1205 : decode cL_law 1205 = .ok (.iconst 2, 1) := by decide +kernel
theorem dL_law_1206 : decode cL_law 1206 = .ok (.iadd, 1) := by decide +kernel
theorem dL_law_1207 : decode cL_law 1207 = .ok (.iaload, 1) := by decide +kernel
theorem dL_law_1208 : decode cL_law 1208 = .ok (.aload_n 0, 1) := by decide +kernel
theorem dL_law_1209 : decode cL_law 1209 = .ok (.iload_n 3, 1) := by decide +kernel
theorem dL_law_1210 : decode cL_law 1210 = .ok (.iconst 3, 1) := by decide +kernel
theorem dL_law_1211 : decode cL_law 1211 = .ok (.iadd, 1) := by decide +kernel
theorem dL_law_1212 : decode cL_law 1212 = .ok (.iaload, 1) := by decide +kernel
theorem dL_law_1213 : decode cL_law 1213 = .ok (.aload_n 0, 1) := by decide +kernel
theorem dL_law_1214 : decode cL_law 1214 = .ok (.iload_n 3, 1) := by decide +kernel
theorem dL_law_1215 : decode cL_law 1215 = .ok (.iconst 4, 1) := by decide +kernel
theorem dL_law_1216 : decode cL_law 1216 = .ok (.iadd, 1) := by decide +kernel
theorem dL_law_1217 : decode cL_law 1217 = .ok (.iaload, 1) := by decide +kernel
theorem dL_law_1218 : decode cL_law 1218 = .ok (.aload_n 0, 1) := by decide +kernel
theorem dL_law_1219 : decode cL_law 1219 = .ok (.iload_n 3, 1) := by decide +kernel
theorem dL_law_1220 : decode cL_law 1220 = .ok (.iconst 5, 1) := by decide +kernel
theorem dL_law_1221 : decode cL_law 1221 = .ok (.iadd, 1) := by decide +kernel
theorem dL_law_1222 : decode cL_law 1222 = .ok (.iaload, 1) := by decide +kernel
theorem dL_law_1223 : decode cL_law 1223 = .ok (.invokevirtual 137, 3) := by decide +kernel
theorem dL_law_1226 : decode cL_law 1226 = .ok (.aload_n 2, 1) := by decide +kernel
theorem dL_law_1227 : decode cL_law 1227 = .ok (.aload_n 0, 1) := by decide +kernel
theorem dL_law_1228 : decode cL_law 1228 = .ok (.iload_n 3, 1) := by decide +kernel
theorem dL_law_1229 : decode cL_law 1229 = .ok (.iconst 1, 1) := by decide +kernel
theorem dL_law_1230 : decode cL_law 1230 = .ok (.iadd, 1) := by decide +kernel
theorem dL_law_1231 : decode cL_law 1231 = .ok (.iaload, 1) := by decide +kernel
theorem dL_law_1232 : decode cL_law 1232 = .ok (.aload_n 0, 1) := by decide +kernel
theorem dL_law_1233 : decode cL_law 1233 = .ok (.iload_n 3, 1) := by decide +kernel
theorem dL_law_1234 : decode cL_law 1234 = .ok (.iconst 2, 1) := by decide +kernel
theorem dL_law_1235 : decode cL_law 1235 = .ok (.iadd, 1) := by decide +kernel
theorem dL_law_1236 : decode cL_law 1236 = .ok (.iaload, 1) := by decide +kernel
theorem dL_law_1237 : decode cL_law 1237 = .ok (.aload_n 0, 1) := by decide +kernel
theorem dL_law_1238 : decode cL_law 1238 = .ok (.iload_n 3, 1) := by decide +kernel
theorem dL_law_1239 : decode cL_law 1239 = .ok (.iconst 3, 1) := by decide +kernel
theorem dL_law_1240 : decode cL_law 1240 = .ok (.iadd, 1) := by decide +kernel
theorem dL_law_1241 : decode cL_law 1241 = .ok (.iaload, 1) := by decide +kernel
theorem dL_law_1242 : decode cL_law 1242 = .ok (.aload_n 0, 1) := by decide +kernel
theorem dL_law_1243 : decode cL_law 1243 = .ok (.iload_n 3, 1) := by decide +kernel
theorem dL_law_1244 : decode cL_law 1244 = .ok (.iconst 4, 1) := by decide +kernel
theorem dL_law_1245 : decode cL_law 1245 = .ok (.iadd, 1) := by decide +kernel
theorem dL_law_1246 : decode cL_law 1246 = .ok (.iaload, 1) := by decide +kernel
theorem dL_law_1247 : decode cL_law 1247 = .ok (.aload_n 0, 1) := by decide +kernel
theorem dL_law_1248 : decode cL_law 1248 = .ok (.iload_n 3, 1) := by decide +kernel
theorem dL_law_1249 : decode cL_law 1249 = .ok (.iconst 5, 1) := by decide +kernel
theorem dL_law_1250 : decode cL_law 1250 = .ok (.iadd, 1) := by decide +kernel
theorem dL_law_1251 : decode cL_law 1251 = .ok (.iaload, 1) := by decide +kernel
theorem dL_law_1252 : decode cL_law 1252 = .ok (.invokevirtual 141, 3) := by decide +kernel
theorem dL_law_1255 : decode cL_law 1255 = .ok (.if_icmp .eq 159, 3) := by decide +kernel
theorem dL_law_1258 : decode cL_law 1258 = .ok (.iconst 0, 1) := by decide +kernel
theorem dL_law_1259 : decode cL_law 1259 = .ok (.ireturn, 1) := by decide +kernel
theorem dL_law_1260 : decode cL_law 1260 = .ok (.aload_n 1, 1) := by decide +kernel
theorem dL_law_1261 : decode cL_law 1261 = .ok (.aload_n 0, 1) := by decide +kernel
theorem dL_law_1262 : decode cL_law 1262 = .ok (.iload_n 3, 1) := by decide +kernel
theorem dL_law_1263 : decode cL_law 1263 = .ok (.iconst 1, 1) := by decide +kernel
theorem dL_law_1264 : decode cL_law 1264 = .ok (.iadd, 1) := by decide +kernel
theorem dL_law_1265 : decode cL_law 1265 = .ok (.iaload, 1) := by decide +kernel
theorem dL_law_1266 : decode cL_law 1266 = .ok (.invokevirtual 142, 3) := by decide +kernel
theorem dL_law_1269 : decode cL_law 1269 = .ok (.aload_n 2, 1) := by decide +kernel
theorem dL_law_1270 : decode cL_law 1270 = .ok (.aload_n 0, 1) := by decide +kernel
theorem dL_law_1271 : decode cL_law 1271 = .ok (.iload_n 3, 1) := by decide +kernel
theorem dL_law_1272 : decode cL_law 1272 = .ok (.iconst 1, 1) := by decide +kernel
theorem dL_law_1273 : decode cL_law 1273 = .ok (.iadd, 1) := by decide +kernel
theorem dL_law_1274 : decode cL_law 1274 = .ok (.iaload, 1) := by decide +kernel
theorem dL_law_1275 : decode cL_law 1275 = .ok (.invokevirtual 145, 3) := by decide +kernel
theorem dL_law_1278 : decode cL_law 1278 = .ok (.if_icmp .eq 136, 3) := by decide +kernel
theorem dL_law_1281 : decode cL_law 1281 = .ok (.iconst 0, 1) := by decide +kernel
theorem dL_law_1282 : decode cL_law 1282 = .ok (.ireturn, 1) := by decide +kernel
theorem dL_law_1283 : decode cL_law 1283 = .ok (.aload_n 1, 1) := by decide +kernel
theorem dL_law_1284 : decode cL_law 1284 = .ok (.aload_n 0, 1) := by decide +kernel
theorem dL_law_1285 : decode cL_law 1285 = .ok (.iload_n 3, 1) := by decide +kernel
theorem dL_law_1286 : decode cL_law 1286 = .ok (.iconst 1, 1) := by decide +kernel
theorem dL_law_1287 : decode cL_law 1287 = .ok (.iadd, 1) := by decide +kernel
theorem dL_law_1288 : decode cL_law 1288 = .ok (.iaload, 1) := by decide +kernel
theorem dL_law_1289 : decode cL_law 1289 = .ok (.invokevirtual 146, 3) := by decide +kernel
theorem dL_law_1292 : decode cL_law 1292 = .ok (.aload_n 2, 1) := by decide +kernel
theorem dL_law_1293 : decode cL_law 1293 = .ok (.aload_n 0, 1) := by decide +kernel
theorem dL_law_1294 : decode cL_law 1294 = .ok (.iload_n 3, 1) := by decide +kernel
theorem dL_law_1295 : decode cL_law 1295 = .ok (.iconst 1, 1) := by decide +kernel
theorem dL_law_1296 : decode cL_law 1296 = .ok (.iadd, 1) := by decide +kernel
theorem dL_law_1297 : decode cL_law 1297 = .ok (.iaload, 1) := by decide +kernel
theorem dL_law_1298 : decode cL_law 1298 = .ok (.invokevirtual 149, 3) := by decide +kernel
theorem dL_law_1301 : decode cL_law 1301 = .ok (.if_icmp .eq 113, 3) := by decide +kernel
theorem dL_law_1304 : decode cL_law 1304 = .ok (.iconst 0, 1) := by decide +kernel
theorem dL_law_1305 : decode cL_law 1305 = .ok (.ireturn, 1) := by decide +kernel
theorem dL_law_1306 : decode cL_law 1306 = .ok (.aload_n 1, 1) := by decide +kernel
theorem dL_law_1307 : decode cL_law 1307 = .ok (.invokevirtual 150, 3) := by decide +kernel
theorem dL_law_1310 : decode cL_law 1310 = .ok (.aload_n 2, 1) := by decide +kernel
theorem dL_law_1311 : decode cL_law 1311 = .ok (.invokevirtual 153, 3) := by decide +kernel
theorem dL_law_1314 : decode cL_law 1314 = .ok (.if_icmp .eq 100, 3) := by decide +kernel
theorem dL_law_1317 : decode cL_law 1317 = .ok (.iconst 0, 1) := by decide +kernel
theorem dL_law_1318 : decode cL_law 1318 = .ok (.ireturn, 1) := by decide +kernel
theorem dL_law_1319 : decode cL_law 1319 = .ok (.aload_n 1, 1) := by decide +kernel
theorem dL_law_1320 : decode cL_law 1320 = .ok (.invokevirtual 154, 3) := by decide +kernel
theorem dL_law_1323 : decode cL_law 1323 = .ok (.aload_n 2, 1) := by decide +kernel
theorem dL_law_1324 : decode cL_law 1324 = .ok (.invokevirtual 157, 3) := by decide +kernel
theorem dL_law_1327 : decode cL_law 1327 = .ok (.if_icmp .eq 87, 3) := by decide +kernel
theorem dL_law_1330 : decode cL_law 1330 = .ok (.iconst 0, 1) := by decide +kernel
theorem dL_law_1331 : decode cL_law 1331 = .ok (.ireturn, 1) := by decide +kernel
theorem dL_law_1332 : decode cL_law 1332 = .ok (.aload_n 1, 1) := by decide +kernel
theorem dL_law_1333 : decode cL_law 1333 = .ok (.aload_n 0, 1) := by decide +kernel
theorem dL_law_1334 : decode cL_law 1334 = .ok (.iload_n 3, 1) := by decide +kernel
theorem dL_law_1335 : decode cL_law 1335 = .ok (.iconst 1, 1) := by decide +kernel
theorem dL_law_1336 : decode cL_law 1336 = .ok (.iadd, 1) := by decide +kernel
theorem dL_law_1337 : decode cL_law 1337 = .ok (.iaload, 1) := by decide +kernel
theorem dL_law_1338 : decode cL_law 1338 = .ok (.invokevirtual 158, 3) := by decide +kernel
theorem dL_law_1341 : decode cL_law 1341 = .ok (.aload_n 2, 1) := by decide +kernel
theorem dL_law_1342 : decode cL_law 1342 = .ok (.aload_n 0, 1) := by decide +kernel
theorem dL_law_1343 : decode cL_law 1343 = .ok (.iload_n 3, 1) := by decide +kernel
theorem dL_law_1344 : decode cL_law 1344 = .ok (.iconst 1, 1) := by decide +kernel
theorem dL_law_1345 : decode cL_law 1345 = .ok (.iadd, 1) := by decide +kernel
theorem dL_law_1346 : decode cL_law 1346 = .ok (.iaload, 1) := by decide +kernel
theorem dL_law_1347 : decode cL_law 1347 = .ok (.invokevirtual 161, 3) := by decide +kernel
theorem dL_law_1350 : decode cL_law 1350 = .ok (.if_icmp .eq 64, 3) := by decide +kernel
theorem dL_law_1353 : decode cL_law 1353 = .ok (.iconst 0, 1) := by decide +kernel
theorem dL_law_1354 : decode cL_law 1354 = .ok (.ireturn, 1) := by decide +kernel
theorem dL_law_1355 : decode cL_law 1355 = .ok (.aload_n 1, 1) := by decide +kernel
theorem dL_law_1356 : decode cL_law 1356 = .ok (.invokevirtual 162, 3) := by decide +kernel
theorem dL_law_1359 : decode cL_law 1359 = .ok (.aload_n 2, 1) := by decide +kernel
theorem dL_law_1360 : decode cL_law 1360 = .ok (.invokevirtual 165, 3) := by decide +kernel
theorem dL_law_1363 : decode cL_law 1363 = .ok (.if_icmp .eq 51, 3) := by decide +kernel
theorem dL_law_1366 : decode cL_law 1366 = .ok (.iconst 0, 1) := by decide +kernel
theorem dL_law_1367 : decode cL_law 1367 = .ok (.ireturn, 1) := by decide +kernel
theorem dL_law_1368 : decode cL_law 1368 = .ok (.aload_n 1, 1) := by decide +kernel
theorem dL_law_1369 : decode cL_law 1369 = .ok (.aload_n 0, 1) := by decide +kernel
theorem dL_law_1370 : decode cL_law 1370 = .ok (.iload_n 3, 1) := by decide +kernel
theorem dL_law_1371 : decode cL_law 1371 = .ok (.iconst 1, 1) := by decide +kernel
theorem dL_law_1372 : decode cL_law 1372 = .ok (.iadd, 1) := by decide +kernel
theorem dL_law_1373 : decode cL_law 1373 = .ok (.iaload, 1) := by decide +kernel
theorem dL_law_1374 : decode cL_law 1374 = .ok (.invokevirtual 166, 3) := by decide +kernel
theorem dL_law_1377 : decode cL_law 1377 = .ok (.aload_n 2, 1) := by decide +kernel
theorem dL_law_1378 : decode cL_law 1378 = .ok (.aload_n 0, 1) := by decide +kernel
theorem dL_law_1379 : decode cL_law 1379 = .ok (.iload_n 3, 1) := by decide +kernel
theorem dL_law_1380 : decode cL_law 1380 = .ok (.iconst 1, 1) := by decide +kernel
theorem dL_law_1381 : decode cL_law 1381 = .ok (.iadd, 1) := by decide +kernel
theorem dL_law_1382 : decode cL_law 1382 = .ok (.iaload, 1) := by decide +kernel
theorem dL_law_1383 : decode cL_law 1383 = .ok (.invokevirtual 169, 3) := by decide +kernel
theorem dL_law_1386 : decode cL_law 1386 = .ok (.if_icmp .eq 28, 3) := by decide +kernel
theorem dL_law_1389 : decode cL_law 1389 = .ok (.iconst 0, 1) := by decide +kernel
theorem dL_law_1390 : decode cL_law 1390 = .ok (.ireturn, 1) := by decide +kernel
theorem dL_law_1391 : decode cL_law 1391 = .ok (.aload_n 1, 1) := by decide +kernel
theorem dL_law_1392 : decode cL_law 1392 = .ok (.aload_n 0, 1) := by decide +kernel
theorem dL_law_1393 : decode cL_law 1393 = .ok (.iload_n 3, 1) := by decide +kernel
theorem dL_law_1394 : decode cL_law 1394 = .ok (.iconst 1, 1) := by decide +kernel
theorem dL_law_1395 : decode cL_law 1395 = .ok (.iadd, 1) := by decide +kernel
theorem dL_law_1396 : decode cL_law 1396 = .ok (.iaload, 1) := by decide +kernel
theorem dL_law_1397 : decode cL_law 1397 = .ok (.invokevirtual 170, 3) := by decide +kernel
theorem dL_law_1400 : decode cL_law 1400 = .ok (.aload_n 2, 1) := by decide +kernel
theorem dL_law_1401 : decode cL_law 1401 = .ok (.aload_n 0, 1) := by decide +kernel
theorem dL_law_1402 : decode cL_law 1402 = .ok (.iload_n 3, 1) := by decide +kernel
theorem dL_law_1403 : decode cL_law 1403 = .ok (.iconst 1, 1) := by decide +kernel
theorem dL_law_1404 : decode cL_law 1404 = .ok (.iadd, 1) := by decide +kernel
theorem dL_law_1405 : decode cL_law 1405 = .ok (.iaload, 1) := by decide +kernel
theorem dL_law_1406 : decode cL_law 1406 = .ok (.invokevirtual 173, 3) := by decide +kernel
theorem dL_law_1409 : decode cL_law 1409 = .ok (.if_icmp .eq 5, 3) := by decide +kernel
theorem dL_law_1412 : decode cL_law 1412 = .ok (.iconst 0, 1) := by decide +kernel
theorem dL_law_1413 : decode cL_law 1413 = .ok (.ireturn, 1) := by decide +kernel
theorem dL_law_1414 : decode cL_law 1414 = .ok (.iinc 3 6, 3) := by decide +kernel
theorem dL_law_1417 : decode cL_law 1417 = .ok (.goto (-1399), 3) := by decide +kernel
theorem dL_law_1420 : decode cL_law 1420 = .ok (.iconst 1, 1) := by decide +kernel
theorem dL_law_1421 : decode cL_law 1421 = .ok (.ireturn, 1) := by decide +kernel
end
section
-- ===== my own layer: a uniform world over the kit's rows; every cell by its number (in the order of making), ints and references apart =====
abbrev XM : Type := MethodName × ByteArray × Nat × Option FieldType
abbrev XK : Type := Nat ⊕ Nat ⊕ (Nat × Nat)
abbrev XS : Type := List XK × (Nat → Nat → Option Nat)
abbrev XI : Type := Nat → Nat → Int32
def xgood : List Cond := lw_tbl.filter goodWord
def xnestW : Cond → Bool
  | .fieldLinkNest .. => true
  | .methodLinkNest .. => true
  | _ => false
def xnest : List Cond := tables_1.filter xnestW
theorem xg {w : Cond} (i : Nat) (h : tables_1[i]? = some w) (hg : goodWord w = true) : w ∈ xgood :=
  List.mem_filter.mpr ⟨List.mem_append_right _ (List.mem_of_getElem? h), hg⟩
theorem xgs {w : Cond} (i : Nat) (h : (k2_sels lw_privs)[i]? = some w) (hg : goodWord w = true) : w ∈ xgood :=
  List.mem_filter.mpr ⟨List.mem_append_left _ (List.mem_of_getElem? h), hg⟩
theorem xnx {w : Cond} (i : Nat) (h : tables_1[i]? = some w) (hg : xnestW w = true) : w ∈ xnest :=
  List.mem_filter.mpr ⟨List.mem_of_getElem? h, hg⟩
def xws (M : XM) : List Cond := Cond.code M.1 M.2.1 M.2.2.1 M.2.2.2 :: xgood
theorem xgoodIn {M : XM} {ws : List Cond} (h : ∀ w ∈ ws, w ∈ xgood) : GoodIn (xws M) ws := fun w hw => ⟨List.mem_cons_of_mem _ (h w hw), good_of_word (List.mem_filter.mp (h w hw)).2⟩
def xrm (d : Nat) (b : Nat × Nat) : Room := { frames := d, cells := b.1, slots := b.2, locals := 64 * d }
def conc (ads : Nat → Nat) : Value → Value
  | .ref k => .ref (ads k)
  | v => v
theorem conc_cat (ads : Nat → Nat) (v : Value) : (conc ads v).category = v.category := by cases v <;> rfl
theorem conc_cats (ads : Nat → Nat) (st : List Value) : ((st.map (conc ads)).map fun v => v.category) = st.map fun v => v.category := by
  induction st with
  | nil => rfl
  | cons a l ih => simp only [List.map_cons, conc_cat, ih]
-- words that hold of a state, not by place in the tables
def XN (U : State) : Prop := (∀ w ∈ xnest, va_Nw w U) ∧ va_AO RX4 U ∧ va_AO RX0 U ∧ va_AO RX7 U
theorem XN.warm {s U : State} (hW : s.WarmedH U.vm) (h : XN s) : XN U := by
  refine ⟨fun w hw => ?_, h.2.1.moved hW.alike, h.2.2.1.moved hW.alike, h.2.2.2.moved hW.alike⟩
  have h1 := h.1 w hw
  have hk := (List.mem_filter.mp hw).2
  cases w <;> first | exact va_Nw.warmF hW h1 | exact va_Nw.warmM hW h1 | (simp [xnestW] at hk)
theorem XN.same {s U : State} (hv : s.vm = U.vm) (h : XN s) : XN U := by
  have hA : s.vm.Alike U.vm := by rw [← hv]; exact Vm.Alike.refl _
  refine ⟨fun w hw => ?_, h.2.1.moved hA, h.2.2.1.moved hA, h.2.2.2.moved hA⟩
  have h1 := h.1 w hw
  have hk := (List.mem_filter.mp hw).2
  cases w <;> first | exact va_Nw.same rfl hv h1 | (simp [xnestW] at hk)
-- the two tables of the class
def kab : Nat → Int32 := fun j => match j with
  | 0 => -1 | 1 => 0 | 2 => 0 | 3 => 0 | 4 => 1 | 5 => 2 | _ => 0
def nms : Nat → Int32 := fun j => match j with
  | 0 => 114 | 1 => 115 | 2 => 116 | 3 => 112 | 4 => 111 | _ => 108
def xKA : Nat := 1000000
def xNA : Nat := 1000001
def XT (ads : Nat → Nat) (A : Nat → Prop) (U : State) (H : Heap) : Prop :=
  va_Z RX9 "KIND_ABOVE" "[I" (.ref (ads xKA)) A U H ∧ va_T .int (ads xKA) 7 (fun j => .int (kab j)) A U H ∧ va_Z RX9 "NAMES" "[C" (.ref (ads xNA)) A U H ∧ va_T .char (ads xNA) 6 (fun j => .int (nms j)) A U H
theorem XT.go {ads : Nat → Nat} {A : Nat → Prop} {u U : State} {H H1 : Heap} (h : XT ads A u H) (hvm : u.vm.Alike U.vm) (hq : ∀ a : Nat, a < H.size → ¬ A a → H1[a]? = H[a]?) : XT ads A U H1 :=
  ⟨(h.1.kept hq).moved hvm, (h.2.1.kept hq).moved hvm, (h.2.2.1.kept hq).moved hvm, (h.2.2.2.kept hq).moved hvm⟩
-- cells
def xrefs : List (List Bool) := [[], [true, true], [true, true, true, true, true, true], [false, true, true], [], [true, true], [true], [true], [true], [true, true, true, true, true, true, true], [true, true, true, false, true, false, false, false, false, true, true, true, false, true, false, false, true, true, true, true]]
def xref (ci j : Nat) : Bool := (((xrefs[ci]?).getD [])[j]?).getD false
def xnf (ci : Nat) : Nat := ((vwCl[ci]?).map (fun q => q.2.2)).getD 0
def xfv (ads : Nat → Nat) (ci : Nat) (rm : Nat → Option Nat) (im : Nat → Int32) (j : Nat) : Value := if xref ci j = true then va_rf ((rm j).map ads) else .int (im j)
def xfs (ads : Nat → Nat) (ci : Nat) (rm : Nat → Option Nat) (im : Nat → Int32) : List Value := (List.range (xnf ci)).map (xfv ads ci rm im)
def xcell (E : Nat → ClassId) (ads : Nat → Nat) (rm : Nat → Option Nat) (im : Nat → Int32) : XK → va_E
  | .inl ci => .inr (ci, xfs ads ci rm im)
  | .inr (.inl n) => .inl (E 0, (n, .inl im))
  | .inr (.inr (t, n)) => .inl (E (t + 1), (n, .inr (.inr (.inr (.inr (fun j => (rm j).map ads))))))
def xw (E : Nat → ClassId) (ads : Nat → Nat) (S : XS) (im : XI) : va_W := S.1.mapIdx (fun k sh => (ads k, xcell E ads (S.2 k) (im k) sh))
def xtys (E : Nat → ClassId) : List (ClassId × FieldType) := [(E 0, .int), (E 1, .object RX4), (E 2, .object RX0), (E 3, .object RX7)]
def xel : Nat → String
  | 0 => RX4
  | 1 => RX0
  | _ => RX7
theorem xtys_get {E : Nat → ClassId} {t : Nat} (h : t < 3) : (xtys E)[t + 1]? = some (E (t + 1), .object (xel t)) := by
  match t, h with
  | 0, _ => rfl
  | 1, _ => rfl
  | 2, _ => rfl
theorem xnf_of {ci N : Nat} {C : String} {T : u_T} (h : vwCl[ci]? = some (C, T, N)) : xnf ci = N := by simp [xnf, h]
theorem xfs_len {ads : Nat → Nat} {ci : Nat} {rm : Nat → Option Nat} {im : Nat → Int32} : (xfs ads ci rm im).length = xnf ci := by simp [xfs]
theorem xfs_get {ads : Nat → Nat} {ci j : Nat} {rm : Nat → Option Nat} {im : Nat → Int32} (h : j < xnf ci) : (xfs ads ci rm im)[j]? = some (xfv ads ci rm im j) := by
  simp [xfs, h]
theorem xw_get {E : Nat → ClassId} {ads : Nat → Nat} {S : XS} {im : XI} {a : Nat} {k : XK} (h : S.1[a]? = some k) : (xw E ads S im)[a]? = some (ads a, xcell E ads (S.2 a) (im a) k) := by
  simp [xw, List.getElem?_mapIdx, h]
theorem xw_len {E : Nat → ClassId} {ads : Nat → Nat} {S : XS} {im : XI} : (xw E ads S im).length = S.1.length := by simp [xw]
theorem xw_set {E : Nat → ClassId} {ads : Nat → Nat} {S S' : XS} {im im' : XI} {a : Nat} {k : XK} (h : S.1[a]? = some k) (h1 : S'.1 = S.1) (ho : ∀ q, q ≠ a → im' q = im q ∧ S'.2 q = S.2 q) {v : va_E} (hv : v = xcell E ads (S'.2 a) (im' a) k) :
    (xw E ads S im).set a (ads a, v) = xw E ads S' im' := by
  subst hv
  apply List.ext_getElem?
  intro i
  have hl : a < (xw E ads S im).length := by rw [xw_len]; exact (List.getElem?_eq_some_iff.mp h).1
  by_cases hi : i = a
  · subst hi
    rw [List.getElem?_set_self hl]
    exact (xw_get (by rw [h1]; exact h)).symm
  · rw [List.getElem?_set_ne (Ne.symm hi)]
    simp only [xw, List.getElem?_mapIdx, h1, (ho i hi).1, (ho i hi).2]
def xpush (S : XS) (k : XK) : XS := (S.1 ++ [k], fun a j => if a = S.1.length then none else S.2 a j)
def xz (im : XI) (n : Nat) : XI := fun a j => if a = n then 0 else im a j
theorem xw_push {E : Nat → ClassId} {ads : Nat → Nat} {S : XS} {im : XI} {k : XK} : xw E ads (xpush S k) (xz im S.1.length) = xw E ads S im ++ [(ads S.1.length, xcell E ads (fun _ => none) (fun _ => 0) k)] := by
  apply List.ext_getElem?
  intro i
  by_cases hi : i < S.1.length
  · rw [List.getElem?_append_left (by rw [xw_len]; exact hi)]
    have hne : ¬ i = S.1.length := Nat.ne_of_lt hi
    have hz : xz im S.1.length i = im i := by funext j; simp [xz, hne]
    simp only [xw, xpush, List.getElem?_mapIdx, List.getElem?_append_left hi, hne, if_false, hz]
  · rw [List.getElem?_append_right (by rw [xw_len]; omega), xw_len]
    by_cases he : i = S.1.length
    · subst he
      have hz : xz im S.1.length S.1.length = fun _ => 0 := by funext j; simp [xz]
      simp only [xw, xpush, List.getElem?_mapIdx, Nat.sub_self, List.getElem?_concat_length, if_true, Option.map_some, List.getElem?_cons_zero, hz]
    · have h1 : (xpush S k).1[i]? = none := by
        apply List.getElem?_eq_none
        simp only [xpush, List.length_append, List.length_singleton]; omega
      simp only [xw, List.getElem?_mapIdx, h1, Option.map_none]
      rw [List.getElem?_eq_none]
      simp only [List.length_singleton]; omega
def xup (im : XI) (a k : Nat) (v : Int32) : XI := fun a' k' => if a' = a ∧ k' = k then v else im a' k'
def xur (rm : Nat → Nat → Option Nat) (a k : Nat) (v : Option Nat) : Nat → Nat → Option Nat := fun a' k' => if a' = a ∧ k' = k then v else rm a' k'
def xcp (im : XI) (a0 sp a1 dp n : Nat) : XI := fun a' k' => if a' = a1 ∧ dp ≤ k' ∧ k' < dp + n then im a0 (sp + (k' - dp)) else im a' k'
-- locals
def xl (ls : Array Slot) (L : List (Option Value)) (ads : Nat → Nat) : Prop := ls.size = L.length ∧ lv_wf ls ∧ ∀ (i : Nat) (v : Value), L[i]? = some (some v) → ls[i]? = some (.val (conc ads v))
def xsafe (L : List (Option Value)) : Nat → Bool
  | 0 => true
  | i + 1 => match L[i]? with
    | some (some (.long _)) => false
    | some (some (.double _)) => false
    | _ => true
def xlp (ads : Nat → Nat) (L : List (Option Value)) : List (Nat × Value) := (List.range L.length).filterMap (fun i => match L[i]? with
  | some (some v) => some (i, conc ads v)
  | _ => none)
theorem xlp_mem {ads : Nat → Nat} {L : List (Option Value)} {q : Nat × Value} : q ∈ xlp ads L ↔ ∃ v, L[q.1]? = some (some v) ∧ q.2 = conc ads v := by
  constructor
  · intro h
    obtain ⟨i, -, hi⟩ := List.mem_filterMap.mp h
    split at hi
    · rename_i v hv
      cases hi
      exact ⟨v, hv, rfl⟩
    · cases hi
  · rintro ⟨v, h1, h2⟩
    refine List.mem_filterMap.mpr ⟨q.1, List.mem_range.mpr (List.getElem?_eq_some_iff.mp h1).1, ?_⟩
    rw [h1]
    show some (q.1, conc ads v) = some q
    rw [← h2]
theorem xl_lv {ls : Array Slot} {L : List (Option Value)} {ads : Nat → Nat} (h : xl ls L ads) : lv_has ls L.length (xlp ads L) := by
  refine ⟨h.1, h.2.1, fun q hq => ?_⟩
  obtain ⟨v, h1, h2⟩ := xlp_mem.mp hq
  rw [h2]
  exact h.2.2 _ _ h1
theorem xl_set {ls' : Array Slot} {L : List (Option Value)} {ads : Nat → Nat} {i : Nat} {v : Value} (hi : i < L.length) (hs : xsafe L i = true)
    (h : lv_has ls' L.length ((i, conc ads v) :: (xlp ads L).filter (fun q => !(q.1 == i) && !(q.1 + 1 == i && q.2.category == 2)))) : xl ls' (L.set i (some v)) ads := by
  refine ⟨by rw [List.length_set]; exact h.1, h.2.1, fun j w hj => ?_⟩
  by_cases hji : j = i
  · subst hji
    rw [List.getElem?_set_self hi] at hj
    cases hj
    exact h.2.2 (j, conc ads v) List.mem_cons_self
  · rw [List.getElem?_set_ne (Ne.symm hji)] at hj
    refine h.2.2 (j, conc ads w) (List.mem_cons_of_mem _ (List.mem_filter.mpr ⟨xlp_mem.mpr ⟨w, hj, rfl⟩, ?_⟩))
    simp only [Bool.and_eq_true, Bool.not_eq_true', beq_eq_false_iff_ne, ne_eq, hji, not_false_eq_true, true_and, Bool.and_eq_false_iff, conc_cat]
    by_cases h1 : j + 1 = i
    · right
      subst h1
      simp only [xsafe, hj] at hs
      cases w <;> simp_all [Value.category]
    · left; exact h1
def xentry : List Value → List (Option Value)
  | [] => []
  | v :: vs => if v.category = 2 then some v :: none :: xentry vs else some v :: xentry vs
theorem xentry_args {ads : Nat → Nat} : ∀ (vs : List Value) (i j : Nat) (v : Value), (xentry vs)[j]? = some (some v) → (i + j, conc ads v) ∈ lv_args i (vs.map (conc ads))
  | [], i, j, v, h => by simp [xentry] at h
  | w :: vs, i, j, v, h => by
    rw [List.map_cons]
    unfold lv_args
    rw [conc_cat]
    unfold xentry at h
    by_cases hw : w.category = 2
    · rw [if_pos hw] at h ⊢
      match j, h with
      | 0, h => cases h; exact List.mem_cons_self
      | 1, h => simp at h
      | j + 2, h =>
        have := xentry_args (ads := ads) vs (i + 2) j v (by simpa using h)
        rw [show i + (j + 2) = i + 2 + j by omega]
        exact List.mem_cons_of_mem _ this
    · rw [if_neg hw] at h ⊢
      match j, h with
      | 0, h => cases h; exact List.mem_cons_self
      | j + 1, h =>
        have := xentry_args (ads := ads) vs (i + 1) j v (by simpa using h)
        rw [show i + (j + 1) = i + 1 + j by omega]
        exact List.mem_cons_of_mem _ this
theorem xentry_len : ∀ vs : List Value, (xentry vs).length = (lg_sl vs).length
  | [] => rfl
  | v :: vs => by
    unfold xentry lg_sl
    rw [List.flatMap_cons]
    have ih := xentry_len vs
    unfold lg_sl at ih
    by_cases h : v.category = 2
    · rw [if_pos h, if_pos h]; simp [ih]
    · rw [if_neg h, if_neg h]; simp [ih]
theorem lg_sl_conc (ads : Nat → Nat) (vs : List Value) : (lg_sl (vs.map (conc ads))).length = (lg_sl vs).length := by
  induction vs with
  | nil => rfl
  | cons v vs ih =>
    simp only [lg_sl, List.map_cons, List.flatMap_cons, List.length_append, conc_cat] at ih ⊢
    rw [ih]
    by_cases h : v.category = 2
    · simp [h]
    · simp [h]
theorem xl_weak {ls : Array Slot} {L L' : List (Option Value)} {ads : Nat → Nat} (h : xl ls L ads) (hl : L'.length = L.length) (hw : ∀ (i : Nat) (v : Value), L'[i]? = some (some v) → L[i]? = some (some v)) : xl ls L' ads :=
  ⟨h.1.trans hl.symm, h.2.1, fun i v hv => h.2.2 i v (hw i v hv)⟩
-- the world holds in a heap
def XR (D : va_G) (E : Nat → ClassId) (ads : Nat → Nat) (A : Nat → Prop) (b : Nat × Nat) (S : XS) (im : XI) (H : Heap) : Prop :=
  va_P D vwCl (xw E ads S im) H ∧ va_D A (xw E ads S im) ∧ ∀ i, i < b.1 → ads (S.1.length + i) = H.size + i
def XC (M : XM) (d : Nat) (p : Program) (R : Room) (s : State) (m : MethodId) (args : Array Value) (meth : Method) (c : Code) (D : va_G) (E : Nat → ClassId) (A : Nat → Prop) (ads : Nat → Nat) : Prop :=
  CallFix p m c M.2.1 M.2.2.1 s args (xws M) M.1.cls ∧ (meth.sig.returnType = M.2.2.2 ∧ meth.locks = false ∧ meth.name = M.1.name) ∧ (va_K D vwCl (xtys E) s ∧ XN s ∧ XT ads A s s.heap) ∧ (∀ q, s.heap.size ≤ q → A q) ∧ R.frames = d ∧ R.locals = 64 * d
def XQ (D : va_G) (E : Nat → ClassId) (A : Nat → Prop) (ads : Nat → Nat) (n0 : Nat) (Q : Option Value → XS → XI → Prop) : Array Value → State → Outcome → State → Prop := fun _ st oc t =>
  (∃ (r : Option Value) (S' : XS) (im' : XI), oc = .returned (r.map (conc ads)) ∧ Q r S' im' ∧ va_P D vwCl (xw E ads S' im') t.heap ∧ va_D A (xw E ads S' im') ∧ t.heap.size + n0 = st.heap.size + S'.1.length) ∧ va_F A st t
/-- from pc on, with these locals, this stack, in this world, the method comes to its end with Q -/
def V (M : XM) (d : Nat) (b : Nat × Nat) (pc : Nat) (L : List (Option Value)) (st : List Value) (S : XS) (im : XI) (Q : Option Value → XS → XI → Prop) : Prop :=
  ∀ (p : Program) (l : Launch) (e : Env) (R : Room) (s : State) (m : MethodId) (args : Array Value) (below : List Frame) (meth : Method) (c : Code) (D : va_G) (E : Nat → ClassId) (A : Nat → Prop) (ads : Nat → Nat) (H : Heap) (locs : List Loc) (cells slots n0 : Nat) (ls : Array Slot),
    XC M d p R s m args meth c D E A ads → XR D E ads A b S im H → va_S A s.heap H locs → H.size + n0 = s.heap.size + S.1.length → cells + b.1 ≤ R.cells → slots + b.2 ≤ R.slots → xl ls L ads →
    W p l e R s m args below meth c H locs cells slots (MQ below (XQ D E A ads n0 Q) args s R.cells R.slots A) (F0 m pc ls (st.map (conc ads)))
def XP (D : va_G) (E : Nat → ClassId) (A : Nat → Prop) (ads : Nat → Nat) (sz : Nat) (b : Nat × Nat) (S : XS) (im : XI) (vs : List Value) : Array Value → State → Prop := fun v U =>
  v = (vs.map (conc ads)).toArray ∧ U.heap.size = sz ∧ va_K D vwCl (xtys E) U ∧ XN U ∧ XT ads A U U.heap ∧ XR D E ads A b S im U.heap
/-- a method's contract -/
def Spec (M : XM) (d : Nat) (b : Nat × Nat) (vs : List Value) (S : XS) (im : XI) (Q : Option Value → XS → XI → Prop) : Prop :=
  ∀ (l : Launch) (D : va_G) (E : Nat → ClassId) (A : Nat → Prop) (ads : Nat → Nat) (sz : Nat), (∀ q, sz ≤ q → A q) → Met l M.1 (xws M) (xrm d b) (XP D E A ads sz b S im vs) (XQ D E A ads S.1.length Q) b.1 b.2 A
def xlocs (vs : List Value) (n : Nat) : List (Option Value) := xentry vs ++ List.replicate (n - (xentry vs).length) none
theorem Spec.of {M : XM} {d : Nat} {b : Nat × Nat} {vs : List Value} {S : XS} {im : XI} {Q : Option Value → XS → XI → Prop} (L : List (Option Value)) (hL : xlocs vs M.2.2.1 = L) (hp : plainName M.1.cls = true) (hle : Nat.ble (xentry vs).length M.2.2.1 = true)
    (k : V M d b 0 L [] S im Q) : Spec M d b vs S im Q := by
  subst hL
  intro l D E A ads sz hA
  refine Met.ofW (cc := M.2.1) (maxL := M.2.2.1) (ret := M.2.2.2) hp rfl ?_
  intro p e s m args below meth c s₁ B hml hv
  obtain ⟨rfl, hsz, hK, hN, hT, hR⟩ := hv
  have hx := B.exec
  have hb := B.bytes
  have hr := B.returns
  have hts := atoms_spec (ws := xws M) B.pre
  have hown : s.vm.findClass M.1.cls = some m.cls := findClass_of_methodNamed B.named
  have hlocks := B.notSynchronized
  have hin : meth.name = M.1.name := (name_of_methodNamed B.named B.method).1
  subst hsz
  have hle' : (lg_sl (vs.map (conc ads))).length ≤ M.2.2.1 := by rw [lg_sl_conc, ← xentry_len]; exact Nat.le_of_ble_eq_true hle
  have hl := lv_entry (vs.map (conc ads)) (n := M.2.2.1) hle'
  rw [lg_entry_eq]
  refine k p l e _ s m _ below meth c D E A ads s.heap [] 0 0 S.1.length _ ⟨⟨hx, hb, hml, hown, hts⟩, ⟨hr, hlocks, hin⟩, ⟨hK, hN, hT⟩, hA, rfl, rfl⟩ hR va_S.rf rfl (Nat.le_of_eq (Nat.zero_add _)) (Nat.le_of_eq (Nat.zero_add _)) ⟨?_, hl.2.1, fun i v hv => ?_⟩
  · rw [hl.1]
    have := Nat.le_of_ble_eq_true hle
    simp only [xlocs, List.length_append, List.length_replicate]; omega
  · have hlt : i < (xentry vs).length := by
      by_cases h : i < (xentry vs).length
      · exact h
      · exfalso
        simp only [xlocs] at hv
        rw [List.getElem?_append_right (Nat.le_of_not_lt h)] at hv
        obtain ⟨h1, h2⟩ := List.getElem?_eq_some_iff.mp hv
        simp at h2
    simp only [xlocs] at hv
    rw [List.getElem?_append_left hlt] at hv
    have := xentry_args (ads := ads) vs 0 i v hv
    rw [Nat.zero_add] at this
    exact hl.2.2 _ this
theorem V.mono {M : XM} {d : Nat} {b : Nat × Nat} {pc : Nat} {L : List (Option Value)} {st : List Value} {S : XS} {im : XI} {Q Q' : Option Value → XS → XI → Prop} (h : ∀ r S' im', Q r S' im' → Q' r S' im') (k : V M d b pc L st S im Q) : V M d b pc L st S im Q' := by
  intro p l e R s m args below meth c D E A ads H locs cells slots n0 ls C hR hS hn hb1 hb2 hl
  intro T hT X
  obtain ⟨t, h1, o, q1, q2, ⟨⟨r, S', im', q3, q4, q5⟩, q6⟩, q7⟩ := k p l e R s m args below meth c D E A ads H locs cells slots n0 ls C hR hS hn hb1 hb2 hl T hT X
  exact ⟨t, h1, o, q1, q2, ⟨⟨r, S', im', q3, h _ _ _ q4, q5⟩, q6⟩, q7⟩
theorem V.weak {M : XM} {d : Nat} {b : Nat × Nat} {pc : Nat} {L L' : List (Option Value)} {st : List Value} {S : XS} {im : XI} {Q : Option Value → XS → XI → Prop} (hl0 : L'.length = L.length) (hw : ∀ (i : Nat) (v : Value), L'[i]? = some (some v) → L[i]? = some (some v)) (k : V M d b pc L' st S im Q) : V M d b pc L st S im Q := by
  intro p l e R s m args below meth c D E A ads H locs cells slots n0 ls C hR hS hn hb1 hb2 hl
  exact k p l e R s m args below meth c D E A ads H locs cells slots n0 ls C hR hS hn hb1 hb2 (xl_weak hl hl0 hw)
end
section
theorem V.iconst {M : XM} {d : Nat} {b : Nat × Nat} {pc : Nat} {L : List (Option Value)} {st : List Value} {S : XS} {im : XI} {Q : Option Value → XS → XI → Prop} {n : Int} {v : Int32} (hd : decode M.2.1 pc = .ok (.iconst n, 1)) (hv : Int32.ofInt n = v) (k : V M d b (pc + 1) L (.int v :: st) S im Q) : V M d b pc L st S im Q := by
  intro p l e R s m args below meth c D E A ads H locs cells slots n0 ls C hR hS hn hb1 hb2 hl
  exact lv_iconst C.1.1 C.1.2.1 hd hv (k p l e R s m args below meth c D E A ads H locs cells slots n0 ls C hR hS hn hb1 hb2 hl)
theorem V.bipush {M : XM} {d : Nat} {b : Nat × Nat} {pc : Nat} {L : List (Option Value)} {st : List Value} {S : XS} {im : XI} {Q : Option Value → XS → XI → Prop} {n : Int} {v : Int32} (hd : decode M.2.1 pc = .ok (.bipush n, 2)) (hv : (Int8.ofInt n).toInt32 = v) (k : V M d b (pc + 2) L (.int v :: st) S im Q) : V M d b pc L st S im Q := by
  intro p l e R s m args below meth c D E A ads H locs cells slots n0 ls C hR hS hn hb1 hb2 hl
  exact lv_bipush C.1.1 C.1.2.1 hd hv (k p l e R s m args below meth c D E A ads H locs cells slots n0 ls C hR hS hn hb1 hb2 hl)
theorem V.sipush {M : XM} {d : Nat} {b : Nat × Nat} {pc : Nat} {L : List (Option Value)} {st : List Value} {S : XS} {im : XI} {Q : Option Value → XS → XI → Prop} {n : Int} {v : Int32} (hd : decode M.2.1 pc = .ok (.sipush n, 3)) (hv : (Int16.ofInt n).toInt32 = v) (k : V M d b (pc + 3) L (.int v :: st) S im Q) : V M d b pc L st S im Q := by
  intro p l e R s m args below meth c D E A ads H locs cells slots n0 ls C hR hS hn hb1 hb2 hl
  exact lv_sipush C.1.1 C.1.2.1 hd hv (k p l e R s m args below meth c D E A ads H locs cells slots n0 ls C hR hS hn hb1 hb2 hl)
theorem V.ldc {M : XM} {d : Nat} {b : Nat × Nat} {pc : Nat} {L : List (Option Value)} {st : List Value} {S : XS} {im : XI} {Q : Option Value → XS → XI → Prop} {idx : Nat} {v : Int32} (hw : Cond.constant M.1.cls idx v ∈ xgood) (hd : decode M.2.1 pc = .ok (.ldc idx, 2)) (k : V M d b (pc + 2) L (.int v :: st) S im Q) : V M d b pc L st S im Q := by
  intro p l e R s m args below meth c D E A ads H locs cells slots n0 ls C hR hS hn hb1 hb2 hl
  exact lv_ldc C.1.1 C.1.2.1 C.1.2.2.2.1 (C.1.2.2.2.2 _ (List.mem_cons_of_mem _ hw)) hd (k p l e R s m args below meth c D E A ads H locs cells slots n0 ls C hR hS hn hb1 hb2 hl)
theorem V.ldcw {M : XM} {d : Nat} {b : Nat × Nat} {pc : Nat} {L : List (Option Value)} {st : List Value} {S : XS} {im : XI} {Q : Option Value → XS → XI → Prop} {idx : Nat} {v : Int32} (hw : Cond.constant M.1.cls idx v ∈ xgood) (hd : decode M.2.1 pc = .ok (.ldc_w idx, 3)) (k : V M d b (pc + 3) L (.int v :: st) S im Q) : V M d b pc L st S im Q := by
  intro p l e R s m args below meth c D E A ads H locs cells slots n0 ls C hR hS hn hb1 hb2 hl
  exact lv_ldcw C.1.1 C.1.2.1 C.1.2.2.2.1 (C.1.2.2.2.2 _ (List.mem_cons_of_mem _ hw)) hd (k p l e R s m args below meth c D E A ads H locs cells slots n0 ls C hR hS hn hb1 hb2 hl)
theorem V.ldc2 {M : XM} {d : Nat} {b : Nat × Nat} {pc : Nat} {L : List (Option Value)} {st : List Value} {S : XS} {im : XI} {Q : Option Value → XS → XI → Prop} {idx : Nat} {v : Int64} (hw : Cond.constantLong M.1.cls idx v ∈ xgood) (hd : decode M.2.1 pc = .ok (.ldc2_w idx, 3)) (k : V M d b (pc + 3) L (.long v :: st) S im Q) : V M d b pc L st S im Q := by
  intro p l e R s m args below meth c D E A ads H locs cells slots n0 ls C hR hS hn hb1 hb2 hl
  exact lv_ldc2 C.1.1 C.1.2.1 C.1.2.2.2.1 (C.1.2.2.2.2 _ (List.mem_cons_of_mem _ hw)) hd (k p l e R s m args below meth c D E A ads H locs cells slots n0 ls C hR hS hn hb1 hb2 hl)
theorem V.iload_n {M : XM} {d : Nat} {b : Nat × Nat} {pc : Nat} {L : List (Option Value)} {st : List Value} {S : XS} {im : XI} {Q : Option Value → XS → XI → Prop} {i : Nat} {f : Fin 4} {x : Int32} (hd : decode M.2.1 pc = .ok (.iload_n f, 1)) (hi : (f : Nat) = i) (hx : L[i]? = some (some (.int x))) (k : V M d b (pc + 1) L (.int x :: st) S im Q) : V M d b pc L st S im Q := by
  intro p l e R s m args below meth c D E A ads H locs cells slots n0 ls C hR hS hn hb1 hb2 hl
  exact lv_iload_n C.1.1 C.1.2.1 hd hi (hl.2.2 _ _ hx) (k p l e R s m args below meth c D E A ads H locs cells slots n0 ls C hR hS hn hb1 hb2 hl)
theorem V.iload {M : XM} {d : Nat} {b : Nat × Nat} {pc : Nat} {L : List (Option Value)} {st : List Value} {S : XS} {im : XI} {Q : Option Value → XS → XI → Prop} {i : Nat} {x : Int32} (hd : decode M.2.1 pc = .ok (.iload i, 2)) (hx : L[i]? = some (some (.int x))) (k : V M d b (pc + 2) L (.int x :: st) S im Q) : V M d b pc L st S im Q := by
  intro p l e R s m args below meth c D E A ads H locs cells slots n0 ls C hR hS hn hb1 hb2 hl
  exact lv_iload C.1.1 C.1.2.1 hd (hl.2.2 _ _ hx) (k p l e R s m args below meth c D E A ads H locs cells slots n0 ls C hR hS hn hb1 hb2 hl)
theorem V.lload_n {M : XM} {d : Nat} {b : Nat × Nat} {pc : Nat} {L : List (Option Value)} {st : List Value} {S : XS} {im : XI} {Q : Option Value → XS → XI → Prop} {i : Nat} {f : Fin 4} {x : Int64} (hd : decode M.2.1 pc = .ok (.lload_n f, 1)) (hi : (f : Nat) = i) (hx : L[i]? = some (some (.long x))) (k : V M d b (pc + 1) L (.long x :: st) S im Q) : V M d b pc L st S im Q := by
  intro p l e R s m args below meth c D E A ads H locs cells slots n0 ls C hR hS hn hb1 hb2 hl
  exact lv_lload_n C.1.1 C.1.2.1 hd hi (hl.2.2 _ _ hx) (k p l e R s m args below meth c D E A ads H locs cells slots n0 ls C hR hS hn hb1 hb2 hl)
theorem V.lload {M : XM} {d : Nat} {b : Nat × Nat} {pc : Nat} {L : List (Option Value)} {st : List Value} {S : XS} {im : XI} {Q : Option Value → XS → XI → Prop} {i : Nat} {x : Int64} (hd : decode M.2.1 pc = .ok (.lload i, 2)) (hx : L[i]? = some (some (.long x))) (k : V M d b (pc + 2) L (.long x :: st) S im Q) : V M d b pc L st S im Q := by
  intro p l e R s m args below meth c D E A ads H locs cells slots n0 ls C hR hS hn hb1 hb2 hl
  exact lv_lload C.1.1 C.1.2.1 hd (hl.2.2 _ _ hx) (k p l e R s m args below meth c D E A ads H locs cells slots n0 ls C hR hS hn hb1 hb2 hl)
theorem V.aload_n {M : XM} {d : Nat} {b : Nat × Nat} {pc : Nat} {L : List (Option Value)} {st : List Value} {S : XS} {im : XI} {Q : Option Value → XS → XI → Prop} {i : Nat} {f : Fin 4} {x : Nat} (hd : decode M.2.1 pc = .ok (.aload_n f, 1)) (hi : (f : Nat) = i) (hx : L[i]? = some (some (.ref x))) (k : V M d b (pc + 1) L (.ref x :: st) S im Q) : V M d b pc L st S im Q := by
  intro p l e R s m args below meth c D E A ads H locs cells slots n0 ls C hR hS hn hb1 hb2 hl
  exact lv_aload_n C.1.1 C.1.2.1 hd hi (hl.2.2 _ _ hx) (k p l e R s m args below meth c D E A ads H locs cells slots n0 ls C hR hS hn hb1 hb2 hl)
theorem V.aload {M : XM} {d : Nat} {b : Nat × Nat} {pc : Nat} {L : List (Option Value)} {st : List Value} {S : XS} {im : XI} {Q : Option Value → XS → XI → Prop} {i : Nat} {x : Nat} (hd : decode M.2.1 pc = .ok (.aload i, 2)) (hx : L[i]? = some (some (.ref x))) (k : V M d b (pc + 2) L (.ref x :: st) S im Q) : V M d b pc L st S im Q := by
  intro p l e R s m args below meth c D E A ads H locs cells slots n0 ls C hR hS hn hb1 hb2 hl
  exact lv_aload C.1.1 C.1.2.1 hd (hl.2.2 _ _ hx) (k p l e R s m args below meth c D E A ads H locs cells slots n0 ls C hR hS hn hb1 hb2 hl)
theorem V.istore_n {M : XM} {d : Nat} {b : Nat × Nat} {pc : Nat} {L : List (Option Value)} {st : List Value} {S : XS} {im : XI} {Q : Option Value → XS → XI → Prop} {i : Nat} {f : Fin 4} {x : Int32} (hd : decode M.2.1 pc = .ok (.istore_n f, 1)) (hi : (f : Nat) = i) (hlt : Nat.blt i L.length = true) (hsf : xsafe L i = true) (k : V M d b (pc + 1) (L.set i (some (.int x))) st S im Q) : V M d b pc L (.int x :: st) S im Q := by
  intro p l e R s m args below meth c D E A ads H locs cells slots n0 ls C hR hS hn hb1 hb2 hl
  have hlt : i < L.length := Nat.le_of_ble_eq_true hlt
  exact lv_istore_n C.1.1 C.1.2.1 hd hi (xl_lv hl) hlt rfl (fun ls' hl' => k p l e R s m args below meth c D E A ads H locs cells slots n0 ls' C hR hS hn hb1 hb2 (xl_set hlt hsf hl'))
theorem V.istore {M : XM} {d : Nat} {b : Nat × Nat} {pc : Nat} {L : List (Option Value)} {st : List Value} {S : XS} {im : XI} {Q : Option Value → XS → XI → Prop} {i : Nat} {x : Int32} (hd : decode M.2.1 pc = .ok (.istore i, 2)) (hlt : Nat.blt i L.length = true) (hsf : xsafe L i = true) (k : V M d b (pc + 2) (L.set i (some (.int x))) st S im Q) : V M d b pc L (.int x :: st) S im Q := by
  intro p l e R s m args below meth c D E A ads H locs cells slots n0 ls C hR hS hn hb1 hb2 hl
  have hlt : i < L.length := Nat.le_of_ble_eq_true hlt
  exact lv_istore C.1.1 C.1.2.1 hd (xl_lv hl) hlt rfl (fun ls' hl' => k p l e R s m args below meth c D E A ads H locs cells slots n0 ls' C hR hS hn hb1 hb2 (xl_set hlt hsf hl'))
theorem V.astore_n {M : XM} {d : Nat} {b : Nat × Nat} {pc : Nat} {L : List (Option Value)} {st : List Value} {S : XS} {im : XI} {Q : Option Value → XS → XI → Prop} {i : Nat} {f : Fin 4} {x : Nat} (hd : decode M.2.1 pc = .ok (.astore_n f, 1)) (hi : (f : Nat) = i) (hlt : Nat.blt i L.length = true) (hsf : xsafe L i = true) (k : V M d b (pc + 1) (L.set i (some (.ref x))) st S im Q) : V M d b pc L (.ref x :: st) S im Q := by
  intro p l e R s m args below meth c D E A ads H locs cells slots n0 ls C hR hS hn hb1 hb2 hl
  have hlt : i < L.length := Nat.le_of_ble_eq_true hlt
  exact lv_astore_n C.1.1 C.1.2.1 hd hi (xl_lv hl) hlt rfl (fun ls' hl' => k p l e R s m args below meth c D E A ads H locs cells slots n0 ls' C hR hS hn hb1 hb2 (xl_set hlt hsf hl'))
theorem V.astore {M : XM} {d : Nat} {b : Nat × Nat} {pc : Nat} {L : List (Option Value)} {st : List Value} {S : XS} {im : XI} {Q : Option Value → XS → XI → Prop} {i : Nat} {x : Nat} (hd : decode M.2.1 pc = .ok (.astore i, 2)) (hlt : Nat.blt i L.length = true) (hsf : xsafe L i = true) (k : V M d b (pc + 2) (L.set i (some (.ref x))) st S im Q) : V M d b pc L (.ref x :: st) S im Q := by
  intro p l e R s m args below meth c D E A ads H locs cells slots n0 ls C hR hS hn hb1 hb2 hl
  have hlt : i < L.length := Nat.le_of_ble_eq_true hlt
  exact lv_astore C.1.1 C.1.2.1 hd (xl_lv hl) hlt rfl (fun ls' hl' => k p l e R s m args below meth c D E A ads H locs cells slots n0 ls' C hR hS hn hb1 hb2 (xl_set hlt hsf hl'))
theorem V.iinc {M : XM} {d : Nat} {b : Nat × Nat} {pc : Nat} {L : List (Option Value)} {st : List Value} {S : XS} {im : XI} {Q : Option Value → XS → XI → Prop} {i : Nat} {n : Int} {x v : Int32} (hd : decode M.2.1 pc = .ok (.iinc i n, 3)) (hx : L[i]? = some (some (.int x))) (hv : x + Int32.ofInt n = v) (hsf : xsafe L i = true) (k : V M d b (pc + 3) (L.set i (some (.int v))) st S im Q) : V M d b pc L st S im Q := by
  intro p l e R s m args below meth c D E A ads H locs cells slots n0 ls C hR hS hn hb1 hb2 hl
  have hlt : i < L.length := (List.getElem?_eq_some_iff.mp hx).1
  obtain ⟨q, hq⟩ := List.getElem?_of_mem (xlp_mem (ads := ads) (q := (i, Value.int x)).mpr ⟨_, hx, rfl⟩)
  exact lv_iinc C.1.1 C.1.2.1 hd (xl_lv hl) hq hv hlt rfl (fun ls' hl' => k p l e R s m args below meth c D E A ads H locs cells slots n0 ls' C hR hS hn hb1 hb2 (xl_set hlt hsf hl'))
theorem V.iadd {M : XM} {d : Nat} {b : Nat × Nat} {pc : Nat} {L : List (Option Value)} {st : List Value} {S : XS} {im : XI} {Q : Option Value → XS → XI → Prop} {x y : Int32} (hd : decode M.2.1 pc = .ok (.iadd, 1)) (k : V M d b (pc + 1) L (.int (x + y) :: st) S im Q) : V M d b pc L (.int y :: .int x :: st) S im Q := by
  intro p l e R s m args below meth c D E A ads H locs cells slots n0 ls C hR hS hn hb1 hb2 hl
  exact lv_iadd C.1.1 C.1.2.1 hd (k p l e R s m args below meth c D E A ads H locs cells slots n0 ls C hR hS hn hb1 hb2 hl)
theorem V.isub {M : XM} {d : Nat} {b : Nat × Nat} {pc : Nat} {L : List (Option Value)} {st : List Value} {S : XS} {im : XI} {Q : Option Value → XS → XI → Prop} {x y : Int32} (hd : decode M.2.1 pc = .ok (.isub, 1)) (k : V M d b (pc + 1) L (.int (x - y) :: st) S im Q) : V M d b pc L (.int y :: .int x :: st) S im Q := by
  intro p l e R s m args below meth c D E A ads H locs cells slots n0 ls C hR hS hn hb1 hb2 hl
  exact lv_isub C.1.1 C.1.2.1 hd (k p l e R s m args below meth c D E A ads H locs cells slots n0 ls C hR hS hn hb1 hb2 hl)
theorem V.imul {M : XM} {d : Nat} {b : Nat × Nat} {pc : Nat} {L : List (Option Value)} {st : List Value} {S : XS} {im : XI} {Q : Option Value → XS → XI → Prop} {x y : Int32} (hd : decode M.2.1 pc = .ok (.imul, 1)) (k : V M d b (pc + 1) L (.int (x * y) :: st) S im Q) : V M d b pc L (.int y :: .int x :: st) S im Q := by
  intro p l e R s m args below meth c D E A ads H locs cells slots n0 ls C hR hS hn hb1 hb2 hl
  exact lv_imul C.1.1 C.1.2.1 hd (k p l e R s m args below meth c D E A ads H locs cells slots n0 ls C hR hS hn hb1 hb2 hl)
theorem V.iand {M : XM} {d : Nat} {b : Nat × Nat} {pc : Nat} {L : List (Option Value)} {st : List Value} {S : XS} {im : XI} {Q : Option Value → XS → XI → Prop} {x y : Int32} (hd : decode M.2.1 pc = .ok (.iand, 1)) (k : V M d b (pc + 1) L (.int (x &&& y) :: st) S im Q) : V M d b pc L (.int y :: .int x :: st) S im Q := by
  intro p l e R s m args below meth c D E A ads H locs cells slots n0 ls C hR hS hn hb1 hb2 hl
  exact lv_iand C.1.1 C.1.2.1 hd (k p l e R s m args below meth c D E A ads H locs cells slots n0 ls C hR hS hn hb1 hb2 hl)
theorem V.ior {M : XM} {d : Nat} {b : Nat × Nat} {pc : Nat} {L : List (Option Value)} {st : List Value} {S : XS} {im : XI} {Q : Option Value → XS → XI → Prop} {x y : Int32} (hd : decode M.2.1 pc = .ok (.ior, 1)) (k : V M d b (pc + 1) L (.int (x ||| y) :: st) S im Q) : V M d b pc L (.int y :: .int x :: st) S im Q := by
  intro p l e R s m args below meth c D E A ads H locs cells slots n0 ls C hR hS hn hb1 hb2 hl
  exact lv_ior C.1.1 C.1.2.1 hd (k p l e R s m args below meth c D E A ads H locs cells slots n0 ls C hR hS hn hb1 hb2 hl)
theorem V.ixor {M : XM} {d : Nat} {b : Nat × Nat} {pc : Nat} {L : List (Option Value)} {st : List Value} {S : XS} {im : XI} {Q : Option Value → XS → XI → Prop} {x y : Int32} (hd : decode M.2.1 pc = .ok (.ixor, 1)) (k : V M d b (pc + 1) L (.int (x ^^^ y) :: st) S im Q) : V M d b pc L (.int y :: .int x :: st) S im Q := by
  intro p l e R s m args below meth c D E A ads H locs cells slots n0 ls C hR hS hn hb1 hb2 hl
  exact lv_ixor C.1.1 C.1.2.1 hd (k p l e R s m args below meth c D E A ads H locs cells slots n0 ls C hR hS hn hb1 hb2 hl)
theorem V.ishl {M : XM} {d : Nat} {b : Nat × Nat} {pc : Nat} {L : List (Option Value)} {st : List Value} {S : XS} {im : XI} {Q : Option Value → XS → XI → Prop} {x y : Int32} (hd : decode M.2.1 pc = .ok (.ishl, 1)) (k : V M d b (pc + 1) L (.int (x <<< (y &&& 31)) :: st) S im Q) : V M d b pc L (.int y :: .int x :: st) S im Q := by
  intro p l e R s m args below meth c D E A ads H locs cells slots n0 ls C hR hS hn hb1 hb2 hl
  exact lv_ishl C.1.1 C.1.2.1 hd (k p l e R s m args below meth c D E A ads H locs cells slots n0 ls C hR hS hn hb1 hb2 hl)
theorem V.ishr {M : XM} {d : Nat} {b : Nat × Nat} {pc : Nat} {L : List (Option Value)} {st : List Value} {S : XS} {im : XI} {Q : Option Value → XS → XI → Prop} {x y : Int32} (hd : decode M.2.1 pc = .ok (.ishr, 1)) (k : V M d b (pc + 1) L (.int (x >>> (y &&& 31)) :: st) S im Q) : V M d b pc L (.int y :: .int x :: st) S im Q := by
  intro p l e R s m args below meth c D E A ads H locs cells slots n0 ls C hR hS hn hb1 hb2 hl
  exact lv_ishr C.1.1 C.1.2.1 hd (k p l e R s m args below meth c D E A ads H locs cells slots n0 ls C hR hS hn hb1 hb2 hl)
theorem V.idiv {M : XM} {d : Nat} {b : Nat × Nat} {pc : Nat} {L : List (Option Value)} {st : List Value} {S : XS} {im : XI} {Q : Option Value → XS → XI → Prop} {x y : Int32} (hd : decode M.2.1 pc = .ok (.idiv, 1)) (hne : ¬ y = 0) (k : V M d b (pc + 1) L (.int (x / y) :: st) S im Q) : V M d b pc L (.int y :: .int x :: st) S im Q := by
  intro p l e R s m args below meth c D E A ads H locs cells slots n0 ls C hR hS hn hb1 hb2 hl
  exact lv_idiv C.1.1 C.1.2.1 hd hne (k p l e R s m args below meth c D E A ads H locs cells slots n0 ls C hR hS hn hb1 hb2 hl)
theorem V.irem {M : XM} {d : Nat} {b : Nat × Nat} {pc : Nat} {L : List (Option Value)} {st : List Value} {S : XS} {im : XI} {Q : Option Value → XS → XI → Prop} {x y : Int32} (hd : decode M.2.1 pc = .ok (.irem, 1)) (hne : ¬ y = 0) (k : V M d b (pc + 1) L (.int (x - x / y * y) :: st) S im Q) : V M d b pc L (.int y :: .int x :: st) S im Q := by
  intro p l e R s m args below meth c D E A ads H locs cells slots n0 ls C hR hS hn hb1 hb2 hl
  exact lv_irem C.1.1 C.1.2.1 hd hne (k p l e R s m args below meth c D E A ads H locs cells slots n0 ls C hR hS hn hb1 hb2 hl)
theorem V.ineg {M : XM} {d : Nat} {b : Nat × Nat} {pc : Nat} {L : List (Option Value)} {st : List Value} {S : XS} {im : XI} {Q : Option Value → XS → XI → Prop} {x : Int32} (hd : decode M.2.1 pc = .ok (.ineg, 1)) (k : V M d b (pc + 1) L (.int (-x) :: st) S im Q) : V M d b pc L (.int x :: st) S im Q := by
  intro p l e R s m args below meth c D E A ads H locs cells slots n0 ls C hR hS hn hb1 hb2 hl
  exact lv_ineg C.1.1 C.1.2.1 hd (k p l e R s m args below meth c D E A ads H locs cells slots n0 ls C hR hS hn hb1 hb2 hl)
theorem V.iushr {M : XM} {d : Nat} {b : Nat × Nat} {pc : Nat} {L : List (Option Value)} {st : List Value} {S : XS} {im : XI} {Q : Option Value → XS → XI → Prop} {x y : Int32} (hd : decode M.2.1 pc = .ok (.iushr, 1)) (k : V M d b (pc + 1) L (.int ((x.toUInt32 >>> (y.toUInt32 &&& Int32.toUInt32 31)).toInt32) :: st) S im Q) : V M d b pc L (.int y :: .int x :: st) S im Q := by
  intro p l e R s m args below meth c D E A ads H locs cells slots n0 ls C hR hS hn hb1 hb2 hl
  exact lv_iushr C.1.1 C.1.2.1 hd rfl (k p l e R s m args below meth c D E A ads H locs cells slots n0 ls C hR hS hn hb1 hb2 hl)
theorem V.land {M : XM} {d : Nat} {b : Nat × Nat} {pc : Nat} {L : List (Option Value)} {st : List Value} {S : XS} {im : XI} {Q : Option Value → XS → XI → Prop} {x y : Int64} (hd : decode M.2.1 pc = .ok (.land, 1)) (k : V M d b (pc + 1) L (.long (x &&& y) :: st) S im Q) : V M d b pc L (.long y :: .long x :: st) S im Q := by
  intro p l e R s m args below meth c D E A ads H locs cells slots n0 ls C hR hS hn hb1 hb2 hl
  exact lv_land C.1.1 C.1.2.1 hd (k p l e R s m args below meth c D E A ads H locs cells slots n0 ls C hR hS hn hb1 hb2 hl)
theorem V.lor {M : XM} {d : Nat} {b : Nat × Nat} {pc : Nat} {L : List (Option Value)} {st : List Value} {S : XS} {im : XI} {Q : Option Value → XS → XI → Prop} {x y : Int64} (hd : decode M.2.1 pc = .ok (.lor, 1)) (k : V M d b (pc + 1) L (.long (x ||| y) :: st) S im Q) : V M d b pc L (.long y :: .long x :: st) S im Q := by
  intro p l e R s m args below meth c D E A ads H locs cells slots n0 ls C hR hS hn hb1 hb2 hl
  exact lv_lor C.1.1 C.1.2.1 hd (k p l e R s m args below meth c D E A ads H locs cells slots n0 ls C hR hS hn hb1 hb2 hl)
theorem V.lushr {M : XM} {d : Nat} {b : Nat × Nat} {pc : Nat} {L : List (Option Value)} {st : List Value} {S : XS} {im : XI} {Q : Option Value → XS → XI → Prop} {x : Int64} {y : Int32} (hd : decode M.2.1 pc = .ok (.lushr, 1)) (k : V M d b (pc + 1) L (.long ((x.toUInt64 >>> (y.toInt64.toUInt64 &&& Int64.toUInt64 63)).toInt64) :: st) S im Q) : V M d b pc L (.int y :: .long x :: st) S im Q := by
  intro p l e R s m args below meth c D E A ads H locs cells slots n0 ls C hR hS hn hb1 hb2 hl
  exact lv_lushr C.1.1 C.1.2.1 hd rfl (k p l e R s m args below meth c D E A ads H locs cells slots n0 ls C hR hS hn hb1 hb2 hl)
theorem V.lshl {M : XM} {d : Nat} {b : Nat × Nat} {pc : Nat} {L : List (Option Value)} {st : List Value} {S : XS} {im : XI} {Q : Option Value → XS → XI → Prop} {x : Int64} {y : Int32} (hd : decode M.2.1 pc = .ok (.lshl, 1)) (k : V M d b (pc + 1) L (.long (x <<< (y.toInt64 &&& 63)) :: st) S im Q) : V M d b pc L (.int y :: .long x :: st) S im Q := by
  intro p l e R s m args below meth c D E A ads H locs cells slots n0 ls C hR hS hn hb1 hb2 hl
  exact lv_lshl C.1.1 C.1.2.1 hd rfl (k p l e R s m args below meth c D E A ads H locs cells slots n0 ls C hR hS hn hb1 hb2 hl)
theorem V.lshr {M : XM} {d : Nat} {b : Nat × Nat} {pc : Nat} {L : List (Option Value)} {st : List Value} {S : XS} {im : XI} {Q : Option Value → XS → XI → Prop} {x : Int64} {y : Int32} (hd : decode M.2.1 pc = .ok (.lshr, 1)) (k : V M d b (pc + 1) L (.long (x >>> (y.toInt64 &&& 63)) :: st) S im Q) : V M d b pc L (.int y :: .long x :: st) S im Q := by
  intro p l e R s m args below meth c D E A ads H locs cells slots n0 ls C hR hS hn hb1 hb2 hl
  exact lv_lshr C.1.1 C.1.2.1 hd rfl (k p l e R s m args below meth c D E A ads H locs cells slots n0 ls C hR hS hn hb1 hb2 hl)
theorem V.i2l {M : XM} {d : Nat} {b : Nat × Nat} {pc : Nat} {L : List (Option Value)} {st : List Value} {S : XS} {im : XI} {Q : Option Value → XS → XI → Prop} {x : Int32} (hd : decode M.2.1 pc = .ok (.i2l, 1)) (k : V M d b (pc + 1) L (.long x.toInt64 :: st) S im Q) : V M d b pc L (.int x :: st) S im Q := by
  intro p l e R s m args below meth c D E A ads H locs cells slots n0 ls C hR hS hn hb1 hb2 hl
  exact lv_i2l C.1.1 C.1.2.1 hd rfl (k p l e R s m args below meth c D E A ads H locs cells slots n0 ls C hR hS hn hb1 hb2 hl)
theorem V.l2i {M : XM} {d : Nat} {b : Nat × Nat} {pc : Nat} {L : List (Option Value)} {st : List Value} {S : XS} {im : XI} {Q : Option Value → XS → XI → Prop} {x : Int64} (hd : decode M.2.1 pc = .ok (.l2i, 1)) (k : V M d b (pc + 1) L (.int x.toInt32 :: st) S im Q) : V M d b pc L (.long x :: st) S im Q := by
  intro p l e R s m args below meth c D E A ads H locs cells slots n0 ls C hR hS hn hb1 hb2 hl
  exact lv_l2i C.1.1 C.1.2.1 hd rfl (k p l e R s m args below meth c D E A ads H locs cells slots n0 ls C hR hS hn hb1 hb2 hl)
theorem V.dup {M : XM} {d : Nat} {b : Nat × Nat} {pc : Nat} {L : List (Option Value)} {st : List Value} {S : XS} {im : XI} {Q : Option Value → XS → XI → Prop} {v : Value} (hd : decode M.2.1 pc = .ok (.dup, 1)) (hc : v.category = 1) (k : V M d b (pc + 1) L (v :: v :: st) S im Q) : V M d b pc L (v :: st) S im Q := by
  intro p l e R s m args below meth c D E A ads H locs cells slots n0 ls C hR hS hn hb1 hb2 hl
  exact lv_dup C.1.1 C.1.2.1 hd (by rw [conc_cat]; exact hc) (k p l e R s m args below meth c D E A ads H locs cells slots n0 ls C hR hS hn hb1 hb2 hl)
theorem V.pop {M : XM} {d : Nat} {b : Nat × Nat} {pc : Nat} {L : List (Option Value)} {st : List Value} {S : XS} {im : XI} {Q : Option Value → XS → XI → Prop} {v : Value} (hd : decode M.2.1 pc = .ok (.pop, 1)) (hc : v.category = 1) (k : V M d b (pc + 1) L st S im Q) : V M d b pc L (v :: st) S im Q := by
  intro p l e R s m args below meth c D E A ads H locs cells slots n0 ls C hR hS hn hb1 hb2 hl
  exact lv_pop C.1.1 C.1.2.1 hd (by rw [conc_cat]; exact hc) (k p l e R s m args below meth c D E A ads H locs cells slots n0 ls C hR hS hn hb1 hb2 hl)
theorem V.dup2 {M : XM} {d : Nat} {b : Nat × Nat} {pc : Nat} {L : List (Option Value)} {st : List Value} {S : XS} {im : XI} {Q : Option Value → XS → XI → Prop} {v w : Value} (hd : decode M.2.1 pc = .ok (.dup2, 1)) (hc : v.category = 1) (hc2 : w.category = 1) (k : V M d b (pc + 1) L (v :: w :: v :: w :: st) S im Q) : V M d b pc L (v :: w :: st) S im Q := by
  intro p l e R s m args below meth c D E A ads H locs cells slots n0 ls C hR hS hn hb1 hb2 hl
  exact lv_dup2_11 C.1.1 C.1.2.1 hd (by rw [conc_cat]; exact hc) (by rw [conc_cat]; exact hc2) (k p l e R s m args below meth c D E A ads H locs cells slots n0 ls C hR hS hn hb1 hb2 hl)
theorem V.goto {M : XM} {d : Nat} {b : Nat × Nat} {pc : Nat} {L : List (Option Value)} {st : List Value} {S : XS} {im : XI} {Q : Option Value → XS → XI → Prop} {off : Int} {tgt : Nat} (hd : decode M.2.1 pc = .ok (.goto off, 3)) (ht : (pc : Int) + off = (tgt : Int)) (k : V M d b tgt L st S im Q) : V M d b pc L st S im Q := by
  intro p l e R s m args below meth c D E A ads H locs cells slots n0 ls C hR hS hn hb1 hb2 hl
  exact lv_goto C.1.1 C.1.2.1 hd ht (k p l e R s m args below meth c D E A ads H locs cells slots n0 ls C hR hS hn hb1 hb2 hl)
theorem V.if_eq {M : XM} {d : Nat} {b : Nat × Nat} {pc : Nat} {L : List (Option Value)} {st : List Value} {S : XS} {im : XI} {Q : Option Value → XS → XI → Prop} {x : Int32} {off : Int} {tgt : Nat} (hd : decode M.2.1 pc = .ok (.ifCond .eq off, 3)) (ht : (pc : Int) + off = (tgt : Int)) (kt : x = 0 → V M d b tgt L st S im Q) (kf : ¬ x = 0 → V M d b (pc + 3) L st S im Q) : V M d b pc L (.int x :: st) S im Q := by
  intro p l e R s m args below meth c D E A ads H locs cells slots n0 ls C hR hS hn hb1 hb2 hl
  exact lv_if_eq C.1.1 C.1.2.1 hd ht (fun h => kt h p l e R s m args below meth c D E A ads H locs cells slots n0 ls C hR hS hn hb1 hb2 hl) (fun h => kf h p l e R s m args below meth c D E A ads H locs cells slots n0 ls C hR hS hn hb1 hb2 hl)
theorem V.if_ne {M : XM} {d : Nat} {b : Nat × Nat} {pc : Nat} {L : List (Option Value)} {st : List Value} {S : XS} {im : XI} {Q : Option Value → XS → XI → Prop} {x : Int32} {off : Int} {tgt : Nat} (hd : decode M.2.1 pc = .ok (.ifCond .ne off, 3)) (ht : (pc : Int) + off = (tgt : Int)) (kt : ¬ x = 0 → V M d b tgt L st S im Q) (kf : x = 0 → V M d b (pc + 3) L st S im Q) : V M d b pc L (.int x :: st) S im Q := by
  intro p l e R s m args below meth c D E A ads H locs cells slots n0 ls C hR hS hn hb1 hb2 hl
  exact lv_if_ne C.1.1 C.1.2.1 hd ht (fun h => kt h p l e R s m args below meth c D E A ads H locs cells slots n0 ls C hR hS hn hb1 hb2 hl) (fun h => kf h p l e R s m args below meth c D E A ads H locs cells slots n0 ls C hR hS hn hb1 hb2 hl)
theorem V.if_lt {M : XM} {d : Nat} {b : Nat × Nat} {pc : Nat} {L : List (Option Value)} {st : List Value} {S : XS} {im : XI} {Q : Option Value → XS → XI → Prop} {x : Int32} {off : Int} {tgt : Nat} (hd : decode M.2.1 pc = .ok (.ifCond .lt off, 3)) (ht : (pc : Int) + off = (tgt : Int)) (kt : x < 0 → V M d b tgt L st S im Q) (kf : ¬ x < 0 → V M d b (pc + 3) L st S im Q) : V M d b pc L (.int x :: st) S im Q := by
  intro p l e R s m args below meth c D E A ads H locs cells slots n0 ls C hR hS hn hb1 hb2 hl
  exact lv_if_lt C.1.1 C.1.2.1 hd ht (fun h => kt h p l e R s m args below meth c D E A ads H locs cells slots n0 ls C hR hS hn hb1 hb2 hl) (fun h => kf h p l e R s m args below meth c D E A ads H locs cells slots n0 ls C hR hS hn hb1 hb2 hl)
theorem V.if_ge {M : XM} {d : Nat} {b : Nat × Nat} {pc : Nat} {L : List (Option Value)} {st : List Value} {S : XS} {im : XI} {Q : Option Value → XS → XI → Prop} {x : Int32} {off : Int} {tgt : Nat} (hd : decode M.2.1 pc = .ok (.ifCond .ge off, 3)) (ht : (pc : Int) + off = (tgt : Int)) (kt : 0 ≤ x → V M d b tgt L st S im Q) (kf : ¬ 0 ≤ x → V M d b (pc + 3) L st S im Q) : V M d b pc L (.int x :: st) S im Q := by
  intro p l e R s m args below meth c D E A ads H locs cells slots n0 ls C hR hS hn hb1 hb2 hl
  exact lv_if_ge C.1.1 C.1.2.1 hd ht (fun h => kt h p l e R s m args below meth c D E A ads H locs cells slots n0 ls C hR hS hn hb1 hb2 hl) (fun h => kf h p l e R s m args below meth c D E A ads H locs cells slots n0 ls C hR hS hn hb1 hb2 hl)
theorem V.if_gt {M : XM} {d : Nat} {b : Nat × Nat} {pc : Nat} {L : List (Option Value)} {st : List Value} {S : XS} {im : XI} {Q : Option Value → XS → XI → Prop} {x : Int32} {off : Int} {tgt : Nat} (hd : decode M.2.1 pc = .ok (.ifCond .gt off, 3)) (ht : (pc : Int) + off = (tgt : Int)) (kt : 0 < x → V M d b tgt L st S im Q) (kf : ¬ 0 < x → V M d b (pc + 3) L st S im Q) : V M d b pc L (.int x :: st) S im Q := by
  intro p l e R s m args below meth c D E A ads H locs cells slots n0 ls C hR hS hn hb1 hb2 hl
  exact lv_if_gt C.1.1 C.1.2.1 hd ht (fun h => kt h p l e R s m args below meth c D E A ads H locs cells slots n0 ls C hR hS hn hb1 hb2 hl) (fun h => kf h p l e R s m args below meth c D E A ads H locs cells slots n0 ls C hR hS hn hb1 hb2 hl)
theorem V.if_le {M : XM} {d : Nat} {b : Nat × Nat} {pc : Nat} {L : List (Option Value)} {st : List Value} {S : XS} {im : XI} {Q : Option Value → XS → XI → Prop} {x : Int32} {off : Int} {tgt : Nat} (hd : decode M.2.1 pc = .ok (.ifCond .le off, 3)) (ht : (pc : Int) + off = (tgt : Int)) (kt : x ≤ 0 → V M d b tgt L st S im Q) (kf : ¬ x ≤ 0 → V M d b (pc + 3) L st S im Q) : V M d b pc L (.int x :: st) S im Q := by
  intro p l e R s m args below meth c D E A ads H locs cells slots n0 ls C hR hS hn hb1 hb2 hl
  exact lv_if_le C.1.1 C.1.2.1 hd ht (fun h => kt h p l e R s m args below meth c D E A ads H locs cells slots n0 ls C hR hS hn hb1 hb2 hl) (fun h => kf h p l e R s m args below meth c D E A ads H locs cells slots n0 ls C hR hS hn hb1 hb2 hl)
theorem V.icmp_eq {M : XM} {d : Nat} {b : Nat × Nat} {pc : Nat} {L : List (Option Value)} {st : List Value} {S : XS} {im : XI} {Q : Option Value → XS → XI → Prop} {x y : Int32} {off : Int} {tgt : Nat} (hd : decode M.2.1 pc = .ok (.if_icmp .eq off, 3)) (ht : (pc : Int) + off = (tgt : Int)) (kt : x = y → V M d b tgt L st S im Q) (kf : ¬ x = y → V M d b (pc + 3) L st S im Q) : V M d b pc L (.int y :: .int x :: st) S im Q := by
  intro p l e R s m args below meth c D E A ads H locs cells slots n0 ls C hR hS hn hb1 hb2 hl
  exact lv_icmp_eq C.1.1 C.1.2.1 hd ht (fun h => kt h p l e R s m args below meth c D E A ads H locs cells slots n0 ls C hR hS hn hb1 hb2 hl) (fun h => kf h p l e R s m args below meth c D E A ads H locs cells slots n0 ls C hR hS hn hb1 hb2 hl)
theorem V.icmp_ne {M : XM} {d : Nat} {b : Nat × Nat} {pc : Nat} {L : List (Option Value)} {st : List Value} {S : XS} {im : XI} {Q : Option Value → XS → XI → Prop} {x y : Int32} {off : Int} {tgt : Nat} (hd : decode M.2.1 pc = .ok (.if_icmp .ne off, 3)) (ht : (pc : Int) + off = (tgt : Int)) (kt : ¬ x = y → V M d b tgt L st S im Q) (kf : x = y → V M d b (pc + 3) L st S im Q) : V M d b pc L (.int y :: .int x :: st) S im Q := by
  intro p l e R s m args below meth c D E A ads H locs cells slots n0 ls C hR hS hn hb1 hb2 hl
  exact lv_icmp_ne C.1.1 C.1.2.1 hd ht (fun h => kt h p l e R s m args below meth c D E A ads H locs cells slots n0 ls C hR hS hn hb1 hb2 hl) (fun h => kf h p l e R s m args below meth c D E A ads H locs cells slots n0 ls C hR hS hn hb1 hb2 hl)
theorem V.icmp_lt {M : XM} {d : Nat} {b : Nat × Nat} {pc : Nat} {L : List (Option Value)} {st : List Value} {S : XS} {im : XI} {Q : Option Value → XS → XI → Prop} {x y : Int32} {off : Int} {tgt : Nat} (hd : decode M.2.1 pc = .ok (.if_icmp .lt off, 3)) (ht : (pc : Int) + off = (tgt : Int)) (kt : x < y → V M d b tgt L st S im Q) (kf : ¬ x < y → V M d b (pc + 3) L st S im Q) : V M d b pc L (.int y :: .int x :: st) S im Q := by
  intro p l e R s m args below meth c D E A ads H locs cells slots n0 ls C hR hS hn hb1 hb2 hl
  exact lv_icmp_lt C.1.1 C.1.2.1 hd ht (fun h => kt h p l e R s m args below meth c D E A ads H locs cells slots n0 ls C hR hS hn hb1 hb2 hl) (fun h => kf h p l e R s m args below meth c D E A ads H locs cells slots n0 ls C hR hS hn hb1 hb2 hl)
theorem V.icmp_ge {M : XM} {d : Nat} {b : Nat × Nat} {pc : Nat} {L : List (Option Value)} {st : List Value} {S : XS} {im : XI} {Q : Option Value → XS → XI → Prop} {x y : Int32} {off : Int} {tgt : Nat} (hd : decode M.2.1 pc = .ok (.if_icmp .ge off, 3)) (ht : (pc : Int) + off = (tgt : Int)) (kt : y ≤ x → V M d b tgt L st S im Q) (kf : ¬ y ≤ x → V M d b (pc + 3) L st S im Q) : V M d b pc L (.int y :: .int x :: st) S im Q := by
  intro p l e R s m args below meth c D E A ads H locs cells slots n0 ls C hR hS hn hb1 hb2 hl
  exact lv_icmp_ge C.1.1 C.1.2.1 hd ht (fun h => kt h p l e R s m args below meth c D E A ads H locs cells slots n0 ls C hR hS hn hb1 hb2 hl) (fun h => kf h p l e R s m args below meth c D E A ads H locs cells slots n0 ls C hR hS hn hb1 hb2 hl)
theorem V.icmp_gt {M : XM} {d : Nat} {b : Nat × Nat} {pc : Nat} {L : List (Option Value)} {st : List Value} {S : XS} {im : XI} {Q : Option Value → XS → XI → Prop} {x y : Int32} {off : Int} {tgt : Nat} (hd : decode M.2.1 pc = .ok (.if_icmp .gt off, 3)) (ht : (pc : Int) + off = (tgt : Int)) (kt : y < x → V M d b tgt L st S im Q) (kf : ¬ y < x → V M d b (pc + 3) L st S im Q) : V M d b pc L (.int y :: .int x :: st) S im Q := by
  intro p l e R s m args below meth c D E A ads H locs cells slots n0 ls C hR hS hn hb1 hb2 hl
  exact lv_icmp_gt C.1.1 C.1.2.1 hd ht (fun h => kt h p l e R s m args below meth c D E A ads H locs cells slots n0 ls C hR hS hn hb1 hb2 hl) (fun h => kf h p l e R s m args below meth c D E A ads H locs cells slots n0 ls C hR hS hn hb1 hb2 hl)
theorem V.icmp_le {M : XM} {d : Nat} {b : Nat × Nat} {pc : Nat} {L : List (Option Value)} {st : List Value} {S : XS} {im : XI} {Q : Option Value → XS → XI → Prop} {x y : Int32} {off : Int} {tgt : Nat} (hd : decode M.2.1 pc = .ok (.if_icmp .le off, 3)) (ht : (pc : Int) + off = (tgt : Int)) (kt : x ≤ y → V M d b tgt L st S im Q) (kf : ¬ x ≤ y → V M d b (pc + 3) L st S im Q) : V M d b pc L (.int y :: .int x :: st) S im Q := by
  intro p l e R s m args below meth c D E A ads H locs cells slots n0 ls C hR hS hn hb1 hb2 hl
  exact lv_icmp_le C.1.1 C.1.2.1 hd ht (fun h => kt h p l e R s m args below meth c D E A ads H locs cells slots n0 ls C hR hS hn hb1 hb2 hl) (fun h => kf h p l e R s m args below meth c D E A ads H locs cells slots n0 ls C hR hS hn hb1 hb2 hl)
theorem V.nonnull {M : XM} {d : Nat} {b : Nat × Nat} {pc : Nat} {L : List (Option Value)} {st : List Value} {S : XS} {im : XI} {Q : Option Value → XS → XI → Prop} {x : Nat} {off : Int} {tgt : Nat} (hd : decode M.2.1 pc = .ok (.ifnonnull off, 3)) (ht : (pc : Int) + off = (tgt : Int)) (k : V M d b tgt L st S im Q) : V M d b pc L (.ref x :: st) S im Q := by
  intro p l e R s m args below meth c D E A ads H locs cells slots n0 ls C hR hS hn hb1 hb2 hl
  exact lv_ifnonnull C.1.1 C.1.2.1 hd ht (k p l e R s m args below meth c D E A ads H locs cells slots n0 ls C hR hS hn hb1 hb2 hl)
theorem V.nonnullN {M : XM} {d : Nat} {b : Nat × Nat} {pc : Nat} {L : List (Option Value)} {st : List Value} {S : XS} {im : XI} {Q : Option Value → XS → XI → Prop} {off : Int} (hd : decode M.2.1 pc = .ok (.ifnonnull off, 3)) (k : V M d b (pc + 3) L st S im Q) : V M d b pc L (.null :: st) S im Q := by
  intro p l e R s m args below meth c D E A ads H locs cells slots n0 ls C hR hS hn hb1 hb2 hl
  exact lv_ifnonnullN C.1.1 C.1.2.1 hd (k p l e R s m args below meth c D E A ads H locs cells slots n0 ls C hR hS hn hb1 hb2 hl)
theorem V.lookup {M : XM} {d : Nat} {b : Nat × Nat} {pc : Nat} {L : List (Option Value)} {st : List Value} {S : XS} {im : XI} {Q : Option Value → XS → XI → Prop} {dflt : Int} {ps : Array (Int × Int)} {len : Nat} {x : Int32} {off : Int} {tgt : Nat} (hd : decode M.2.1 pc = .ok (.lookupswitch dflt ps, len)) (hp : (ps.toList.zip (ps.toList.drop 1)).all (fun (a, next) => a.1 < next.1) = true) (ho : Op.lookupswitch.offset ps.toList dflt x.toInt = off) (ht : (pc : Int) + off = (tgt : Int)) (k : V M d b tgt L st S im Q) : V M d b pc L (.int x :: st) S im Q := by
  intro p l e R s m args below meth c D E A ads H locs cells slots n0 ls C hR hS hn hb1 hb2 hl
  exact lv_lookup C.1.1 C.1.2.1 hd hp ho ht (k p l e R s m args below meth c D E A ads H locs cells slots n0 ls C hR hS hn hb1 hb2 hl)
theorem V.tableIn {M : XM} {d : Nat} {b : Nat × Nat} {pc : Nat} {L : List (Option Value)} {st : List Value} {S : XS} {im : XI} {Q : Option Value → XS → XI → Prop} {dflt lo hi : Int} {offs : Array Int} {len : Nat} {x : Int32} {off : Int} {tgt : Nat} (hd : decode M.2.1 pc = .ok (.tableswitch dflt lo hi offs, len)) (h1 : ¬ x.toInt < lo) (h2 : ¬ hi < x.toInt) (ho : offs[(x.toInt - lo).toNat]? = some off) (ht : (pc : Int) + off = (tgt : Int)) (k : V M d b tgt L st S im Q) : V M d b pc L (.int x :: st) S im Q := by
  intro p l e R s m args below meth c D E A ads H locs cells slots n0 ls C hR hS hn hb1 hb2 hl
  exact lv_tableIn C.1.1 C.1.2.1 hd h1 h2 ho ht (k p l e R s m args below meth c D E A ads H locs cells slots n0 ls C hR hS hn hb1 hb2 hl)
theorem V.tableOut {M : XM} {d : Nat} {b : Nat × Nat} {pc : Nat} {L : List (Option Value)} {st : List Value} {S : XS} {im : XI} {Q : Option Value → XS → XI → Prop} {dflt lo hi : Int} {offs : Array Int} {len : Nat} {x : Int32} {tgt : Nat} (hd : decode M.2.1 pc = .ok (.tableswitch dflt lo hi offs, len)) (h : x.toInt < lo ∨ hi < x.toInt) (ht : (pc : Int) + dflt = (tgt : Int)) (k : V M d b tgt L st S im Q) : V M d b pc L (.int x :: st) S im Q := by
  intro p l e R s m args below meth c D E A ads H locs cells slots n0 ls C hR hS hn hb1 hb2 hl
  exact lv_tableOut C.1.1 C.1.2.1 hd h ht (k p l e R s m args below meth c D E A ads H locs cells slots n0 ls C hR hS hn hb1 hb2 hl)
-- ===== fields =====
def XF (own : String) (idx ci j : Nat) (ty : FieldType) (fin : Bool) : Prop := ∃ (C : String) (T : u_T) (N : Nat), vwCl[ci]? = some (C, T, N) ∧ j < N ∧ (T j).1 = C ∧ parseFieldDescriptor (T j).2.2.1 = some ty ∧ (T j).2.2.2 = fin ∧
  ((Cond.fieldLink own idx C (T j).2.1 (T j).2.2.1) ∈ xgood ∨ ∃ host, (Cond.fieldLinkNest own idx C (T j).2.1 (T j).2.2.1 host) ∈ xnest)
theorem XF.of {own C : String} {idx ci j N : Nat} {T : u_T} {ty : FieldType} {fin : Bool} (h0 : vwCl[ci]? = some (C, T, N)) (h1 : Nat.blt j N = true) (h2 : (T j).1 = C) (h3 : parseFieldDescriptor (T j).2.2.1 = some ty) (h4 : (T j).2.2.2 = fin) (h5 : (Cond.fieldLink own idx C (T j).2.1 (T j).2.2.1) ∈ xgood) : XF own idx ci j ty fin :=
  ⟨C, T, N, h0, Nat.le_of_ble_eq_true h1, h2, h3, h4, Or.inl h5⟩
theorem XF.ofN {own C host : String} {idx ci j N : Nat} {T : u_T} {ty : FieldType} {fin : Bool} (h0 : vwCl[ci]? = some (C, T, N)) (h1 : Nat.blt j N = true) (h2 : (T j).1 = C) (h3 : parseFieldDescriptor (T j).2.2.1 = some ty) (h4 : (T j).2.2.2 = fin) (h5 : (Cond.fieldLinkNest own idx C (T j).2.1 (T j).2.2.1 host) ∈ xnest) : XF own idx ci j ty fin :=
  ⟨C, T, N, h0, Nat.le_of_ble_eq_true h1, h2, h3, h4, Or.inr ⟨host, h5⟩⟩
def XCl (C : String) (T : u_T) (N ci : Nat) : Prop := (∀ w ∈ u_ws C T N, w ∈ xgood) ∧ ∃ ty : Nat → FieldType, (∀ k, k < N → parseFieldDescriptor (T k).2.2.1 = some (ty k)) ∧ (∀ a, a < N → ∀ b, b < N → a ≠ b → (T a).2.1 ≠ (T b).2.1) ∧ ∀ j, j < N → defaultValue (ty j) = if xref ci j = true then .null else .int 0
theorem xcl_words {C : String} {T : u_T} {N : Nat} (h1 : ∀ w ∈ u_ws C T N, w ∈ tables_1) (h2 : (u_ws C T N).all goodWord = true) : ∀ w ∈ u_ws C T N, w ∈ xgood := fun w hw =>
  List.mem_filter.mpr ⟨List.mem_append_right _ (h1 w hw), List.all_eq_true.mp h2 w hw⟩
theorem xcl_0 : XCl RX0 TX0 3 0 := ⟨xcl_words (by decide +kernel) (by decide +kernel), tyX0, tyX0_ok, nmX0, by decide +kernel⟩
theorem xcl_1 : XCl RX1 TX1 6 1 := ⟨xcl_words (by decide +kernel) (by decide +kernel), tyX1, tyX1_ok, nmX1, by decide +kernel⟩
theorem xcl_2 : XCl RX2 TX2 10 2 := ⟨xcl_words (by decide +kernel) (by decide +kernel), tyX2, tyX2_ok, nmX2, by decide +kernel⟩
theorem xcl_3 : XCl RX3 TX3 4 3 := ⟨xcl_words (by decide +kernel) (by decide +kernel), tyX3, tyX3_ok, nmX3, by decide +kernel⟩
theorem xcl_4 : XCl RX4 TX4 4 4 := ⟨xcl_words (by decide +kernel) (by decide +kernel), tyX4, tyX4_ok, nmX4, by decide +kernel⟩
theorem xcl_5 : XCl RX5 TX5 4 5 := ⟨xcl_words (by decide +kernel) (by decide +kernel), tyX5, tyX5_ok, nmX5, by decide +kernel⟩
theorem xcl_6 : XCl RX6 TX6 2 6 := ⟨xcl_words (by decide +kernel) (by decide +kernel), tyX6, tyX6_ok, nmX6, by decide +kernel⟩
theorem xcl_7 : XCl RX7 TX7 2 7 := ⟨xcl_words (by decide +kernel) (by decide +kernel), tyX7, tyX7_ok, nmX7, by decide +kernel⟩
theorem xcl_8 : XCl RX8 TX8 5 8 := ⟨xcl_words (by decide +kernel) (by decide +kernel), tyX8, tyX8_ok, nmX8, by decide +kernel⟩
theorem xcl_9 : XCl RX9 TX9 8 9 := ⟨xcl_words (by decide +kernel) (by decide +kernel), tyX9, tyX9_ok, nmX9, by decide +kernel⟩
theorem xcl_10 : XCl RX10 TX10 20 10 := ⟨xcl_words (by decide +kernel) (by decide +kernel), tyX10, tyX10_ok, nmX10, by decide +kernel⟩
theorem xcl {ci N : Nat} {C : String} {T : u_T} (h : vwCl[ci]? = some (C, T, N)) : XCl C T N ci := by
  match ci, h with
  | 0, h => cases h; exact xcl_0
  | 1, h => cases h; exact xcl_1
  | 2, h => cases h; exact xcl_2
  | 3, h => cases h; exact xcl_3
  | 4, h => cases h; exact xcl_4
  | 5, h => cases h; exact xcl_5
  | 6, h => cases h; exact xcl_6
  | 7, h => cases h; exact xcl_7
  | 8, h => cases h; exact xcl_8
  | 9, h => cases h; exact xcl_9
  | 10, h => cases h; exact xcl_10
  | n + 11, h => simp at h
theorem V.getf {M : XM} {d : Nat} {b : Nat × Nat} {pc : Nat} {L : List (Option Value)} {st : List Value} {S : XS} {im : XI} {Q : Option Value → XS → XI → Prop} {idx a ci j : Nat} {ty : FieldType} {fin : Bool} (hf : XF M.1.cls idx ci j ty fin) (hsh : S.1[a]? = some (.inl ci)) (hd : decode M.2.1 pc = .ok (.getfield idx, 3)) {v : Value} (hv : ∀ ads, xfv ads ci (S.2 a) (im a) j = conc ads v) (k : V M d b (pc + 3) L (v :: st) S im Q) : V M d b pc L (.ref a :: st) S im Q := by
  intro p l e R s m args below meth c D E A ads H locs cells slots n0 ls C hR hS hn hb1 hb2 hl
  obtain ⟨CC, T, N, h0, h1, h2, h3, h4, h5⟩ := hf
  have hx := xnf_of h0
  have hfs : (xfs ads ci (S.2 a) (im a))[j]? = some (conc ads v) := by rw [xfs_get (by rw [hx]; exact h1), hv]
  have kk := k p l e R s m args below meth c D E A ads H locs cells slots n0 ls C hR hS hn hb1 hb2 hl
  have hin : ∀ w ∈ u_ws CC T N, w ∈ xws M := fun w hw => List.mem_cons_of_mem _ ((xcl h0).1 w hw)
  rcases h5 with h5 | ⟨host, h5⟩
  · exact va_get (D := D) C.1.1 C.1.2.1 C.1.2.2.2.2 hin C.1.2.2.2.1 C.2.2.1.1 hR.1 a (xw_get hsh) h0 j h1 (C.1.2.2.2.2 _ (List.mem_cons_of_mem _ h5)) (fun x h9 => by rw [h2] at h9; exact h9) hfs hd kk
  · exact va_getN (D := D) C.1.1 C.1.2.1 C.1.2.2.2.2 hin C.1.2.2.2.1 C.2.2.1.1 hR.1 a (xw_get hsh) h0 j h1 (va_Nw.use rfl (C.2.2.1.2.1.1 _ h5)) (fun x h9 => by rw [h2] at h9; exact h9) hfs hd kk
theorem V.getI {M : XM} {d : Nat} {b : Nat × Nat} {pc : Nat} {L : List (Option Value)} {st : List Value} {S : XS} {im : XI} {Q : Option Value → XS → XI → Prop} {idx a ci j : Nat} {ty : FieldType} {fin : Bool} (hf : XF M.1.cls idx ci j ty fin) (hr : xref ci j = false) (hsh : S.1[a]? = some (.inl ci)) (hd : decode M.2.1 pc = .ok (.getfield idx, 3)) (k : V M d b (pc + 3) L (.int (im a j) :: st) S im Q) : V M d b pc L (.ref a :: st) S im Q :=
  V.getf hf hsh hd (v := .int (im a j)) (fun ads => by simp [xfv, hr, conc]) k
theorem V.getR {M : XM} {d : Nat} {b : Nat × Nat} {pc : Nat} {L : List (Option Value)} {st : List Value} {S : XS} {im : XI} {Q : Option Value → XS → XI → Prop} {idx a a' ci j : Nat} {ty : FieldType} {fin : Bool} (hf : XF M.1.cls idx ci j ty fin) (hr : xref ci j = true) (hsh : S.1[a]? = some (.inl ci)) (hrm : S.2 a j = some a') (hd : decode M.2.1 pc = .ok (.getfield idx, 3)) (k : V M d b (pc + 3) L (.ref a' :: st) S im Q) : V M d b pc L (.ref a :: st) S im Q :=
  V.getf hf hsh hd (v := .ref a') (fun ads => by simp [xfv, hr, hrm, conc, va_rf]) k
theorem V.getN {M : XM} {d : Nat} {b : Nat × Nat} {pc : Nat} {L : List (Option Value)} {st : List Value} {S : XS} {im : XI} {Q : Option Value → XS → XI → Prop} {idx a ci j : Nat} {ty : FieldType} {fin : Bool} (hf : XF M.1.cls idx ci j ty fin) (hr : xref ci j = true) (hsh : S.1[a]? = some (.inl ci)) (hrm : S.2 a j = none) (hd : decode M.2.1 pc = .ok (.getfield idx, 3)) (k : V M d b (pc + 3) L (.null :: st) S im Q) : V M d b pc L (.ref a :: st) S im Q :=
  V.getf hf hsh hd (v := .null) (fun ads => by simp [xfv, hr, hrm, conc, va_rf]) k
theorem xfs_set {ads : Nat → Nat} {ci j : Nat} {rm rm' : Nat → Option Nat} {im im' : Nat → Int32} {v : Value} (hj : j < xnf ci) (hv : xfv ads ci rm' im' j = v) (ho : ∀ q, q ≠ j → xfv ads ci rm' im' q = xfv ads ci rm im q) : (xfs ads ci rm im).set j v = xfs ads ci rm' im' := by
  apply List.ext_getElem?
  intro i
  by_cases hi : i = j
  · subst hi
    rw [List.getElem?_set_self (by rw [xfs_len]; exact hj), xfs_get hj, hv]
  · rw [List.getElem?_set_ne (Ne.symm hi)]
    by_cases hl : i < xnf ci
    · rw [xfs_get hl, xfs_get hl, ho i hi]
    · rw [List.getElem?_eq_none (by rw [xfs_len]; omega), List.getElem?_eq_none (by rw [xfs_len]; omega)]
theorem V.putf {M : XM} {d : Nat} {b : Nat × Nat} {pc : Nat} {L : List (Option Value)} {st : List Value} {S : XS} {im : XI} {Q : Option Value → XS → XI → Prop} {idx a ci j : Nat} {ty : FieldType} {fin : Bool} (hf : XF M.1.cls idx ci j ty fin) (hfin : fin = true → M.1.name = "<init>" ∧ ∃ T N, vwCl[ci]? = some (M.1.cls, T, N)) {v : Value} (hn9 : ∀ ads, narrow ty (conc ads v) = conc ads v) (hfit : ∀ ads, fits ty (conc ads v) = true) (hsh : S.1[a]? = some (.inl ci)) (hd : decode M.2.1 pc = .ok (.putfield idx, 3)) {S' : XS} {im' : XI} (hs1 : S'.1 = S.1) (ho : ∀ q, q ≠ a → im' q = im q ∧ S'.2 q = S.2 q)
    (hv : ∀ ads, xfv ads ci (S'.2 a) (im' a) j = conc ads v) (hv2 : ∀ ads q, q ≠ j → xfv ads ci (S'.2 a) (im' a) q = xfv ads ci (S.2 a) (im a) q) (k : V M d b (pc + 3) L st S' im' Q) : V M d b pc L (v :: .ref a :: st) S im Q := by
  intro p l e R s m args below meth c D E A ads H locs cells slots n0 ls C hR hS hn hb1 hb2 hl
  obtain ⟨CC, T, N, h0, h1, h2, h3, h4, h5⟩ := hf
  have hx := xnf_of h0
  obtain ⟨hin0, ty0, hty0, hnm, -⟩ := xcl h0
  have hin : ∀ w ∈ u_ws CC T N, w ∈ xws M := fun w hw => List.mem_cons_of_mem _ (hin0 w hw)
  have hj : j < xnf ci := by rw [hx]; exact h1
  have hset : (xw E ads S im).set a (ads a, .inr (ci, (xfs ads ci (S.2 a) (im a)).set j (conc ads v))) = xw E ads S' im' :=
    xw_set hsh hs1 ho (by rw [xfs_set hj (hv ads) (hv2 ads)]; rfl)
  have go : ∀ (H1 : Heap) (locs1 : List Loc), H1.size = H.size → va_P D vwCl ((xw E ads S im).set a (ads a, .inr (ci, (xfs ads ci (S.2 a) (im a)).set j (conc ads v)))) H1 → va_D A ((xw E ads S im).set a (ads a, .inr (ci, (xfs ads ci (S.2 a) (im a)).set j (conc ads v)))) → va_S A s.heap H1 locs1 →
      W p l e R s m args below meth c H1 locs1 cells slots (MQ below (XQ D E A ads n0 Q) args s R.cells R.slots A) (F0 m (pc + 3) ls (st.map (conc ads))) := by
    intro H1 locs1 hz hP1 hD1 hS1
    rw [hset] at hP1 hD1
    exact k p l e R s m args below meth c D E A ads H1 locs1 cells slots n0 ls C ⟨hP1, hD1, fun i hi => by rw [hs1, hz]; exact hR.2.2 i hi⟩ hS1 (by rw [hs1, hz]; exact hn) hb1 hb2 hl
  have hap := va_apart (own := M.1.cls) C.1.2.2.2.2 hin ty0 hty0 hnm C.2.2.1.1 h0
  obtain ⟨r, g1, cell, q1, q2, q3, q4⟩ := hR.1 a _ (xw_get hsh)
  have hr : r = (CC, T, N) := Option.some.inj (g1.symm.trans h0)
  subst hr
  obtain ⟨hSl, hfc, kC, hkC, hkind⟩ := C.2.2.1.1.1 ci _ h0
  obtain ⟨cf, kf, fi, f, hi, hsl⟩ := hSl j h1
  have hlay := C.1.2.2.2.2 _ (hin _ (u_in_lay h1))
  have hst := (u_facts hfc hkC (u_lays C.1.2.2.2.2 hin h1) hi).1
  have hfl : j < (xfs ads ci (S.2 a) (im a)).length := by rw [xfs_len]; exact hj
  have fin2 : ∀ H1 : Heap, H1[ads a]? = some (cell.setSlot (D.2 ci j) (conc ads v)) → (∀ q, q ≠ ads a → H1[q]? = H[q]?) → va_P D vwCl ((xw E ads S im).set a (ads a, .inr (ci, (xfs ads ci (S.2 a) (im a)).set j (conc ads v)))) H1 := fun H1 e1 e3 =>
    hR.1.set hR.2.1 (xw_get hsh) ⟨_, h0, t_OB.to (V := updV (vp_V (xfs ads ci (S.2 a) (im a))) j (conc ads v)) ⟨_, e1, q2, q3, t_set q4 hap h1 (conc ads v)⟩ (fun j' _ => vp_updV_set hfl (conc ads v) j')⟩ e3
  have hslot : f.slot < cell.slots.size := by rw [hsl]; exact k2_hasslot (q4 j h1)
  have aA : A (ads a) := hR.2.1.2 a _ (xw_get hsh)
  have hnar := u_fits (args := args) hfc hkC hkind (u_lays C.1.2.2.2.2 hin h1) hi h3 (hn9 ads) (hfit ads)
  have hkn : cell.vm ≠ .unknown := by rw [q3]; exact fun h => by cases h
  have hfits : s.fitsSlot cell.cls cell.vm f.slot (conc ads v) = true := by rw [q2, q3]; exact hnar.2
  have hfinal : hasFlag f.accessFlags Acc.final = false ∨ (m.cls = cf ∧ meth.name = "<init>") := by
    unfold u_lay at hlay
    cases hfc2 : fin with
    | false =>
      rw [if_neg (by rw [h4, hfc2]; decide)] at hlay
      exact Or.inl (u_store hfc hkC hkind hlay hi h3 (hn9 ads) (hfit ads)).1
    | true =>
      rw [if_pos (by rw [h4, hfc2])] at hlay
      right
      obtain ⟨e1, T2, N2, e2⟩ := hfin hfc2
      refine ⟨?_, C.2.1.2.2.trans e1⟩
      have e3 : CC = M.1.cls := by rw [h0] at e2; exact congrArg Prod.fst (Option.some.inj e2)
      obtain ⟨_, _, c', _, _, _, -, -, hf', -, -, -, hown2, -⟩ := Cond.laysFinal_spec hlay
      have e4 : c' = cf := by have := hi.symm.trans hf'; simp at this; exact this.1.symm
      rw [h2, e3] at hown2
      rw [← e4]; exact Option.some.inj (C.1.2.2.2.1.symm.trans hown2)
  have hp8 : (H.setIfInBounds (ads a) (cell.setSlot f.slot (conc ads v))).size = H.size := by simp
  have hp7 : ∀ q, q ≠ ads a → (H.setIfInBounds (ads a) (cell.setSlot f.slot (conc ads v)))[q]? = H[q]? := by
    intro q hq
    simp [Array.getElem?_setIfInBounds, Ne.symm hq]
  have kk := go (H.setIfInBounds (ads a) (cell.setSlot f.slot (conc ads v))) (locs ++ [⟨ads a, f.slot⟩]) hp8
    (fin2 _ (by
      rw [← hsl]
      have ha : ads a < H.size := (Array.getElem?_eq_some_iff.mp q1).1
      simp [Array.getElem?_setIfInBounds, ha]) hp7) (hR.2.1.set (xw_get hsh)) (hS.put hp8 hp7 aA)
  rcases h5 with h5 | ⟨host, h5⟩
  · exact W.putf C.1.1 C.1.2.1 C.1.2.2.2.1 (C.1.2.2.2.2 _ (List.mem_cons_of_mem _ h5)) (by rw [h2] at hi; exact hi) hst hfinal q1 hkn hslot hnar.1 hfits rfl rfl hd kk
  · exact va_Wputf C.1.1 C.1.2.1 C.1.2.2.2.1 (va_Nw.use rfl (C.2.2.1.2.1.1 _ h5)) (by rw [h2] at hi; exact hi) hst hfinal q1 hkn hslot hnar.1 hfits rfl rfl hd kk
theorem V.putI {M : XM} {d : Nat} {b : Nat × Nat} {pc : Nat} {L : List (Option Value)} {st : List Value} {S : XS} {im : XI} {Q : Option Value → XS → XI → Prop} {idx a ci j : Nat} {fin : Bool} (hf : XF M.1.cls idx ci j .int fin) (hfin : fin = true → M.1.name = "<init>" ∧ ∃ T N, vwCl[ci]? = some (M.1.cls, T, N)) (hr : xref ci j = false) {x : Int32} (hsh : S.1[a]? = some (.inl ci)) (hd : decode M.2.1 pc = .ok (.putfield idx, 3)) (k : V M d b (pc + 3) L st S (xup im a j x) Q) : V M d b pc L (.int x :: .ref a :: st) S im Q :=
  V.putf hf hfin (fun _ => rfl) (fun _ => rfl) hsh hd rfl (fun q hq => ⟨by funext k'; simp [xup, hq], rfl⟩) (fun ads => by simp [xfv, hr, xup, conc]) (fun ads q hq => by simp [xfv, xup, hq]) k
theorem V.putZ {M : XM} {d : Nat} {b : Nat × Nat} {pc : Nat} {L : List (Option Value)} {st : List Value} {S : XS} {im : XI} {Q : Option Value → XS → XI → Prop} {idx a ci j : Nat} {fin : Bool} (hf : XF M.1.cls idx ci j .boolean fin) (hfin : fin = true → M.1.name = "<init>" ∧ ∃ T N, vwCl[ci]? = some (M.1.cls, T, N)) (hr : xref ci j = false) {x : Int32} (hz : x = 0 ∨ x = 1) (hsh : S.1[a]? = some (.inl ci)) (hd : decode M.2.1 pc = .ok (.putfield idx, 3)) (k : V M d b (pc + 3) L st S (xup im a j x) Q) : V M d b pc L (.int x :: .ref a :: st) S im Q :=
  V.putf hf hfin (fun _ => by rcases hz with rfl | rfl <;> rfl) (fun _ => by rcases hz with rfl | rfl <;> rfl) hsh hd rfl (fun q hq => ⟨by funext k'; simp [xup, hq], rfl⟩) (fun ads => by simp [xfv, hr, xup, conc]) (fun ads q hq => by simp [xfv, xup, hq]) k
theorem V.putR {M : XM} {d : Nat} {b : Nat × Nat} {pc : Nat} {L : List (Option Value)} {st : List Value} {S : XS} {im : XI} {Q : Option Value → XS → XI → Prop} {idx a a' ci j : Nat} {ty : FieldType} {fin : Bool} (hf : XF M.1.cls idx ci j ty fin) (hfin : fin = true → M.1.name = "<init>" ∧ ∃ T N, vwCl[ci]? = some (M.1.cls, T, N)) (hr : xref ci j = true) (hty : refKind ty = true) (hsh : S.1[a]? = some (.inl ci)) (hd : decode M.2.1 pc = .ok (.putfield idx, 3)) (k : V M d b (pc + 3) L st (S.1, xur S.2 a j (some a')) im Q) : V M d b pc L (.ref a' :: .ref a :: st) S im Q :=
  V.putf (S' := (S.1, xur S.2 a j (some a'))) (im' := im) hf hfin (fun _ => by cases ty <;> first | rfl | (simp [refKind] at hty)) (fun _ => by cases ty <;> first | rfl | (simp [refKind] at hty)) hsh hd rfl (fun q hq => ⟨rfl, by funext k'; simp [xur, hq]⟩) (fun ads => by simp [xfv, hr, xur, conc, va_rf]) (fun ads q hq => by simp [xfv, xur, hq]) k
end
section
-- ===== arrays =====
theorem xin_of {i n : Nat} (h : i < n) (hn : Nat.blt n 100000 = true) : vp_in (nI i) n ∧ (nI i).toNatClampNeg = i := by
  have hn : n < 100000 := Nat.le_of_ble_eq_true hn
  exact ⟨vp_in_nI h (by omega), nI_clamp (by omega)⟩
/-- an int array -/
def XA (S : XS) (a n : Nat) : Prop := S.1[a]? = some (.inr (.inl n)) ∧ Nat.blt n 100000 = true
theorem V.iald {M : XM} {d : Nat} {b : Nat × Nat} {pc : Nat} {L : List (Option Value)} {st : List Value} {S : XS} {im : XI} {Q : Option Value → XS → XI → Prop} {a n i : Nat} {x : Int32} (ha : XA S a n) (hx : x = nI i) (hi : i < n) (hd : decode M.2.1 pc = .ok (.iaload, 1)) (k : V M d b (pc + 1) L (.int (im a i) :: st) S im Q) : V M d b pc L (.int x :: .ref a :: st) S im Q := by
  intro p l e R s m args below meth c D E A ads H locs cells slots n0 ls C hR hS hn hb1 hb2 hl
  subst hx
  obtain ⟨h1, h2⟩ := xin_of hi ha.2
  have kk := k p l e R s m args below meth c D E A ads H locs cells slots n0 ls C hR hS hn hb1 hb2 hl
  refine va_iald (D := D) C.1.1 C.1.2.1 C.2.2.1.1 hR.1 a 0 (xw_get ha.1) (by rfl) h1 hd ?_
  rw [h2]
  exact kk
theorem V.alen {M : XM} {d : Nat} {b : Nat × Nat} {pc : Nat} {L : List (Option Value)} {st : List Value} {S : XS} {im : XI} {Q : Option Value → XS → XI → Prop} {a n : Nat} (ha : XA S a n) (hd : decode M.2.1 pc = .ok (.arraylength, 1)) (k : V M d b (pc + 1) L (.int (nI n) :: st) S im Q) : V M d b pc L (.ref a :: st) S im Q := by
  intro p l e R s m args below meth c D E A ads H locs cells slots n0 ls C hR hS hn hb1 hb2 hl
  exact va_alen (D := D) C.1.1 C.1.2.1 C.2.2.1.1 hR.1 a 0 (xw_get ha.1) (ty := .int) (by rfl) rfl hd (k p l e R s m args below meth c D E A ads H locs cells slots n0 ls C hR hS hn hb1 hb2 hl)
theorem V.iast {M : XM} {d : Nat} {b : Nat × Nat} {pc : Nat} {L : List (Option Value)} {st : List Value} {S : XS} {im : XI} {Q : Option Value → XS → XI → Prop} {a n i : Nat} {x y : Int32} (ha : XA S a n) (hx : x = nI i) (hi : i < n) (hd : decode M.2.1 pc = .ok (.iastore, 1)) (k : V M d b (pc + 1) L st S (xup im a i y) Q) : V M d b pc L (.int y :: .int x :: .ref a :: st) S im Q := by
  intro p l e R s m args below meth c D E A ads H locs cells slots n0 ls C hR hS hn hb1 hb2 hl
  subst hx
  obtain ⟨h1, h2⟩ := xin_of hi ha.2
  obtain ⟨arr, hcell⟩ : ∃ z, z = (vp_cell (E 0) (n, .inl (im a))) := ⟨_, rfl⟩
  have hset : (xw E ads S im).set a (ads a, .inl (E 0, (n, .inl (upd (im a) i y)))) = xw E ads S (xup im a i y) :=
    xw_set ha.1 rfl (fun q hq => ⟨by funext k'; simp [xup, hq], rfl⟩) (by
      refine congrArg (fun f => Sum.inl (E 0, (n, Sum.inl f))) ?_
      funext k'
      simp [xup, upd])
  have hlt : (nI i).toNatClampNeg < n := by rw [h2]; exact hi
  refine W.iast C.1.1 C.1.2.1 (hR.1 a _ (xw_get ha.1)) ((C.2.2.1.1.2 0 _ rfl).1 n (fun j => .int (im a j))) (fun q => by cases q) (by show ¬ (nI i < 0 ∨ (arrV _ _ _).slots.size ≤ _); rw [arrV_size]; exact h1) rfl rfl hd fun H1 e1 z oq => ?_
  have hP1 := hR.1.set (e := .inl (E 0, (n, .inl (upd (im a) i y)))) hR.2.1 (xw_get ha.1) (by
    show H1[ads a]? = some (vp_cell _ _)
    rw [e1]
    show some (Cell.setSlot (vp_cell _ _) _ _) = _
    rw [vp_cell_i, vp_cell_i, arrV_store, h2]
    congr 2
    funext q
    by_cases hq : q = i
    · subst hq
      simp [updV, upd]
    · simp [updV, upd, hq]) oq
  have hD1 := hR.2.1.set (e := .inl (E 0, (n, .inl (upd (im a) i y)))) (xw_get ha.1)
  rw [hset] at hP1 hD1
  exact k p l e R s m args below meth c D E A ads H1 _ cells slots n0 ls C ⟨hP1, hD1, fun i' hi' => by rw [z]; exact hR.2.2 i' hi'⟩ (hS.put z oq (hR.2.1.2 a _ (xw_get ha.1))) (by rw [z]; exact hn) hb1 hb2 hl
/-- an array of references: to objects of kind t -/
def XG (S : XS) (a t n : Nat) : Prop := S.1[a]? = some (.inr (.inr (t, n))) ∧ Nat.blt n 100000 = true ∧ Nat.blt t 3 = true
theorem V.aald {M : XM} {d : Nat} {b : Nat × Nat} {pc : Nat} {L : List (Option Value)} {st : List Value} {S : XS} {im : XI} {Q : Option Value → XS → XI → Prop} {a a' t n i : Nat} {x : Int32} (ha : XG S a t n) (hx : x = nI i) (hi : i < n) (hr : S.2 a i = some a') (hd : decode M.2.1 pc = .ok (.aaload, 1)) (k : V M d b (pc + 1) L (.ref a' :: st) S im Q) : V M d b pc L (.int x :: .ref a :: st) S im Q := by
  intro p l e R s m args below meth c D E A ads H locs cells slots n0 ls C hR hS hn hb1 hb2 hl
  subst hx
  obtain ⟨h1, h2⟩ := xin_of hi ha.2.1
  have kk := k p l e R s m args below meth c D E A ads H locs cells slots n0 ls C hR hS hn hb1 hb2 hl
  refine va_aldq (D := D) C.1.1 C.1.2.1 C.2.2.1.1 hR.1 a (t + 1) (xw_get ha.1) (xtys_get (Nat.le_of_ble_eq_true ha.2.2)) h1 hd ?_
  rw [h2]
  simp only [hr, Option.map_some, va_rf]
  exact kk
theorem V.aast {M : XM} {d : Nat} {b : Nat × Nat} {pc : Nat} {L : List (Option Value)} {st : List Value} {S : XS} {im : XI} {Q : Option Value → XS → XI → Prop} {a a' t n i ci N : Nat} {T : u_T} {x : Int32} (ha : XG S a t n) (hx : x = nI i) (hi : i < n) (hsh : S.1[a']? = some (.inl ci)) (hc : vwCl[ci]? = some (xel t, T, N)) (hd : decode M.2.1 pc = .ok (.aastore, 1)) (k : V M d b (pc + 1) L st (S.1, xur S.2 a i (some a')) im Q) : V M d b pc L (.ref a' :: .int x :: .ref a :: st) S im Q := by
  intro p l e R s m args below meth c D E A ads H locs cells slots n0 ls C hR hS hn hb1 hb2 hl
  subst hx
  obtain ⟨h1, h2⟩ := xin_of hi ha.2.1
  have hset : (xw E ads S im).set a (ads a, .inl (E (t + 1), (n, .inr (.inr (.inr (.inr (va_up (fun j => (S.2 a j).map ads) i (some (ads a'))))))))) = xw E ads (S.1, xur S.2 a i (some a')) im :=
    xw_set (S' := (S.1, xur S.2 a i (some a'))) (im' := im) ha.1 rfl (fun q hq => ⟨rfl, by funext k'; simp [xur, hq]⟩) (by
      refine congrArg (fun f => Sum.inl (E (t + 1), (n, Sum.inr (Sum.inr (Sum.inr (Sum.inr f)))))) ?_
      funext k'
      by_cases hk : k' = i
      · simp [xur, va_up, hk]
      · simp [xur, va_up, hk])
  have ht := xtys_get (E := E) (Nat.le_of_ble_eq_true ha.2.2)
  have hlt : (nI i).toNatClampNeg < n := by rw [h2]; exact hi
  obtain ⟨r', hr', cellV, g1, g2, g3, -⟩ := hR.1 a' _ (xw_get hsh)
  have hcls := (C.2.2.1.1.1 ci _ hc).2
  obtain ⟨kA, comp, k1, k2, k3, -⟩ := (C.2.2.1.1.2 _ _ ht).2
  have hcomp : comp = D.1 ci := Option.some.inj (k3.symm.trans hcls.1)
  subst hcomp
  obtain ⟨kC, hkC, -⟩ := hcls.2
  refine W.aast C.1.1 C.1.2.1 (hR.1 a _ (xw_get ha.1)) (fun q h => by cases h) (fun h => by cases h) k1 k2 rfl hkC ⟨fun q => h1 (Or.inl q), by show _ < (arrV _ _ _).slots.size; rw [arrV_size]; exact hlt⟩ g1 (fun q h => by rw [g3] at h; cases h) (by rw [g2]; exact hkC) (by rw [g2]; exact va_assign hcls) rfl rfl hd fun H1 e1 z oq => ?_
  have hP1 := hR.1.set (e := .inl (E (t + 1), (n, .inr (.inr (.inr (.inr (va_up (fun j => (S.2 a j).map ads) i (some (ads a'))))))))) hR.2.1 (xw_get ha.1) (by
    show H1[ads a]? = some (vp_cell _ _)
    rw [e1]
    show some (Cell.setSlot (vp_cell _ _) _ _) = _
    rw [vp_cell_q, vp_cell_q, arrV_store, h2]
    congr 2
    funext q
    by_cases hq : q = i
    · subst hq
      simp [updV, va_up, va_rf, conc]
    · simp [updV, va_up, hq]) oq
  have hD1 := hR.2.1.set (e := .inl (E (t + 1), (n, .inr (.inr (.inr (.inr (va_up (fun j => (S.2 a j).map ads) i (some (ads a'))))))))) (xw_get ha.1)
  rw [hset] at hP1 hD1
  exact k p l e R s m args below meth c D E A ads H1 _ cells slots n0 ls C ⟨hP1, hD1, fun i' hi' => by rw [z]; exact hR.2.2 i' hi'⟩ (hS.put z oq (hR.2.1.2 a _ (xw_get ha.1))) (by rw [z]; exact hn) hb1 hb2 hl
/-- System.arraycopy between rows of ints -/
theorem V.copy {M : XM} {d : Nat} {b : Nat × Nat} {pc : Nat} {L : List (Option Value)} {st : List Value} {S : XS} {im : XI} {Q : Option Value → XS → XI → Prop} {idx a0 a1 n0' n1' sp dp m' : Nat} {x y z : Int32} (hL : L.length = M.2.2.1) (hlk : Cond.methodLink M.1.cls idx arraycopyName ∈ xgood) (hnat : Cond.native arraycopyName ∈ xgood) (hstat : Cond.static arraycopyName ∈ xgood) (hini : Cond.initialized "java/lang/System" ∈ xgood) (ha0 : XA S a0 n0') (ha1 : XA S a1 n1') (hx : x = nI sp) (hy : y = nI dp) (hz : z = nI m') (h4 : sp + m' ≤ n0') (h5 : dp + m' ≤ n1') (hst : st = [])
    (hd : decode M.2.1 pc = .ok (.invokestatic idx, 3)) (k : V M (d + 1) b (pc + 3) L st S (xcp im a0 sp a1 dp m') Q) : V M (d + 1) b pc L (.int z :: .int y :: .ref a1 :: .int x :: .ref a0 :: st) S im Q := by
  intro p l e R s m args below meth c D E A ads H locs cells slots n0 ls C hR hS hn hb1 hb2 hl
  subst hx; subst hy; subst hz; subst hst
  have b0 : n0' < 100000 := Nat.le_of_ble_eq_true ha0.2
  have b1' : n1' < 100000 := Nat.le_of_ble_eq_true ha1.2
  have hset : (xw E ads S im).set a1 (ads a1, .inl (E 0, (n1', .inl (va_cpy (im a0) (im a1) sp dp m')))) = xw E ads S (xcp im a0 sp a1 dp m') :=
    xw_set ha1.1 rfl (fun q hq => ⟨by funext k'; simp [xcp, hq], rfl⟩) (by
      refine congrArg (fun f => Sum.inl (E 0, (n1', Sum.inl f))) ?_
      funext k'
      simp [xcp, va_cpy])
  have hw : ∀ w, w ∈ xgood → w.before args s = true := fun w h => C.1.2.2.2.2 w (List.mem_cons_of_mem _ h)
  have cl : ∀ {j : Nat}, j < 100000 → (nI j).toNatClampNeg = j := fun h => nI_clamp (by omega)
  have hc0 : H[ads a0]? = some (vp_cell (E 0) (n0', .inl (im a0))) := hR.1 a0 _ (xw_get ha0.1)
  have hc1 : H[ads a1]? = some (vp_cell (E 0) (n1', .inl (im a1))) := hR.1 a1 _ (xw_get ha1.1)
  obtain ⟨-, k0, hk0, cm0, hkk0⟩ := (C.2.2.1.1.2 0 _ rfl).1 n0' (fun j => .int (im a0 j))
  obtain ⟨-, k1, hk1, cm1, hkk1⟩ := (C.2.2.1.1.2 0 _ rfl).1 n1' (fun j => .int (im a1 j))
  have p1 : ¬ nI sp < 0 := nI_pos (by omega)
  have p2 : ¬ nI dp < 0 := nI_pos (by omega)
  have p3 : ¬ nI m' < 0 := nI_pos (by omega)
  intro T hT X
  obtain ⟨vm', X', step⟩ := X.arraycopy C.1.1 C.1.2.2.2.1 (hw _ hlk) (hw _ hnat) (hw _ hstat) (hw _ hini) (src := ads a0) (dst := ads a1) (cs := vp_cell (E 0) (n0', .inl (im a0))) (cd := vp_cell (E 0) (n1', .inl (im a1))) (srcPos := nI sp) (destPos := nI dp) (n := nI m') (by rw [hT]; exact hc0) (by rw [hT]; exact hc1)
    (fun _ h => by cases h) (fun _ h => by cases h) (fun h => by cases h) (fun h => by cases h) hk0 hk1 hkk0 hkk1 (by rfl) p1 p2 p3
    (by rw [nI_toInt (by omega), nI_toInt (by omega)]; show ¬ _ > ((arrV (E 0) n0' (fun j => .int (im a0 j))).slots.size : Int); rw [arrV_size]; omega)
    (by rw [nI_toInt (by omega), nI_toInt (by omega)]; show ¬ _ > ((arrV (E 0) n1' (fun j => .int (im a1 j))).slots.size : Int); rw [arrV_size]; omega)
    (fun vm₁ _ i hi => by
      rw [cl (by omega)] at hi ⊢
      have e9 : (vp_cell (E 0) (n0', .inl (im a0))).slots.getD (sp + i) .null = .int (im a0 (sp + i)) := by
        show (arrV (E 0) n0' (fun j => .int (im a0 j))).slots.getD _ _ = _
        rw [Array.getD_eq_getD_getElem?, arrV_read _ _ (by omega)]
        rfl
      refine ⟨?_, ?_⟩
      · rw [e9]; rfl
      · rw [e9]; exact trivial)
    (g := F0 m pc ls ((Value.int (nI m') :: .int (nI dp) :: .ref a1 :: .int (nI sp) :: .ref a0 :: []).map (conc ads))) rfl (by rw [C.1.2.2.1, ← hL]; exact hl.1) (rest := []) rfl (by rw [C.1.2.1]; exact hd) (by rw [C.2.2.2.2.1]; omega) (by rw [C.2.2.2.2.2]; exact Nat.le_trans (m := 64) (Nat.le_of_ble_eq_true rfl) (by omega))
  have e1 : copied (vp_cell (E 0) (n0', .inl (im a0))) (vp_cell (E 0) (n1', .inl (im a1))) (nI sp) (nI dp) (nI m') = vp_cell (E 0) (n1', .inl (va_cpy (im a0) (im a1) sp dp m')) := by
    have e2 : copied (vp_cell (E 0) (n0', .inl (im a0))) (vp_cell (E 0) (n1', .inl (im a1))) (nI sp) (nI dp) (nI m') = vp_cell (E 0) (n1', .inl (va_cpy (im a0) (im a1) (nI sp).toNatClampNeg (nI dp).toNatClampNeg (nI m').toNatClampNeg)) := va_copied (fun z => Value.int z) (E 0) (E 0) (im a0) (im a1) (by rw [cl (by omega), cl (by omega)]; exact h4)
    rw [cl (j := sp) (by omega), cl (j := dp) (by omega), cl (j := m') (by omega)] at e2
    exact e2
  rw [e1] at X' step
  have hlt : ads a1 < H.size := (Array.getElem?_eq_some_iff.mp hc1).1
  have hheap : ((T.setVm vm').setCell (ads a1) (vp_cell (E 0) (n1', .inl (va_cpy (im a0) (im a1) sp dp m')))).heap = H.setIfInBounds (ads a1) (vp_cell (E 0) (n1', .inl (va_cpy (im a0) (im a1) sp dp m'))) := by rw [← hT]; rfl
  have oq : ∀ q : Nat, q ≠ ads a1 → (H.setIfInBounds (ads a1) (vp_cell (E 0) (n1', .inl (va_cpy (im a0) (im a1) sp dp m'))))[q]? = H[q]? := fun q hq => by simp [Array.getElem?_setIfInBounds, Ne.symm hq]
  have hP1 := hR.1.set (e := .inl (E 0, (n1', .inl (va_cpy (im a0) (im a1) sp dp m')))) hR.2.1 (xw_get ha1.1) (show (H.setIfInBounds (ads a1) _)[ads a1]? = some _ by simp [Array.getElem?_setIfInBounds, hlt]) oq
  have hD1 := hR.2.1.set (e := .inl (E 0, (n1', .inl (va_cpy (im a0) (im a1) sp dp m')))) (xw_get ha1.1)
  rw [hset] at hP1 hD1
  have aA : A (ads a1) := hR.2.1.2 a1 _ (xw_get ha1.1)
  obtain ⟨t, a9, b9⟩ := k p l e R s m args below meth c D E A ads _ _ cells slots n0 ls C ⟨hP1, hD1, fun i' hi' => by rw [Array.size_setIfInBounds]; exact hR.2.2 i' hi'⟩ ⟨by rw [Array.size_setIfInBounds]; exact hS.1, fun q g1 g2 => by
      rw [oq q (fun e => g2 (by rw [e]; exact aA))]
      exact hS.2.1 q g1 g2, fun q hq => by
      rcases List.mem_append.mp hq with h | h
      · exact hS.2.2 q h
      · obtain ⟨z, -, hz⟩ := List.mem_map.mp h
        rw [← hz]
        exact aA⟩ (by rw [Array.size_setIfInBounds]; exact hn) hb1 hb2 hl _ hheap X'
  exact ⟨t, step t a9, b9⟩
-- ===== the static tables =====
theorem V.kabove {M : XM} {d : Nat} {b : Nat × Nat} {pc : Nat} {L : List (Option Value)} {st : List Value} {S : XS} {im : XI} {Q : Option Value → XS → XI → Prop} {idx : Nat} (hw : (Cond.fieldLink M.1.cls idx RX9 "KIND_ABOVE" "[I") ∈ xgood) (hd : decode M.2.1 pc = .ok (.getstatic idx, 3)) (k : V M d b (pc + 3) L (.ref xKA :: st) S im Q) : V M d b pc L st S im Q := by
  intro p l e R s m args below meth c D E A ads H locs cells slots n0 ls C hR hS hn hb1 hb2 hl
  exact va_gets C.1.1 C.1.2.1 C.2.2.1.2.2.1 hS C.1.2.2.2.1 (C.1.2.2.2.2 _ (List.mem_cons_of_mem _ hw)) (fun _ h => h) hd (k p l e R s m args below meth c D E A ads H locs cells slots n0 ls C hR hS hn hb1 hb2 hl)
theorem V.names {M : XM} {d : Nat} {b : Nat × Nat} {pc : Nat} {L : List (Option Value)} {st : List Value} {S : XS} {im : XI} {Q : Option Value → XS → XI → Prop} {idx : Nat} {host : String} (hw : (Cond.fieldLinkNest M.1.cls idx RX9 "NAMES" "[C" host) ∈ xnest) (hd : decode M.2.1 pc = .ok (.getstatic idx, 3)) (k : V M d b (pc + 3) L (.ref xNA :: st) S im Q) : V M d b pc L st S im Q := by
  intro p l e R s m args below meth c D E A ads H locs cells slots n0 ls C hR hS hn hb1 hb2 hl
  exact va_getsN C.1.1 C.1.2.1 C.2.2.1.2.2.2.2.1 hS C.1.2.2.2.1 (va_Nw.use rfl (C.2.2.1.2.1.1 _ hw)) (fun _ h => h) hd (k p l e R s m args below meth c D E A ads H locs cells slots n0 ls C hR hS hn hb1 hb2 hl)
theorem V.kald {M : XM} {d : Nat} {b : Nat × Nat} {pc : Nat} {L : List (Option Value)} {st : List Value} {S : XS} {im : XI} {Q : Option Value → XS → XI → Prop} {i : Nat} {x : Int32} (hx : x = nI i) (hi : i < 7) (hd : decode M.2.1 pc = .ok (.iaload, 1)) (k : V M d b (pc + 1) L (.int (kab i) :: st) S im Q) : V M d b pc L (.int x :: .ref xKA :: st) S im Q := by
  intro p l e R s m args below meth c D E A ads H locs cells slots n0 ls C hR hS hn hb1 hb2 hl
  subst hx
  obtain ⟨h1, h2⟩ := xin_of hi (by rfl)
  exact va_ti C.1.1 C.1.2.1 C.2.2.1.2.2.2.1 hS h1 (by rw [h2]; rfl) hd (k p l e R s m args below meth c D E A ads H locs cells slots n0 ls C hR hS hn hb1 hb2 hl)
theorem V.nald {M : XM} {d : Nat} {b : Nat × Nat} {pc : Nat} {L : List (Option Value)} {st : List Value} {S : XS} {im : XI} {Q : Option Value → XS → XI → Prop} {i : Nat} {x : Int32} (hx : x = nI i) (hi : i < 6) (hd : decode M.2.1 pc = .ok (.caload, 1)) (k : V M d b (pc + 1) L (.int (nms i) :: st) S im Q) : V M d b pc L (.int x :: .ref xNA :: st) S im Q := by
  intro p l e R s m args below meth c D E A ads H locs cells slots n0 ls C hR hS hn hb1 hb2 hl
  subst hx
  obtain ⟨h1, h2⟩ := xin_of hi (by rfl)
  exact va_tc C.1.1 C.1.2.1 C.2.2.1.2.2.2.2.2 hS h1 (by rw [h2]; rfl) hd (k p l e R s m args below meth c D E A ads H locs cells slots n0 ls C hR hS hn hb1 hb2 hl)
theorem V.nlen {M : XM} {d : Nat} {b : Nat × Nat} {pc : Nat} {L : List (Option Value)} {st : List Value} {S : XS} {im : XI} {Q : Option Value → XS → XI → Prop} (hd : decode M.2.1 pc = .ok (.arraylength, 1)) (k : V M d b (pc + 1) L (.int 6 :: st) S im Q) : V M d b pc L (.ref xNA :: st) S im Q := by
  intro p l e R s m args below meth c D E A ads H locs cells slots n0 ls C hR hS hn hb1 hb2 hl
  exact va_tlen C.1.1 C.1.2.1 C.2.2.1.2.2.2.2.2 hS (by rfl) hd (k p l e R s m args below meth c D E A ads H locs cells slots n0 ls C hR hS hn hb1 hb2 hl)
-- ===== returns =====
theorem V.done {M : XM} {d : Nat} {b : Nat × Nat} {pc : Nat} {L : List (Option Value)} {st : List Value} {S : XS} {im : XI} {Q : Option Value → XS → XI → Prop} {v : Option Value} (hq : Q v S im) {D : va_G} {E : Nat → ClassId} {A : Nat → Prop} {ads : Nat → Nat} {H : Heap} {locs : List Loc} {s : State} {args : Array Value} {n0 : Nat} (hR : XR D E ads A b S im H) (hS : va_S A s.heap H locs) (hn : H.size + n0 = s.heap.size + S.1.length) : ∀ t : State, t.heap = H → s.WarmedH t.vm → XQ D E A ads n0 Q args s (.returned (v.map (conc ads))) t := by
  intro t ht _
  subst ht
  exact ⟨⟨v, S, im, rfl, hq, hR.1, hR.2.1, hn⟩, hS.F rfl⟩
theorem V.iret {M : XM} {d : Nat} {b : Nat × Nat} {pc : Nat} {L : List (Option Value)} {st : List Value} {S : XS} {im : XI} {Q : Option Value → XS → XI → Prop} {x : Int32} (hr : M.2.2.2 = some .int) (hd : decode M.2.1 pc = .ok (.ireturn, 1)) (hq : Q (some (.int x)) S im) : V M d b pc L [.int x] S im Q := by
  intro p l e R s m args below meth c D E A ads H locs cells slots n0 ls C hR hS hn hb1 hb2 hl
  refine W.widen (k := R.cells) (n := R.slots) (by omega) (by omega) ?_
  exact W.iret (v := x) C.1.1 C.1.2.1 (C.2.1.1.trans hr) (V.done (M := M) (d := d) (pc := pc) (L := L) (st := []) (v := some (.int x)) hq hR hS hn) hS.2.2 hd C.2.1.2.1
theorem V.zret {M : XM} {d : Nat} {b : Nat × Nat} {pc : Nat} {L : List (Option Value)} {st : List Value} {S : XS} {im : XI} {Q : Option Value → XS → XI → Prop} {x : Int32} (hr : M.2.2.2 = some .boolean) (hz : x = 0 ∨ x = 1) (hd : decode M.2.1 pc = .ok (.ireturn, 1)) (hq : Q (some (.int x)) S im) : V M d b pc L [.int x] S im Q := by
  intro p l e R s m args below meth c D E A ads H locs cells slots n0 ls C hR hS hn hb1 hb2 hl
  refine W.widen (k := R.cells) (n := R.slots) (by omega) (by omega) ?_
  exact W.zret (v := x) C.1.1 C.1.2.1 (C.2.1.1.trans hr) (by rcases hz with rfl | rfl <;> rfl) (V.done (M := M) (d := d) (pc := pc) (L := L) (st := []) (v := some (.int x)) hq hR hS hn) hS.2.2 hd C.2.1.2.1
theorem V.aret {M : XM} {d : Nat} {b : Nat × Nat} {pc : Nat} {L : List (Option Value)} {st : List Value} {S : XS} {im : XI} {Q : Option Value → XS → XI → Prop} {a : Nat} {rt : FieldType} (hr : M.2.2.2 = some rt) (hrt : (∃ n, rt = .object n) ∨ ∃ t, rt = .array t) (hd : decode M.2.1 pc = .ok (.areturn, 1)) (hq : Q (some (.ref a)) S im) : V M d b pc L [.ref a] S im Q := by
  intro p l e R s m args below meth c D E A ads H locs cells slots n0 ls C hR hS hn hb1 hb2 hl
  refine W.widen (k := R.cells) (n := R.slots) (by omega) (by omega) ?_
  exact W.aret (v := .ref (ads a)) C.1.1 C.1.2.1 (C.2.1.1.trans hr) hrt (Or.inr ⟨_, rfl⟩) (V.done (M := M) (d := d) (pc := pc) (L := L) (st := []) (v := some (.ref a)) hq hR hS hn) hS.2.2 hd C.2.1.2.1
theorem V.vret {M : XM} {d : Nat} {b : Nat × Nat} {pc : Nat} {L : List (Option Value)} {st : List Value} {S : XS} {im : XI} {Q : Option Value → XS → XI → Prop} (hr : M.2.2.2 = none) (hd : decode M.2.1 pc = .ok (.return_, 1)) (hq : Q none S im) : V M d b pc L [] S im Q := by
  intro p l e R s m args below meth c D E A ads H locs cells slots n0 ls C hR hS hn hb1 hb2 hl
  refine W.widen (k := R.cells) (n := R.slots) (by omega) (by omega) ?_
  exact W.vret C.1.1 C.1.2.1 (C.2.1.1.trans hr) (V.done (M := M) (d := d) (pc := pc) (L := L) (st := []) (v := none) hq hR hS hn) hS.2.2 hd C.2.1.2.1
-- ===== calls =====
def XV (M : XM) (n : Nat) : Prop := Cond.code M.1 M.2.1 M.2.2.1 M.2.2.2 ∈ xgood ∧ Cond.initialized M.1.cls ∈ xgood ∧ (M.1.cls ≠ "java/lang/invoke/MethodHandle" ∧ M.1.cls ≠ "java/lang/invoke/VarHandle" ∧ (parseMethodDescriptor M.1.desc).map (fun d => d.parameters.length) = some n) ∧ Nat.ble M.2.2.1 40 = true
def XLk (own : String) (idx : Nat) (M2 : XM) : Prop := Cond.methodLink own idx M2.1 ∈ xgood ∨ ∃ host, Cond.methodLinkNest own idx M2.1 host ∈ xnest
theorem XP.blind {D : va_G} {E : Nat → ClassId} {A : Nat → Prop} {ads : Nat → Nat} {sz : Nat} {b : Nat × Nat} {S : XS} {im : XI} {vs : List Value} : FrameBlind (XP D E A ads sz b S im vs) := by
  intro a U g mk q
  obtain ⟨q0, q1, qK, qN, qT, qR⟩ := q
  exact ⟨q0, q1, va_K.moved (u := U) (U := U.calling g mk a) (Vm.Alike.refl U.vm) qK, XN.same (s := U) (U := U.calling g mk a) rfl qN, XT.go qT (U := U.calling g mk a) (Vm.Alike.refl U.vm) (fun _ _ _ => rfl), qR⟩
theorem XP.start {M : XM} {d : Nat} {p : Program} {R : Room} {s : State} {m : MethodId} {args : Array Value} {meth : Method} {c : Code} {D : va_G} {E : Nat → ClassId} {A : Nat → Prop} {ads : Nat → Nat} {b : Nat × Nat} {S : XS} {im : XI} {H : Heap} {locs : List Loc} {vs : List Value} (C : XC M d p R s m args meth c D E A ads) (hR : XR D E ads A b S im H) (hS : va_S A s.heap H locs) :
    ∀ U : State, U.heap = H → s.WarmedH U.vm → XP D E A ads H.size b S im vs (vs.map (conc ads)).toArray U := by
  intro U hU hW
  subst hU
  exact ⟨rfl, rfl, va_K.moved hW.alike C.2.2.1.1, XN.warm hW C.2.2.1.2.1, XT.go C.2.2.1.2.2 hW.alike (fun a h1 h2 => hS.2.1 a h1 h2), hR⟩
theorem xcall_go {p : Program} {l : Launch} {e : Env} {R : Room} {s : State} {m : MethodId} {args : Array Value} {below : List Frame} {meth : Method} {c : Code} {H : Heap} {locs : List Loc} {cells slots mc ms : Nat} {Q : State → Prop} {pc : Nat} {ls : Array Slot} {rest st0 : List Value} {a : Array Value} {A : Nat → Prop} {D : va_G} {E : Nat → ClassId} {ads : Nat → Nat} {n1 : Nat} {P : Option Value → XS → XI → Prop}
    (hr : va_Run p l e R s m args below meth c H locs cells slots mc ms (F0 m pc ls st0) rest (XQ D E A ads n1 P a) A) (hS : va_S A s.heap H locs)
    (kk : ∀ (r : Option Value) (S' : XS) (im' : XI) (H1 : Heap) (locs1 : List Loc), P r S' im' → va_P D vwCl (xw E ads S' im') H1 → va_D A (xw E ads S' im') → H1.size + n1 = H.size + S'.1.length → va_S A s.heap H1 locs1 → W p l e R s m args below meth c H1 locs1 (cells + mc) (slots + ms) Q (F0 m (pc + 3) ls ((r.map (conc ads)).toList ++ rest))) :
    W p l e R s m args below meth c H locs cells slots Q (F0 m pc ls st0) := by
  intro T hT X
  obtain ⟨v, st₀, t, T', Lc, h0, X', hL, e1, e2, ⟨⟨r, S', im', hv, hp, hPP, hDD, hz⟩, hz2, hk⟩, st⟩ := hr T hT X
  cases hv
  rw [h0] at hz hz2 hk
  obtain ⟨t2, a1, b1⟩ := kk r S' im' T'.heap (locs ++ Lc) hp (by rw [e1]; exact hPP) hDD (by rw [e1]; exact hz)
    ⟨Nat.le_trans hS.1 (by rw [e1]; exact hz2), fun q h1 h2 => by rw [e1, hk q (Nat.lt_of_lt_of_le h1 hS.1) h2]; exact hS.2.1 q h1 h2, fun q hq => by
      rcases List.mem_append.mp hq with h | h
      · exact hS.2.2 q h
      · exact hL q h⟩ T' rfl X'
  exact ⟨t2, st t2 a1, b1⟩
theorem xroom {d : Nat} {b1 : Nat × Nat} {R : Room} {mx : Nat} (h1 : R.frames = d + 1) (h2 : R.locals = 64 * (d + 1)) (h3 : Nat.ble mx 40 = true) : (xrm d b1).frames + 1 ≤ R.frames ∧ 8 + (mx + 11) + (xrm d b1).locals ≤ R.locals := by
  have := Nat.le_of_ble_eq_true h3
  simp only [xrm, h1, h2]
  omega
/-- behind a call: the same method goes on -/
theorem V.behind {M : XM} {d : Nat} {b b1 b2 : Nat × Nat} {L : List (Option Value)} {st : List Value} {S : XS} {im : XI} {Q : Option Value → XS → XI → Prop} {pc : Nat} {P : Option Value → XS → XI → Prop} (hbud : b1.1 + b2.1 ≤ b.1 ∧ b1.2 + b2.2 ≤ b.2) (hP : ∀ r S' im', P r S' im' → S'.1.length = S.1.length + b1.1)
    (k : ∀ r S' im', P r S' im' → V M d b2 (pc + 3) L (r.toList ++ st) S' im' Q)
    {p : Program} {l : Launch} {e : Env} {R : Room} {s : State} {m : MethodId} {args : Array Value} {below : List Frame} {meth : Method} {c : Code} {D : va_G} {E : Nat → ClassId} {A : Nat → Prop} {ads : Nat → Nat} {H : Heap} {locs : List Loc} {cells slots n0 : Nat} {ls : Array Slot} {st0 : List Value} {a : Array Value}
    (C : XC M d p R s m args meth c D E A ads) (hR : XR D E ads A b S im H) (hS : va_S A s.heap H locs) (hn : H.size + n0 = s.heap.size + S.1.length) (hb1 : cells + b.1 ≤ R.cells) (hb2 : slots + b.2 ≤ R.slots) (hl : xl ls L ads)
    (hr : va_Run p l e R s m args below meth c H locs cells slots b1.1 b1.2 (F0 m pc ls st0) (st.map (conc ads)) (XQ D E A ads S.1.length P a) A) :
    W p l e R s m args below meth c H locs cells slots (MQ below (XQ D E A ads n0 Q) args s R.cells R.slots A) (F0 m pc ls st0) := by
  refine xcall_go hr hS fun r S' im' H1 locs1 hp hPP hDD hz hS1 => ?_
  have hlen := hP _ _ _ hp
  have kk := k r S' im' hp p l e R s m args below meth c D E A ads H1 locs1 (cells + b1.1) (slots + b1.2) n0 ls C ⟨hPP, hDD, fun i hi => by
    rw [hlen, Nat.add_assoc, hR.2.2 (b1.1 + i) (by omega)]
    omega⟩ hS1 (by omega) (by omega) (by omega) hl
  rw [List.map_append] at kk
  have e2 : (r.toList).map (conc ads) = (r.map (conc ads)).toList := by cases r <;> rfl
  rw [e2] at kk
  exact kk
theorem xcats {st : List Value} (ads : Nat → Nat) (h : Nat.ble (st.map fun v => v.category).sum 8 = true) : 2 * 0 + ((st.map (conc ads)).map fun v => v.category).sum ≤ 8 := by
  rw [conc_cats]
  have := Nat.le_of_ble_eq_true h
  omega
theorem V.callV {M : XM} {d : Nat} {b b1 b2 : Nat × Nat} {pc : Nat} {L : List (Option Value)} {st : List Value} {S : XS} {im : XI} {Q : Option Value → XS → XI → Prop} {M2 : XM} {idx n ci N a : Nat} {T : u_T} {As As' : List Value} {P : Option Value → XS → XI → Prop}
    (hL : L.length = M.2.2.1) (hv : XV M2 n) (hlk : XLk M.1.cls idx M2) (hin : Cond.instanceMethod M2.1 ∈ xgood) (hse : Cond.selects M2.1.cls M2.1 M2.1 ∈ xgood) (hc : vwCl[ci]? = some (M2.1.cls, T, N)) (hsh : S.1[a]? = some (.inl ci)) (hn2 : As.length = n) (hAs : As.reverse ++ .ref a :: st = As') (hst : Nat.ble (st.map fun v => v.category).sum 8 = true) (hd : decode M.2.1 pc = .ok (.invokevirtual idx, 3))
    (hsp : Spec M2 d b1 (.ref a :: As) S im P) (hbud : b1.1 + b2.1 ≤ b.1 ∧ b1.2 + b2.2 ≤ b.2) (hP : ∀ r S' im', P r S' im' → S'.1.length = S.1.length + b1.1)
    (k : ∀ r S' im', P r S' im' → V M (d + 1) b2 (pc + 3) L (r.toList ++ st) S' im' Q) : V M (d + 1) b pc L As' S im Q := by
  intro p l e R s m args below meth c D E A ads H locs cells slots n0 ls C hR hS hn hb1 hb2 hl
  subst hAs
  have hM := hsp l D E A ads H.size (fun q hq => C.2.2.2.1 q (Nat.le_trans hS.1 hq))
  have hR1 : XR D E ads A b1 S im H := ⟨hR.1, hR.2.1, fun i hi => hR.2.2 i (by omega)⟩
  have hcell := va_recv (D := D) C.2.2.1.1 hR.1 hc (xw_get hsh)
  have hpre : PreV s H M2.1.cls (ads a) (XP D E A ads H.size b1 S im (.ref a :: As)) (As.map (conc ads)) := ⟨XP.blind, hcell, fun U hU hW => XP.start (vs := .ref a :: As) C hR1 hS U hU hW⟩
  have hroom := xroom (b1 := b1) C.2.2.2.2.1 C.2.2.2.2.2 hv.2.2.2
  have hstk : ((As.reverse ++ .ref a :: st).map (conc ads)) = (As.map (conc ads)).reverse ++ .ref (ads a) :: st.map (conc ads) := by simp [conc]
  rw [hstk]
  have hfit : cells + b1.1 ≤ R.cells ∧ slots + b1.2 ≤ R.slots := ⟨by omega, by omega⟩
  refine V.behind hbud hP k C hR hS hn hb1 hb2 hl ?_ (a := (Value.ref (ads a) :: As.map (conc ads)).toArray)
  rcases hlk with hlk | ⟨host, hlk⟩
  · have hG : GoodIn (xws M) (wsV M.1.cls idx M2.1.cls M2.1 (xws M2)) := xgoodIn (by
      intro w hw
      simp only [wsV, List.mem_append, List.mem_cons, List.not_mem_nil, or_false, xws] at hw
      rcases hw with (rfl | rfl | rfl | rfl) | (rfl | hw)
      · exact hlk
      · exact hin
      · exact hse
      · exact hv.2.1
      · exact hv.1
      · exact hw)
    exact va_runV C.1 hM (cwV n C.1.2.2.2.2 hG rfl rfl rfl ⟨rfl, hv.2.2.1⟩ hroom) hpre rfl (by rw [List.length_map]; exact hn2) (hl.1.trans hL) rfl (xcats ads hst) hd hfit
  · have hG : GoodIn (xws M) (xws M2) := xgoodIn (by
      intro w hw
      rcases List.mem_cons.mp hw with rfl | hw
      · exact hv.1
      · exact hw)
    exact va_runVN C.1 hM ⟨va_cnB n C.1.2.2.2.2 hG rfl rfl rfl (C.2.2.1.2.1.1 _ hlk) (C.1.2.2.2.2 _ (List.mem_cons_of_mem _ hv.2.1)) hv.2.2.1 hroom, C.1.2.2.2.2 _ (List.mem_cons_of_mem _ hin), C.1.2.2.2.2 _ (List.mem_cons_of_mem _ hse)⟩ hpre rfl (by rw [List.length_map]; exact hn2) (hl.1.trans hL) rfl (xcats ads hst) hd hfit
theorem V.callS {M : XM} {d : Nat} {b b1 b2 : Nat × Nat} {pc : Nat} {L : List (Option Value)} {st : List Value} {S : XS} {im : XI} {Q : Option Value → XS → XI → Prop} {M2 : XM} {idx n : Nat} {As As' : List Value} {P : Option Value → XS → XI → Prop}
    (hL : L.length = M.2.2.1) (hv : XV M2 n) (hlk : XLk M.1.cls idx M2) (hsta : Cond.static M2.1 ∈ xgood) (hn2 : As.length = n) (hAs : As.reverse ++ st = As') (hst : Nat.ble (st.map fun v => v.category).sum 8 = true) (hd : decode M.2.1 pc = .ok (.invokestatic idx, 3))
    (hsp : Spec M2 d b1 As S im P) (hbud : b1.1 + b2.1 ≤ b.1 ∧ b1.2 + b2.2 ≤ b.2) (hP : ∀ r S' im', P r S' im' → S'.1.length = S.1.length + b1.1)
    (k : ∀ r S' im', P r S' im' → V M (d + 1) b2 (pc + 3) L (r.toList ++ st) S' im' Q) : V M (d + 1) b pc L As' S im Q := by
  intro p l e R s m args below meth c D E A ads H locs cells slots n0 ls C hR hS hn hb1 hb2 hl
  subst hAs
  have hM := hsp l D E A ads H.size (fun q hq => C.2.2.2.1 q (Nat.le_trans hS.1 hq))
  have hR1 : XR D E ads A b1 S im H := ⟨hR.1, hR.2.1, fun i hi => hR.2.2 i (by omega)⟩
  have hpre : PreS s H (XP D E A ads H.size b1 S im As) (As.map (conc ads)) := ⟨XP.blind, fun U hU hW => XP.start (vs := As) C hR1 hS U hU hW⟩
  have hroom := xroom (b1 := b1) C.2.2.2.2.1 C.2.2.2.2.2 hv.2.2.2
  have hstk : ((As.reverse ++ st).map (conc ads)) = (As.map (conc ads)).reverse ++ st.map (conc ads) := by simp
  rw [hstk]
  have hfit : cells + b1.1 ≤ R.cells ∧ slots + b1.2 ≤ R.slots := ⟨by omega, by omega⟩
  refine V.behind hbud hP k C hR hS hn hb1 hb2 hl ?_ (a := (As.map (conc ads)).toArray)
  rcases hlk with hlk | ⟨host, hlk⟩
  · have hG : GoodIn (xws M) (va_wsS M.1.cls idx M2.1 (xws M2)) := xgoodIn (by
      intro w hw
      simp only [va_wsS, List.mem_append, List.mem_cons, List.not_mem_nil, or_false, xws] at hw
      rcases hw with (rfl | rfl | rfl) | (rfl | hw)
      · exact hlk
      · exact hsta
      · exact hv.2.1
      · exact hv.1
      · exact hw)
    exact va_runS C.1 hM (va_cwS n C.1.2.2.2.2 hG rfl rfl rfl hv.2.2.1 hroom) hpre rfl (by rw [List.length_map]; exact hn2) (hl.1.trans hL) rfl (xcats ads hst) hd hfit
  · have hG : GoodIn (xws M) (xws M2) := xgoodIn (by
      intro w hw
      rcases List.mem_cons.mp hw with rfl | hw
      · exact hv.1
      · exact hw)
    exact va_runSN C.1 hM ⟨va_cnB n C.1.2.2.2.2 hG rfl rfl rfl (C.2.2.1.2.1.1 _ hlk) (C.1.2.2.2.2 _ (List.mem_cons_of_mem _ hv.2.1)) hv.2.2.1 hroom, C.1.2.2.2.2 _ (List.mem_cons_of_mem _ hsta), trivial⟩ hpre rfl (by rw [List.length_map]; exact hn2) (hl.1.trans hL) rfl (xcats ads hst) hd hfit
theorem V.callI {M : XM} {d : Nat} {b b1 b2 : Nat × Nat} {pc : Nat} {L : List (Option Value)} {st : List Value} {S : XS} {im : XI} {Q : Option Value → XS → XI → Prop} {M2 : XM} {idx n a : Nat} {As As' : List Value} {P : Option Value → XS → XI → Prop}
    (hL : L.length = M.2.2.1) (hv : XV M2 n) (hlk : XLk M.1.cls idx M2) (hin : Cond.instanceMethod M2.1 ∈ xgood) (hy : M2.1.name = "<init>") (hret : M2.2.2.2 = none) (hn2 : As.length = n) (hAs : As.reverse ++ .ref a :: st = As') (hst : Nat.ble (st.map fun v => v.category).sum 8 = true) (hd : decode M.2.1 pc = .ok (.invokespecial idx, 3))
    (hsp : Spec M2 d b1 (.ref a :: As) S im P) (hbud : b1.1 + b2.1 ≤ b.1 ∧ b1.2 + b2.2 ≤ b.2) (hP : ∀ r S' im', P r S' im' → S'.1.length = S.1.length + b1.1)
    (k : ∀ r S' im', P r S' im' → V M (d + 1) b2 (pc + 3) L (r.toList ++ st) S' im' Q) : V M (d + 1) b pc L As' S im Q := by
  intro p l e R s m args below meth c D E A ads H locs cells slots n0 ls C hR hS hn hb1 hb2 hl
  subst hAs
  have hM := hsp l D E A ads H.size (fun q hq => C.2.2.2.1 q (Nat.le_trans hS.1 hq))
  have hR1 : XR D E ads A b1 S im H := ⟨hR.1, hR.2.1, fun i hi => hR.2.2 i (by omega)⟩
  have hpre : PreS s H (XP D E A ads H.size b1 S im (.ref a :: As)) (.ref (ads a) :: As.map (conc ads)) := ⟨XP.blind, fun U hU hW => XP.start (vs := .ref a :: As) C hR1 hS U hU hW⟩
  have hroom := xroom (b1 := b1) C.2.2.2.2.1 C.2.2.2.2.2 hv.2.2.2
  have hstk : ((As.reverse ++ .ref a :: st).map (conc ads)) = (As.map (conc ads)).reverse ++ .ref (ads a) :: st.map (conc ads) := by simp [conc]
  rw [hstk]
  have hfit : cells + b1.1 ≤ R.cells ∧ slots + b1.2 ≤ R.slots := ⟨by omega, by omega⟩
  refine V.behind hbud hP k C hR hS hn hb1 hb2 hl ?_ (a := (Value.ref (ads a) :: As.map (conc ads)).toArray)
  have hG : GoodIn (xws M) (xws M2) := xgoodIn (by
      intro w hw
      rcases List.mem_cons.mp hw with rfl | hw
      · exact hv.1
      · exact hw)
  have hw2 : xws M2 = Cond.code M2.1 M2.2.1 M2.2.2.1 none :: xgood := by unfold xws; rw [hret]
  have hw : ∀ w, w ∈ xgood → w.before args s = true := fun w h => C.1.2.2.2.2 w (List.mem_cons_of_mem _ h)
  rcases hlk with hlk | ⟨host, hlk⟩
  · exact va_runI C.1 hM (cwI n C.1.2.2.2.2 hG hw2 rfl rfl (hw _ hv.2.1) (hw _ hlk) (hw _ hin) hy hv.2.2.1 hroom) hpre rfl (by rw [List.length_map]; exact hn2) (hl.1.trans hL) rfl (xcats ads hst) hd hfit
  · exact va_runIN C.1 hM ⟨va_cnB n C.1.2.2.2.2 hG hw2 rfl rfl (C.2.2.1.2.1.1 _ hlk) (hw _ hv.2.1) hv.2.2.1 hroom, hy, hw _ hin⟩ hpre rfl (by rw [List.length_map]; exact hn2) (hl.1.trans hL) rfl (xcats ads hst) hd hfit
-- ===== making =====
theorem V.new {M : XM} {d : Nat} {b : Nat × Nat} {pc : Nat} {L : List (Option Value)} {st : List Value} {S : XS} {im : XI} {Q : Option Value → XS → XI → Prop} {idx ci N : Nat} {CC : String} {T : u_T} (hc : vwCl[ci]? = some (CC, T, N)) (hcl : Cond.classLink M.1.cls idx CC ∈ xgood) (hinst : Cond.instantiable CC N ∈ xgood) (hini : Cond.initialized CC ∈ xgood) {b' : Nat × Nat} (hbud : 1 + b'.1 ≤ b.1 ∧ N + b'.2 ≤ b.2) (hd : decode M.2.1 pc = .ok (.new idx, 3))
    (k : V M d b' (pc + 3) L (.ref S.1.length :: st) (xpush S (.inl ci)) (xz im S.1.length) Q) : V M d b pc L st S im Q := by
  intro p l e R s m args below meth c D E A ads H locs cells slots n0 ls C hR hS hn hb1 hb2 hl
  have hw : ∀ w, w ∈ xgood → w.before args s = true := fun w h => C.1.2.2.2.2 w (List.mem_cons_of_mem _ h)
  obtain ⟨hin0, ty0, hty0, hnm, hdef⟩ := xcl hc
  have hin : ∀ w ∈ u_ws CC T N, w ∈ xws M := fun w hw => List.mem_cons_of_mem _ (hin0 w hw)
  have hKn := C.2.2.1.1.1 ci _ hc
  have hx := xnf_of hc
  have hn1 : ads S.1.length = H.size := by have := hR.2.2 0 (by omega); simpa using this
  refine W.newcK C.1.1 C.1.2.1 C.1.2.2.2.1 (hw _ hcl) (hw _ hinst) (hw _ hini) rfl hd (by omega) (by omega) hKn.2.1 rfl fun H1 kC hkC e1 z1 o1 => ?_
  have hk : ∀ (k : Nat) (x : Nat × va_E), (xw E ads S im)[k]? = some x → H1[x.1]? = H[x.1]? := fun k x hx => o1 x.1 ((hR.1 k x hx).lt)
  have hP1 : va_P D vwCl (xw E ads S im ++ [(ads S.1.length, xcell E ads (fun _ => none) (fun _ => 0) (.inl ci))]) H1 := by
    refine (hR.1.kept hk).app (fun k x hx' => ?_)
    have hz : k < 1 := (List.getElem?_eq_some_iff.mp hx').1
    rw [show k = 0 by omega] at hx'
    cases hx'
    show va_at D vwCl (ads S.1.length, .inr (ci, xfs ads ci (fun _ => none) (fun _ => 0))) H1
    rw [hn1]
    refine ⟨_, hc, (u_born ty0 C.1.2.2.2.2 hin hKn hkC e1 hty0).to (fun j hj => ?_)⟩
    rw [hdef j hj]
    have hg := xfs_get (ads := ads) (ci := ci) (j := j) (rm := fun _ => none) (im := fun _ => 0) (by rw [hx]; exact hj)
    simp only [vp_V, List.getD_eq_getElem?_getD, hg, Option.getD_some, xfv, Option.map_none, va_rf]
  have hD1 := hR.2.1.push (e := xcell E ads (fun _ => none) (fun _ => 0) (.inl ci)) hR.1 hn1 (by rw [hn1]; exact C.2.2.2.1 _ hS.1)
  rw [← xw_push] at hP1 hD1
  have kk := k p l e R s m args below meth c D E A ads H1 locs (cells + 1) (slots + N) n0 ls C ⟨hP1, hD1, fun i hi => by
      have := hR.2.2 (1 + i) (by omega)
      simp only [xpush, List.length_append, List.length_singleton]
      rw [Nat.add_assoc, this, z1]; omega⟩ ⟨Nat.le_trans hS.1 (by omega), fun x h1 h2 => (o1 x (Nat.lt_of_lt_of_le h1 hS.1)).trans (hS.2.1 x h1 h2), hS.2.2⟩ (by simp only [xpush, List.length_append, List.length_singleton]; omega) (by omega) (by omega) hl
  rw [List.map_cons, show conc ads (.ref S.1.length) = .ref H.size by rw [← hn1]; rfl] at kk
  exact kk
theorem V.newa {M : XM} {d : Nat} {b : Nat × Nat} {pc : Nat} {L : List (Option Value)} {st : List Value} {S : XS} {im : XI} {Q : Option Value → XS → XI → Prop} {n : Nat} {x : Int32} (hx : x = nI n) (hn3 : Nat.blt n 100000 = true) (harr : Cond.arrayClass .int ∈ xgood) {b' : Nat × Nat} (hbud : 1 + b'.1 ≤ b.1 ∧ n + b'.2 ≤ b.2) (hd : decode M.2.1 pc = .ok (.newarray .int, 2))
    (k : V M d b' (pc + 2) L (.ref S.1.length :: st) (xpush S (.inr (.inl n))) (xz im S.1.length) Q) : V M d b pc L (.int x :: st) S im Q := by
  intro p l e R s m args below meth c D E A ads H locs cells slots n0 ls C hR hS hn hb1 hb2 hl
  subst hx
  have hn4 : n < 100000 := Nat.le_of_ble_eq_true hn3
  have hw : ∀ w, w ∈ xgood → w.before args s = true := fun w h => C.1.2.2.2.2 w (List.mem_cons_of_mem _ h)
  have hn1 : ads S.1.length = H.size := by have := hR.2.2 0 (by omega); simpa using this
  refine va_newaK (atype := .int) C.1.1 C.1.2.1 (hw _ harr) rfl hd rfl (nI_pos (by omega)) (nI_clamp (by omega)) (by show n * 4 ≤ _; omega) (by omega) (by omega) rfl fun H1 cA e1 z1 o1 hAr hNm => ?_
  have hcA : cA = E 0 := by
    have h9 := (C.2.2.1.1.2 0 _ rfl).2
    exact Option.some.inj (hNm.symm.trans h9)
  subst hcA
  have hk : ∀ (k : Nat) (x : Nat × va_E), (xw E ads S im)[k]? = some x → H1[x.1]? = H[x.1]? := fun k x hx => o1 x.1 ((hR.1 k x hx).lt)
  have hP1 : va_P D vwCl (xw E ads S im ++ [(ads S.1.length, xcell E ads (fun _ => none) (fun _ => 0) (.inr (.inl n)))]) H1 := by
    refine (hR.1.kept hk).app (fun k x hx' => ?_)
    have hz : k < 1 := (List.getElem?_eq_some_iff.mp hx').1
    rw [show k = 0 by omega] at hx'
    cases hx'
    show H1[ads S.1.length]? = some (vp_cell _ _)
    rw [hn1, vp_cell_i]
    exact e1
  have hD1 := hR.2.1.push (e := xcell E ads (fun _ => none) (fun _ => 0) (.inr (.inl n))) hR.1 hn1 (by rw [hn1]; exact C.2.2.2.1 _ hS.1)
  rw [← xw_push] at hP1 hD1
  have kk := k p l e R s m args below meth c D E A ads H1 locs (cells + 1) (slots + n) n0 ls C ⟨hP1, hD1, fun i hi => by
      have := hR.2.2 (1 + i) (by omega)
      simp only [xpush, List.length_append, List.length_singleton]
      rw [Nat.add_assoc, this, z1]; omega⟩ ⟨Nat.le_trans hS.1 (by omega), fun x h1 h2 => (o1 x (Nat.lt_of_lt_of_le h1 hS.1)).trans (hS.2.1 x h1 h2), hS.2.2⟩ (by simp only [xpush, List.length_append, List.length_singleton]; omega) (by omega) (by omega) hl
  rw [List.map_cons, show conc ads (.ref S.1.length) = .ref H.size by rw [← hn1]; rfl] at kk
  exact kk
theorem V.newq {M : XM} {d : Nat} {b : Nat × Nat} {pc : Nat} {L : List (Option Value)} {st : List Value} {S : XS} {im : XI} {Q : Option Value → XS → XI → Prop} {idx t n : Nat} {x : Int32} (ht : Nat.blt t 3 = true) (hx : x = nI n) (hn3 : Nat.blt n 100000 = true) (hcl : Cond.classLink M.1.cls idx (xel t) ∈ xgood) {b' : Nat × Nat} (hbud : 1 + b'.1 ≤ b.1 ∧ n + b'.2 ≤ b.2) (hd : decode M.2.1 pc = .ok (.anewarray idx, 3))
    (k : V M d b' (pc + 3) L (.ref S.1.length :: st) (xpush S (.inr (.inr (t, n)))) (xz im S.1.length) Q) : V M d b pc L (.int x :: st) S im Q := by
  intro p l e R s m args below meth c D E A ads H locs cells slots n0 ls C hR hS hn hb1 hb2 hl
  subst hx
  have hn4 : n < 100000 := Nat.le_of_ble_eq_true hn3
  have ht : t < 3 := Nat.le_of_ble_eq_true ht
  have hw : ∀ w, w ∈ xgood → w.before args s = true := fun w h => C.1.2.2.2.2 w (List.mem_cons_of_mem _ h)
  have hn1 : ads S.1.length = H.size := by have := hR.2.2 0 (by omega); simpa using this
  have hao : va_AO (xel t) s := by
    match t, ht with
    | 0, _ => exact C.2.2.1.2.1.2.1
    | 1, _ => exact C.2.2.1.2.1.2.2.1
    | 2, _ => exact C.2.2.1.2.1.2.2.2
  have hcl0 : (nI n).toNatClampNeg = n := nI_clamp (by omega)
  refine W.anew C.1.1 C.1.2.1 C.1.2.2.2.1 (hw _ hcl) (va_AO.use hao) rfl hd rfl (nI_pos (by omega)) (by rw [hcl0]; omega) (by omega) (by rw [hcl0]; omega) fun cA kA comp f1 f2 f3 f4 => ?_
  have hcA : cA = E (t + 1) := by
    obtain ⟨_, _, _, _, _, h9⟩ := (C.2.2.1.1.2 (t + 1) _ (xtys_get ht)).2
    exact Option.some.inj (f1.symm.trans h9)
  subst hcA
  rw [hcl0]
  generalize hH1 : H.push ({ cls := E (t + 1), slots := Array.replicate n .null, vm := .none } : Cell) = H1
  have z1 : H1.size = H.size + 1 := by rw [← hH1, Array.size_push]
  have e1 : H1[H.size]? = some (arrV (E (t + 1)) n (fun _ => .null)) := by rw [← hH1, Array.getElem?_push_size, ← arrV_new]
  have o1 : ∀ q : Nat, q < H.size → H1[q]? = H[q]? := fun q hq => by rw [← hH1, Array.getElem?_push, if_neg (Nat.ne_of_lt hq)]
  have hk : ∀ (k : Nat) (x : Nat × va_E), (xw E ads S im)[k]? = some x → H1[x.1]? = H[x.1]? := fun k x hx => o1 x.1 ((hR.1 k x hx).lt)
  have hP1 : va_P D vwCl (xw E ads S im ++ [(ads S.1.length, xcell E ads (fun _ => none) (fun _ => 0) (.inr (.inr (t, n))))]) H1 := by
    refine (hR.1.kept hk).app (fun k x hx' => ?_)
    have hz : k < 1 := (List.getElem?_eq_some_iff.mp hx').1
    rw [show k = 0 by omega] at hx'
    cases hx'
    show H1[ads S.1.length]? = some (vp_cell _ _)
    rw [hn1, vp_cell_q]
    exact e1
  have hD1 := hR.2.1.push (e := xcell E ads (fun _ => none) (fun _ => 0) (.inr (.inr (t, n)))) hR.1 hn1 (by rw [hn1]; exact C.2.2.2.1 _ hS.1)
  rw [← xw_push] at hP1 hD1
  have kk := k p l e R s m args below meth c D E A ads H1 locs (cells + 1) (slots + n) n0 ls C ⟨hP1, hD1, fun i hi => by
      have := hR.2.2 (1 + i) (by omega)
      simp only [xpush, List.length_append, List.length_singleton]
      rw [Nat.add_assoc, this, z1]; omega⟩ ⟨Nat.le_trans hS.1 (by omega), fun x h1 h2 => (o1 x (Nat.lt_of_lt_of_le h1 hS.1)).trans (hS.2.1 x h1 h2), hS.2.2⟩ (by simp only [xpush, List.length_append, List.length_singleton]; omega) (by omega) (by omega) hl
  rw [List.map_cons, show conc ads (.ref S.1.length) = .ref H.size by rw [← hn1]; rfl] at kk
  exact kk
theorem V.objInit {M : XM} {d : Nat} {b : Nat × Nat} {pc : Nat} {L : List (Option Value)} {st : List Value} {S : XS} {im : XI} {Q : Option Value → XS → XI → Prop} {idx a : Nat} (hL : L.length = M.2.2.1) (hlk : Cond.methodLink M.1.cls idx objectInit ∈ xgood) (hin : Cond.instanceMethod objectInit ∈ xgood) (hco : Cond.code objectInit ⟨#[0xb1]⟩ 1 none ∈ xgood) (hst : st = []) (hd : decode M.2.1 pc = .ok (.invokespecial idx, 3)) (k : V M (d + 1) b (pc + 3) L st S im Q) : V M (d + 1) b pc L (.ref a :: st) S im Q := by
  intro p l e R s m args below meth c D E A ads H locs cells slots n0 ls C hR hS hn hb1 hb2 hl
  subst hst
  have hw : ∀ w, w ∈ xgood → w.before args s = true := fun w h => C.1.2.2.2.2 w (List.mem_cons_of_mem _ h)
  refine W.objInit C.1.1 C.1.2.1 C.1.2.2.2.1 (hw _ hlk) (hw _ hin) (hw _ hco) rfl (by rw [C.1.2.2.1, ← hL]; exact hl.1) rfl hd (by rw [C.2.2.2.2.1]; omega) (by rw [C.2.2.2.2.2]; exact Nat.le_trans (m := 64) (Nat.le_of_ble_eq_true rfl) (by omega)) ?_
  refine W.eq (g2 := F0 m (pc + 3) ls []) rfl ?_
  exact k p l e R s m args below meth c D E A ads H locs cells slots n0 ls C hR hS hn hb1 hb2 hl
end

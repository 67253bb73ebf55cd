-- ===== PART A: goes FIRST, ahead of the names: the tables' words, and 'selects' of the private methods out of them =====
/-- a private method of a class that the tables say can be made, by its rows of tables_1 -/
def lw_okq (q : MethodName × Nat) : Prop := (q.1.cls ≠ "java/lang/invoke/MethodHandle" ∧ q.1.cls ≠ "java/lang/invoke/VarHandle") ∧ Cond.instantiable q.1.cls q.2 ∈ tables_1 ∧ Cond.privateMethod q.1 ∈ tables_1 ∧ Cond.instanceMethod q.1 ∈ tables_1
theorem lw_p0 : lw_okq (⟨"BlinkMoves", "fail", "(I)I"⟩, 8) := ⟨⟨by decide +kernel, by decide +kernel⟩, List.mem_of_getElem? (i := 16) (by decide +kernel), List.mem_of_getElem? (i := 298) (by decide +kernel), List.mem_of_getElem? (i := 299) (by decide +kernel)⟩
theorem lw_p1 : lw_okq (⟨"BlinkMoves$Person", "deafBlinks", "(II)Z"⟩, 4) := ⟨⟨by decide +kernel, by decide +kernel⟩, List.mem_of_getElem? (i := 72) (by decide +kernel), List.mem_of_getElem? (i := 333) (by decide +kernel), List.mem_of_getElem? (i := 334) (by decide +kernel)⟩
theorem lw_p2 : lw_okq (⟨"BlinkMoves$Law", "worked", "(III)I"⟩, 4) := ⟨⟨by decide +kernel, by decide +kernel⟩, List.mem_of_getElem? (i := 34) (by decide +kernel), List.mem_of_getElem? (i := 341) (by decide +kernel), List.mem_of_getElem? (i := 342) (by decide +kernel)⟩
theorem lw_p3 : lw_okq (⟨"BlinkMoves$Person", "bankerTries", "()I"⟩, 4) := ⟨⟨by decide +kernel, by decide +kernel⟩, List.mem_of_getElem? (i := 72) (by decide +kernel), List.mem_of_getElem? (i := 418) (by decide +kernel), List.mem_of_getElem? (i := 419) (by decide +kernel)⟩
theorem lw_p4 : lw_okq (⟨"BlinkMoves$Reader", "readsAny", "(I)Z"⟩, 4) := ⟨⟨by decide +kernel, by decide +kernel⟩, List.mem_of_getElem? (i := 164) (by decide +kernel), List.mem_of_getElem? (i := 461) (by decide +kernel), List.mem_of_getElem? (i := 462) (by decide +kernel)⟩
theorem lw_p5 : lw_okq (⟨"BlinkMoves$Reader", "readsAll", "(I)Z"⟩, 4) := ⟨⟨by decide +kernel, by decide +kernel⟩, List.mem_of_getElem? (i := 164) (by decide +kernel), List.mem_of_getElem? (i := 465) (by decide +kernel), List.mem_of_getElem? (i := 466) (by decide +kernel)⟩
theorem lw_p6 : lw_okq (⟨"BlinkMoves$Reader", "readsComparison", "(I)Z"⟩, 4) := ⟨⟨by decide +kernel, by decide +kernel⟩, List.mem_of_getElem? (i := 164) (by decide +kernel), List.mem_of_getElem? (i := 469) (by decide +kernel), List.mem_of_getElem? (i := 470) (by decide +kernel)⟩
theorem lw_p7 : lw_okq (⟨"BlinkMoves$Reader", "readsSum", "(I)Z"⟩, 4) := ⟨⟨by decide +kernel, by decide +kernel⟩, List.mem_of_getElem? (i := 164) (by decide +kernel), List.mem_of_getElem? (i := 473) (by decide +kernel), List.mem_of_getElem? (i := 474) (by decide +kernel)⟩
theorem lw_p8 : lw_okq (⟨"BlinkMoves$Reader", "readsProduct", "(I)Z"⟩, 4) := ⟨⟨by decide +kernel, by decide +kernel⟩, List.mem_of_getElem? (i := 164) (by decide +kernel), List.mem_of_getElem? (i := 477) (by decide +kernel), List.mem_of_getElem? (i := 478) (by decide +kernel)⟩
theorem lw_p9 : lw_okq (⟨"BlinkMoves$Reader", "readsFactor", "(I)Z"⟩, 4) := ⟨⟨by decide +kernel, by decide +kernel⟩, List.mem_of_getElem? (i := 164) (by decide +kernel), List.mem_of_getElem? (i := 481) (by decide +kernel), List.mem_of_getElem? (i := 482) (by decide +kernel)⟩
theorem lw_p10 : lw_okq (⟨"BlinkMoves$Reader", "next", "()I"⟩, 4) := ⟨⟨by decide +kernel, by decide +kernel⟩, List.mem_of_getElem? (i := 164) (by decide +kernel), List.mem_of_getElem? (i := 485) (by decide +kernel), List.mem_of_getElem? (i := 486) (by decide +kernel)⟩
theorem lw_p11 : lw_okq (⟨"BlinkMoves$Reader", "readNumber", "()V"⟩, 4) := ⟨⟨by decide +kernel, by decide +kernel⟩, List.mem_of_getElem? (i := 164) (by decide +kernel), List.mem_of_getElem? (i := 494) (by decide +kernel), List.mem_of_getElem? (i := 495) (by decide +kernel)⟩
theorem lw_p12 : lw_okq (⟨"BlinkMoves$Reader", "nameOf", "(I)I"⟩, 4) := ⟨⟨by decide +kernel, by decide +kernel⟩, List.mem_of_getElem? (i := 164) (by decide +kernel), List.mem_of_getElem? (i := 499) (by decide +kernel), List.mem_of_getElem? (i := 500) (by decide +kernel)⟩
theorem lw_p13 : lw_okq (⟨"BlinkMoves$Reader", "takes", "(I)Z"⟩, 4) := ⟨⟨by decide +kernel, by decide +kernel⟩, List.mem_of_getElem? (i := 164) (by decide +kernel), List.mem_of_getElem? (i := 505) (by decide +kernel), List.mem_of_getElem? (i := 506) (by decide +kernel)⟩
theorem lw_p14 : lw_okq (⟨"BlinkMoves$Island", "draw", "()I"⟩, 10) := ⟨⟨by decide +kernel, by decide +kernel⟩, List.mem_of_getElem? (i := 24) (by decide +kernel), List.mem_of_getElem? (i := 577) (by decide +kernel), List.mem_of_getElem? (i := 578) (by decide +kernel)⟩
theorem lw_p15 : lw_okq (⟨"BlinkMoves$Foresight", "lookAhead", "(I)V"⟩, 6) := ⟨⟨by decide +kernel, by decide +kernel⟩, List.mem_of_getElem? (i := 186) (by decide +kernel), List.mem_of_getElem? (i := 639) (by decide +kernel), List.mem_of_getElem? (i := 640) (by decide +kernel)⟩
def lw_privs_1 : List (MethodName × Nat) := [(⟨"BlinkMoves", "fail", "(I)I"⟩, 8), (⟨"BlinkMoves$Person", "deafBlinks", "(II)Z"⟩, 4), (⟨"BlinkMoves$Law", "worked", "(III)I"⟩, 4), (⟨"BlinkMoves$Person", "bankerTries", "()I"⟩, 4), (⟨"BlinkMoves$Reader", "readsAny", "(I)Z"⟩, 4), (⟨"BlinkMoves$Reader", "readsAll", "(I)Z"⟩, 4), (⟨"BlinkMoves$Reader", "readsComparison", "(I)Z"⟩, 4), (⟨"BlinkMoves$Reader", "readsSum", "(I)Z"⟩, 4), (⟨"BlinkMoves$Reader", "readsProduct", "(I)Z"⟩, 4), (⟨"BlinkMoves$Reader", "readsFactor", "(I)Z"⟩, 4), (⟨"BlinkMoves$Reader", "next", "()I"⟩, 4), (⟨"BlinkMoves$Reader", "readNumber", "()V"⟩, 4), (⟨"BlinkMoves$Reader", "nameOf", "(I)I"⟩, 4), (⟨"BlinkMoves$Reader", "takes", "(I)Z"⟩, 4), (⟨"BlinkMoves$Island", "draw", "()I"⟩, 10), (⟨"BlinkMoves$Foresight", "lookAhead", "(I)V"⟩, 6)]
theorem lw_r1 : ∀ q ∈ lw_privs_1, lw_okq q := List.forall_mem_cons.mpr ⟨lw_p0, List.forall_mem_cons.mpr ⟨lw_p1, List.forall_mem_cons.mpr ⟨lw_p2, List.forall_mem_cons.mpr ⟨lw_p3, List.forall_mem_cons.mpr ⟨lw_p4, List.forall_mem_cons.mpr ⟨lw_p5, List.forall_mem_cons.mpr ⟨lw_p6, List.forall_mem_cons.mpr ⟨lw_p7, List.forall_mem_cons.mpr ⟨lw_p8, List.forall_mem_cons.mpr ⟨lw_p9, List.forall_mem_cons.mpr ⟨lw_p10, List.forall_mem_cons.mpr ⟨lw_p11, List.forall_mem_cons.mpr ⟨lw_p12, List.forall_mem_cons.mpr ⟨lw_p13, List.forall_mem_cons.mpr ⟨lw_p14, List.forall_mem_cons.mpr ⟨lw_p15, fun _ h => absurd h List.not_mem_nil⟩⟩⟩⟩⟩⟩⟩⟩⟩⟩⟩⟩⟩⟩⟩⟩
theorem lw_p16 : lw_okq (⟨"BlinkMoves$Foresight", "doneBehind", "(LBlinkMoves$Doing;II)I"⟩, 6) := ⟨⟨by decide +kernel, by decide +kernel⟩, List.mem_of_getElem? (i := 186) (by decide +kernel), List.mem_of_getElem? (i := 644) (by decide +kernel), List.mem_of_getElem? (i := 645) (by decide +kernel)⟩
theorem lw_p17 : lw_okq (⟨"BlinkMoves$Foresight", "tryPhase", "(III)V"⟩, 6) := ⟨⟨by decide +kernel, by decide +kernel⟩, List.mem_of_getElem? (i := 186) (by decide +kernel), List.mem_of_getElem? (i := 658) (by decide +kernel), List.mem_of_getElem? (i := 659) (by decide +kernel)⟩
theorem lw_p18 : lw_okq (⟨"BlinkMoves$Foresight", "isFit", "(IIILBlinkMoves$Row;)Z"⟩, 6) := ⟨⟨by decide +kernel, by decide +kernel⟩, List.mem_of_getElem? (i := 186) (by decide +kernel), List.mem_of_getElem? (i := 685) (by decide +kernel), List.mem_of_getElem? (i := 686) (by decide +kernel)⟩
theorem lw_p19 : lw_okq (⟨"BlinkMoves$Voices", "blinks", "(II)I"⟩, 5) := ⟨⟨by decide +kernel, by decide +kernel⟩, List.mem_of_getElem? (i := 215) (by decide +kernel), List.mem_of_getElem? (i := 700) (by decide +kernel), List.mem_of_getElem? (i := 701) (by decide +kernel)⟩
theorem lw_p20 : lw_okq (⟨"BlinkMoves$Voices", "moves", "(II)I"⟩, 5) := ⟨⟨by decide +kernel, by decide +kernel⟩, List.mem_of_getElem? (i := 215) (by decide +kernel), List.mem_of_getElem? (i := 705) (by decide +kernel), List.mem_of_getElem? (i := 706) (by decide +kernel)⟩
theorem lw_p21 : lw_okq (⟨"BlinkMoves$Voices", "looks", "(II)I"⟩, 5) := ⟨⟨by decide +kernel, by decide +kernel⟩, List.mem_of_getElem? (i := 215) (by decide +kernel), List.mem_of_getElem? (i := 709) (by decide +kernel), List.mem_of_getElem? (i := 710) (by decide +kernel)⟩
theorem lw_p22 : lw_okq (⟨"BlinkMoves$Voices", "parts", "(II)I"⟩, 5) := ⟨⟨by decide +kernel, by decide +kernel⟩, List.mem_of_getElem? (i := 215) (by decide +kernel), List.mem_of_getElem? (i := 713) (by decide +kernel), List.mem_of_getElem? (i := 714) (by decide +kernel)⟩
theorem lw_p23 : lw_okq (⟨"BlinkMovesModel", "error", "(I)I"⟩, 20) := ⟨⟨by decide +kernel, by decide +kernel⟩, List.mem_of_getElem? (i := 804) (by decide +kernel), List.mem_of_getElem? (i := 878) (by decide +kernel), List.mem_of_getElem? (i := 879) (by decide +kernel)⟩
theorem lw_p24 : lw_okq (⟨"BlinkMovesModel", "whole", "()Z"⟩, 20) := ⟨⟨by decide +kernel, by decide +kernel⟩, List.mem_of_getElem? (i := 804) (by decide +kernel), List.mem_of_getElem? (i := 888) (by decide +kernel), List.mem_of_getElem? (i := 889) (by decide +kernel)⟩
theorem lw_p25 : lw_okq (⟨"BlinkMovesModel", "both", "()Z"⟩, 20) := ⟨⟨by decide +kernel, by decide +kernel⟩, List.mem_of_getElem? (i := 804) (by decide +kernel), List.mem_of_getElem? (i := 892) (by decide +kernel), List.mem_of_getElem? (i := 893) (by decide +kernel)⟩
theorem lw_p26 : lw_okq (⟨"BlinkMovesModel", "compared", "()Z"⟩, 20) := ⟨⟨by decide +kernel, by decide +kernel⟩, List.mem_of_getElem? (i := 804) (by decide +kernel), List.mem_of_getElem? (i := 896) (by decide +kernel), List.mem_of_getElem? (i := 897) (by decide +kernel)⟩
theorem lw_p27 : lw_okq (⟨"BlinkMovesModel", "sum", "()Z"⟩, 20) := ⟨⟨by decide +kernel, by decide +kernel⟩, List.mem_of_getElem? (i := 804) (by decide +kernel), List.mem_of_getElem? (i := 900) (by decide +kernel), List.mem_of_getElem? (i := 901) (by decide +kernel)⟩
theorem lw_p28 : lw_okq (⟨"BlinkMovesModel", "product", "()Z"⟩, 20) := ⟨⟨by decide +kernel, by decide +kernel⟩, List.mem_of_getElem? (i := 804) (by decide +kernel), List.mem_of_getElem? (i := 904) (by decide +kernel), List.mem_of_getElem? (i := 905) (by decide +kernel)⟩
theorem lw_p29 : lw_okq (⟨"BlinkMovesModel", "one", "()Z"⟩, 20) := ⟨⟨by decide +kernel, by decide +kernel⟩, List.mem_of_getElem? (i := 804) (by decide +kernel), List.mem_of_getElem? (i := 908) (by decide +kernel), List.mem_of_getElem? (i := 909) (by decide +kernel)⟩
theorem lw_p30 : lw_okq (⟨"BlinkMovesModel", "look", "()I"⟩, 20) := ⟨⟨by decide +kernel, by decide +kernel⟩, List.mem_of_getElem? (i := 804) (by decide +kernel), List.mem_of_getElem? (i := 912) (by decide +kernel), List.mem_of_getElem? (i := 913) (by decide +kernel)⟩
theorem lw_p31 : lw_okq (⟨"BlinkMovesModel", "isName", "(I)Z"⟩, 20) := ⟨⟨by decide +kernel, by decide +kernel⟩, List.mem_of_getElem? (i := 804) (by decide +kernel), List.mem_of_getElem? (i := 916) (by decide +kernel), List.mem_of_getElem? (i := 917) (by decide +kernel)⟩
def lw_privs_2 : List (MethodName × Nat) := [(⟨"BlinkMoves$Foresight", "doneBehind", "(LBlinkMoves$Doing;II)I"⟩, 6), (⟨"BlinkMoves$Foresight", "tryPhase", "(III)V"⟩, 6), (⟨"BlinkMoves$Foresight", "isFit", "(IIILBlinkMoves$Row;)Z"⟩, 6), (⟨"BlinkMoves$Voices", "blinks", "(II)I"⟩, 5), (⟨"BlinkMoves$Voices", "moves", "(II)I"⟩, 5), (⟨"BlinkMoves$Voices", "looks", "(II)I"⟩, 5), (⟨"BlinkMoves$Voices", "parts", "(II)I"⟩, 5), (⟨"BlinkMovesModel", "error", "(I)I"⟩, 20), (⟨"BlinkMovesModel", "whole", "()Z"⟩, 20), (⟨"BlinkMovesModel", "both", "()Z"⟩, 20), (⟨"BlinkMovesModel", "compared", "()Z"⟩, 20), (⟨"BlinkMovesModel", "sum", "()Z"⟩, 20), (⟨"BlinkMovesModel", "product", "()Z"⟩, 20), (⟨"BlinkMovesModel", "one", "()Z"⟩, 20), (⟨"BlinkMovesModel", "look", "()I"⟩, 20), (⟨"BlinkMovesModel", "isName", "(I)Z"⟩, 20)]
theorem lw_r2 : ∀ q ∈ lw_privs_2, lw_okq q := List.forall_mem_cons.mpr ⟨lw_p16, List.forall_mem_cons.mpr ⟨lw_p17, List.forall_mem_cons.mpr ⟨lw_p18, List.forall_mem_cons.mpr ⟨lw_p19, List.forall_mem_cons.mpr ⟨lw_p20, List.forall_mem_cons.mpr ⟨lw_p21, List.forall_mem_cons.mpr ⟨lw_p22, List.forall_mem_cons.mpr ⟨lw_p23, List.forall_mem_cons.mpr ⟨lw_p24, List.forall_mem_cons.mpr ⟨lw_p25, List.forall_mem_cons.mpr ⟨lw_p26, List.forall_mem_cons.mpr ⟨lw_p27, List.forall_mem_cons.mpr ⟨lw_p28, List.forall_mem_cons.mpr ⟨lw_p29, List.forall_mem_cons.mpr ⟨lw_p30, List.forall_mem_cons.mpr ⟨lw_p31, fun _ h => absurd h List.not_mem_nil⟩⟩⟩⟩⟩⟩⟩⟩⟩⟩⟩⟩⟩⟩⟩⟩
theorem lw_p32 : lw_okq (⟨"BlinkMovesModel", "step1", "(II)V"⟩, 20) := ⟨⟨by decide +kernel, by decide +kernel⟩, List.mem_of_getElem? (i := 804) (by decide +kernel), List.mem_of_getElem? (i := 920) (by decide +kernel), List.mem_of_getElem? (i := 921) (by decide +kernel)⟩
theorem lw_p33 : lw_okq (⟨"BlinkMovesModel", "opens", "()Z"⟩, 20) := ⟨⟨by decide +kernel, by decide +kernel⟩, List.mem_of_getElem? (i := 804) (by decide +kernel), List.mem_of_getElem? (i := 924) (by decide +kernel), List.mem_of_getElem? (i := 925) (by decide +kernel)⟩
theorem lw_p34 : lw_okq (⟨"BlinkMovesModel", "hasText", "(I)Z"⟩, 20) := ⟨⟨by decide +kernel, by decide +kernel⟩, List.mem_of_getElem? (i := 804) (by decide +kernel), List.mem_of_getElem? (i := 932) (by decide +kernel), List.mem_of_getElem? (i := 933) (by decide +kernel)⟩
theorem lw_p35 : lw_okq (⟨"BlinkMovesModel", "lays1", "(III)V"⟩, 20) := ⟨⟨by decide +kernel, by decide +kernel⟩, List.mem_of_getElem? (i := 804) (by decide +kernel), List.mem_of_getElem? (i := 946) (by decide +kernel), List.mem_of_getElem? (i := 947) (by decide +kernel)⟩
theorem lw_p36 : lw_okq (⟨"BlinkMovesModel", "isPerson", "(I)Z"⟩, 20) := ⟨⟨by decide +kernel, by decide +kernel⟩, List.mem_of_getElem? (i := 804) (by decide +kernel), List.mem_of_getElem? (i := 954) (by decide +kernel), List.mem_of_getElem? (i := 955) (by decide +kernel)⟩
theorem lw_p37 : lw_okq (⟨"BlinkMovesModel", "its", "(II)I"⟩, 20) := ⟨⟨by decide +kernel, by decide +kernel⟩, List.mem_of_getElem? (i := 804) (by decide +kernel), List.mem_of_getElem? (i := 958) (by decide +kernel), List.mem_of_getElem? (i := 959) (by decide +kernel)⟩
theorem lw_p38 : lw_okq (⟨"BlinkMovesModel", "shutOf", "(I)I"⟩, 20) := ⟨⟨by decide +kernel, by decide +kernel⟩, List.mem_of_getElem? (i := 804) (by decide +kernel), List.mem_of_getElem? (i := 962) (by decide +kernel), List.mem_of_getElem? (i := 963) (by decide +kernel)⟩
theorem lw_p39 : lw_okq (⟨"BlinkMovesModel", "blinksNow", "(I)Z"⟩, 20) := ⟨⟨by decide +kernel, by decide +kernel⟩, List.mem_of_getElem? (i := 804) (by decide +kernel), List.mem_of_getElem? (i := 966) (by decide +kernel), List.mem_of_getElem? (i := 967) (by decide +kernel)⟩
theorem lw_p40 : lw_okq (⟨"BlinkMovesModel", "shutTold", "(III)I"⟩, 20) := ⟨⟨by decide +kernel, by decide +kernel⟩, List.mem_of_getElem? (i := 804) (by decide +kernel), List.mem_of_getElem? (i := 970) (by decide +kernel), List.mem_of_getElem? (i := 971) (by decide +kernel)⟩
theorem lw_p41 : lw_okq (⟨"BlinkMovesModel", "worked", "(I)I"⟩, 20) := ⟨⟨by decide +kernel, by decide +kernel⟩, List.mem_of_getElem? (i := 804) (by decide +kernel), List.mem_of_getElem? (i := 974) (by decide +kernel), List.mem_of_getElem? (i := 975) (by decide +kernel)⟩
theorem lw_p42 : lw_okq (⟨"BlinkMovesModel", "change1", "(II)I"⟩, 20) := ⟨⟨by decide +kernel, by decide +kernel⟩, List.mem_of_getElem? (i := 804) (by decide +kernel), List.mem_of_getElem? (i := 988) (by decide +kernel), List.mem_of_getElem? (i := 989) (by decide +kernel)⟩
theorem lw_p43 : lw_okq (⟨"BlinkMovesModel", "isSet", "(I)Z"⟩, 20) := ⟨⟨by decide +kernel, by decide +kernel⟩, List.mem_of_getElem? (i := 804) (by decide +kernel), List.mem_of_getElem? (i := 1007) (by decide +kernel), List.mem_of_getElem? (i := 1008) (by decide +kernel)⟩
theorem lw_p44 : lw_okq (⟨"BlinkMovesModel", "laysDoing", "(III)V"⟩, 20) := ⟨⟨by decide +kernel, by decide +kernel⟩, List.mem_of_getElem? (i := 804) (by decide +kernel), List.mem_of_getElem? (i := 1011) (by decide +kernel), List.mem_of_getElem? (i := 1012) (by decide +kernel)⟩
theorem lw_p45 : lw_okq (⟨"BlinkMovesModel", "isDoing", "(I)Z"⟩, 20) := ⟨⟨by decide +kernel, by decide +kernel⟩, List.mem_of_getElem? (i := 804) (by decide +kernel), List.mem_of_getElem? (i := 1019) (by decide +kernel), List.mem_of_getElem? (i := 1020) (by decide +kernel)⟩
theorem lw_p46 : lw_okq (⟨"BlinkMovesModel", "ofDoing", "(II)I"⟩, 20) := ⟨⟨by decide +kernel, by decide +kernel⟩, List.mem_of_getElem? (i := 804) (by decide +kernel), List.mem_of_getElem? (i := 1023) (by decide +kernel), List.mem_of_getElem? (i := 1024) (by decide +kernel)⟩
theorem lw_p47 : lw_okq (⟨"BlinkMovesModel", "shutNow", "()I"⟩, 20) := ⟨⟨by decide +kernel, by decide +kernel⟩, List.mem_of_getElem? (i := 804) (by decide +kernel), List.mem_of_getElem? (i := 1027) (by decide +kernel), List.mem_of_getElem? (i := 1028) (by decide +kernel)⟩
def lw_privs_3 : List (MethodName × Nat) := [(⟨"BlinkMovesModel", "step1", "(II)V"⟩, 20), (⟨"BlinkMovesModel", "opens", "()Z"⟩, 20), (⟨"BlinkMovesModel", "hasText", "(I)Z"⟩, 20), (⟨"BlinkMovesModel", "lays1", "(III)V"⟩, 20), (⟨"BlinkMovesModel", "isPerson", "(I)Z"⟩, 20), (⟨"BlinkMovesModel", "its", "(II)I"⟩, 20), (⟨"BlinkMovesModel", "shutOf", "(I)I"⟩, 20), (⟨"BlinkMovesModel", "blinksNow", "(I)Z"⟩, 20), (⟨"BlinkMovesModel", "shutTold", "(III)I"⟩, 20), (⟨"BlinkMovesModel", "worked", "(I)I"⟩, 20), (⟨"BlinkMovesModel", "change1", "(II)I"⟩, 20), (⟨"BlinkMovesModel", "isSet", "(I)Z"⟩, 20), (⟨"BlinkMovesModel", "laysDoing", "(III)V"⟩, 20), (⟨"BlinkMovesModel", "isDoing", "(I)Z"⟩, 20), (⟨"BlinkMovesModel", "ofDoing", "(II)I"⟩, 20), (⟨"BlinkMovesModel", "shutNow", "()I"⟩, 20)]
theorem lw_r3 : ∀ q ∈ lw_privs_3, lw_okq q := List.forall_mem_cons.mpr ⟨lw_p32, List.forall_mem_cons.mpr ⟨lw_p33, List.forall_mem_cons.mpr ⟨lw_p34, List.forall_mem_cons.mpr ⟨lw_p35, List.forall_mem_cons.mpr ⟨lw_p36, List.forall_mem_cons.mpr ⟨lw_p37, List.forall_mem_cons.mpr ⟨lw_p38, List.forall_mem_cons.mpr ⟨lw_p39, List.forall_mem_cons.mpr ⟨lw_p40, List.forall_mem_cons.mpr ⟨lw_p41, List.forall_mem_cons.mpr ⟨lw_p42, List.forall_mem_cons.mpr ⟨lw_p43, List.forall_mem_cons.mpr ⟨lw_p44, List.forall_mem_cons.mpr ⟨lw_p45, List.forall_mem_cons.mpr ⟨lw_p46, List.forall_mem_cons.mpr ⟨lw_p47, fun _ h => absurd h List.not_mem_nil⟩⟩⟩⟩⟩⟩⟩⟩⟩⟩⟩⟩⟩⟩⟩⟩
theorem lw_p48 : lw_okq (⟨"BlinkMovesModel", "onBy", "(II)I"⟩, 20) := ⟨⟨by decide +kernel, by decide +kernel⟩, List.mem_of_getElem? (i := 804) (by decide +kernel), List.mem_of_getElem? (i := 1031) (by decide +kernel), List.mem_of_getElem? (i := 1032) (by decide +kernel)⟩
theorem lw_p49 : lw_okq (⟨"BlinkMovesModel", "triesOf", "(I)I"⟩, 20) := ⟨⟨by decide +kernel, by decide +kernel⟩, List.mem_of_getElem? (i := 804) (by decide +kernel), List.mem_of_getElem? (i := 1035) (by decide +kernel), List.mem_of_getElem? (i := 1036) (by decide +kernel)⟩
theorem lw_p50 : lw_okq (⟨"BlinkMovesModel", "onTold", "(III)I"⟩, 20) := ⟨⟨by decide +kernel, by decide +kernel⟩, List.mem_of_getElem? (i := 804) (by decide +kernel), List.mem_of_getElem? (i := 1042) (by decide +kernel), List.mem_of_getElem? (i := 1043) (by decide +kernel)⟩
theorem lw_p51 : lw_okq (⟨"BlinkMovesModel", "whyNot", "(II)I"⟩, 20) := ⟨⟨by decide +kernel, by decide +kernel⟩, List.mem_of_getElem? (i := 804) (by decide +kernel), List.mem_of_getElem? (i := 1062) (by decide +kernel), List.mem_of_getElem? (i := 1063) (by decide +kernel)⟩
theorem lw_p52 : lw_okq (⟨"BlinkMovesModel", "aTick", "()I"⟩, 20) := ⟨⟨by decide +kernel, by decide +kernel⟩, List.mem_of_getElem? (i := 804) (by decide +kernel), List.mem_of_getElem? (i := 1067) (by decide +kernel), List.mem_of_getElem? (i := 1068) (by decide +kernel)⟩
theorem lw_p53 : lw_okq (⟨"BlinkMovesModel", "getsOn", "(II)Z"⟩, 20) := ⟨⟨by decide +kernel, by decide +kernel⟩, List.mem_of_getElem? (i := 804) (by decide +kernel), List.mem_of_getElem? (i := 1071) (by decide +kernel), List.mem_of_getElem? (i := 1072) (by decide +kernel)⟩
theorem lw_p54 : lw_okq (⟨"BlinkMovesModel", "shifts", "()V"⟩, 20) := ⟨⟨by decide +kernel, by decide +kernel⟩, List.mem_of_getElem? (i := 804) (by decide +kernel), List.mem_of_getElem? (i := 1079) (by decide +kernel), List.mem_of_getElem? (i := 1080) (by decide +kernel)⟩
theorem lw_p55 : lw_okq (⟨"BlinkMovesModel", "draw", "()I"⟩, 20) := ⟨⟨by decide +kernel, by decide +kernel⟩, List.mem_of_getElem? (i := 804) (by decide +kernel), List.mem_of_getElem? (i := 1083) (by decide +kernel), List.mem_of_getElem? (i := 1084) (by decide +kernel)⟩
theorem lw_p56 : lw_okq (⟨"BlinkMovesModel", "layDown", "()V"⟩, 20) := ⟨⟨by decide +kernel, by decide +kernel⟩, List.mem_of_getElem? (i := 804) (by decide +kernel), List.mem_of_getElem? (i := 1100) (by decide +kernel), List.mem_of_getElem? (i := 1101) (by decide +kernel)⟩
theorem lw_p57 : lw_okq (⟨"BlinkMovesModel", "layBack", "()V"⟩, 20) := ⟨⟨by decide +kernel, by decide +kernel⟩, List.mem_of_getElem? (i := 804) (by decide +kernel), List.mem_of_getElem? (i := 1104) (by decide +kernel), List.mem_of_getElem? (i := 1105) (by decide +kernel)⟩
theorem lw_p58 : lw_okq (⟨"BlinkMovesModel", "doneBy", "(II)I"⟩, 20) := ⟨⟨by decide +kernel, by decide +kernel⟩, List.mem_of_getElem? (i := 804) (by decide +kernel), List.mem_of_getElem? (i := 1112) (by decide +kernel), List.mem_of_getElem? (i := 1113) (by decide +kernel)⟩
theorem lw_p59 : lw_okq (⟨"BlinkMovesModel", "isMoment", "(I)Z"⟩, 20) := ⟨⟨by decide +kernel, by decide +kernel⟩, List.mem_of_getElem? (i := 804) (by decide +kernel), List.mem_of_getElem? (i := 1120) (by decide +kernel), List.mem_of_getElem? (i := 1121) (by decide +kernel)⟩
theorem lw_p60 : lw_okq (⟨"BlinkMovesModel", "momentsOf", "(II)I"⟩, 20) := ⟨⟨by decide +kernel, by decide +kernel⟩, List.mem_of_getElem? (i := 804) (by decide +kernel), List.mem_of_getElem? (i := 1128) (by decide +kernel), List.mem_of_getElem? (i := 1129) (by decide +kernel)⟩
theorem lw_p61 : lw_okq (⟨"BlinkMovesModel", "isDoneWithout", "(III)Z"⟩, 20) := ⟨⟨by decide +kernel, by decide +kernel⟩, List.mem_of_getElem? (i := 804) (by decide +kernel), List.mem_of_getElem? (i := 1136) (by decide +kernel), List.mem_of_getElem? (i := 1137) (by decide +kernel)⟩
theorem lw_p62 : lw_okq (⟨"BlinkMovesModel", "lacks", "(I)I"⟩, 20) := ⟨⟨by decide +kernel, by decide +kernel⟩, List.mem_of_getElem? (i := 804) (by decide +kernel), List.mem_of_getElem? (i := 1155) (by decide +kernel), List.mem_of_getElem? (i := 1156) (by decide +kernel)⟩
theorem lw_p63 : lw_okq (⟨"BlinkMovesModel", "isShutSo", "(IIII)Z"⟩, 20) := ⟨⟨by decide +kernel, by decide +kernel⟩, List.mem_of_getElem? (i := 804) (by decide +kernel), List.mem_of_getElem? (i := 1162) (by decide +kernel), List.mem_of_getElem? (i := 1163) (by decide +kernel)⟩
def lw_privs_4 : List (MethodName × Nat) := [(⟨"BlinkMovesModel", "onBy", "(II)I"⟩, 20), (⟨"BlinkMovesModel", "triesOf", "(I)I"⟩, 20), (⟨"BlinkMovesModel", "onTold", "(III)I"⟩, 20), (⟨"BlinkMovesModel", "whyNot", "(II)I"⟩, 20), (⟨"BlinkMovesModel", "aTick", "()I"⟩, 20), (⟨"BlinkMovesModel", "getsOn", "(II)Z"⟩, 20), (⟨"BlinkMovesModel", "shifts", "()V"⟩, 20), (⟨"BlinkMovesModel", "draw", "()I"⟩, 20), (⟨"BlinkMovesModel", "layDown", "()V"⟩, 20), (⟨"BlinkMovesModel", "layBack", "()V"⟩, 20), (⟨"BlinkMovesModel", "doneBy", "(II)I"⟩, 20), (⟨"BlinkMovesModel", "isMoment", "(I)Z"⟩, 20), (⟨"BlinkMovesModel", "momentsOf", "(II)I"⟩, 20), (⟨"BlinkMovesModel", "isDoneWithout", "(III)Z"⟩, 20), (⟨"BlinkMovesModel", "lacks", "(I)I"⟩, 20), (⟨"BlinkMovesModel", "isShutSo", "(IIII)Z"⟩, 20)]
theorem lw_r4 : ∀ q ∈ lw_privs_4, lw_okq q := List.forall_mem_cons.mpr ⟨lw_p48, List.forall_mem_cons.mpr ⟨lw_p49, List.forall_mem_cons.mpr ⟨lw_p50, List.forall_mem_cons.mpr ⟨lw_p51, List.forall_mem_cons.mpr ⟨lw_p52, List.forall_mem_cons.mpr ⟨lw_p53, List.forall_mem_cons.mpr ⟨lw_p54, List.forall_mem_cons.mpr ⟨lw_p55, List.forall_mem_cons.mpr ⟨lw_p56, List.forall_mem_cons.mpr ⟨lw_p57, List.forall_mem_cons.mpr ⟨lw_p58, List.forall_mem_cons.mpr ⟨lw_p59, List.forall_mem_cons.mpr ⟨lw_p60, List.forall_mem_cons.mpr ⟨lw_p61, List.forall_mem_cons.mpr ⟨lw_p62, List.forall_mem_cons.mpr ⟨lw_p63, fun _ h => absurd h List.not_mem_nil⟩⟩⟩⟩⟩⟩⟩⟩⟩⟩⟩⟩⟩⟩⟩⟩
theorem lw_p64 : lw_okq (⟨"BlinkMovesModel", "kindNow", "()I"⟩, 20) := ⟨⟨by decide +kernel, by decide +kernel⟩, List.mem_of_getElem? (i := 804) (by decide +kernel), List.mem_of_getElem? (i := 1170) (by decide +kernel), List.mem_of_getElem? (i := 1171) (by decide +kernel)⟩
theorem lw_p65 : lw_okq (⟨"BlinkMovesModel", "blinksAs", "(II)I"⟩, 20) := ⟨⟨by decide +kernel, by decide +kernel⟩, List.mem_of_getElem? (i := 804) (by decide +kernel), List.mem_of_getElem? (i := 1174) (by decide +kernel), List.mem_of_getElem? (i := 1175) (by decide +kernel)⟩
theorem lw_p66 : lw_okq (⟨"BlinkMovesModel", "starts", "(I)V"⟩, 20) := ⟨⟨by decide +kernel, by decide +kernel⟩, List.mem_of_getElem? (i := 804) (by decide +kernel), List.mem_of_getElem? (i := 1178) (by decide +kernel), List.mem_of_getElem? (i := 1179) (by decide +kernel)⟩
theorem lw_p67 : lw_okq (⟨"BlinkMovesModel", "movesAs", "(II)I"⟩, 20) := ⟨⟨by decide +kernel, by decide +kernel⟩, List.mem_of_getElem? (i := 804) (by decide +kernel), List.mem_of_getElem? (i := 1182) (by decide +kernel), List.mem_of_getElem? (i := 1183) (by decide +kernel)⟩
theorem lw_p68 : lw_okq (⟨"BlinkMovesModel", "mNow", "()I"⟩, 20) := ⟨⟨by decide +kernel, by decide +kernel⟩, List.mem_of_getElem? (i := 804) (by decide +kernel), List.mem_of_getElem? (i := 1186) (by decide +kernel), List.mem_of_getElem? (i := 1187) (by decide +kernel)⟩
theorem lw_p69 : lw_okq (⟨"BlinkMovesModel", "looksAs", "(II)I"⟩, 20) := ⟨⟨by decide +kernel, by decide +kernel⟩, List.mem_of_getElem? (i := 804) (by decide +kernel), List.mem_of_getElem? (i := 1190) (by decide +kernel), List.mem_of_getElem? (i := 1191) (by decide +kernel)⟩
theorem lw_p70 : lw_okq (⟨"BlinkMovesModel", "partsAs", "(II)I"⟩, 20) := ⟨⟨by decide +kernel, by decide +kernel⟩, List.mem_of_getElem? (i := 804) (by decide +kernel), List.mem_of_getElem? (i := 1194) (by decide +kernel), List.mem_of_getElem? (i := 1195) (by decide +kernel)⟩
theorem lw_p71 : lw_okq (⟨"BlinkMovesModel", "allParts", "()I"⟩, 20) := ⟨⟨by decide +kernel, by decide +kernel⟩, List.mem_of_getElem? (i := 804) (by decide +kernel), List.mem_of_getElem? (i := 1245) (by decide +kernel), List.mem_of_getElem? (i := 1246) (by decide +kernel)⟩
def lw_privs_5 : List (MethodName × Nat) := [(⟨"BlinkMovesModel", "kindNow", "()I"⟩, 20), (⟨"BlinkMovesModel", "blinksAs", "(II)I"⟩, 20), (⟨"BlinkMovesModel", "starts", "(I)V"⟩, 20), (⟨"BlinkMovesModel", "movesAs", "(II)I"⟩, 20), (⟨"BlinkMovesModel", "mNow", "()I"⟩, 20), (⟨"BlinkMovesModel", "looksAs", "(II)I"⟩, 20), (⟨"BlinkMovesModel", "partsAs", "(II)I"⟩, 20), (⟨"BlinkMovesModel", "allParts", "()I"⟩, 20)]
theorem lw_r5 : ∀ q ∈ lw_privs_5, lw_okq q := List.forall_mem_cons.mpr ⟨lw_p64, List.forall_mem_cons.mpr ⟨lw_p65, List.forall_mem_cons.mpr ⟨lw_p66, List.forall_mem_cons.mpr ⟨lw_p67, List.forall_mem_cons.mpr ⟨lw_p68, List.forall_mem_cons.mpr ⟨lw_p69, List.forall_mem_cons.mpr ⟨lw_p70, List.forall_mem_cons.mpr ⟨lw_p71, fun _ h => absurd h List.not_mem_nil⟩⟩⟩⟩⟩⟩⟩⟩
def lw_privs : List (MethodName × Nat) := lw_privs_1 ++ (lw_privs_2 ++ (lw_privs_3 ++ (lw_privs_4 ++ (lw_privs_5))))
def lw_tbl : List Cond := k2_sels lw_privs ++ tables_1
theorem lw_privs_ok : ∀ q ∈ lw_privs, lw_okq q := by
  show ∀ q ∈ lw_privs_1 ++ (lw_privs_2 ++ (lw_privs_3 ++ (lw_privs_4 ++ (lw_privs_5)))), lw_okq q
  exact List.forall_mem_append.mpr ⟨lw_r1, List.forall_mem_append.mpr ⟨lw_r2, List.forall_mem_append.mpr ⟨lw_r3, List.forall_mem_append.mpr ⟨lw_r4, lw_r5⟩⟩⟩⟩
-- ===== end of PART A; then your names; then what follows =====
def RX0 : String := "BlinkMoves$Doing"
def TX0 : u_T := fun k => match k with
  | 0 => ("BlinkMoves$Doing", "who", "I", false)
  | 1 => ("BlinkMoves$Doing", "parts", "I", false)
  | _ => ("BlinkMoves$Doing", "watchers", "I", false)
def tyX0 : Nat → FieldType := fun k => match k with
  | 0 => .int
  | 1 => .int
  | _ => .int
abbrev wsX00 : List Cond := u_ws RX0 TX0 3
theorem nmX0 : ∀ a, a < 3 → ∀ b, b < 3 → a ≠ b → (TX0 a).2.1 ≠ (TX0 b).2.1 := by decide +kernel
theorem tyX0_ok : ∀ k, k < 3 → parseFieldDescriptor (TX0 k).2.2.1 = some (tyX0 k) := by decide +kernel
abbrev cX0_init : ByteArray := prog_2_method_1_code
def yX0_init : MethodName := ⟨RX0, "<init>", "()V"⟩
abbrev cX0_beLike : ByteArray := prog_2_method_2_code
def yX0_beLike : MethodName := ⟨RX0, "beLike", "(LBlinkMoves$Doing;)V"⟩
def RX1 : String := "BlinkMoves$Foresight"
def TX1 : u_T := fun k => match k with
  | 0 => ("BlinkMoves$Foresight", "island", "LBlinkMoves$Island;", true)
  | 1 => ("BlinkMoves$Foresight", "shutAhead", "[I", true)
  | 2 => ("BlinkMoves$Foresight", "bestPhase", "I", false)
  | 3 => ("BlinkMoves$Foresight", "bestBehind", "I", false)
  | 4 => ("BlinkMoves$Foresight", "fitsFound", "I", false)
  | _ => ("BlinkMoves$Foresight", "firstFit", "I", false)
def tyX1 : Nat → FieldType := fun k => match k with
  | 0 => .object "BlinkMoves$Island"
  | 1 => .array .int
  | 2 => .int
  | 3 => .int
  | 4 => .int
  | _ => .int
abbrev wsX10 : List Cond := u_ws RX1 TX1 6
theorem nmX1 : ∀ a, a < 6 → ∀ b, b < 6 → a ≠ b → (TX1 a).2.1 ≠ (TX1 b).2.1 := by decide +kernel
theorem tyX1_ok : ∀ k, k < 6 → parseFieldDescriptor (TX1 k).2.2.1 = some (tyX1 k) := by decide +kernel
abbrev cX1_init : ByteArray := prog_3_method_1_code
def yX1_init : MethodName := ⟨RX1, "<init>", "(LBlinkMoves$Island;)V"⟩
abbrev cX1_partsBehind : ByteArray := prog_3_method_2_code
def yX1_partsBehind : MethodName := ⟨RX1, "partsBehind", "(LBlinkMoves$Doing;I)I"⟩
abbrev cX1_soonestDone : ByteArray := prog_3_method_3_code
def yX1_soonestDone : MethodName := ⟨RX1, "soonestDone", "(LBlinkMoves$Doing;)I"⟩
abbrev cX1_lookAhead : ByteArray := prog_3_method_4_code
def yX1_lookAhead : MethodName := ⟨RX1, "lookAhead", "(I)V"⟩
abbrev cX1_doneBehind : ByteArray := prog_3_method_5_code
def yX1_doneBehind : MethodName := ⟨RX1, "doneBehind", "(LBlinkMoves$Doing;II)I"⟩
abbrev cX1_firstMoment : ByteArray := prog_3_method_6_code
def yX1_firstMoment : MethodName := ⟨RX1, "firstMoment", "(I)I"⟩
abbrev cX1_momentsAmong : ByteArray := prog_3_method_7_code
def yX1_momentsAmong : MethodName := ⟨RX1, "momentsAmong", "(II)I"⟩
abbrev cX1_fewestAway : ByteArray := prog_3_method_8_code
def yX1_fewestAway : MethodName := ⟨RX1, "fewestAway", "(LBlinkMoves$Doing;I)I"⟩
abbrev cX1_findPhase : ByteArray := prog_3_method_9_code
def yX1_findPhase : MethodName := ⟨RX1, "findPhase", "(ILBlinkMoves$Doing;)Z"⟩
abbrev cX1_tryPhase : ByteArray := prog_3_method_10_code
def yX1_tryPhase : MethodName := ⟨RX1, "tryPhase", "(III)V"⟩
abbrev cX1_findFits : ByteArray := prog_3_method_11_code
def yX1_findFits : MethodName := ⟨RX1, "findFits", "(ILBlinkMoves$Row;)V"⟩
abbrev cX1_isFit : ByteArray := prog_3_method_12_code
def yX1_isFit : MethodName := ⟨RX1, "isFit", "(IIILBlinkMoves$Row;)Z"⟩
def RX2 : String := "BlinkMoves$Island"
def TX2 : u_T := fun k => match k with
  | 0 => ("BlinkMoves$Island", "people", "[LBlinkMoves$Person;", true)
  | 1 => ("BlinkMoves$Island", "doings", "[LBlinkMoves$Doing;", true)
  | 2 => ("BlinkMoves$Island", "shutLaw", "LBlinkMoves$Law;", true)
  | 3 => ("BlinkMoves$Island", "getsOnLaw", "LBlinkMoves$Law;", true)
  | 4 => ("BlinkMoves$Island", "tape", "LBlinkMoves$Row;", true)
  | 5 => ("BlinkMoves$Island", "waiting", "LBlinkMoves$Row;", true)
  | 6 => ("BlinkMoves$Island", "peopleCount", "I", false)
  | 7 => ("BlinkMoves$Island", "doingsCount", "I", false)
  | 8 => ("BlinkMoves$Island", "now", "I", false)
  | _ => ("BlinkMoves$Island", "z", "I", false)
def tyX2 : Nat → FieldType := fun k => match k with
  | 0 => .array (.object "BlinkMoves$Person")
  | 1 => .array (.object "BlinkMoves$Doing")
  | 2 => .object "BlinkMoves$Law"
  | 3 => .object "BlinkMoves$Law"
  | 4 => .object "BlinkMoves$Row"
  | 5 => .object "BlinkMoves$Row"
  | 6 => .int
  | 7 => .int
  | 8 => .int
  | _ => .int
abbrev wsX20 : List Cond := u_ws RX2 TX2 10
theorem nmX2 : ∀ a, a < 10 → ∀ b, b < 10 → a ≠ b → (TX2 a).2.1 ≠ (TX2 b).2.1 := by decide +kernel
theorem tyX2_ok : ∀ k, k < 10 → parseFieldDescriptor (TX2 k).2.2.1 = some (tyX2 k) := by decide +kernel
abbrev cX2_init : ByteArray := prog_4_method_1_code
def yX2_init : MethodName := ⟨RX2, "<init>", "()V"⟩
abbrev cX2_beLike : ByteArray := prog_4_method_2_code
def yX2_beLike : MethodName := ⟨RX2, "beLike", "(LBlinkMoves$Island;)V"⟩
abbrev cX2_hasPerson : ByteArray := prog_4_method_3_code
def yX2_hasPerson : MethodName := ⟨RX2, "hasPerson", "(I)Z"⟩
abbrev cX2_hasDoing : ByteArray := prog_4_method_4_code
def yX2_hasDoing : MethodName := ⟨RX2, "hasDoing", "(I)Z"⟩
abbrev cX2_hasSet : ByteArray := prog_4_method_5_code
def yX2_hasSet : MethodName := ⟨RX2, "hasSet", "(I)Z"⟩
abbrev cX2_lawOf : ByteArray := prog_4_method_6_code
def yX2_lawOf : MethodName := ⟨RX2, "lawOf", "(I)LBlinkMoves$Law;"⟩
abbrev cX2_isShutBy : ByteArray := prog_4_method_7_code
def yX2_isShutBy : MethodName := ⟨RX2, "isShutBy", "(IIII)Z"⟩
abbrev cX2_isShut : ByteArray := prog_4_method_8_code
def yX2_isShut : MethodName := ⟨RX2, "isShut", "(II)Z"⟩
abbrev cX2_shutSet : ByteArray := prog_4_method_9_code
def yX2_shutSet : MethodName := ⟨RX2, "shutSet", "(I)I"⟩
abbrev cX2_isMoment : ByteArray := prog_4_method_10_code
def yX2_isMoment : MethodName := ⟨RX2, "isMoment", "(II)Z"⟩
abbrev cX2_getsOnBy : ByteArray := prog_4_method_11_code
def yX2_getsOnBy : MethodName := ⟨RX2, "getsOnBy", "(LBlinkMoves$Doing;II)I"⟩
abbrev cX2_leftBehindTick : ByteArray := prog_4_method_12_code
def yX2_leftBehindTick : MethodName := ⟨RX2, "leftBehindTick", "(LBlinkMoves$Doing;III)I"⟩
abbrev cX2_goBy : ByteArray := prog_4_method_13_code
def yX2_goBy : MethodName := ⟨RX2, "goBy", "()I"⟩
abbrev cX2_draw : ByteArray := prog_4_method_14_code
def yX2_draw : MethodName := ⟨RX2, "draw", "()I"⟩
abbrev cX2_drawPhase : ByteArray := prog_4_method_15_code
def yX2_drawPhase : MethodName := ⟨RX2, "drawPhase", "()V"⟩
abbrev cX2_partsTogether : ByteArray := prog_4_method_16_code
def yX2_partsTogether : MethodName := ⟨RX2, "partsTogether", "()I"⟩
def RX3 : String := "BlinkMoves$Law"
def TX3 : u_T := fun k => match k with
  | 0 => ("BlinkMoves$Law", "use", "I", true)
  | 1 => ("BlinkMoves$Law", "code", "LBlinkMoves$Row;", true)
  | 2 => ("BlinkMoves$Law", "stack", "[I", true)
  | _ => ("BlinkMoves$Law", "given", "Z", false)
def tyX3 : Nat → FieldType := fun k => match k with
  | 0 => .int
  | 1 => .object "BlinkMoves$Row"
  | 2 => .array .int
  | _ => .boolean
abbrev wsX30 : List Cond := u_ws RX3 TX3 4
theorem nmX3 : ∀ a, a < 4 → ∀ b, b < 4 → a ≠ b → (TX3 a).2.1 ≠ (TX3 b).2.1 := by decide +kernel
theorem tyX3_ok : ∀ k, k < 4 → parseFieldDescriptor (TX3 k).2.2.1 = some (tyX3 k) := by decide +kernel
abbrev cX3_init : ByteArray := prog_5_method_1_code
def yX3_init : MethodName := ⟨RX3, "<init>", "(I)V"⟩
abbrev cX3_give : ByteArray := prog_5_method_2_code
def yX3_give : MethodName := ⟨RX3, "give", "(LBlinkMoves$Row;)V"⟩
abbrev cX3_beLike : ByteArray := prog_5_method_3_code
def yX3_beLike : MethodName := ⟨RX3, "beLike", "(LBlinkMoves$Law;)V"⟩
abbrev cX3_gives : ByteArray := prog_5_method_4_code
def yX3_gives : MethodName := ⟨RX3, "gives", "(III)I"⟩
abbrev cX3_held : ByteArray := prog_5_method_5_code
def yX3_held : MethodName := ⟨RX3, "held", "(II)I"⟩
abbrev cX3_worked : ByteArray := prog_5_method_6_code
def yX3_worked : MethodName := ⟨RX3, "worked", "(III)I"⟩
abbrev cX3_named : ByteArray := prog_5_method_7_code
def yX3_named : MethodName := ⟨RX3, "named", "(IIII)I"⟩
abbrev cX3_joined : ByteArray := prog_5_method_8_code
def yX3_joined : MethodName := ⟨RX3, "joined", "(III)I"⟩
def RX4 : String := "BlinkMoves$Person"
def TX4 : u_T := fun k => match k with
  | 0 => ("BlinkMoves$Person", "kind", "I", false)
  | 1 => ("BlinkMoves$Person", "m", "I", false)
  | 2 => ("BlinkMoves$Person", "beat", "I", false)
  | _ => ("BlinkMoves$Person", "phase", "I", false)
def tyX4 : Nat → FieldType := fun k => match k with
  | 0 => .int
  | 1 => .int
  | 2 => .int
  | _ => .int
abbrev wsX40 : List Cond := u_ws RX4 TX4 4
theorem nmX4 : ∀ a, a < 4 → ∀ b, b < 4 → a ≠ b → (TX4 a).2.1 ≠ (TX4 b).2.1 := by decide +kernel
theorem tyX4_ok : ∀ k, k < 4 → parseFieldDescriptor (TX4 k).2.2.1 = some (tyX4 k) := by decide +kernel
abbrev cX4_init : ByteArray := prog_6_method_1_code
def yX4_init : MethodName := ⟨RX4, "<init>", "()V"⟩
abbrev cX4_turnInto : ByteArray := prog_6_method_2_code
def yX4_turnInto : MethodName := ⟨RX4, "turnInto", "(I)V"⟩
abbrev cX4_beLike : ByteArray := prog_6_method_3_code
def yX4_beLike : MethodName := ⟨RX4, "beLike", "(LBlinkMoves$Person;)V"⟩
abbrev cX4_blinks : ByteArray := prog_6_method_4_code
def yX4_blinks : MethodName := ⟨RX4, "blinks", "(II)Z"⟩
abbrev cX4_deafBlinks : ByteArray := prog_6_method_5_code
def yX4_deafBlinks : MethodName := ⟨RX4, "deafBlinks", "(II)Z"⟩
abbrev cX4_tries : ByteArray := prog_6_method_6_code
def yX4_tries : MethodName := ⟨RX4, "tries", "(I)I"⟩
abbrev cX4_bankerTries : ByteArray := prog_6_method_7_code
def yX4_bankerTries : MethodName := ⟨RX4, "bankerTries", "()I"⟩
def RX5 : String := "BlinkMoves$Reader"
def TX5 : u_T := fun k => match k with
  | 0 => ("BlinkMoves$Reader", "tape", "LBlinkMoves$Row;", true)
  | 1 => ("BlinkMoves$Reader", "code", "LBlinkMoves$Row;", true)
  | 2 => ("BlinkMoves$Reader", "use", "I", false)
  | _ => ("BlinkMoves$Reader", "place", "I", false)
def tyX5 : Nat → FieldType := fun k => match k with
  | 0 => .object "BlinkMoves$Row"
  | 1 => .object "BlinkMoves$Row"
  | 2 => .int
  | _ => .int
abbrev wsX50 : List Cond := u_ws RX5 TX5 4
theorem nmX5 : ∀ a, a < 4 → ∀ b, b < 4 → a ≠ b → (TX5 a).2.1 ≠ (TX5 b).2.1 := by decide +kernel
theorem tyX5_ok : ∀ k, k < 4 → parseFieldDescriptor (TX5 k).2.2.1 = some (tyX5 k) := by decide +kernel
abbrev cX5_init : ByteArray := prog_7_method_1_code
def yX5_init : MethodName := ⟨RX5, "<init>", "(LBlinkMoves$Row;)V"⟩
abbrev cX5_reads : ByteArray := prog_7_method_2_code
def yX5_reads : MethodName := ⟨RX5, "reads", "(I)Z"⟩
abbrev cX5_fault : ByteArray := prog_7_method_3_code
def yX5_fault : MethodName := ⟨RX5, "fault", "()I"⟩
abbrev cX5_next : ByteArray := prog_7_method_4_code
def yX5_next : MethodName := ⟨RX5, "next", "()I"⟩
abbrev cX5_takes : ByteArray := prog_7_method_5_code
def yX5_takes : MethodName := ⟨RX5, "takes", "(I)Z"⟩
abbrev cX5_readsAny : ByteArray := prog_7_method_6_code
def yX5_readsAny : MethodName := ⟨RX5, "readsAny", "(I)Z"⟩
abbrev cX5_readsAll : ByteArray := prog_7_method_7_code
def yX5_readsAll : MethodName := ⟨RX5, "readsAll", "(I)Z"⟩
abbrev cX5_readsComparison : ByteArray := prog_7_method_8_code
def yX5_readsComparison : MethodName := ⟨RX5, "readsComparison", "(I)Z"⟩
abbrev cX5_readsSum : ByteArray := prog_7_method_9_code
def yX5_readsSum : MethodName := ⟨RX5, "readsSum", "(I)Z"⟩
abbrev cX5_readsProduct : ByteArray := prog_7_method_10_code
def yX5_readsProduct : MethodName := ⟨RX5, "readsProduct", "(I)Z"⟩
abbrev cX5_readsFactor : ByteArray := prog_7_method_11_code
def yX5_readsFactor : MethodName := ⟨RX5, "readsFactor", "(I)Z"⟩
abbrev cX5_readNumber : ByteArray := prog_7_method_12_code
def yX5_readNumber : MethodName := ⟨RX5, "readNumber", "()V"⟩
abbrev cX5_isDigit : ByteArray := prog_7_method_13_code
def yX5_isDigit : MethodName := ⟨RX5, "isDigit", "(I)Z"⟩
abbrev cX5_nameOf : ByteArray := prog_7_method_14_code
def yX5_nameOf : MethodName := ⟨RX5, "nameOf", "(I)I"⟩
def RX6 : String := "BlinkMoves$Row"
def TX6 : u_T := fun k => match k with
  | 0 => ("BlinkMoves$Row", "cells", "[I", true)
  | _ => ("BlinkMoves$Row", "filled", "I", false)
def tyX6 : Nat → FieldType := fun k => match k with
  | 0 => .array .int
  | _ => .int
abbrev wsX60 : List Cond := u_ws RX6 TX6 2
theorem nmX6 : ∀ a, a < 2 → ∀ b, b < 2 → a ≠ b → (TX6 a).2.1 ≠ (TX6 b).2.1 := by decide +kernel
theorem tyX6_ok : ∀ k, k < 2 → parseFieldDescriptor (TX6 k).2.2.1 = some (tyX6 k) := by decide +kernel
abbrev cX6_init : ByteArray := prog_8_method_1_code
def yX6_init : MethodName := ⟨RX6, "<init>", "(I)V"⟩
abbrev cX6_size : ByteArray := prog_8_method_2_code
def yX6_size : MethodName := ⟨RX6, "size", "()I"⟩
abbrev cX6_at : ByteArray := prog_8_method_3_code
def yX6_at : MethodName := ⟨RX6, "at", "(I)I"⟩
abbrev cX6_add : ByteArray := prog_8_method_4_code
def yX6_add : MethodName := ⟨RX6, "add", "(I)Z"⟩
abbrev cX6_change : ByteArray := prog_8_method_5_code
def yX6_change : MethodName := ⟨RX6, "change", "(II)V"⟩
abbrev cX6_clear : ByteArray := prog_8_method_6_code
def yX6_clear : MethodName := ⟨RX6, "clear", "()V"⟩
abbrev cX6_beZeros : ByteArray := prog_8_method_7_code
def yX6_beZeros : MethodName := ⟨RX6, "beZeros", "(I)V"⟩
abbrev cX6_spans : ByteArray := prog_8_method_8_code
def yX6_spans : MethodName := ⟨RX6, "spans", "(II)Z"⟩
abbrev cX6_takeFrom : ByteArray := prog_8_method_9_code
def yX6_takeFrom : MethodName := ⟨RX6, "takeFrom", "(LBlinkMoves$Row;III)V"⟩
abbrev cX6_beLike : ByteArray := prog_8_method_10_code
def yX6_beLike : MethodName := ⟨RX6, "beLike", "(LBlinkMoves$Row;)V"⟩
def RX7 : String := "BlinkMoves$Sheet"
def TX7 : u_T := fun k => match k with
  | 0 => ("BlinkMoves$Sheet", "numbers", "LBlinkMoves$Row;", true)
  | _ => ("BlinkMoves$Sheet", "bits", "I", false)
def tyX7 : Nat → FieldType := fun k => match k with
  | 0 => .object "BlinkMoves$Row"
  | _ => .int
abbrev wsX70 : List Cond := u_ws RX7 TX7 2
theorem nmX7 : ∀ a, a < 2 → ∀ b, b < 2 → a ≠ b → (TX7 a).2.1 ≠ (TX7 b).2.1 := by decide +kernel
theorem tyX7_ok : ∀ k, k < 2 → parseFieldDescriptor (TX7 k).2.2.1 = some (tyX7 k) := by decide +kernel
abbrev cX7_init : ByteArray := prog_9_method_1_code
def yX7_init : MethodName := ⟨RX7, "<init>", "()V"⟩
abbrev cX7_isMissing : ByteArray := prog_9_method_2_code
def yX7_isMissing : MethodName := ⟨RX7, "isMissing", "()Z"⟩
abbrev cX7_renew : ByteArray := prog_9_method_3_code
def yX7_renew : MethodName := ⟨RX7, "renew", "(II)V"⟩
abbrev cX7_lowestBits : ByteArray := prog_9_method_4_code
def yX7_lowestBits : MethodName := ⟨RX7, "lowestBits", "(I)I"⟩
def RX8 : String := "BlinkMoves$Voices"
def TX8 : u_T := fun k => match k with
  | 0 => ("BlinkMoves$Voices", "trace", "LBlinkMoves$Row;", true)
  | 1 => ("BlinkMoves$Voices", "parted", "Z", false)
  | 2 => ("BlinkMoves$Voices", "own", "I", false)
  | 3 => ("BlinkMoves$Voices", "k", "I", false)
  | _ => ("BlinkMoves$Voices", "m", "I", false)
def tyX8 : Nat → FieldType := fun k => match k with
  | 0 => .object "BlinkMoves$Row"
  | 1 => .boolean
  | 2 => .int
  | 3 => .int
  | _ => .int
abbrev wsX80 : List Cond := u_ws RX8 TX8 5
theorem nmX8 : ∀ a, a < 5 → ∀ b, b < 5 → a ≠ b → (TX8 a).2.1 ≠ (TX8 b).2.1 := by decide +kernel
theorem tyX8_ok : ∀ k, k < 5 → parseFieldDescriptor (TX8 k).2.2.1 = some (tyX8 k) := by decide +kernel
abbrev cX8_init : ByteArray := prog_10_method_1_code
def yX8_init : MethodName := ⟨RX8, "<init>", "()V"⟩
abbrev cX8_say : ByteArray := prog_10_method_2_code
def yX8_say : MethodName := ⟨RX8, "say", "(LBlinkMoves$Person;III)I"⟩
abbrev cX8_blinks : ByteArray := prog_10_method_3_code
def yX8_blinks : MethodName := ⟨RX8, "blinks", "(II)I"⟩
abbrev cX8_moves : ByteArray := prog_10_method_4_code
def yX8_moves : MethodName := ⟨RX8, "moves", "(II)I"⟩
abbrev cX8_looks : ByteArray := prog_10_method_5_code
def yX8_looks : MethodName := ⟨RX8, "looks", "(II)I"⟩
abbrev cX8_parts : ByteArray := prog_10_method_6_code
def yX8_parts : MethodName := ⟨RX8, "parts", "(II)I"⟩
def RX9 : String := "BlinkMoves"
def TX9 : u_T := fun k => match k with
  | 0 => ("BlinkMoves", "island", "LBlinkMoves$Island;", true)
  | 1 => ("BlinkMoves", "reader", "LBlinkMoves$Reader;", true)
  | 2 => ("BlinkMoves", "foresight", "LBlinkMoves$Foresight;", true)
  | 3 => ("BlinkMoves", "voices", "LBlinkMoves$Voices;", true)
  | 4 => ("BlinkMoves", "sheets", "[LBlinkMoves$Sheet;", true)
  | 5 => ("BlinkMoves", "errorsTold", "[I", true)
  | 6 => ("BlinkMoves", "imageKept", "LBlinkMoves$Island;", false)
  | _ => ("BlinkMoves", "imagesDone", "I", false)
def tyX9 : Nat → FieldType := fun k => match k with
  | 0 => .object "BlinkMoves$Island"
  | 1 => .object "BlinkMoves$Reader"
  | 2 => .object "BlinkMoves$Foresight"
  | 3 => .object "BlinkMoves$Voices"
  | 4 => .array (.object "BlinkMoves$Sheet")
  | 5 => .array .int
  | 6 => .object "BlinkMoves$Island"
  | _ => .int
abbrev wsX90 : List Cond := u_ws RX9 TX9 8
theorem nmX9 : ∀ a, a < 8 → ∀ b, b < 8 → a ≠ b → (TX9 a).2.1 ≠ (TX9 b).2.1 := by decide +kernel
theorem tyX9_ok : ∀ k, k < 8 → parseFieldDescriptor (TX9 k).2.2.1 = some (tyX9 k) := by decide +kernel
abbrev cX9_init : ByteArray := prog_1_method_1_code
def yX9_init : MethodName := ⟨RX9, "<init>", "()V"⟩
abbrev cX9_person : ByteArray := prog_1_method_2_code
def yX9_person : MethodName := ⟨RX9, "person", "(III)I"⟩
abbrev cX9_personIs : ByteArray := prog_1_method_3_code
def yX9_personIs : MethodName := ⟨RX9, "personIs", "(II)I"⟩
abbrev cX9_become : ByteArray := prog_1_method_4_code
def yX9_become : MethodName := ⟨RX9, "become", "(II)I"⟩
abbrev cX9_as : ByteArray := prog_1_method_5_code
def yX9_as : MethodName := ⟨RX9, "as", "(II)I"⟩
abbrev cX9_beats : ByteArray := prog_1_method_6_code
def yX9_beats : MethodName := ⟨RX9, "beats", "(III)I"⟩
abbrev cX9_doing : ByteArray := prog_1_method_7_code
def yX9_doing : MethodName := ⟨RX9, "doing", "(III)I"⟩
abbrev cX9_doingIs : ByteArray := prog_1_method_8_code
def yX9_doingIs : MethodName := ⟨RX9, "doingIs", "(II)I"⟩
abbrev cX9_sets : ByteArray := prog_1_method_9_code
def yX9_sets : MethodName := ⟨RX9, "sets", "(II)I"⟩
abbrev cX9_shut : ByteArray := prog_1_method_10_code
def yX9_shut : MethodName := ⟨RX9, "shut", "()I"⟩
abbrev cX9_feed : ByteArray := prog_1_method_11_code
def yX9_feed : MethodName := ⟨RX9, "feed", "(JI)I"⟩
abbrev cX9_text : ByteArray := prog_1_method_12_code
def yX9_text : MethodName := ⟨RX9, "text", "(I)I"⟩
abbrev cX9_untell : ByteArray := prog_1_method_13_code
def yX9_untell : MethodName := ⟨RX9, "untell", "(I)I"⟩
abbrev cX9_law : ByteArray := prog_1_method_14_code
def yX9_law : MethodName := ⟨RX9, "law", "(IIII)I"⟩
abbrev cX9_ticks : ByteArray := prog_1_method_15_code
def yX9_ticks : MethodName := ⟨RX9, "ticks", "(I)I"⟩
abbrev cX9_loose : ByteArray := prog_1_method_16_code
def yX9_loose : MethodName := ⟨RX9, "loose", "(I)I"⟩
abbrev cX9_tick : ByteArray := prog_1_method_17_code
def yX9_tick : MethodName := ⟨RX9, "tick", "(I)I"⟩
abbrev cX9_seed : ByteArray := prog_1_method_18_code
def yX9_seed : MethodName := ⟨RX9, "seed", "(I)I"⟩
abbrev cX9_then : ByteArray := prog_1_method_19_code
def yX9_then : MethodName := ⟨RX9, "then", "(II)I"⟩
abbrev cX9_soonest : ByteArray := prog_1_method_20_code
def yX9_soonest : MethodName := ⟨RX9, "soonest", "(I)I"⟩
abbrev cX9_moment : ByteArray := prog_1_method_21_code
def yX9_moment : MethodName := ⟨RX9, "moment", "(I)I"⟩
abbrev cX9_moments : ByteArray := prog_1_method_22_code
def yX9_moments : MethodName := ⟨RX9, "moments", "(II)I"⟩
abbrev cX9_away : ByteArray := prog_1_method_23_code
def yX9_away : MethodName := ⟨RX9, "away", "(III)I"⟩
abbrev cX9_phaseFor : ByteArray := prog_1_method_24_code
def yX9_phaseFor : MethodName := ⟨RX9, "phaseFor", "(III)I"⟩
abbrev cX9_odds : ByteArray := prog_1_method_25_code
def yX9_odds : MethodName := ⟨RX9, "odds", "(III)I"⟩
abbrev cX9_fits : ByteArray := prog_1_method_26_code
def yX9_fits : MethodName := ⟨RX9, "fits", "(III)I"⟩
abbrev cX9_voice : ByteArray := prog_1_method_27_code
def yX9_voice : MethodName := ⟨RX9, "voice", "(III)I"⟩
abbrev cX9_body : ByteArray := prog_1_method_28_code
def yX9_body : MethodName := ⟨RX9, "body", "(I)I"⟩
abbrev cX9_sheet : ByteArray := prog_1_method_29_code
def yX9_sheet : MethodName := ⟨RX9, "sheet", "(III)I"⟩
abbrev cX9_put : ByteArray := prog_1_method_30_code
def yX9_put : MethodName := ⟨RX9, "put", "(III)I"⟩
abbrev cX9_move : ByteArray := prog_1_method_31_code
def yX9_move : MethodName := ⟨RX9, "move", "(IIIII)I"⟩
abbrev cX9_partsAll : ByteArray := prog_1_method_32_code
def yX9_partsAll : MethodName := ⟨RX9, "partsAll", "(I)I"⟩
abbrev cX9_judge : ByteArray := prog_1_method_33_code
def yX9_judge : MethodName := ⟨RX9, "judge", "(I)I"⟩
abbrev cX9_image : ByteArray := prog_1_method_34_code
def yX9_image : MethodName := ⟨RX9, "image", "()I"⟩
abbrev cX9_restore : ByteArray := prog_1_method_35_code
def yX9_restore : MethodName := ⟨RX9, "restore", "()I"⟩
abbrev cX9_tell : ByteArray := prog_1_method_36_code
def yX9_tell : MethodName := ⟨RX9, "tell", "(I)I"⟩
abbrev cX9_check : ByteArray := prog_1_method_37_code
def yX9_check : MethodName := ⟨RX9, "check", "()I"⟩
abbrev cX9_count : ByteArray := prog_1_method_38_code
def yX9_count : MethodName := ⟨RX9, "count", "(I)I"⟩
abbrev cX9_told : ByteArray := prog_1_method_39_code
def yX9_told : MethodName := ⟨RX9, "told", "(I)I"⟩
abbrev cX9_fail : ByteArray := prog_1_method_40_code
def yX9_fail : MethodName := ⟨RX9, "fail", "(I)I"⟩
abbrev cX9_within : ByteArray := prog_1_method_41_code
def yX9_within : MethodName := ⟨RX9, "within", "(III)Z"⟩
abbrev cX9_isKindAndNumber : ByteArray := prog_1_method_42_code
def yX9_isKindAndNumber : MethodName := ⟨RX9, "isKindAndNumber", "(I)Z"⟩
abbrev cX9_isBeatAndPhase : ByteArray := prog_1_method_43_code
def yX9_isBeatAndPhase : MethodName := ⟨RX9, "isBeatAndPhase", "(II)Z"⟩
abbrev cX9_isParts : ByteArray := prog_1_method_44_code
def yX9_isParts : MethodName := ⟨RX9, "isParts", "(I)Z"⟩
abbrev cX9_isUse : ByteArray := prog_1_method_45_code
def yX9_isUse : MethodName := ⟨RX9, "isUse", "(I)Z"⟩
abbrev cX9_isSheet : ByteArray := prog_1_method_46_code
def yX9_isSheet : MethodName := ⟨RX9, "isSheet", "(I)Z"⟩
abbrev cX9_holds : ByteArray := prog_1_method_47_code
def yX9_holds : MethodName := ⟨RX9, "holds", "(II)Z"⟩
abbrev cX9_isUnder : ByteArray := prog_1_method_48_code
def yX9_isUnder : MethodName := ⟨RX9, "isUnder", "(II)Z"⟩
abbrev cX9_rest : ByteArray := prog_1_method_49_code
def yX9_rest : MethodName := ⟨RX9, "rest", "(III)I"⟩
abbrev cX9_commonDivisor : ByteArray := prog_1_method_50_code
def yX9_commonDivisor : MethodName := ⟨RX9, "commonDivisor", "(II)I"⟩
def RX10 : String := "BlinkMovesModel"
def TX10 : u_T := fun k => match k with
  | 0 => ("BlinkMovesModel", "s", "[I", true)
  | 1 => ("BlinkMovesModel", "kept", "[I", true)
  | 2 => ("BlinkMovesModel", "laid", "[I", true)
  | 3 => ("BlinkMovesModel", "images", "I", false)
  | 4 => ("BlinkMovesModel", "errors", "[I", true)
  | 5 => ("BlinkMovesModel", "at", "I", false)
  | 6 => ("BlinkMovesModel", "open", "I", false)
  | 7 => ("BlinkMovesModel", "steps", "I", false)
  | 8 => ("BlinkMovesModel", "use", "I", false)
  | 9 => ("BlinkMovesModel", "step", "[I", true)
  | 10 => ("BlinkMovesModel", "named", "[I", true)
  | 11 => ("BlinkMovesModel", "pile", "[I", true)
  | 12 => ("BlinkMovesModel", "traced", "I", false)
  | 13 => ("BlinkMovesModel", "trace", "[I", true)
  | 14 => ("BlinkMovesModel", "speaks", "I", false)
  | 15 => ("BlinkMovesModel", "isParted", "Z", false)
  | 16 => ("BlinkMovesModel", "bits", "[I", true)
  | 17 => ("BlinkMovesModel", "sizes", "[I", true)
  | 18 => ("BlinkMovesModel", "number", "[I", true)
  | _ => ("BlinkMovesModel", "aside", "[I", true)
def tyX10 : Nat → FieldType := fun k => match k with
  | 0 => .array .int
  | 1 => .array .int
  | 2 => .array .int
  | 3 => .int
  | 4 => .array .int
  | 5 => .int
  | 6 => .int
  | 7 => .int
  | 8 => .int
  | 9 => .array .int
  | 10 => .array .int
  | 11 => .array .int
  | 12 => .int
  | 13 => .array .int
  | 14 => .int
  | 15 => .boolean
  | 16 => .array .int
  | 17 => .array .int
  | 18 => .array .int
  | _ => .array .int
abbrev wsX100 : List Cond := u_ws RX10 TX10 20
theorem nmX10 : ∀ a, a < 20 → ∀ b, b < 20 → a ≠ b → (TX10 a).2.1 ≠ (TX10 b).2.1 := by decide +kernel
theorem tyX10_ok : ∀ k, k < 20 → parseFieldDescriptor (TX10 k).2.2.1 = some (tyX10 k) := by decide +kernel
abbrev cX10_init : ByteArray := prog_12_method_1_code
def yX10_init : MethodName := ⟨RX10, "<init>", "()V"⟩
abbrev cX10_error : ByteArray := prog_12_method_2_code
def yX10_error : MethodName := ⟨RX10, "error", "(I)I"⟩
abbrev cX10_in : ByteArray := prog_12_method_3_code
def yX10_in : MethodName := ⟨RX10, "in", "(III)Z"⟩
abbrev cX10_held : ByteArray := prog_12_method_4_code
def yX10_held : MethodName := ⟨RX10, "held", "(III)I"⟩
abbrev cX10_copyAll : ByteArray := prog_12_method_5_code
def yX10_copyAll : MethodName := ⟨RX10, "copyAll", "([I[I)V"⟩
abbrev cX10_layDown : ByteArray := prog_12_method_6_code
def yX10_layDown : MethodName := ⟨RX10, "layDown", "()V"⟩
abbrev cX10_layBack : ByteArray := prog_12_method_7_code
def yX10_layBack : MethodName := ⟨RX10, "layBack", "()V"⟩
abbrev cX10_isPerson : ByteArray := prog_12_method_8_code
def yX10_isPerson : MethodName := ⟨RX10, "isPerson", "(I)Z"⟩
abbrev cX10_isDoing : ByteArray := prog_12_method_9_code
def yX10_isDoing : MethodName := ⟨RX10, "isDoing", "(I)Z"⟩
abbrev cX10_isSet : ByteArray := prog_12_method_10_code
def yX10_isSet : MethodName := ⟨RX10, "isSet", "(I)Z"⟩
abbrev cX10_its : ByteArray := prog_12_method_11_code
def yX10_its : MethodName := ⟨RX10, "its", "(II)I"⟩
abbrev cX10_lays1 : ByteArray := prog_12_method_12_code
def yX10_lays1 : MethodName := ⟨RX10, "lays1", "(III)V"⟩
abbrev cX10_ofDoing : ByteArray := prog_12_method_13_code
def yX10_ofDoing : MethodName := ⟨RX10, "ofDoing", "(II)I"⟩
abbrev cX10_laysDoing : ByteArray := prog_12_method_14_code
def yX10_laysDoing : MethodName := ⟨RX10, "laysDoing", "(III)V"⟩
abbrev cX10_change1 : ByteArray := prog_12_method_15_code
def yX10_change1 : MethodName := ⟨RX10, "change1", "(II)I"⟩
abbrev cX10_manyIn : ByteArray := prog_12_method_16_code
def yX10_manyIn : MethodName := ⟨RX10, "manyIn", "(I)I"⟩
abbrev cX10_feed : ByteArray := prog_12_method_17_code
def yX10_feed : MethodName := ⟨RX10, "feed", "(JI)I"⟩
abbrev cX10_look : ByteArray := prog_12_method_18_code
def yX10_look : MethodName := ⟨RX10, "look", "()I"⟩
abbrev cX10_isName : ByteArray := prog_12_method_19_code
def yX10_isName : MethodName := ⟨RX10, "isName", "(I)Z"⟩
abbrev cX10_step1 : ByteArray := prog_12_method_20_code
def yX10_step1 : MethodName := ⟨RX10, "step1", "(II)V"⟩
abbrev cX10_whole : ByteArray := prog_12_method_21_code
def yX10_whole : MethodName := ⟨RX10, "whole", "()Z"⟩
abbrev cX10_both : ByteArray := prog_12_method_22_code
def yX10_both : MethodName := ⟨RX10, "both", "()Z"⟩
abbrev cX10_compared : ByteArray := prog_12_method_23_code
def yX10_compared : MethodName := ⟨RX10, "compared", "()Z"⟩
abbrev cX10_sum : ByteArray := prog_12_method_24_code
def yX10_sum : MethodName := ⟨RX10, "sum", "()Z"⟩
abbrev cX10_product : ByteArray := prog_12_method_25_code
def yX10_product : MethodName := ⟨RX10, "product", "()Z"⟩
abbrev cX10_opens : ByteArray := prog_12_method_26_code
def yX10_opens : MethodName := ⟨RX10, "opens", "()Z"⟩
abbrev cX10_one : ByteArray := prog_12_method_27_code
def yX10_one : MethodName := ⟨RX10, "one", "()Z"⟩
abbrev cX10_hasText : ByteArray := prog_12_method_28_code
def yX10_hasText : MethodName := ⟨RX10, "hasText", "(I)Z"⟩
abbrev cX10_text : ByteArray := prog_12_method_29_code
def yX10_text : MethodName := ⟨RX10, "text", "(I)I"⟩
abbrev cX10_untell : ByteArray := prog_12_method_30_code
def yX10_untell : MethodName := ⟨RX10, "untell", "(I)I"⟩
abbrev cX10_joined : ByteArray := prog_12_method_31_code
def yX10_joined : MethodName := ⟨RX10, "joined", "(III)I"⟩
abbrev cX10_worked : ByteArray := prog_12_method_32_code
def yX10_worked : MethodName := ⟨RX10, "worked", "(I)I"⟩
abbrev cX10_blinksNow : ByteArray := prog_12_method_33_code
def yX10_blinksNow : MethodName := ⟨RX10, "blinksNow", "(I)Z"⟩
abbrev cX10_triesOf : ByteArray := prog_12_method_34_code
def yX10_triesOf : MethodName := ⟨RX10, "triesOf", "(I)I"⟩
abbrev cX10_shutTold : ByteArray := prog_12_method_35_code
def yX10_shutTold : MethodName := ⟨RX10, "shutTold", "(III)I"⟩
abbrev cX10_onTold : ByteArray := prog_12_method_36_code
def yX10_onTold : MethodName := ⟨RX10, "onTold", "(III)I"⟩
abbrev cX10_shutOf : ByteArray := prog_12_method_37_code
def yX10_shutOf : MethodName := ⟨RX10, "shutOf", "(I)I"⟩
abbrev cX10_shutNow : ByteArray := prog_12_method_38_code
def yX10_shutNow : MethodName := ⟨RX10, "shutNow", "()I"⟩
abbrev cX10_onBy : ByteArray := prog_12_method_39_code
def yX10_onBy : MethodName := ⟨RX10, "onBy", "(II)I"⟩
abbrev cX10_getsOn : ByteArray := prog_12_method_40_code
def yX10_getsOn : MethodName := ⟨RX10, "getsOn", "(II)Z"⟩
abbrev cX10_aTick : ByteArray := prog_12_method_41_code
def yX10_aTick : MethodName := ⟨RX10, "aTick", "()I"⟩
abbrev cX10_draw : ByteArray := prog_12_method_42_code
def yX10_draw : MethodName := ⟨RX10, "draw", "()I"⟩
abbrev cX10_isKind : ByteArray := prog_12_method_43_code
def yX10_isKind : MethodName := ⟨RX10, "isKind", "(I)Z"⟩
abbrev cX10_isBeat : ByteArray := prog_12_method_44_code
def yX10_isBeat : MethodName := ⟨RX10, "isBeat", "(II)Z"⟩
abbrev cX10_person : ByteArray := prog_12_method_45_code
def yX10_person : MethodName := ⟨RX10, "person", "(III)I"⟩
abbrev cX10_personIs : ByteArray := prog_12_method_46_code
def yX10_personIs : MethodName := ⟨RX10, "personIs", "(II)I"⟩
abbrev cX10_become : ByteArray := prog_12_method_47_code
def yX10_become : MethodName := ⟨RX10, "become", "(II)I"⟩
abbrev cX10_as : ByteArray := prog_12_method_48_code
def yX10_as : MethodName := ⟨RX10, "as", "(II)I"⟩
abbrev cX10_beats : ByteArray := prog_12_method_49_code
def yX10_beats : MethodName := ⟨RX10, "beats", "(III)I"⟩
abbrev cX10_doing : ByteArray := prog_12_method_50_code
def yX10_doing : MethodName := ⟨RX10, "doing", "(III)I"⟩
abbrev cX10_doingIs : ByteArray := prog_12_method_51_code
def yX10_doingIs : MethodName := ⟨RX10, "doingIs", "(II)I"⟩
abbrev cX10_sets : ByteArray := prog_12_method_52_code
def yX10_sets : MethodName := ⟨RX10, "sets", "(II)I"⟩
abbrev cX10_shut : ByteArray := prog_12_method_53_code
def yX10_shut : MethodName := ⟨RX10, "shut", "()I"⟩
abbrev cX10_law : ByteArray := prog_12_method_54_code
def yX10_law : MethodName := ⟨RX10, "law", "(IIII)I"⟩
abbrev cX10_whyNot : ByteArray := prog_12_method_55_code
def yX10_whyNot : MethodName := ⟨RX10, "whyNot", "(II)I"⟩
abbrev cX10_ticks : ByteArray := prog_12_method_56_code
def yX10_ticks : MethodName := ⟨RX10, "ticks", "(I)I"⟩
abbrev cX10_shifts : ByteArray := prog_12_method_57_code
def yX10_shifts : MethodName := ⟨RX10, "shifts", "()V"⟩
abbrev cX10_loose : ByteArray := prog_12_method_58_code
def yX10_loose : MethodName := ⟨RX10, "loose", "(I)I"⟩
abbrev cX10_tick : ByteArray := prog_12_method_59_code
def yX10_tick : MethodName := ⟨RX10, "tick", "(I)I"⟩
abbrev cX10_seed : ByteArray := prog_12_method_60_code
def yX10_seed : MethodName := ⟨RX10, "seed", "(I)I"⟩
abbrev cX10_then : ByteArray := prog_12_method_61_code
def yX10_then : MethodName := ⟨RX10, "then", "(II)I"⟩
abbrev cX10_doneBy : ByteArray := prog_12_method_62_code
def yX10_doneBy : MethodName := ⟨RX10, "doneBy", "(II)I"⟩
abbrev cX10_soonest : ByteArray := prog_12_method_63_code
def yX10_soonest : MethodName := ⟨RX10, "soonest", "(I)I"⟩
abbrev cX10_isMoment : ByteArray := prog_12_method_64_code
def yX10_isMoment : MethodName := ⟨RX10, "isMoment", "(I)Z"⟩
abbrev cX10_moment : ByteArray := prog_12_method_65_code
def yX10_moment : MethodName := ⟨RX10, "moment", "(I)I"⟩
abbrev cX10_momentsOf : ByteArray := prog_12_method_66_code
def yX10_momentsOf : MethodName := ⟨RX10, "momentsOf", "(II)I"⟩
abbrev cX10_moments : ByteArray := prog_12_method_67_code
def yX10_moments : MethodName := ⟨RX10, "moments", "(II)I"⟩
abbrev cX10_isDoneWithout : ByteArray := prog_12_method_68_code
def yX10_isDoneWithout : MethodName := ⟨RX10, "isDoneWithout", "(III)Z"⟩
abbrev cX10_away : ByteArray := prog_12_method_69_code
def yX10_away : MethodName := ⟨RX10, "away", "(III)I"⟩
abbrev cX10_phaseFor : ByteArray := prog_12_method_70_code
def yX10_phaseFor : MethodName := ⟨RX10, "phaseFor", "(III)I"⟩
abbrev cX10_divisor : ByteArray := prog_12_method_71_code
def yX10_divisor : MethodName := ⟨RX10, "divisor", "(II)I"⟩
abbrev cX10_odds : ByteArray := prog_12_method_72_code
def yX10_odds : MethodName := ⟨RX10, "odds", "(III)I"⟩
abbrev cX10_isShutSo : ByteArray := prog_12_method_73_code
def yX10_isShutSo : MethodName := ⟨RX10, "isShutSo", "(IIII)Z"⟩
abbrev cX10_fits : ByteArray := prog_12_method_74_code
def yX10_fits : MethodName := ⟨RX10, "fits", "(III)I"⟩
abbrev cX10_starts : ByteArray := prog_12_method_75_code
def yX10_starts : MethodName := ⟨RX10, "starts", "(I)V"⟩
abbrev cX10_above : ByteArray := prog_12_method_76_code
def yX10_above : MethodName := ⟨RX10, "above", "(I)I"⟩
abbrev cX10_kindNow : ByteArray := prog_12_method_77_code
def yX10_kindNow : MethodName := ⟨RX10, "kindNow", "()I"⟩
abbrev cX10_mNow : ByteArray := prog_12_method_78_code
def yX10_mNow : MethodName := ⟨RX10, "mNow", "()I"⟩
abbrev cX10_blinksAs : ByteArray := prog_12_method_79_code
def yX10_blinksAs : MethodName := ⟨RX10, "blinksAs", "(II)I"⟩
abbrev cX10_movesAs : ByteArray := prog_12_method_80_code
def yX10_movesAs : MethodName := ⟨RX10, "movesAs", "(II)I"⟩
abbrev cX10_looksAs : ByteArray := prog_12_method_81_code
def yX10_looksAs : MethodName := ⟨RX10, "looksAs", "(II)I"⟩
abbrev cX10_partsAs : ByteArray := prog_12_method_82_code
def yX10_partsAs : MethodName := ⟨RX10, "partsAs", "(II)I"⟩
abbrev cX10_voice : ByteArray := prog_12_method_83_code
def yX10_voice : MethodName := ⟨RX10, "voice", "(III)I"⟩
abbrev cX10_body : ByteArray := prog_12_method_84_code
def yX10_body : MethodName := ⟨RX10, "body", "(I)I"⟩
abbrev cX10_isSheet : ByteArray := prog_12_method_85_code
def yX10_isSheet : MethodName := ⟨RX10, "isSheet", "(I)Z"⟩
abbrev cX10_sheet : ByteArray := prog_12_method_86_code
def yX10_sheet : MethodName := ⟨RX10, "sheet", "(III)I"⟩
abbrev cX10_put : ByteArray := prog_12_method_87_code
def yX10_put : MethodName := ⟨RX10, "put", "(III)I"⟩
abbrev cX10_move : ByteArray := prog_12_method_88_code
def yX10_move : MethodName := ⟨RX10, "move", "(IIIII)I"⟩
abbrev cX10_lacks : ByteArray := prog_12_method_89_code
def yX10_lacks : MethodName := ⟨RX10, "lacks", "(I)I"⟩
abbrev cX10_partsAll : ByteArray := prog_12_method_90_code
def yX10_partsAll : MethodName := ⟨RX10, "partsAll", "(I)I"⟩
abbrev cX10_judge : ByteArray := prog_12_method_91_code
def yX10_judge : MethodName := ⟨RX10, "judge", "(I)I"⟩
abbrev cX10_image : ByteArray := prog_12_method_92_code
def yX10_image : MethodName := ⟨RX10, "image", "()I"⟩
abbrev cX10_restore : ByteArray := prog_12_method_93_code
def yX10_restore : MethodName := ⟨RX10, "restore", "()I"⟩
abbrev cX10_tell : ByteArray := prog_12_method_94_code
def yX10_tell : MethodName := ⟨RX10, "tell", "(I)I"⟩
abbrev cX10_check : ByteArray := prog_12_method_95_code
def yX10_check : MethodName := ⟨RX10, "check", "()I"⟩
abbrev cX10_allParts : ByteArray := prog_12_method_96_code
def yX10_allParts : MethodName := ⟨RX10, "allParts", "()I"⟩
abbrev cX10_count : ByteArray := prog_12_method_97_code
def yX10_count : MethodName := ⟨RX10, "count", "(I)I"⟩
abbrev cX10_told : ByteArray := prog_12_method_98_code
def yX10_told : MethodName := ⟨RX10, "told", "(I)I"⟩
def RJ6 : String := "java/lang/Integer"
abbrev cJ6_bitCount_0f7a4 : ByteArray := prog_13_method_49_code
def yJ6_bitCount_0f7a4 : MethodName := ⟨RJ6, "bitCount", "(I)I"⟩
def RJ9 : String := "java/lang/Math"
abbrev cJ9_max_7cf53 : ByteArray := prog_14_method_65_code
def yJ9_max_7cf53 : MethodName := ⟨RJ9, "max", "(II)I"⟩
abbrev cJ9_min_7cf53 : ByteArray := prog_14_method_69_code
def yJ9_min_7cf53 : MethodName := ⟨RJ9, "min", "(II)I"⟩
def RJ10 : String := "java/lang/System"
def RL : String := "BlinkMovesLaw"
abbrev cL_law : ByteArray := code
def yL_law : MethodName := ⟨RL, "law", "([I)Z"⟩
abbrev vwCl : List vw_C := [(RX0, TX0, 3), (RX1, TX1, 6), (RX2, TX2, 10), (RX3, TX3, 4), (RX4, TX4, 4), (RX5, TX5, 4), (RX6, TX6, 2), (RX7, TX7, 2), (RX8, TX8, 5), (RX9, TX9, 8), (RX10, TX10, 20)]

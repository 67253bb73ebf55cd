theorem bX8_init_0 {d : Nat} {b : Nat × Nat} {S : XS} {im : XI} {Q : Option Value → XS → XI → Prop} {l0 : Nat}  (k : V mX8_init (d + 1) b 4 [some (.ref l0)] [] S im Q) : V mX8_init (d + 1) b 0 [some (.ref l0)] [] S im Q := by
  refine V.aload_n dX8_init_0 rfl rfl ?_
  refine V.objInit rfl lkX8_3 xoi_in xoi_code rfl dX8_init_1 ?_
  exact k
theorem bX8_init_4 {d : Nat} {b : Nat × Nat} {S : XS} {im : XI} {Q : Option Value → XS → XI → Prop} {l0 : Nat} {b1 : Nat × Nat} {P : XS → XI → Prop} {bc be : Nat × Nat} (g0 : 1 + b1.1 ≤ b.1 ∧ 2 + b1.2 ≤ b.2) (hs : SpC mX6_init d bc [.ref S.1.length, .int (30 : Int32)] (xpush S (.inl 6)) (xz im S.1.length) P) (hbud : bc.1 + be.1 ≤ b1.1 ∧ bc.2 + be.2 ≤ b1.2) (hP : ∀ S2 im2, P S2 im2 → S2.1.length = ((xpush S (.inl 6))).1.length + bc.1) (k : ∀ S2 im2, P S2 im2 → V mX8_init (d + 1) be 14 [some (.ref l0)] [.ref S.1.length, .ref l0] S2 im2 Q) : V mX8_init (d + 1) b 4 [some (.ref l0)] [] S im Q := by
  refine V.aload_n dX8_init_4 rfl rfl ?_
  refine V.new (ci := 6) rfl nwX8_9.1 nwX8_9.2.1 nwX8_9.2.2 g0 dX8_init_5 ?_
  refine V.dup dX8_init_8 rfl ?_
  refine V.bipush (v := 30) dX8_init_9 (by decide) ?_
  refine V.cC rfl vX6_init lkX8_11 wX6_init rfl rfl (As := [.int (30 : Int32)]) rfl rfl rfl dX8_init_11 hs hbud hP (fun S2 im2 h2 => ?_)
  exact k S2 im2 h2
theorem bX8_init_14 {d : Nat} {b : Nat × Nat} {S : XS} {im : XI} {Q : Option Value → XS → XI → Prop} {l0 : Nat} {s0 : Nat} {s1 : Nat} (g0 : S.1[s0]? = some (.inl 8)) (k : V mX8_init d b 17 [some (.ref l0)] [] (S.1, xur S.2 s0 0 (some s1)) im Q) : V mX8_init d b 14 [some (.ref l0)] [.ref s1, .ref s0] S im Q := by
  refine V.putR fX8_14 (fun _ => ⟨rfl, TX8, 5, rfl⟩) rfl rfl g0 dX8_init_14 ?_
  exact k
theorem bX8_init_17 {d : Nat} {b : Nat × Nat} {S : XS} {im : XI} {Q : Option Value → XS → XI → Prop} {l0 : Nat}  (hq : Q none S im) : V mX8_init d b 17 [some (.ref l0)] [] S im Q := by
  exact V.vret rfl dX8_init_17 hq
theorem bX8_say_0 {d : Nat} {b : Nat × Nat} {bo : Bool} {im : XI} {Q : Option Value → XS → XI → Prop} {l1 : Nat} {l2 : Int32} {l3 : Int32} {l4 : Int32} {P : XI → Prop}  (hs : SpV mX6_clear d [.ref 34] (SC bo) im P) (k : ∀ im2, P im2 → V mX8_say (d + 1) b 7 [some (.ref 33), some (.ref l1), some (.int l2), some (.int l3), some (.int l4)] [] (SC bo) im2 Q) : V mX8_say (d + 1) b 0 [some (.ref 33), some (.ref l1), some (.int l2), some (.int l3), some (.int l4)] [] (SC bo) im Q := by
  refine V.aload_n dX8_say_0 rfl rfl ?_
  refine V.getR fX8_14 rfl (by rfl) (by rfl) dX8_say_1 ?_
  refine V.cVV rfl vX6_clear lkX8_20 wX6_clear (ci := 6) rfl (by rfl) (As := []) rfl rfl rfl dX8_say_4 hs (fun im2 h2 => ?_)
  exact k im2 h2
theorem bX8_say_7 {d : Nat} {b : Nat × Nat} {bo : Bool} {im : XI} {Q : Option Value → XS → XI → Prop} {l1 : Nat} {l2 : Int32} {l3 : Int32} {l4 : Int32} (g0 : (SC bo).1[l1]? = some (.inl 4)) (k0 : l3 = 0 → V mX8_say d b 60 [some (.ref 33), some (.ref l1), some (.int l2), some (.int l3), some (.int l4)] [] (SC bo) (xup (xup (xup (xup im 33 1 (0 : Int32)) 33 2 ((xup im 33 1 (0 : Int32)) l1 0)) 33 3 l2) 33 4 ((xup (xup (xup im 33 1 (0 : Int32)) 33 2 ((xup im 33 1 (0 : Int32)) l1 0)) 33 3 l2) l1 1)) Q) (k1 : l3 = 1 → V mX8_say d b 71 [some (.ref 33), some (.ref l1), some (.int l2), some (.int l3), some (.int l4)] [] (SC bo) (xup (xup (xup (xup im 33 1 (0 : Int32)) 33 2 ((xup im 33 1 (0 : Int32)) l1 0)) 33 3 l2) 33 4 ((xup (xup (xup im 33 1 (0 : Int32)) 33 2 ((xup im 33 1 (0 : Int32)) l1 0)) 33 3 l2) l1 1)) Q) (k2 : l3 = 2 → V mX8_say d b 82 [some (.ref 33), some (.ref l1), some (.int l2), some (.int l3), some (.int l4)] [] (SC bo) (xup (xup (xup (xup im 33 1 (0 : Int32)) 33 2 ((xup im 33 1 (0 : Int32)) l1 0)) 33 3 l2) 33 4 ((xup (xup (xup im 33 1 (0 : Int32)) 33 2 ((xup im 33 1 (0 : Int32)) l1 0)) 33 3 l2) l1 1)) Q) (kd : ¬ l3 = 0 → ¬ l3 = 1 → ¬ l3 = 2 → V mX8_say d b 93 [some (.ref 33), some (.ref l1), some (.int l2), some (.int l3), some (.int l4)] [] (SC bo) (xup (xup (xup (xup im 33 1 (0 : Int32)) 33 2 ((xup im 33 1 (0 : Int32)) l1 0)) 33 3 l2) 33 4 ((xup (xup (xup im 33 1 (0 : Int32)) 33 2 ((xup im 33 1 (0 : Int32)) l1 0)) 33 3 l2) l1 1)) Q) : V mX8_say d b 7 [some (.ref 33), some (.ref l1), some (.int l2), some (.int l3), some (.int l4)] [] (SC bo) im Q := by
  refine V.aload_n dX8_say_7 rfl rfl ?_
  refine V.iconst (v := 0) dX8_say_8 (by decide) ?_
  refine V.putZ fX8_23 (fun h => by cases h) rfl (by decide) (by rfl) dX8_say_9 ?_
  refine V.aload_n dX8_say_12 rfl rfl ?_
  refine V.aload_n dX8_say_13 rfl rfl ?_
  refine V.getI fX8_27 rfl g0 dX8_say_14 ?_
  refine V.putI fX8_33 (fun h => by cases h) rfl (by rfl) dX8_say_17 ?_
  refine V.aload_n dX8_say_20 rfl rfl ?_
  refine V.iload_n dX8_say_21 rfl rfl ?_
  refine V.putI fX8_36 (fun h => by cases h) rfl (by rfl) dX8_say_22 ?_
  refine V.aload_n dX8_say_25 rfl rfl ?_
  refine V.aload_n dX8_say_26 rfl rfl ?_
  refine V.getI fX8_39 rfl g0 dX8_say_27 ?_
  refine V.putI fX8_42 (fun h => by cases h) rfl (by rfl) dX8_say_30 ?_
  refine V.iload_n dX8_say_33 rfl rfl ?_
  by_cases c0 : l3 = 0
  · exact V.tableIn (tgt := 60) (off := 26) dX8_say_34 (by rw [c0]; decide) (by rw [c0]; decide) (by rw [c0] <;> rfl) (by decide) (k0 c0)
  · skip
    by_cases c1 : l3 = 1
    · exact V.tableIn (tgt := 71) (off := 37) dX8_say_34 (by rw [c1]; decide) (by rw [c1]; decide) (by rw [c1] <;> rfl) (by decide) (k1 c1)
    · skip
      by_cases c2 : l3 = 2
      · exact V.tableIn (tgt := 82) (off := 48) dX8_say_34 (by rw [c2]; decide) (by rw [c2]; decide) (by rw [c2] <;> rfl) (by decide) (k2 c2)
      · skip
        exact V.tableOut (tgt := 93) dX8_say_34 (by have qc0 := lv_neT c0 (a := 0) rfl; have qc1 := lv_neT c1 (a := 1) rfl; have qc2 := lv_neT c2 (a := 2) rfl; omega) (by decide) (kd c0 c1 c2)
theorem bX8_say_60 {d : Nat} {b : Nat × Nat} {bo : Bool} {im : XI} {Q : Option Value → XS → XI → Prop} {l1 : Nat} {l2 : Int32} {l3 : Int32} {l4 : Int32} {P : Int32 → XI → Prop}  (hs : SpI mX8_blinks d [.ref 33, .int (im 33 2), .int l4] (SC bo) im P) (k : ∀ x2 im2, P x2 im2 → V mX8_say (d + 1) b 70 [some (.ref 33), some (.ref l1), some (.int l2), some (.int l3), some (.int l4)] [.int x2] (SC bo) im2 Q) : V mX8_say (d + 1) b 60 [some (.ref 33), some (.ref l1), some (.int l2), some (.int l3), some (.int l4)] [] (SC bo) im Q := by
  refine V.aload_n dX8_say_60 rfl rfl ?_
  refine V.aload_n dX8_say_61 rfl rfl ?_
  refine V.getI fX8_33 rfl (by rfl) dX8_say_62 ?_
  refine V.iload dX8_say_65 rfl ?_
  refine V.cVI rfl vX8_blinks lkX8_43 wX8_blinks (ci := 8) rfl (by rfl) (As := [.int (im 33 2), .int l4]) rfl rfl rfl dX8_say_67 hs (fun x2 im2 h2 => ?_)
  exact k x2 im2 h2
theorem bX8_say_70 {d : Nat} {b : Nat × Nat} {bo : Bool} {im : XI} {Q : Option Value → XS → XI → Prop} {l1 : Nat} {l2 : Int32} {l3 : Int32} {l4 : Int32} {s0 : Int32}  (hq : Q (some (.int s0)) (SC bo) im) : V mX8_say d b 70 [some (.ref 33), some (.ref l1), some (.int l2), some (.int l3), some (.int l4)] [.int s0] (SC bo) im Q := by
  exact V.iret rfl dX8_say_70 hq
theorem bX8_say_71 {d : Nat} {b : Nat × Nat} {bo : Bool} {im : XI} {Q : Option Value → XS → XI → Prop} {l1 : Nat} {l2 : Int32} {l3 : Int32} {l4 : Int32} {P : Int32 → XI → Prop}  (hs : SpI mX8_moves d [.ref 33, .int (im 33 2), .int l4] (SC bo) im P) (k : ∀ x2 im2, P x2 im2 → V mX8_say (d + 1) b 81 [some (.ref 33), some (.ref l1), some (.int l2), some (.int l3), some (.int l4)] [.int x2] (SC bo) im2 Q) : V mX8_say (d + 1) b 71 [some (.ref 33), some (.ref l1), some (.int l2), some (.int l3), some (.int l4)] [] (SC bo) im Q := by
  refine V.aload_n dX8_say_71 rfl rfl ?_
  refine V.aload_n dX8_say_72 rfl rfl ?_
  refine V.getI fX8_33 rfl (by rfl) dX8_say_73 ?_
  refine V.iload dX8_say_76 rfl ?_
  refine V.cVI rfl vX8_moves lkX8_47 wX8_moves (ci := 8) rfl (by rfl) (As := [.int (im 33 2), .int l4]) rfl rfl rfl dX8_say_78 hs (fun x2 im2 h2 => ?_)
  exact k x2 im2 h2
theorem bX8_say_81 {d : Nat} {b : Nat × Nat} {bo : Bool} {im : XI} {Q : Option Value → XS → XI → Prop} {l1 : Nat} {l2 : Int32} {l3 : Int32} {l4 : Int32} {s0 : Int32}  (hq : Q (some (.int s0)) (SC bo) im) : V mX8_say d b 81 [some (.ref 33), some (.ref l1), some (.int l2), some (.int l3), some (.int l4)] [.int s0] (SC bo) im Q := by
  exact V.iret rfl dX8_say_81 hq
theorem bX8_say_82 {d : Nat} {b : Nat × Nat} {bo : Bool} {im : XI} {Q : Option Value → XS → XI → Prop} {l1 : Nat} {l2 : Int32} {l3 : Int32} {l4 : Int32} {P : Int32 → XI → Prop}  (hs : SpI mX8_looks d [.ref 33, .int (im 33 2), .int l4] (SC bo) im P) (k : ∀ x2 im2, P x2 im2 → V mX8_say (d + 1) b 92 [some (.ref 33), some (.ref l1), some (.int l2), some (.int l3), some (.int l4)] [.int x2] (SC bo) im2 Q) : V mX8_say (d + 1) b 82 [some (.ref 33), some (.ref l1), some (.int l2), some (.int l3), some (.int l4)] [] (SC bo) im Q := by
  refine V.aload_n dX8_say_82 rfl rfl ?_
  refine V.aload_n dX8_say_83 rfl rfl ?_
  refine V.getI fX8_33 rfl (by rfl) dX8_say_84 ?_
  refine V.iload dX8_say_87 rfl ?_
  refine V.cVI rfl vX8_looks lkX8_50 wX8_looks (ci := 8) rfl (by rfl) (As := [.int (im 33 2), .int l4]) rfl rfl rfl dX8_say_89 hs (fun x2 im2 h2 => ?_)
  exact k x2 im2 h2
theorem bX8_say_92 {d : Nat} {b : Nat × Nat} {bo : Bool} {im : XI} {Q : Option Value → XS → XI → Prop} {l1 : Nat} {l2 : Int32} {l3 : Int32} {l4 : Int32} {s0 : Int32}  (hq : Q (some (.int s0)) (SC bo) im) : V mX8_say d b 92 [some (.ref 33), some (.ref l1), some (.int l2), some (.int l3), some (.int l4)] [.int s0] (SC bo) im Q := by
  exact V.iret rfl dX8_say_92 hq
theorem bX8_say_93 {d : Nat} {b : Nat × Nat} {bo : Bool} {im : XI} {Q : Option Value → XS → XI → Prop} {l1 : Nat} {l2 : Int32} {l3 : Int32} {l4 : Int32} {P : Int32 → XI → Prop}  (hs : SpI mX8_parts d [.ref 33, .int (im 33 2), .int l4] (SC bo) im P) (k : ∀ x2 im2, P x2 im2 → V mX8_say (d + 1) b 103 [some (.ref 33), some (.ref l1), some (.int l2), some (.int l3), some (.int l4)] [.int x2] (SC bo) im2 Q) : V mX8_say (d + 1) b 93 [some (.ref 33), some (.ref l1), some (.int l2), some (.int l3), some (.int l4)] [] (SC bo) im Q := by
  refine V.aload_n dX8_say_93 rfl rfl ?_
  refine V.aload_n dX8_say_94 rfl rfl ?_
  refine V.getI fX8_33 rfl (by rfl) dX8_say_95 ?_
  refine V.iload dX8_say_98 rfl ?_
  refine V.cVI rfl vX8_parts lkX8_53 wX8_parts (ci := 8) rfl (by rfl) (As := [.int (im 33 2), .int l4]) rfl rfl rfl dX8_say_100 hs (fun x2 im2 h2 => ?_)
  exact k x2 im2 h2
theorem bX8_say_103 {d : Nat} {b : Nat × Nat} {bo : Bool} {im : XI} {Q : Option Value → XS → XI → Prop} {l1 : Nat} {l2 : Int32} {l3 : Int32} {l4 : Int32} {s0 : Int32}  (hq : Q (some (.int s0)) (SC bo) im) : V mX8_say d b 103 [some (.ref 33), some (.ref l1), some (.int l2), some (.int l3), some (.int l4)] [.int s0] (SC bo) im Q := by
  exact V.iret rfl dX8_say_103 hq
theorem bX8_blinks_0 {d : Nat} {b : Nat × Nat} {bo : Bool} {im : XI} {Q : Option Value → XS → XI → Prop} {l1 : Int32} {l2 : Int32}  (k0 : l1 = 1 → V mX8_blinks d b 68 [some (.ref 33), some (.int l1), some (.int l2)] [] (SC bo) im Q) (k1 : l1 = 4 → V mX8_blinks d b 49 [some (.ref 33), some (.int l1), some (.int l2)] [] (SC bo) im Q) (k2 : l1 = 6 → V mX8_blinks d b 36 [some (.ref 33), some (.int l1), some (.int l2)] [] (SC bo) im Q) (kd : ¬ l1 = 1 → ¬ l1 = 4 → ¬ l1 = 6 → V mX8_blinks d b 87 [some (.ref 33), some (.int l1), some (.int l2)] [] (SC bo) im Q) : V mX8_blinks d b 0 [some (.ref 33), some (.int l1), some (.int l2)] [] (SC bo) im Q := by
  refine V.iload_n dX8_blinks_0 rfl rfl ?_
  by_cases c0 : l1 = 1
  · exact V.lookup (tgt := 68) (off := 67) dX8_blinks_1 rfl (by rw [c0] <;> rfl) (by decide) (k0 c0)
  · skip
    by_cases c1 : l1 = 4
    · exact V.lookup (tgt := 49) (off := 48) dX8_blinks_1 rfl (by rw [c1] <;> rfl) (by decide) (k1 c1)
    · skip
      by_cases c2 : l1 = 6
      · exact V.lookup (tgt := 36) (off := 35) dX8_blinks_1 rfl (by rw [c2] <;> rfl) (by decide) (k2 c2)
      · skip
        exact V.lookup (tgt := 87) (off := 86) dX8_blinks_1 rfl ((lv_osw c0 rfl).trans ((lv_osw c1 rfl).trans ((lv_osw c2 rfl).trans rfl))) (by decide) (kd c0 c1 c2)
theorem bX8_blinks_36 {d : Nat} {b : Nat × Nat} {bo : Bool} {im : XI} {Q : Option Value → XS → XI → Prop} {l1 : Int32} {l2 : Int32} {P : Int32 → XI → Prop}  (hs : SpI mX6_add d [.ref 34, .int (70 : Int32)] (SC bo) im P) (k : ∀ x2 im2, P x2 im2 → V mX8_blinks (d + 1) b 45 [some (.ref 33), some (.int l1), some (.int l2)] [.int x2] (SC bo) im2 Q) : V mX8_blinks (d + 1) b 36 [some (.ref 33), some (.int l1), some (.int l2)] [] (SC bo) im Q := by
  refine V.aload_n dX8_blinks_36 rfl rfl ?_
  refine V.getR fX8_14 rfl (by rfl) (by rfl) dX8_blinks_37 ?_
  refine V.bipush (v := 70) dX8_blinks_40 (by decide) ?_
  refine V.cVI rfl vX6_add lkX8_56 wX6_add (ci := 6) rfl (by rfl) (As := [.int (70 : Int32)]) rfl rfl rfl dX8_blinks_42 hs (fun x2 im2 h2 => ?_)
  exact k x2 im2 h2
theorem bX8_blinks_45 {d : Nat} {b : Nat × Nat} {bo : Bool} {im : XI} {Q : Option Value → XS → XI → Prop} {l1 : Int32} {l2 : Int32} {s0 : Int32}  (hq : Q (some (.int (9 : Int32))) (SC bo) im) : V mX8_blinks d b 45 [some (.ref 33), some (.int l1), some (.int l2)] [.int s0] (SC bo) im Q := by
  refine V.pop dX8_blinks_45 rfl ?_
  refine V.bipush (v := 9) dX8_blinks_46 (by decide) ?_
  exact V.iret rfl dX8_blinks_48 hq
theorem bX8_blinks_49 {d : Nat} {b : Nat × Nat} {bo : Bool} {im : XI} {Q : Option Value → XS → XI → Prop} {l1 : Int32} {l2 : Int32} {P : Int32 → XI → Prop}  (hs : SpI mX6_add d [.ref 34, .int (50 : Int32)] (SC bo) im P) (k : ∀ x2 im2, P x2 im2 → V mX8_blinks (d + 1) b 58 [some (.ref 33), some (.int l1), some (.int l2)] [.int x2] (SC bo) im2 Q) : V mX8_blinks (d + 1) b 49 [some (.ref 33), some (.int l1), some (.int l2)] [] (SC bo) im Q := by
  refine V.aload_n dX8_blinks_49 rfl rfl ?_
  refine V.getR fX8_14 rfl (by rfl) (by rfl) dX8_blinks_50 ?_
  refine V.bipush (v := 50) dX8_blinks_53 (by decide) ?_
  refine V.cVI rfl vX6_add lkX8_56 wX6_add (ci := 6) rfl (by rfl) (As := [.int (50 : Int32)]) rfl rfl rfl dX8_blinks_55 hs (fun x2 im2 h2 => ?_)
  exact k x2 im2 h2
theorem bX8_blinks_58 {d : Nat} {b : Nat × Nat} {bo : Bool} {im : XI} {Q : Option Value → XS → XI → Prop} {l1 : Int32} {l2 : Int32} {s0 : Int32} {P : Int32 → XI → Prop}  (hs : SpI mX8_blinks d [.ref 33, .int (1 : Int32), .int l2] (SC bo) im P) (k : ∀ x2 im2, P x2 im2 → V mX8_blinks (d + 1) b 65 [some (.ref 33), some (.int l1), some (.int l2)] [.int x2] (SC bo) im2 Q) : V mX8_blinks (d + 1) b 58 [some (.ref 33), some (.int l1), some (.int l2)] [.int s0] (SC bo) im Q := by
  refine V.pop dX8_blinks_58 rfl ?_
  refine V.aload_n dX8_blinks_59 rfl rfl ?_
  refine V.iconst (v := 1) dX8_blinks_60 (by decide) ?_
  refine V.iload_n dX8_blinks_61 rfl rfl ?_
  refine V.cVI rfl vX8_blinks lkX8_43 wX8_blinks (ci := 8) rfl (by rfl) (As := [.int (1 : Int32), .int l2]) rfl rfl rfl dX8_blinks_62 hs (fun x2 im2 h2 => ?_)
  exact k x2 im2 h2
theorem bX8_blinks_65 {d : Nat} {b : Nat × Nat} {bo : Bool} {im : XI} {Q : Option Value → XS → XI → Prop} {l1 : Int32} {l2 : Int32} {s0 : Int32}  (hq : Q (some (.int (s0 * (3 : Int32)))) (SC bo) im) : V mX8_blinks d b 65 [some (.ref 33), some (.int l1), some (.int l2)] [.int s0] (SC bo) im Q := by
  refine V.iconst (v := 3) dX8_blinks_65 (by decide) ?_
  refine V.imul dX8_blinks_66 ?_
  exact V.iret rfl dX8_blinks_67 hq
theorem bX8_blinks_68 {d : Nat} {b : Nat × Nat} {bo : Bool} {im : XI} {Q : Option Value → XS → XI → Prop} {l1 : Int32} {l2 : Int32} {P : Int32 → XI → Prop}  (hs : SpI mX6_add d [.ref 34, .int (20 : Int32)] (SC bo) im P) (k : ∀ x2 im2, P x2 im2 → V mX8_blinks (d + 1) b 77 [some (.ref 33), some (.int l1), some (.int l2)] [.int x2] (SC bo) im2 Q) : V mX8_blinks (d + 1) b 68 [some (.ref 33), some (.int l1), some (.int l2)] [] (SC bo) im Q := by
  refine V.aload_n dX8_blinks_68 rfl rfl ?_
  refine V.getR fX8_14 rfl (by rfl) (by rfl) dX8_blinks_69 ?_
  refine V.bipush (v := 20) dX8_blinks_72 (by decide) ?_
  refine V.cVI rfl vX6_add lkX8_56 wX6_add (ci := 6) rfl (by rfl) (As := [.int (20 : Int32)]) rfl rfl rfl dX8_blinks_74 hs (fun x2 im2 h2 => ?_)
  exact k x2 im2 h2
theorem bX8_blinks_77 {d : Nat} {b : Nat × Nat} {bo : Bool} {im : XI} {Q : Option Value → XS → XI → Prop} {l1 : Int32} {l2 : Int32} {s0 : Int32} {P : Int32 → XI → Prop}  (hs : SpI mX8_blinks d [.ref 33, .int (0 : Int32), .int l2] (SC bo) im P) (k : ∀ x2 im2, P x2 im2 → V mX8_blinks (d + 1) b 84 [some (.ref 33), some (.int l1), some (.int l2)] [.int x2] (SC bo) im2 Q) : V mX8_blinks (d + 1) b 77 [some (.ref 33), some (.int l1), some (.int l2)] [.int s0] (SC bo) im Q := by
  refine V.pop dX8_blinks_77 rfl ?_
  refine V.aload_n dX8_blinks_78 rfl rfl ?_
  refine V.iconst (v := 0) dX8_blinks_79 (by decide) ?_
  refine V.iload_n dX8_blinks_80 rfl rfl ?_
  refine V.cVI rfl vX8_blinks lkX8_43 wX8_blinks (ci := 8) rfl (by rfl) (As := [.int (0 : Int32), .int l2]) rfl rfl rfl dX8_blinks_81 hs (fun x2 im2 h2 => ?_)
  exact k x2 im2 h2
theorem bX8_blinks_84 {d : Nat} {b : Nat × Nat} {bo : Bool} {im : XI} {Q : Option Value → XS → XI → Prop} {l1 : Int32} {l2 : Int32} {s0 : Int32}  (hq : Q (some (.int (s0 - (4 : Int32)))) (SC bo) im) : V mX8_blinks d b 84 [some (.ref 33), some (.int l1), some (.int l2)] [.int s0] (SC bo) im Q := by
  refine V.iconst (v := 4) dX8_blinks_84 (by decide) ?_
  refine V.isub dX8_blinks_85 ?_
  exact V.iret rfl dX8_blinks_86 hq
theorem bX8_blinks_87 {d : Nat} {b : Nat × Nat} {bo : Bool} {im : XI} {Q : Option Value → XS → XI → Prop} {l1 : Int32} {l2 : Int32} {P : Int32 → XI → Prop}  (hs : SpI mX6_add d [.ref 34, .int (10 : Int32)] (SC bo) im P) (k : ∀ x2 im2, P x2 im2 → V mX8_blinks (d + 1) b 96 [some (.ref 33), some (.int l1), some (.int l2)] [.int x2] (SC bo) im2 Q) : V mX8_blinks (d + 1) b 87 [some (.ref 33), some (.int l1), some (.int l2)] [] (SC bo) im Q := by
  refine V.aload_n dX8_blinks_87 rfl rfl ?_
  refine V.getR fX8_14 rfl (by rfl) (by rfl) dX8_blinks_88 ?_
  refine V.bipush (v := 10) dX8_blinks_91 (by decide) ?_
  refine V.cVI rfl vX6_add lkX8_56 wX6_add (ci := 6) rfl (by rfl) (As := [.int (10 : Int32)]) rfl rfl rfl dX8_blinks_93 hs (fun x2 im2 h2 => ?_)
  exact k x2 im2 h2
theorem bX8_blinks_96 {d : Nat} {b : Nat × Nat} {bo : Bool} {im : XI} {Q : Option Value → XS → XI → Prop} {l1 : Int32} {l2 : Int32} {s0 : Int32}  (hq : Q (some (.int (l2 + (im 33 3)))) (SC bo) im) : V mX8_blinks d b 96 [some (.ref 33), some (.int l1), some (.int l2)] [.int s0] (SC bo) im Q := by
  refine V.pop dX8_blinks_96 rfl ?_
  refine V.iload_n dX8_blinks_97 rfl rfl ?_
  refine V.aload_n dX8_blinks_98 rfl rfl ?_
  refine V.getI fX8_36 rfl (by rfl) dX8_blinks_99 ?_
  refine V.iadd dX8_blinks_102 ?_
  exact V.iret rfl dX8_blinks_103 hq
theorem bX8_moves_0 {d : Nat} {b : Nat × Nat} {bo : Bool} {im : XI} {Q : Option Value → XS → XI → Prop} {l1 : Int32} {l2 : Int32}  (k0 : l1 = 2 → V mX8_moves d b 77 [some (.ref 33), some (.int l1), some (.int l2)] [] (SC bo) im Q) (k1 : l1 = 5 → V mX8_moves d b 58 [some (.ref 33), some (.int l1), some (.int l2)] [] (SC bo) im Q) (k2 : l1 = 6 → V mX8_moves d b 36 [some (.ref 33), some (.int l1), some (.int l2)] [] (SC bo) im Q) (kd : ¬ l1 = 2 → ¬ l1 = 5 → ¬ l1 = 6 → V mX8_moves d b 96 [some (.ref 33), some (.int l1), some (.int l2)] [] (SC bo) im Q) : V mX8_moves d b 0 [some (.ref 33), some (.int l1), some (.int l2)] [] (SC bo) im Q := by
  refine V.iload_n dX8_moves_0 rfl rfl ?_
  by_cases c0 : l1 = 2
  · exact V.tableIn (tgt := 77) (off := 76) dX8_moves_1 (by rw [c0]; decide) (by rw [c0]; decide) (by rw [c0] <;> rfl) (by decide) (k0 c0)
  · skip
    by_cases c1 : l1 = 3
    · exact V.tableIn (tgt := 96) (off := 95) dX8_moves_1 (by rw [c1]; decide) (by rw [c1]; decide) (by rw [c1] <;> rfl) (by decide) (kd c0 (by rw [c1]; decide) (by rw [c1]; decide))
    · skip
      by_cases c2 : l1 = 4
      · exact V.tableIn (tgt := 96) (off := 95) dX8_moves_1 (by rw [c2]; decide) (by rw [c2]; decide) (by rw [c2] <;> rfl) (by decide) (kd c0 (by rw [c2]; decide) (by rw [c2]; decide))
      · skip
        by_cases c3 : l1 = 5
        · exact V.tableIn (tgt := 58) (off := 57) dX8_moves_1 (by rw [c3]; decide) (by rw [c3]; decide) (by rw [c3] <;> rfl) (by decide) (k1 c3)
        · skip
          by_cases c4 : l1 = 6
          · exact V.tableIn (tgt := 36) (off := 35) dX8_moves_1 (by rw [c4]; decide) (by rw [c4]; decide) (by rw [c4] <;> rfl) (by decide) (k2 c4)
          · skip
            exact V.tableOut (tgt := 96) dX8_moves_1 (by have qc0 := lv_neT c0 (a := 2) rfl; have qc1 := lv_neT c1 (a := 3) rfl; have qc2 := lv_neT c2 (a := 4) rfl; have qc3 := lv_neT c3 (a := 5) rfl; have qc4 := lv_neT c4 (a := 6) rfl; omega) (by decide) (kd c0 c3 c4)
theorem bX8_moves_36 {d : Nat} {b : Nat × Nat} {bo : Bool} {im : XI} {Q : Option Value → XS → XI → Prop} {l1 : Int32} {l2 : Int32} {P : Int32 → XI → Prop}  (hs : SpI mX6_add d [.ref 34, .int (71 : Int32)] (SC bo) im P) (k : ∀ x2 im2, P x2 im2 → V mX8_moves (d + 1) b 45 [some (.ref 33), some (.int l1), some (.int l2)] [.int x2] (SC bo) im2 Q) : V mX8_moves (d + 1) b 36 [some (.ref 33), some (.int l1), some (.int l2)] [] (SC bo) im Q := by
  refine V.aload_n dX8_moves_36 rfl rfl ?_
  refine V.getR fX8_14 rfl (by rfl) (by rfl) dX8_moves_37 ?_
  refine V.bipush (v := 71) dX8_moves_40 (by decide) ?_
  refine V.cVI rfl vX6_add lkX8_56 wX6_add (ci := 6) rfl (by rfl) (As := [.int (71 : Int32)]) rfl rfl rfl dX8_moves_42 hs (fun x2 im2 h2 => ?_)
  exact k x2 im2 h2
theorem bX8_moves_45 {d : Nat} {b : Nat × Nat} {bo : Bool} {im : XI} {Q : Option Value → XS → XI → Prop} {l1 : Int32} {l2 : Int32} {s0 : Int32} {P : Int32 → XI → Prop}  (hs : SpI mX8_moves d [.ref 33, .int (0 : Int32), .int l2] (SC bo) im P) (k : ∀ x2 im2, P x2 im2 → V mX8_moves (d + 1) b 52 [some (.ref 33), some (.int l1), some (.int l2)] [.int x2] (SC bo) im2 Q) : V mX8_moves (d + 1) b 45 [some (.ref 33), some (.int l1), some (.int l2)] [.int s0] (SC bo) im Q := by
  refine V.pop dX8_moves_45 rfl ?_
  refine V.aload_n dX8_moves_46 rfl rfl ?_
  refine V.iconst (v := 0) dX8_moves_47 (by decide) ?_
  refine V.iload_n dX8_moves_48 rfl rfl ?_
  refine V.cVI rfl vX8_moves lkX8_47 wX8_moves (ci := 8) rfl (by rfl) (As := [.int (0 : Int32), .int l2]) rfl rfl rfl dX8_moves_49 hs (fun x2 im2 h2 => ?_)
  exact k x2 im2 h2
theorem bX8_moves_52 {d : Nat} {b : Nat × Nat} {bo : Bool} {im : XI} {Q : Option Value → XS → XI → Prop} {l1 : Int32} {l2 : Int32} {s0 : Int32}  (hq : Q (some (.int (s0 + (im 33 4)))) (SC bo) im) : V mX8_moves d b 52 [some (.ref 33), some (.int l1), some (.int l2)] [.int s0] (SC bo) im Q := by
  refine V.aload_n dX8_moves_52 rfl rfl ?_
  refine V.getI fX8_42 rfl (by rfl) dX8_moves_53 ?_
  refine V.iadd dX8_moves_56 ?_
  exact V.iret rfl dX8_moves_57 hq
theorem bX8_moves_58 {d : Nat} {b : Nat × Nat} {bo : Bool} {im : XI} {Q : Option Value → XS → XI → Prop} {l1 : Int32} {l2 : Int32} {P : Int32 → XI → Prop}  (hs : SpI mX6_add d [.ref 34, .int (60 : Int32)] (SC bo) im P) (k : ∀ x2 im2, P x2 im2 → V mX8_moves (d + 1) b 67 [some (.ref 33), some (.int l1), some (.int l2)] [.int x2] (SC bo) im2 Q) : V mX8_moves (d + 1) b 58 [some (.ref 33), some (.int l1), some (.int l2)] [] (SC bo) im Q := by
  refine V.aload_n dX8_moves_58 rfl rfl ?_
  refine V.getR fX8_14 rfl (by rfl) (by rfl) dX8_moves_59 ?_
  refine V.bipush (v := 60) dX8_moves_62 (by decide) ?_
  refine V.cVI rfl vX6_add lkX8_56 wX6_add (ci := 6) rfl (by rfl) (As := [.int (60 : Int32)]) rfl rfl rfl dX8_moves_64 hs (fun x2 im2 h2 => ?_)
  exact k x2 im2 h2
theorem bX8_moves_67 {d : Nat} {b : Nat × Nat} {bo : Bool} {im : XI} {Q : Option Value → XS → XI → Prop} {l1 : Int32} {l2 : Int32} {s0 : Int32} {P : Int32 → XI → Prop}  (hs : SpI mX8_moves d [.ref 33, .int (2 : Int32), .int (l2 + (1 : Int32))] (SC bo) im P) (k : ∀ x2 im2, P x2 im2 → V mX8_moves (d + 1) b 76 [some (.ref 33), some (.int l1), some (.int l2)] [.int x2] (SC bo) im2 Q) : V mX8_moves (d + 1) b 67 [some (.ref 33), some (.int l1), some (.int l2)] [.int s0] (SC bo) im Q := by
  refine V.pop dX8_moves_67 rfl ?_
  refine V.aload_n dX8_moves_68 rfl rfl ?_
  refine V.iconst (v := 2) dX8_moves_69 (by decide) ?_
  refine V.iload_n dX8_moves_70 rfl rfl ?_
  refine V.iconst (v := 1) dX8_moves_71 (by decide) ?_
  refine V.iadd dX8_moves_72 ?_
  refine V.cVI rfl vX8_moves lkX8_47 wX8_moves (ci := 8) rfl (by rfl) (As := [.int (2 : Int32), .int (l2 + (1 : Int32))]) rfl rfl rfl dX8_moves_73 hs (fun x2 im2 h2 => ?_)
  exact k x2 im2 h2
theorem bX8_moves_76 {d : Nat} {b : Nat × Nat} {bo : Bool} {im : XI} {Q : Option Value → XS → XI → Prop} {l1 : Int32} {l2 : Int32} {s0 : Int32}  (hq : Q (some (.int s0)) (SC bo) im) : V mX8_moves d b 76 [some (.ref 33), some (.int l1), some (.int l2)] [.int s0] (SC bo) im Q := by
  exact V.iret rfl dX8_moves_76 hq
theorem bX8_moves_77 {d : Nat} {b : Nat × Nat} {bo : Bool} {im : XI} {Q : Option Value → XS → XI → Prop} {l1 : Int32} {l2 : Int32} {P : Int32 → XI → Prop}  (hs : SpI mX6_add d [.ref 34, .int (30 : Int32)] (SC bo) im P) (k : ∀ x2 im2, P x2 im2 → V mX8_moves (d + 1) b 86 [some (.ref 33), some (.int l1), some (.int l2)] [.int x2] (SC bo) im2 Q) : V mX8_moves (d + 1) b 77 [some (.ref 33), some (.int l1), some (.int l2)] [] (SC bo) im Q := by
  refine V.aload_n dX8_moves_77 rfl rfl ?_
  refine V.getR fX8_14 rfl (by rfl) (by rfl) dX8_moves_78 ?_
  refine V.bipush (v := 30) dX8_moves_81 (by decide) ?_
  refine V.cVI rfl vX6_add lkX8_56 wX6_add (ci := 6) rfl (by rfl) (As := [.int (30 : Int32)]) rfl rfl rfl dX8_moves_83 hs (fun x2 im2 h2 => ?_)
  exact k x2 im2 h2
theorem bX8_moves_86 {d : Nat} {b : Nat × Nat} {bo : Bool} {im : XI} {Q : Option Value → XS → XI → Prop} {l1 : Int32} {l2 : Int32} {s0 : Int32} {P : Int32 → XI → Prop}  (hs : SpI mX8_moves d [.ref 33, .int (0 : Int32), .int l2] (SC bo) im P) (k : ∀ x2 im2, P x2 im2 → V mX8_moves (d + 1) b 94 [some (.ref 33), some (.int l1), some (.int l2)] [.int x2, .int (0 : Int32)] (SC bo) im2 Q) : V mX8_moves (d + 1) b 86 [some (.ref 33), some (.int l1), some (.int l2)] [.int s0] (SC bo) im Q := by
  refine V.pop dX8_moves_86 rfl ?_
  refine V.iconst (v := 0) dX8_moves_87 (by decide) ?_
  refine V.aload_n dX8_moves_88 rfl rfl ?_
  refine V.iconst (v := 0) dX8_moves_89 (by decide) ?_
  refine V.iload_n dX8_moves_90 rfl rfl ?_
  refine V.cVI rfl vX8_moves lkX8_47 wX8_moves (ci := 8) rfl (by rfl) (As := [.int (0 : Int32), .int l2]) rfl rfl rfl dX8_moves_91 hs (fun x2 im2 h2 => ?_)
  exact k x2 im2 h2
theorem bX8_moves_94 {d : Nat} {b : Nat × Nat} {bo : Bool} {im : XI} {Q : Option Value → XS → XI → Prop} {l1 : Int32} {l2 : Int32} {s0 : Int32} {s1 : Int32}  (hq : Q (some (.int (s0 - s1))) (SC bo) im) : V mX8_moves d b 94 [some (.ref 33), some (.int l1), some (.int l2)] [.int s1, .int s0] (SC bo) im Q := by
  refine V.isub dX8_moves_94 ?_
  exact V.iret rfl dX8_moves_95 hq
theorem bX8_moves_96 {d : Nat} {b : Nat × Nat} {bo : Bool} {im : XI} {Q : Option Value → XS → XI → Prop} {l1 : Int32} {l2 : Int32} {P : Int32 → XI → Prop}  (hs : SpI mX6_add d [.ref 34, .int (11 : Int32)] (SC bo) im P) (k : ∀ x2 im2, P x2 im2 → V mX8_moves (d + 1) b 105 [some (.ref 33), some (.int l1), some (.int l2)] [.int x2] (SC bo) im2 Q) : V mX8_moves (d + 1) b 96 [some (.ref 33), some (.int l1), some (.int l2)] [] (SC bo) im Q := by
  refine V.aload_n dX8_moves_96 rfl rfl ?_
  refine V.getR fX8_14 rfl (by rfl) (by rfl) dX8_moves_97 ?_
  refine V.bipush (v := 11) dX8_moves_100 (by decide) ?_
  refine V.cVI rfl vX6_add lkX8_56 wX6_add (ci := 6) rfl (by rfl) (As := [.int (11 : Int32)]) rfl rfl rfl dX8_moves_102 hs (fun x2 im2 h2 => ?_)
  exact k x2 im2 h2
theorem bX8_moves_105 {d : Nat} {b : Nat × Nat} {bo : Bool} {im : XI} {Q : Option Value → XS → XI → Prop} {l1 : Int32} {l2 : Int32} {s0 : Int32} {P : Int32 → XI → Prop}  (hs : SpI mX8_blinks d [.ref 33, .int (im 33 2), .int l2] (SC bo) im P) (k : ∀ x2 im2, P x2 im2 → V mX8_moves (d + 1) b 115 [some (.ref 33), some (.int l1), some (.int l2)] [.int x2] (SC bo) im2 Q) : V mX8_moves (d + 1) b 105 [some (.ref 33), some (.int l1), some (.int l2)] [.int s0] (SC bo) im Q := by
  refine V.pop dX8_moves_105 rfl ?_
  refine V.aload_n dX8_moves_106 rfl rfl ?_
  refine V.aload_n dX8_moves_107 rfl rfl ?_
  refine V.getI fX8_33 rfl (by rfl) dX8_moves_108 ?_
  refine V.iload_n dX8_moves_111 rfl rfl ?_
  refine V.cVI rfl vX8_blinks lkX8_43 wX8_blinks (ci := 8) rfl (by rfl) (As := [.int (im 33 2), .int l2]) rfl rfl rfl dX8_moves_112 hs (fun x2 im2 h2 => ?_)
  exact k x2 im2 h2
theorem bX8_moves_115 {d : Nat} {b : Nat × Nat} {bo : Bool} {im : XI} {Q : Option Value → XS → XI → Prop} {l1 : Int32} {l2 : Int32} {s0 : Int32}  (hq : Q (some (.int (s0 * (2 : Int32)))) (SC bo) im) : V mX8_moves d b 115 [some (.ref 33), some (.int l1), some (.int l2)] [.int s0] (SC bo) im Q := by
  refine V.iconst (v := 2) dX8_moves_115 (by decide) ?_
  refine V.imul dX8_moves_116 ?_
  exact V.iret rfl dX8_moves_117 hq
theorem bX8_looks_0 {d : Nat} {b : Nat × Nat} {bo : Bool} {im : XI} {Q : Option Value → XS → XI → Prop} {l1 : Int32} {l2 : Int32}  (k0 : l1 = 3 → V mX8_looks d b 50 [some (.ref 33), some (.int l1), some (.int l2)] [] (SC bo) im Q) (k1 : l1 = 4 → V mX8_looks d b 28 [some (.ref 33), some (.int l1), some (.int l2)] [] (SC bo) im Q) (kd : ¬ l1 = 3 → ¬ l1 = 4 → V mX8_looks d b 69 [some (.ref 33), some (.int l1), some (.int l2)] [] (SC bo) im Q) : V mX8_looks d b 0 [some (.ref 33), some (.int l1), some (.int l2)] [] (SC bo) im Q := by
  refine V.iload_n dX8_looks_0 rfl rfl ?_
  by_cases c0 : l1 = 3
  · exact V.lookup (tgt := 50) (off := 49) dX8_looks_1 rfl (by rw [c0] <;> rfl) (by decide) (k0 c0)
  · skip
    by_cases c1 : l1 = 4
    · exact V.lookup (tgt := 28) (off := 27) dX8_looks_1 rfl (by rw [c1] <;> rfl) (by decide) (k1 c1)
    · skip
      exact V.lookup (tgt := 69) (off := 68) dX8_looks_1 rfl ((lv_osw c0 rfl).trans ((lv_osw c1 rfl).trans rfl)) (by decide) (kd c0 c1)
theorem bX8_looks_28 {d : Nat} {b : Nat × Nat} {bo : Bool} {im : XI} {Q : Option Value → XS → XI → Prop} {l1 : Int32} {l2 : Int32} {P : Int32 → XI → Prop}  (hs : SpI mX6_add d [.ref 34, .int (51 : Int32)] (SC bo) im P) (k : ∀ x2 im2, P x2 im2 → V mX8_looks (d + 1) b 37 [some (.ref 33), some (.int l1), some (.int l2)] [.int x2] (SC bo) im2 Q) : V mX8_looks (d + 1) b 28 [some (.ref 33), some (.int l1), some (.int l2)] [] (SC bo) im Q := by
  refine V.aload_n dX8_looks_28 rfl rfl ?_
  refine V.getR fX8_14 rfl (by rfl) (by rfl) dX8_looks_29 ?_
  refine V.bipush (v := 51) dX8_looks_32 (by decide) ?_
  refine V.cVI rfl vX6_add lkX8_56 wX6_add (ci := 6) rfl (by rfl) (As := [.int (51 : Int32)]) rfl rfl rfl dX8_looks_34 hs (fun x2 im2 h2 => ?_)
  exact k x2 im2 h2
theorem bX8_looks_37 {d : Nat} {b : Nat × Nat} {bo : Bool} {im : XI} {Q : Option Value → XS → XI → Prop} {l1 : Int32} {l2 : Int32} {s0 : Int32} {P : Int32 → XI → Prop}  (hs : SpI mX8_looks d [.ref 33, .int (1 : Int32), .int l2] (SC bo) im P) (k : ∀ x2 im2, P x2 im2 → V mX8_looks (d + 1) b 44 [some (.ref 33), some (.int l1), some (.int l2)] [.int x2] (SC bo) im2 Q) : V mX8_looks (d + 1) b 37 [some (.ref 33), some (.int l1), some (.int l2)] [.int s0] (SC bo) im Q := by
  refine V.pop dX8_looks_37 rfl ?_
  refine V.aload_n dX8_looks_38 rfl rfl ?_
  refine V.iconst (v := 1) dX8_looks_39 (by decide) ?_
  refine V.iload_n dX8_looks_40 rfl rfl ?_
  refine V.cVI rfl vX8_looks lkX8_50 wX8_looks (ci := 8) rfl (by rfl) (As := [.int (1 : Int32), .int l2]) rfl rfl rfl dX8_looks_41 hs (fun x2 im2 h2 => ?_)
  exact k x2 im2 h2
theorem bX8_looks_44 {d : Nat} {b : Nat × Nat} {bo : Bool} {im : XI} {Q : Option Value → XS → XI → Prop} {l1 : Int32} {l2 : Int32} {s0 : Int32}  (hq : Q (some (.int (s0 ^^^ (im 33 3)))) (SC bo) im) : V mX8_looks d b 44 [some (.ref 33), some (.int l1), some (.int l2)] [.int s0] (SC bo) im Q := by
  refine V.aload_n dX8_looks_44 rfl rfl ?_
  refine V.getI fX8_36 rfl (by rfl) dX8_looks_45 ?_
  refine V.ixor dX8_looks_48 ?_
  exact V.iret rfl dX8_looks_49 hq
theorem bX8_looks_50 {d : Nat} {b : Nat × Nat} {bo : Bool} {im : XI} {Q : Option Value → XS → XI → Prop} {l1 : Int32} {l2 : Int32} {P : Int32 → XI → Prop}  (hs : SpI mX6_add d [.ref 34, .int (40 : Int32)] (SC bo) im P) (k : ∀ x2 im2, P x2 im2 → V mX8_looks (d + 1) b 59 [some (.ref 33), some (.int l1), some (.int l2)] [.int x2] (SC bo) im2 Q) : V mX8_looks (d + 1) b 50 [some (.ref 33), some (.int l1), some (.int l2)] [] (SC bo) im Q := by
  refine V.aload_n dX8_looks_50 rfl rfl ?_
  refine V.getR fX8_14 rfl (by rfl) (by rfl) dX8_looks_51 ?_
  refine V.bipush (v := 40) dX8_looks_54 (by decide) ?_
  refine V.cVI rfl vX6_add lkX8_56 wX6_add (ci := 6) rfl (by rfl) (As := [.int (40 : Int32)]) rfl rfl rfl dX8_looks_56 hs (fun x2 im2 h2 => ?_)
  exact k x2 im2 h2
theorem bX8_looks_59 {d : Nat} {b : Nat × Nat} {bo : Bool} {im : XI} {Q : Option Value → XS → XI → Prop} {l1 : Int32} {l2 : Int32} {s0 : Int32} {P : Int32 → XI → Prop}  (hs : SpI mX8_looks d [.ref 33, .int (0 : Int32), .int (l2 / (2 : Int32))] (SC bo) im P) (k : ∀ x2 im2, P x2 im2 → V mX8_looks (d + 1) b 68 [some (.ref 33), some (.int l1), some (.int l2)] [.int x2] (SC bo) im2 Q) : V mX8_looks (d + 1) b 59 [some (.ref 33), some (.int l1), some (.int l2)] [.int s0] (SC bo) im Q := by
  refine V.pop dX8_looks_59 rfl ?_
  refine V.aload_n dX8_looks_60 rfl rfl ?_
  refine V.iconst (v := 0) dX8_looks_61 (by decide) ?_
  refine V.iload_n dX8_looks_62 rfl rfl ?_
  refine V.iconst (v := 2) dX8_looks_63 (by decide) ?_
  refine V.idiv dX8_looks_64 (by decide) ?_
  refine V.cVI rfl vX8_looks lkX8_50 wX8_looks (ci := 8) rfl (by rfl) (As := [.int (0 : Int32), .int (l2 / (2 : Int32))]) rfl rfl rfl dX8_looks_65 hs (fun x2 im2 h2 => ?_)
  exact k x2 im2 h2
theorem bX8_looks_68 {d : Nat} {b : Nat × Nat} {bo : Bool} {im : XI} {Q : Option Value → XS → XI → Prop} {l1 : Int32} {l2 : Int32} {s0 : Int32}  (hq : Q (some (.int s0)) (SC bo) im) : V mX8_looks d b 68 [some (.ref 33), some (.int l1), some (.int l2)] [.int s0] (SC bo) im Q := by
  exact V.iret rfl dX8_looks_68 hq
theorem bX8_looks_69 {d : Nat} {b : Nat × Nat} {bo : Bool} {im : XI} {Q : Option Value → XS → XI → Prop} {l1 : Int32} {l2 : Int32} {P : Int32 → XI → Prop}  (hs : SpI mX6_add d [.ref 34, .int (12 : Int32)] (SC bo) im P) (k : ∀ x2 im2, P x2 im2 → V mX8_looks (d + 1) b 78 [some (.ref 33), some (.int l1), some (.int l2)] [.int x2] (SC bo) im2 Q) : V mX8_looks (d + 1) b 69 [some (.ref 33), some (.int l1), some (.int l2)] [] (SC bo) im Q := by
  refine V.aload_n dX8_looks_69 rfl rfl ?_
  refine V.getR fX8_14 rfl (by rfl) (by rfl) dX8_looks_70 ?_
  refine V.bipush (v := 12) dX8_looks_73 (by decide) ?_
  refine V.cVI rfl vX6_add lkX8_56 wX6_add (ci := 6) rfl (by rfl) (As := [.int (12 : Int32)]) rfl rfl rfl dX8_looks_75 hs (fun x2 im2 h2 => ?_)
  exact k x2 im2 h2
theorem bX8_looks_78 {d : Nat} {b : Nat × Nat} {bo : Bool} {im : XI} {Q : Option Value → XS → XI → Prop} {l1 : Int32} {l2 : Int32} {s0 : Int32} {P : Int32 → XI → Prop}  (hs : SpI mX8_moves d [.ref 33, .int (im 33 2), .int l2] (SC bo) im P) (k : ∀ x2 im2, P x2 im2 → V mX8_looks (d + 1) b 88 [some (.ref 33), some (.int l1), some (.int l2)] [.int x2] (SC bo) im2 Q) : V mX8_looks (d + 1) b 78 [some (.ref 33), some (.int l1), some (.int l2)] [.int s0] (SC bo) im Q := by
  refine V.pop dX8_looks_78 rfl ?_
  refine V.aload_n dX8_looks_79 rfl rfl ?_
  refine V.aload_n dX8_looks_80 rfl rfl ?_
  refine V.getI fX8_33 rfl (by rfl) dX8_looks_81 ?_
  refine V.iload_n dX8_looks_84 rfl rfl ?_
  refine V.cVI rfl vX8_moves lkX8_47 wX8_moves (ci := 8) rfl (by rfl) (As := [.int (im 33 2), .int l2]) rfl rfl rfl dX8_looks_85 hs (fun x2 im2 h2 => ?_)
  exact k x2 im2 h2
theorem bX8_looks_88 {d : Nat} {b : Nat × Nat} {bo : Bool} {im : XI} {Q : Option Value → XS → XI → Prop} {l1 : Int32} {l2 : Int32} {s0 : Int32}  (hq : Q (some (.int (s0 - (im 33 4)))) (SC bo) im) : V mX8_looks d b 88 [some (.ref 33), some (.int l1), some (.int l2)] [.int s0] (SC bo) im Q := by
  refine V.aload_n dX8_looks_88 rfl rfl ?_
  refine V.getI fX8_42 rfl (by rfl) dX8_looks_89 ?_
  refine V.isub dX8_looks_92 ?_
  exact V.iret rfl dX8_looks_93 hq
theorem bX8_parts_0 {d : Nat} {b : Nat × Nat} {bo : Bool} {im : XI} {Q : Option Value → XS → XI → Prop} {l1 : Int32} {l2 : Int32}  (kt : l1 = (1 : Int32) → V mX8_parts d b 10 [some (.ref 33), some (.int l1), some (.int l2), none] [] (SC bo) im Q) (kf : ¬ l1 = (1 : Int32) → V mX8_parts d b 5 [some (.ref 33), some (.int l1), some (.int l2), none] [] (SC bo) im Q) : V mX8_parts d b 0 [some (.ref 33), some (.int l1), some (.int l2), none] [] (SC bo) im Q := by
  refine V.iload_n dX8_parts_0 rfl rfl ?_
  refine V.iconst (v := 1) dX8_parts_1 (by decide) ?_
  refine V.icmp_eq (tgt := 10) dX8_parts_2 (by decide) (fun h => ?_) (fun h => ?_)
  · exact kt h
  · exact kf h
theorem bX8_parts_5 {d : Nat} {b : Nat × Nat} {bo : Bool} {im : XI} {Q : Option Value → XS → XI → Prop} {l1 : Int32} {l2 : Int32}  (kt : ¬ l1 = (4 : Int32) → V mX8_parts d b 50 [some (.ref 33), some (.int l1), some (.int l2), none] [] (SC bo) im Q) (kf : l1 = (4 : Int32) → V mX8_parts d b 10 [some (.ref 33), some (.int l1), some (.int l2), none] [] (SC bo) im Q) : V mX8_parts d b 5 [some (.ref 33), some (.int l1), some (.int l2), none] [] (SC bo) im Q := by
  refine V.iload_n dX8_parts_5 rfl rfl ?_
  refine V.iconst (v := 4) dX8_parts_6 (by decide) ?_
  refine V.icmp_ne (tgt := 50) dX8_parts_7 (by decide) (fun h => ?_) (fun h => ?_)
  · exact kt h
  · exact kf h
theorem bX8_parts_10 {d : Nat} {b : Nat × Nat} {bo : Bool} {im : XI} {Q : Option Value → XS → XI → Prop} {l1 : Int32} {l2 : Int32} {P : Int32 → XI → Prop}  (hs : SpI mX6_add d [.ref 34, .int (21 : Int32)] (SC bo) im P) (k : ∀ x2 im2, P x2 im2 → V mX8_parts (d + 1) b 19 [some (.ref 33), some (.int l1), some (.int l2), none] [.int x2] (SC bo) im2 Q) : V mX8_parts (d + 1) b 10 [some (.ref 33), some (.int l1), some (.int l2), none] [] (SC bo) im Q := by
  refine V.aload_n dX8_parts_10 rfl rfl ?_
  refine V.getR fX8_14 rfl (by rfl) (by rfl) dX8_parts_11 ?_
  refine V.bipush (v := 21) dX8_parts_14 (by decide) ?_
  refine V.cVI rfl vX6_add lkX8_56 wX6_add (ci := 6) rfl (by rfl) (As := [.int (21 : Int32)]) rfl rfl rfl dX8_parts_16 hs (fun x2 im2 h2 => ?_)
  exact k x2 im2 h2
theorem bX8_parts_19 {d : Nat} {b : Nat × Nat} {bo : Bool} {im : XI} {Q : Option Value → XS → XI → Prop} {l1 : Int32} {l2 : Int32} {s0 : Int32} {P : Int32 → XI → Prop}  (hs : SpI mX8_parts d [.ref 33, .int (0 : Int32), .int l2] (SC bo) im P) (k : ∀ x2 im2, P x2 im2 → V mX8_parts (d + 1) b 26 [some (.ref 33), some (.int l1), some (.int l2), none] [.int x2] (SC bo) im2 Q) : V mX8_parts (d + 1) b 19 [some (.ref 33), some (.int l1), some (.int l2), none] [.int s0] (SC bo) im Q := by
  refine V.pop dX8_parts_19 rfl ?_
  refine V.aload_n dX8_parts_20 rfl rfl ?_
  refine V.iconst (v := 0) dX8_parts_21 (by decide) ?_
  refine V.iload_n dX8_parts_22 rfl rfl ?_
  refine V.cVI rfl vX8_parts lkX8_53 wX8_parts (ci := 8) rfl (by rfl) (As := [.int (0 : Int32), .int l2]) rfl rfl rfl dX8_parts_23 hs (fun x2 im2 h2 => ?_)
  exact k x2 im2 h2
theorem bX8_parts_26 {d : Nat} {b : Nat × Nat} {bo : Bool} {im : XI} {Q : Option Value → XS → XI → Prop} {l1 : Int32} {l2 : Int32} {s0 : Int32}  (kt : (im 33 1) = 0 → V mX8_parts d b 38 [some (.ref 33), some (.int l1), some (.int l2), some (.int s0)] [] (SC bo) im Q) (kf : ¬ (im 33 1) = 0 → V mX8_parts d b 34 [some (.ref 33), some (.int l1), some (.int l2), some (.int s0)] [] (SC bo) im Q) : V mX8_parts d b 26 [some (.ref 33), some (.int l1), some (.int l2), none] [.int s0] (SC bo) im Q := by
  refine V.istore_n dX8_parts_26 rfl rfl rfl ?_
  refine V.aload_n dX8_parts_27 rfl rfl ?_
  refine V.getI fX8_23 rfl (by rfl) dX8_parts_28 ?_
  refine V.if_eq (tgt := 38) dX8_parts_31 (by decide) (fun h => ?_) (fun h => ?_)
  · exact kt h
  · exact kf h
theorem bX8_parts_34 {d : Nat} {b : Nat × Nat} {bo : Bool} {im : XI} {Q : Option Value → XS → XI → Prop} {l1 : Int32} {l2 : Int32} {l3 : Int32}  (k : V mX8_parts d b 49 [some (.ref 33), some (.int l1), some (.int l2), some (.int l3)] [.int (0 : Int32)] (SC bo) im Q) : V mX8_parts d b 34 [some (.ref 33), some (.int l1), some (.int l2), some (.int l3)] [] (SC bo) im Q := by
  refine V.iconst (v := 0) dX8_parts_34 (by decide) ?_
  refine V.goto (tgt := 49) dX8_parts_35 (by decide) ?_
  exact k
theorem bX8_parts_38 {d : Nat} {b : Nat × Nat} {bo : Bool} {im : XI} {Q : Option Value → XS → XI → Prop} {l1 : Int32} {l2 : Int32} {l3 : Int32} {P : Int32 → XI → Prop}  (hs : SpI mX8_moves d [.ref 33, .int (im 33 2), .int (1 : Int32)] (SC bo) im P) (k : ∀ x2 im2, P x2 im2 → V mX8_parts (d + 1) b 48 [some (.ref 33), some (.int l1), some (.int l2), some (.int l3)] [.int x2, .int l3] (SC bo) im2 Q) : V mX8_parts (d + 1) b 38 [some (.ref 33), some (.int l1), some (.int l2), some (.int l3)] [] (SC bo) im Q := by
  refine V.iload_n dX8_parts_38 rfl rfl ?_
  refine V.aload_n dX8_parts_39 rfl rfl ?_
  refine V.aload_n dX8_parts_40 rfl rfl ?_
  refine V.getI fX8_33 rfl (by rfl) dX8_parts_41 ?_
  refine V.iconst (v := 1) dX8_parts_44 (by decide) ?_
  refine V.cVI rfl vX8_moves lkX8_47 wX8_moves (ci := 8) rfl (by rfl) (As := [.int (im 33 2), .int (1 : Int32)]) rfl rfl rfl dX8_parts_45 hs (fun x2 im2 h2 => ?_)
  exact k x2 im2 h2
theorem bX8_parts_48 {d : Nat} {b : Nat × Nat} {bo : Bool} {im : XI} {Q : Option Value → XS → XI → Prop} {l1 : Int32} {l2 : Int32} {l3 : Int32} {s0 : Int32} {s1 : Int32}  (k : V mX8_parts d b 49 [some (.ref 33), some (.int l1), some (.int l2), some (.int l3)] [.int (s0 + s1)] (SC bo) im Q) : V mX8_parts d b 48 [some (.ref 33), some (.int l1), some (.int l2), some (.int l3)] [.int s1, .int s0] (SC bo) im Q := by
  refine V.iadd dX8_parts_48 ?_
  exact k
theorem bX8_parts_49 {d : Nat} {b : Nat × Nat} {bo : Bool} {im : XI} {Q : Option Value → XS → XI → Prop} {l1 : Int32} {l2 : Int32} {l3 : Int32} {s0 : Int32}  (hq : Q (some (.int s0)) (SC bo) im) : V mX8_parts d b 49 [some (.ref 33), some (.int l1), some (.int l2), some (.int l3)] [.int s0] (SC bo) im Q := by
  exact V.iret rfl dX8_parts_49 hq
theorem bX8_parts_50 {d : Nat} {b : Nat × Nat} {bo : Bool} {im : XI} {Q : Option Value → XS → XI → Prop} {l1 : Int32} {l2 : Int32} {P : Int32 → XI → Prop}  (hs : SpI mX6_add d [.ref 34, .int (13 : Int32)] (SC bo) im P) (k : ∀ x2 im2, P x2 im2 → V mX8_parts (d + 1) b 59 [some (.ref 33), some (.int l1), some (.int l2), none] [.int x2] (SC bo) im2 Q) : V mX8_parts (d + 1) b 50 [some (.ref 33), some (.int l1), some (.int l2), none] [] (SC bo) im Q := by
  refine V.aload_n dX8_parts_50 rfl rfl ?_
  refine V.getR fX8_14 rfl (by rfl) (by rfl) dX8_parts_51 ?_
  refine V.bipush (v := 13) dX8_parts_54 (by decide) ?_
  refine V.cVI rfl vX6_add lkX8_56 wX6_add (ci := 6) rfl (by rfl) (As := [.int (13 : Int32)]) rfl rfl rfl dX8_parts_56 hs (fun x2 im2 h2 => ?_)
  exact k x2 im2 h2
theorem bX8_parts_59 {d : Nat} {b : Nat × Nat} {bo : Bool} {im : XI} {Q : Option Value → XS → XI → Prop} {l1 : Int32} {l2 : Int32} {s0 : Int32}  (kt : ¬ ((im 33 4) - (im 33 3)) = 0 → V mX8_parts d b 79 [some (.ref 33), some (.int l1), some (.int l2), some (.int ((im 33 4) - (im 33 3)))] [.ref 33] (SC bo) im Q) (kf : ((im 33 4) - (im 33 3)) = 0 → V mX8_parts d b 75 [some (.ref 33), some (.int l1), some (.int l2), some (.int ((im 33 4) - (im 33 3)))] [.ref 33] (SC bo) im Q) : V mX8_parts d b 59 [some (.ref 33), some (.int l1), some (.int l2), none] [.int s0] (SC bo) im Q := by
  refine V.pop dX8_parts_59 rfl ?_
  refine V.aload_n dX8_parts_60 rfl rfl ?_
  refine V.getI fX8_42 rfl (by rfl) dX8_parts_61 ?_
  refine V.aload_n dX8_parts_64 rfl rfl ?_
  refine V.getI fX8_36 rfl (by rfl) dX8_parts_65 ?_
  refine V.isub dX8_parts_68 ?_
  refine V.istore_n dX8_parts_69 rfl rfl rfl ?_
  refine V.aload_n dX8_parts_70 rfl rfl ?_
  refine V.iload_n dX8_parts_71 rfl rfl ?_
  refine V.if_ne (tgt := 79) dX8_parts_72 (by decide) (fun h => ?_) (fun h => ?_)
  · exact kt h
  · exact kf h
theorem bX8_parts_75 {d : Nat} {b : Nat × Nat} {bo : Bool} {im : XI} {Q : Option Value → XS → XI → Prop} {l1 : Int32} {l2 : Int32} {l3 : Int32} {s0 : Nat}  (k : V mX8_parts d b 80 [some (.ref 33), some (.int l1), some (.int l2), some (.int l3)] [.int (1 : Int32), .ref s0] (SC bo) im Q) : V mX8_parts d b 75 [some (.ref 33), some (.int l1), some (.int l2), some (.int l3)] [.ref s0] (SC bo) im Q := by
  refine V.iconst (v := 1) dX8_parts_75 (by decide) ?_
  refine V.goto (tgt := 80) dX8_parts_76 (by decide) ?_
  exact k
theorem bX8_parts_79 {d : Nat} {b : Nat × Nat} {bo : Bool} {im : XI} {Q : Option Value → XS → XI → Prop} {l1 : Int32} {l2 : Int32} {l3 : Int32} {s0 : Nat}  (k : V mX8_parts d b 80 [some (.ref 33), some (.int l1), some (.int l2), some (.int l3)] [.int (0 : Int32), .ref s0] (SC bo) im Q) : V mX8_parts d b 79 [some (.ref 33), some (.int l1), some (.int l2), some (.int l3)] [.ref s0] (SC bo) im Q := by
  refine V.iconst (v := 0) dX8_parts_79 (by decide) ?_
  exact k
theorem bX8_parts_80 {d : Nat} {b : Nat × Nat} {bo : Bool} {im : XI} {Q : Option Value → XS → XI → Prop} {l1 : Int32} {l2 : Int32} {l3 : Int32} {s0 : Nat} {s1 : Int32} (g0 : (SC bo).1[s0]? = some (.inl 8)) (g1 : s1 = 0 ∨ s1 = 1) (kt : ¬ l3 = 0 → V mX8_parts d b 91 [some (.ref 33), some (.int l1), some (.int l2), some (.int l3)] [] (SC bo) (xup im s0 1 s1) Q) (kf : l3 = 0 → V mX8_parts d b 87 [some (.ref 33), some (.int l1), some (.int l2), some (.int l3)] [] (SC bo) (xup im s0 1 s1) Q) : V mX8_parts d b 80 [some (.ref 33), some (.int l1), some (.int l2), some (.int l3)] [.int s1, .ref s0] (SC bo) im Q := by
  refine V.putZ fX8_23 (fun h => by cases h) rfl g1 g0 dX8_parts_80 ?_
  refine V.iload_n dX8_parts_83 rfl rfl ?_
  refine V.if_ne (tgt := 91) dX8_parts_84 (by decide) (fun h => ?_) (fun h => ?_)
  · exact kt h
  · exact kf h
theorem bX8_parts_87 {d : Nat} {b : Nat × Nat} {bo : Bool} {im : XI} {Q : Option Value → XS → XI → Prop} {l1 : Int32} {l2 : Int32} {l3 : Int32}  (k : V mX8_parts d b 94 [some (.ref 33), some (.int l1), some (.int l2), some (.int l3)] [.int (0 : Int32)] (SC bo) im Q) : V mX8_parts d b 87 [some (.ref 33), some (.int l1), some (.int l2), some (.int l3)] [] (SC bo) im Q := by
  refine V.iconst (v := 0) dX8_parts_87 (by decide) ?_
  refine V.goto (tgt := 94) dX8_parts_88 (by decide) ?_
  exact k
theorem bX8_parts_91 {d : Nat} {b : Nat × Nat} {bo : Bool} {im : XI} {Q : Option Value → XS → XI → Prop} {l1 : Int32} {l2 : Int32} {l3 : Int32} (g0 : ¬ l3 = 0) (k : V mX8_parts d b 94 [some (.ref 33), some (.int l1), some (.int l2), some (.int l3)] [.int (l2 / l3)] (SC bo) im Q) : V mX8_parts d b 91 [some (.ref 33), some (.int l1), some (.int l2), some (.int l3)] [] (SC bo) im Q := by
  refine V.iload_n dX8_parts_91 rfl rfl ?_
  refine V.iload_n dX8_parts_92 rfl rfl ?_
  refine V.idiv dX8_parts_93 g0 ?_
  exact k
theorem bX8_parts_94 {d : Nat} {b : Nat × Nat} {bo : Bool} {im : XI} {Q : Option Value → XS → XI → Prop} {l1 : Int32} {l2 : Int32} {l3 : Int32} {s0 : Int32}  (hq : Q (some (.int s0)) (SC bo) im) : V mX8_parts d b 94 [some (.ref 33), some (.int l1), some (.int l2), some (.int l3)] [.int s0] (SC bo) im Q := by
  exact V.iret rfl dX8_parts_94 hq

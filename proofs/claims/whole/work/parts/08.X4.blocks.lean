theorem bX4_init_0 {d : Nat} {b : Nat × Nat} {S : XS} {im : XI} {Q : Option Value → XS → XI → Prop} {l0 : Nat}  (k : V mX4_init (d + 1) b 4 [some (.ref l0)] [] S im Q) : V mX4_init (d + 1) b 0 [some (.ref l0)] [] S im Q := by
  refine V.aload_n dX4_init_0 rfl rfl ?_
  refine V.objInit rfl lkX4_3 xoi_in xoi_code rfl dX4_init_1 ?_
  exact k
theorem bX4_init_4 {d : Nat} {b : Nat × Nat} {S : XS} {im : XI} {Q : Option Value → XS → XI → Prop} {l0 : Nat} (g0 : S.1[l0]? = some (.inl 4)) (k : V mX4_init d b 9 [some (.ref l0)] [] S (xup im l0 2 (1 : Int32)) Q) : V mX4_init d b 4 [some (.ref l0)] [] S im Q := by
  refine V.aload_n dX4_init_4 rfl rfl ?_
  refine V.iconst (v := 1) dX4_init_5 (by decide) ?_
  refine V.putI fX4_9 (fun h => by cases h) rfl g0 dX4_init_6 ?_
  exact k
theorem bX4_init_9 {d : Nat} {b : Nat × Nat} {S : XS} {im : XI} {Q : Option Value → XS → XI → Prop} {l0 : Nat}  (hq : Q none S im) : V mX4_init d b 9 [some (.ref l0)] [] S im Q := by
  exact V.vret rfl dX4_init_9 hq
theorem bX4_turnInto_0 {d : Nat} {b : Nat × Nat} {S : XS} {im : XI} {Q : Option Value → XS → XI → Prop} {l0 : Nat} {l1 : Int32} (g0 : S.1[l0]? = some (.inl 4)) (hq : Q none S (xup (xup im l0 0 (l1 / (10 : Int32))) l0 1 (l1 - l1 / (10 : Int32) * (10 : Int32)))) : V mX4_turnInto d b 0 [some (.ref l0), some (.int l1)] [] S im Q := by
  refine V.aload_n dX4_turnInto_0 rfl rfl ?_
  refine V.iload_n dX4_turnInto_1 rfl rfl ?_
  refine V.bipush (v := 10) dX4_turnInto_2 (by decide) ?_
  refine V.idiv dX4_turnInto_4 (by decide) ?_
  refine V.putI fX4_15 (fun h => by cases h) rfl g0 dX4_turnInto_5 ?_
  refine V.aload_n dX4_turnInto_8 rfl rfl ?_
  refine V.iload_n dX4_turnInto_9 rfl rfl ?_
  refine V.bipush (v := 10) dX4_turnInto_10 (by decide) ?_
  refine V.irem dX4_turnInto_12 (by decide) ?_
  refine V.putI fX4_18 (fun h => by cases h) rfl g0 dX4_turnInto_13 ?_
  exact V.vret rfl dX4_turnInto_16 hq
theorem bX4_beLike_0 {d : Nat} {b : Nat × Nat} {S : XS} {im : XI} {Q : Option Value → XS → XI → Prop} {l0 : Nat} {l1 : Nat} (g0 : S.1[l1]? = some (.inl 4)) (g1 : S.1[l0]? = some (.inl 4)) (hq : Q none S (xup (xup (xup (xup im l0 0 (im l1 0)) l0 1 ((xup im l0 0 (im l1 0)) l1 1)) l0 2 ((xup (xup im l0 0 (im l1 0)) l0 1 ((xup im l0 0 (im l1 0)) l1 1)) l1 2)) l0 3 ((xup (xup (xup im l0 0 (im l1 0)) l0 1 ((xup im l0 0 (im l1 0)) l1 1)) l0 2 ((xup (xup im l0 0 (im l1 0)) l0 1 ((xup im l0 0 (im l1 0)) l1 1)) l1 2)) l1 3))) : V mX4_beLike d b 0 [some (.ref l0), some (.ref l1)] [] S im Q := by
  refine V.aload_n dX4_beLike_0 rfl rfl ?_
  refine V.aload_n dX4_beLike_1 rfl rfl ?_
  refine V.getI fX4_15 rfl g0 dX4_beLike_2 ?_
  refine V.putI fX4_15 (fun h => by cases h) rfl g1 dX4_beLike_5 ?_
  refine V.aload_n dX4_beLike_8 rfl rfl ?_
  refine V.aload_n dX4_beLike_9 rfl rfl ?_
  refine V.getI fX4_18 rfl g0 dX4_beLike_10 ?_
  refine V.putI fX4_18 (fun h => by cases h) rfl g1 dX4_beLike_13 ?_
  refine V.aload_n dX4_beLike_16 rfl rfl ?_
  refine V.aload_n dX4_beLike_17 rfl rfl ?_
  refine V.getI fX4_9 rfl g0 dX4_beLike_18 ?_
  refine V.putI fX4_9 (fun h => by cases h) rfl g1 dX4_beLike_21 ?_
  refine V.aload_n dX4_beLike_24 rfl rfl ?_
  refine V.aload_n dX4_beLike_25 rfl rfl ?_
  refine V.getI fX4_21 rfl g0 dX4_beLike_26 ?_
  refine V.putI fX4_21 (fun h => by cases h) rfl g1 dX4_beLike_29 ?_
  exact V.vret rfl dX4_beLike_32 hq
theorem bX4_blinks_0 {d : Nat} {b : Nat × Nat} {S : XS} {im : XI} {Q : Option Value → XS → XI → Prop} {l0 : Nat} {l1 : Int32} {l2 : Int32} (g0 : S.1[l0]? = some (.inl 4)) (k0 : (im l0 0) = 2 → V mX4_blinks d b 40 [some (.ref l0), some (.int l1), some (.int l2)] [] S im Q) (k1 : (im l0 0) = 3 → V mX4_blinks d b 47 [some (.ref l0), some (.int l1), some (.int l2)] [] S im Q) (k2 : (im l0 0) = 4 → V mX4_blinks d b 58 [some (.ref l0), some (.int l1), some (.int l2)] [] S im Q) (k3 : (im l0 0) = 5 → V mX4_blinks d b 79 [some (.ref l0), some (.int l1), some (.int l2)] [] S im Q) (k4 : (im l0 0) = 6 → V mX4_blinks d b 103 [some (.ref l0), some (.int l1), some (.int l2)] [] S im Q) (kd : ¬ (im l0 0) = 2 → ¬ (im l0 0) = 3 → ¬ (im l0 0) = 4 → ¬ (im l0 0) = 5 → ¬ (im l0 0) = 6 → V mX4_blinks d b 127 [some (.ref l0), some (.int l1), some (.int l2)] [] S im Q) : V mX4_blinks d b 0 [some (.ref l0), some (.int l1), some (.int l2)] [] S im Q := by
  refine V.aload_n dX4_blinks_0 rfl rfl ?_
  refine V.getI fX4_15 rfl g0 dX4_blinks_1 ?_
  by_cases c0 : (im l0 0) = 2
  · exact V.tableIn (tgt := 40) (off := 36) dX4_blinks_4 (by rw [c0]; decide) (by rw [c0]; decide) (by rw [c0] <;> rfl) (by decide) (k0 c0)
  · skip
    by_cases c1 : (im l0 0) = 3
    · exact V.tableIn (tgt := 47) (off := 43) dX4_blinks_4 (by rw [c1]; decide) (by rw [c1]; decide) (by rw [c1] <;> rfl) (by decide) (k1 c1)
    · skip
      by_cases c2 : (im l0 0) = 4
      · exact V.tableIn (tgt := 58) (off := 54) dX4_blinks_4 (by rw [c2]; decide) (by rw [c2]; decide) (by rw [c2] <;> rfl) (by decide) (k2 c2)
      · skip
        by_cases c3 : (im l0 0) = 5
        · exact V.tableIn (tgt := 79) (off := 75) dX4_blinks_4 (by rw [c3]; decide) (by rw [c3]; decide) (by rw [c3] <;> rfl) (by decide) (k3 c3)
        · skip
          by_cases c4 : (im l0 0) = 6
          · exact V.tableIn (tgt := 103) (off := 99) dX4_blinks_4 (by rw [c4]; decide) (by rw [c4]; decide) (by rw [c4] <;> rfl) (by decide) (k4 c4)
          · skip
            exact V.tableOut (tgt := 127) dX4_blinks_4 (by have qc0 := lv_neT c0 (a := 2) rfl; have qc1 := lv_neT c1 (a := 3) rfl; have qc2 := lv_neT c2 (a := 4) rfl; have qc3 := lv_neT c3 (a := 5) rfl; have qc4 := lv_neT c4 (a := 6) rfl; omega) (by decide) (kd c0 c1 c2 c3 c4)
theorem bX4_blinks_40 {d : Nat} {b : Nat × Nat} {S : XS} {im : XI} {Q : Option Value → XS → XI → Prop} {l0 : Nat} {l1 : Int32} {l2 : Int32} {P : Int32 → XI → Prop} (g0 : S.1[l0]? = some (.inl 4)) (hs : SpI mX4_deafBlinks d [.ref l0, .int l1, .int l2] S im P) (k : ∀ x2 im2, P x2 im2 → V mX4_blinks (d + 1) b 46 [some (.ref l0), some (.int l1), some (.int l2)] [.int x2] S im2 Q) : V mX4_blinks (d + 1) b 40 [some (.ref l0), some (.int l1), some (.int l2)] [] S im Q := by
  refine V.aload_n dX4_blinks_40 rfl rfl ?_
  refine V.iload_n dX4_blinks_41 rfl rfl ?_
  refine V.iload_n dX4_blinks_42 rfl rfl ?_
  refine V.cVI rfl vX4_deafBlinks lkX4_24 wX4_deafBlinks (ci := 4) rfl g0 (As := [.int l1, .int l2]) rfl rfl rfl dX4_blinks_43 hs (fun x2 im2 h2 => ?_)
  exact k x2 im2 h2
theorem bX4_blinks_46 {d : Nat} {b : Nat × Nat} {S : XS} {im : XI} {Q : Option Value → XS → XI → Prop} {l0 : Nat} {l1 : Int32} {l2 : Int32} {s0 : Int32} (g0 : s0 = 0 ∨ s0 = 1) (hq : Q (some (.int s0)) S im) : V mX4_blinks d b 46 [some (.ref l0), some (.int l1), some (.int l2)] [.int s0] S im Q := by
  exact V.zret rfl g0 dX4_blinks_46 hq
theorem bX4_blinks_47 {d : Nat} {b : Nat × Nat} {S : XS} {im : XI} {Q : Option Value → XS → XI → Prop} {l0 : Nat} {l1 : Int32} {l2 : Int32}  (kt : (2 : Int32) ≤ l2 → V mX4_blinks d b 56 [some (.ref l0), some (.int l1), some (.int l2)] [] S im Q) (kf : ¬ (2 : Int32) ≤ l2 → V mX4_blinks d b 52 [some (.ref l0), some (.int l1), some (.int l2)] [] S im Q) : V mX4_blinks d b 47 [some (.ref l0), some (.int l1), some (.int l2)] [] S im Q := by
  refine V.iload_n dX4_blinks_47 rfl rfl ?_
  refine V.iconst (v := 2) dX4_blinks_48 (by decide) ?_
  refine V.icmp_ge (tgt := 56) dX4_blinks_49 (by decide) (fun h => ?_) (fun h => ?_)
  · exact kt h
  · exact kf h
theorem bX4_blinks_52 {d : Nat} {b : Nat × Nat} {S : XS} {im : XI} {Q : Option Value → XS → XI → Prop} {l0 : Nat} {l1 : Int32} {l2 : Int32}  (k : V mX4_blinks d b 57 [some (.ref l0), some (.int l1), some (.int l2)] [.int (1 : Int32)] S im Q) : V mX4_blinks d b 52 [some (.ref l0), some (.int l1), some (.int l2)] [] S im Q := by
  refine V.iconst (v := 1) dX4_blinks_52 (by decide) ?_
  refine V.goto (tgt := 57) dX4_blinks_53 (by decide) ?_
  exact k
theorem bX4_blinks_56 {d : Nat} {b : Nat × Nat} {S : XS} {im : XI} {Q : Option Value → XS → XI → Prop} {l0 : Nat} {l1 : Int32} {l2 : Int32}  (k : V mX4_blinks d b 57 [some (.ref l0), some (.int l1), some (.int l2)] [.int (0 : Int32)] S im Q) : V mX4_blinks d b 56 [some (.ref l0), some (.int l1), some (.int l2)] [] S im Q := by
  refine V.iconst (v := 0) dX4_blinks_56 (by decide) ?_
  exact k
theorem bX4_blinks_57 {d : Nat} {b : Nat × Nat} {S : XS} {im : XI} {Q : Option Value → XS → XI → Prop} {l0 : Nat} {l1 : Int32} {l2 : Int32} {s0 : Int32} (g0 : s0 = 0 ∨ s0 = 1) (hq : Q (some (.int s0)) S im) : V mX4_blinks d b 57 [some (.ref l0), some (.int l1), some (.int l2)] [.int s0] S im Q := by
  exact V.zret rfl g0 dX4_blinks_57 hq
theorem bX4_blinks_58 {d : Nat} {b : Nat × Nat} {S : XS} {im : XI} {Q : Option Value → XS → XI → Prop} {l0 : Nat} {l1 : Int32} {l2 : Int32}  (kt : l2 = 0 → V mX4_blinks d b 73 [some (.ref l0), some (.int l1), some (.int l2)] [] S im Q) (kf : ¬ l2 = 0 → V mX4_blinks d b 62 [some (.ref l0), some (.int l1), some (.int l2)] [] S im Q) : V mX4_blinks d b 58 [some (.ref l0), some (.int l1), some (.int l2)] [] S im Q := by
  refine V.iload_n dX4_blinks_58 rfl rfl ?_
  refine V.if_eq (tgt := 73) dX4_blinks_59 (by decide) (fun h => ?_) (fun h => ?_)
  · exact kt h
  · exact kf h
theorem bX4_blinks_62 {d : Nat} {b : Nat × Nat} {S : XS} {im : XI} {Q : Option Value → XS → XI → Prop} {l0 : Nat} {l1 : Int32} {l2 : Int32} (g0 : S.1[l0]? = some (.inl 4)) (kt : ¬ (l1 - l1 / (12 : Int32) * (12 : Int32)) = (im l0 1) → V mX4_blinks d b 77 [some (.ref l0), some (.int l1), some (.int l2)] [] S im Q) (kf : (l1 - l1 / (12 : Int32) * (12 : Int32)) = (im l0 1) → V mX4_blinks d b 73 [some (.ref l0), some (.int l1), some (.int l2)] [] S im Q) : V mX4_blinks d b 62 [some (.ref l0), some (.int l1), some (.int l2)] [] S im Q := by
  refine V.iload_n dX4_blinks_62 rfl rfl ?_
  refine V.bipush (v := 12) dX4_blinks_63 (by decide) ?_
  refine V.irem dX4_blinks_65 (by decide) ?_
  refine V.aload_n dX4_blinks_66 rfl rfl ?_
  refine V.getI fX4_18 rfl g0 dX4_blinks_67 ?_
  refine V.icmp_ne (tgt := 77) dX4_blinks_70 (by decide) (fun h => ?_) (fun h => ?_)
  · exact kt h
  · exact kf h
theorem bX4_blinks_73 {d : Nat} {b : Nat × Nat} {S : XS} {im : XI} {Q : Option Value → XS → XI → Prop} {l0 : Nat} {l1 : Int32} {l2 : Int32}  (k : V mX4_blinks d b 78 [some (.ref l0), some (.int l1), some (.int l2)] [.int (1 : Int32)] S im Q) : V mX4_blinks d b 73 [some (.ref l0), some (.int l1), some (.int l2)] [] S im Q := by
  refine V.iconst (v := 1) dX4_blinks_73 (by decide) ?_
  refine V.goto (tgt := 78) dX4_blinks_74 (by decide) ?_
  exact k
theorem bX4_blinks_77 {d : Nat} {b : Nat × Nat} {S : XS} {im : XI} {Q : Option Value → XS → XI → Prop} {l0 : Nat} {l1 : Int32} {l2 : Int32}  (k : V mX4_blinks d b 78 [some (.ref l0), some (.int l1), some (.int l2)] [.int (0 : Int32)] S im Q) : V mX4_blinks d b 77 [some (.ref l0), some (.int l1), some (.int l2)] [] S im Q := by
  refine V.iconst (v := 0) dX4_blinks_77 (by decide) ?_
  exact k
theorem bX4_blinks_78 {d : Nat} {b : Nat × Nat} {S : XS} {im : XI} {Q : Option Value → XS → XI → Prop} {l0 : Nat} {l1 : Int32} {l2 : Int32} {s0 : Int32} (g0 : s0 = 0 ∨ s0 = 1) (hq : Q (some (.int s0)) S im) : V mX4_blinks d b 78 [some (.ref l0), some (.int l1), some (.int l2)] [.int s0] S im Q := by
  exact V.zret rfl g0 dX4_blinks_78 hq
theorem bX4_blinks_79 {d : Nat} {b : Nat × Nat} {S : XS} {im : XI} {Q : Option Value → XS → XI → Prop} {l0 : Nat} {l1 : Int32} {l2 : Int32} {P : Int32 → XI → Prop} (g0 : S.1[l0]? = some (.inl 4)) (hs : SpI mX4_deafBlinks d [.ref l0, .int l1, .int l2] S im P) (k : ∀ x2 im2, P x2 im2 → V mX4_blinks (d + 1) b 85 [some (.ref l0), some (.int l1), some (.int l2)] [.int x2] S im2 Q) : V mX4_blinks (d + 1) b 79 [some (.ref l0), some (.int l1), some (.int l2)] [] S im Q := by
  refine V.aload_n dX4_blinks_79 rfl rfl ?_
  refine V.iload_n dX4_blinks_80 rfl rfl ?_
  refine V.iload_n dX4_blinks_81 rfl rfl ?_
  refine V.cVI rfl vX4_deafBlinks lkX4_24 wX4_deafBlinks (ci := 4) rfl g0 (As := [.int l1, .int l2]) rfl rfl rfl dX4_blinks_82 hs (fun x2 im2 h2 => ?_)
  exact k x2 im2 h2
theorem bX4_blinks_85 {d : Nat} {b : Nat × Nat} {S : XS} {im : XI} {Q : Option Value → XS → XI → Prop} {l0 : Nat} {l1 : Int32} {l2 : Int32} {s0 : Int32}  (kt : s0 = 0 → V mX4_blinks d b 101 [some (.ref l0), some (.int l1), some (.int l2)] [] S im Q) (kf : ¬ s0 = 0 → V mX4_blinks d b 88 [some (.ref l0), some (.int l1), some (.int l2)] [] S im Q) : V mX4_blinks d b 85 [some (.ref l0), some (.int l1), some (.int l2)] [.int s0] S im Q := by
  refine V.if_eq (tgt := 101) dX4_blinks_85 (by decide) (fun h => ?_) (fun h => ?_)
  · exact kt h
  · exact kf h
theorem bX4_blinks_88 {d : Nat} {b : Nat × Nat} {S : XS} {im : XI} {Q : Option Value → XS → XI → Prop} {l0 : Nat} {l1 : Int32} {l2 : Int32} (g0 : S.1[l0]? = some (.inl 4)) (kt : (im l0 1) ≤ (6 : Int32) → V mX4_blinks d b 101 [some (.ref l0), some (.int l1), some (.int l2)] [] S im Q) (kf : ¬ (im l0 1) ≤ (6 : Int32) → V mX4_blinks d b 97 [some (.ref l0), some (.int l1), some (.int l2)] [] S im Q) : V mX4_blinks d b 88 [some (.ref l0), some (.int l1), some (.int l2)] [] S im Q := by
  refine V.aload_n dX4_blinks_88 rfl rfl ?_
  refine V.getI fX4_18 rfl g0 dX4_blinks_89 ?_
  refine V.bipush (v := 6) dX4_blinks_92 (by decide) ?_
  refine V.icmp_le (tgt := 101) dX4_blinks_94 (by decide) (fun h => ?_) (fun h => ?_)
  · exact kt h
  · exact kf h
theorem bX4_blinks_97 {d : Nat} {b : Nat × Nat} {S : XS} {im : XI} {Q : Option Value → XS → XI → Prop} {l0 : Nat} {l1 : Int32} {l2 : Int32}  (k : V mX4_blinks d b 102 [some (.ref l0), some (.int l1), some (.int l2)] [.int (1 : Int32)] S im Q) : V mX4_blinks d b 97 [some (.ref l0), some (.int l1), some (.int l2)] [] S im Q := by
  refine V.iconst (v := 1) dX4_blinks_97 (by decide) ?_
  refine V.goto (tgt := 102) dX4_blinks_98 (by decide) ?_
  exact k
theorem bX4_blinks_101 {d : Nat} {b : Nat × Nat} {S : XS} {im : XI} {Q : Option Value → XS → XI → Prop} {l0 : Nat} {l1 : Int32} {l2 : Int32}  (k : V mX4_blinks d b 102 [some (.ref l0), some (.int l1), some (.int l2)] [.int (0 : Int32)] S im Q) : V mX4_blinks d b 101 [some (.ref l0), some (.int l1), some (.int l2)] [] S im Q := by
  refine V.iconst (v := 0) dX4_blinks_101 (by decide) ?_
  exact k
theorem bX4_blinks_102 {d : Nat} {b : Nat × Nat} {S : XS} {im : XI} {Q : Option Value → XS → XI → Prop} {l0 : Nat} {l1 : Int32} {l2 : Int32} {s0 : Int32} (g0 : s0 = 0 ∨ s0 = 1) (hq : Q (some (.int s0)) S im) : V mX4_blinks d b 102 [some (.ref l0), some (.int l1), some (.int l2)] [.int s0] S im Q := by
  exact V.zret rfl g0 dX4_blinks_102 hq
theorem bX4_blinks_103 {d : Nat} {b : Nat × Nat} {S : XS} {im : XI} {Q : Option Value → XS → XI → Prop} {l0 : Nat} {l1 : Int32} {l2 : Int32}  (kt : l2 = 0 → V mX4_blinks d b 121 [some (.ref l0), some (.int l1), some (.int l2)] [] S im Q) (kf : ¬ l2 = 0 → V mX4_blinks d b 107 [some (.ref l0), some (.int l1), some (.int l2)] [] S im Q) : V mX4_blinks d b 103 [some (.ref l0), some (.int l1), some (.int l2)] [] S im Q := by
  refine V.iload_n dX4_blinks_103 rfl rfl ?_
  refine V.if_eq (tgt := 121) dX4_blinks_104 (by decide) (fun h => ?_) (fun h => ?_)
  · exact kt h
  · exact kf h
theorem bX4_blinks_107 {d : Nat} {b : Nat × Nat} {S : XS} {im : XI} {Q : Option Value → XS → XI → Prop} {l0 : Nat} {l1 : Int32} {l2 : Int32} (g0 : S.1[l0]? = some (.inl 4)) (kt : ¬ (l1 - l1 / (7 : Int32) * (7 : Int32)) = ((im l0 1) - (im l0 1) / (7 : Int32) * (7 : Int32)) → V mX4_blinks d b 125 [some (.ref l0), some (.int l1), some (.int l2)] [] S im Q) (kf : (l1 - l1 / (7 : Int32) * (7 : Int32)) = ((im l0 1) - (im l0 1) / (7 : Int32) * (7 : Int32)) → V mX4_blinks d b 121 [some (.ref l0), some (.int l1), some (.int l2)] [] S im Q) : V mX4_blinks d b 107 [some (.ref l0), some (.int l1), some (.int l2)] [] S im Q := by
  refine V.iload_n dX4_blinks_107 rfl rfl ?_
  refine V.bipush (v := 7) dX4_blinks_108 (by decide) ?_
  refine V.irem dX4_blinks_110 (by decide) ?_
  refine V.aload_n dX4_blinks_111 rfl rfl ?_
  refine V.getI fX4_18 rfl g0 dX4_blinks_112 ?_
  refine V.bipush (v := 7) dX4_blinks_115 (by decide) ?_
  refine V.irem dX4_blinks_117 (by decide) ?_
  refine V.icmp_ne (tgt := 125) dX4_blinks_118 (by decide) (fun h => ?_) (fun h => ?_)
  · exact kt h
  · exact kf h
theorem bX4_blinks_121 {d : Nat} {b : Nat × Nat} {S : XS} {im : XI} {Q : Option Value → XS → XI → Prop} {l0 : Nat} {l1 : Int32} {l2 : Int32}  (k : V mX4_blinks d b 126 [some (.ref l0), some (.int l1), some (.int l2)] [.int (1 : Int32)] S im Q) : V mX4_blinks d b 121 [some (.ref l0), some (.int l1), some (.int l2)] [] S im Q := by
  refine V.iconst (v := 1) dX4_blinks_121 (by decide) ?_
  refine V.goto (tgt := 126) dX4_blinks_122 (by decide) ?_
  exact k
theorem bX4_blinks_125 {d : Nat} {b : Nat × Nat} {S : XS} {im : XI} {Q : Option Value → XS → XI → Prop} {l0 : Nat} {l1 : Int32} {l2 : Int32}  (k : V mX4_blinks d b 126 [some (.ref l0), some (.int l1), some (.int l2)] [.int (0 : Int32)] S im Q) : V mX4_blinks d b 125 [some (.ref l0), some (.int l1), some (.int l2)] [] S im Q := by
  refine V.iconst (v := 0) dX4_blinks_125 (by decide) ?_
  exact k
theorem bX4_blinks_126 {d : Nat} {b : Nat × Nat} {S : XS} {im : XI} {Q : Option Value → XS → XI → Prop} {l0 : Nat} {l1 : Int32} {l2 : Int32} {s0 : Int32} (g0 : s0 = 0 ∨ s0 = 1) (hq : Q (some (.int s0)) S im) : V mX4_blinks d b 126 [some (.ref l0), some (.int l1), some (.int l2)] [.int s0] S im Q := by
  exact V.zret rfl g0 dX4_blinks_126 hq
theorem bX4_blinks_127 {d : Nat} {b : Nat × Nat} {S : XS} {im : XI} {Q : Option Value → XS → XI → Prop} {l0 : Nat} {l1 : Int32} {l2 : Int32}  (kt : ¬ l2 = 0 → V mX4_blinks d b 135 [some (.ref l0), some (.int l1), some (.int l2)] [] S im Q) (kf : l2 = 0 → V mX4_blinks d b 131 [some (.ref l0), some (.int l1), some (.int l2)] [] S im Q) : V mX4_blinks d b 127 [some (.ref l0), some (.int l1), some (.int l2)] [] S im Q := by
  refine V.iload_n dX4_blinks_127 rfl rfl ?_
  refine V.if_ne (tgt := 135) dX4_blinks_128 (by decide) (fun h => ?_) (fun h => ?_)
  · exact kt h
  · exact kf h
theorem bX4_blinks_131 {d : Nat} {b : Nat × Nat} {S : XS} {im : XI} {Q : Option Value → XS → XI → Prop} {l0 : Nat} {l1 : Int32} {l2 : Int32}  (k : V mX4_blinks d b 136 [some (.ref l0), some (.int l1), some (.int l2)] [.int (1 : Int32)] S im Q) : V mX4_blinks d b 131 [some (.ref l0), some (.int l1), some (.int l2)] [] S im Q := by
  refine V.iconst (v := 1) dX4_blinks_131 (by decide) ?_
  refine V.goto (tgt := 136) dX4_blinks_132 (by decide) ?_
  exact k
theorem bX4_blinks_135 {d : Nat} {b : Nat × Nat} {S : XS} {im : XI} {Q : Option Value → XS → XI → Prop} {l0 : Nat} {l1 : Int32} {l2 : Int32}  (k : V mX4_blinks d b 136 [some (.ref l0), some (.int l1), some (.int l2)] [.int (0 : Int32)] S im Q) : V mX4_blinks d b 135 [some (.ref l0), some (.int l1), some (.int l2)] [] S im Q := by
  refine V.iconst (v := 0) dX4_blinks_135 (by decide) ?_
  exact k
theorem bX4_blinks_136 {d : Nat} {b : Nat × Nat} {S : XS} {im : XI} {Q : Option Value → XS → XI → Prop} {l0 : Nat} {l1 : Int32} {l2 : Int32} {s0 : Int32} (g0 : s0 = 0 ∨ s0 = 1) (hq : Q (some (.int s0)) S im) : V mX4_blinks d b 136 [some (.ref l0), some (.int l1), some (.int l2)] [.int s0] S im Q := by
  exact V.zret rfl g0 dX4_blinks_136 hq
theorem bX4_deafBlinks_0 {d : Nat} {b : Nat × Nat} {S : XS} {im : XI} {Q : Option Value → XS → XI → Prop} {l0 : Nat} {l1 : Int32} {l2 : Int32}  (kt : ¬ l2 = 0 → V mX4_deafBlinks d b 20 [some (.ref l0), some (.int l1), some (.int l2)] [] S im Q) (kf : l2 = 0 → V mX4_deafBlinks d b 4 [some (.ref l0), some (.int l1), some (.int l2)] [] S im Q) : V mX4_deafBlinks d b 0 [some (.ref l0), some (.int l1), some (.int l2)] [] S im Q := by
  refine V.iload_n dX4_deafBlinks_0 rfl rfl ?_
  refine V.if_ne (tgt := 20) dX4_deafBlinks_1 (by decide) (fun h => ?_) (fun h => ?_)
  · exact kt h
  · exact kf h
theorem bX4_deafBlinks_4 {d : Nat} {b : Nat × Nat} {S : XS} {im : XI} {Q : Option Value → XS → XI → Prop} {l0 : Nat} {l1 : Int32} {l2 : Int32} (g0 : S.1[l0]? = some (.inl 4)) (kt : (l1 - l1 / (3 : Int32) * (3 : Int32)) = ((im l0 1) - (im l0 1) / (3 : Int32) * (3 : Int32)) → V mX4_deafBlinks d b 20 [some (.ref l0), some (.int l1), some (.int l2)] [] S im Q) (kf : ¬ (l1 - l1 / (3 : Int32) * (3 : Int32)) = ((im l0 1) - (im l0 1) / (3 : Int32) * (3 : Int32)) → V mX4_deafBlinks d b 16 [some (.ref l0), some (.int l1), some (.int l2)] [] S im Q) : V mX4_deafBlinks d b 4 [some (.ref l0), some (.int l1), some (.int l2)] [] S im Q := by
  refine V.iload_n dX4_deafBlinks_4 rfl rfl ?_
  refine V.iconst (v := 3) dX4_deafBlinks_5 (by decide) ?_
  refine V.irem dX4_deafBlinks_6 (by decide) ?_
  refine V.aload_n dX4_deafBlinks_7 rfl rfl ?_
  refine V.getI fX4_18 rfl g0 dX4_deafBlinks_8 ?_
  refine V.iconst (v := 3) dX4_deafBlinks_11 (by decide) ?_
  refine V.irem dX4_deafBlinks_12 (by decide) ?_
  refine V.icmp_eq (tgt := 20) dX4_deafBlinks_13 (by decide) (fun h => ?_) (fun h => ?_)
  · exact kt h
  · exact kf h
theorem bX4_deafBlinks_16 {d : Nat} {b : Nat × Nat} {S : XS} {im : XI} {Q : Option Value → XS → XI → Prop} {l0 : Nat} {l1 : Int32} {l2 : Int32}  (k : V mX4_deafBlinks d b 21 [some (.ref l0), some (.int l1), some (.int l2)] [.int (1 : Int32)] S im Q) : V mX4_deafBlinks d b 16 [some (.ref l0), some (.int l1), some (.int l2)] [] S im Q := by
  refine V.iconst (v := 1) dX4_deafBlinks_16 (by decide) ?_
  refine V.goto (tgt := 21) dX4_deafBlinks_17 (by decide) ?_
  exact k
theorem bX4_deafBlinks_20 {d : Nat} {b : Nat × Nat} {S : XS} {im : XI} {Q : Option Value → XS → XI → Prop} {l0 : Nat} {l1 : Int32} {l2 : Int32}  (k : V mX4_deafBlinks d b 21 [some (.ref l0), some (.int l1), some (.int l2)] [.int (0 : Int32)] S im Q) : V mX4_deafBlinks d b 20 [some (.ref l0), some (.int l1), some (.int l2)] [] S im Q := by
  refine V.iconst (v := 0) dX4_deafBlinks_20 (by decide) ?_
  exact k
theorem bX4_deafBlinks_21 {d : Nat} {b : Nat × Nat} {S : XS} {im : XI} {Q : Option Value → XS → XI → Prop} {l0 : Nat} {l1 : Int32} {l2 : Int32} {s0 : Int32} (g0 : s0 = 0 ∨ s0 = 1) (hq : Q (some (.int s0)) S im) : V mX4_deafBlinks d b 21 [some (.ref l0), some (.int l1), some (.int l2)] [.int s0] S im Q := by
  exact V.zret rfl g0 dX4_deafBlinks_21 hq
theorem bX4_tries_0 {d : Nat} {b : Nat × Nat} {S : XS} {im : XI} {Q : Option Value → XS → XI → Prop} {l0 : Nat} {l1 : Int32} (g0 : S.1[l0]? = some (.inl 4)) (k0 : (im l0 0) = 1 → V mX4_tries d b 44 [some (.ref l0), some (.int l1)] [] S im Q) (k1 : (im l0 0) = 3 → V mX4_tries d b 49 [some (.ref l0), some (.int l1)] [] S im Q) (k2 : (im l0 0) = 4 → V mX4_tries d b 53 [some (.ref l0), some (.int l1)] [] S im Q) (k3 : (im l0 0) = 5 → V mX4_tries d b 60 [some (.ref l0), some (.int l1)] [] S im Q) (k4 : (im l0 0) = 6 → V mX4_tries d b 62 [some (.ref l0), some (.int l1)] [] S im Q) (kd : ¬ (im l0 0) = 1 → ¬ (im l0 0) = 3 → ¬ (im l0 0) = 4 → ¬ (im l0 0) = 5 → ¬ (im l0 0) = 6 → V mX4_tries d b 64 [some (.ref l0), some (.int l1)] [] S im Q) : V mX4_tries d b 0 [some (.ref l0), some (.int l1)] [] S im Q := by
  refine V.aload_n dX4_tries_0 rfl rfl ?_
  refine V.getI fX4_15 rfl g0 dX4_tries_1 ?_
  by_cases c0 : (im l0 0) = 1
  · exact V.tableIn (tgt := 44) (off := 40) dX4_tries_4 (by rw [c0]; decide) (by rw [c0]; decide) (by rw [c0] <;> rfl) (by decide) (k0 c0)
  · skip
    by_cases c1 : (im l0 0) = 2
    · exact V.tableIn (tgt := 64) (off := 60) dX4_tries_4 (by rw [c1]; decide) (by rw [c1]; decide) (by rw [c1] <;> rfl) (by decide) (kd c0 (by rw [c1]; decide) (by rw [c1]; decide) (by rw [c1]; decide) (by rw [c1]; decide))
    · skip
      by_cases c2 : (im l0 0) = 3
      · exact V.tableIn (tgt := 49) (off := 45) dX4_tries_4 (by rw [c2]; decide) (by rw [c2]; decide) (by rw [c2] <;> rfl) (by decide) (k1 c2)
      · skip
        by_cases c3 : (im l0 0) = 4
        · exact V.tableIn (tgt := 53) (off := 49) dX4_tries_4 (by rw [c3]; decide) (by rw [c3]; decide) (by rw [c3] <;> rfl) (by decide) (k2 c3)
        · skip
          by_cases c4 : (im l0 0) = 5
          · exact V.tableIn (tgt := 60) (off := 56) dX4_tries_4 (by rw [c4]; decide) (by rw [c4]; decide) (by rw [c4] <;> rfl) (by decide) (k3 c4)
          · skip
            by_cases c5 : (im l0 0) = 6
            · exact V.tableIn (tgt := 62) (off := 58) dX4_tries_4 (by rw [c5]; decide) (by rw [c5]; decide) (by rw [c5] <;> rfl) (by decide) (k4 c5)
            · skip
              exact V.tableOut (tgt := 64) dX4_tries_4 (by have qc0 := lv_neT c0 (a := 1) rfl; have qc1 := lv_neT c1 (a := 2) rfl; have qc2 := lv_neT c2 (a := 3) rfl; have qc3 := lv_neT c3 (a := 4) rfl; have qc4 := lv_neT c4 (a := 5) rfl; have qc5 := lv_neT c5 (a := 6) rfl; omega) (by decide) (kd c0 c2 c3 c4 c5)
theorem bX4_tries_44 {d : Nat} {b : Nat × Nat} {S : XS} {im : XI} {Q : Option Value → XS → XI → Prop} {l0 : Nat} {l1 : Int32} {P : Int32 → XI → Prop} (g0 : S.1[l0]? = some (.inl 4)) (hs : SpI mX4_bankerTries d [.ref l0] S im P) (k : ∀ x2 im2, P x2 im2 → V mX4_tries (d + 1) b 48 [some (.ref l0), some (.int l1)] [.int x2] S im2 Q) : V mX4_tries (d + 1) b 44 [some (.ref l0), some (.int l1)] [] S im Q := by
  refine V.aload_n dX4_tries_44 rfl rfl ?_
  refine V.cVI rfl vX4_bankerTries lkX4_28 wX4_bankerTries (ci := 4) rfl g0 (As := []) rfl rfl rfl dX4_tries_45 hs (fun x2 im2 h2 => ?_)
  exact k x2 im2 h2
theorem bX4_tries_48 {d : Nat} {b : Nat × Nat} {S : XS} {im : XI} {Q : Option Value → XS → XI → Prop} {l0 : Nat} {l1 : Int32} {s0 : Int32}  (hq : Q (some (.int s0)) S im) : V mX4_tries d b 48 [some (.ref l0), some (.int l1)] [.int s0] S im Q := by
  exact V.iret rfl dX4_tries_48 hq
theorem bX4_tries_49 {d : Nat} {b : Nat × Nat} {S : XS} {im : XI} {Q : Option Value → XS → XI → Prop} {l0 : Nat} {l1 : Int32}  (hq : Q (some (.int ((1 : Int32) + l1))) S im) : V mX4_tries d b 49 [some (.ref l0), some (.int l1)] [] S im Q := by
  refine V.iconst (v := 1) dX4_tries_49 (by decide) ?_
  refine V.iload_n dX4_tries_50 rfl rfl ?_
  refine V.iadd dX4_tries_51 ?_
  exact V.iret rfl dX4_tries_52 hq
theorem bX4_tries_53 {d : Nat} {b : Nat × Nat} {S : XS} {im : XI} {Q : Option Value → XS → XI → Prop} {l0 : Nat} {l1 : Int32} {P : Int32 → XI → Prop} (g0 : S.1[l0]? = some (.inl 4)) (hs : SpI mX4_bankerTries d [.ref l0] S im P) (k : ∀ x2 im2, P x2 im2 → V mX4_tries (d + 1) b 58 [some (.ref l0), some (.int l1)] [.int x2, .int (2 : Int32)] S im2 Q) : V mX4_tries (d + 1) b 53 [some (.ref l0), some (.int l1)] [] S im Q := by
  refine V.iconst (v := 2) dX4_tries_53 (by decide) ?_
  refine V.aload_n dX4_tries_54 rfl rfl ?_
  refine V.cVI rfl vX4_bankerTries lkX4_28 wX4_bankerTries (ci := 4) rfl g0 (As := []) rfl rfl rfl dX4_tries_55 hs (fun x2 im2 h2 => ?_)
  exact k x2 im2 h2
theorem bX4_tries_58 {d : Nat} {b : Nat × Nat} {S : XS} {im : XI} {Q : Option Value → XS → XI → Prop} {l0 : Nat} {l1 : Int32} {s0 : Int32} {s1 : Int32}  (hq : Q (some (.int (s0 * s1))) S im) : V mX4_tries d b 58 [some (.ref l0), some (.int l1)] [.int s1, .int s0] S im Q := by
  refine V.imul dX4_tries_58 ?_
  exact V.iret rfl dX4_tries_59 hq
theorem bX4_tries_60 {d : Nat} {b : Nat × Nat} {S : XS} {im : XI} {Q : Option Value → XS → XI → Prop} {l0 : Nat} {l1 : Int32}  (hq : Q (some (.int (4 : Int32))) S im) : V mX4_tries d b 60 [some (.ref l0), some (.int l1)] [] S im Q := by
  refine V.iconst (v := 4) dX4_tries_60 (by decide) ?_
  exact V.iret rfl dX4_tries_61 hq
theorem bX4_tries_62 {d : Nat} {b : Nat × Nat} {S : XS} {im : XI} {Q : Option Value → XS → XI → Prop} {l0 : Nat} {l1 : Int32}  (hq : Q (some (.int (0 : Int32))) S im) : V mX4_tries d b 62 [some (.ref l0), some (.int l1)] [] S im Q := by
  refine V.iconst (v := 0) dX4_tries_62 (by decide) ?_
  exact V.iret rfl dX4_tries_63 hq
theorem bX4_tries_64 {d : Nat} {b : Nat × Nat} {S : XS} {im : XI} {Q : Option Value → XS → XI → Prop} {l0 : Nat} {l1 : Int32}  (hq : Q (some (.int (1 : Int32))) S im) : V mX4_tries d b 64 [some (.ref l0), some (.int l1)] [] S im Q := by
  refine V.iconst (v := 1) dX4_tries_64 (by decide) ?_
  exact V.iret rfl dX4_tries_65 hq
theorem bX4_bankerTries_0 {d : Nat} {b : Nat × Nat} {S : XS} {im : XI} {Q : Option Value → XS → XI → Prop} {l0 : Nat} (g0 : S.1[l0]? = some (.inl 4)) (hq : Q (some (.int ((2 : Int32) + ((im l0 1) / (5 : Int32))))) S im) : V mX4_bankerTries d b 0 [some (.ref l0)] [] S im Q := by
  refine V.iconst (v := 2) dX4_bankerTries_0 (by decide) ?_
  refine V.aload_n dX4_bankerTries_1 rfl rfl ?_
  refine V.getI fX4_18 rfl g0 dX4_bankerTries_2 ?_
  refine V.iconst (v := 5) dX4_bankerTries_5 (by decide) ?_
  refine V.idiv dX4_bankerTries_6 (by decide) ?_
  refine V.iadd dX4_bankerTries_7 ?_
  exact V.iret rfl dX4_bankerTries_8 hq

theorem bX0_init_0 {d : Nat} {b : Nat × Nat} {S : XS} {im : XI} {Q : Option Value → XS → XI → Prop} {l0 : Nat}  (k : V mX0_init (d + 1) b 4 [some (.ref l0)] [] S im Q) : V mX0_init (d + 1) b 0 [some (.ref l0)] [] S im Q := by
  refine V.aload_n dX0_init_0 rfl rfl ?_
  refine V.objInit rfl lkX0_1 xoi_in xoi_code rfl dX0_init_1 ?_
  exact k
theorem bX0_init_4 {d : Nat} {b : Nat × Nat} {S : XS} {im : XI} {Q : Option Value → XS → XI → Prop} {l0 : Nat}  (hq : Q none S im) : V mX0_init d b 4 [some (.ref l0)] [] S im Q := by
  exact V.vret rfl dX0_init_4 hq
theorem bX0_beLike_0 {d : Nat} {b : Nat × Nat} {S : XS} {im : XI} {Q : Option Value → XS → XI → Prop} {l0 : Nat} {l1 : Nat} (g0 : S.1[l1]? = some (.inl 0)) (g1 : S.1[l0]? = some (.inl 0)) (hq : Q none S (xup (xup (xup im l0 0 (im l1 0)) l0 1 ((xup im l0 0 (im l1 0)) l1 1)) l0 2 ((xup (xup im l0 0 (im l1 0)) l0 1 ((xup im l0 0 (im l1 0)) l1 1)) l1 2))) : V mX0_beLike d b 0 [some (.ref l0), some (.ref l1)] [] S im Q := by
  refine V.aload_n dX0_beLike_0 rfl rfl ?_
  refine V.aload_n dX0_beLike_1 rfl rfl ?_
  refine V.getI fX0_7 rfl g0 dX0_beLike_2 ?_
  refine V.putI fX0_7 (fun h => by cases h) rfl g1 dX0_beLike_5 ?_
  refine V.aload_n dX0_beLike_8 rfl rfl ?_
  refine V.aload_n dX0_beLike_9 rfl rfl ?_
  refine V.getI fX0_13 rfl g0 dX0_beLike_10 ?_
  refine V.putI fX0_13 (fun h => by cases h) rfl g1 dX0_beLike_13 ?_
  refine V.aload_n dX0_beLike_16 rfl rfl ?_
  refine V.aload_n dX0_beLike_17 rfl rfl ?_
  refine V.getI fX0_16 rfl g0 dX0_beLike_18 ?_
  refine V.putI fX0_16 (fun h => by cases h) rfl g1 dX0_beLike_21 ?_
  exact V.vret rfl dX0_beLike_24 hq

theorem bX1_init_0 {d : Nat} {b : Nat × Nat} {S : XS} {im : XI} {Q : Option Value → XS → XI → Prop} {l0 : Nat} {l1 : Nat}  (k : V mX1_init (d + 1) b 4 [some (.ref l0), some (.ref l1)] [] S im Q) : V mX1_init (d + 1) b 0 [some (.ref l0), some (.ref l1)] [] S im Q := by
  refine V.aload_n dX1_init_0 rfl rfl ?_
  refine V.objInit rfl lkX1_3 xoi_in xoi_code rfl dX1_init_1 ?_
  exact k
theorem bX1_init_4 {d : Nat} {b : Nat × Nat} {S : XS} {im : XI} {Q : Option Value → XS → XI → Prop} {l0 : Nat} {l1 : Nat} {b1 : Nat × Nat} (g0 : 1 + b1.1 ≤ b.1 ∧ 99 + b1.2 ≤ b.2) (g1 : ((xpush S (.inr (.inl 99)))).1[l0]? = some (.inl 1)) (k : V mX1_init d b1 12 [some (.ref l0), some (.ref l1)] [] (((xpush S (.inr (.inl 99)))).1, xur ((xpush S (.inr (.inl 99)))).2 l0 1 (some S.1.length)) (xz im S.1.length) Q) : V mX1_init d b 4 [some (.ref l0), some (.ref l1)] [] S im Q := by
  refine V.aload_n dX1_init_4 rfl rfl ?_
  refine V.bipush (v := 99) dX1_init_5 (by decide) ?_
  refine V.newa (n := 99) rfl rfl xai g0 dX1_init_7 ?_
  refine V.putR fX1_9 (fun _ => ⟨rfl, TX1, 6, rfl⟩) rfl rfl g1 dX1_init_9 ?_
  exact k
theorem bX1_init_12 {d : Nat} {b : Nat × Nat} {S : XS} {im : XI} {Q : Option Value → XS → XI → Prop} {l0 : Nat} {l1 : Nat} (g0 : S.1[l0]? = some (.inl 1)) (k : V mX1_init d b 17 [some (.ref l0), some (.ref l1)] [] (S.1, xur S.2 l0 0 (some l1)) im Q) : V mX1_init d b 12 [some (.ref l0), some (.ref l1)] [] S im Q := by
  refine V.aload_n dX1_init_12 rfl rfl ?_
  refine V.aload_n dX1_init_13 rfl rfl ?_
  refine V.putR fX1_15 (fun _ => ⟨rfl, TX1, 6, rfl⟩) rfl rfl g0 dX1_init_14 ?_
  exact k
theorem bX1_init_17 {d : Nat} {b : Nat × Nat} {S : XS} {im : XI} {Q : Option Value → XS → XI → Prop} {l0 : Nat} {l1 : Nat}  (hq : Q none S im) : V mX1_init d b 17 [some (.ref l0), some (.ref l1)] [] S im Q := by
  exact V.vret rfl dX1_init_17 hq
theorem bX1_partsBehind_0 {d : Nat} {b : Nat × Nat} {bo : Bool} {im : XI} {Q : Option Value → XS → XI → Prop} {l1 : Nat} {l2 : Int32} (g0 : (SC bo).1[l1]? = some (.inl 0)) (k : V mX1_partsBehind d b 8 [some (.ref 31), some (.ref l1), some (.int l2), some (.int (im l1 1)), some (.int (0 : Int32)), none] [] (SC bo) im Q) : V mX1_partsBehind d b 0 [some (.ref 31), some (.ref l1), some (.int l2), none, none, none] [] (SC bo) im Q := by
  refine V.aload_n dX1_partsBehind_0 rfl rfl ?_
  refine V.getI fX1_19 rfl g0 dX1_partsBehind_1 ?_
  refine V.istore_n dX1_partsBehind_4 rfl rfl rfl ?_
  refine V.iconst (v := 0) dX1_partsBehind_5 (by decide) ?_
  refine V.istore dX1_partsBehind_6 rfl rfl ?_
  exact k
theorem bX1_partsBehind_8 {d : Nat} {b : Nat × Nat} {bo : Bool} {im : XI} {Q : Option Value → XS → XI → Prop} {l1 : Nat} {l2 : Int32} {l3 : Int32} {l4 : Int32}  (kt : l2 ≤ l4 → V mX1_partsBehind d b 59 [some (.ref 31), some (.ref l1), some (.int l2), some (.int l3), some (.int l4), none] [] (SC bo) im Q) (kf : ¬ l2 ≤ l4 → V mX1_partsBehind d b 14 [some (.ref 31), some (.ref l1), some (.int l2), some (.int l3), some (.int l4), none] [] (SC bo) im Q) : V mX1_partsBehind d b 8 [some (.ref 31), some (.ref l1), some (.int l2), some (.int l3), some (.int l4), none] [] (SC bo) im Q := by
  refine V.iload dX1_partsBehind_8 rfl ?_
  refine V.iload_n dX1_partsBehind_10 rfl rfl ?_
  refine V.icmp_ge (tgt := 59) dX1_partsBehind_11 (by decide) (fun h => ?_) (fun h => ?_)
  · exact kt h
  · exact kf h
theorem bX1_partsBehind_14 {d : Nat} {b : Nat × Nat} {bo : Bool} {im : XI} {Q : Option Value → XS → XI → Prop} {l1 : Nat} {l2 : Int32} {l3 : Int32} {l4 : Int32}  (kt : l3 ≤ 0 → V mX1_partsBehind d b 59 [some (.ref 31), some (.ref l1), some (.int l2), some (.int l3), some (.int l4), none] [] (SC bo) im Q) (kf : ¬ l3 ≤ 0 → V mX1_partsBehind d b 18 [some (.ref 31), some (.ref l1), some (.int l2), some (.int l3), some (.int l4), none] [] (SC bo) im Q) : V mX1_partsBehind d b 14 [some (.ref 31), some (.ref l1), some (.int l2), some (.int l3), some (.int l4), none] [] (SC bo) im Q := by
  refine V.iload_n dX1_partsBehind_14 rfl rfl ?_
  refine V.if_le (tgt := 59) dX1_partsBehind_15 (by decide) (fun h => ?_) (fun h => ?_)
  · exact kt h
  · exact kf h
theorem bX1_partsBehind_18 {d : Nat} {b : Nat × Nat} {bo : Bool} {im : XI} {Q : Option Value → XS → XI → Prop} {l1 : Nat} {l2 : Int32} {l3 : Int32} {l4 : Int32} {P : Int32 → XI → Prop}  (hs : SpI mX2_shutSet d [.ref 1, .int ((im 1 8) + l4)] (SC bo) im P) (k : ∀ x2 im2, P x2 im2 → V mX1_partsBehind (d + 1) b 35 [some (.ref 31), some (.ref l1), some (.int l2), some (.int l3), some (.int l4), none] [.int x2] (SC bo) im2 Q) : V mX1_partsBehind (d + 1) b 18 [some (.ref 31), some (.ref l1), some (.int l2), some (.int l3), some (.int l4), none] [] (SC bo) im Q := by
  refine V.aload_n dX1_partsBehind_18 rfl rfl ?_
  refine V.getR fX1_15 rfl (by rfl) (by rfl) dX1_partsBehind_19 ?_
  refine V.aload_n dX1_partsBehind_22 rfl rfl ?_
  refine V.getR fX1_15 rfl (by rfl) (by rfl) dX1_partsBehind_23 ?_
  refine V.getI fX1_25 rfl (by rfl) dX1_partsBehind_26 ?_
  refine V.iload dX1_partsBehind_29 rfl ?_
  refine V.iadd dX1_partsBehind_31 ?_
  refine V.cVI rfl vX2_shutSet lkX1_30 wX2_shutSet (ci := 2) rfl (by rfl) (As := [.int ((im 1 8) + l4)]) rfl rfl rfl dX1_partsBehind_32 hs (fun x2 im2 h2 => ?_)
  exact k x2 im2 h2
theorem bX1_partsBehind_35 {d : Nat} {b : Nat × Nat} {bo : Bool} {im : XI} {Q : Option Value → XS → XI → Prop} {l1 : Nat} {l2 : Int32} {l3 : Int32} {l4 : Int32} {s0 : Int32} {P : Int32 → XI → Prop} (g0 : (SC bo).1[l1]? = some (.inl 0)) (hs : SpI mX2_leftBehindTick d [.ref 1, .ref l1, .int l3, .int (im l1 2), .int s0] (SC bo) im P) (k : ∀ x2 im2, P x2 im2 → V mX1_partsBehind (d + 1) b 52 [some (.ref 31), some (.ref l1), some (.int l2), some (.int l3), some (.int l4), some (.int s0)] [.int x2] (SC bo) im2 Q) : V mX1_partsBehind (d + 1) b 35 [some (.ref 31), some (.ref l1), some (.int l2), some (.int l3), some (.int l4), none] [.int s0] (SC bo) im Q := by
  refine V.istore dX1_partsBehind_35 rfl rfl ?_
  refine V.aload_n dX1_partsBehind_37 rfl rfl ?_
  refine V.getR fX1_15 rfl (by rfl) (by rfl) dX1_partsBehind_38 ?_
  refine V.aload_n dX1_partsBehind_41 rfl rfl ?_
  refine V.iload_n dX1_partsBehind_42 rfl rfl ?_
  refine V.aload_n dX1_partsBehind_43 rfl rfl ?_
  refine V.getI fX1_34 rfl g0 dX1_partsBehind_44 ?_
  refine V.iload dX1_partsBehind_47 rfl ?_
  refine V.cVI rfl vX2_leftBehindTick lkX1_37 wX2_leftBehindTick (ci := 2) rfl (by rfl) (As := [.ref l1, .int l3, .int (im l1 2), .int s0]) rfl rfl rfl dX1_partsBehind_49 hs (fun x2 im2 h2 => ?_)
  exact k x2 im2 h2
theorem bX1_partsBehind_52 {d : Nat} {b : Nat × Nat} {bo : Bool} {im : XI} {Q : Option Value → XS → XI → Prop} {l1 : Nat} {l2 : Int32} {l3 : Int32} {l4 : Int32} {l5 : Int32} {s0 : Int32}  (k : V mX1_partsBehind d b 8 [some (.ref 31), some (.ref l1), some (.int l2), some (.int s0), some (.int (l4 + (1 : Int32))), none] [] (SC bo) im Q) : V mX1_partsBehind d b 52 [some (.ref 31), some (.ref l1), some (.int l2), some (.int l3), some (.int l4), some (.int l5)] [.int s0] (SC bo) im Q := by
  refine V.istore_n dX1_partsBehind_52 rfl rfl rfl ?_
  refine V.iinc (v := (l4 + (1 : Int32))) dX1_partsBehind_53 rfl rfl rfl ?_
  refine V.goto (tgt := 8) dX1_partsBehind_56 (by decide) ?_
  exact V.weakm [true, true, true, true, true, false] rfl (k)
theorem bX1_partsBehind_59 {d : Nat} {b : Nat × Nat} {bo : Bool} {im : XI} {Q : Option Value → XS → XI → Prop} {l1 : Nat} {l2 : Int32} {l3 : Int32} {l4 : Int32}  (hq : Q (some (.int l3)) (SC bo) im) : V mX1_partsBehind d b 59 [some (.ref 31), some (.ref l1), some (.int l2), some (.int l3), some (.int l4), none] [] (SC bo) im Q := by
  refine V.iload_n dX1_partsBehind_59 rfl rfl ?_
  exact V.iret rfl dX1_partsBehind_60 hq
theorem bX1_soonestDone_0 {d : Nat} {b : Nat × Nat} {bo : Bool} {im : XI} {Q : Option Value → XS → XI → Prop} {l1 : Nat} (g0 : (SC bo).1[l1]? = some (.inl 0)) (k : V mX1_soonestDone d b 7 [some (.ref 31), some (.ref l1), some (.int (im l1 1)), some (.int (0 : Int32)), none] [] (SC bo) im Q) : V mX1_soonestDone d b 0 [some (.ref 31), some (.ref l1), none, none, none] [] (SC bo) im Q := by
  refine V.aload_n dX1_soonestDone_0 rfl rfl ?_
  refine V.getI fX1_19 rfl g0 dX1_soonestDone_1 ?_
  refine V.istore_n dX1_soonestDone_4 rfl rfl rfl ?_
  refine V.iconst (v := 0) dX1_soonestDone_5 (by decide) ?_
  refine V.istore_n dX1_soonestDone_6 rfl rfl rfl ?_
  exact k
theorem bX1_soonestDone_7 {d : Nat} {b : Nat × Nat} {bo : Bool} {im : XI} {Q : Option Value → XS → XI → Prop} {l1 : Nat} {l2 : Int32} {l3 : Int32}  (kt : (200 : Int32) ≤ l3 → V mX1_soonestDone d b 66 [some (.ref 31), some (.ref l1), some (.int l2), some (.int l3), none] [] (SC bo) im Q) (kf : ¬ (200 : Int32) ≤ l3 → V mX1_soonestDone d b 14 [some (.ref 31), some (.ref l1), some (.int l2), some (.int l3), none] [] (SC bo) im Q) : V mX1_soonestDone d b 7 [some (.ref 31), some (.ref l1), some (.int l2), some (.int l3), none] [] (SC bo) im Q := by
  refine V.iload_n dX1_soonestDone_7 rfl rfl ?_
  refine V.sipush (v := 200) dX1_soonestDone_8 (by decide) ?_
  refine V.icmp_ge (tgt := 66) dX1_soonestDone_11 (by decide) (fun h => ?_) (fun h => ?_)
  · exact kt h
  · exact kf h
theorem bX1_soonestDone_14 {d : Nat} {b : Nat × Nat} {bo : Bool} {im : XI} {Q : Option Value → XS → XI → Prop} {l1 : Nat} {l2 : Int32} {l3 : Int32}  (kt : l2 ≤ 0 → V mX1_soonestDone d b 66 [some (.ref 31), some (.ref l1), some (.int l2), some (.int l3), none] [] (SC bo) im Q) (kf : ¬ l2 ≤ 0 → V mX1_soonestDone d b 18 [some (.ref 31), some (.ref l1), some (.int l2), some (.int l3), none] [] (SC bo) im Q) : V mX1_soonestDone d b 14 [some (.ref 31), some (.ref l1), some (.int l2), some (.int l3), none] [] (SC bo) im Q := by
  refine V.iload_n dX1_soonestDone_14 rfl rfl ?_
  refine V.if_le (tgt := 66) dX1_soonestDone_15 (by decide) (fun h => ?_) (fun h => ?_)
  · exact kt h
  · exact kf h
theorem bX1_soonestDone_18 {d : Nat} {b : Nat × Nat} {bo : Bool} {im : XI} {Q : Option Value → XS → XI → Prop} {l1 : Nat} {l2 : Int32} {l3 : Int32} {P : Int32 → XI → Prop}  (hs : SpI mX2_shutSet d [.ref 1, .int ((im 1 8) + l3)] (SC bo) im P) (k : ∀ x2 im2, P x2 im2 → V mX1_soonestDone (d + 1) b 34 [some (.ref 31), some (.ref l1), some (.int l2), some (.int l3), none] [.int x2] (SC bo) im2 Q) : V mX1_soonestDone (d + 1) b 18 [some (.ref 31), some (.ref l1), some (.int l2), some (.int l3), none] [] (SC bo) im Q := by
  refine V.aload_n dX1_soonestDone_18 rfl rfl ?_
  refine V.getR fX1_15 rfl (by rfl) (by rfl) dX1_soonestDone_19 ?_
  refine V.aload_n dX1_soonestDone_22 rfl rfl ?_
  refine V.getR fX1_15 rfl (by rfl) (by rfl) dX1_soonestDone_23 ?_
  refine V.getI fX1_25 rfl (by rfl) dX1_soonestDone_26 ?_
  refine V.iload_n dX1_soonestDone_29 rfl rfl ?_
  refine V.iadd dX1_soonestDone_30 ?_
  refine V.cVI rfl vX2_shutSet lkX1_30 wX2_shutSet (ci := 2) rfl (by rfl) (As := [.int ((im 1 8) + l3)]) rfl rfl rfl dX1_soonestDone_31 hs (fun x2 im2 h2 => ?_)
  exact k x2 im2 h2
theorem bX1_soonestDone_34 {d : Nat} {b : Nat × Nat} {bo : Bool} {im : XI} {Q : Option Value → XS → XI → Prop} {l1 : Nat} {l2 : Int32} {l3 : Int32} {s0 : Int32} {P : Int32 → XI → Prop} (g0 : (SC bo).1[l1]? = some (.inl 0)) (hs : SpI mX2_leftBehindTick d [.ref 1, .ref l1, .int l2, .int (im l1 2), .int s0] (SC bo) im P) (k : ∀ x2 im2, P x2 im2 → V mX1_soonestDone (d + 1) b 51 [some (.ref 31), some (.ref l1), some (.int l2), some (.int l3), some (.int s0)] [.int x2] (SC bo) im2 Q) : V mX1_soonestDone (d + 1) b 34 [some (.ref 31), some (.ref l1), some (.int l2), some (.int l3), none] [.int s0] (SC bo) im Q := by
  refine V.istore dX1_soonestDone_34 rfl rfl ?_
  refine V.aload_n dX1_soonestDone_36 rfl rfl ?_
  refine V.getR fX1_15 rfl (by rfl) (by rfl) dX1_soonestDone_37 ?_
  refine V.aload_n dX1_soonestDone_40 rfl rfl ?_
  refine V.iload_n dX1_soonestDone_41 rfl rfl ?_
  refine V.aload_n dX1_soonestDone_42 rfl rfl ?_
  refine V.getI fX1_34 rfl g0 dX1_soonestDone_43 ?_
  refine V.iload dX1_soonestDone_46 rfl ?_
  refine V.cVI rfl vX2_leftBehindTick lkX1_37 wX2_leftBehindTick (ci := 2) rfl (by rfl) (As := [.ref l1, .int l2, .int (im l1 2), .int s0]) rfl rfl rfl dX1_soonestDone_48 hs (fun x2 im2 h2 => ?_)
  exact k x2 im2 h2
theorem bX1_soonestDone_51 {d : Nat} {b : Nat × Nat} {bo : Bool} {im : XI} {Q : Option Value → XS → XI → Prop} {l1 : Nat} {l2 : Int32} {l3 : Int32} {l4 : Int32} {s0 : Int32}  (kt : ¬ s0 = 0 → V mX1_soonestDone d b 60 [some (.ref 31), some (.ref l1), some (.int s0), some (.int l3), some (.int l4)] [] (SC bo) im Q) (kf : s0 = 0 → V mX1_soonestDone d b 56 [some (.ref 31), some (.ref l1), some (.int s0), some (.int l3), some (.int l4)] [] (SC bo) im Q) : V mX1_soonestDone d b 51 [some (.ref 31), some (.ref l1), some (.int l2), some (.int l3), some (.int l4)] [.int s0] (SC bo) im Q := by
  refine V.istore_n dX1_soonestDone_51 rfl rfl rfl ?_
  refine V.iload_n dX1_soonestDone_52 rfl rfl ?_
  refine V.if_ne (tgt := 60) dX1_soonestDone_53 (by decide) (fun h => ?_) (fun h => ?_)
  · exact kt h
  · exact kf h
theorem bX1_soonestDone_56 {d : Nat} {b : Nat × Nat} {bo : Bool} {im : XI} {Q : Option Value → XS → XI → Prop} {l1 : Nat} {l2 : Int32} {l3 : Int32} {l4 : Int32}  (hq : Q (some (.int (l3 + (1 : Int32)))) (SC bo) im) : V mX1_soonestDone d b 56 [some (.ref 31), some (.ref l1), some (.int l2), some (.int l3), some (.int l4)] [] (SC bo) im Q := by
  refine V.iload_n dX1_soonestDone_56 rfl rfl ?_
  refine V.iconst (v := 1) dX1_soonestDone_57 (by decide) ?_
  refine V.iadd dX1_soonestDone_58 ?_
  exact V.iret rfl dX1_soonestDone_59 hq
theorem bX1_soonestDone_60 {d : Nat} {b : Nat × Nat} {bo : Bool} {im : XI} {Q : Option Value → XS → XI → Prop} {l1 : Nat} {l2 : Int32} {l3 : Int32} {l4 : Int32}  (k : V mX1_soonestDone d b 7 [some (.ref 31), some (.ref l1), some (.int l2), some (.int (l3 + (1 : Int32))), none] [] (SC bo) im Q) : V mX1_soonestDone d b 60 [some (.ref 31), some (.ref l1), some (.int l2), some (.int l3), some (.int l4)] [] (SC bo) im Q := by
  refine V.iinc (v := (l3 + (1 : Int32))) dX1_soonestDone_60 rfl rfl rfl ?_
  refine V.goto (tgt := 7) dX1_soonestDone_63 (by decide) ?_
  exact V.weakm [true, true, true, true, false] rfl (k)
theorem bX1_soonestDone_66 {d : Nat} {b : Nat × Nat} {bo : Bool} {im : XI} {Q : Option Value → XS → XI → Prop} {l1 : Nat} {l2 : Int32} {l3 : Int32}  (kt : ¬ l2 = 0 → V mX1_soonestDone d b 74 [some (.ref 31), some (.ref l1), some (.int l2), some (.int l3), none] [] (SC bo) im Q) (kf : l2 = 0 → V mX1_soonestDone d b 70 [some (.ref 31), some (.ref l1), some (.int l2), some (.int l3), none] [] (SC bo) im Q) : V mX1_soonestDone d b 66 [some (.ref 31), some (.ref l1), some (.int l2), some (.int l3), none] [] (SC bo) im Q := by
  refine V.iload_n dX1_soonestDone_66 rfl rfl ?_
  refine V.if_ne (tgt := 74) dX1_soonestDone_67 (by decide) (fun h => ?_) (fun h => ?_)
  · exact kt h
  · exact kf h
theorem bX1_soonestDone_70 {d : Nat} {b : Nat × Nat} {bo : Bool} {im : XI} {Q : Option Value → XS → XI → Prop} {l1 : Nat} {l2 : Int32} {l3 : Int32}  (k : V mX1_soonestDone d b 75 [some (.ref 31), some (.ref l1), some (.int l2), some (.int l3), none] [.int (0 : Int32)] (SC bo) im Q) : V mX1_soonestDone d b 70 [some (.ref 31), some (.ref l1), some (.int l2), some (.int l3), none] [] (SC bo) im Q := by
  refine V.iconst (v := 0) dX1_soonestDone_70 (by decide) ?_
  refine V.goto (tgt := 75) dX1_soonestDone_71 (by decide) ?_
  exact k
theorem bX1_soonestDone_74 {d : Nat} {b : Nat × Nat} {bo : Bool} {im : XI} {Q : Option Value → XS → XI → Prop} {l1 : Nat} {l2 : Int32} {l3 : Int32}  (k : V mX1_soonestDone d b 75 [some (.ref 31), some (.ref l1), some (.int l2), some (.int l3), none] [.int (-1 : Int32)] (SC bo) im Q) : V mX1_soonestDone d b 74 [some (.ref 31), some (.ref l1), some (.int l2), some (.int l3), none] [] (SC bo) im Q := by
  refine V.iconst (v := -1) dX1_soonestDone_74 (by decide) ?_
  exact k
theorem bX1_soonestDone_75 {d : Nat} {b : Nat × Nat} {bo : Bool} {im : XI} {Q : Option Value → XS → XI → Prop} {l1 : Nat} {l2 : Int32} {l3 : Int32} {s0 : Int32}  (hq : Q (some (.int s0)) (SC bo) im) : V mX1_soonestDone d b 75 [some (.ref 31), some (.ref l1), some (.int l2), some (.int l3), none] [.int s0] (SC bo) im Q := by
  exact V.iret rfl dX1_soonestDone_75 hq
theorem bX1_lookAhead_0 {d : Nat} {b : Nat × Nat} {bo : Bool} {im : XI} {Q : Option Value → XS → XI → Prop} {l1 : Int32}  (k : V mX1_lookAhead d b 2 [some (.ref 31), some (.int l1), some (.int (0 : Int32))] [] (SC bo) im Q) : V mX1_lookAhead d b 0 [some (.ref 31), some (.int l1), none] [] (SC bo) im Q := by
  refine V.iconst (v := 0) dX1_lookAhead_0 (by decide) ?_
  refine V.istore_n dX1_lookAhead_1 rfl rfl rfl ?_
  exact k
theorem bX1_lookAhead_2 {d : Nat} {b : Nat × Nat} {bo : Bool} {im : XI} {Q : Option Value → XS → XI → Prop} {l1 : Int32} {l2 : Int32}  (kt : l1 ≤ l2 → V mX1_lookAhead d b 41 [some (.ref 31), some (.int l1), some (.int l2)] [] (SC bo) im Q) (kf : ¬ l1 ≤ l2 → V mX1_lookAhead d b 7 [some (.ref 31), some (.int l1), some (.int l2)] [] (SC bo) im Q) : V mX1_lookAhead d b 2 [some (.ref 31), some (.int l1), some (.int l2)] [] (SC bo) im Q := by
  refine V.iload_n dX1_lookAhead_2 rfl rfl ?_
  refine V.iload_n dX1_lookAhead_3 rfl rfl ?_
  refine V.icmp_ge (tgt := 41) dX1_lookAhead_4 (by decide) (fun h => ?_) (fun h => ?_)
  · exact kt h
  · exact kf h
theorem bX1_lookAhead_7 {d : Nat} {b : Nat × Nat} {bo : Bool} {im : XI} {Q : Option Value → XS → XI → Prop} {l1 : Int32} {l2 : Int32}  (kt : (99 : Int32) ≤ l2 → V mX1_lookAhead d b 41 [some (.ref 31), some (.int l1), some (.int l2)] [] (SC bo) im Q) (kf : ¬ (99 : Int32) ≤ l2 → V mX1_lookAhead d b 13 [some (.ref 31), some (.int l1), some (.int l2)] [] (SC bo) im Q) : V mX1_lookAhead d b 7 [some (.ref 31), some (.int l1), some (.int l2)] [] (SC bo) im Q := by
  refine V.iload_n dX1_lookAhead_7 rfl rfl ?_
  refine V.bipush (v := 99) dX1_lookAhead_8 (by decide) ?_
  refine V.icmp_ge (tgt := 41) dX1_lookAhead_10 (by decide) (fun h => ?_) (fun h => ?_)
  · exact kt h
  · exact kf h
theorem bX1_lookAhead_13 {d : Nat} {b : Nat × Nat} {bo : Bool} {im : XI} {Q : Option Value → XS → XI → Prop} {l1 : Int32} {l2 : Int32} {P : Int32 → XI → Prop}  (hs : SpI mX2_shutSet d [.ref 1, .int ((im 1 8) + l2)] (SC bo) im P) (k : ∀ x2 im2, P x2 im2 → V mX1_lookAhead (d + 1) b 34 [some (.ref 31), some (.int l1), some (.int l2)] [.int x2, .int l2, .ref 32] (SC bo) im2 Q) : V mX1_lookAhead (d + 1) b 13 [some (.ref 31), some (.int l1), some (.int l2)] [] (SC bo) im Q := by
  refine V.aload_n dX1_lookAhead_13 rfl rfl ?_
  refine V.getR fX1_9 rfl (by rfl) (by rfl) dX1_lookAhead_14 ?_
  refine V.iload_n dX1_lookAhead_17 rfl rfl ?_
  refine V.aload_n dX1_lookAhead_18 rfl rfl ?_
  refine V.getR fX1_15 rfl (by rfl) (by rfl) dX1_lookAhead_19 ?_
  refine V.aload_n dX1_lookAhead_22 rfl rfl ?_
  refine V.getR fX1_15 rfl (by rfl) (by rfl) dX1_lookAhead_23 ?_
  refine V.getI fX1_25 rfl (by rfl) dX1_lookAhead_26 ?_
  refine V.iload_n dX1_lookAhead_29 rfl rfl ?_
  refine V.iadd dX1_lookAhead_30 ?_
  refine V.cVI rfl vX2_shutSet lkX1_30 wX2_shutSet (ci := 2) rfl (by rfl) (As := [.int ((im 1 8) + l2)]) rfl rfl rfl dX1_lookAhead_31 hs (fun x2 im2 h2 => ?_)
  exact k x2 im2 h2
theorem bX1_lookAhead_34 {d : Nat} {b : Nat × Nat} {bo : Bool} {im : XI} {Q : Option Value → XS → XI → Prop} {l1 : Int32} {l2 : Int32} {s0 : Nat} {s1 : Int32} {s2 : Int32} {n1 : Nat} {i2 : Nat} (g0 : XA (SC bo) s0 n1) (g1 : s1 = nI i2) (g2 : i2 < n1) (k : V mX1_lookAhead d b 2 [some (.ref 31), some (.int l1), some (.int (l2 + (1 : Int32)))] [] (SC bo) (xup im s0 i2 s2) Q) : V mX1_lookAhead d b 34 [some (.ref 31), some (.int l1), some (.int l2)] [.int s2, .int s1, .ref s0] (SC bo) im Q := by
  refine V.iast (i := i2) g0 g1 g2 dX1_lookAhead_34 ?_
  refine V.iinc (v := (l2 + (1 : Int32))) dX1_lookAhead_35 rfl rfl rfl ?_
  refine V.goto (tgt := 2) dX1_lookAhead_38 (by decide) ?_
  exact k
theorem bX1_lookAhead_41 {d : Nat} {b : Nat × Nat} {bo : Bool} {im : XI} {Q : Option Value → XS → XI → Prop} {l1 : Int32} {l2 : Int32}  (hq : Q none (SC bo) im) : V mX1_lookAhead d b 41 [some (.ref 31), some (.int l1), some (.int l2)] [] (SC bo) im Q := by
  exact V.vret rfl dX1_lookAhead_41 hq
theorem bX1_doneBehind_0 {d : Nat} {b : Nat × Nat} {bo : Bool} {im : XI} {Q : Option Value → XS → XI → Prop} {l1 : Nat} {l2 : Int32} {l3 : Int32} (g0 : (SC bo).1[l1]? = some (.inl 0)) (k : V mX1_doneBehind d b 9 [some (.ref 31), some (.ref l1), some (.int l2), some (.int l3), some (.int (im l1 1)), some (.int (0 : Int32))] [] (SC bo) im Q) : V mX1_doneBehind d b 0 [some (.ref 31), some (.ref l1), some (.int l2), some (.int l3), none, none] [] (SC bo) im Q := by
  refine V.aload_n dX1_doneBehind_0 rfl rfl ?_
  refine V.getI fX1_19 rfl g0 dX1_doneBehind_1 ?_
  refine V.istore dX1_doneBehind_4 rfl rfl ?_
  refine V.iconst (v := 0) dX1_doneBehind_6 (by decide) ?_
  refine V.istore dX1_doneBehind_7 rfl rfl ?_
  exact k
theorem bX1_doneBehind_9 {d : Nat} {b : Nat × Nat} {bo : Bool} {im : XI} {Q : Option Value → XS → XI → Prop} {l1 : Nat} {l2 : Int32} {l3 : Int32} {l4 : Int32} {l5 : Int32}  (kt : l3 ≤ l5 → V mX1_doneBehind d b 63 [some (.ref 31), some (.ref l1), some (.int l2), some (.int l3), some (.int l4), some (.int l5)] [] (SC bo) im Q) (kf : ¬ l3 ≤ l5 → V mX1_doneBehind d b 15 [some (.ref 31), some (.ref l1), some (.int l2), some (.int l3), some (.int l4), some (.int l5)] [] (SC bo) im Q) : V mX1_doneBehind d b 9 [some (.ref 31), some (.ref l1), some (.int l2), some (.int l3), some (.int l4), some (.int l5)] [] (SC bo) im Q := by
  refine V.iload dX1_doneBehind_9 rfl ?_
  refine V.iload_n dX1_doneBehind_11 rfl rfl ?_
  refine V.icmp_ge (tgt := 63) dX1_doneBehind_12 (by decide) (fun h => ?_) (fun h => ?_)
  · exact kt h
  · exact kf h
theorem bX1_doneBehind_15 {d : Nat} {b : Nat × Nat} {bo : Bool} {im : XI} {Q : Option Value → XS → XI → Prop} {l1 : Nat} {l2 : Int32} {l3 : Int32} {l4 : Int32} {l5 : Int32}  (kt : (99 : Int32) ≤ l5 → V mX1_doneBehind d b 63 [some (.ref 31), some (.ref l1), some (.int l2), some (.int l3), some (.int l4), some (.int l5)] [] (SC bo) im Q) (kf : ¬ (99 : Int32) ≤ l5 → V mX1_doneBehind d b 22 [some (.ref 31), some (.ref l1), some (.int l2), some (.int l3), some (.int l4), some (.int l5)] [] (SC bo) im Q) : V mX1_doneBehind d b 15 [some (.ref 31), some (.ref l1), some (.int l2), some (.int l3), some (.int l4), some (.int l5)] [] (SC bo) im Q := by
  refine V.iload dX1_doneBehind_15 rfl ?_
  refine V.bipush (v := 99) dX1_doneBehind_17 (by decide) ?_
  refine V.icmp_ge (tgt := 63) dX1_doneBehind_19 (by decide) (fun h => ?_) (fun h => ?_)
  · exact kt h
  · exact kf h
theorem bX1_doneBehind_22 {d : Nat} {b : Nat × Nat} {bo : Bool} {im : XI} {Q : Option Value → XS → XI → Prop} {l1 : Nat} {l2 : Int32} {l3 : Int32} {l4 : Int32} {l5 : Int32}  (kt : l4 ≤ 0 → V mX1_doneBehind d b 63 [some (.ref 31), some (.ref l1), some (.int l2), some (.int l3), some (.int l4), some (.int l5)] [] (SC bo) im Q) (kf : ¬ l4 ≤ 0 → V mX1_doneBehind d b 27 [some (.ref 31), some (.ref l1), some (.int l2), some (.int l3), some (.int l4), some (.int l5)] [] (SC bo) im Q) : V mX1_doneBehind d b 22 [some (.ref 31), some (.ref l1), some (.int l2), some (.int l3), some (.int l4), some (.int l5)] [] (SC bo) im Q := by
  refine V.iload dX1_doneBehind_22 rfl ?_
  refine V.if_le (tgt := 63) dX1_doneBehind_24 (by decide) (fun h => ?_) (fun h => ?_)
  · exact kt h
  · exact kf h
theorem bX1_doneBehind_27 {d : Nat} {b : Nat × Nat} {bo : Bool} {im : XI} {Q : Option Value → XS → XI → Prop} {l1 : Nat} {l2 : Int32} {l3 : Int32} {l4 : Int32} {l5 : Int32} {i1 : Nat} {P : Int32 → XI → Prop} (g0 : l5 = nI i1) (g1 : i1 < 99) (hs : SpI mX2_leftBehindTick d [.ref 1, .ref l1, .int l4, .int l2, .int (im 32 i1)] (SC bo) im P) (k : ∀ x2 im2, P x2 im2 → V mX1_doneBehind (d + 1) b 45 [some (.ref 31), some (.ref l1), some (.int l2), some (.int l3), some (.int l4), some (.int l5)] [.int x2] (SC bo) im2 Q) : V mX1_doneBehind (d + 1) b 27 [some (.ref 31), some (.ref l1), some (.int l2), some (.int l3), some (.int l4), some (.int l5)] [] (SC bo) im Q := by
  refine V.aload_n dX1_doneBehind_27 rfl rfl ?_
  refine V.getR fX1_15 rfl (by rfl) (by rfl) dX1_doneBehind_28 ?_
  refine V.aload_n dX1_doneBehind_31 rfl rfl ?_
  refine V.iload dX1_doneBehind_32 rfl ?_
  refine V.iload_n dX1_doneBehind_34 rfl rfl ?_
  refine V.aload_n dX1_doneBehind_35 rfl rfl ?_
  refine V.getR fX1_9 rfl (by rfl) (by rfl) dX1_doneBehind_36 ?_
  refine V.iload dX1_doneBehind_39 rfl ?_
  refine V.iald (i := i1) ⟨by rfl, by rfl⟩ g0 g1 dX1_doneBehind_41 ?_
  refine V.cVI rfl vX2_leftBehindTick lkX1_37 wX2_leftBehindTick (ci := 2) rfl (by rfl) (As := [.ref l1, .int l4, .int l2, .int (im 32 i1)]) rfl rfl rfl dX1_doneBehind_42 hs (fun x2 im2 h2 => ?_)
  exact k x2 im2 h2
theorem bX1_doneBehind_45 {d : Nat} {b : Nat × Nat} {bo : Bool} {im : XI} {Q : Option Value → XS → XI → Prop} {l1 : Nat} {l2 : Int32} {l3 : Int32} {l4 : Int32} {l5 : Int32} {s0 : Int32}  (kt : ¬ s0 = 0 → V mX1_doneBehind d b 57 [some (.ref 31), some (.ref l1), some (.int l2), some (.int l3), some (.int s0), some (.int l5)] [] (SC bo) im Q) (kf : s0 = 0 → V mX1_doneBehind d b 52 [some (.ref 31), some (.ref l1), some (.int l2), some (.int l3), some (.int s0), some (.int l5)] [] (SC bo) im Q) : V mX1_doneBehind d b 45 [some (.ref 31), some (.ref l1), some (.int l2), some (.int l3), some (.int l4), some (.int l5)] [.int s0] (SC bo) im Q := by
  refine V.istore dX1_doneBehind_45 rfl rfl ?_
  refine V.iload dX1_doneBehind_47 rfl ?_
  refine V.if_ne (tgt := 57) dX1_doneBehind_49 (by decide) (fun h => ?_) (fun h => ?_)
  · exact kt h
  · exact kf h
theorem bX1_doneBehind_52 {d : Nat} {b : Nat × Nat} {bo : Bool} {im : XI} {Q : Option Value → XS → XI → Prop} {l1 : Nat} {l2 : Int32} {l3 : Int32} {l4 : Int32} {l5 : Int32}  (hq : Q (some (.int (l5 + (1 : Int32)))) (SC bo) im) : V mX1_doneBehind d b 52 [some (.ref 31), some (.ref l1), some (.int l2), some (.int l3), some (.int l4), some (.int l5)] [] (SC bo) im Q := by
  refine V.iload dX1_doneBehind_52 rfl ?_
  refine V.iconst (v := 1) dX1_doneBehind_54 (by decide) ?_
  refine V.iadd dX1_doneBehind_55 ?_
  exact V.iret rfl dX1_doneBehind_56 hq
theorem bX1_doneBehind_57 {d : Nat} {b : Nat × Nat} {bo : Bool} {im : XI} {Q : Option Value → XS → XI → Prop} {l1 : Nat} {l2 : Int32} {l3 : Int32} {l4 : Int32} {l5 : Int32}  (k : V mX1_doneBehind d b 9 [some (.ref 31), some (.ref l1), some (.int l2), some (.int l3), some (.int l4), some (.int (l5 + (1 : Int32)))] [] (SC bo) im Q) : V mX1_doneBehind d b 57 [some (.ref 31), some (.ref l1), some (.int l2), some (.int l3), some (.int l4), some (.int l5)] [] (SC bo) im Q := by
  refine V.iinc (v := (l5 + (1 : Int32))) dX1_doneBehind_57 rfl rfl rfl ?_
  refine V.goto (tgt := 9) dX1_doneBehind_60 (by decide) ?_
  exact k
theorem bX1_doneBehind_63 {d : Nat} {b : Nat × Nat} {bo : Bool} {im : XI} {Q : Option Value → XS → XI → Prop} {l1 : Nat} {l2 : Int32} {l3 : Int32} {l4 : Int32} {l5 : Int32}  (kt : ¬ l4 = 0 → V mX1_doneBehind d b 72 [some (.ref 31), some (.ref l1), some (.int l2), some (.int l3), some (.int l4), some (.int l5)] [] (SC bo) im Q) (kf : l4 = 0 → V mX1_doneBehind d b 68 [some (.ref 31), some (.ref l1), some (.int l2), some (.int l3), some (.int l4), some (.int l5)] [] (SC bo) im Q) : V mX1_doneBehind d b 63 [some (.ref 31), some (.ref l1), some (.int l2), some (.int l3), some (.int l4), some (.int l5)] [] (SC bo) im Q := by
  refine V.iload dX1_doneBehind_63 rfl ?_
  refine V.if_ne (tgt := 72) dX1_doneBehind_65 (by decide) (fun h => ?_) (fun h => ?_)
  · exact kt h
  · exact kf h
theorem bX1_doneBehind_68 {d : Nat} {b : Nat × Nat} {bo : Bool} {im : XI} {Q : Option Value → XS → XI → Prop} {l1 : Nat} {l2 : Int32} {l3 : Int32} {l4 : Int32} {l5 : Int32}  (k : V mX1_doneBehind d b 73 [some (.ref 31), some (.ref l1), some (.int l2), some (.int l3), some (.int l4), some (.int l5)] [.int (0 : Int32)] (SC bo) im Q) : V mX1_doneBehind d b 68 [some (.ref 31), some (.ref l1), some (.int l2), some (.int l3), some (.int l4), some (.int l5)] [] (SC bo) im Q := by
  refine V.iconst (v := 0) dX1_doneBehind_68 (by decide) ?_
  refine V.goto (tgt := 73) dX1_doneBehind_69 (by decide) ?_
  exact k
theorem bX1_doneBehind_72 {d : Nat} {b : Nat × Nat} {bo : Bool} {im : XI} {Q : Option Value → XS → XI → Prop} {l1 : Nat} {l2 : Int32} {l3 : Int32} {l4 : Int32} {l5 : Int32}  (k : V mX1_doneBehind d b 73 [some (.ref 31), some (.ref l1), some (.int l2), some (.int l3), some (.int l4), some (.int l5)] [.int (-1 : Int32)] (SC bo) im Q) : V mX1_doneBehind d b 72 [some (.ref 31), some (.ref l1), some (.int l2), some (.int l3), some (.int l4), some (.int l5)] [] (SC bo) im Q := by
  refine V.iconst (v := -1) dX1_doneBehind_72 (by decide) ?_
  exact k
theorem bX1_doneBehind_73 {d : Nat} {b : Nat × Nat} {bo : Bool} {im : XI} {Q : Option Value → XS → XI → Prop} {l1 : Nat} {l2 : Int32} {l3 : Int32} {l4 : Int32} {l5 : Int32} {s0 : Int32}  (hq : Q (some (.int s0)) (SC bo) im) : V mX1_doneBehind d b 73 [some (.ref 31), some (.ref l1), some (.int l2), some (.int l3), some (.int l4), some (.int l5)] [.int s0] (SC bo) im Q := by
  exact V.iret rfl dX1_doneBehind_73 hq
theorem bX1_firstMoment_0 {d : Nat} {b : Nat × Nat} {bo : Bool} {im : XI} {Q : Option Value → XS → XI → Prop} {l1 : Int32}  (k : V mX1_firstMoment d b 2 [some (.ref 31), some (.int l1), some (.int (0 : Int32))] [] (SC bo) im Q) : V mX1_firstMoment d b 0 [some (.ref 31), some (.int l1), none] [] (SC bo) im Q := by
  refine V.iconst (v := 0) dX1_firstMoment_0 (by decide) ?_
  refine V.istore_n dX1_firstMoment_1 rfl rfl rfl ?_
  exact k
theorem bX1_firstMoment_2 {d : Nat} {b : Nat × Nat} {bo : Bool} {im : XI} {Q : Option Value → XS → XI → Prop} {l1 : Int32} {l2 : Int32}  (kt : (400 : Int32) < l2 → V mX1_firstMoment d b 37 [some (.ref 31), some (.int l1), some (.int l2)] [] (SC bo) im Q) (kf : ¬ (400 : Int32) < l2 → V mX1_firstMoment d b 9 [some (.ref 31), some (.int l1), some (.int l2)] [] (SC bo) im Q) : V mX1_firstMoment d b 2 [some (.ref 31), some (.int l1), some (.int l2)] [] (SC bo) im Q := by
  refine V.iload_n dX1_firstMoment_2 rfl rfl ?_
  refine V.sipush (v := 400) dX1_firstMoment_3 (by decide) ?_
  refine V.icmp_gt (tgt := 37) dX1_firstMoment_6 (by decide) (fun h => ?_) (fun h => ?_)
  · exact kt h
  · exact kf h
theorem bX1_firstMoment_9 {d : Nat} {b : Nat × Nat} {bo : Bool} {im : XI} {Q : Option Value → XS → XI → Prop} {l1 : Int32} {l2 : Int32} {P : Int32 → XI → Prop}  (hs : SpI mX2_isMoment d [.ref 1, .int l1, .int ((im 1 8) + l2)] (SC bo) im P) (k : ∀ x2 im2, P x2 im2 → V mX1_firstMoment (d + 1) b 26 [some (.ref 31), some (.int l1), some (.int l2)] [.int x2] (SC bo) im2 Q) : V mX1_firstMoment (d + 1) b 9 [some (.ref 31), some (.int l1), some (.int l2)] [] (SC bo) im Q := by
  refine V.aload_n dX1_firstMoment_9 rfl rfl ?_
  refine V.getR fX1_15 rfl (by rfl) (by rfl) dX1_firstMoment_10 ?_
  refine V.iload_n dX1_firstMoment_13 rfl rfl ?_
  refine V.aload_n dX1_firstMoment_14 rfl rfl ?_
  refine V.getR fX1_15 rfl (by rfl) (by rfl) dX1_firstMoment_15 ?_
  refine V.getI fX1_25 rfl (by rfl) dX1_firstMoment_18 ?_
  refine V.iload_n dX1_firstMoment_21 rfl rfl ?_
  refine V.iadd dX1_firstMoment_22 ?_
  refine V.cVI rfl vX2_isMoment lkX1_41 wX2_isMoment (ci := 2) rfl (by rfl) (As := [.int l1, .int ((im 1 8) + l2)]) rfl rfl rfl dX1_firstMoment_23 hs (fun x2 im2 h2 => ?_)
  exact k x2 im2 h2
theorem bX1_firstMoment_26 {d : Nat} {b : Nat × Nat} {bo : Bool} {im : XI} {Q : Option Value → XS → XI → Prop} {l1 : Int32} {l2 : Int32} {s0 : Int32}  (kt : s0 = 0 → V mX1_firstMoment d b 31 [some (.ref 31), some (.int l1), some (.int l2)] [] (SC bo) im Q) (kf : ¬ s0 = 0 → V mX1_firstMoment d b 29 [some (.ref 31), some (.int l1), some (.int l2)] [] (SC bo) im Q) : V mX1_firstMoment d b 26 [some (.ref 31), some (.int l1), some (.int l2)] [.int s0] (SC bo) im Q := by
  refine V.if_eq (tgt := 31) dX1_firstMoment_26 (by decide) (fun h => ?_) (fun h => ?_)
  · exact kt h
  · exact kf h
theorem bX1_firstMoment_29 {d : Nat} {b : Nat × Nat} {bo : Bool} {im : XI} {Q : Option Value → XS → XI → Prop} {l1 : Int32} {l2 : Int32}  (hq : Q (some (.int l2)) (SC bo) im) : V mX1_firstMoment d b 29 [some (.ref 31), some (.int l1), some (.int l2)] [] (SC bo) im Q := by
  refine V.iload_n dX1_firstMoment_29 rfl rfl ?_
  exact V.iret rfl dX1_firstMoment_30 hq
theorem bX1_firstMoment_31 {d : Nat} {b : Nat × Nat} {bo : Bool} {im : XI} {Q : Option Value → XS → XI → Prop} {l1 : Int32} {l2 : Int32}  (k : V mX1_firstMoment d b 2 [some (.ref 31), some (.int l1), some (.int (l2 + (1 : Int32)))] [] (SC bo) im Q) : V mX1_firstMoment d b 31 [some (.ref 31), some (.int l1), some (.int l2)] [] (SC bo) im Q := by
  refine V.iinc (v := (l2 + (1 : Int32))) dX1_firstMoment_31 rfl rfl rfl ?_
  refine V.goto (tgt := 2) dX1_firstMoment_34 (by decide) ?_
  exact k
theorem bX1_firstMoment_37 {d : Nat} {b : Nat × Nat} {bo : Bool} {im : XI} {Q : Option Value → XS → XI → Prop} {l1 : Int32} {l2 : Int32}  (hq : Q (some (.int (-1 : Int32))) (SC bo) im) : V mX1_firstMoment d b 37 [some (.ref 31), some (.int l1), some (.int l2)] [] (SC bo) im Q := by
  refine V.iconst (v := -1) dX1_firstMoment_37 (by decide) ?_
  exact V.iret rfl dX1_firstMoment_38 hq
theorem bX1_momentsAmong_0 {d : Nat} {b : Nat × Nat} {bo : Bool} {im : XI} {Q : Option Value → XS → XI → Prop} {l1 : Int32} {l2 : Int32}  (k : V mX1_momentsAmong d b 5 [some (.ref 31), some (.int l1), some (.int l2), some (.int (0 : Int32)), some (.int (0 : Int32))] [] (SC bo) im Q) : V mX1_momentsAmong d b 0 [some (.ref 31), some (.int l1), some (.int l2), none, none] [] (SC bo) im Q := by
  refine V.iconst (v := 0) dX1_momentsAmong_0 (by decide) ?_
  refine V.istore_n dX1_momentsAmong_1 rfl rfl rfl ?_
  refine V.iconst (v := 0) dX1_momentsAmong_2 (by decide) ?_
  refine V.istore dX1_momentsAmong_3 rfl rfl ?_
  exact k
theorem bX1_momentsAmong_5 {d : Nat} {b : Nat × Nat} {bo : Bool} {im : XI} {Q : Option Value → XS → XI → Prop} {l1 : Int32} {l2 : Int32} {l3 : Int32} {l4 : Int32}  (kt : l2 ≤ l4 → V mX1_momentsAmong d b 41 [some (.ref 31), some (.int l1), some (.int l2), some (.int l3), some (.int l4)] [] (SC bo) im Q) (kf : ¬ l2 ≤ l4 → V mX1_momentsAmong d b 11 [some (.ref 31), some (.int l1), some (.int l2), some (.int l3), some (.int l4)] [] (SC bo) im Q) : V mX1_momentsAmong d b 5 [some (.ref 31), some (.int l1), some (.int l2), some (.int l3), some (.int l4)] [] (SC bo) im Q := by
  refine V.iload dX1_momentsAmong_5 rfl ?_
  refine V.iload_n dX1_momentsAmong_7 rfl rfl ?_
  refine V.icmp_ge (tgt := 41) dX1_momentsAmong_8 (by decide) (fun h => ?_) (fun h => ?_)
  · exact kt h
  · exact kf h
theorem bX1_momentsAmong_11 {d : Nat} {b : Nat × Nat} {bo : Bool} {im : XI} {Q : Option Value → XS → XI → Prop} {l1 : Int32} {l2 : Int32} {l3 : Int32} {l4 : Int32} {P : Int32 → XI → Prop}  (hs : SpI mX2_isMoment d [.ref 1, .int l1, .int ((im 1 8) + l4)] (SC bo) im P) (k : ∀ x2 im2, P x2 im2 → V mX1_momentsAmong (d + 1) b 29 [some (.ref 31), some (.int l1), some (.int l2), some (.int l3), some (.int l4)] [.int x2] (SC bo) im2 Q) : V mX1_momentsAmong (d + 1) b 11 [some (.ref 31), some (.int l1), some (.int l2), some (.int l3), some (.int l4)] [] (SC bo) im Q := by
  refine V.aload_n dX1_momentsAmong_11 rfl rfl ?_
  refine V.getR fX1_15 rfl (by rfl) (by rfl) dX1_momentsAmong_12 ?_
  refine V.iload_n dX1_momentsAmong_15 rfl rfl ?_
  refine V.aload_n dX1_momentsAmong_16 rfl rfl ?_
  refine V.getR fX1_15 rfl (by rfl) (by rfl) dX1_momentsAmong_17 ?_
  refine V.getI fX1_25 rfl (by rfl) dX1_momentsAmong_20 ?_
  refine V.iload dX1_momentsAmong_23 rfl ?_
  refine V.iadd dX1_momentsAmong_25 ?_
  refine V.cVI rfl vX2_isMoment lkX1_41 wX2_isMoment (ci := 2) rfl (by rfl) (As := [.int l1, .int ((im 1 8) + l4)]) rfl rfl rfl dX1_momentsAmong_26 hs (fun x2 im2 h2 => ?_)
  exact k x2 im2 h2
theorem bX1_momentsAmong_29 {d : Nat} {b : Nat × Nat} {bo : Bool} {im : XI} {Q : Option Value → XS → XI → Prop} {l1 : Int32} {l2 : Int32} {l3 : Int32} {l4 : Int32} {s0 : Int32}  (kt : s0 = 0 → V mX1_momentsAmong d b 35 [some (.ref 31), some (.int l1), some (.int l2), some (.int l3), some (.int l4)] [] (SC bo) im Q) (kf : ¬ s0 = 0 → V mX1_momentsAmong d b 32 [some (.ref 31), some (.int l1), some (.int l2), some (.int l3), some (.int l4)] [] (SC bo) im Q) : V mX1_momentsAmong d b 29 [some (.ref 31), some (.int l1), some (.int l2), some (.int l3), some (.int l4)] [.int s0] (SC bo) im Q := by
  refine V.if_eq (tgt := 35) dX1_momentsAmong_29 (by decide) (fun h => ?_) (fun h => ?_)
  · exact kt h
  · exact kf h
theorem bX1_momentsAmong_32 {d : Nat} {b : Nat × Nat} {bo : Bool} {im : XI} {Q : Option Value → XS → XI → Prop} {l1 : Int32} {l2 : Int32} {l3 : Int32} {l4 : Int32}  (k : V mX1_momentsAmong d b 35 [some (.ref 31), some (.int l1), some (.int l2), some (.int (l3 + (1 : Int32))), some (.int l4)] [] (SC bo) im Q) : V mX1_momentsAmong d b 32 [some (.ref 31), some (.int l1), some (.int l2), some (.int l3), some (.int l4)] [] (SC bo) im Q := by
  refine V.iinc (v := (l3 + (1 : Int32))) dX1_momentsAmong_32 rfl rfl rfl ?_
  exact k
theorem bX1_momentsAmong_35 {d : Nat} {b : Nat × Nat} {bo : Bool} {im : XI} {Q : Option Value → XS → XI → Prop} {l1 : Int32} {l2 : Int32} {l3 : Int32} {l4 : Int32}  (k : V mX1_momentsAmong d b 5 [some (.ref 31), some (.int l1), some (.int l2), some (.int l3), some (.int (l4 + (1 : Int32)))] [] (SC bo) im Q) : V mX1_momentsAmong d b 35 [some (.ref 31), some (.int l1), some (.int l2), some (.int l3), some (.int l4)] [] (SC bo) im Q := by
  refine V.iinc (v := (l4 + (1 : Int32))) dX1_momentsAmong_35 rfl rfl rfl ?_
  refine V.goto (tgt := 5) dX1_momentsAmong_38 (by decide) ?_
  exact k
theorem bX1_momentsAmong_41 {d : Nat} {b : Nat × Nat} {bo : Bool} {im : XI} {Q : Option Value → XS → XI → Prop} {l1 : Int32} {l2 : Int32} {l3 : Int32} {l4 : Int32}  (hq : Q (some (.int l3)) (SC bo) im) : V mX1_momentsAmong d b 41 [some (.ref 31), some (.int l1), some (.int l2), some (.int l3), some (.int l4)] [] (SC bo) im Q := by
  refine V.iload_n dX1_momentsAmong_41 rfl rfl ?_
  exact V.iret rfl dX1_momentsAmong_42 hq
theorem bX1_fewestAway_0 {d : Nat} {b : Nat × Nat} {bo : Bool} {im : XI} {Q : Option Value → XS → XI → Prop} {l1 : Nat} {l2 : Int32} {P : XI → Prop}  (hs : SpV mX1_lookAhead d [.ref 31, .int l2] (SC bo) im P) (k : ∀ im2, P im2 → V mX1_fewestAway (d + 1) b 5 [some (.ref 31), some (.ref l1), some (.int l2), none, none, none] [] (SC bo) im2 Q) : V mX1_fewestAway (d + 1) b 0 [some (.ref 31), some (.ref l1), some (.int l2), none, none, none] [] (SC bo) im Q := by
  refine V.aload_n dX1_fewestAway_0 rfl rfl ?_
  refine V.iload_n dX1_fewestAway_1 rfl rfl ?_
  refine V.cVV rfl vX1_lookAhead lkX1_45 wX1_lookAhead (ci := 1) rfl (by rfl) (As := [.int l2]) rfl rfl rfl dX1_fewestAway_2 hs (fun im2 h2 => ?_)
  exact k im2 h2
theorem bX1_fewestAway_5 {d : Nat} {b : Nat × Nat} {bo : Bool} {im : XI} {Q : Option Value → XS → XI → Prop} {l1 : Nat} {l2 : Int32}  (k : V mX1_fewestAway d b 10 [some (.ref 31), some (.ref l1), some (.int l2), some (.int (-1 : Int32)), some (.int (0 : Int32)), none] [] (SC bo) im Q) : V mX1_fewestAway d b 5 [some (.ref 31), some (.ref l1), some (.int l2), none, none, none] [] (SC bo) im Q := by
  refine V.iconst (v := -1) dX1_fewestAway_5 (by decide) ?_
  refine V.istore_n dX1_fewestAway_6 rfl rfl rfl ?_
  refine V.iconst (v := 0) dX1_fewestAway_7 (by decide) ?_
  refine V.istore dX1_fewestAway_8 rfl rfl ?_
  exact k
theorem bX1_fewestAway_10 {d : Nat} {b : Nat × Nat} {bo : Bool} {im : XI} {Q : Option Value → XS → XI → Prop} {l1 : Nat} {l2 : Int32} {l3 : Int32} {l4 : Int32} (g0 : (SC bo).1[l1]? = some (.inl 0)) (kt : (im l1 2) < l4 → V mX1_fewestAway d b 86 [some (.ref 31), some (.ref l1), some (.int l2), some (.int l3), some (.int l4), none] [] (SC bo) im Q) (kf : ¬ (im l1 2) < l4 → V mX1_fewestAway d b 19 [some (.ref 31), some (.ref l1), some (.int l2), some (.int l3), some (.int l4), none] [] (SC bo) im Q) : V mX1_fewestAway d b 10 [some (.ref 31), some (.ref l1), some (.int l2), some (.int l3), some (.int l4), none] [] (SC bo) im Q := by
  refine V.iload dX1_fewestAway_10 rfl ?_
  refine V.aload_n dX1_fewestAway_12 rfl rfl ?_
  refine V.getI fX1_34 rfl g0 dX1_fewestAway_13 ?_
  refine V.icmp_gt (tgt := 86) dX1_fewestAway_16 (by decide) (fun h => ?_) (fun h => ?_)
  · exact kt h
  · exact kf h
theorem bX1_fewestAway_19 {d : Nat} {b : Nat × Nat} {bo : Bool} {im : XI} {Q : Option Value → XS → XI → Prop} {l1 : Nat} {l2 : Int32} {l3 : Int32} {l4 : Int32}  (kt : l3 < 0 → V mX1_fewestAway d b 35 [some (.ref 31), some (.ref l1), some (.int l2), some (.int l3), some (.int l4), none] [] (SC bo) im Q) (kf : ¬ l3 < 0 → V mX1_fewestAway d b 23 [some (.ref 31), some (.ref l1), some (.int l2), some (.int l3), some (.int l4), none] [] (SC bo) im Q) : V mX1_fewestAway d b 19 [some (.ref 31), some (.ref l1), some (.int l2), some (.int l3), some (.int l4), none] [] (SC bo) im Q := by
  refine V.iload_n dX1_fewestAway_19 rfl rfl ?_
  refine V.if_lt (tgt := 35) dX1_fewestAway_20 (by decide) (fun h => ?_) (fun h => ?_)
  · exact kt h
  · exact kf h
theorem bX1_fewestAway_23 {d : Nat} {b : Nat × Nat} {bo : Bool} {im : XI} {Q : Option Value → XS → XI → Prop} {l1 : Nat} {l2 : Int32} {l3 : Int32} {l4 : Int32} {P : Int32 → XI → Prop}  (hs : SpI mJ6_bitCount_0f7a4 d [.int l4] (SC bo) im P) (k : ∀ x2 im2, P x2 im2 → V mX1_fewestAway (d + 1) b 28 [some (.ref 31), some (.ref l1), some (.int l2), some (.int l3), some (.int l4), none] [.int x2] (SC bo) im2 Q) : V mX1_fewestAway (d + 1) b 23 [some (.ref 31), some (.ref l1), some (.int l2), some (.int l3), some (.int l4), none] [] (SC bo) im Q := by
  refine V.iload dX1_fewestAway_23 rfl ?_
  refine V.cSI rfl vJ6_bitCount_0f7a4 lkX1_49 sJ6_bitCount_0f7a4 (As := [.int l4]) rfl rfl rfl dX1_fewestAway_25 hs (fun x2 im2 h2 => ?_)
  exact k x2 im2 h2
theorem bX1_fewestAway_28 {d : Nat} {b : Nat × Nat} {bo : Bool} {im : XI} {Q : Option Value → XS → XI → Prop} {l1 : Nat} {l2 : Int32} {l3 : Int32} {l4 : Int32} {s0 : Int32} {P : Int32 → XI → Prop}  (hs : SpI mJ6_bitCount_0f7a4 d [.int l3] (SC bo) im P) (k : ∀ x2 im2, P x2 im2 → V mX1_fewestAway (d + 1) b 32 [some (.ref 31), some (.ref l1), some (.int l2), some (.int l3), some (.int l4), none] [.int x2, .int s0] (SC bo) im2 Q) : V mX1_fewestAway (d + 1) b 28 [some (.ref 31), some (.ref l1), some (.int l2), some (.int l3), some (.int l4), none] [.int s0] (SC bo) im Q := by
  refine V.iload_n dX1_fewestAway_28 rfl rfl ?_
  refine V.cSI rfl vJ6_bitCount_0f7a4 lkX1_49 sJ6_bitCount_0f7a4 (As := [.int l3]) rfl rfl rfl dX1_fewestAway_29 hs (fun x2 im2 h2 => ?_)
  exact k x2 im2 h2
theorem bX1_fewestAway_32 {d : Nat} {b : Nat × Nat} {bo : Bool} {im : XI} {Q : Option Value → XS → XI → Prop} {l1 : Nat} {l2 : Int32} {l3 : Int32} {l4 : Int32} {s0 : Int32} {s1 : Int32}  (kt : s1 ≤ s0 → V mX1_fewestAway d b 39 [some (.ref 31), some (.ref l1), some (.int l2), some (.int l3), some (.int l4), none] [] (SC bo) im Q) (kf : ¬ s1 ≤ s0 → V mX1_fewestAway d b 35 [some (.ref 31), some (.ref l1), some (.int l2), some (.int l3), some (.int l4), none] [] (SC bo) im Q) : V mX1_fewestAway d b 32 [some (.ref 31), some (.ref l1), some (.int l2), some (.int l3), some (.int l4), none] [.int s1, .int s0] (SC bo) im Q := by
  refine V.icmp_ge (tgt := 39) dX1_fewestAway_32 (by decide) (fun h => ?_) (fun h => ?_)
  · exact kt h
  · exact kf h
theorem bX1_fewestAway_35 {d : Nat} {b : Nat × Nat} {bo : Bool} {im : XI} {Q : Option Value → XS → XI → Prop} {l1 : Nat} {l2 : Int32} {l3 : Int32} {l4 : Int32}  (k : V mX1_fewestAway d b 40 [some (.ref 31), some (.ref l1), some (.int l2), some (.int l3), some (.int l4), none] [.int (1 : Int32)] (SC bo) im Q) : V mX1_fewestAway d b 35 [some (.ref 31), some (.ref l1), some (.int l2), some (.int l3), some (.int l4), none] [] (SC bo) im Q := by
  refine V.iconst (v := 1) dX1_fewestAway_35 (by decide) ?_
  refine V.goto (tgt := 40) dX1_fewestAway_36 (by decide) ?_
  exact k
theorem bX1_fewestAway_39 {d : Nat} {b : Nat × Nat} {bo : Bool} {im : XI} {Q : Option Value → XS → XI → Prop} {l1 : Nat} {l2 : Int32} {l3 : Int32} {l4 : Int32}  (k : V mX1_fewestAway d b 40 [some (.ref 31), some (.ref l1), some (.int l2), some (.int l3), some (.int l4), none] [.int (0 : Int32)] (SC bo) im Q) : V mX1_fewestAway d b 39 [some (.ref 31), some (.ref l1), some (.int l2), some (.int l3), some (.int l4), none] [] (SC bo) im Q := by
  refine V.iconst (v := 0) dX1_fewestAway_39 (by decide) ?_
  exact k
theorem bX1_fewestAway_40 {d : Nat} {b : Nat × Nat} {bo : Bool} {im : XI} {Q : Option Value → XS → XI → Prop} {l1 : Nat} {l2 : Int32} {l3 : Int32} {l4 : Int32} {s0 : Int32} (g0 : (SC bo).1[l1]? = some (.inl 0)) (kt : ¬ (l4 &&& ((im l1 2) ^^^ (-1 : Int32))) = 0 → V mX1_fewestAway d b 80 [some (.ref 31), some (.ref l1), some (.int l2), some (.int l3), some (.int l4), some (.int s0)] [] (SC bo) im Q) (kf : (l4 &&& ((im l1 2) ^^^ (-1 : Int32))) = 0 → V mX1_fewestAway d b 54 [some (.ref 31), some (.ref l1), some (.int l2), some (.int l3), some (.int l4), some (.int s0)] [] (SC bo) im Q) : V mX1_fewestAway d b 40 [some (.ref 31), some (.ref l1), some (.int l2), some (.int l3), some (.int l4), none] [.int s0] (SC bo) im Q := by
  refine V.istore dX1_fewestAway_40 rfl rfl ?_
  refine V.iload dX1_fewestAway_42 rfl ?_
  refine V.aload_n dX1_fewestAway_44 rfl rfl ?_
  refine V.getI fX1_34 rfl g0 dX1_fewestAway_45 ?_
  refine V.iconst (v := -1) dX1_fewestAway_48 (by decide) ?_
  refine V.ixor dX1_fewestAway_49 ?_
  refine V.iand dX1_fewestAway_50 ?_
  refine V.if_ne (tgt := 80) dX1_fewestAway_51 (by decide) (fun h => ?_) (fun h => ?_)
  · exact kt h
  · exact kf h
theorem bX1_fewestAway_54 {d : Nat} {b : Nat × Nat} {bo : Bool} {im : XI} {Q : Option Value → XS → XI → Prop} {l1 : Nat} {l2 : Int32} {l3 : Int32} {l4 : Int32} {l5 : Int32}  (kt : l5 = 0 → V mX1_fewestAway d b 80 [some (.ref 31), some (.ref l1), some (.int l2), some (.int l3), some (.int l4), some (.int l5)] [] (SC bo) im Q) (kf : ¬ l5 = 0 → V mX1_fewestAway d b 59 [some (.ref 31), some (.ref l1), some (.int l2), some (.int l3), some (.int l4), some (.int l5)] [] (SC bo) im Q) : V mX1_fewestAway d b 54 [some (.ref 31), some (.ref l1), some (.int l2), some (.int l3), some (.int l4), some (.int l5)] [] (SC bo) im Q := by
  refine V.iload dX1_fewestAway_54 rfl ?_
  refine V.if_eq (tgt := 80) dX1_fewestAway_56 (by decide) (fun h => ?_) (fun h => ?_)
  · exact kt h
  · exact kf h
theorem bX1_fewestAway_59 {d : Nat} {b : Nat × Nat} {bo : Bool} {im : XI} {Q : Option Value → XS → XI → Prop} {l1 : Nat} {l2 : Int32} {l3 : Int32} {l4 : Int32} {l5 : Int32} {P : Int32 → XI → Prop} (g0 : (SC bo).1[l1]? = some (.inl 0)) (hs : SpI mX1_doneBehind d [.ref 31, .ref l1, .int ((im l1 2) &&& (l4 ^^^ (-1 : Int32))), .int l2] (SC bo) im P) (k : ∀ x2 im2, P x2 im2 → V mX1_fewestAway (d + 1) b 74 [some (.ref 31), some (.ref l1), some (.int l2), some (.int l3), some (.int l4), some (.int l5)] [.int x2] (SC bo) im2 Q) : V mX1_fewestAway (d + 1) b 59 [some (.ref 31), some (.ref l1), some (.int l2), some (.int l3), some (.int l4), some (.int l5)] [] (SC bo) im Q := by
  refine V.aload_n dX1_fewestAway_59 rfl rfl ?_
  refine V.aload_n dX1_fewestAway_60 rfl rfl ?_
  refine V.aload_n dX1_fewestAway_61 rfl rfl ?_
  refine V.getI fX1_34 rfl g0 dX1_fewestAway_62 ?_
  refine V.iload dX1_fewestAway_65 rfl ?_
  refine V.iconst (v := -1) dX1_fewestAway_67 (by decide) ?_
  refine V.ixor dX1_fewestAway_68 ?_
  refine V.iand dX1_fewestAway_69 ?_
  refine V.iload_n dX1_fewestAway_70 rfl rfl ?_
  refine V.cVI rfl vX1_doneBehind lkX1_54 wX1_doneBehind (ci := 1) rfl (by rfl) (As := [.ref l1, .int ((im l1 2) &&& (l4 ^^^ (-1 : Int32))), .int l2]) rfl rfl rfl dX1_fewestAway_71 hs (fun x2 im2 h2 => ?_)
  exact k x2 im2 h2
theorem bX1_fewestAway_74 {d : Nat} {b : Nat × Nat} {bo : Bool} {im : XI} {Q : Option Value → XS → XI → Prop} {l1 : Nat} {l2 : Int32} {l3 : Int32} {l4 : Int32} {l5 : Int32} {s0 : Int32}  (kt : s0 < 0 → V mX1_fewestAway d b 80 [some (.ref 31), some (.ref l1), some (.int l2), some (.int l3), some (.int l4), some (.int l5)] [] (SC bo) im Q) (kf : ¬ s0 < 0 → V mX1_fewestAway d b 77 [some (.ref 31), some (.ref l1), some (.int l2), some (.int l3), some (.int l4), some (.int l5)] [] (SC bo) im Q) : V mX1_fewestAway d b 74 [some (.ref 31), some (.ref l1), some (.int l2), some (.int l3), some (.int l4), some (.int l5)] [.int s0] (SC bo) im Q := by
  refine V.if_lt (tgt := 80) dX1_fewestAway_74 (by decide) (fun h => ?_) (fun h => ?_)
  · exact kt h
  · exact kf h
theorem bX1_fewestAway_77 {d : Nat} {b : Nat × Nat} {bo : Bool} {im : XI} {Q : Option Value → XS → XI → Prop} {l1 : Nat} {l2 : Int32} {l3 : Int32} {l4 : Int32} {l5 : Int32}  (k : V mX1_fewestAway d b 80 [some (.ref 31), some (.ref l1), some (.int l2), some (.int l4), some (.int l4), some (.int l5)] [] (SC bo) im Q) : V mX1_fewestAway d b 77 [some (.ref 31), some (.ref l1), some (.int l2), some (.int l3), some (.int l4), some (.int l5)] [] (SC bo) im Q := by
  refine V.iload dX1_fewestAway_77 rfl ?_
  refine V.istore_n dX1_fewestAway_79 rfl rfl rfl ?_
  exact k
theorem bX1_fewestAway_80 {d : Nat} {b : Nat × Nat} {bo : Bool} {im : XI} {Q : Option Value → XS → XI → Prop} {l1 : Nat} {l2 : Int32} {l3 : Int32} {l4 : Int32} {l5 : Int32}  (k : V mX1_fewestAway d b 10 [some (.ref 31), some (.ref l1), some (.int l2), some (.int l3), some (.int (l4 + (1 : Int32))), none] [] (SC bo) im Q) : V mX1_fewestAway d b 80 [some (.ref 31), some (.ref l1), some (.int l2), some (.int l3), some (.int l4), some (.int l5)] [] (SC bo) im Q := by
  refine V.iinc (v := (l4 + (1 : Int32))) dX1_fewestAway_80 rfl rfl rfl ?_
  refine V.goto (tgt := 10) dX1_fewestAway_83 (by decide) ?_
  exact V.weakm [true, true, true, true, true, false] rfl (k)
theorem bX1_fewestAway_86 {d : Nat} {b : Nat × Nat} {bo : Bool} {im : XI} {Q : Option Value → XS → XI → Prop} {l1 : Nat} {l2 : Int32} {l3 : Int32} {l4 : Int32}  (hq : Q (some (.int l3)) (SC bo) im) : V mX1_fewestAway d b 86 [some (.ref 31), some (.ref l1), some (.int l2), some (.int l3), some (.int l4), none] [] (SC bo) im Q := by
  refine V.iload_n dX1_fewestAway_86 rfl rfl ?_
  exact V.iret rfl dX1_fewestAway_87 hq
theorem bX1_findPhase_0 {d : Nat} {b : Nat × Nat} {bo : Bool} {im : XI} {Q : Option Value → XS → XI → Prop} {l1 : Int32} {l2 : Nat} {P : Int32 → XI → Prop}  (hs : SpI mX2_hasPerson d [.ref 1, .int l1] (SC bo) im P) (k : ∀ x2 im2, P x2 im2 → V mX1_findPhase (d + 1) b 10 [some (.ref 31), some (.int l1), some (.ref l2), some (.int (0 : Int32)), none, none, none] [.int x2] (SC bo) im2 Q) : V mX1_findPhase (d + 1) b 0 [some (.ref 31), some (.int l1), some (.ref l2), none, none, none, none] [] (SC bo) im Q := by
  refine V.iconst (v := 0) dX1_findPhase_0 (by decide) ?_
  refine V.istore_n dX1_findPhase_1 rfl rfl rfl ?_
  refine V.aload_n dX1_findPhase_2 rfl rfl ?_
  refine V.getR fX1_15 rfl (by rfl) (by rfl) dX1_findPhase_3 ?_
  refine V.iload_n dX1_findPhase_6 rfl rfl ?_
  refine V.cVI rfl vX2_hasPerson lkX1_58 wX2_hasPerson (ci := 2) rfl (by rfl) (As := [.int l1]) rfl rfl rfl dX1_findPhase_7 hs (fun x2 im2 h2 => ?_)
  exact k x2 im2 h2
theorem bX1_findPhase_10 {d : Nat} {b : Nat × Nat} {bo : Bool} {im : XI} {Q : Option Value → XS → XI → Prop} {l1 : Int32} {l2 : Nat} {l3 : Int32} {s0 : Int32}  (kt : s0 = 0 → V mX1_findPhase d b 28 [some (.ref 31), some (.int l1), some (.ref l2), some (.int l3), none, none, none] [] (SC bo) im Q) (kf : ¬ s0 = 0 → V mX1_findPhase d b 13 [some (.ref 31), some (.int l1), some (.ref l2), some (.int l3), none, none, none] [] (SC bo) im Q) : V mX1_findPhase d b 10 [some (.ref 31), some (.int l1), some (.ref l2), some (.int l3), none, none, none] [.int s0] (SC bo) im Q := by
  refine V.if_eq (tgt := 28) dX1_findPhase_10 (by decide) (fun h => ?_) (fun h => ?_)
  · exact kt h
  · exact kf h
theorem bX1_findPhase_13 {d : Nat} {b : Nat × Nat} {bo : Bool} {im : XI} {Q : Option Value → XS → XI → Prop} {l1 : Int32} {l2 : Nat} {l3 : Int32} {i1 : Nat} (g0 : l1 = nI i1) (g1 : i1 < 6) (k : V mX1_findPhase d b 29 [some (.ref 31), some (.int l1), some (.ref l2), some (.int l3), none, none, none] [.int (im (16 + i1) 2)] (SC bo) im Q) : V mX1_findPhase d b 13 [some (.ref 31), some (.int l1), some (.ref l2), some (.int l3), none, none, none] [] (SC bo) im Q := by
  refine V.aload_n dX1_findPhase_13 rfl rfl ?_
  refine V.getR fX1_15 rfl (by rfl) (by rfl) dX1_findPhase_14 ?_
  refine V.getR fX1_62 rfl (by rfl) (by rfl) dX1_findPhase_17 ?_
  refine V.iload_n dX1_findPhase_20 rfl rfl ?_
  refine V.aald (i := i1) ⟨by rfl, by rfl, by rfl⟩ g0 g1 (xpeople g1) dX1_findPhase_21 ?_
  refine V.getI fX1_66 rfl (xperson g1) dX1_findPhase_22 ?_
  refine V.goto (tgt := 29) dX1_findPhase_25 (by decide) ?_
  exact k
theorem bX1_findPhase_28 {d : Nat} {b : Nat × Nat} {bo : Bool} {im : XI} {Q : Option Value → XS → XI → Prop} {l1 : Int32} {l2 : Nat} {l3 : Int32}  (k : V mX1_findPhase d b 29 [some (.ref 31), some (.int l1), some (.ref l2), some (.int l3), none, none, none] [.int (0 : Int32)] (SC bo) im Q) : V mX1_findPhase d b 28 [some (.ref 31), some (.int l1), some (.ref l2), some (.int l3), none, none, none] [] (SC bo) im Q := by
  refine V.iconst (v := 0) dX1_findPhase_28 (by decide) ?_
  exact k
theorem bX1_findPhase_29 {d : Nat} {b : Nat × Nat} {bo : Bool} {im : XI} {Q : Option Value → XS → XI → Prop} {l1 : Int32} {l2 : Nat} {l3 : Int32} {s0 : Int32} {P : XI → Prop}  (hs : SpV mX1_lookAhead d [.ref 31, .int (99 : Int32)] (SC bo) im P) (k : ∀ im2, P im2 → V mX1_findPhase (d + 1) b 37 [some (.ref 31), some (.int l1), some (.ref l2), some (.int l3), some (.int s0), none, none] [] (SC bo) im2 Q) : V mX1_findPhase (d + 1) b 29 [some (.ref 31), some (.int l1), some (.ref l2), some (.int l3), none, none, none] [.int s0] (SC bo) im Q := by
  refine V.istore dX1_findPhase_29 rfl rfl ?_
  refine V.aload_n dX1_findPhase_31 rfl rfl ?_
  refine V.bipush (v := 99) dX1_findPhase_32 (by decide) ?_
  refine V.cVV rfl vX1_lookAhead lkX1_45 wX1_lookAhead (ci := 1) rfl (by rfl) (As := [.int (99 : Int32)]) rfl rfl rfl dX1_findPhase_34 hs (fun im2 h2 => ?_)
  exact k im2 h2
theorem bX1_findPhase_37 {d : Nat} {b : Nat × Nat} {bo : Bool} {im : XI} {Q : Option Value → XS → XI → Prop} {l1 : Int32} {l2 : Nat} {l3 : Int32} {l4 : Int32}  (k : V mX1_findPhase d b 40 [some (.ref 31), some (.int l1), some (.ref l2), some (.int l3), some (.int l4), some (.int (0 : Int32)), none] [] (SC bo) im Q) : V mX1_findPhase d b 37 [some (.ref 31), some (.int l1), some (.ref l2), some (.int l3), some (.int l4), none, none] [] (SC bo) im Q := by
  refine V.iconst (v := 0) dX1_findPhase_37 (by decide) ?_
  refine V.istore dX1_findPhase_38 rfl rfl ?_
  exact k
theorem bX1_findPhase_40 {d : Nat} {b : Nat × Nat} {bo : Bool} {im : XI} {Q : Option Value → XS → XI → Prop} {l1 : Int32} {l2 : Nat} {l3 : Int32} {l4 : Int32} {l5 : Int32}  (kt : l4 ≤ l5 → V mX1_findPhase d b 107 [some (.ref 31), some (.int l1), some (.ref l2), some (.int l3), some (.int l4), some (.int l5), none] [] (SC bo) im Q) (kf : ¬ l4 ≤ l5 → V mX1_findPhase d b 47 [some (.ref 31), some (.int l1), some (.ref l2), some (.int l3), some (.int l4), some (.int l5), none] [] (SC bo) im Q) : V mX1_findPhase d b 40 [some (.ref 31), some (.int l1), some (.ref l2), some (.int l3), some (.int l4), some (.int l5), none] [] (SC bo) im Q := by
  refine V.iload dX1_findPhase_40 rfl ?_
  refine V.iload dX1_findPhase_42 rfl ?_
  refine V.icmp_ge (tgt := 107) dX1_findPhase_44 (by decide) (fun h => ?_) (fun h => ?_)
  · exact kt h
  · exact kf h
theorem bX1_findPhase_47 {d : Nat} {b : Nat × Nat} {bo : Bool} {im : XI} {Q : Option Value → XS → XI → Prop} {l1 : Int32} {l2 : Nat} {l3 : Int32} {l4 : Int32} {l5 : Int32} {P : XI → Prop}  (hs : SpV mX1_tryPhase d [.ref 31, .int l1, .int l4, .int l5] (SC bo) im P) (k : ∀ im2, P im2 → V mX1_findPhase (d + 1) b 56 [some (.ref 31), some (.int l1), some (.ref l2), some (.int l3), some (.int l4), some (.int l5), none] [] (SC bo) im2 Q) : V mX1_findPhase (d + 1) b 47 [some (.ref 31), some (.int l1), some (.ref l2), some (.int l3), some (.int l4), some (.int l5), none] [] (SC bo) im Q := by
  refine V.aload_n dX1_findPhase_47 rfl rfl ?_
  refine V.iload_n dX1_findPhase_48 rfl rfl ?_
  refine V.iload dX1_findPhase_49 rfl ?_
  refine V.iload dX1_findPhase_51 rfl ?_
  refine V.cVV rfl vX1_tryPhase lkX1_71 wX1_tryPhase (ci := 1) rfl (by rfl) (As := [.int l1, .int l4, .int l5]) rfl rfl rfl dX1_findPhase_53 hs (fun im2 h2 => ?_)
  exact k im2 h2
theorem bX1_findPhase_56 {d : Nat} {b : Nat × Nat} {bo : Bool} {im : XI} {Q : Option Value → XS → XI → Prop} {l1 : Int32} {l2 : Nat} {l3 : Int32} {l4 : Int32} {l5 : Int32} {P : Int32 → XI → Prop} (g0 : (SC bo).1[l2]? = some (.inl 0)) (hs : SpI mX1_doneBehind d [.ref 31, .ref l2, .int (im l2 2), .int (99 : Int32)] (SC bo) im P) (k : ∀ x2 im2, P x2 im2 → V mX1_findPhase (d + 1) b 67 [some (.ref 31), some (.int l1), some (.ref l2), some (.int l3), some (.int l4), some (.int l5), none] [.int x2] (SC bo) im2 Q) : V mX1_findPhase (d + 1) b 56 [some (.ref 31), some (.int l1), some (.ref l2), some (.int l3), some (.int l4), some (.int l5), none] [] (SC bo) im Q := by
  refine V.aload_n dX1_findPhase_56 rfl rfl ?_
  refine V.aload_n dX1_findPhase_57 rfl rfl ?_
  refine V.aload_n dX1_findPhase_58 rfl rfl ?_
  refine V.getI fX1_34 rfl g0 dX1_findPhase_59 ?_
  refine V.bipush (v := 99) dX1_findPhase_62 (by decide) ?_
  refine V.cVI rfl vX1_doneBehind lkX1_54 wX1_doneBehind (ci := 1) rfl (by rfl) (As := [.ref l2, .int (im l2 2), .int (99 : Int32)]) rfl rfl rfl dX1_findPhase_64 hs (fun x2 im2 h2 => ?_)
  exact k x2 im2 h2
theorem bX1_findPhase_67 {d : Nat} {b : Nat × Nat} {bo : Bool} {im : XI} {Q : Option Value → XS → XI → Prop} {l1 : Int32} {l2 : Nat} {l3 : Int32} {l4 : Int32} {l5 : Int32} {s0 : Int32}  (kt : s0 < 0 → V mX1_findPhase d b 101 [some (.ref 31), some (.int l1), some (.ref l2), some (.int l3), some (.int l4), some (.int l5), some (.int s0)] [] (SC bo) im Q) (kf : ¬ s0 < 0 → V mX1_findPhase d b 74 [some (.ref 31), some (.int l1), some (.ref l2), some (.int l3), some (.int l4), some (.int l5), some (.int s0)] [] (SC bo) im Q) : V mX1_findPhase d b 67 [some (.ref 31), some (.int l1), some (.ref l2), some (.int l3), some (.int l4), some (.int l5), none] [.int s0] (SC bo) im Q := by
  refine V.istore dX1_findPhase_67 rfl rfl ?_
  refine V.iload dX1_findPhase_69 rfl ?_
  refine V.if_lt (tgt := 101) dX1_findPhase_71 (by decide) (fun h => ?_) (fun h => ?_)
  · exact kt h
  · exact kf h
theorem bX1_findPhase_74 {d : Nat} {b : Nat × Nat} {bo : Bool} {im : XI} {Q : Option Value → XS → XI → Prop} {l1 : Int32} {l2 : Nat} {l3 : Int32} {l4 : Int32} {l5 : Int32} {l6 : Int32}  (kt : l3 = 0 → V mX1_findPhase d b 87 [some (.ref 31), some (.int l1), some (.ref l2), some (.int l3), some (.int l4), some (.int l5), some (.int l6)] [] (SC bo) im Q) (kf : ¬ l3 = 0 → V mX1_findPhase d b 78 [some (.ref 31), some (.int l1), some (.ref l2), some (.int l3), some (.int l4), some (.int l5), some (.int l6)] [] (SC bo) im Q) : V mX1_findPhase d b 74 [some (.ref 31), some (.int l1), some (.ref l2), some (.int l3), some (.int l4), some (.int l5), some (.int l6)] [] (SC bo) im Q := by
  refine V.iload_n dX1_findPhase_74 rfl rfl ?_
  refine V.if_eq (tgt := 87) dX1_findPhase_75 (by decide) (fun h => ?_) (fun h => ?_)
  · exact kt h
  · exact kf h
theorem bX1_findPhase_78 {d : Nat} {b : Nat × Nat} {bo : Bool} {im : XI} {Q : Option Value → XS → XI → Prop} {l1 : Int32} {l2 : Nat} {l3 : Int32} {l4 : Int32} {l5 : Int32} {l6 : Int32}  (kt : (im 31 3) ≤ l6 → V mX1_findPhase d b 101 [some (.ref 31), some (.int l1), some (.ref l2), some (.int l3), some (.int l4), some (.int l5), some (.int l6)] [] (SC bo) im Q) (kf : ¬ (im 31 3) ≤ l6 → V mX1_findPhase d b 87 [some (.ref 31), some (.int l1), some (.ref l2), some (.int l3), some (.int l4), some (.int l5), some (.int l6)] [] (SC bo) im Q) : V mX1_findPhase d b 78 [some (.ref 31), some (.int l1), some (.ref l2), some (.int l3), some (.int l4), some (.int l5), some (.int l6)] [] (SC bo) im Q := by
  refine V.iload dX1_findPhase_78 rfl ?_
  refine V.aload_n dX1_findPhase_80 rfl rfl ?_
  refine V.getI fX1_75 rfl (by rfl) dX1_findPhase_81 ?_
  refine V.icmp_ge (tgt := 101) dX1_findPhase_84 (by decide) (fun h => ?_) (fun h => ?_)
  · exact kt h
  · exact kf h
theorem bX1_findPhase_87 {d : Nat} {b : Nat × Nat} {bo : Bool} {im : XI} {Q : Option Value → XS → XI → Prop} {l1 : Int32} {l2 : Nat} {l3 : Int32} {l4 : Int32} {l5 : Int32} {l6 : Int32}  (k : V mX1_findPhase d b 101 [some (.ref 31), some (.int l1), some (.ref l2), some (.int (1 : Int32)), some (.int l4), some (.int l5), some (.int l6)] [] (SC bo) (xup (xup im 31 2 l5) 31 3 l6) Q) : V mX1_findPhase d b 87 [some (.ref 31), some (.int l1), some (.ref l2), some (.int l3), some (.int l4), some (.int l5), some (.int l6)] [] (SC bo) im Q := by
  refine V.iconst (v := 1) dX1_findPhase_87 (by decide) ?_
  refine V.istore_n dX1_findPhase_88 rfl rfl rfl ?_
  refine V.aload_n dX1_findPhase_89 rfl rfl ?_
  refine V.iload dX1_findPhase_90 rfl ?_
  refine V.putI fX1_78 (fun h => by cases h) rfl (by rfl) dX1_findPhase_92 ?_
  refine V.aload_n dX1_findPhase_95 rfl rfl ?_
  refine V.iload dX1_findPhase_96 rfl ?_
  refine V.putI fX1_75 (fun h => by cases h) rfl (by rfl) dX1_findPhase_98 ?_
  exact k
theorem bX1_findPhase_101 {d : Nat} {b : Nat × Nat} {bo : Bool} {im : XI} {Q : Option Value → XS → XI → Prop} {l1 : Int32} {l2 : Nat} {l3 : Int32} {l4 : Int32} {l5 : Int32} {l6 : Int32}  (k : V mX1_findPhase d b 40 [some (.ref 31), some (.int l1), some (.ref l2), some (.int l3), some (.int l4), some (.int (l5 + (1 : Int32))), none] [] (SC bo) im Q) : V mX1_findPhase d b 101 [some (.ref 31), some (.int l1), some (.ref l2), some (.int l3), some (.int l4), some (.int l5), some (.int l6)] [] (SC bo) im Q := by
  refine V.iinc (v := (l5 + (1 : Int32))) dX1_findPhase_101 rfl rfl rfl ?_
  refine V.goto (tgt := 40) dX1_findPhase_104 (by decide) ?_
  exact V.weakm [true, true, true, true, true, true, false] rfl (k)
theorem bX1_findPhase_107 {d : Nat} {b : Nat × Nat} {bo : Bool} {im : XI} {Q : Option Value → XS → XI → Prop} {l1 : Int32} {l2 : Nat} {l3 : Int32} {l4 : Int32} {l5 : Int32} (g0 : l3 = 0 ∨ l3 = 1) (hq : Q (some (.int l3)) (SC bo) im) : V mX1_findPhase d b 107 [some (.ref 31), some (.int l1), some (.ref l2), some (.int l3), some (.int l4), some (.int l5), none] [] (SC bo) im Q := by
  refine V.iload_n dX1_findPhase_107 rfl rfl ?_
  exact V.zret rfl g0 dX1_findPhase_108 hq
theorem bX1_tryPhase_0 {d : Nat} {b : Nat × Nat} {bo : Bool} {im : XI} {Q : Option Value → XS → XI → Prop} {l1 : Int32} {l2 : Int32} {l3 : Int32}  (k : V mX1_tryPhase d b 8 [some (.ref 31), some (.int l1), some (.int l2), some (.int l3), some (.int ((1 : Int32) <<< (l1 &&& 31))), some (.int (0 : Int32)), none] [] (SC bo) im Q) : V mX1_tryPhase d b 0 [some (.ref 31), some (.int l1), some (.int l2), some (.int l3), none, none, none] [] (SC bo) im Q := by
  refine V.iconst (v := 1) dX1_tryPhase_0 (by decide) ?_
  refine V.iload_n dX1_tryPhase_1 rfl rfl ?_
  refine V.ishl dX1_tryPhase_2 ?_
  refine V.istore dX1_tryPhase_3 rfl rfl ?_
  refine V.iconst (v := 0) dX1_tryPhase_5 (by decide) ?_
  refine V.istore dX1_tryPhase_6 rfl rfl ?_
  exact k
theorem bX1_tryPhase_8 {d : Nat} {b : Nat × Nat} {bo : Bool} {im : XI} {Q : Option Value → XS → XI → Prop} {l1 : Int32} {l2 : Int32} {l3 : Int32} {l4 : Int32} {l5 : Int32}  (kt : (99 : Int32) ≤ l5 → V mX1_tryPhase d b 80 [some (.ref 31), some (.int l1), some (.int l2), some (.int l3), some (.int l4), some (.int l5), none] [] (SC bo) im Q) (kf : ¬ (99 : Int32) ≤ l5 → V mX1_tryPhase d b 15 [some (.ref 31), some (.int l1), some (.int l2), some (.int l3), some (.int l4), some (.int l5), none] [] (SC bo) im Q) : V mX1_tryPhase d b 8 [some (.ref 31), some (.int l1), some (.int l2), some (.int l3), some (.int l4), some (.int l5), none] [] (SC bo) im Q := by
  refine V.iload dX1_tryPhase_8 rfl ?_
  refine V.bipush (v := 99) dX1_tryPhase_10 (by decide) ?_
  refine V.icmp_ge (tgt := 80) dX1_tryPhase_12 (by decide) (fun h => ?_) (fun h => ?_)
  · exact kt h
  · exact kf h
theorem bX1_tryPhase_15 {d : Nat} {b : Nat × Nat} {bo : Bool} {im : XI} {Q : Option Value → XS → XI → Prop} {l1 : Int32} {l2 : Int32} {l3 : Int32} {l4 : Int32} {l5 : Int32} {P : Int32 → XI → Prop}  (hs : SpI mX2_isShutBy d [.ref 1, .int l1, .int ((im 1 8) + l5), .int l2, .int l3] (SC bo) im P) (k : ∀ x2 im2, P x2 im2 → V mX1_tryPhase (d + 1) b 35 [some (.ref 31), some (.int l1), some (.int l2), some (.int l3), some (.int l4), some (.int l5), none] [.int x2] (SC bo) im2 Q) : V mX1_tryPhase (d + 1) b 15 [some (.ref 31), some (.int l1), some (.int l2), some (.int l3), some (.int l4), some (.int l5), none] [] (SC bo) im Q := by
  refine V.aload_n dX1_tryPhase_15 rfl rfl ?_
  refine V.getR fX1_15 rfl (by rfl) (by rfl) dX1_tryPhase_16 ?_
  refine V.iload_n dX1_tryPhase_19 rfl rfl ?_
  refine V.aload_n dX1_tryPhase_20 rfl rfl ?_
  refine V.getR fX1_15 rfl (by rfl) (by rfl) dX1_tryPhase_21 ?_
  refine V.getI fX1_25 rfl (by rfl) dX1_tryPhase_24 ?_
  refine V.iload dX1_tryPhase_27 rfl ?_
  refine V.iadd dX1_tryPhase_29 ?_
  refine V.iload_n dX1_tryPhase_30 rfl rfl ?_
  refine V.iload_n dX1_tryPhase_31 rfl rfl ?_
  refine V.cVI rfl vX2_isShutBy lkX1_81 wX2_isShutBy (ci := 2) rfl (by rfl) (As := [.int l1, .int ((im 1 8) + l5), .int l2, .int l3]) rfl rfl rfl dX1_tryPhase_32 hs (fun x2 im2 h2 => ?_)
  exact k x2 im2 h2
theorem bX1_tryPhase_35 {d : Nat} {b : Nat × Nat} {bo : Bool} {im : XI} {Q : Option Value → XS → XI → Prop} {l1 : Int32} {l2 : Int32} {l3 : Int32} {l4 : Int32} {l5 : Int32} {s0 : Int32}  (kt : s0 = 0 → V mX1_tryPhase d b 61 [some (.ref 31), some (.int l1), some (.int l2), some (.int l3), some (.int l4), some (.int l5), some (.int s0)] [.int l5, .ref 32] (SC bo) im Q) (kf : ¬ s0 = 0 → V mX1_tryPhase d b 48 [some (.ref 31), some (.int l1), some (.int l2), some (.int l3), some (.int l4), some (.int l5), some (.int s0)] [.int l5, .ref 32] (SC bo) im Q) : V mX1_tryPhase d b 35 [some (.ref 31), some (.int l1), some (.int l2), some (.int l3), some (.int l4), some (.int l5), none] [.int s0] (SC bo) im Q := by
  refine V.istore dX1_tryPhase_35 rfl rfl ?_
  refine V.aload_n dX1_tryPhase_37 rfl rfl ?_
  refine V.getR fX1_9 rfl (by rfl) (by rfl) dX1_tryPhase_38 ?_
  refine V.iload dX1_tryPhase_41 rfl ?_
  refine V.iload dX1_tryPhase_43 rfl ?_
  refine V.if_eq (tgt := 61) dX1_tryPhase_45 (by decide) (fun h => ?_) (fun h => ?_)
  · exact kt h
  · exact kf h
theorem bX1_tryPhase_48 {d : Nat} {b : Nat × Nat} {bo : Bool} {im : XI} {Q : Option Value → XS → XI → Prop} {l1 : Int32} {l2 : Int32} {l3 : Int32} {l4 : Int32} {l5 : Int32} {l6 : Int32} {s0 : Nat} {s1 : Int32} {i1 : Nat} (g0 : l5 = nI i1) (g1 : i1 < 99) (k : V mX1_tryPhase d b 73 [some (.ref 31), some (.int l1), some (.int l2), some (.int l3), some (.int l4), some (.int l5), some (.int l6)] [.int ((im 32 i1) ||| l4), .int s1, .ref s0] (SC bo) im Q) : V mX1_tryPhase d b 48 [some (.ref 31), some (.int l1), some (.int l2), some (.int l3), some (.int l4), some (.int l5), some (.int l6)] [.int s1, .ref s0] (SC bo) im Q := by
  refine V.aload_n dX1_tryPhase_48 rfl rfl ?_
  refine V.getR fX1_9 rfl (by rfl) (by rfl) dX1_tryPhase_49 ?_
  refine V.iload dX1_tryPhase_52 rfl ?_
  refine V.iald (i := i1) ⟨by rfl, by rfl⟩ g0 g1 dX1_tryPhase_54 ?_
  refine V.iload dX1_tryPhase_55 rfl ?_
  refine V.ior dX1_tryPhase_57 ?_
  refine V.goto (tgt := 73) dX1_tryPhase_58 (by decide) ?_
  exact k
theorem bX1_tryPhase_61 {d : Nat} {b : Nat × Nat} {bo : Bool} {im : XI} {Q : Option Value → XS → XI → Prop} {l1 : Int32} {l2 : Int32} {l3 : Int32} {l4 : Int32} {l5 : Int32} {l6 : Int32} {s0 : Nat} {s1 : Int32} {i1 : Nat} (g0 : l5 = nI i1) (g1 : i1 < 99) (k : V mX1_tryPhase d b 73 [some (.ref 31), some (.int l1), some (.int l2), some (.int l3), some (.int l4), some (.int l5), some (.int l6)] [.int ((im 32 i1) &&& (l4 ^^^ (-1 : Int32))), .int s1, .ref s0] (SC bo) im Q) : V mX1_tryPhase d b 61 [some (.ref 31), some (.int l1), some (.int l2), some (.int l3), some (.int l4), some (.int l5), some (.int l6)] [.int s1, .ref s0] (SC bo) im Q := by
  refine V.aload_n dX1_tryPhase_61 rfl rfl ?_
  refine V.getR fX1_9 rfl (by rfl) (by rfl) dX1_tryPhase_62 ?_
  refine V.iload dX1_tryPhase_65 rfl ?_
  refine V.iald (i := i1) ⟨by rfl, by rfl⟩ g0 g1 dX1_tryPhase_67 ?_
  refine V.iload dX1_tryPhase_68 rfl ?_
  refine V.iconst (v := -1) dX1_tryPhase_70 (by decide) ?_
  refine V.ixor dX1_tryPhase_71 ?_
  refine V.iand dX1_tryPhase_72 ?_
  exact k
theorem bX1_tryPhase_73 {d : Nat} {b : Nat × Nat} {bo : Bool} {im : XI} {Q : Option Value → XS → XI → Prop} {l1 : Int32} {l2 : Int32} {l3 : Int32} {l4 : Int32} {l5 : Int32} {l6 : Int32} {s0 : Nat} {s1 : Int32} {s2 : Int32} {n1 : Nat} {i2 : Nat} (g0 : XA (SC bo) s0 n1) (g1 : s1 = nI i2) (g2 : i2 < n1) (k : V mX1_tryPhase d b 8 [some (.ref 31), some (.int l1), some (.int l2), some (.int l3), some (.int l4), some (.int (l5 + (1 : Int32))), none] [] (SC bo) (xup im s0 i2 s2) Q) : V mX1_tryPhase d b 73 [some (.ref 31), some (.int l1), some (.int l2), some (.int l3), some (.int l4), some (.int l5), some (.int l6)] [.int s2, .int s1, .ref s0] (SC bo) im Q := by
  refine V.iast (i := i2) g0 g1 g2 dX1_tryPhase_73 ?_
  refine V.iinc (v := (l5 + (1 : Int32))) dX1_tryPhase_74 rfl rfl rfl ?_
  refine V.goto (tgt := 8) dX1_tryPhase_77 (by decide) ?_
  exact V.weakm [true, true, true, true, true, true, false] rfl (k)
theorem bX1_tryPhase_80 {d : Nat} {b : Nat × Nat} {bo : Bool} {im : XI} {Q : Option Value → XS → XI → Prop} {l1 : Int32} {l2 : Int32} {l3 : Int32} {l4 : Int32} {l5 : Int32}  (hq : Q none (SC bo) im) : V mX1_tryPhase d b 80 [some (.ref 31), some (.int l1), some (.int l2), some (.int l3), some (.int l4), some (.int l5), none] [] (SC bo) im Q := by
  exact V.vret rfl dX1_tryPhase_80 hq
theorem bX1_findFits_0 {d : Nat} {b : Nat × Nat} {bo : Bool} {im : XI} {Q : Option Value → XS → XI → Prop} {l1 : Int32} {l2 : Nat}  (k : V mX1_findFits d b 12 [some (.ref 31), some (.int l1), some (.ref l2), some (.int (1 : Int32)), none] [] (SC bo) (xup (xup im 31 4 (0 : Int32)) 31 5 (0 : Int32)) Q) : V mX1_findFits d b 0 [some (.ref 31), some (.int l1), some (.ref l2), none, none] [] (SC bo) im Q := by
  refine V.aload_n dX1_findFits_0 rfl rfl ?_
  refine V.iconst (v := 0) dX1_findFits_1 (by decide) ?_
  refine V.putI fX1_85 (fun h => by cases h) rfl (by rfl) dX1_findFits_2 ?_
  refine V.aload_n dX1_findFits_5 rfl rfl ?_
  refine V.iconst (v := 0) dX1_findFits_6 (by decide) ?_
  refine V.putI fX1_88 (fun h => by cases h) rfl (by rfl) dX1_findFits_7 ?_
  refine V.iconst (v := 1) dX1_findFits_10 (by decide) ?_
  refine V.istore_n dX1_findFits_11 rfl rfl rfl ?_
  exact k
theorem bX1_findFits_12 {d : Nat} {b : Nat × Nat} {bo : Bool} {im : XI} {Q : Option Value → XS → XI → Prop} {l1 : Int32} {l2 : Nat} {l3 : Int32}  (kt : (12 : Int32) < l3 → V mX1_findFits d b 86 [some (.ref 31), some (.int l1), some (.ref l2), some (.int l3), none] [] (SC bo) im Q) (kf : ¬ (12 : Int32) < l3 → V mX1_findFits d b 18 [some (.ref 31), some (.int l1), some (.ref l2), some (.int l3), none] [] (SC bo) im Q) : V mX1_findFits d b 12 [some (.ref 31), some (.int l1), some (.ref l2), some (.int l3), none] [] (SC bo) im Q := by
  refine V.iload_n dX1_findFits_12 rfl rfl ?_
  refine V.bipush (v := 12) dX1_findFits_13 (by decide) ?_
  refine V.icmp_gt (tgt := 86) dX1_findFits_15 (by decide) (fun h => ?_) (fun h => ?_)
  · exact kt h
  · exact kf h
theorem bX1_findFits_18 {d : Nat} {b : Nat × Nat} {bo : Bool} {im : XI} {Q : Option Value → XS → XI → Prop} {l1 : Int32} {l2 : Nat} {l3 : Int32}  (k : V mX1_findFits d b 21 [some (.ref 31), some (.int l1), some (.ref l2), some (.int l3), some (.int (0 : Int32))] [] (SC bo) im Q) : V mX1_findFits d b 18 [some (.ref 31), some (.int l1), some (.ref l2), some (.int l3), none] [] (SC bo) im Q := by
  refine V.iconst (v := 0) dX1_findFits_18 (by decide) ?_
  refine V.istore dX1_findFits_19 rfl rfl ?_
  exact k
theorem bX1_findFits_21 {d : Nat} {b : Nat × Nat} {bo : Bool} {im : XI} {Q : Option Value → XS → XI → Prop} {l1 : Int32} {l2 : Nat} {l3 : Int32} {l4 : Int32}  (kt : l3 ≤ l4 → V mX1_findFits d b 80 [some (.ref 31), some (.int l1), some (.ref l2), some (.int l3), some (.int l4)] [] (SC bo) im Q) (kf : ¬ l3 ≤ l4 → V mX1_findFits d b 27 [some (.ref 31), some (.int l1), some (.ref l2), some (.int l3), some (.int l4)] [] (SC bo) im Q) : V mX1_findFits d b 21 [some (.ref 31), some (.int l1), some (.ref l2), some (.int l3), some (.int l4)] [] (SC bo) im Q := by
  refine V.iload dX1_findFits_21 rfl ?_
  refine V.iload_n dX1_findFits_23 rfl rfl ?_
  refine V.icmp_ge (tgt := 80) dX1_findFits_24 (by decide) (fun h => ?_) (fun h => ?_)
  · exact kt h
  · exact kf h
theorem bX1_findFits_27 {d : Nat} {b : Nat × Nat} {bo : Bool} {im : XI} {Q : Option Value → XS → XI → Prop} {l1 : Int32} {l2 : Nat} {l3 : Int32} {l4 : Int32} {P : Int32 → XI → Prop}  (hs : SpI mX1_isFit d [.ref 31, .int l1, .int l3, .int l4, .ref l2] (SC bo) im P) (k : ∀ x2 im2, P x2 im2 → V mX1_findFits (d + 1) b 36 [some (.ref 31), some (.int l1), some (.ref l2), some (.int l3), some (.int l4)] [.int x2] (SC bo) im2 Q) : V mX1_findFits (d + 1) b 27 [some (.ref 31), some (.int l1), some (.ref l2), some (.int l3), some (.int l4)] [] (SC bo) im Q := by
  refine V.aload_n dX1_findFits_27 rfl rfl ?_
  refine V.iload_n dX1_findFits_28 rfl rfl ?_
  refine V.iload_n dX1_findFits_29 rfl rfl ?_
  refine V.iload dX1_findFits_30 rfl ?_
  refine V.aload_n dX1_findFits_32 rfl rfl ?_
  refine V.cVI rfl vX1_isFit lkX1_91 wX1_isFit (ci := 1) rfl (by rfl) (As := [.int l1, .int l3, .int l4, .ref l2]) rfl rfl rfl dX1_findFits_33 hs (fun x2 im2 h2 => ?_)
  exact k x2 im2 h2
theorem bX1_findFits_36 {d : Nat} {b : Nat × Nat} {bo : Bool} {im : XI} {Q : Option Value → XS → XI → Prop} {l1 : Int32} {l2 : Nat} {l3 : Int32} {l4 : Int32} {s0 : Int32}  (kt : s0 = 0 → V mX1_findFits d b 74 [some (.ref 31), some (.int l1), some (.ref l2), some (.int l3), some (.int l4)] [] (SC bo) im Q) (kf : ¬ s0 = 0 → V mX1_findFits d b 39 [some (.ref 31), some (.int l1), some (.ref l2), some (.int l3), some (.int l4)] [] (SC bo) im Q) : V mX1_findFits d b 36 [some (.ref 31), some (.int l1), some (.ref l2), some (.int l3), some (.int l4)] [.int s0] (SC bo) im Q := by
  refine V.if_eq (tgt := 74) dX1_findFits_36 (by decide) (fun h => ?_) (fun h => ?_)
  · exact kt h
  · exact kf h
theorem bX1_findFits_39 {d : Nat} {b : Nat × Nat} {bo : Bool} {im : XI} {Q : Option Value → XS → XI → Prop} {l1 : Int32} {l2 : Nat} {l3 : Int32} {l4 : Int32}  (kt : ¬ (im 31 4) = 0 → V mX1_findFits d b 57 [some (.ref 31), some (.int l1), some (.ref l2), some (.int l3), some (.int l4)] [.ref 31] (SC bo) im Q) (kf : (im 31 4) = 0 → V mX1_findFits d b 47 [some (.ref 31), some (.int l1), some (.ref l2), some (.int l3), some (.int l4)] [.ref 31] (SC bo) im Q) : V mX1_findFits d b 39 [some (.ref 31), some (.int l1), some (.ref l2), some (.int l3), some (.int l4)] [] (SC bo) im Q := by
  refine V.aload_n dX1_findFits_39 rfl rfl ?_
  refine V.aload_n dX1_findFits_40 rfl rfl ?_
  refine V.getI fX1_85 rfl (by rfl) dX1_findFits_41 ?_
  refine V.if_ne (tgt := 57) dX1_findFits_44 (by decide) (fun h => ?_) (fun h => ?_)
  · exact kt h
  · exact kf h
theorem bX1_findFits_47 {d : Nat} {b : Nat × Nat} {bo : Bool} {im : XI} {Q : Option Value → XS → XI → Prop} {l1 : Int32} {l2 : Nat} {l3 : Int32} {l4 : Int32} {s0 : Nat}  (k : V mX1_findFits d b 61 [some (.ref 31), some (.int l1), some (.ref l2), some (.int l3), some (.int l4)] [.int (((100 : Int32) * l3) + l4), .ref s0] (SC bo) im Q) : V mX1_findFits d b 47 [some (.ref 31), some (.int l1), some (.ref l2), some (.int l3), some (.int l4)] [.ref s0] (SC bo) im Q := by
  refine V.bipush (v := 100) dX1_findFits_47 (by decide) ?_
  refine V.iload_n dX1_findFits_49 rfl rfl ?_
  refine V.imul dX1_findFits_50 ?_
  refine V.iload dX1_findFits_51 rfl ?_
  refine V.iadd dX1_findFits_53 ?_
  refine V.goto (tgt := 61) dX1_findFits_54 (by decide) ?_
  exact k
theorem bX1_findFits_57 {d : Nat} {b : Nat × Nat} {bo : Bool} {im : XI} {Q : Option Value → XS → XI → Prop} {l1 : Int32} {l2 : Nat} {l3 : Int32} {l4 : Int32} {s0 : Nat}  (k : V mX1_findFits d b 61 [some (.ref 31), some (.int l1), some (.ref l2), some (.int l3), some (.int l4)] [.int (im 31 5), .ref s0] (SC bo) im Q) : V mX1_findFits d b 57 [some (.ref 31), some (.int l1), some (.ref l2), some (.int l3), some (.int l4)] [.ref s0] (SC bo) im Q := by
  refine V.aload_n dX1_findFits_57 rfl rfl ?_
  refine V.getI fX1_88 rfl (by rfl) dX1_findFits_58 ?_
  exact k
theorem bX1_findFits_61 {d : Nat} {b : Nat × Nat} {bo : Bool} {im : XI} {Q : Option Value → XS → XI → Prop} {l1 : Int32} {l2 : Nat} {l3 : Int32} {l4 : Int32} {s0 : Nat} {s1 : Int32} (g0 : (SC bo).1[s0]? = some (.inl 1)) (k : V mX1_findFits d b 74 [some (.ref 31), some (.int l1), some (.ref l2), some (.int l3), some (.int l4)] [] (SC bo) (xup (xup im s0 5 s1) 31 4 (((xup im s0 5 s1) 31 4) + (1 : Int32))) Q) : V mX1_findFits d b 61 [some (.ref 31), some (.int l1), some (.ref l2), some (.int l3), some (.int l4)] [.int s1, .ref s0] (SC bo) im Q := by
  refine V.putI fX1_88 (fun h => by cases h) rfl g0 dX1_findFits_61 ?_
  refine V.aload_n dX1_findFits_64 rfl rfl ?_
  refine V.dup dX1_findFits_65 rfl ?_
  refine V.getI fX1_85 rfl (by rfl) dX1_findFits_66 ?_
  refine V.iconst (v := 1) dX1_findFits_69 (by decide) ?_
  refine V.iadd dX1_findFits_70 ?_
  refine V.putI fX1_85 (fun h => by cases h) rfl (by rfl) dX1_findFits_71 ?_
  exact k
theorem bX1_findFits_74 {d : Nat} {b : Nat × Nat} {bo : Bool} {im : XI} {Q : Option Value → XS → XI → Prop} {l1 : Int32} {l2 : Nat} {l3 : Int32} {l4 : Int32}  (k : V mX1_findFits d b 21 [some (.ref 31), some (.int l1), some (.ref l2), some (.int l3), some (.int (l4 + (1 : Int32)))] [] (SC bo) im Q) : V mX1_findFits d b 74 [some (.ref 31), some (.int l1), some (.ref l2), some (.int l3), some (.int l4)] [] (SC bo) im Q := by
  refine V.iinc (v := (l4 + (1 : Int32))) dX1_findFits_74 rfl rfl rfl ?_
  refine V.goto (tgt := 21) dX1_findFits_77 (by decide) ?_
  exact k
theorem bX1_findFits_80 {d : Nat} {b : Nat × Nat} {bo : Bool} {im : XI} {Q : Option Value → XS → XI → Prop} {l1 : Int32} {l2 : Nat} {l3 : Int32} {l4 : Int32}  (k : V mX1_findFits d b 12 [some (.ref 31), some (.int l1), some (.ref l2), some (.int (l3 + (1 : Int32))), none] [] (SC bo) im Q) : V mX1_findFits d b 80 [some (.ref 31), some (.int l1), some (.ref l2), some (.int l3), some (.int l4)] [] (SC bo) im Q := by
  refine V.iinc (v := (l3 + (1 : Int32))) dX1_findFits_80 rfl rfl rfl ?_
  refine V.goto (tgt := 12) dX1_findFits_83 (by decide) ?_
  exact V.weakm [true, true, true, true, false] rfl (k)
theorem bX1_findFits_86 {d : Nat} {b : Nat × Nat} {bo : Bool} {im : XI} {Q : Option Value → XS → XI → Prop} {l1 : Int32} {l2 : Nat} {l3 : Int32}  (hq : Q none (SC bo) im) : V mX1_findFits d b 86 [some (.ref 31), some (.int l1), some (.ref l2), some (.int l3), none] [] (SC bo) im Q := by
  exact V.vret rfl dX1_findFits_86 hq
theorem bX1_isFit_0 {d : Nat} {b : Nat × Nat} {bo : Bool} {im : XI} {Q : Option Value → XS → XI → Prop} {l1 : Int32} {l2 : Int32} {l3 : Int32} {l4 : Nat}  (k : V mX1_isFit d b 3 [some (.ref 31), some (.int l1), some (.int l2), some (.int l3), some (.ref l4), some (.int (0 : Int32)), none] [] (SC bo) im Q) : V mX1_isFit d b 0 [some (.ref 31), some (.int l1), some (.int l2), some (.int l3), some (.ref l4), none, none] [] (SC bo) im Q := by
  refine V.iconst (v := 0) dX1_isFit_0 (by decide) ?_
  refine V.istore dX1_isFit_1 rfl rfl ?_
  exact k
theorem bX1_isFit_3 {d : Nat} {b : Nat × Nat} {bo : Bool} {im : XI} {Q : Option Value → XS → XI → Prop} {l1 : Int32} {l2 : Int32} {l3 : Int32} {l4 : Nat} {l5 : Int32} {P : Int32 → XI → Prop} (g0 : (SC bo).1[l4]? = some (.inl 6)) (hs : SpI mX6_size d [.ref l4] (SC bo) im P) (k : ∀ x2 im2, P x2 im2 → V mX1_isFit (d + 1) b 10 [some (.ref 31), some (.int l1), some (.int l2), some (.int l3), some (.ref l4), some (.int l5), none] [.int x2, .int l5] (SC bo) im2 Q) : V mX1_isFit (d + 1) b 3 [some (.ref 31), some (.int l1), some (.int l2), some (.int l3), some (.ref l4), some (.int l5), none] [] (SC bo) im Q := by
  refine V.iload dX1_isFit_3 rfl ?_
  refine V.aload dX1_isFit_5 rfl ?_
  refine V.cVI rfl vX6_size lkX1_95 wX6_size (ci := 6) rfl g0 (As := []) rfl rfl rfl dX1_isFit_7 hs (fun x2 im2 h2 => ?_)
  exact k x2 im2 h2
theorem bX1_isFit_10 {d : Nat} {b : Nat × Nat} {bo : Bool} {im : XI} {Q : Option Value → XS → XI → Prop} {l1 : Int32} {l2 : Int32} {l3 : Int32} {l4 : Nat} {l5 : Int32} {s0 : Int32} {s1 : Int32}  (kt : s1 ≤ s0 → V mX1_isFit d b 63 [some (.ref 31), some (.int l1), some (.int l2), some (.int l3), some (.ref l4), some (.int l5), none] [] (SC bo) im Q) (kf : ¬ s1 ≤ s0 → V mX1_isFit d b 13 [some (.ref 31), some (.int l1), some (.int l2), some (.int l3), some (.ref l4), some (.int l5), none] [] (SC bo) im Q) : V mX1_isFit d b 10 [some (.ref 31), some (.int l1), some (.int l2), some (.int l3), some (.ref l4), some (.int l5), none] [.int s1, .int s0] (SC bo) im Q := by
  refine V.icmp_ge (tgt := 63) dX1_isFit_10 (by decide) (fun h => ?_) (fun h => ?_)
  · exact kt h
  · exact kf h
theorem bX1_isFit_13 {d : Nat} {b : Nat × Nat} {bo : Bool} {im : XI} {Q : Option Value → XS → XI → Prop} {l1 : Int32} {l2 : Int32} {l3 : Int32} {l4 : Nat} {l5 : Int32} {P : Int32 → XI → Prop}  (hs : SpI mX2_isShutBy d [.ref 1, .int l1, .int ((im 1 8) + l5), .int l2, .int l3] (SC bo) im P) (k : ∀ x2 im2, P x2 im2 → V mX1_isFit (d + 1) b 33 [some (.ref 31), some (.int l1), some (.int l2), some (.int l3), some (.ref l4), some (.int l5), none] [.int x2] (SC bo) im2 Q) : V mX1_isFit (d + 1) b 13 [some (.ref 31), some (.int l1), some (.int l2), some (.int l3), some (.ref l4), some (.int l5), none] [] (SC bo) im Q := by
  refine V.aload_n dX1_isFit_13 rfl rfl ?_
  refine V.getR fX1_15 rfl (by rfl) (by rfl) dX1_isFit_14 ?_
  refine V.iload_n dX1_isFit_17 rfl rfl ?_
  refine V.aload_n dX1_isFit_18 rfl rfl ?_
  refine V.getR fX1_15 rfl (by rfl) (by rfl) dX1_isFit_19 ?_
  refine V.getI fX1_25 rfl (by rfl) dX1_isFit_22 ?_
  refine V.iload dX1_isFit_25 rfl ?_
  refine V.iadd dX1_isFit_27 ?_
  refine V.iload_n dX1_isFit_28 rfl rfl ?_
  refine V.iload_n dX1_isFit_29 rfl rfl ?_
  refine V.cVI rfl vX2_isShutBy lkX1_81 wX2_isShutBy (ci := 2) rfl (by rfl) (As := [.int l1, .int ((im 1 8) + l5), .int l2, .int l3]) rfl rfl rfl dX1_isFit_30 hs (fun x2 im2 h2 => ?_)
  exact k x2 im2 h2
theorem bX1_isFit_33 {d : Nat} {b : Nat × Nat} {bo : Bool} {im : XI} {Q : Option Value → XS → XI → Prop} {l1 : Int32} {l2 : Int32} {l3 : Int32} {l4 : Nat} {l5 : Int32} {s0 : Int32}  (kt : s0 = 0 → V mX1_isFit d b 40 [some (.ref 31), some (.int l1), some (.int l2), some (.int l3), some (.ref l4), some (.int l5), none] [] (SC bo) im Q) (kf : ¬ s0 = 0 → V mX1_isFit d b 36 [some (.ref 31), some (.int l1), some (.int l2), some (.int l3), some (.ref l4), some (.int l5), none] [] (SC bo) im Q) : V mX1_isFit d b 33 [some (.ref 31), some (.int l1), some (.int l2), some (.int l3), some (.ref l4), some (.int l5), none] [.int s0] (SC bo) im Q := by
  refine V.if_eq (tgt := 40) dX1_isFit_33 (by decide) (fun h => ?_) (fun h => ?_)
  · exact kt h
  · exact kf h
theorem bX1_isFit_36 {d : Nat} {b : Nat × Nat} {bo : Bool} {im : XI} {Q : Option Value → XS → XI → Prop} {l1 : Int32} {l2 : Int32} {l3 : Int32} {l4 : Nat} {l5 : Int32}  (k : V mX1_isFit d b 41 [some (.ref 31), some (.int l1), some (.int l2), some (.int l3), some (.ref l4), some (.int l5), none] [.int (1 : Int32)] (SC bo) im Q) : V mX1_isFit d b 36 [some (.ref 31), some (.int l1), some (.int l2), some (.int l3), some (.ref l4), some (.int l5), none] [] (SC bo) im Q := by
  refine V.iconst (v := 1) dX1_isFit_36 (by decide) ?_
  refine V.goto (tgt := 41) dX1_isFit_37 (by decide) ?_
  exact k
theorem bX1_isFit_40 {d : Nat} {b : Nat × Nat} {bo : Bool} {im : XI} {Q : Option Value → XS → XI → Prop} {l1 : Int32} {l2 : Int32} {l3 : Int32} {l4 : Nat} {l5 : Int32}  (k : V mX1_isFit d b 41 [some (.ref 31), some (.int l1), some (.int l2), some (.int l3), some (.ref l4), some (.int l5), none] [.int (0 : Int32)] (SC bo) im Q) : V mX1_isFit d b 40 [some (.ref 31), some (.int l1), some (.int l2), some (.int l3), some (.ref l4), some (.int l5), none] [] (SC bo) im Q := by
  refine V.iconst (v := 0) dX1_isFit_40 (by decide) ?_
  exact k
theorem bX1_isFit_41 {d : Nat} {b : Nat × Nat} {bo : Bool} {im : XI} {Q : Option Value → XS → XI → Prop} {l1 : Int32} {l2 : Int32} {l3 : Int32} {l4 : Nat} {l5 : Int32} {s0 : Int32} {P : Int32 → XI → Prop} (g0 : (SC bo).1[l4]? = some (.inl 6)) (hs : SpI mX6_at d [.ref l4, .int l5] (SC bo) im P) (k : ∀ x2 im2, P x2 im2 → V mX1_isFit (d + 1) b 50 [some (.ref 31), some (.int l1), some (.int l2), some (.int l3), some (.ref l4), some (.int l5), some (.int s0)] [.int x2] (SC bo) im2 Q) : V mX1_isFit (d + 1) b 41 [some (.ref 31), some (.int l1), some (.int l2), some (.int l3), some (.ref l4), some (.int l5), none] [.int s0] (SC bo) im Q := by
  refine V.istore dX1_isFit_41 rfl rfl ?_
  refine V.aload dX1_isFit_43 rfl ?_
  refine V.iload dX1_isFit_45 rfl ?_
  refine V.cVI rfl vX6_at lkX1_101 wX6_at (ci := 6) rfl g0 (As := [.int l5]) rfl rfl rfl dX1_isFit_47 hs (fun x2 im2 h2 => ?_)
  exact k x2 im2 h2
theorem bX1_isFit_50 {d : Nat} {b : Nat × Nat} {bo : Bool} {im : XI} {Q : Option Value → XS → XI → Prop} {l1 : Int32} {l2 : Int32} {l3 : Int32} {l4 : Nat} {l5 : Int32} {l6 : Int32} {s0 : Int32}  (kt : s0 = l6 → V mX1_isFit d b 57 [some (.ref 31), some (.int l1), some (.int l2), some (.int l3), some (.ref l4), some (.int l5), some (.int l6)] [] (SC bo) im Q) (kf : ¬ s0 = l6 → V mX1_isFit d b 55 [some (.ref 31), some (.int l1), some (.int l2), some (.int l3), some (.ref l4), some (.int l5), some (.int l6)] [] (SC bo) im Q) : V mX1_isFit d b 50 [some (.ref 31), some (.int l1), some (.int l2), some (.int l3), some (.ref l4), some (.int l5), some (.int l6)] [.int s0] (SC bo) im Q := by
  refine V.iload dX1_isFit_50 rfl ?_
  refine V.icmp_eq (tgt := 57) dX1_isFit_52 (by decide) (fun h => ?_) (fun h => ?_)
  · exact kt h
  · exact kf h
theorem bX1_isFit_55 {d : Nat} {b : Nat × Nat} {bo : Bool} {im : XI} {Q : Option Value → XS → XI → Prop} {l1 : Int32} {l2 : Int32} {l3 : Int32} {l4 : Nat} {l5 : Int32} {l6 : Int32}  (hq : Q (some (.int (0 : Int32))) (SC bo) im) : V mX1_isFit d b 55 [some (.ref 31), some (.int l1), some (.int l2), some (.int l3), some (.ref l4), some (.int l5), some (.int l6)] [] (SC bo) im Q := by
  refine V.iconst (v := 0) dX1_isFit_55 (by decide) ?_
  exact V.zret rfl (by decide) dX1_isFit_56 hq
theorem bX1_isFit_57 {d : Nat} {b : Nat × Nat} {bo : Bool} {im : XI} {Q : Option Value → XS → XI → Prop} {l1 : Int32} {l2 : Int32} {l3 : Int32} {l4 : Nat} {l5 : Int32} {l6 : Int32}  (k : V mX1_isFit d b 3 [some (.ref 31), some (.int l1), some (.int l2), some (.int l3), some (.ref l4), some (.int (l5 + (1 : Int32))), none] [] (SC bo) im Q) : V mX1_isFit d b 57 [some (.ref 31), some (.int l1), some (.int l2), some (.int l3), some (.ref l4), some (.int l5), some (.int l6)] [] (SC bo) im Q := by
  refine V.iinc (v := (l5 + (1 : Int32))) dX1_isFit_57 rfl rfl rfl ?_
  refine V.goto (tgt := 3) dX1_isFit_60 (by decide) ?_
  exact V.weakm [true, true, true, true, true, true, false] rfl (k)
theorem bX1_isFit_63 {d : Nat} {b : Nat × Nat} {bo : Bool} {im : XI} {Q : Option Value → XS → XI → Prop} {l1 : Int32} {l2 : Int32} {l3 : Int32} {l4 : Nat} {l5 : Int32}  (hq : Q (some (.int (1 : Int32))) (SC bo) im) : V mX1_isFit d b 63 [some (.ref 31), some (.int l1), some (.int l2), some (.int l3), some (.ref l4), some (.int l5), none] [] (SC bo) im Q := by
  refine V.iconst (v := 1) dX1_isFit_63 (by decide) ?_
  exact V.zret rfl (by decide) dX1_isFit_64 hq
